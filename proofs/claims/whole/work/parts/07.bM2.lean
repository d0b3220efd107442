set_option maxRecDepth 100000 in
set_option maxHeartbeats 4000000 in
theorem bM_mixed {l : Launch} {G : xG} {m : XM} {Q : XR → XM → Prop} {x0 : Int64} (hst : l.stackTraces = false)
    (h : Q (.inl (some (vL (((((x0 ^^^ (jushr x0 (30 : Int32))) * (-4658895280553007687 : Int64)) ^^^ (jushr ((x0 ^^^ (jushr x0 (30 : Int32))) * (-4658895280553007687 : Int64)) (27 : Int32))) * (-7723592293110705685 : Int64)) ^^^ (jushr ((((x0 ^^^ (jushr x0 (30 : Int32))) * (-4658895280553007687 : Int64)) ^^^ (jushr ((x0 ^^^ (jushr x0 (30 : Int32))) * (-4658895280553007687 : Int64)) (27 : Int32))) * (-7723592293110705685 : Int64)) (31 : Int32)))))) m) :
    CC l G xM_mixed [vL x0] m Q := by
  refine x_entry (by decide +kernel) rfl hst (Nat.le_of_ble_eq_true rfl) (L0 := [some (vL x0), none, none, none]) rfl ?_
  refine x_lload_n dM_mixed_0 rfl (n := 1) rfl ?_
  refine x_lload_n dM_mixed_1 rfl (n := 2) rfl ?_
  refine x_bipush (v := 30) dM_mixed_2 (by decide) (n := 4) rfl ?_
  refine x_lushr dM_mixed_4 (n := 5) rfl ?_
  refine x_lxor dM_mixed_5 (n := 6) rfl ?_
  refine x_lstore_n dM_mixed_6 (by decide) (L' := [some (vL x0), none, some (vL (x0 ^^^ (jushr x0 (30 : Int32)))), none]) rfl (n := 7) rfl ?_
  refine x_lload_n dM_mixed_7 rfl (n := 8) rfl ?_
  refine x_ldc2 (v := -4658895280553007687) dM_mixed_8 w_671 (n := 11) rfl ?_
  refine x_lmul dM_mixed_11 (n := 12) rfl ?_
  refine x_lstore_n dM_mixed_12 (by decide) (L' := [some (vL x0), none, some (vL ((x0 ^^^ (jushr x0 (30 : Int32))) * (-4658895280553007687 : Int64))), none]) rfl (n := 13) rfl ?_
  refine x_lload_n dM_mixed_13 rfl (n := 14) rfl ?_
  refine x_lload_n dM_mixed_14 rfl (n := 15) rfl ?_
  refine x_bipush (v := 27) dM_mixed_15 (by decide) (n := 17) rfl ?_
  refine x_lushr dM_mixed_17 (n := 18) rfl ?_
  refine x_lxor dM_mixed_18 (n := 19) rfl ?_
  refine x_lstore_n dM_mixed_19 (by decide) (L' := [some (vL x0), none, some (vL (((x0 ^^^ (jushr x0 (30 : Int32))) * (-4658895280553007687 : Int64)) ^^^ (jushr ((x0 ^^^ (jushr x0 (30 : Int32))) * (-4658895280553007687 : Int64)) (27 : Int32)))), none]) rfl (n := 20) rfl ?_
  refine x_lload_n dM_mixed_20 rfl (n := 21) rfl ?_
  refine x_ldc2 (v := -7723592293110705685) dM_mixed_21 w_672 (n := 24) rfl ?_
  refine x_lmul dM_mixed_24 (n := 25) rfl ?_
  refine x_lstore_n dM_mixed_25 (by decide) (L' := [some (vL x0), none, some (vL ((((x0 ^^^ (jushr x0 (30 : Int32))) * (-4658895280553007687 : Int64)) ^^^ (jushr ((x0 ^^^ (jushr x0 (30 : Int32))) * (-4658895280553007687 : Int64)) (27 : Int32))) * (-7723592293110705685 : Int64))), none]) rfl (n := 26) rfl ?_
  refine x_lload_n dM_mixed_26 rfl (n := 27) rfl ?_
  refine x_lload_n dM_mixed_27 rfl (n := 28) rfl ?_
  refine x_bipush (v := 31) dM_mixed_28 (by decide) (n := 30) rfl ?_
  refine x_lushr dM_mixed_30 (n := 31) rfl ?_
  refine x_lxor dM_mixed_31 (n := 32) rfl ?_
  exact x_lret dM_mixed_32 rfl h
set_option maxRecDepth 100000 in
set_option maxHeartbeats 4000000 in
theorem bM_gatherAll_8 {l : Launch} {G : xG} {m : XM} {bc bs : Nat} {Q : XR → XM → Prop} {a0 : Nat} {x1 : Int32} {x2 : Int32}
    (h : (((97 : Int32) ≤ x2 → Q (.inl none) m) ∧ (¬ (97 : Int32) ≤ x2 → WW l G xM_gatherAll 16 [some (vR (some a0)), some (vI x1), some (vI x2), some (vI (0 : Int32)), none, none] [] m bc bs Q))) :
    WW l G xM_gatherAll 8 [some (vR (some a0)), some (vI x1), some (vI x2), none, none, none] [] m bc bs Q := by
  refine x_iload_n dM_gatherAll_8 rfl (n := 9) rfl ?_
  refine x_bipush (v := 97) dM_gatherAll_9 (by decide) (n := 11) rfl ?_
  obtain ⟨h, h'⟩ := h
  refine x_icmp_ge (tgt := 151) dM_gatherAll_11 rfl (n := 14) rfl (fun c1 => ?_) (fun c1 => ?_)
  · replace h := h c1
    exact x_vret dM_gatherAll_151 rfl h
  · replace h := h' c1
    refine x_iconst (v := 0) dM_gatherAll_14 (by decide) (n := 15) rfl ?_
    refine x_istore_n dM_gatherAll_15 (by decide) (L' := [some (vR (some a0)), some (vI x1), some (vI x2), some (vI (0 : Int32)), none, none]) rfl (n := 16) rfl ?_
    exact h
set_option maxRecDepth 100000 in
set_option maxHeartbeats 4000000 in
theorem bM_gatherAll_16 {l : Launch} {G : xG} {m : XM} {bc bs : Nat} {Q : XR → XM → Prop} {a0 : Nat} {x1 : Int32} {x2 : Int32} {x3 : Int32}
    (h : kd m a0 = some (oB 5) ∧ ∃ a2, gR m a0 14 = some a2 ∧ ∃ n5, kd m a2 = some (aR 0 n5) ∧ vp_in x2 n5 ∧ (((gI m a2 x2.toNatClampNeg) ≤ x3 → WW l G xM_gatherAll 8 [some (vR (some a0)), some (vI x1), some (vI (x2 + 1)), none, none, none] [] m bc bs Q) ∧ (¬ (gI m a2 x2.toNatClampNeg) ≤ x3 → ∃ a7, gR m a0 15 = some a7 ∧ ∃ n10, kd m a7 = some (aR 0 n10) ∧ vp_in (((8 : Int32) * x2) + x3) n10 ∧ ∃ a12, gR m a0 9 = some a12 ∧ ∃ n15, kd m a12 = some (aR 1 n15) ∧ vp_in (gI m a7 (((8 : Int32) * x2) + x3).toNatClampNeg) n15 ∧ (((gI m a12 (gI m a7 (((8 : Int32) * x2) + x3).toNatClampNeg).toNatClampNeg) = 0 → WW l G xM_gatherAll 16 [some (vR (some a0)), some (vI x1), some (vI x2), some (vI (x3 + 1)), none, none] [] m bc bs Q) ∧ (¬ (gI m a12 (gI m a7 (((8 : Int32) * x2) + x3).toNatClampNeg).toNatClampNeg) = 0 → ∃ a17, gR m a0 6 = some a17 ∧ ∃ n20, kd m a17 = some (aR 2 n20) ∧ vp_in (gI m a7 (((8 : Int32) * x2) + x3).toNatClampNeg) n20 ∧ CC l G xM_setOfKey [vL (gL m a17 (gI m a7 (((8 : Int32) * x2) + x3).toNatClampNeg).toNatClampNeg)] m (kI (fun v23 m22 => ((¬ v23 = x1 → WW l G xM_gatherAll 16 [some (vR (some a0)), some (vI x1), some (vI x2), some (vI (x3 + 1)), none, none] [] m22 bc bs Q) ∧ (v23 = x1 → kd m22 a0 = some (oB 5) ∧ WW l G xM_gatherAll 69 [some (vR (some a0)), some (vI x1), some (vI x2), some (vI x3), some (vI (gI m a7 (((8 : Int32) * x2) + x3).toNatClampNeg)), some (vI (gI m22 a0 18))] [] m22 bc bs Q))) Q)))))) :
    WW l G xM_gatherAll 16 [some (vR (some a0)), some (vI x1), some (vI x2), some (vI x3), none, none] [] m bc bs Q := by
  refine x_iload_n dM_gatherAll_16 rfl (n := 17) rfl ?_
  refine x_aload_n dM_gatherAll_17 rfl (n := 18) rfl ?_
  obtain ⟨k1, h⟩ := h
  refine x_getR rfl dM_gatherAll_18 fM_44 k1 (n := 21) rfl ?_
  refine x_iload_n dM_gatherAll_21 rfl (n := 22) rfl ?_
  obtain ⟨a2, e3, h⟩ := h
  obtain ⟨n5, k4, h⟩ := h
  obtain ⟨c6, h⟩ := h
  refine x_iald e3 dM_gatherAll_22 k4 c6 (n := 23) rfl ?_
  obtain ⟨h, h'⟩ := h
  refine x_icmp_ge (tgt := 145) dM_gatherAll_23 rfl (n := 26) rfl (fun c27 => ?_) (fun c27 => ?_)
  · replace h := h c27
    refine x_iinc (v := x2 + 1) dM_gatherAll_145 rfl rfl (by decide) (L' := [some (vR (some a0)), some (vI x1), some (vI (x2 + 1)), some (vI x3), none, none]) rfl (n := 148) rfl ?_
    refine x_goto (tgt := 8) dM_gatherAll_148 rfl ?_
    exact x_weak (b := [true, true, true, false, false, false]) rfl h
  · replace h := h' c27
    refine x_aload_n dM_gatherAll_26 rfl (n := 27) rfl ?_
    refine x_getR rfl dM_gatherAll_27 fM_47 k1 (n := 30) rfl ?_
    refine x_bipush (v := 8) dM_gatherAll_30 (by decide) (n := 32) rfl ?_
    refine x_iload_n dM_gatherAll_32 rfl (n := 33) rfl ?_
    refine x_imul dM_gatherAll_33 (n := 34) rfl ?_
    refine x_iload_n dM_gatherAll_34 rfl (n := 35) rfl ?_
    refine x_iadd dM_gatherAll_35 (n := 36) rfl ?_
    obtain ⟨a7, e8, h⟩ := h
    obtain ⟨n10, k9, h⟩ := h
    obtain ⟨c11, h⟩ := h
    refine x_iald e8 dM_gatherAll_36 k9 c11 (n := 37) rfl ?_
    refine x_istore dM_gatherAll_37 (by decide) (L' := [some (vR (some a0)), some (vI x1), some (vI x2), some (vI x3), some (vI (gI m a7 (((8 : Int32) * x2) + x3).toNatClampNeg)), none]) rfl (n := 39) rfl ?_
    refine x_aload_n dM_gatherAll_39 rfl (n := 40) rfl ?_
    refine x_getR rfl dM_gatherAll_40 fM_31 k1 (n := 43) rfl ?_
    refine x_iload dM_gatherAll_43 rfl (n := 45) rfl ?_
    obtain ⟨a12, e13, h⟩ := h
    obtain ⟨n15, k14, h⟩ := h
    obtain ⟨c16, h⟩ := h
    refine x_zald e13 dM_gatherAll_45 k14 c16 (n := 46) rfl ?_
    obtain ⟨h, h'⟩ := h
    refine x_if_eq (tgt := 139) dM_gatherAll_46 rfl (n := 49) rfl (fun c26 => ?_) (fun c26 => ?_)
    · replace h := h c26
      refine x_iinc (v := x3 + 1) dM_gatherAll_139 rfl rfl (by decide) (L' := [some (vR (some a0)), some (vI x1), some (vI x2), some (vI (x3 + 1)), some (vI (gI m a7 (((8 : Int32) * x2) + x3).toNatClampNeg)), none]) rfl (n := 142) rfl ?_
      refine x_goto (tgt := 16) dM_gatherAll_142 rfl ?_
      exact x_weak (b := [true, true, true, true, false, false]) rfl h
    · replace h := h' c26
      refine x_aload_n dM_gatherAll_49 rfl (n := 50) rfl ?_
      refine x_getR rfl dM_gatherAll_50 fM_20 k1 (n := 53) rfl ?_
      refine x_iload dM_gatherAll_53 rfl (n := 55) rfl ?_
      obtain ⟨a17, e18, h⟩ := h
      obtain ⟨n20, k19, h⟩ := h
      obtain ⟨c21, h⟩ := h
      refine x_lald e18 dM_gatherAll_55 k19 c21 (n := 56) rfl ?_
      refine x_invS (m := m) dM_gatherAll_56 gM_gatherAll_56 (as := [vL (gL m a17 (gI m a7 (((8 : Int32) * x2) + x3).toNatClampNeg).toNatClampNeg)]) (st := []) rfl rfl (Nat.le_of_ble_eq_true rfl) (n := 59) rfl rfl rfl h (xBk.I fun v23 m22 h => ?_)
      refine x_iload_n dM_gatherAll_59 rfl (n := 60) rfl ?_
      obtain ⟨h, h'⟩ := h
      refine x_icmp_ne (tgt := 139) dM_gatherAll_60 rfl (n := 63) rfl (fun c25 => ?_) (fun c25 => ?_)
      · replace h := h c25
        refine x_iinc (v := x3 + 1) dM_gatherAll_139 rfl rfl (by decide) (L' := [some (vR (some a0)), some (vI x1), some (vI x2), some (vI (x3 + 1)), some (vI (gI m a7 (((8 : Int32) * x2) + x3).toNatClampNeg)), none]) rfl (n := 142) rfl ?_
        refine x_goto (tgt := 16) dM_gatherAll_142 rfl ?_
        exact x_weak (b := [true, true, true, true, false, false]) rfl h
      · replace h := h' c25
        refine x_aload_n dM_gatherAll_63 rfl (n := 64) rfl ?_
        obtain ⟨k24, h⟩ := h
        refine x_getI rfl dM_gatherAll_64 fM_83 k24 (n := 67) rfl ?_
        refine x_istore dM_gatherAll_67 (by decide) (L' := [some (vR (some a0)), some (vI x1), some (vI x2), some (vI x3), some (vI (gI m a7 (((8 : Int32) * x2) + x3).toNatClampNeg)), some (vI (gI m22 a0 18))]) rfl (n := 69) rfl ?_
        exact h
set_option maxRecDepth 100000 in
set_option maxHeartbeats 4000000 in
theorem bM_gatherAll_69 {l : Launch} {G : xG} {m : XM} {bc bs : Nat} {Q : XR → XM → Prop} {a0 : Nat} {x1 : Int32} {x2 : Int32} {x3 : Int32} {x4 : Int32} {x5 : Int32}
    (h : ((x5 ≤ 0 → WW l G xM_gatherAll 120 [some (vR (some a0)), some (vI x1), some (vI x2), some (vI x3), some (vI x4), some (vI x5)] [] m bc bs Q) ∧ (¬ x5 ≤ 0 → kd m a0 = some (oB 5) ∧ ∃ a2, gR m a0 19 = some a2 ∧ ∃ n5, kd m a2 = some (aR 0 n5) ∧ vp_in (x5 - (1 : Int32)) n5 ∧ ∃ a7, gR m a0 11 = some a7 ∧ ∃ n10, kd m a7 = some (aR 0 n10) ∧ vp_in (gI m a2 (x5 - (1 : Int32)).toNatClampNeg) n10 ∧ vp_in x4 n10 ∧ (((gI m a7 (gI m a2 (x5 - (1 : Int32)).toNatClampNeg).toNatClampNeg) ≤ (gI m a7 x4.toNatClampNeg) → WW l G xM_gatherAll 120 [some (vR (some a0)), some (vI x1), some (vI x2), some (vI x3), some (vI x4), some (vI x5)] [] m bc bs Q) ∧ (¬ (gI m a7 (gI m a2 (x5 - (1 : Int32)).toNatClampNeg).toNatClampNeg) ≤ (gI m a7 x4.toNatClampNeg) → vp_in (x5 - (1 : Int32)) n5 ∧ vp_in x5 n5 ∧ ∀ m15, m15 = mI m a2 x5.toNatClampNeg (gI m a2 (x5 - (1 : Int32)).toNatClampNeg) → WW l G xM_gatherAll 69 [some (vR (some a0)), some (vI x1), some (vI x2), some (vI x3), some (vI x4), some (vI (x5 + (-1)))] [] m15 bc bs Q))))) :
    WW l G xM_gatherAll 69 [some (vR (some a0)), some (vI x1), some (vI x2), some (vI x3), some (vI x4), some (vI x5)] [] m bc bs Q := by
  refine x_iload dM_gatherAll_69 rfl (n := 71) rfl ?_
  obtain ⟨h, h'⟩ := h
  refine x_if_le (tgt := 120) dM_gatherAll_71 rfl (n := 74) rfl (fun c17 => ?_) (fun c17 => ?_)
  · replace h := h c17
    exact h
  · replace h := h' c17
    refine x_aload_n dM_gatherAll_74 rfl (n := 75) rfl ?_
    obtain ⟨k1, h⟩ := h
    refine x_getR rfl dM_gatherAll_75 fM_38 k1 (n := 78) rfl ?_
    refine x_aload_n dM_gatherAll_78 rfl (n := 79) rfl ?_
    refine x_getR rfl dM_gatherAll_79 fM_53 k1 (n := 82) rfl ?_
    refine x_iload dM_gatherAll_82 rfl (n := 84) rfl ?_
    refine x_iconst (v := 1) dM_gatherAll_84 (by decide) (n := 85) rfl ?_
    refine x_isub dM_gatherAll_85 (n := 86) rfl ?_
    obtain ⟨a2, e3, h⟩ := h
    obtain ⟨n5, k4, h⟩ := h
    obtain ⟨c6, h⟩ := h
    refine x_iald e3 dM_gatherAll_86 k4 c6 (n := 87) rfl ?_
    obtain ⟨a7, e8, h⟩ := h
    obtain ⟨n10, k9, h⟩ := h
    obtain ⟨c11, h⟩ := h
    refine x_iald e8 dM_gatherAll_87 k9 c11 (n := 88) rfl ?_
    refine x_aload_n dM_gatherAll_88 rfl (n := 89) rfl ?_
    refine x_getR rfl dM_gatherAll_89 fM_38 k1 (n := 92) rfl ?_
    refine x_iload dM_gatherAll_92 rfl (n := 94) rfl ?_
    obtain ⟨c12, h⟩ := h
    refine x_iald e8 dM_gatherAll_94 k9 c12 (n := 95) rfl ?_
    obtain ⟨h, h'⟩ := h
    refine x_icmp_le (tgt := 120) dM_gatherAll_95 rfl (n := 98) rfl (fun c16 => ?_) (fun c16 => ?_)
    · replace h := h c16
      exact h
    · replace h := h' c16
      refine x_aload_n dM_gatherAll_98 rfl (n := 99) rfl ?_
      refine x_getR rfl dM_gatherAll_99 fM_53 k1 (n := 102) rfl ?_
      refine x_iload dM_gatherAll_102 rfl (n := 104) rfl ?_
      refine x_aload_n dM_gatherAll_104 rfl (n := 105) rfl ?_
      refine x_getR rfl dM_gatherAll_105 fM_53 k1 (n := 108) rfl ?_
      refine x_iload dM_gatherAll_108 rfl (n := 110) rfl ?_
      refine x_iconst (v := 1) dM_gatherAll_110 (by decide) (n := 111) rfl ?_
      refine x_isub dM_gatherAll_111 (n := 112) rfl ?_
      obtain ⟨c13, h⟩ := h
      refine x_iald e3 dM_gatherAll_112 k4 c13 (n := 113) rfl ?_
      obtain ⟨c14, h⟩ := h
      replace h := h _ rfl
      refine x_iast e3 dM_gatherAll_113 k4 c14 (n := 114) rfl ?_
      refine x_iinc (v := x5 + (-1)) dM_gatherAll_114 rfl rfl (by decide) (L' := [some (vR (some a0)), some (vI x1), some (vI x2), some (vI x3), some (vI x4), some (vI (x5 + (-1)))]) rfl (n := 117) rfl ?_
      refine x_goto (tgt := 69) dM_gatherAll_117 rfl ?_
      exact h
set_option maxRecDepth 100000 in
set_option maxHeartbeats 4000000 in
theorem bM_gatherAll_120 {l : Launch} {G : xG} {m : XM} {bc bs : Nat} {Q : XR → XM → Prop} {a0 : Nat} {x1 : Int32} {x2 : Int32} {x3 : Int32} {x4 : Int32} {x5 : Int32}
    (h : kd m a0 = some (oB 5) ∧ ∃ a2, gR m a0 19 = some a2 ∧ ∃ n5, kd m a2 = some (aR 0 n5) ∧ vp_in x5 n5 ∧ ∀ m7, m7 = mI m a2 x5.toNatClampNeg x4 → ∀ m8, m8 = mI m7 a0 18 ((gI m7 a0 18) + (1 : Int32)) → WW l G xM_gatherAll 16 [some (vR (some a0)), some (vI x1), some (vI x2), some (vI (x3 + 1)), none, none] [] m8 bc bs Q) :
    WW l G xM_gatherAll 120 [some (vR (some a0)), some (vI x1), some (vI x2), some (vI x3), some (vI x4), some (vI x5)] [] m bc bs Q := by
  refine x_aload_n dM_gatherAll_120 rfl (n := 121) rfl ?_
  obtain ⟨k1, h⟩ := h
  refine x_getR rfl dM_gatherAll_121 fM_53 k1 (n := 124) rfl ?_
  refine x_iload dM_gatherAll_124 rfl (n := 126) rfl ?_
  refine x_iload dM_gatherAll_126 rfl (n := 128) rfl ?_
  obtain ⟨a2, e3, h⟩ := h
  obtain ⟨n5, k4, h⟩ := h
  obtain ⟨c6, h⟩ := h
  replace h := h _ rfl
  refine x_iast e3 dM_gatherAll_128 k4 c6 (n := 129) rfl ?_
  refine x_aload_n dM_gatherAll_129 rfl (n := 130) rfl ?_
  refine x_dup dM_gatherAll_130 rfl (n := 131) rfl ?_
  refine x_getI rfl dM_gatherAll_131 fM_83 k1 (n := 134) rfl ?_
  refine x_iconst (v := 1) dM_gatherAll_134 (by decide) (n := 135) rfl ?_
  refine x_iadd dM_gatherAll_135 (n := 136) rfl ?_
  replace h := h _ rfl
  refine x_putI rfl dM_gatherAll_136 pM_83 k1 rfl rfl (n := 139) rfl ?_
  refine x_iinc (v := x3 + 1) dM_gatherAll_139 rfl rfl (by decide) (L' := [some (vR (some a0)), some (vI x1), some (vI x2), some (vI (x3 + 1)), some (vI x4), some (vI x5)]) rfl (n := 142) rfl ?_
  refine x_goto (tgt := 16) dM_gatherAll_142 rfl ?_
  exact x_weak (b := [true, true, true, true, false, false]) rfl h
set_option maxRecDepth 100000 in
set_option maxHeartbeats 4000000 in
theorem bM_gatherAll {l : Launch} {G : xG} {m : XM} {Q : XR → XM → Prop} {a0 : Nat} {x1 : Int32} (hst : l.stackTraces = false)
    (h : kd m a0 = some (oB 5) ∧ ∀ m2, m2 = mI m a0 18 (0 : Int32) → WW l G xM_gatherAll 8 [some (vR (some a0)), some (vI x1), some (vI (64 : Int32)), none, none, none] [] m2 0 0 Q) :
    CC l G xM_gatherAll [vR (some a0), vI x1] m Q := by
  refine x_entry (by decide +kernel) rfl hst (Nat.le_of_ble_eq_true rfl) (L0 := [some (vR (some a0)), some (vI x1), none, none, none, none]) rfl ?_
  refine x_aload_n dM_gatherAll_0 rfl (n := 1) rfl ?_
  refine x_iconst (v := 0) dM_gatherAll_1 (by decide) (n := 2) rfl ?_
  obtain ⟨k1, h⟩ := h
  replace h := h _ rfl
  refine x_putI rfl dM_gatherAll_2 pM_83 k1 rfl rfl (n := 5) rfl ?_
  refine x_bipush (v := 64) dM_gatherAll_5 (by decide) (n := 7) rfl ?_
  refine x_istore_n dM_gatherAll_7 (by decide) (L' := [some (vR (some a0)), some (vI x1), some (vI (64 : Int32)), none, none, none]) rfl (n := 8) rfl ?_
  exact h
set_option maxRecDepth 100000 in
set_option maxHeartbeats 4000000 in
theorem bM_moveAll_26 {l : Launch} {G : xG} {m : XM} {bc bs : Nat} {Q : XR → XM → Prop} {a0 : Nat} {x1 : Int32} {x2 : Int32}
    (h : kd m a0 = some (oB 5) ∧ (((gI m a0 18) ≤ x2 → CC l G xM_dropFirst [vR (some a0), vI x1, vI (0 : Int32), vI (5 : Int32)] m (kV (fun m2 => kd m2 a0 = some (oB 5) ∧ CC l G xM_dropFirst [vR (some a0), vI x1, vI (1 : Int32), vI (6 : Int32)] m2 (kV (fun m4 => WW l G xM_moveAll 93 [some (vR (some a0)), some (vI x1), some (vI x2), none] [] m4 bc bs Q) Q)) Q)) ∧ (¬ (gI m a0 18) ≤ x2 → ∃ a5, gR m a0 19 = some a5 ∧ ∃ n8, kd m a5 = some (aR 0 n8) ∧ vp_in x2 n8 ∧ ∃ a10, gR m a0 9 = some a10 ∧ ∃ n13, kd m a10 = some (aR 1 n13) ∧ vp_in (gI m a5 x2.toNatClampNeg) n13 ∧ ∀ m15, m15 = mI m a10 (gI m a5 x2.toNatClampNeg).toNatClampNeg (0 : Int32) → vp_in x2 n8 ∧ ∃ a17, gR m a0 6 = some a17 ∧ ∃ n20, kd m a17 = some (aR 2 n20) ∧ vp_in (gI m15 a5 x2.toNatClampNeg) n20 ∧ CC l G xM_inSet [vR (some a0), vL (gL m a17 (gI m15 a5 x2.toNatClampNeg).toNatClampNeg)] m15 (kI (fun v23 m22 => ((v23 < 0 → WW l G xM_moveAll 26 [some (vR (some a0)), some (vI x1), some (vI (x2 + 1)), none] [] m22 bc bs Q) ∧ (¬ v23 < 0 → kd m22 a0 = some (oB 5) ∧ CC l G xM_takeOut [vR (some a0), vI x1, vI v23] m22 (kV (fun m25 => WW l G xM_moveAll 26 [some (vR (some a0)), some (vI x1), some (vI (x2 + 1)), none] [] m25 bc bs Q) Q)))) Q)))) :
    WW l G xM_moveAll 26 [some (vR (some a0)), some (vI x1), some (vI x2), none] [] m bc bs Q := by
  refine x_iload_n dM_moveAll_26 rfl (n := 27) rfl ?_
  refine x_aload_n dM_moveAll_27 rfl (n := 28) rfl ?_
  obtain ⟨k1, h⟩ := h
  refine x_getI rfl dM_moveAll_28 fM_83 k1 (n := 31) rfl ?_
  obtain ⟨h, h'⟩ := h
  refine x_icmp_ge (tgt := 78) dM_moveAll_31 rfl (n := 34) rfl (fun c27 => ?_) (fun c27 => ?_)
  · replace h := h c27
    refine x_aload_n dM_moveAll_78 rfl (n := 79) rfl ?_
    refine x_iload_n dM_moveAll_79 rfl (n := 80) rfl ?_
    refine x_iconst (v := 0) dM_moveAll_80 (by decide) (n := 81) rfl ?_
    refine x_iconst (v := 5) dM_moveAll_81 (by decide) (n := 82) rfl ?_
    refine x_invV (m := m) rfl dM_moveAll_82 gM_moveAll_82 (as := [vI x1, vI (0 : Int32), vI (5 : Int32)]) (st := []) rfl rfl k1 rfl rfl (Nat.le_of_ble_eq_true rfl) (n := 85) rfl rfl rfl h (xBk.V fun m2 h => ?_)
    refine x_aload_n dM_moveAll_85 rfl (n := 86) rfl ?_
    refine x_iload_n dM_moveAll_86 rfl (n := 87) rfl ?_
    refine x_iconst (v := 1) dM_moveAll_87 (by decide) (n := 88) rfl ?_
    refine x_bipush (v := 6) dM_moveAll_88 (by decide) (n := 90) rfl ?_
    obtain ⟨k3, h⟩ := h
    refine x_invV (m := m2) rfl dM_moveAll_90 gM_moveAll_90 (as := [vI x1, vI (1 : Int32), vI (6 : Int32)]) (st := []) rfl rfl k3 rfl rfl (Nat.le_of_ble_eq_true rfl) (n := 93) rfl rfl rfl h (xBk.V fun m4 h => ?_)
    exact h
  · replace h := h' c27
    refine x_aload_n dM_moveAll_34 rfl (n := 35) rfl ?_
    refine x_getR rfl dM_moveAll_35 fM_31 k1 (n := 38) rfl ?_
    refine x_aload_n dM_moveAll_38 rfl (n := 39) rfl ?_
    refine x_getR rfl dM_moveAll_39 fM_53 k1 (n := 42) rfl ?_
    refine x_iload_n dM_moveAll_42 rfl (n := 43) rfl ?_
    obtain ⟨a5, e6, h⟩ := h
    obtain ⟨n8, k7, h⟩ := h
    obtain ⟨c9, h⟩ := h
    refine x_iald e6 dM_moveAll_43 k7 c9 (n := 44) rfl ?_
    refine x_iconst (v := 0) dM_moveAll_44 (by decide) (n := 45) rfl ?_
    obtain ⟨a10, e11, h⟩ := h
    obtain ⟨n13, k12, h⟩ := h
    obtain ⟨c14, h⟩ := h
    replace h := h _ rfl
    refine x_zast e11 dM_moveAll_45 k12 c14 (by decide) (n := 46) rfl ?_
    refine x_aload_n dM_moveAll_46 rfl (n := 47) rfl ?_
    refine x_aload_n dM_moveAll_47 rfl (n := 48) rfl ?_
    refine x_getR rfl dM_moveAll_48 fM_20 k1 (n := 51) rfl ?_
    refine x_aload_n dM_moveAll_51 rfl (n := 52) rfl ?_
    refine x_getR rfl dM_moveAll_52 fM_53 k1 (n := 55) rfl ?_
    refine x_iload_n dM_moveAll_55 rfl (n := 56) rfl ?_
    obtain ⟨c16, h⟩ := h
    refine x_iald e6 dM_moveAll_56 k7 c16 (n := 57) rfl ?_
    obtain ⟨a17, e18, h⟩ := h
    obtain ⟨n20, k19, h⟩ := h
    obtain ⟨c21, h⟩ := h
    refine x_lald e18 dM_moveAll_57 k19 c21 (n := 58) rfl ?_
    refine x_invV (m := (mI m a10 (gI m a5 x2.toNatClampNeg).toNatClampNeg (0 : Int32))) rfl dM_moveAll_58 gM_moveAll_58 (as := [vL (gL m a17 (gI (mI m a10 (gI m a5 x2.toNatClampNeg).toNatClampNeg (0 : Int32)) a5 x2.toNatClampNeg).toNatClampNeg)]) (st := []) rfl rfl k1 rfl rfl (Nat.le_of_ble_eq_true rfl) (n := 61) rfl rfl rfl h (xBk.I fun v23 m22 h => ?_)
    refine x_istore_n dM_moveAll_61 (by decide) (L' := [some (vR (some a0)), some (vI x1), some (vI x2), some (vI v23)]) rfl (n := 62) rfl ?_
    refine x_iload_n dM_moveAll_62 rfl (n := 63) rfl ?_
    obtain ⟨h, h'⟩ := h
    refine x_if_lt (tgt := 72) dM_moveAll_63 rfl (n := 66) rfl (fun c26 => ?_) (fun c26 => ?_)
    · replace h := h c26
      refine x_iinc (v := x2 + 1) dM_moveAll_72 rfl rfl (by decide) (L' := [some (vR (some a0)), some (vI x1), some (vI (x2 + 1)), some (vI v23)]) rfl (n := 75) rfl ?_
      refine x_goto (tgt := 26) dM_moveAll_75 rfl ?_
      exact x_weak (b := [true, true, true, false]) rfl h
    · replace h := h' c26
      refine x_aload_n dM_moveAll_66 rfl (n := 67) rfl ?_
      refine x_iload_n dM_moveAll_67 rfl (n := 68) rfl ?_
      refine x_iload_n dM_moveAll_68 rfl (n := 69) rfl ?_
      obtain ⟨k24, h⟩ := h
      refine x_invV (m := m22) rfl dM_moveAll_69 gM_moveAll_69 (as := [vI x1, vI v23]) (st := []) rfl rfl k24 rfl rfl (Nat.le_of_ble_eq_true rfl) (n := 72) rfl rfl rfl h (xBk.V fun m25 h => ?_)
      refine x_iinc (v := x2 + 1) dM_moveAll_72 rfl rfl (by decide) (L' := [some (vR (some a0)), some (vI x1), some (vI (x2 + 1)), some (vI v23)]) rfl (n := 75) rfl ?_
      refine x_goto (tgt := 26) dM_moveAll_75 rfl ?_
      exact x_weak (b := [true, true, true, false]) rfl h
set_option maxRecDepth 100000 in
set_option maxHeartbeats 4000000 in
theorem bM_moveAll_93 {l : Launch} {G : xG} {m : XM} {bc bs : Nat} {Q : XR → XM → Prop} {a0 : Nat} {x1 : Int32} {x2 : Int32}
    (h : kd m a0 = some (oB 5) ∧ CC l G xM_needAll [vR (some a0), vI x1] m (kI (fun v3 m2 => ((v3 ≤ (32 : Int32) → WW l G xM_moveAll 159 [some (vR (some a0)), some (vI x1), some (vI (0 : Int32)), none] [] m2 bc bs Q) ∧ (¬ v3 ≤ (32 : Int32) → kd m2 a0 = some (oB 5) ∧ ∀ m5, m5 = mI m2 a0 18 ((gI m2 a0 18) - (1 : Int32)) → WW l G xM_moveAll 115 [some (vR (some a0)), some (vI x1), some (vI (0 : Int32)), none] [] m5 bc bs Q))) Q)) :
    WW l G xM_moveAll 93 [some (vR (some a0)), some (vI x1), some (vI x2), none] [] m bc bs Q := by
  refine x_aload_n dM_moveAll_93 rfl (n := 94) rfl ?_
  refine x_iload_n dM_moveAll_94 rfl (n := 95) rfl ?_
  obtain ⟨k1, h⟩ := h
  refine x_invV (m := m) rfl dM_moveAll_95 gM_moveAll_95 (as := [vI x1]) (st := []) rfl rfl k1 rfl rfl (Nat.le_of_ble_eq_true rfl) (n := 98) rfl rfl rfl h (xBk.I fun v3 m2 h => ?_)
  refine x_bipush (v := 32) dM_moveAll_98 (by decide) (n := 100) rfl ?_
  obtain ⟨h, h'⟩ := h
  refine x_icmp_le (tgt := 157) dM_moveAll_100 rfl (n := 103) rfl (fun c6 => ?_) (fun c6 => ?_)
  · replace h := h c6
    refine x_iconst (v := 0) dM_moveAll_157 (by decide) (n := 158) rfl ?_
    refine x_istore_n dM_moveAll_158 (by decide) (L' := [some (vR (some a0)), some (vI x1), some (vI (0 : Int32)), none]) rfl (n := 159) rfl ?_
    exact h
  · replace h := h' c6
    refine x_aload_n dM_moveAll_103 rfl (n := 104) rfl ?_
    refine x_dup dM_moveAll_104 rfl (n := 105) rfl ?_
    obtain ⟨k4, h⟩ := h
    refine x_getI rfl dM_moveAll_105 fM_83 k4 (n := 108) rfl ?_
    refine x_iconst (v := 1) dM_moveAll_108 (by decide) (n := 109) rfl ?_
    refine x_isub dM_moveAll_109 (n := 110) rfl ?_
    replace h := h _ rfl
    refine x_putI rfl dM_moveAll_110 pM_83 k4 rfl rfl (n := 113) rfl ?_
    refine x_iconst (v := 0) dM_moveAll_113 (by decide) (n := 114) rfl ?_
    refine x_istore_n dM_moveAll_114 (by decide) (L' := [some (vR (some a0)), some (vI x1), some (vI (0 : Int32)), none]) rfl (n := 115) rfl ?_
    exact h
set_option maxRecDepth 100000 in
set_option maxHeartbeats 4000000 in
theorem bM_moveAll_115 {l : Launch} {G : xG} {m : XM} {bc bs : Nat} {Q : XR → XM → Prop} {a0 : Nat} {x1 : Int32} {x2 : Int32}
    (h : kd m a0 = some (oB 5) ∧ (((gI m a0 18) ≤ x2 → ∃ a2, gR m a0 23 = some a2 ∧ ∃ n5, kd m a2 = some (aR 0 n5) ∧ vp_in (7 : Int32) n5 ∧ vp_in (7 : Int32) n5 ∧ ∀ m8, m8 = mI m a2 (7 : Int32).toNatClampNeg ((gI m a2 (7 : Int32).toNatClampNeg) + (1 : Int32)) → WW l G xM_moveAll 93 [some (vR (some a0)), some (vI x1), some (vI x2), none] [] m8 bc bs Q) ∧ (¬ (gI m a0 18) ≤ x2 → ∃ a9, gR m a0 19 = some a9 ∧ ∃ n12, kd m a9 = some (aR 0 n12) ∧ vp_in (x2 + (1 : Int32)) n12 ∧ vp_in x2 n12 ∧ ∀ m15, m15 = mI m a9 x2.toNatClampNeg (gI m a9 (x2 + (1 : Int32)).toNatClampNeg) → WW l G xM_moveAll 115 [some (vR (some a0)), some (vI x1), some (vI (x2 + 1)), none] [] m15 bc bs Q))) :
    WW l G xM_moveAll 115 [some (vR (some a0)), some (vI x1), some (vI x2), none] [] m bc bs Q := by
  refine x_iload_n dM_moveAll_115 rfl (n := 116) rfl ?_
  refine x_aload_n dM_moveAll_116 rfl (n := 117) rfl ?_
  obtain ⟨k1, h⟩ := h
  refine x_getI rfl dM_moveAll_117 fM_83 k1 (n := 120) rfl ?_
  obtain ⟨h, h'⟩ := h
  refine x_icmp_ge (tgt := 143) dM_moveAll_120 rfl (n := 123) rfl (fun c16 => ?_) (fun c16 => ?_)
  · replace h := h c16
    refine x_aload_n dM_moveAll_143 rfl (n := 144) rfl ?_
    refine x_getR rfl dM_moveAll_144 fM_62 k1 (n := 147) rfl ?_
    refine x_bipush (v := 7) dM_moveAll_147 (by decide) (n := 149) rfl ?_
    refine x_dup2 dM_moveAll_149 rfl rfl (n := 150) rfl ?_
    obtain ⟨a2, e3, h⟩ := h
    obtain ⟨n5, k4, h⟩ := h
    obtain ⟨c6, h⟩ := h
    refine x_iald e3 dM_moveAll_150 k4 c6 (n := 151) rfl ?_
    refine x_iconst (v := 1) dM_moveAll_151 (by decide) (n := 152) rfl ?_
    refine x_iadd dM_moveAll_152 (n := 153) rfl ?_
    obtain ⟨c7, h⟩ := h
    replace h := h _ rfl
    refine x_iast e3 dM_moveAll_153 k4 c7 (n := 154) rfl ?_
    refine x_goto (tgt := 93) dM_moveAll_154 rfl ?_
    exact h
  · replace h := h' c16
    refine x_aload_n dM_moveAll_123 rfl (n := 124) rfl ?_
    refine x_getR rfl dM_moveAll_124 fM_53 k1 (n := 127) rfl ?_
    refine x_iload_n dM_moveAll_127 rfl (n := 128) rfl ?_
    refine x_aload_n dM_moveAll_128 rfl (n := 129) rfl ?_
    refine x_getR rfl dM_moveAll_129 fM_53 k1 (n := 132) rfl ?_
    refine x_iload_n dM_moveAll_132 rfl (n := 133) rfl ?_
    refine x_iconst (v := 1) dM_moveAll_133 (by decide) (n := 134) rfl ?_
    refine x_iadd dM_moveAll_134 (n := 135) rfl ?_
    obtain ⟨a9, e10, h⟩ := h
    obtain ⟨n12, k11, h⟩ := h
    obtain ⟨c13, h⟩ := h
    refine x_iald e10 dM_moveAll_135 k11 c13 (n := 136) rfl ?_
    obtain ⟨c14, h⟩ := h
    replace h := h _ rfl
    refine x_iast e10 dM_moveAll_136 k11 c14 (n := 137) rfl ?_
    refine x_iinc (v := x2 + 1) dM_moveAll_137 rfl rfl (by decide) (L' := [some (vR (some a0)), some (vI x1), some (vI (x2 + 1)), none]) rfl (n := 140) rfl ?_
    refine x_goto (tgt := 115) dM_moveAll_140 rfl ?_
    exact h
set_option maxRecDepth 100000 in
set_option maxHeartbeats 4000000 in
theorem bM_moveAll_159 {l : Launch} {G : xG} {m : XM} {bc bs : Nat} {Q : XR → XM → Prop} {a0 : Nat} {x1 : Int32} {x2 : Int32}
    (h : kd m a0 = some (oB 5) ∧ ∃ a2, gR m a0 14 = some a2 ∧ ∃ n5, kd m a2 = some (aR 0 n5) ∧ vp_in x1 n5 ∧ (((gI m a2 x1.toNatClampNeg) ≤ x2 → WW l G xM_moveAll 194 [some (vR (some a0)), some (vI x1), some (vI (0 : Int32)), none] [] m bc bs Q) ∧ (¬ (gI m a2 x1.toNatClampNeg) ≤ x2 → ∃ a7, gR m a0 15 = some a7 ∧ ∃ n10, kd m a7 = some (aR 0 n10) ∧ vp_in (((8 : Int32) * x1) + x2) n10 ∧ ∃ a12, gR m a0 12 = some a12 ∧ ∃ n15, kd m a12 = some (aR 1 n15) ∧ vp_in (gI m a7 (((8 : Int32) * x1) + x2).toNatClampNeg) n15 ∧ ∀ m17, m17 = mI m a12 (gI m a7 (((8 : Int32) * x1) + x2).toNatClampNeg).toNatClampNeg (0 : Int32) → WW l G xM_moveAll 159 [some (vR (some a0)), some (vI x1), some (vI (x2 + 1)), none] [] m17 bc bs Q))) :
    WW l G xM_moveAll 159 [some (vR (some a0)), some (vI x1), some (vI x2), none] [] m bc bs Q := by
  refine x_iload_n dM_moveAll_159 rfl (n := 160) rfl ?_
  refine x_aload_n dM_moveAll_160 rfl (n := 161) rfl ?_
  obtain ⟨k1, h⟩ := h
  refine x_getR rfl dM_moveAll_161 fM_44 k1 (n := 164) rfl ?_
  refine x_iload_n dM_moveAll_164 rfl (n := 165) rfl ?_
  obtain ⟨a2, e3, h⟩ := h
  obtain ⟨n5, k4, h⟩ := h
  obtain ⟨c6, h⟩ := h
  refine x_iald e3 dM_moveAll_165 k4 c6 (n := 166) rfl ?_
  obtain ⟨h, h'⟩ := h
  refine x_icmp_ge (tgt := 192) dM_moveAll_166 rfl (n := 169) rfl (fun c18 => ?_) (fun c18 => ?_)
  · replace h := h c18
    refine x_iconst (v := 0) dM_moveAll_192 (by decide) (n := 193) rfl ?_
    refine x_istore_n dM_moveAll_193 (by decide) (L' := [some (vR (some a0)), some (vI x1), some (vI (0 : Int32)), none]) rfl (n := 194) rfl ?_
    exact h
  · replace h := h' c18
    refine x_aload_n dM_moveAll_169 rfl (n := 170) rfl ?_
    refine x_getR rfl dM_moveAll_170 fM_41 k1 (n := 173) rfl ?_
    refine x_aload_n dM_moveAll_173 rfl (n := 174) rfl ?_
    refine x_getR rfl dM_moveAll_174 fM_47 k1 (n := 177) rfl ?_
    refine x_bipush (v := 8) dM_moveAll_177 (by decide) (n := 179) rfl ?_
    refine x_iload_n dM_moveAll_179 rfl (n := 180) rfl ?_
    refine x_imul dM_moveAll_180 (n := 181) rfl ?_
    refine x_iload_n dM_moveAll_181 rfl (n := 182) rfl ?_
    refine x_iadd dM_moveAll_182 (n := 183) rfl ?_
    obtain ⟨a7, e8, h⟩ := h
    obtain ⟨n10, k9, h⟩ := h
    obtain ⟨c11, h⟩ := h
    refine x_iald e8 dM_moveAll_183 k9 c11 (n := 184) rfl ?_
    refine x_iconst (v := 0) dM_moveAll_184 (by decide) (n := 185) rfl ?_
    obtain ⟨a12, e13, h⟩ := h
    obtain ⟨n15, k14, h⟩ := h
    obtain ⟨c16, h⟩ := h
    replace h := h _ rfl
    refine x_zast e13 dM_moveAll_185 k14 c16 (by decide) (n := 186) rfl ?_
    refine x_iinc (v := x2 + 1) dM_moveAll_186 rfl rfl (by decide) (L' := [some (vR (some a0)), some (vI x1), some (vI (x2 + 1)), none]) rfl (n := 189) rfl ?_
    refine x_goto (tgt := 159) dM_moveAll_189 rfl ?_
    exact h
set_option maxRecDepth 100000 in
set_option maxHeartbeats 4000000 in
theorem bM_moveAll_194 {l : Launch} {G : xG} {m : XM} {bc bs : Nat} {Q : XR → XM → Prop} {a0 : Nat} {x1 : Int32} {x2 : Int32}
    (h : kd m a0 = some (oB 5) ∧ (((gI m a0 18) ≤ x2 → ∃ a2, gR m a0 23 = some a2 ∧ ∃ n5, kd m a2 = some (aR 0 n5) ∧ vp_in (1 : Int32) n5 ∧ vp_in (1 : Int32) n5 ∧ ∀ m8, m8 = mI m a2 (1 : Int32).toNatClampNeg ((gI m a2 (1 : Int32).toNatClampNeg) + (1 : Int32)) → Q (.inl none) m8) ∧ (¬ (gI m a0 18) ≤ x2 → ∃ a9, gR m a0 19 = some a9 ∧ ∃ n12, kd m a9 = some (aR 0 n12) ∧ vp_in x2 n12 ∧ CC l G xM_copy [vR (some a0), vI (gI m a9 x2.toNatClampNeg)] m (kI (fun v15 m14 => kd m14 a0 = some (oB 5) ∧ CC l G xM_append [vR (some a0), vI x1, vI v15] m14 (kV (fun m17 => WW l G xM_moveAll 194 [some (vR (some a0)), some (vI x1), some (vI (x2 + 1)), none] [] m17 bc bs Q) Q)) Q)))) :
    WW l G xM_moveAll 194 [some (vR (some a0)), some (vI x1), some (vI x2), none] [] m bc bs Q := by
  refine x_iload_n dM_moveAll_194 rfl (n := 195) rfl ?_
  refine x_aload_n dM_moveAll_195 rfl (n := 196) rfl ?_
  obtain ⟨k1, h⟩ := h
  refine x_getI rfl dM_moveAll_196 fM_83 k1 (n := 199) rfl ?_
  obtain ⟨h, h'⟩ := h
  refine x_icmp_ge (tgt := 225) dM_moveAll_199 rfl (n := 202) rfl (fun c18 => ?_) (fun c18 => ?_)
  · replace h := h c18
    refine x_aload_n dM_moveAll_225 rfl (n := 226) rfl ?_
    refine x_getR rfl dM_moveAll_226 fM_62 k1 (n := 229) rfl ?_
    refine x_iconst (v := 1) dM_moveAll_229 (by decide) (n := 230) rfl ?_
    refine x_dup2 dM_moveAll_230 rfl rfl (n := 231) rfl ?_
    obtain ⟨a2, e3, h⟩ := h
    obtain ⟨n5, k4, h⟩ := h
    obtain ⟨c6, h⟩ := h
    refine x_iald e3 dM_moveAll_231 k4 c6 (n := 232) rfl ?_
    refine x_iconst (v := 1) dM_moveAll_232 (by decide) (n := 233) rfl ?_
    refine x_iadd dM_moveAll_233 (n := 234) rfl ?_
    obtain ⟨c7, h⟩ := h
    replace h := h _ rfl
    refine x_iast e3 dM_moveAll_234 k4 c7 (n := 235) rfl ?_
    exact x_vret dM_moveAll_235 rfl h
  · replace h := h' c18
    refine x_aload_n dM_moveAll_202 rfl (n := 203) rfl ?_
    refine x_aload_n dM_moveAll_203 rfl (n := 204) rfl ?_
    refine x_getR rfl dM_moveAll_204 fM_53 k1 (n := 207) rfl ?_
    refine x_iload_n dM_moveAll_207 rfl (n := 208) rfl ?_
    obtain ⟨a9, e10, h⟩ := h
    obtain ⟨n12, k11, h⟩ := h
    obtain ⟨c13, h⟩ := h
    refine x_iald e10 dM_moveAll_208 k11 c13 (n := 209) rfl ?_
    refine x_invV (m := m) rfl dM_moveAll_209 gM_moveAll_209 (as := [vI (gI m a9 x2.toNatClampNeg)]) (st := []) rfl rfl k1 rfl rfl (Nat.le_of_ble_eq_true rfl) (n := 212) rfl rfl rfl h (xBk.I fun v15 m14 h => ?_)
    refine x_istore_n dM_moveAll_212 (by decide) (L' := [some (vR (some a0)), some (vI x1), some (vI x2), some (vI v15)]) rfl (n := 213) rfl ?_
    refine x_aload_n dM_moveAll_213 rfl (n := 214) rfl ?_
    refine x_iload_n dM_moveAll_214 rfl (n := 215) rfl ?_
    refine x_iload_n dM_moveAll_215 rfl (n := 216) rfl ?_
    obtain ⟨k16, h⟩ := h
    refine x_invV (m := m14) rfl dM_moveAll_216 gM_moveAll_216 (as := [vI x1, vI v15]) (st := []) rfl rfl k16 rfl rfl (Nat.le_of_ble_eq_true rfl) (n := 219) rfl rfl rfl h (xBk.V fun m17 h => ?_)
    refine x_iinc (v := x2 + 1) dM_moveAll_219 rfl rfl (by decide) (L' := [some (vR (some a0)), some (vI x1), some (vI (x2 + 1)), some (vI v15)]) rfl (n := 222) rfl ?_
    refine x_goto (tgt := 194) dM_moveAll_222 rfl ?_
    exact x_weak (b := [true, true, true, false]) rfl h
set_option maxRecDepth 100000 in
set_option maxHeartbeats 4000000 in
theorem bM_moveAll {l : Launch} {G : xG} {m : XM} {Q : XR → XM → Prop} {a0 : Nat} {x1 : Int32} (hst : l.stackTraces = false)
    (h : kd m a0 = some (oB 5) ∧ ∃ a2, gR m a0 23 = some a2 ∧ ∃ n5, kd m a2 = some (aR 0 n5) ∧ vp_in (9 : Int32) n5 ∧ vp_in (9 : Int32) n5 ∧ ∀ m8, m8 = mI m a2 (9 : Int32).toNatClampNeg ((gI m a2 (9 : Int32).toNatClampNeg) + (1 : Int32)) → vp_in (4 : Int32) n5 ∧ vp_in (4 : Int32) n5 ∧ ∀ m11, m11 = mI m8 a2 (4 : Int32).toNatClampNeg ((gI m8 a2 (4 : Int32).toNatClampNeg) + (gI m8 a0 18)) → WW l G xM_moveAll 26 [some (vR (some a0)), some (vI x1), some (vI (0 : Int32)), none] [] m11 0 0 Q) :
    CC l G xM_moveAll [vR (some a0), vI x1] m Q := by
  refine x_entry (by decide +kernel) rfl hst (Nat.le_of_ble_eq_true rfl) (L0 := [some (vR (some a0)), some (vI x1), none, none]) rfl ?_
  refine x_aload_n dM_moveAll_0 rfl (n := 1) rfl ?_
  obtain ⟨k1, h⟩ := h
  refine x_getR rfl dM_moveAll_1 fM_62 k1 (n := 4) rfl ?_
  refine x_bipush (v := 9) dM_moveAll_4 (by decide) (n := 6) rfl ?_
  refine x_dup2 dM_moveAll_6 rfl rfl (n := 7) rfl ?_
  obtain ⟨a2, e3, h⟩ := h
  obtain ⟨n5, k4, h⟩ := h
  obtain ⟨c6, h⟩ := h
  refine x_iald e3 dM_moveAll_7 k4 c6 (n := 8) rfl ?_
  refine x_iconst (v := 1) dM_moveAll_8 (by decide) (n := 9) rfl ?_
  refine x_iadd dM_moveAll_9 (n := 10) rfl ?_
  obtain ⟨c7, h⟩ := h
  replace h := h _ rfl
  refine x_iast e3 dM_moveAll_10 k4 c7 (n := 11) rfl ?_
  refine x_aload_n dM_moveAll_11 rfl (n := 12) rfl ?_
  refine x_getR rfl dM_moveAll_12 fM_62 k1 (n := 15) rfl ?_
  refine x_iconst (v := 4) dM_moveAll_15 (by decide) (n := 16) rfl ?_
  refine x_dup2 dM_moveAll_16 rfl rfl (n := 17) rfl ?_
  obtain ⟨c9, h⟩ := h
  refine x_iald e3 dM_moveAll_17 k4 c9 (n := 18) rfl ?_
  refine x_aload_n dM_moveAll_18 rfl (n := 19) rfl ?_
  refine x_getI rfl dM_moveAll_19 fM_83 k1 (n := 22) rfl ?_
  refine x_iadd dM_moveAll_22 (n := 23) rfl ?_
  obtain ⟨c10, h⟩ := h
  replace h := h _ rfl
  refine x_iast e3 dM_moveAll_23 k4 c10 (n := 24) rfl ?_
  refine x_iconst (v := 0) dM_moveAll_24 (by decide) (n := 25) rfl ?_
  refine x_istore_n dM_moveAll_25 (by decide) (L' := [some (vR (some a0)), some (vI x1), some (vI (0 : Int32)), none]) rfl (n := 26) rfl ?_
  exact h
set_option maxRecDepth 100000 in
set_option maxHeartbeats 4000000 in
theorem bM_inSet_11 {l : Launch} {G : xG} {m : XM} {bc bs : Nat} {Q : XR → XM → Prop} {a0 : Nat} {x1 : Int64} {x3 : Int32} {x4 : Int32} {x5 : Int32}
    (h : kd m a0 = some (oB 5) ∧ ∃ a2, gR m a0 14 = some a2 ∧ ∃ n5, kd m a2 = some (aR 0 n5) ∧ vp_in x3 n5 ∧ (((gI m a2 x3.toNatClampNeg) ≤ x5 → Q (.inl (some (vI x4))) m) ∧ (¬ (gI m a2 x3.toNatClampNeg) ≤ x5 → ∃ a7, gR m a0 15 = some a7 ∧ ∃ n10, kd m a7 = some (aR 0 n10) ∧ vp_in (((8 : Int32) * x3) + x5) n10 ∧ ∃ a12, gR m a0 6 = some a12 ∧ ∃ n15, kd m a12 = some (aR 2 n15) ∧ vp_in (gI m a7 (((8 : Int32) * x3) + x5).toNatClampNeg) n15 ∧ ((¬ (lg_cmp (gL m a12 (gI m a7 (((8 : Int32) * x3) + x5).toNatClampNeg).toNatClampNeg) x1) = 0 → WW l G xM_inSet 11 [some (vR (some a0)), some (vL x1), none, some (vI x3), some (vI x4), some (vI (x5 + 1))] [] m bc bs Q) ∧ ((lg_cmp (gL m a12 (gI m a7 (((8 : Int32) * x3) + x5).toNatClampNeg).toNatClampNeg) x1) = 0 → WW l G xM_inSet 11 [some (vR (some a0)), some (vL x1), none, some (vI x3), some (vI x5), some (vI (x5 + 1))] [] m bc bs Q))))) :
    WW l G xM_inSet 11 [some (vR (some a0)), some (vL x1), none, some (vI x3), some (vI x4), some (vI x5)] [] m bc bs Q := by
  refine x_iload dM_inSet_11 rfl (n := 13) rfl ?_
  refine x_aload_n dM_inSet_13 rfl (n := 14) rfl ?_
  obtain ⟨k1, h⟩ := h
  refine x_getR rfl dM_inSet_14 fM_44 k1 (n := 17) rfl ?_
  refine x_iload_n dM_inSet_17 rfl (n := 18) rfl ?_
  obtain ⟨a2, e3, h⟩ := h
  obtain ⟨n5, k4, h⟩ := h
  obtain ⟨c6, h⟩ := h
  refine x_iald e3 dM_inSet_18 k4 c6 (n := 19) rfl ?_
  obtain ⟨h, h'⟩ := h
  refine x_icmp_ge (tgt := 59) dM_inSet_19 rfl (n := 22) rfl (fun c18 => ?_) (fun c18 => ?_)
  · replace h := h c18
    refine x_iload dM_inSet_59 rfl (n := 61) rfl ?_
    exact x_iret dM_inSet_61 rfl h
  · replace h := h' c18
    refine x_aload_n dM_inSet_22 rfl (n := 23) rfl ?_
    refine x_getR rfl dM_inSet_23 fM_20 k1 (n := 26) rfl ?_
    refine x_aload_n dM_inSet_26 rfl (n := 27) rfl ?_
    refine x_getR rfl dM_inSet_27 fM_47 k1 (n := 30) rfl ?_
    refine x_bipush (v := 8) dM_inSet_30 (by decide) (n := 32) rfl ?_
    refine x_iload_n dM_inSet_32 rfl (n := 33) rfl ?_
    refine x_imul dM_inSet_33 (n := 34) rfl ?_
    refine x_iload dM_inSet_34 rfl (n := 36) rfl ?_
    refine x_iadd dM_inSet_36 (n := 37) rfl ?_
    obtain ⟨a7, e8, h⟩ := h
    obtain ⟨n10, k9, h⟩ := h
    obtain ⟨c11, h⟩ := h
    refine x_iald e8 dM_inSet_37 k9 c11 (n := 38) rfl ?_
    obtain ⟨a12, e13, h⟩ := h
    obtain ⟨n15, k14, h⟩ := h
    obtain ⟨c16, h⟩ := h
    refine x_lald e13 dM_inSet_38 k14 c16 (n := 39) rfl ?_
    refine x_lload_n dM_inSet_39 rfl (n := 40) rfl ?_
    refine x_lcmp dM_inSet_40 (n := 41) rfl ?_
    obtain ⟨h, h'⟩ := h
    refine x_if_ne (tgt := 49) dM_inSet_41 rfl (n := 44) rfl (fun c17 => ?_) (fun c17 => ?_)
    · replace h := h c17
      refine x_iload dM_inSet_49 rfl (n := 51) rfl ?_
      refine x_istore dM_inSet_51 (by decide) (L' := [some (vR (some a0)), some (vL x1), none, some (vI x3), some (vI x4), some (vI x5)]) rfl (n := 53) rfl ?_
      refine x_iinc (v := x5 + 1) dM_inSet_53 rfl rfl (by decide) (L' := [some (vR (some a0)), some (vL x1), none, some (vI x3), some (vI x4), some (vI (x5 + 1))]) rfl (n := 56) rfl ?_
      refine x_goto (tgt := 11) dM_inSet_56 rfl ?_
      exact h
    · replace h := h' c17
      refine x_iload dM_inSet_44 rfl (n := 46) rfl ?_
      refine x_goto (tgt := 51) dM_inSet_46 rfl ?_
      refine x_istore dM_inSet_51 (by decide) (L' := [some (vR (some a0)), some (vL x1), none, some (vI x3), some (vI x5), some (vI x5)]) rfl (n := 53) rfl ?_
      refine x_iinc (v := x5 + 1) dM_inSet_53 rfl rfl (by decide) (L' := [some (vR (some a0)), some (vL x1), none, some (vI x3), some (vI x5), some (vI (x5 + 1))]) rfl (n := 56) rfl ?_
      refine x_goto (tgt := 11) dM_inSet_56 rfl ?_
      exact h
set_option maxRecDepth 100000 in
set_option maxHeartbeats 4000000 in
theorem bM_inSet {l : Launch} {G : xG} {m : XM} {Q : XR → XM → Prop} {a0 : Nat} {x1 : Int64} (hst : l.stackTraces = false)
    (h : CC l G xM_setOfKey [vL x1] m (kI (fun v2 m1 => WW l G xM_inSet 11 [some (vR (some a0)), some (vL x1), none, some (vI v2), some (vI (-1 : Int32)), some (vI (0 : Int32))] [] m1 0 0 Q) Q)) :
    CC l G xM_inSet [vR (some a0), vL x1] m Q := by
  refine x_entry (by decide +kernel) rfl hst (Nat.le_of_ble_eq_true rfl) (L0 := [some (vR (some a0)), some (vL x1), none, none, none, none]) rfl ?_
  refine x_lload_n dM_inSet_0 rfl (n := 1) rfl ?_
  refine x_invS (m := m) dM_inSet_1 gM_inSet_1 (as := [vL x1]) (st := []) rfl rfl (Nat.le_of_ble_eq_true rfl) (n := 4) rfl rfl rfl h (xBk.I fun v2 m1 h => ?_)
  refine x_istore_n dM_inSet_4 (by decide) (L' := [some (vR (some a0)), some (vL x1), none, some (vI v2), none, none]) rfl (n := 5) rfl ?_
  refine x_iconst (v := -1) dM_inSet_5 (by decide) (n := 6) rfl ?_
  refine x_istore dM_inSet_6 (by decide) (L' := [some (vR (some a0)), some (vL x1), none, some (vI v2), some (vI (-1 : Int32)), none]) rfl (n := 8) rfl ?_
  refine x_iconst (v := 0) dM_inSet_8 (by decide) (n := 9) rfl ?_
  refine x_istore dM_inSet_9 (by decide) (L' := [some (vR (some a0)), some (vL x1), none, some (vI v2), some (vI (-1 : Int32)), some (vI (0 : Int32))]) rfl (n := 11) rfl ?_
  exact h
set_option maxRecDepth 100000 in
set_option maxHeartbeats 4000000 in
theorem bM_takeOut_12 {l : Launch} {G : xG} {m : XM} {bc bs : Nat} {Q : XR → XM → Prop} {a0 : Nat} {x1 : Int32} {x2 : Int32} {x3 : Int32}
    (h : kd m a0 = some (oB 5) ∧ ∃ a2, gR m a0 14 = some a2 ∧ ∃ n5, kd m a2 = some (aR 0 n5) ∧ vp_in x1 n5 ∧ (((gI m a2 x1.toNatClampNeg) ≤ x3 → Q (.inl none) m) ∧ (¬ (gI m a2 x1.toNatClampNeg) ≤ x3 → ∃ a7, gR m a0 15 = some a7 ∧ ∃ n10, kd m a7 = some (aR 0 n10) ∧ vp_in ((((8 : Int32) * x1) + x3) + (1 : Int32)) n10 ∧ vp_in (((8 : Int32) * x1) + x3) n10 ∧ ∀ m13, m13 = mI m a7 (((8 : Int32) * x1) + x3).toNatClampNeg (gI m a7 ((((8 : Int32) * x1) + x3) + (1 : Int32)).toNatClampNeg) → WW l G xM_takeOut 12 [some (vR (some a0)), some (vI x1), some (vI x2), some (vI (x3 + 1))] [] m13 bc bs Q))) :
    WW l G xM_takeOut 12 [some (vR (some a0)), some (vI x1), some (vI x2), some (vI x3)] [] m bc bs Q := by
  refine x_iload_n dM_takeOut_12 rfl (n := 13) rfl ?_
  refine x_aload_n dM_takeOut_13 rfl (n := 14) rfl ?_
  obtain ⟨k1, h⟩ := h
  refine x_getR rfl dM_takeOut_14 fM_44 k1 (n := 17) rfl ?_
  refine x_iload_n dM_takeOut_17 rfl (n := 18) rfl ?_
  obtain ⟨a2, e3, h⟩ := h
  obtain ⟨n5, k4, h⟩ := h
  obtain ⟨c6, h⟩ := h
  refine x_iald e3 dM_takeOut_18 k4 c6 (n := 19) rfl ?_
  obtain ⟨h, h'⟩ := h
  refine x_icmp_ge (tgt := 52) dM_takeOut_19 rfl (n := 22) rfl (fun c14 => ?_) (fun c14 => ?_)
  · replace h := h c14
    exact x_vret dM_takeOut_52 rfl h
  · replace h := h' c14
    refine x_aload_n dM_takeOut_22 rfl (n := 23) rfl ?_
    refine x_getR rfl dM_takeOut_23 fM_47 k1 (n := 26) rfl ?_
    refine x_bipush (v := 8) dM_takeOut_26 (by decide) (n := 28) rfl ?_
    refine x_iload_n dM_takeOut_28 rfl (n := 29) rfl ?_
    refine x_imul dM_takeOut_29 (n := 30) rfl ?_
    refine x_iload_n dM_takeOut_30 rfl (n := 31) rfl ?_
    refine x_iadd dM_takeOut_31 (n := 32) rfl ?_
    refine x_aload_n dM_takeOut_32 rfl (n := 33) rfl ?_
    refine x_getR rfl dM_takeOut_33 fM_47 k1 (n := 36) rfl ?_
    refine x_bipush (v := 8) dM_takeOut_36 (by decide) (n := 38) rfl ?_
    refine x_iload_n dM_takeOut_38 rfl (n := 39) rfl ?_
    refine x_imul dM_takeOut_39 (n := 40) rfl ?_
    refine x_iload_n dM_takeOut_40 rfl (n := 41) rfl ?_
    refine x_iadd dM_takeOut_41 (n := 42) rfl ?_
    refine x_iconst (v := 1) dM_takeOut_42 (by decide) (n := 43) rfl ?_
    refine x_iadd dM_takeOut_43 (n := 44) rfl ?_
    obtain ⟨a7, e8, h⟩ := h
    obtain ⟨n10, k9, h⟩ := h
    obtain ⟨c11, h⟩ := h
    refine x_iald e8 dM_takeOut_44 k9 c11 (n := 45) rfl ?_
    obtain ⟨c12, h⟩ := h
    replace h := h _ rfl
    refine x_iast e8 dM_takeOut_45 k9 c12 (n := 46) rfl ?_
    refine x_iinc (v := x3 + 1) dM_takeOut_46 rfl rfl (by decide) (L' := [some (vR (some a0)), some (vI x1), some (vI x2), some (vI (x3 + 1))]) rfl (n := 49) rfl ?_
    refine x_goto (tgt := 12) dM_takeOut_49 rfl ?_
    exact h
set_option maxRecDepth 100000 in
set_option maxHeartbeats 4000000 in
theorem bM_takeOut {l : Launch} {G : xG} {m : XM} {Q : XR → XM → Prop} {a0 : Nat} {x1 : Int32} {x2 : Int32} (hst : l.stackTraces = false)
    (h : kd m a0 = some (oB 5) ∧ ∃ a2, gR m a0 14 = some a2 ∧ ∃ n5, kd m a2 = some (aR 0 n5) ∧ vp_in x1 n5 ∧ vp_in x1 n5 ∧ ∀ m8, m8 = mI m a2 x1.toNatClampNeg ((gI m a2 x1.toNatClampNeg) - (1 : Int32)) → WW l G xM_takeOut 12 [some (vR (some a0)), some (vI x1), some (vI x2), some (vI x2)] [] m8 0 0 Q) :
    CC l G xM_takeOut [vR (some a0), vI x1, vI x2] m Q := by
  refine x_entry (by decide +kernel) rfl hst (Nat.le_of_ble_eq_true rfl) (L0 := [some (vR (some a0)), some (vI x1), some (vI x2), none]) rfl ?_
  refine x_aload_n dM_takeOut_0 rfl (n := 1) rfl ?_
  obtain ⟨k1, h⟩ := h
  refine x_getR rfl dM_takeOut_1 fM_44 k1 (n := 4) rfl ?_
  refine x_iload_n dM_takeOut_4 rfl (n := 5) rfl ?_
  refine x_dup2 dM_takeOut_5 rfl rfl (n := 6) rfl ?_
  obtain ⟨a2, e3, h⟩ := h
  obtain ⟨n5, k4, h⟩ := h
  obtain ⟨c6, h⟩ := h
  refine x_iald e3 dM_takeOut_6 k4 c6 (n := 7) rfl ?_
  refine x_iconst (v := 1) dM_takeOut_7 (by decide) (n := 8) rfl ?_
  refine x_isub dM_takeOut_8 (n := 9) rfl ?_
  obtain ⟨c7, h⟩ := h
  replace h := h _ rfl
  refine x_iast e3 dM_takeOut_9 k4 c7 (n := 10) rfl ?_
  refine x_iload_n dM_takeOut_10 rfl (n := 11) rfl ?_
  refine x_istore_n dM_takeOut_11 (by decide) (L' := [some (vR (some a0)), some (vI x1), some (vI x2), some (vI x2)]) rfl (n := 12) rfl ?_
  exact h
set_option maxRecDepth 100000 in
set_option maxHeartbeats 4000000 in
theorem bM_dropFirst_3 {l : Launch} {G : xG} {m : XM} {bc bs : Nat} {Q : XR → XM → Prop} {a0 : Nat} {x1 : Int32} {x2 : Int32} {x3 : Int32} {x4 : Int32}
    (h : kd m a0 = some (oB 5) ∧ CC l G xM_needAll [vR (some a0), vI x1] m (kI (fun v3 m2 => ((v3 ≤ (32 : Int32) → Q (.inl none) m2) ∧ (¬ v3 ≤ (32 : Int32) → kd m2 a0 = some (oB 5) ∧ ∃ a5, gR m2 a0 14 = some a5 ∧ ∃ n8, kd m2 a5 = some (aR 0 n8) ∧ vp_in x1 n8 ∧ (((gI m2 a5 x1.toNatClampNeg) ≤ x4 → Q (.inl none) m2) ∧ (¬ (gI m2 a5 x1.toNatClampNeg) ≤ x4 → ∃ a10, gR m2 a0 15 = some a10 ∧ ∃ n13, kd m2 a10 = some (aR 0 n13) ∧ vp_in (((8 : Int32) * x1) + x4) n13 ∧ ∃ a15, gR m2 a0 12 = some a15 ∧ ∃ n18, kd m2 a15 = some (aR 1 n18) ∧ vp_in (gI m2 a10 (((8 : Int32) * x1) + x4).toNatClampNeg) n18 ∧ ((¬ (gI m2 a15 (gI m2 a10 (((8 : Int32) * x1) + x4).toNatClampNeg).toNatClampNeg) = x2 → WW l G xM_dropFirst 3 [some (vR (some a0)), some (vI x1), some (vI x2), some (vI x3), some (vI (x4 + 1))] [] m2 bc bs Q) ∧ ((gI m2 a15 (gI m2 a10 (((8 : Int32) * x1) + x4).toNatClampNeg).toNatClampNeg) = x2 → CC l G xM_takeOut [vR (some a0), vI x1, vI x4] m2 (kV (fun m20 => kd m20 a0 = some (oB 5) ∧ ∃ a22, gR m20 a0 23 = some a22 ∧ ∃ n25, kd m20 a22 = some (aR 0 n25) ∧ vp_in x3 n25 ∧ vp_in x3 n25 ∧ ∀ m28, m28 = mI m20 a22 x3.toNatClampNeg ((gI m20 a22 x3.toNatClampNeg) + (1 : Int32)) → WW l G xM_dropFirst 3 [some (vR (some a0)), some (vI x1), some (vI x2), some (vI x3), some (vI x4)] [] m28 bc bs Q) Q)))))))) Q)) :
    WW l G xM_dropFirst 3 [some (vR (some a0)), some (vI x1), some (vI x2), some (vI x3), some (vI x4)] [] m bc bs Q := by
  refine x_aload_n dM_dropFirst_3 rfl (n := 4) rfl ?_
  refine x_iload_n dM_dropFirst_4 rfl (n := 5) rfl ?_
  obtain ⟨k1, h⟩ := h
  refine x_invV (m := m) rfl dM_dropFirst_5 gM_dropFirst_5 (as := [vI x1]) (st := []) rfl rfl k1 rfl rfl (Nat.le_of_ble_eq_true rfl) (n := 8) rfl rfl rfl h (xBk.I fun v3 m2 h => ?_)
  refine x_bipush (v := 32) dM_dropFirst_8 (by decide) (n := 10) rfl ?_
  obtain ⟨h, h'⟩ := h
  refine x_icmp_le (tgt := 71) dM_dropFirst_10 rfl (n := 13) rfl (fun c31 => ?_) (fun c31 => ?_)
  · replace h := h c31
    exact x_vret dM_dropFirst_71 rfl h
  · replace h := h' c31
    refine x_iload dM_dropFirst_13 rfl (n := 15) rfl ?_
    refine x_aload_n dM_dropFirst_15 rfl (n := 16) rfl ?_
    obtain ⟨k4, h⟩ := h
    refine x_getR rfl dM_dropFirst_16 fM_44 k4 (n := 19) rfl ?_
    refine x_iload_n dM_dropFirst_19 rfl (n := 20) rfl ?_
    obtain ⟨a5, e6, h⟩ := h
    obtain ⟨n8, k7, h⟩ := h
    obtain ⟨c9, h⟩ := h
    refine x_iald e6 dM_dropFirst_20 k7 c9 (n := 21) rfl ?_
    obtain ⟨h, h'⟩ := h
    refine x_icmp_ge (tgt := 71) dM_dropFirst_21 rfl (n := 24) rfl (fun c30 => ?_) (fun c30 => ?_)
    · replace h := h c30
      exact x_vret dM_dropFirst_71 rfl h
    · replace h := h' c30
      refine x_aload_n dM_dropFirst_24 rfl (n := 25) rfl ?_
      refine x_getR rfl dM_dropFirst_25 fM_41 k4 (n := 28) rfl ?_
      refine x_aload_n dM_dropFirst_28 rfl (n := 29) rfl ?_
      refine x_getR rfl dM_dropFirst_29 fM_47 k4 (n := 32) rfl ?_
      refine x_bipush (v := 8) dM_dropFirst_32 (by decide) (n := 34) rfl ?_
      refine x_iload_n dM_dropFirst_34 rfl (n := 35) rfl ?_
      refine x_imul dM_dropFirst_35 (n := 36) rfl ?_
      refine x_iload dM_dropFirst_36 rfl (n := 38) rfl ?_
      refine x_iadd dM_dropFirst_38 (n := 39) rfl ?_
      obtain ⟨a10, e11, h⟩ := h
      obtain ⟨n13, k12, h⟩ := h
      obtain ⟨c14, h⟩ := h
      refine x_iald e11 dM_dropFirst_39 k12 c14 (n := 40) rfl ?_
      obtain ⟨a15, e16, h⟩ := h
      obtain ⟨n18, k17, h⟩ := h
      obtain ⟨c19, h⟩ := h
      refine x_zald e16 dM_dropFirst_40 k17 c19 (n := 41) rfl ?_
      refine x_iload_n dM_dropFirst_41 rfl (n := 42) rfl ?_
      obtain ⟨h, h'⟩ := h
      refine x_icmp_ne (tgt := 65) dM_dropFirst_42 rfl (n := 45) rfl (fun c29 => ?_) (fun c29 => ?_)
      · replace h := h c29
        refine x_iinc (v := x4 + 1) dM_dropFirst_65 rfl rfl (by decide) (L' := [some (vR (some a0)), some (vI x1), some (vI x2), some (vI x3), some (vI (x4 + 1))]) rfl (n := 68) rfl ?_
        refine x_goto (tgt := 3) dM_dropFirst_68 rfl ?_
        exact h
      · replace h := h' c29
        refine x_aload_n dM_dropFirst_45 rfl (n := 46) rfl ?_
        refine x_iload_n dM_dropFirst_46 rfl (n := 47) rfl ?_
        refine x_iload dM_dropFirst_47 rfl (n := 49) rfl ?_
        refine x_invV (m := m2) rfl dM_dropFirst_49 gM_dropFirst_49 (as := [vI x1, vI x4]) (st := []) rfl rfl k4 rfl rfl (Nat.le_of_ble_eq_true rfl) (n := 52) rfl rfl rfl h (xBk.V fun m20 h => ?_)
        refine x_aload_n dM_dropFirst_52 rfl (n := 53) rfl ?_
        obtain ⟨k21, h⟩ := h
        refine x_getR rfl dM_dropFirst_53 fM_62 k21 (n := 56) rfl ?_
        refine x_iload_n dM_dropFirst_56 rfl (n := 57) rfl ?_
        refine x_dup2 dM_dropFirst_57 rfl rfl (n := 58) rfl ?_
        obtain ⟨a22, e23, h⟩ := h
        obtain ⟨n25, k24, h⟩ := h
        obtain ⟨c26, h⟩ := h
        refine x_iald e23 dM_dropFirst_58 k24 c26 (n := 59) rfl ?_
        refine x_iconst (v := 1) dM_dropFirst_59 (by decide) (n := 60) rfl ?_
        refine x_iadd dM_dropFirst_60 (n := 61) rfl ?_
        obtain ⟨c27, h⟩ := h
        replace h := h _ rfl
        refine x_iast e23 dM_dropFirst_61 k24 c27 (n := 62) rfl ?_
        refine x_goto (tgt := 3) dM_dropFirst_62 rfl ?_
        exact h
set_option maxRecDepth 100000 in
set_option maxHeartbeats 4000000 in
theorem bM_dropFirst {l : Launch} {G : xG} {m : XM} {Q : XR → XM → Prop} {a0 : Nat} {x1 : Int32} {x2 : Int32} {x3 : Int32} (hst : l.stackTraces = false)
    (h : WW l G xM_dropFirst 3 [some (vR (some a0)), some (vI x1), some (vI x2), some (vI x3), some (vI (0 : Int32))] [] m 0 0 Q) :
    CC l G xM_dropFirst [vR (some a0), vI x1, vI x2, vI x3] m Q := by
  refine x_entry (by decide +kernel) rfl hst (Nat.le_of_ble_eq_true rfl) (L0 := [some (vR (some a0)), some (vI x1), some (vI x2), some (vI x3), none]) rfl ?_
  refine x_iconst (v := 0) dM_dropFirst_0 (by decide) (n := 1) rfl ?_
  refine x_istore dM_dropFirst_1 (by decide) (L' := [some (vR (some a0)), some (vI x1), some (vI x2), some (vI x3), some (vI (0 : Int32))]) rfl (n := 3) rfl ?_
  exact h
set_option maxRecDepth 100000 in
set_option maxHeartbeats 4000000 in
theorem bM_needAll_8 {l : Launch} {G : xG} {m : XM} {bc bs : Nat} {Q : XR → XM → Prop} {a0 : Nat} {x1 : Int32} {x2 : Int32} {x3 : Int32}
    (h : kd m a0 = some (oB 5) ∧ (((gI m a0 18) ≤ x3 → Q (.inl (some (vI x2))) m) ∧ (¬ (gI m a0 18) ≤ x3 → ∃ a2, gR m a0 19 = some a2 ∧ ∃ n5, kd m a2 = some (aR 0 n5) ∧ vp_in x3 n5 ∧ CC l G xM_need [vR (some a0), vI (gI m a2 x3.toNatClampNeg)] m (kI (fun v8 m7 => WW l G xM_needAll 8 [some (vR (some a0)), some (vI x1), some (vI (x2 + v8)), some (vI (x3 + 1))] [] m7 bc bs Q) Q)))) :
    WW l G xM_needAll 8 [some (vR (some a0)), some (vI x1), some (vI x2), some (vI x3)] [] m bc bs Q := by
  refine x_iload_n dM_needAll_8 rfl (n := 9) rfl ?_
  refine x_aload_n dM_needAll_9 rfl (n := 10) rfl ?_
  obtain ⟨k1, h⟩ := h
  refine x_getI rfl dM_needAll_10 fM_83 k1 (n := 13) rfl ?_
  obtain ⟨h, h'⟩ := h
  refine x_icmp_ge (tgt := 35) dM_needAll_13 rfl (n := 16) rfl (fun c9 => ?_) (fun c9 => ?_)
  · replace h := h c9
    refine x_iload_n dM_needAll_35 rfl (n := 36) rfl ?_
    exact x_iret dM_needAll_36 rfl h
  · replace h := h' c9
    refine x_iload_n dM_needAll_16 rfl (n := 17) rfl ?_
    refine x_aload_n dM_needAll_17 rfl (n := 18) rfl ?_
    refine x_aload_n dM_needAll_18 rfl (n := 19) rfl ?_
    refine x_getR rfl dM_needAll_19 fM_53 k1 (n := 22) rfl ?_
    refine x_iload_n dM_needAll_22 rfl (n := 23) rfl ?_
    obtain ⟨a2, e3, h⟩ := h
    obtain ⟨n5, k4, h⟩ := h
    obtain ⟨c6, h⟩ := h
    refine x_iald e3 dM_needAll_23 k4 c6 (n := 24) rfl ?_
    refine x_invV (m := m) rfl dM_needAll_24 gM_needAll_24 (as := [vI (gI m a2 x3.toNatClampNeg)]) (st := [vI x2]) rfl rfl k1 rfl rfl (Nat.le_of_ble_eq_true rfl) (n := 27) rfl rfl rfl h (xBk.I fun v8 m7 h => ?_)
    refine x_iadd dM_needAll_27 (n := 28) rfl ?_
    refine x_istore_n dM_needAll_28 (by decide) (L' := [some (vR (some a0)), some (vI x1), some (vI (x2 + v8)), some (vI x3)]) rfl (n := 29) rfl ?_
    refine x_iinc (v := x3 + 1) dM_needAll_29 rfl rfl (by decide) (L' := [some (vR (some a0)), some (vI x1), some (vI (x2 + v8)), some (vI (x3 + 1))]) rfl (n := 32) rfl ?_
    refine x_goto (tgt := 8) dM_needAll_32 rfl ?_
    exact h
set_option maxRecDepth 100000 in
set_option maxHeartbeats 4000000 in
theorem bM_needAll {l : Launch} {G : xG} {m : XM} {Q : XR → XM → Prop} {a0 : Nat} {x1 : Int32} (hst : l.stackTraces = false)
    (h : kd m a0 = some (oB 5) ∧ CC l G xM_wordsOf [vR (some a0), vI x1] m (kI (fun v3 m2 => WW l G xM_needAll 8 [some (vR (some a0)), some (vI x1), some (vI v3), some (vI (0 : Int32))] [] m2 0 0 Q) Q)) :
    CC l G xM_needAll [vR (some a0), vI x1] m Q := by
  refine x_entry (by decide +kernel) rfl hst (Nat.le_of_ble_eq_true rfl) (L0 := [some (vR (some a0)), some (vI x1), none, none]) rfl ?_
  refine x_aload_n dM_needAll_0 rfl (n := 1) rfl ?_
  refine x_iload_n dM_needAll_1 rfl (n := 2) rfl ?_
  obtain ⟨k1, h⟩ := h
  refine x_invV (m := m) rfl dM_needAll_2 gM_needAll_2 (as := [vI x1]) (st := []) rfl rfl k1 rfl rfl (Nat.le_of_ble_eq_true rfl) (n := 5) rfl rfl rfl h (xBk.I fun v3 m2 h => ?_)
  refine x_istore_n dM_needAll_5 (by decide) (L' := [some (vR (some a0)), some (vI x1), some (vI v3), none]) rfl (n := 6) rfl ?_
  refine x_iconst (v := 0) dM_needAll_6 (by decide) (n := 7) rfl ?_
  refine x_istore_n dM_needAll_7 (by decide) (L' := [some (vR (some a0)), some (vI x1), some (vI v3), some (vI (0 : Int32))]) rfl (n := 8) rfl ?_
  exact h
set_option maxRecDepth 100000 in
set_option maxHeartbeats 4000000 in
theorem bM_copy_31 {l : Launch} {G : xG} {m : XM} {bc bs : Nat} {Q : XR → XM → Prop} {a0 : Nat} {x1 : Int32} {x2 : Int32} {x3 : Int32}
    (h : (((8 : Int32) ≤ x3 → kd m a0 = some (oB 5) ∧ ∃ a2, gR m a0 9 = some a2 ∧ ∃ n5, kd m a2 = some (aR 1 n5) ∧ vp_in x2 n5 ∧ ∀ m7, m7 = mI m a2 x2.toNatClampNeg (0 : Int32) → ∃ a8, gR m a0 10 = some a8 ∧ ∃ n11, kd m a8 = some (aR 1 n11) ∧ vp_in x2 n11 ∧ ∀ m13, m13 = mI m7 a8 x2.toNatClampNeg (0 : Int32) → ∃ a14, gR m a0 12 = some a14 ∧ ∃ n17, kd m a14 = some (aR 1 n17) ∧ vp_in x2 n17 ∧ ∀ m19, m19 = mI m13 a14 x2.toNatClampNeg (0 : Int32) → Q (.inl (some (vI x2))) m19) ∧ (¬ (8 : Int32) ≤ x3 → kd m a0 = some (oB 5) ∧ ∃ a21, gR m a0 8 = some a21 ∧ ∃ n24, kd m a21 = some (aR 0 n24) ∧ vp_in (((8 : Int32) * x1) + x3) n24 ∧ vp_in (((8 : Int32) * x2) + x3) n24 ∧ ∀ m27, m27 = mI m a21 (((8 : Int32) * x2) + x3).toNatClampNeg (gI m a21 (((8 : Int32) * x1) + x3).toNatClampNeg) → WW l G xM_copy 31 [some (vR (some a0)), some (vI x1), some (vI x2), some (vI (x3 + 1))] [] m27 bc bs Q))) :
    WW l G xM_copy 31 [some (vR (some a0)), some (vI x1), some (vI x2), some (vI x3)] [] m bc bs Q := by
  refine x_iload_n dM_copy_31 rfl (n := 32) rfl ?_
  refine x_bipush (v := 8) dM_copy_32 (by decide) (n := 34) rfl ?_
  obtain ⟨h, h'⟩ := h
  refine x_icmp_ge (tgt := 65) dM_copy_34 rfl (n := 37) rfl (fun c28 => ?_) (fun c28 => ?_)
  · replace h := h c28
    refine x_aload_n dM_copy_65 rfl (n := 66) rfl ?_
    obtain ⟨k1, h⟩ := h
    refine x_getR rfl dM_copy_66 fM_31 k1 (n := 69) rfl ?_
    refine x_iload_n dM_copy_69 rfl (n := 70) rfl ?_
    refine x_iconst (v := 0) dM_copy_70 (by decide) (n := 71) rfl ?_
    obtain ⟨a2, e3, h⟩ := h
    obtain ⟨n5, k4, h⟩ := h
    obtain ⟨c6, h⟩ := h
    replace h := h _ rfl
    refine x_zast e3 dM_copy_71 k4 c6 (by decide) (n := 72) rfl ?_
    refine x_aload_n dM_copy_72 rfl (n := 73) rfl ?_
    refine x_getR rfl dM_copy_73 fM_35 k1 (n := 76) rfl ?_
    refine x_iload_n dM_copy_76 rfl (n := 77) rfl ?_
    refine x_iconst (v := 0) dM_copy_77 (by decide) (n := 78) rfl ?_
    obtain ⟨a8, e9, h⟩ := h
    obtain ⟨n11, k10, h⟩ := h
    obtain ⟨c12, h⟩ := h
    replace h := h _ rfl
    refine x_zast e9 dM_copy_78 k10 c12 (by decide) (n := 79) rfl ?_
    refine x_aload_n dM_copy_79 rfl (n := 80) rfl ?_
    refine x_getR rfl dM_copy_80 fM_41 k1 (n := 83) rfl ?_
    refine x_iload_n dM_copy_83 rfl (n := 84) rfl ?_
    refine x_iconst (v := 0) dM_copy_84 (by decide) (n := 85) rfl ?_
    obtain ⟨a14, e15, h⟩ := h
    obtain ⟨n17, k16, h⟩ := h
    obtain ⟨c18, h⟩ := h
    replace h := h _ rfl
    refine x_zast e15 dM_copy_85 k16 c18 (by decide) (n := 86) rfl ?_
    refine x_iload_n dM_copy_86 rfl (n := 87) rfl ?_
    exact x_iret dM_copy_87 rfl h
  · replace h := h' c28
    refine x_aload_n dM_copy_37 rfl (n := 38) rfl ?_
    obtain ⟨k20, h⟩ := h
    refine x_getR rfl dM_copy_38 fM_28 k20 (n := 41) rfl ?_
    refine x_bipush (v := 8) dM_copy_41 (by decide) (n := 43) rfl ?_
    refine x_iload_n dM_copy_43 rfl (n := 44) rfl ?_
    refine x_imul dM_copy_44 (n := 45) rfl ?_
    refine x_iload_n dM_copy_45 rfl (n := 46) rfl ?_
    refine x_iadd dM_copy_46 (n := 47) rfl ?_
    refine x_aload_n dM_copy_47 rfl (n := 48) rfl ?_
    refine x_getR rfl dM_copy_48 fM_28 k20 (n := 51) rfl ?_
    refine x_bipush (v := 8) dM_copy_51 (by decide) (n := 53) rfl ?_
    refine x_iload_n dM_copy_53 rfl (n := 54) rfl ?_
    refine x_imul dM_copy_54 (n := 55) rfl ?_
    refine x_iload_n dM_copy_55 rfl (n := 56) rfl ?_
    refine x_iadd dM_copy_56 (n := 57) rfl ?_
    obtain ⟨a21, e22, h⟩ := h
    obtain ⟨n24, k23, h⟩ := h
    obtain ⟨c25, h⟩ := h
    refine x_iald e22 dM_copy_57 k23 c25 (n := 58) rfl ?_
    obtain ⟨c26, h⟩ := h
    replace h := h _ rfl
    refine x_iast e22 dM_copy_58 k23 c26 (n := 59) rfl ?_
    refine x_iinc (v := x3 + 1) dM_copy_59 rfl rfl (by decide) (L' := [some (vR (some a0)), some (vI x1), some (vI x2), some (vI (x3 + 1))]) rfl (n := 62) rfl ?_
    refine x_goto (tgt := 31) dM_copy_62 rfl ?_
    exact h
set_option maxRecDepth 100000 in
set_option maxHeartbeats 4000000 in
theorem bM_copy {l : Launch} {G : xG} {m : XM} {Q : XR → XM → Prop} {a0 : Nat} {x1 : Int32} (hst : l.stackTraces = false)
    (h : kd m a0 = some (oB 5) ∧ CC l G xM_freeNumber [vR (some a0)] m (kI (fun v3 m2 => kd m2 a0 = some (oB 5) ∧ ∃ a5, gR m2 a0 6 = some a5 ∧ ∃ n8, kd m2 a5 = some (aR 2 n8) ∧ vp_in x1 n8 ∧ vp_in v3 n8 ∧ ∀ m11, m11 = mL m2 a5 v3.toNatClampNeg (gL m2 a5 x1.toNatClampNeg) → ∃ a12, gR m2 a0 7 = some a12 ∧ ∃ n15, kd m2 a12 = some (aR 0 n15) ∧ vp_in x1 n15 ∧ vp_in v3 n15 ∧ ∀ m18, m18 = mI m11 a12 v3.toNatClampNeg (gI m2 a12 x1.toNatClampNeg) → WW l G xM_copy 31 [some (vR (some a0)), some (vI x1), some (vI v3), some (vI (0 : Int32))] [] m18 0 0 Q) Q)) :
    CC l G xM_copy [vR (some a0), vI x1] m Q := by
  refine x_entry (by decide +kernel) rfl hst (Nat.le_of_ble_eq_true rfl) (L0 := [some (vR (some a0)), some (vI x1), none, none]) rfl ?_
  refine x_aload_n dM_copy_0 rfl (n := 1) rfl ?_
  obtain ⟨k1, h⟩ := h
  refine x_invV (m := m) rfl dM_copy_1 gM_copy_1 (as := []) (st := []) rfl rfl k1 rfl rfl (Nat.le_of_ble_eq_true rfl) (n := 4) rfl rfl rfl h (xBk.I fun v3 m2 h => ?_)
  refine x_istore_n dM_copy_4 (by decide) (L' := [some (vR (some a0)), some (vI x1), some (vI v3), none]) rfl (n := 5) rfl ?_
  refine x_aload_n dM_copy_5 rfl (n := 6) rfl ?_
  obtain ⟨k4, h⟩ := h
  refine x_getR rfl dM_copy_6 fM_20 k4 (n := 9) rfl ?_
  refine x_iload_n dM_copy_9 rfl (n := 10) rfl ?_
  refine x_aload_n dM_copy_10 rfl (n := 11) rfl ?_
  refine x_getR rfl dM_copy_11 fM_20 k4 (n := 14) rfl ?_
  refine x_iload_n dM_copy_14 rfl (n := 15) rfl ?_
  obtain ⟨a5, e6, h⟩ := h
  obtain ⟨n8, k7, h⟩ := h
  obtain ⟨c9, h⟩ := h
  refine x_lald e6 dM_copy_15 k7 c9 (n := 16) rfl ?_
  obtain ⟨c10, h⟩ := h
  replace h := h _ rfl
  refine x_last e6 dM_copy_16 k7 c10 (n := 17) rfl ?_
  refine x_aload_n dM_copy_17 rfl (n := 18) rfl ?_
  refine x_getR rfl dM_copy_18 fM_24 k4 (n := 21) rfl ?_
  refine x_iload_n dM_copy_21 rfl (n := 22) rfl ?_
  refine x_aload_n dM_copy_22 rfl (n := 23) rfl ?_
  refine x_getR rfl dM_copy_23 fM_24 k4 (n := 26) rfl ?_
  refine x_iload_n dM_copy_26 rfl (n := 27) rfl ?_
  obtain ⟨a12, e13, h⟩ := h
  obtain ⟨n15, k14, h⟩ := h
  obtain ⟨c16, h⟩ := h
  refine x_iald e13 dM_copy_27 k14 c16 (n := 28) rfl ?_
  obtain ⟨c17, h⟩ := h
  replace h := h _ rfl
  refine x_iast e13 dM_copy_28 k14 c17 (n := 29) rfl ?_
  refine x_iconst (v := 0) dM_copy_29 (by decide) (n := 30) rfl ?_
  refine x_istore_n dM_copy_30 (by decide) (L' := [some (vR (some a0)), some (vI x1), some (vI v3), some (vI (0 : Int32))]) rfl (n := 31) rfl ?_
  exact h
set_option maxRecDepth 100000 in
set_option maxHeartbeats 4000000 in
theorem bM_freeNumber_2 {l : Launch} {G : xG} {m : XM} {bc bs : Nat} {Q : XR → XM → Prop} {a0 : Nat} {x1 : Int32}
    (h : (((4096 : Int32) ≤ x1 → WW l G xM_freeNumber 24 [some (vR (some a0)), some (vI (0 : Int32)), none] [] m bc bs Q) ∧ (¬ (4096 : Int32) ≤ x1 → kd m a0 = some (oB 5) ∧ ∃ a2, gR m a0 17 = some a2 ∧ ∃ n5, kd m a2 = some (aR 1 n5) ∧ vp_in x1 n5 ∧ ∀ m7, m7 = mI m a2 x1.toNatClampNeg (0 : Int32) → WW l G xM_freeNumber 2 [some (vR (some a0)), some (vI (x1 + 1)), none] [] m7 bc bs Q))) :
    WW l G xM_freeNumber 2 [some (vR (some a0)), some (vI x1), none] [] m bc bs Q := by
  refine x_iload_n dM_freeNumber_2 rfl (n := 3) rfl ?_
  refine x_sipush (v := 4096) dM_freeNumber_3 (by decide) (n := 6) rfl ?_
  obtain ⟨h, h'⟩ := h
  refine x_icmp_ge (tgt := 22) dM_freeNumber_6 rfl (n := 9) rfl (fun c8 => ?_) (fun c8 => ?_)
  · replace h := h c8
    refine x_iconst (v := 0) dM_freeNumber_22 (by decide) (n := 23) rfl ?_
    refine x_istore_n dM_freeNumber_23 (by decide) (L' := [some (vR (some a0)), some (vI (0 : Int32)), none]) rfl (n := 24) rfl ?_
    exact h
  · replace h := h' c8
    refine x_aload_n dM_freeNumber_9 rfl (n := 10) rfl ?_
    obtain ⟨k1, h⟩ := h
    refine x_getR rfl dM_freeNumber_10 fM_50 k1 (n := 13) rfl ?_
    refine x_iload_n dM_freeNumber_13 rfl (n := 14) rfl ?_
    refine x_iconst (v := 0) dM_freeNumber_14 (by decide) (n := 15) rfl ?_
    obtain ⟨a2, e3, h⟩ := h
    obtain ⟨n5, k4, h⟩ := h
    obtain ⟨c6, h⟩ := h
    replace h := h _ rfl
    refine x_zast e3 dM_freeNumber_15 k4 c6 (by decide) (n := 16) rfl ?_
    refine x_iinc (v := x1 + 1) dM_freeNumber_16 rfl rfl (by decide) (L' := [some (vR (some a0)), some (vI (x1 + 1)), none]) rfl (n := 19) rfl ?_
    refine x_goto (tgt := 2) dM_freeNumber_19 rfl ?_
    exact h
set_option maxRecDepth 100000 in
set_option maxHeartbeats 4000000 in
theorem bM_freeNumber_24 {l : Launch} {G : xG} {m : XM} {bc bs : Nat} {Q : XR → XM → Prop} {a0 : Nat} {x1 : Int32}
    (h : (((97 : Int32) ≤ x1 → WW l G xM_freeNumber 73 [some (vR (some a0)), some (vI (0 : Int32)), none] [] m bc bs Q) ∧ (¬ (97 : Int32) ≤ x1 → WW l G xM_freeNumber 32 [some (vR (some a0)), some (vI x1), some (vI (0 : Int32))] [] m bc bs Q))) :
    WW l G xM_freeNumber 24 [some (vR (some a0)), some (vI x1), none] [] m bc bs Q := by
  refine x_iload_n dM_freeNumber_24 rfl (n := 25) rfl ?_
  refine x_bipush (v := 97) dM_freeNumber_25 (by decide) (n := 27) rfl ?_
  obtain ⟨h, h'⟩ := h
  refine x_icmp_ge (tgt := 71) dM_freeNumber_27 rfl (n := 30) rfl (fun c1 => ?_) (fun c1 => ?_)
  · replace h := h c1
    refine x_iconst (v := 0) dM_freeNumber_71 (by decide) (n := 72) rfl ?_
    refine x_istore_n dM_freeNumber_72 (by decide) (L' := [some (vR (some a0)), some (vI (0 : Int32)), none]) rfl (n := 73) rfl ?_
    exact h
  · replace h := h' c1
    refine x_iconst (v := 0) dM_freeNumber_30 (by decide) (n := 31) rfl ?_
    refine x_istore_n dM_freeNumber_31 (by decide) (L' := [some (vR (some a0)), some (vI x1), some (vI (0 : Int32))]) rfl (n := 32) rfl ?_
    exact h
set_option maxRecDepth 100000 in
set_option maxHeartbeats 4000000 in
theorem bM_freeNumber_32 {l : Launch} {G : xG} {m : XM} {bc bs : Nat} {Q : XR → XM → Prop} {a0 : Nat} {x1 : Int32} {x2 : Int32}
    (h : kd m a0 = some (oB 5) ∧ ∃ a2, gR m a0 14 = some a2 ∧ ∃ n5, kd m a2 = some (aR 0 n5) ∧ vp_in x1 n5 ∧ (((gI m a2 x1.toNatClampNeg) ≤ x2 → WW l G xM_freeNumber 24 [some (vR (some a0)), some (vI (x1 + 1)), none] [] m bc bs Q) ∧ (¬ (gI m a2 x1.toNatClampNeg) ≤ x2 → ∃ a7, gR m a0 15 = some a7 ∧ ∃ n10, kd m a7 = some (aR 0 n10) ∧ vp_in (((8 : Int32) * x1) + x2) n10 ∧ ∃ a12, gR m a0 17 = some a12 ∧ ∃ n15, kd m a12 = some (aR 1 n15) ∧ vp_in (gI m a7 (((8 : Int32) * x1) + x2).toNatClampNeg) n15 ∧ ∀ m17, m17 = mI m a12 (gI m a7 (((8 : Int32) * x1) + x2).toNatClampNeg).toNatClampNeg (1 : Int32) → WW l G xM_freeNumber 32 [some (vR (some a0)), some (vI x1), some (vI (x2 + 1))] [] m17 bc bs Q))) :
    WW l G xM_freeNumber 32 [some (vR (some a0)), some (vI x1), some (vI x2)] [] m bc bs Q := by
  refine x_iload_n dM_freeNumber_32 rfl (n := 33) rfl ?_
  refine x_aload_n dM_freeNumber_33 rfl (n := 34) rfl ?_
  obtain ⟨k1, h⟩ := h
  refine x_getR rfl dM_freeNumber_34 fM_44 k1 (n := 37) rfl ?_
  refine x_iload_n dM_freeNumber_37 rfl (n := 38) rfl ?_
  obtain ⟨a2, e3, h⟩ := h
  obtain ⟨n5, k4, h⟩ := h
  obtain ⟨c6, h⟩ := h
  refine x_iald e3 dM_freeNumber_38 k4 c6 (n := 39) rfl ?_
  obtain ⟨h, h'⟩ := h
  refine x_icmp_ge (tgt := 65) dM_freeNumber_39 rfl (n := 42) rfl (fun c18 => ?_) (fun c18 => ?_)
  · replace h := h c18
    refine x_iinc (v := x1 + 1) dM_freeNumber_65 rfl rfl (by decide) (L' := [some (vR (some a0)), some (vI (x1 + 1)), some (vI x2)]) rfl (n := 68) rfl ?_
    refine x_goto (tgt := 24) dM_freeNumber_68 rfl ?_
    exact x_weak (b := [true, true, false]) rfl h
  · replace h := h' c18
    refine x_aload_n dM_freeNumber_42 rfl (n := 43) rfl ?_
    refine x_getR rfl dM_freeNumber_43 fM_50 k1 (n := 46) rfl ?_
    refine x_aload_n dM_freeNumber_46 rfl (n := 47) rfl ?_
    refine x_getR rfl dM_freeNumber_47 fM_47 k1 (n := 50) rfl ?_
    refine x_bipush (v := 8) dM_freeNumber_50 (by decide) (n := 52) rfl ?_
    refine x_iload_n dM_freeNumber_52 rfl (n := 53) rfl ?_
    refine x_imul dM_freeNumber_53 (n := 54) rfl ?_
    refine x_iload_n dM_freeNumber_54 rfl (n := 55) rfl ?_
    refine x_iadd dM_freeNumber_55 (n := 56) rfl ?_
    obtain ⟨a7, e8, h⟩ := h
    obtain ⟨n10, k9, h⟩ := h
    obtain ⟨c11, h⟩ := h
    refine x_iald e8 dM_freeNumber_56 k9 c11 (n := 57) rfl ?_
    refine x_iconst (v := 1) dM_freeNumber_57 (by decide) (n := 58) rfl ?_
    obtain ⟨a12, e13, h⟩ := h
    obtain ⟨n15, k14, h⟩ := h
    obtain ⟨c16, h⟩ := h
    replace h := h _ rfl
    refine x_zast e13 dM_freeNumber_58 k14 c16 (by decide) (n := 59) rfl ?_
    refine x_iinc (v := x2 + 1) dM_freeNumber_59 rfl rfl (by decide) (L' := [some (vR (some a0)), some (vI x1), some (vI (x2 + 1))]) rfl (n := 62) rfl ?_
    refine x_goto (tgt := 32) dM_freeNumber_62 rfl ?_
    exact h
set_option maxRecDepth 100000 in
set_option maxHeartbeats 4000000 in
theorem bM_freeNumber_73 {l : Launch} {G : xG} {m : XM} {bc bs : Nat} {Q : XR → XM → Prop} {a0 : Nat} {x1 : Int32}
    (h : kd m a0 = some (oB 5) ∧ (((gI m a0 18) ≤ x1 → WW l G xM_freeNumber 101 [some (vR (some a0)), some (vI (0 : Int32)), none] [] m bc bs Q) ∧ (¬ (gI m a0 18) ≤ x1 → ∃ a2, gR m a0 19 = some a2 ∧ ∃ n5, kd m a2 = some (aR 0 n5) ∧ vp_in x1 n5 ∧ ∃ a7, gR m a0 17 = some a7 ∧ ∃ n10, kd m a7 = some (aR 1 n10) ∧ vp_in (gI m a2 x1.toNatClampNeg) n10 ∧ ∀ m12, m12 = mI m a7 (gI m a2 x1.toNatClampNeg).toNatClampNeg (1 : Int32) → WW l G xM_freeNumber 73 [some (vR (some a0)), some (vI (x1 + 1)), none] [] m12 bc bs Q))) :
    WW l G xM_freeNumber 73 [some (vR (some a0)), some (vI x1), none] [] m bc bs Q := by
  refine x_iload_n dM_freeNumber_73 rfl (n := 74) rfl ?_
  refine x_aload_n dM_freeNumber_74 rfl (n := 75) rfl ?_
  obtain ⟨k1, h⟩ := h
  refine x_getI rfl dM_freeNumber_75 fM_83 k1 (n := 78) rfl ?_
  obtain ⟨h, h'⟩ := h
  refine x_icmp_ge (tgt := 99) dM_freeNumber_78 rfl (n := 81) rfl (fun c13 => ?_) (fun c13 => ?_)
  · replace h := h c13
    refine x_iconst (v := 0) dM_freeNumber_99 (by decide) (n := 100) rfl ?_
    refine x_istore_n dM_freeNumber_100 (by decide) (L' := [some (vR (some a0)), some (vI (0 : Int32)), none]) rfl (n := 101) rfl ?_
    exact h
  · replace h := h' c13
    refine x_aload_n dM_freeNumber_81 rfl (n := 82) rfl ?_
    refine x_getR rfl dM_freeNumber_82 fM_50 k1 (n := 85) rfl ?_
    refine x_aload_n dM_freeNumber_85 rfl (n := 86) rfl ?_
    refine x_getR rfl dM_freeNumber_86 fM_53 k1 (n := 89) rfl ?_
    refine x_iload_n dM_freeNumber_89 rfl (n := 90) rfl ?_
    obtain ⟨a2, e3, h⟩ := h
    obtain ⟨n5, k4, h⟩ := h
    obtain ⟨c6, h⟩ := h
    refine x_iald e3 dM_freeNumber_90 k4 c6 (n := 91) rfl ?_
    refine x_iconst (v := 1) dM_freeNumber_91 (by decide) (n := 92) rfl ?_
    obtain ⟨a7, e8, h⟩ := h
    obtain ⟨n10, k9, h⟩ := h
    obtain ⟨c11, h⟩ := h
    replace h := h _ rfl
    refine x_zast e8 dM_freeNumber_92 k9 c11 (by decide) (n := 93) rfl ?_
    refine x_iinc (v := x1 + 1) dM_freeNumber_93 rfl rfl (by decide) (L' := [some (vR (some a0)), some (vI (x1 + 1)), none]) rfl (n := 96) rfl ?_
    refine x_goto (tgt := 73) dM_freeNumber_96 rfl ?_
    exact h
