set_option maxRecDepth 100000 in
set_option maxHeartbeats 4000000 in
theorem bM_pageOf_5 {l : Launch} {G : xG} {m : XM} {bc bs : Nat} {Q : XR → XM → Prop} {a0 : Nat} {x1 : Int32} {x2 : Int32} {x3 : Int32}
    (h : (((97 : Int32) ≤ x3 → Q (.inl (some (vI x2))) m) ∧ (¬ (97 : Int32) ≤ x3 → WW l G xM_pageOf 14 [some (vR (some a0)), some (vI x1), some (vI x2), some (vI x3), some (vI (0 : Int32))] [] m bc bs Q))) :
    WW l G xM_pageOf 5 [some (vR (some a0)), some (vI x1), some (vI x2), some (vI x3), none] [] m bc bs Q := by
  refine x_iload_n dM_pageOf_5 rfl (n := 6) rfl ?_
  refine x_bipush (v := 97) dM_pageOf_6 (by decide) (n := 8) rfl ?_
  obtain ⟨h, h'⟩ := h
  refine x_icmp_ge (tgt := 59) dM_pageOf_8 rfl (n := 11) rfl (fun c1 => ?_) (fun c1 => ?_)
  · replace h := h c1
    refine x_iload_n dM_pageOf_59 rfl (n := 60) rfl ?_
    exact x_iret dM_pageOf_60 rfl h
  · replace h := h' c1
    refine x_iconst (v := 0) dM_pageOf_11 (by decide) (n := 12) rfl ?_
    refine x_istore dM_pageOf_12 (by decide) (L' := [some (vR (some a0)), some (vI x1), some (vI x2), some (vI x3), some (vI (0 : Int32))]) rfl (n := 14) rfl ?_
    exact h
set_option maxRecDepth 100000 in
set_option maxHeartbeats 4000000 in
theorem bM_pageOf_14 {l : Launch} {G : xG} {m : XM} {bc bs : Nat} {Q : XR → XM → Prop} {a0 : Nat} {x1 : Int32} {x2 : Int32} {x3 : Int32} {x4 : Int32}
    (h : kd m a0 = some (oB 5) ∧ ∃ a2, gR m a0 14 = some a2 ∧ ∃ n5, kd m a2 = some (aR 0 n5) ∧ vp_in x3 n5 ∧ (((gI m a2 x3.toNatClampNeg) ≤ x4 → WW l G xM_pageOf 5 [some (vR (some a0)), some (vI x1), some (vI x2), some (vI (x3 + 1)), none] [] m bc bs Q) ∧ (¬ (gI m a2 x3.toNatClampNeg) ≤ x4 → ∃ a7, gR m a0 15 = some a7 ∧ ∃ n10, kd m a7 = some (aR 0 n10) ∧ vp_in (((8 : Int32) * x3) + x4) n10 ∧ ((¬ (gI m a7 (((8 : Int32) * x3) + x4).toNatClampNeg) = x1 → WW l G xM_pageOf 14 [some (vR (some a0)), some (vI x1), some (vI x2), some (vI x3), some (vI (x4 + 1))] [] m bc bs Q) ∧ ((gI m a7 (((8 : Int32) * x3) + x4).toNatClampNeg) = x1 → WW l G xM_pageOf 14 [some (vR (some a0)), some (vI x1), some (vI x3), some (vI x3), some (vI (x4 + 1))] [] m bc bs Q))))) :
    WW l G xM_pageOf 14 [some (vR (some a0)), some (vI x1), some (vI x2), some (vI x3), some (vI x4)] [] m bc bs Q := by
  refine x_iload dM_pageOf_14 rfl (n := 16) rfl ?_
  refine x_aload_n dM_pageOf_16 rfl (n := 17) rfl ?_
  obtain ⟨k1, h⟩ := h
  refine x_getR rfl dM_pageOf_17 fM_44 k1 (n := 20) rfl ?_
  refine x_iload_n dM_pageOf_20 rfl (n := 21) rfl ?_
  obtain ⟨a2, e3, h⟩ := h
  obtain ⟨n5, k4, h⟩ := h
  obtain ⟨c6, h⟩ := h
  refine x_iald e3 dM_pageOf_21 k4 c6 (n := 22) rfl ?_
  obtain ⟨h, h'⟩ := h
  refine x_icmp_ge (tgt := 53) dM_pageOf_22 rfl (n := 25) rfl (fun c13 => ?_) (fun c13 => ?_)
  · replace h := h c13
    refine x_iinc (v := x3 + 1) dM_pageOf_53 rfl rfl (by decide) (L' := [some (vR (some a0)), some (vI x1), some (vI x2), some (vI (x3 + 1)), some (vI x4)]) rfl (n := 56) rfl ?_
    refine x_goto (tgt := 5) dM_pageOf_56 rfl ?_
    exact x_weak (b := [true, true, true, true, false]) rfl h
  · replace h := h' c13
    refine x_aload_n dM_pageOf_25 rfl (n := 26) rfl ?_
    refine x_getR rfl dM_pageOf_26 fM_47 k1 (n := 29) rfl ?_
    refine x_bipush (v := 8) dM_pageOf_29 (by decide) (n := 31) rfl ?_
    refine x_iload_n dM_pageOf_31 rfl (n := 32) rfl ?_
    refine x_imul dM_pageOf_32 (n := 33) rfl ?_
    refine x_iload dM_pageOf_33 rfl (n := 35) rfl ?_
    refine x_iadd dM_pageOf_35 (n := 36) rfl ?_
    obtain ⟨a7, e8, h⟩ := h
    obtain ⟨n10, k9, h⟩ := h
    obtain ⟨c11, h⟩ := h
    refine x_iald e8 dM_pageOf_36 k9 c11 (n := 37) rfl ?_
    refine x_iload_n dM_pageOf_37 rfl (n := 38) rfl ?_
    obtain ⟨h, h'⟩ := h
    refine x_icmp_ne (tgt := 45) dM_pageOf_38 rfl (n := 41) rfl (fun c12 => ?_) (fun c12 => ?_)
    · replace h := h c12
      refine x_iload_n dM_pageOf_45 rfl (n := 46) rfl ?_
      refine x_istore_n dM_pageOf_46 (by decide) (L' := [some (vR (some a0)), some (vI x1), some (vI x2), some (vI x3), some (vI x4)]) rfl (n := 47) rfl ?_
      refine x_iinc (v := x4 + 1) dM_pageOf_47 rfl rfl (by decide) (L' := [some (vR (some a0)), some (vI x1), some (vI x2), some (vI x3), some (vI (x4 + 1))]) rfl (n := 50) rfl ?_
      refine x_goto (tgt := 14) dM_pageOf_50 rfl ?_
      exact h
    · replace h := h' c12
      refine x_iload_n dM_pageOf_41 rfl (n := 42) rfl ?_
      refine x_goto (tgt := 46) dM_pageOf_42 rfl ?_
      refine x_istore_n dM_pageOf_46 (by decide) (L' := [some (vR (some a0)), some (vI x1), some (vI x3), some (vI x3), some (vI x4)]) rfl (n := 47) rfl ?_
      refine x_iinc (v := x4 + 1) dM_pageOf_47 rfl rfl (by decide) (L' := [some (vR (some a0)), some (vI x1), some (vI x3), some (vI x3), some (vI (x4 + 1))]) rfl (n := 50) rfl ?_
      refine x_goto (tgt := 14) dM_pageOf_50 rfl ?_
      exact h
set_option maxRecDepth 100000 in
set_option maxHeartbeats 4000000 in
theorem bM_pageOf {l : Launch} {G : xG} {m : XM} {Q : XR → XM → Prop} {a0 : Nat} {x1 : Int32} (hst : l.stackTraces = false)
    (h : WW l G xM_pageOf 5 [some (vR (some a0)), some (vI x1), some (vI (-1 : Int32)), some (vI (64 : Int32)), none] [] m 0 0 Q) :
    CC l G xM_pageOf [vR (some a0), vI x1] m Q := by
  refine x_entry (by decide +kernel) rfl hst (Nat.le_of_ble_eq_true rfl) (L0 := [some (vR (some a0)), some (vI x1), none, none, none]) rfl ?_
  refine x_iconst (v := -1) dM_pageOf_0 (by decide) (n := 1) rfl ?_
  refine x_istore_n dM_pageOf_1 (by decide) (L' := [some (vR (some a0)), some (vI x1), some (vI (-1 : Int32)), none, none]) rfl (n := 2) rfl ?_
  refine x_bipush (v := 64) dM_pageOf_2 (by decide) (n := 4) rfl ?_
  refine x_istore_n dM_pageOf_4 (by decide) (L' := [some (vR (some a0)), some (vI x1), some (vI (-1 : Int32)), some (vI (64 : Int32)), none]) rfl (n := 5) rfl ?_
  exact h
set_option maxRecDepth 100000 in
set_option maxHeartbeats 4000000 in
theorem bM_tell_20 {l : Launch} {G : xG} {m : XM} {bc bs : Nat} {Q : XR → XM → Prop} {a0 : Nat} {x1 : Int32} {x2 : Int32}
    (h : kd m a0 = some (oB 5) ∧ (((gI m a0 3) ≤ x2 → Q (.inl none) m) ∧ (¬ (gI m a0 3) ≤ x2 → ∃ a2, gR m a0 8 = some a2 ∧ ∃ n5, kd m a2 = some (aR 0 n5) ∧ vp_in (((8 : Int32) * x1) + x2) n5 ∧ ∃ a7, gR m a0 4 = some a7 ∧ ∃ n10, kd m a7 = some (aR 0 n10) ∧ vp_in x2 n10 ∧ ∀ m12, m12 = mI m a7 x2.toNatClampNeg (gI m a2 (((8 : Int32) * x1) + x2).toNatClampNeg) → WW l G xM_tell 20 [some (vR (some a0)), some (vI x1), some (vI (x2 + 1))] [] m12 bc bs Q))) :
    WW l G xM_tell 20 [some (vR (some a0)), some (vI x1), some (vI x2)] [] m bc bs Q := by
  refine x_iload_n dM_tell_20 rfl (n := 21) rfl ?_
  refine x_aload_n dM_tell_21 rfl (n := 22) rfl ?_
  obtain ⟨k1, h⟩ := h
  refine x_getI rfl dM_tell_22 fM_179 k1 (n := 25) rfl ?_
  obtain ⟨h, h'⟩ := h
  refine x_icmp_ge (tgt := 51) dM_tell_25 rfl (n := 28) rfl (fun c13 => ?_) (fun c13 => ?_)
  · replace h := h c13
    exact x_vret dM_tell_51 rfl h
  · replace h := h' c13
    refine x_aload_n dM_tell_28 rfl (n := 29) rfl ?_
    refine x_getR rfl dM_tell_29 fM_17 k1 (n := 32) rfl ?_
    refine x_iload_n dM_tell_32 rfl (n := 33) rfl ?_
    refine x_aload_n dM_tell_33 rfl (n := 34) rfl ?_
    refine x_getR rfl dM_tell_34 fM_28 k1 (n := 37) rfl ?_
    refine x_bipush (v := 8) dM_tell_37 (by decide) (n := 39) rfl ?_
    refine x_iload_n dM_tell_39 rfl (n := 40) rfl ?_
    refine x_imul dM_tell_40 (n := 41) rfl ?_
    refine x_iload_n dM_tell_41 rfl (n := 42) rfl ?_
    refine x_iadd dM_tell_42 (n := 43) rfl ?_
    obtain ⟨a2, e3, h⟩ := h
    obtain ⟨n5, k4, h⟩ := h
    obtain ⟨c6, h⟩ := h
    refine x_iald e3 dM_tell_43 k4 c6 (n := 44) rfl ?_
    obtain ⟨a7, e8, h⟩ := h
    obtain ⟨n10, k9, h⟩ := h
    obtain ⟨c11, h⟩ := h
    replace h := h _ rfl
    refine x_iast e8 dM_tell_44 k9 c11 (n := 45) rfl ?_
    refine x_iinc (v := x2 + 1) dM_tell_45 rfl rfl (by decide) (L' := [some (vR (some a0)), some (vI x1), some (vI (x2 + 1))]) rfl (n := 48) rfl ?_
    refine x_goto (tgt := 20) dM_tell_48 rfl ?_
    exact h
set_option maxRecDepth 100000 in
set_option maxHeartbeats 4000000 in
theorem bM_tell {l : Launch} {G : xG} {m : XM} {Q : XR → XM → Prop} {a0 : Nat} {x1 : Int32} (hst : l.stackTraces = false)
    (h : ((0 ≤ x1 → kd m a0 = some (oB 5) ∧ ∃ a2, gR m a0 7 = some a2 ∧ ∃ n5, kd m a2 = some (aR 0 n5) ∧ vp_in x1 n5 ∧ ∀ m7, m7 = mI m a0 3 (gI m a2 x1.toNatClampNeg) → WW l G xM_tell 20 [some (vR (some a0)), some (vI x1), some (vI (0 : Int32))] [] m7 0 0 Q) ∧ (¬ 0 ≤ x1 → kd m a0 = some (oB 5) ∧ ∀ m9, m9 = mI m a0 3 (0 : Int32) → WW l G xM_tell 20 [some (vR (some a0)), some (vI x1), some (vI (0 : Int32))] [] m9 0 0 Q))) :
    CC l G xM_tell [vR (some a0), vI x1] m Q := by
  refine x_entry (by decide +kernel) rfl hst (Nat.le_of_ble_eq_true rfl) (L0 := [some (vR (some a0)), some (vI x1), none]) rfl ?_
  refine x_aload_n dM_tell_0 rfl (n := 1) rfl ?_
  refine x_iload_n dM_tell_1 rfl (n := 2) rfl ?_
  obtain ⟨h, h'⟩ := h
  refine x_if_ge (tgt := 9) dM_tell_2 rfl (n := 5) rfl (fun c10 => ?_) (fun c10 => ?_)
  · replace h := h c10
    refine x_aload_n dM_tell_9 rfl (n := 10) rfl ?_
    obtain ⟨k1, h⟩ := h
    refine x_getR rfl dM_tell_10 fM_24 k1 (n := 13) rfl ?_
    refine x_iload_n dM_tell_13 rfl (n := 14) rfl ?_
    obtain ⟨a2, e3, h⟩ := h
    obtain ⟨n5, k4, h⟩ := h
    obtain ⟨c6, h⟩ := h
    refine x_iald e3 dM_tell_14 k4 c6 (n := 15) rfl ?_
    replace h := h _ rfl
    refine x_putI rfl dM_tell_15 pM_179 k1 rfl rfl (n := 18) rfl ?_
    refine x_iconst (v := 0) dM_tell_18 (by decide) (n := 19) rfl ?_
    refine x_istore_n dM_tell_19 (by decide) (L' := [some (vR (some a0)), some (vI x1), some (vI (0 : Int32))]) rfl (n := 20) rfl ?_
    exact h
  · replace h := h' c10
    refine x_iconst (v := 0) dM_tell_5 (by decide) (n := 6) rfl ?_
    refine x_goto (tgt := 15) dM_tell_6 rfl ?_
    obtain ⟨k8, h⟩ := h
    replace h := h _ rfl
    refine x_putI rfl dM_tell_15 pM_179 k8 rfl rfl (n := 18) rfl ?_
    refine x_iconst (v := 0) dM_tell_18 (by decide) (n := 19) rfl ?_
    refine x_istore_n dM_tell_19 (by decide) (L' := [some (vR (some a0)), some (vI x1), some (vI (0 : Int32))]) rfl (n := 20) rfl ?_
    exact h
set_option maxRecDepth 100000 in
set_option maxHeartbeats 4000000 in
theorem bM_got {l : Launch} {G : xG} {m : XM} {Q : XR → XM → Prop} {a0 : Nat} {x1 : Int32} (hst : l.stackTraces = false)
    (h : kd m a0 = some (oB 5) ∧ ∀ m2, m2 = mI m a0 0 (0 : Int32) → CC l G xM_within [vI x1, vI (0 : Int32), vI ((gI m2 a0 3) - (1 : Int32))] m2 (kI (fun v4 m3 => ((v4 = 0 → kd m3 a0 = some (oB 5) ∧ CC l G xM_fail [vR (some a0), vI (1 : Int32)] m3 (kI (fun v7 m6 => Q (.inl (some (vI v7))) m6) Q)) ∧ (¬ v4 = 0 → kd m3 a0 = some (oB 5) ∧ ∃ a9, gR m3 a0 4 = some a9 ∧ ∃ n12, kd m3 a9 = some (aR 0 n12) ∧ vp_in x1 n12 ∧ Q (.inl (some (vI (gI m3 a9 x1.toNatClampNeg)))) m3))) Q)) :
    CC l G xM_got [vR (some a0), vI x1] m Q := by
  refine x_entry (by decide +kernel) rfl hst (Nat.le_of_ble_eq_true rfl) (L0 := [some (vR (some a0)), some (vI x1)]) rfl ?_
  refine x_aload_n dM_got_0 rfl (n := 1) rfl ?_
  refine x_iconst (v := 0) dM_got_1 (by decide) (n := 2) rfl ?_
  obtain ⟨k1, h⟩ := h
  replace h := h _ rfl
  refine x_putI rfl dM_got_2 pM_65 k1 rfl rfl (n := 5) rfl ?_
  refine x_iload_n dM_got_5 rfl (n := 6) rfl ?_
  refine x_iconst (v := 0) dM_got_6 (by decide) (n := 7) rfl ?_
  refine x_aload_n dM_got_7 rfl (n := 8) rfl ?_
  refine x_getI rfl dM_got_8 fM_179 k1 (n := 11) rfl ?_
  refine x_iconst (v := 1) dM_got_11 (by decide) (n := 12) rfl ?_
  refine x_isub dM_got_12 (n := 13) rfl ?_
  refine x_invS (m := (mI m a0 0 (0 : Int32))) dM_got_13 gM_got_13 (as := [vI x1, vI (0 : Int32), vI ((gI (mI m a0 0 (0 : Int32)) a0 3) - (1 : Int32))]) (st := []) rfl rfl (Nat.le_of_ble_eq_true rfl) (n := 16) rfl rfl rfl h (xBk.I fun v4 m3 h => ?_)
  obtain ⟨h, h'⟩ := h
  refine x_if_eq (tgt := 28) dM_got_16 rfl (n := 19) rfl (fun c14 => ?_) (fun c14 => ?_)
  · replace h := h c14
    refine x_aload_n dM_got_28 rfl (n := 29) rfl ?_
    refine x_iconst (v := 1) dM_got_29 (by decide) (n := 30) rfl ?_
    obtain ⟨k5, h⟩ := h
    refine x_invV (m := m3) rfl dM_got_30 gM_got_30 (as := [vI (1 : Int32)]) (st := []) rfl rfl k5 rfl rfl (Nat.le_of_ble_eq_true rfl) (n := 33) rfl rfl rfl h (xBk.I fun v7 m6 h => ?_)
    exact x_iret dM_got_33 rfl h
  · replace h := h' c14
    refine x_aload_n dM_got_19 rfl (n := 20) rfl ?_
    obtain ⟨k8, h⟩ := h
    refine x_getR rfl dM_got_20 fM_17 k8 (n := 23) rfl ?_
    refine x_iload_n dM_got_23 rfl (n := 24) rfl ?_
    obtain ⟨a9, e10, h⟩ := h
    obtain ⟨n12, k11, h⟩ := h
    obtain ⟨c13, h⟩ := h
    refine x_iald e10 dM_got_24 k11 c13 (n := 25) rfl ?_
    refine x_goto (tgt := 33) dM_got_25 rfl ?_
    exact x_iret dM_got_33 rfl h
set_option maxRecDepth 100000 in
set_option maxHeartbeats 4000000 in
theorem bM_delete_26 {l : Launch} {G : xG} {m : XM} {bc bs : Nat} {Q : XR → XM → Prop} {a0 : Nat} {x1 : Int64} {x3 : Int32}
    (h : kd m a0 = some (oB 5) ∧ CC l G xM_removeOld [vR (some a0), vL x1, vI (3 : Int32)] m (kI (fun v3 m2 => ((0 ≤ x3 → Q (.inl (some (vI (1 : Int32)))) m2) ∧ (¬ 0 ≤ x3 → ((v3 = 0 → Q (.inl (some (vI (0 : Int32)))) m2) ∧ (¬ v3 = 0 → Q (.inl (some (vI (1 : Int32)))) m2))))) Q)) :
    WW l G xM_delete 26 [some (vR (some a0)), some (vL x1), none, some (vI x3), none] [] m bc bs Q := by
  refine x_aload_n dM_delete_26 rfl (n := 27) rfl ?_
  refine x_lload_n dM_delete_27 rfl (n := 28) rfl ?_
  refine x_iconst (v := 3) dM_delete_28 (by decide) (n := 29) rfl ?_
  obtain ⟨k1, h⟩ := h
  refine x_invV (m := m) rfl dM_delete_29 gM_delete_29 (as := [vL x1, vI (3 : Int32)]) (st := []) rfl rfl k1 rfl rfl (Nat.le_of_ble_eq_true rfl) (n := 32) rfl rfl rfl h (xBk.I fun v3 m2 h => ?_)
  refine x_istore dM_delete_32 (by decide) (L' := [some (vR (some a0)), some (vL x1), none, some (vI x3), some (vI v3)]) rfl (n := 34) rfl ?_
  refine x_iload_n dM_delete_34 rfl (n := 35) rfl ?_
  obtain ⟨h, h'⟩ := h
  refine x_if_ge (tgt := 43) dM_delete_35 rfl (n := 38) rfl (fun c5 => ?_) (fun c5 => ?_)
  · replace h := h c5
    refine x_iconst (v := 1) dM_delete_43 (by decide) (n := 44) rfl ?_
    refine x_goto (tgt := 48) dM_delete_44 rfl ?_
    exact x_zret dM_delete_48 rfl (by decide) h
  · replace h := h' c5
    refine x_iload dM_delete_38 rfl (n := 40) rfl ?_
    obtain ⟨h, h'⟩ := h
    refine x_if_eq (tgt := 47) dM_delete_40 rfl (n := 43) rfl (fun c4 => ?_) (fun c4 => ?_)
    · replace h := h c4
      refine x_iconst (v := 0) dM_delete_47 (by decide) (n := 48) rfl ?_
      exact x_zret dM_delete_48 rfl (by decide) h
    · replace h := h' c4
      refine x_iconst (v := 1) dM_delete_43 (by decide) (n := 44) rfl ?_
      refine x_goto (tgt := 48) dM_delete_44 rfl ?_
      exact x_zret dM_delete_48 rfl (by decide) h
set_option maxRecDepth 100000 in
set_option maxHeartbeats 4000000 in
theorem bM_delete {l : Launch} {G : xG} {m : XM} {Q : XR → XM → Prop} {a0 : Nat} {x1 : Int64} (hst : l.stackTraces = false)
    (h : kd m a0 = some (oB 5) ∧ CC l G xM_works [vR (some a0)] m (kI (fun v3 m2 => ((¬ v3 = 0 → kd m2 a0 = some (oB 5) ∧ CC l G xM_newest [vR (some a0), vL x1] m2 (kI (fun v6 m5 => ((v6 < 0 → WW l G xM_delete 26 [some (vR (some a0)), some (vL x1), none, some (vI v6), none] [] m5 0 0 Q) ∧ (¬ v6 < 0 → kd m5 a0 = some (oB 5) ∧ ∃ a8, gR m5 a0 9 = some a8 ∧ ∃ n11, kd m5 a8 = some (aR 1 n11) ∧ vp_in v6 n11 ∧ ∀ m13, m13 = mI m5 a8 v6.toNatClampNeg (0 : Int32) → WW l G xM_delete 26 [some (vR (some a0)), some (vL x1), none, some (vI v6), none] [] m13 0 0 Q))) Q)) ∧ (v3 = 0 → Q (.inl (some (vI (0 : Int32)))) m2))) Q)) :
    CC l G xM_delete [vR (some a0), vL x1] m Q := by
  refine x_entry (by decide +kernel) rfl hst (Nat.le_of_ble_eq_true rfl) (L0 := [some (vR (some a0)), some (vL x1), none, none, none]) rfl ?_
  refine x_aload_n dM_delete_0 rfl (n := 1) rfl ?_
  obtain ⟨k1, h⟩ := h
  refine x_invV (m := m) rfl dM_delete_1 gM_delete_1 (as := []) (st := []) rfl rfl k1 rfl rfl (Nat.le_of_ble_eq_true rfl) (n := 4) rfl rfl rfl h (xBk.I fun v3 m2 h => ?_)
  obtain ⟨h, h'⟩ := h
  refine x_if_ne (tgt := 9) dM_delete_4 rfl (n := 7) rfl (fun c15 => ?_) (fun c15 => ?_)
  · replace h := h c15
    refine x_aload_n dM_delete_9 rfl (n := 10) rfl ?_
    refine x_lload_n dM_delete_10 rfl (n := 11) rfl ?_
    obtain ⟨k4, h⟩ := h
    refine x_invV (m := m2) rfl dM_delete_11 gM_delete_11 (as := [vL x1]) (st := []) rfl rfl k4 rfl rfl (Nat.le_of_ble_eq_true rfl) (n := 14) rfl rfl rfl h (xBk.I fun v6 m5 h => ?_)
    refine x_istore_n dM_delete_14 (by decide) (L' := [some (vR (some a0)), some (vL x1), none, some (vI v6), none]) rfl (n := 15) rfl ?_
    refine x_iload_n dM_delete_15 rfl (n := 16) rfl ?_
    obtain ⟨h, h'⟩ := h
    refine x_if_lt (tgt := 26) dM_delete_16 rfl (n := 19) rfl (fun c14 => ?_) (fun c14 => ?_)
    · replace h := h c14
      exact h
    · replace h := h' c14
      refine x_aload_n dM_delete_19 rfl (n := 20) rfl ?_
      obtain ⟨k7, h⟩ := h
      refine x_getR rfl dM_delete_20 fM_31 k7 (n := 23) rfl ?_
      refine x_iload_n dM_delete_23 rfl (n := 24) rfl ?_
      refine x_iconst (v := 0) dM_delete_24 (by decide) (n := 25) rfl ?_
      obtain ⟨a8, e9, h⟩ := h
      obtain ⟨n11, k10, h⟩ := h
      obtain ⟨c12, h⟩ := h
      replace h := h _ rfl
      refine x_zast e9 dM_delete_25 k10 c12 (by decide) (n := 26) rfl ?_
      exact h
  · replace h := h' c15
    refine x_iconst (v := 0) dM_delete_7 (by decide) (n := 8) rfl ?_
    exact x_zret dM_delete_8 rfl (by decide) h
set_option maxRecDepth 100000 in
set_option maxHeartbeats 4000000 in
theorem bM_setOf {l : Launch} {G : xG} {m : XM} {Q : XR → XM → Prop} {a0 : Nat} {x1 : Int64} (hst : l.stackTraces = false)
    (h : kd m a0 = some (oB 5) ∧ ∀ m2, m2 = mI m a0 0 (0 : Int32) → CC l G xM_setOfKey [vL x1] m2 (kI (fun v4 m3 => Q (.inl (some (vI v4))) m3) Q)) :
    CC l G xM_setOf [vR (some a0), vL x1] m Q := by
  refine x_entry (by decide +kernel) rfl hst (Nat.le_of_ble_eq_true rfl) (L0 := [some (vR (some a0)), some (vL x1), none]) rfl ?_
  refine x_aload_n dM_setOf_0 rfl (n := 1) rfl ?_
  refine x_iconst (v := 0) dM_setOf_1 (by decide) (n := 2) rfl ?_
  obtain ⟨k1, h⟩ := h
  replace h := h _ rfl
  refine x_putI rfl dM_setOf_2 pM_65 k1 rfl rfl (n := 5) rfl ?_
  refine x_lload_n dM_setOf_5 rfl (n := 6) rfl ?_
  refine x_invS (m := (mI m a0 0 (0 : Int32))) dM_setOf_6 gM_setOf_6 (as := [vL x1]) (st := []) rfl rfl (Nat.le_of_ble_eq_true rfl) (n := 9) rfl rfl rfl h (xBk.I fun v4 m3 h => ?_)
  exact x_iret dM_setOf_9 rfl h
set_option maxRecDepth 100000 in
set_option maxHeartbeats 4000000 in
theorem bM_where {l : Launch} {G : xG} {m : XM} {Q : XR → XM → Prop} {a0 : Nat} {x1 : Int64} (hst : l.stackTraces = false)
    (h : kd m a0 = some (oB 5) ∧ CC l G xM_works [vR (some a0)] m (kI (fun v3 m2 => ((¬ v3 = 0 → kd m2 a0 = some (oB 5) ∧ CC l G xM_newest [vR (some a0), vL x1] m2 (kI (fun v6 m5 => ((v6 < 0 → kd m5 a0 = some (oB 5) ∧ CC l G xM_inSet [vR (some a0), vL x1] m5 (kI (fun v9 m8 => ((v9 < 0 → Q (.inl (some (vI (0 : Int32)))) m8) ∧ (¬ v9 < 0 → Q (.inl (some (vI (2 : Int32)))) m8))) Q)) ∧ (¬ v6 < 0 → Q (.inl (some (vI (1 : Int32)))) m5))) Q)) ∧ (v3 = 0 → Q (.inl (some (vI (0 : Int32)))) m2))) Q)) :
    CC l G xM_where [vR (some a0), vL x1] m Q := by
  refine x_entry (by decide +kernel) rfl hst (Nat.le_of_ble_eq_true rfl) (L0 := [some (vR (some a0)), some (vL x1), none]) rfl ?_
  refine x_aload_n dM_where_0 rfl (n := 1) rfl ?_
  obtain ⟨k1, h⟩ := h
  refine x_invV (m := m) rfl dM_where_1 gM_where_1 (as := []) (st := []) rfl rfl k1 rfl rfl (Nat.le_of_ble_eq_true rfl) (n := 4) rfl rfl rfl h (xBk.I fun v3 m2 h => ?_)
  obtain ⟨h, h'⟩ := h
  refine x_if_ne (tgt := 9) dM_where_4 rfl (n := 7) rfl (fun c12 => ?_) (fun c12 => ?_)
  · replace h := h c12
    refine x_aload_n dM_where_9 rfl (n := 10) rfl ?_
    refine x_lload_n dM_where_10 rfl (n := 11) rfl ?_
    obtain ⟨k4, h⟩ := h
    refine x_invV (m := m2) rfl dM_where_11 gM_where_11 (as := [vL x1]) (st := []) rfl rfl k4 rfl rfl (Nat.le_of_ble_eq_true rfl) (n := 14) rfl rfl rfl h (xBk.I fun v6 m5 h => ?_)
    obtain ⟨h, h'⟩ := h
    refine x_if_lt (tgt := 21) dM_where_14 rfl (n := 17) rfl (fun c11 => ?_) (fun c11 => ?_)
    · replace h := h c11
      refine x_aload_n dM_where_21 rfl (n := 22) rfl ?_
      refine x_lload_n dM_where_22 rfl (n := 23) rfl ?_
      obtain ⟨k7, h⟩ := h
      refine x_invV (m := m5) rfl dM_where_23 gM_where_23 (as := [vL x1]) (st := []) rfl rfl k7 rfl rfl (Nat.le_of_ble_eq_true rfl) (n := 26) rfl rfl rfl h (xBk.I fun v9 m8 h => ?_)
      obtain ⟨h, h'⟩ := h
      refine x_if_lt (tgt := 33) dM_where_26 rfl (n := 29) rfl (fun c10 => ?_) (fun c10 => ?_)
      · replace h := h c10
        refine x_iconst (v := 0) dM_where_33 (by decide) (n := 34) rfl ?_
        exact x_iret dM_where_34 rfl h
      · replace h := h' c10
        refine x_iconst (v := 2) dM_where_29 (by decide) (n := 30) rfl ?_
        refine x_goto (tgt := 34) dM_where_30 rfl ?_
        exact x_iret dM_where_34 rfl h
    · replace h := h' c11
      refine x_iconst (v := 1) dM_where_17 (by decide) (n := 18) rfl ?_
      refine x_goto (tgt := 34) dM_where_18 rfl ?_
      exact x_iret dM_where_34 rfl h
  · replace h := h' c12
    refine x_iconst (v := 0) dM_where_7 (by decide) (n := 8) rfl ?_
    exact x_iret dM_where_8 rfl h
set_option maxRecDepth 100000 in
set_option maxHeartbeats 4000000 in
theorem bM_flash_36 {l : Launch} {G : xG} {m : XM} {bc bs : Nat} {Q : XR → XM → Prop} {a0 : Nat} {x1 : Int32} {x2 : Int32} {x3 : Int32} {x4 : Int32}
    (h : kd m a0 = some (oB 5) ∧ ∃ a2, gR m a0 14 = some a2 ∧ ∃ n5, kd m a2 = some (aR 0 n5) ∧ vp_in x1 n5 ∧ (((gI m a2 x1.toNatClampNeg) ≤ x4 → Q (.inl (some (vI (0 : Int32)))) m) ∧ (¬ (gI m a2 x1.toNatClampNeg) ≤ x4 → ∃ a7, gR m a0 15 = some a7 ∧ ∃ n10, kd m a7 = some (aR 0 n10) ∧ vp_in (((8 : Int32) * x1) + x4) n10 ∧ CC l G xM_need [vR (some a0), vI (gI m a7 (((8 : Int32) * x1) + x4).toNatClampNeg)] m (kI (fun v13 m12 => (((x3 + v13) ≤ x2 → kd m12 a0 = some (oB 5) ∧ CC l G xM_need [vR (some a0), vI (gI m a7 (((8 : Int32) * x1) + x4).toNatClampNeg)] m12 (kI (fun v16 m15 => WW l G xM_flash 36 [some (vR (some a0)), some (vI x1), some (vI x2), some (vI (x3 + v16)), some (vI (x4 + 1)), none] [] m15 bc bs Q) Q)) ∧ (¬ (x3 + v13) ≤ x2 → ((¬ x2 = x3 → ((¬ x2 = (x3 + (1 : Int32)) → ((¬ x2 = (x3 + (2 : Int32)) → kd m12 a0 = some (oB 5) ∧ ∃ a18, gR m12 a0 8 = some a18 ∧ ∃ n21, kd m12 a18 = some (aR 0 n21) ∧ vp_in (((((8 : Int32) * (gI m a7 (((8 : Int32) * x1) + x4).toNatClampNeg)) + x2) - x3) - (3 : Int32)) n21 ∧ Q (.inl (some (vI (gI m12 a18 (((((8 : Int32) * (gI m a7 (((8 : Int32) * x1) + x4).toNatClampNeg)) + x2) - x3) - (3 : Int32)).toNatClampNeg)))) m12) ∧ (x2 = (x3 + (2 : Int32)) → kd m12 a0 = some (oB 5) ∧ ∃ a24, gR m12 a0 6 = some a24 ∧ ∃ n27, kd m12 a24 = some (aR 2 n27) ∧ vp_in (gI m a7 (((8 : Int32) * x1) + x4).toNatClampNeg) n27 ∧ Q (.inl (some (vI ((gL m12 a24 (gI m a7 (((8 : Int32) * x1) + x4).toNatClampNeg).toNatClampNeg).toInt32)))) m12))) ∧ (x2 = (x3 + (1 : Int32)) → kd m12 a0 = some (oB 5) ∧ ∃ a31, gR m12 a0 6 = some a31 ∧ ∃ n34, kd m12 a31 = some (aR 2 n34) ∧ vp_in (gI m a7 (((8 : Int32) * x1) + x4).toNatClampNeg) n34 ∧ Q (.inl (some (vI ((jshr (gL m12 a31 (gI m a7 (((8 : Int32) * x1) + x4).toNatClampNeg).toNatClampNeg) (32 : Int32)).toInt32)))) m12))) ∧ (x2 = x3 → kd m12 a0 = some (oB 5) ∧ ∃ a38, gR m12 a0 7 = some a38 ∧ ∃ n41, kd m12 a38 = some (aR 0 n41) ∧ vp_in (gI m a7 (((8 : Int32) * x1) + x4).toNatClampNeg) n41 ∧ Q (.inl (some (vI (gI m12 a38 (gI m a7 (((8 : Int32) * x1) + x4).toNatClampNeg).toNatClampNeg)))) m12))))) Q)))) :
    WW l G xM_flash 36 [some (vR (some a0)), some (vI x1), some (vI x2), some (vI x3), some (vI x4), none] [] m bc bs Q := by
  refine x_iload dM_flash_36 rfl (n := 38) rfl ?_
  refine x_aload_n dM_flash_38 rfl (n := 39) rfl ?_
  obtain ⟨k1, h⟩ := h
  refine x_getR rfl dM_flash_39 fM_44 k1 (n := 42) rfl ?_
  refine x_iload_n dM_flash_42 rfl (n := 43) rfl ?_
  obtain ⟨a2, e3, h⟩ := h
  obtain ⟨n5, k4, h⟩ := h
  obtain ⟨c6, h⟩ := h
  refine x_iald e3 dM_flash_43 k4 c6 (n := 44) rfl ?_
  obtain ⟨h, h'⟩ := h
  refine x_icmp_ge (tgt := 159) dM_flash_44 rfl (n := 47) rfl (fun c45 => ?_) (fun c45 => ?_)
  · replace h := h c45
    refine x_iconst (v := 0) dM_flash_159 (by decide) (n := 160) rfl ?_
    exact x_iret dM_flash_160 rfl h
  · replace h := h' c45
    refine x_aload_n dM_flash_47 rfl (n := 48) rfl ?_
    refine x_getR rfl dM_flash_48 fM_47 k1 (n := 51) rfl ?_
    refine x_bipush (v := 8) dM_flash_51 (by decide) (n := 53) rfl ?_
    refine x_iload_n dM_flash_53 rfl (n := 54) rfl ?_
    refine x_imul dM_flash_54 (n := 55) rfl ?_
    refine x_iload dM_flash_55 rfl (n := 57) rfl ?_
    refine x_iadd dM_flash_57 (n := 58) rfl ?_
    obtain ⟨a7, e8, h⟩ := h
    obtain ⟨n10, k9, h⟩ := h
    obtain ⟨c11, h⟩ := h
    refine x_iald e8 dM_flash_58 k9 c11 (n := 59) rfl ?_
    refine x_istore dM_flash_59 (by decide) (L' := [some (vR (some a0)), some (vI x1), some (vI x2), some (vI x3), some (vI x4), some (vI (gI m a7 (((8 : Int32) * x1) + x4).toNatClampNeg))]) rfl (n := 61) rfl ?_
    refine x_iload_n dM_flash_61 rfl (n := 62) rfl ?_
    refine x_iload_n dM_flash_62 rfl (n := 63) rfl ?_
    refine x_aload_n dM_flash_63 rfl (n := 64) rfl ?_
    refine x_iload dM_flash_64 rfl (n := 66) rfl ?_
    refine x_invV (m := m) rfl dM_flash_66 gM_flash_66 (as := [vI (gI m a7 (((8 : Int32) * x1) + x4).toNatClampNeg)]) (st := [vI x3, vI x2]) rfl rfl k1 rfl rfl (Nat.le_of_ble_eq_true rfl) (n := 69) rfl rfl rfl h (xBk.I fun v13 m12 h => ?_)
    refine x_iadd dM_flash_69 (n := 70) rfl ?_
    obtain ⟨h, h'⟩ := h
    refine x_icmp_ge (tgt := 144) dM_flash_70 rfl (n := 73) rfl (fun c44 => ?_) (fun c44 => ?_)
    · replace h := h c44
      refine x_iload_n dM_flash_144 rfl (n := 145) rfl ?_
      refine x_aload_n dM_flash_145 rfl (n := 146) rfl ?_
      refine x_iload dM_flash_146 rfl (n := 148) rfl ?_
      obtain ⟨k14, h⟩ := h
      refine x_invV (m := m12) rfl dM_flash_148 gM_flash_148 (as := [vI (gI m a7 (((8 : Int32) * x1) + x4).toNatClampNeg)]) (st := [vI x3]) rfl rfl k14 rfl rfl (Nat.le_of_ble_eq_true rfl) (n := 151) rfl rfl rfl h (xBk.I fun v16 m15 h => ?_)
      refine x_iadd dM_flash_151 (n := 152) rfl ?_
      refine x_istore_n dM_flash_152 (by decide) (L' := [some (vR (some a0)), some (vI x1), some (vI x2), some (vI (x3 + v16)), some (vI x4), some (vI (gI m a7 (((8 : Int32) * x1) + x4).toNatClampNeg))]) rfl (n := 153) rfl ?_
      refine x_iinc (v := x4 + 1) dM_flash_153 rfl rfl (by decide) (L' := [some (vR (some a0)), some (vI x1), some (vI x2), some (vI (x3 + v16)), some (vI (x4 + 1)), some (vI (gI m a7 (((8 : Int32) * x1) + x4).toNatClampNeg))]) rfl (n := 156) rfl ?_
      refine x_goto (tgt := 36) dM_flash_156 rfl ?_
      exact x_weak (b := [true, true, true, true, true, false]) rfl h
    · replace h := h' c44
      refine x_iload_n dM_flash_73 rfl (n := 74) rfl ?_
      refine x_iload_n dM_flash_74 rfl (n := 75) rfl ?_
      obtain ⟨h, h'⟩ := h
      refine x_icmp_ne (tgt := 88) dM_flash_75 rfl (n := 78) rfl (fun c43 => ?_) (fun c43 => ?_)
      · replace h := h c43
        refine x_iload_n dM_flash_88 rfl (n := 89) rfl ?_
        refine x_iload_n dM_flash_89 rfl (n := 90) rfl ?_
        refine x_iconst (v := 1) dM_flash_90 (by decide) (n := 91) rfl ?_
        refine x_iadd dM_flash_91 (n := 92) rfl ?_
        obtain ⟨h, h'⟩ := h
        refine x_icmp_ne (tgt := 109) dM_flash_92 rfl (n := 95) rfl (fun c36 => ?_) (fun c36 => ?_)
        · replace h := h c36
          refine x_iload_n dM_flash_109 rfl (n := 110) rfl ?_
          refine x_iload_n dM_flash_110 rfl (n := 111) rfl ?_
          refine x_iconst (v := 2) dM_flash_111 (by decide) (n := 112) rfl ?_
          refine x_iadd dM_flash_112 (n := 113) rfl ?_
          obtain ⟨h, h'⟩ := h
          refine x_icmp_ne (tgt := 127) dM_flash_113 rfl (n := 116) rfl (fun c29 => ?_) (fun c29 => ?_)
          · replace h := h c29
            refine x_aload_n dM_flash_127 rfl (n := 128) rfl ?_
            obtain ⟨k17, h⟩ := h
            refine x_getR rfl dM_flash_128 fM_28 k17 (n := 131) rfl ?_
            refine x_bipush (v := 8) dM_flash_131 (by decide) (n := 133) rfl ?_
            refine x_iload dM_flash_133 rfl (n := 135) rfl ?_
            refine x_imul dM_flash_135 (n := 136) rfl ?_
            refine x_iload_n dM_flash_136 rfl (n := 137) rfl ?_
            refine x_iadd dM_flash_137 (n := 138) rfl ?_
            refine x_iload_n dM_flash_138 rfl (n := 139) rfl ?_
            refine x_isub dM_flash_139 (n := 140) rfl ?_
            refine x_iconst (v := 3) dM_flash_140 (by decide) (n := 141) rfl ?_
            refine x_isub dM_flash_141 (n := 142) rfl ?_
            obtain ⟨a18, e19, h⟩ := h
            obtain ⟨n21, k20, h⟩ := h
            obtain ⟨c22, h⟩ := h
            refine x_iald e19 dM_flash_142 k20 c22 (n := 143) rfl ?_
            exact x_iret dM_flash_143 rfl h
          · replace h := h' c29
            refine x_aload_n dM_flash_116 rfl (n := 117) rfl ?_
            obtain ⟨k23, h⟩ := h
            refine x_getR rfl dM_flash_117 fM_20 k23 (n := 120) rfl ?_
            refine x_iload dM_flash_120 rfl (n := 122) rfl ?_
            obtain ⟨a24, e25, h⟩ := h
            obtain ⟨n27, k26, h⟩ := h
            obtain ⟨c28, h⟩ := h
            refine x_lald e25 dM_flash_122 k26 c28 (n := 123) rfl ?_
            refine x_l2i dM_flash_123 (n := 124) rfl ?_
            refine x_goto (tgt := 143) dM_flash_124 rfl ?_
            exact x_iret dM_flash_143 rfl h
        · replace h := h' c36
          refine x_aload_n dM_flash_95 rfl (n := 96) rfl ?_
          obtain ⟨k30, h⟩ := h
          refine x_getR rfl dM_flash_96 fM_20 k30 (n := 99) rfl ?_
          refine x_iload dM_flash_99 rfl (n := 101) rfl ?_
          obtain ⟨a31, e32, h⟩ := h
          obtain ⟨n34, k33, h⟩ := h
          obtain ⟨c35, h⟩ := h
          refine x_lald e32 dM_flash_101 k33 c35 (n := 102) rfl ?_
          refine x_bipush (v := 32) dM_flash_102 (by decide) (n := 104) rfl ?_
          refine x_lshr dM_flash_104 (n := 105) rfl ?_
          refine x_l2i dM_flash_105 (n := 106) rfl ?_
          refine x_goto (tgt := 143) dM_flash_106 rfl ?_
          exact x_iret dM_flash_143 rfl h
      · replace h := h' c43
        refine x_aload_n dM_flash_78 rfl (n := 79) rfl ?_
        obtain ⟨k37, h⟩ := h
        refine x_getR rfl dM_flash_79 fM_24 k37 (n := 82) rfl ?_
        refine x_iload dM_flash_82 rfl (n := 84) rfl ?_
        obtain ⟨a38, e39, h⟩ := h
        obtain ⟨n41, k40, h⟩ := h
        obtain ⟨c42, h⟩ := h
        refine x_iald e39 dM_flash_84 k40 c42 (n := 85) rfl ?_
        refine x_goto (tgt := 143) dM_flash_85 rfl ?_
        exact x_iret dM_flash_143 rfl h
set_option maxRecDepth 100000 in
set_option maxHeartbeats 4000000 in
theorem bM_flash {l : Launch} {G : xG} {m : XM} {Q : XR → XM → Prop} {a0 : Nat} {x1 : Int32} {x2 : Int32} (hst : l.stackTraces = false)
    (h : kd m a0 = some (oB 5) ∧ ∀ m2, m2 = mI m a0 0 (0 : Int32) → CC l G xM_within [vI x1, vI (0 : Int32), vI (95 : Int32)] m2 (kI (fun v4 m3 => ((v4 = 0 → kd m3 a0 = some (oB 5) ∧ CC l G xM_fail [vR (some a0), vI (1 : Int32)] m3 (kI (fun v7 m6 => Q (.inl (some (vI v7))) m6) Q)) ∧ (¬ v4 = 0 → CC l G xM_within [vI x2, vI (0 : Int32), vI (31 : Int32)] m3 (kI (fun v9 m8 => ((¬ v9 = 0 → WW l G xM_flash 36 [some (vR (some a0)), some (vI x1), some (vI x2), some (vI (0 : Int32)), some (vI (0 : Int32)), none] [] m8 0 0 Q) ∧ (v9 = 0 → kd m8 a0 = some (oB 5) ∧ CC l G xM_fail [vR (some a0), vI (1 : Int32)] m8 (kI (fun v12 m11 => Q (.inl (some (vI v12))) m11) Q)))) Q)))) Q)) :
    CC l G xM_flash [vR (some a0), vI x1, vI x2] m Q := by
  refine x_entry (by decide +kernel) rfl hst (Nat.le_of_ble_eq_true rfl) (L0 := [some (vR (some a0)), some (vI x1), some (vI x2), none, none, none]) rfl ?_
  refine x_aload_n dM_flash_0 rfl (n := 1) rfl ?_
  refine x_iconst (v := 0) dM_flash_1 (by decide) (n := 2) rfl ?_
  obtain ⟨k1, h⟩ := h
  replace h := h _ rfl
  refine x_putI rfl dM_flash_2 pM_65 k1 rfl rfl (n := 5) rfl ?_
  refine x_iload_n dM_flash_5 rfl (n := 6) rfl ?_
  refine x_iconst (v := 0) dM_flash_6 (by decide) (n := 7) rfl ?_
  refine x_bipush (v := 95) dM_flash_7 (by decide) (n := 9) rfl ?_
  refine x_invS (m := (mI m a0 0 (0 : Int32))) dM_flash_9 gM_flash_9 (as := [vI x1, vI (0 : Int32), vI (95 : Int32)]) (st := []) rfl rfl (Nat.le_of_ble_eq_true rfl) (n := 12) rfl rfl rfl h (xBk.I fun v4 m3 h => ?_)
  obtain ⟨h, h'⟩ := h
  refine x_if_eq (tgt := 25) dM_flash_12 rfl (n := 15) rfl (fun c14 => ?_) (fun c14 => ?_)
  · replace h := h c14
    refine x_aload_n dM_flash_25 rfl (n := 26) rfl ?_
    refine x_iconst (v := 1) dM_flash_26 (by decide) (n := 27) rfl ?_
    obtain ⟨k5, h⟩ := h
    refine x_invV (m := m3) rfl dM_flash_27 gM_flash_27 (as := [vI (1 : Int32)]) (st := []) rfl rfl k5 rfl rfl (Nat.le_of_ble_eq_true rfl) (n := 30) rfl rfl rfl h (xBk.I fun v7 m6 h => ?_)
    exact x_iret dM_flash_30 rfl h
  · replace h := h' c14
    refine x_iload_n dM_flash_15 rfl (n := 16) rfl ?_
    refine x_iconst (v := 0) dM_flash_16 (by decide) (n := 17) rfl ?_
    refine x_bipush (v := 31) dM_flash_17 (by decide) (n := 19) rfl ?_
    refine x_invS (m := m3) dM_flash_19 gM_flash_19 (as := [vI x2, vI (0 : Int32), vI (31 : Int32)]) (st := []) rfl rfl (Nat.le_of_ble_eq_true rfl) (n := 22) rfl rfl rfl h (xBk.I fun v9 m8 h => ?_)
    obtain ⟨h, h'⟩ := h
    refine x_if_ne (tgt := 31) dM_flash_22 rfl (n := 25) rfl (fun c13 => ?_) (fun c13 => ?_)
    · replace h := h c13
      refine x_iconst (v := 0) dM_flash_31 (by decide) (n := 32) rfl ?_
      refine x_istore_n dM_flash_32 (by decide) (L' := [some (vR (some a0)), some (vI x1), some (vI x2), some (vI (0 : Int32)), none, none]) rfl (n := 33) rfl ?_
      refine x_iconst (v := 0) dM_flash_33 (by decide) (n := 34) rfl ?_
      refine x_istore dM_flash_34 (by decide) (L' := [some (vR (some a0)), some (vI x1), some (vI x2), some (vI (0 : Int32)), some (vI (0 : Int32)), none]) rfl (n := 36) rfl ?_
      exact h
    · replace h := h' c13
      refine x_aload_n dM_flash_25 rfl (n := 26) rfl ?_
      refine x_iconst (v := 1) dM_flash_26 (by decide) (n := 27) rfl ?_
      obtain ⟨k10, h⟩ := h
      refine x_invV (m := m8) rfl dM_flash_27 gM_flash_27 (as := [vI (1 : Int32)]) (st := []) rfl rfl k10 rfl rfl (Nat.le_of_ble_eq_true rfl) (n := 30) rfl rfl rfl h (xBk.I fun v12 m11 h => ?_)
      exact x_iret dM_flash_30 rfl h
set_option maxRecDepth 100000 in
set_option maxHeartbeats 4000000 in
theorem bM_close {l : Launch} {G : xG} {m : XM} {Q : XR → XM → Prop} {a0 : Nat} (hst : l.stackTraces = false)
    (h : kd m a0 = some (oB 5) ∧ (((gI m a0 1) = 0 → ∀ m2, m2 = mI m a0 0 (1 : Int32) → ∀ m3, m3 = mI m2 a0 1 (0 : Int32) → Q (.inl none) m3) ∧ (¬ (gI m a0 1) = 0 → ∀ m4, m4 = mI m a0 0 (0 : Int32) → ∀ m5, m5 = mI m4 a0 1 (0 : Int32) → Q (.inl none) m5))) :
    CC l G xM_close [vR (some a0)] m Q := by
  refine x_entry (by decide +kernel) rfl hst (Nat.le_of_ble_eq_true rfl) (L0 := [some (vR (some a0))]) rfl ?_
  refine x_aload_n dM_close_0 rfl (n := 1) rfl ?_
  refine x_aload_n dM_close_1 rfl (n := 2) rfl ?_
  obtain ⟨k1, h⟩ := h
  refine x_getI rfl dM_close_2 fM_7 k1 (n := 5) rfl ?_
  obtain ⟨h, h'⟩ := h
  refine x_if_eq (tgt := 12) dM_close_5 rfl (n := 8) rfl (fun c6 => ?_) (fun c6 => ?_)
  · replace h := h c6
    refine x_iconst (v := 1) dM_close_12 (by decide) (n := 13) rfl ?_
    replace h := h _ rfl
    refine x_putI rfl dM_close_13 pM_65 k1 rfl rfl (n := 16) rfl ?_
    refine x_aload_n dM_close_16 rfl (n := 17) rfl ?_
    refine x_iconst (v := 0) dM_close_17 (by decide) (n := 18) rfl ?_
    replace h := h _ rfl
    refine x_putI rfl dM_close_18 pM_7 k1 (by decide) (by decide) (n := 21) rfl ?_
    exact x_vret dM_close_21 rfl h
  · replace h := h' c6
    refine x_iconst (v := 0) dM_close_8 (by decide) (n := 9) rfl ?_
    refine x_goto (tgt := 13) dM_close_9 rfl ?_
    replace h := h _ rfl
    refine x_putI rfl dM_close_13 pM_65 k1 rfl rfl (n := 16) rfl ?_
    refine x_aload_n dM_close_16 rfl (n := 17) rfl ?_
    refine x_iconst (v := 0) dM_close_17 (by decide) (n := 18) rfl ?_
    replace h := h _ rfl
    refine x_putI rfl dM_close_18 pM_7 k1 (by decide) (by decide) (n := 21) rfl ?_
    exact x_vret dM_close_21 rfl h
set_option maxRecDepth 100000 in
set_option maxHeartbeats 4000000 in
theorem bM_crash_31 {l : Launch} {G : xG} {m : XM} {bc bs : Nat} {Q : XR → XM → Prop} {a0 : Nat} {x1 : Int32}
    (h : (((97 : Int32) ≤ x1 → WW l G xM_crash 52 [some (vR (some a0)), some (vI (0 : Int32))] [] m bc bs Q) ∧ (¬ (97 : Int32) ≤ x1 → kd m a0 = some (oB 5) ∧ ∃ a2, gR m a0 14 = some a2 ∧ ∃ n5, kd m a2 = some (aR 0 n5) ∧ vp_in x1 n5 ∧ ∀ m7, m7 = mI m a2 x1.toNatClampNeg (0 : Int32) → WW l G xM_crash 31 [some (vR (some a0)), some (vI (x1 + 1))] [] m7 bc bs Q))) :
    WW l G xM_crash 31 [some (vR (some a0)), some (vI x1)] [] m bc bs Q := by
  refine x_iload_n dM_crash_31 rfl (n := 32) rfl ?_
  refine x_bipush (v := 97) dM_crash_32 (by decide) (n := 34) rfl ?_
  obtain ⟨h, h'⟩ := h
  refine x_icmp_ge (tgt := 50) dM_crash_34 rfl (n := 37) rfl (fun c8 => ?_) (fun c8 => ?_)
  · replace h := h c8
    refine x_iconst (v := 0) dM_crash_50 (by decide) (n := 51) rfl ?_
    refine x_istore_n dM_crash_51 (by decide) (L' := [some (vR (some a0)), some (vI (0 : Int32))]) rfl (n := 52) rfl ?_
    exact h
  · replace h := h' c8
    refine x_aload_n dM_crash_37 rfl (n := 38) rfl ?_
    obtain ⟨k1, h⟩ := h
    refine x_getR rfl dM_crash_38 fM_44 k1 (n := 41) rfl ?_
    refine x_iload_n dM_crash_41 rfl (n := 42) rfl ?_
    refine x_iconst (v := 0) dM_crash_42 (by decide) (n := 43) rfl ?_
    obtain ⟨a2, e3, h⟩ := h
    obtain ⟨n5, k4, h⟩ := h
    obtain ⟨c6, h⟩ := h
    replace h := h _ rfl
    refine x_iast e3 dM_crash_43 k4 c6 (n := 44) rfl ?_
    refine x_iinc (v := x1 + 1) dM_crash_44 rfl rfl (by decide) (L' := [some (vR (some a0)), some (vI (x1 + 1))]) rfl (n := 47) rfl ?_
    refine x_goto (tgt := 31) dM_crash_47 rfl ?_
    exact h
set_option maxRecDepth 100000 in
set_option maxHeartbeats 4000000 in
theorem bM_crash_52 {l : Launch} {G : xG} {m : XM} {bc bs : Nat} {Q : XR → XM → Prop} {a0 : Nat} {x1 : Int32}
    (h : (((13 : Int32) ≤ x1 → kd m a0 = some (oB 5) ∧ ∀ m2, m2 = mI m a0 16 (0 : Int32) → ∀ m3, m3 = mI m2 a0 13 (0 : Int32) → ∀ m4, m4 = mI m3 a0 3 (0 : Int32) → Q (.inl none) m4) ∧ (¬ (13 : Int32) ≤ x1 → kd m a0 = some (oB 5) ∧ ∃ a6, gR m a0 23 = some a6 ∧ ∃ n9, kd m a6 = some (aR 0 n9) ∧ vp_in x1 n9 ∧ ∀ m11, m11 = mI m a6 x1.toNatClampNeg (0 : Int32) → WW l G xM_crash 52 [some (vR (some a0)), some (vI (x1 + 1))] [] m11 bc bs Q))) :
    WW l G xM_crash 52 [some (vR (some a0)), some (vI x1)] [] m bc bs Q := by
  refine x_iload_n dM_crash_52 rfl (n := 53) rfl ?_
  refine x_bipush (v := 13) dM_crash_53 (by decide) (n := 55) rfl ?_
  obtain ⟨h, h'⟩ := h
  refine x_icmp_ge (tgt := 71) dM_crash_55 rfl (n := 58) rfl (fun c12 => ?_) (fun c12 => ?_)
  · replace h := h c12
    refine x_aload_n dM_crash_71 rfl (n := 72) rfl ?_
    refine x_iconst (v := 0) dM_crash_72 (by decide) (n := 73) rfl ?_
    obtain ⟨k1, h⟩ := h
    replace h := h _ rfl
    refine x_putI rfl dM_crash_73 pM_96 k1 rfl rfl (n := 76) rfl ?_
    refine x_aload_n dM_crash_76 rfl (n := 77) rfl ?_
    refine x_iconst (v := 0) dM_crash_77 (by decide) (n := 78) rfl ?_
    replace h := h _ rfl
    refine x_putI rfl dM_crash_78 pM_106 k1 rfl rfl (n := 81) rfl ?_
    refine x_aload_n dM_crash_81 rfl (n := 82) rfl ?_
    refine x_iconst (v := 0) dM_crash_82 (by decide) (n := 83) rfl ?_
    replace h := h _ rfl
    refine x_putI rfl dM_crash_83 pM_179 k1 rfl rfl (n := 86) rfl ?_
    exact x_vret dM_crash_86 rfl h
  · replace h := h' c12
    refine x_aload_n dM_crash_58 rfl (n := 59) rfl ?_
    obtain ⟨k5, h⟩ := h
    refine x_getR rfl dM_crash_59 fM_62 k5 (n := 62) rfl ?_
    refine x_iload_n dM_crash_62 rfl (n := 63) rfl ?_
    refine x_iconst (v := 0) dM_crash_63 (by decide) (n := 64) rfl ?_
    obtain ⟨a6, e7, h⟩ := h
    obtain ⟨n9, k8, h⟩ := h
    obtain ⟨c10, h⟩ := h
    replace h := h _ rfl
    refine x_iast e7 dM_crash_64 k8 c10 (n := 65) rfl ?_
    refine x_iinc (v := x1 + 1) dM_crash_65 rfl rfl (by decide) (L' := [some (vR (some a0)), some (vI (x1 + 1))]) rfl (n := 68) rfl ?_
    refine x_goto (tgt := 52) dM_crash_68 rfl ?_
    exact h
set_option maxRecDepth 100000 in
set_option maxHeartbeats 4000000 in
theorem bM_crash {l : Launch} {G : xG} {m : XM} {Q : XR → XM → Prop} {a0 : Nat} (hst : l.stackTraces = false)
    (h : kd m a0 = some (oB 5) ∧ (((gI m a0 1) = 0 → ∀ m2, m2 = mI m a0 0 (1 : Int32) → ((¬ (gI m2 a0 1) = 0 → ∀ m3, m3 = mI m2 a0 1 (0 : Int32) → WW l G xM_crash 31 [some (vR (some a0)), some (vI (0 : Int32))] [] m3 0 0 Q) ∧ ((gI m2 a0 1) = 0 → Q (.inl none) m2))) ∧ (¬ (gI m a0 1) = 0 → ∀ m5, m5 = mI m a0 0 (0 : Int32) → ((¬ (gI m5 a0 1) = 0 → ∀ m6, m6 = mI m5 a0 1 (0 : Int32) → WW l G xM_crash 31 [some (vR (some a0)), some (vI (0 : Int32))] [] m6 0 0 Q) ∧ ((gI m5 a0 1) = 0 → Q (.inl none) m5))))) :
    CC l G xM_crash [vR (some a0)] m Q := by
  refine x_entry (by decide +kernel) rfl hst (Nat.le_of_ble_eq_true rfl) (L0 := [some (vR (some a0)), none]) rfl ?_
  refine x_aload_n dM_crash_0 rfl (n := 1) rfl ?_
  refine x_aload_n dM_crash_1 rfl (n := 2) rfl ?_
  obtain ⟨k1, h⟩ := h
  refine x_getI rfl dM_crash_2 fM_7 k1 (n := 5) rfl ?_
  obtain ⟨h, h'⟩ := h
  refine x_if_eq (tgt := 12) dM_crash_5 rfl (n := 8) rfl (fun c8 => ?_) (fun c8 => ?_)
  · replace h := h c8
    refine x_iconst (v := 1) dM_crash_12 (by decide) (n := 13) rfl ?_
    replace h := h _ rfl
    refine x_putI rfl dM_crash_13 pM_65 k1 rfl rfl (n := 16) rfl ?_
    refine x_aload_n dM_crash_16 rfl (n := 17) rfl ?_
    refine x_getI rfl dM_crash_17 fM_7 k1 (n := 20) rfl ?_
    obtain ⟨h, h'⟩ := h
    refine x_if_ne (tgt := 24) dM_crash_20 rfl (n := 23) rfl (fun c4 => ?_) (fun c4 => ?_)
    · replace h := h c4
      refine x_aload_n dM_crash_24 rfl (n := 25) rfl ?_
      refine x_iconst (v := 0) dM_crash_25 (by decide) (n := 26) rfl ?_
      replace h := h _ rfl
      refine x_putI rfl dM_crash_26 pM_7 k1 (by decide) (by decide) (n := 29) rfl ?_
      refine x_iconst (v := 0) dM_crash_29 (by decide) (n := 30) rfl ?_
      refine x_istore_n dM_crash_30 (by decide) (L' := [some (vR (some a0)), some (vI (0 : Int32))]) rfl (n := 31) rfl ?_
      exact h
    · replace h := h' c4
      exact x_vret dM_crash_23 rfl h
  · replace h := h' c8
    refine x_iconst (v := 0) dM_crash_8 (by decide) (n := 9) rfl ?_
    refine x_goto (tgt := 13) dM_crash_9 rfl ?_
    replace h := h _ rfl
    refine x_putI rfl dM_crash_13 pM_65 k1 rfl rfl (n := 16) rfl ?_
    refine x_aload_n dM_crash_16 rfl (n := 17) rfl ?_
    refine x_getI rfl dM_crash_17 fM_7 k1 (n := 20) rfl ?_
    obtain ⟨h, h'⟩ := h
    refine x_if_ne (tgt := 24) dM_crash_20 rfl (n := 23) rfl (fun c7 => ?_) (fun c7 => ?_)
    · replace h := h c7
      refine x_aload_n dM_crash_24 rfl (n := 25) rfl ?_
      refine x_iconst (v := 0) dM_crash_25 (by decide) (n := 26) rfl ?_
      replace h := h _ rfl
      refine x_putI rfl dM_crash_26 pM_7 k1 (by decide) (by decide) (n := 29) rfl ?_
      refine x_iconst (v := 0) dM_crash_29 (by decide) (n := 30) rfl ?_
      refine x_istore_n dM_crash_30 (by decide) (L' := [some (vR (some a0)), some (vI (0 : Int32))]) rfl (n := 31) rfl ?_
      exact h
    · replace h := h' c7
      exact x_vret dM_crash_23 rfl h
set_option maxRecDepth 100000 in
set_option maxHeartbeats 4000000 in
theorem bM_open {l : Launch} {G : xG} {m : XM} {Q : XR → XM → Prop} {a0 : Nat} (hst : l.stackTraces = false)
    (h : kd m a0 = some (oB 5) ∧ (((gI m a0 1) = 0 → ∀ m2, m2 = mI m a0 0 (0 : Int32) → (((gI m2 a0 1) = 0 → ∀ m3, m3 = mI m2 a0 1 (1 : Int32) → CC l G xM_indexed [vR (some a0)] m3 (kI (fun v5 m4 => Q (.inl (some (vI v5))) m4) Q)) ∧ (¬ (gI m2 a0 1) = 0 → Q (.inl (some (vI (0 : Int32)))) m2))) ∧ (¬ (gI m a0 1) = 0 → ∀ m7, m7 = mI m a0 0 (1 : Int32) → (((gI m7 a0 1) = 0 → ∀ m8, m8 = mI m7 a0 1 (1 : Int32) → CC l G xM_indexed [vR (some a0)] m8 (kI (fun v10 m9 => Q (.inl (some (vI v10))) m9) Q)) ∧ (¬ (gI m7 a0 1) = 0 → Q (.inl (some (vI (0 : Int32)))) m7))))) :
    CC l G xM_open [vR (some a0)] m Q := by
  refine x_entry (by decide +kernel) rfl hst (Nat.le_of_ble_eq_true rfl) (L0 := [some (vR (some a0))]) rfl ?_
  refine x_aload_n dM_open_0 rfl (n := 1) rfl ?_
  refine x_aload_n dM_open_1 rfl (n := 2) rfl ?_
  obtain ⟨k1, h⟩ := h
  refine x_getI rfl dM_open_2 fM_7 k1 (n := 5) rfl ?_
  obtain ⟨h, h'⟩ := h
  refine x_if_eq (tgt := 12) dM_open_5 rfl (n := 8) rfl (fun c12 => ?_) (fun c12 => ?_)
  · replace h := h c12
    refine x_iconst (v := 0) dM_open_12 (by decide) (n := 13) rfl ?_
    replace h := h _ rfl
    refine x_putI rfl dM_open_13 pM_65 k1 rfl rfl (n := 16) rfl ?_
    refine x_aload_n dM_open_16 rfl (n := 17) rfl ?_
    refine x_getI rfl dM_open_17 fM_7 k1 (n := 20) rfl ?_
    obtain ⟨h, h'⟩ := h
    refine x_if_eq (tgt := 25) dM_open_20 rfl (n := 23) rfl (fun c6 => ?_) (fun c6 => ?_)
    · replace h := h c6
      refine x_aload_n dM_open_25 rfl (n := 26) rfl ?_
      refine x_iconst (v := 1) dM_open_26 (by decide) (n := 27) rfl ?_
      replace h := h _ rfl
      refine x_putI rfl dM_open_27 pM_7 k1 (by decide) (by decide) (n := 30) rfl ?_
      refine x_aload_n dM_open_30 rfl (n := 31) rfl ?_
      refine x_invV (m := (mI (mI m a0 0 (0 : Int32)) a0 1 (1 : Int32))) rfl dM_open_31 gM_open_31 (as := []) (st := []) rfl rfl k1 rfl rfl (Nat.le_of_ble_eq_true rfl) (n := 34) rfl rfl rfl h (xBk.I fun v5 m4 h => ?_)
      exact x_iret dM_open_34 rfl h
    · replace h := h' c6
      refine x_iconst (v := 0) dM_open_23 (by decide) (n := 24) rfl ?_
      exact x_iret dM_open_24 rfl h
  · replace h := h' c12
    refine x_iconst (v := 1) dM_open_8 (by decide) (n := 9) rfl ?_
    refine x_goto (tgt := 13) dM_open_9 rfl ?_
    replace h := h _ rfl
    refine x_putI rfl dM_open_13 pM_65 k1 rfl rfl (n := 16) rfl ?_
    refine x_aload_n dM_open_16 rfl (n := 17) rfl ?_
    refine x_getI rfl dM_open_17 fM_7 k1 (n := 20) rfl ?_
    obtain ⟨h, h'⟩ := h
    refine x_if_eq (tgt := 25) dM_open_20 rfl (n := 23) rfl (fun c11 => ?_) (fun c11 => ?_)
    · replace h := h c11
      refine x_aload_n dM_open_25 rfl (n := 26) rfl ?_
      refine x_iconst (v := 1) dM_open_26 (by decide) (n := 27) rfl ?_
      replace h := h _ rfl
      refine x_putI rfl dM_open_27 pM_7 k1 (by decide) (by decide) (n := 30) rfl ?_
      refine x_aload_n dM_open_30 rfl (n := 31) rfl ?_
      refine x_invV (m := (mI (mI m a0 0 (1 : Int32)) a0 1 (1 : Int32))) rfl dM_open_31 gM_open_31 (as := []) (st := []) rfl rfl k1 rfl rfl (Nat.le_of_ble_eq_true rfl) (n := 34) rfl rfl rfl h (xBk.I fun v10 m9 h => ?_)
      exact x_iret dM_open_34 rfl h
    · replace h := h' c11
      refine x_iconst (v := 0) dM_open_23 (by decide) (n := 24) rfl ?_
      exact x_iret dM_open_24 rfl h
set_option maxRecDepth 100000 in
set_option maxHeartbeats 4000000 in
theorem bM_indexed_5 {l : Launch} {G : xG} {m : XM} {bc bs : Nat} {Q : XR → XM → Prop} {a0 : Nat} {x1 : Int32} {x2 : Int32}
    (h : (((97 : Int32) ≤ x2 → Q (.inl (some (vI x1))) m) ∧ (¬ (97 : Int32) ≤ x2 → WW l G xM_indexed 13 [some (vR (some a0)), some (vI x1), some (vI x2), some (vI (0 : Int32))] [] m bc bs Q))) :
    WW l G xM_indexed 5 [some (vR (some a0)), some (vI x1), some (vI x2), none] [] m bc bs Q := by
  refine x_iload_n dM_indexed_5 rfl (n := 6) rfl ?_
  refine x_bipush (v := 97) dM_indexed_6 (by decide) (n := 8) rfl ?_
  obtain ⟨h, h'⟩ := h
  refine x_icmp_ge (tgt := 62) dM_indexed_8 rfl (n := 11) rfl (fun c1 => ?_) (fun c1 => ?_)
  · replace h := h c1
    refine x_iload_n dM_indexed_62 rfl (n := 63) rfl ?_
    exact x_iret dM_indexed_63 rfl h
  · replace h := h' c1
    refine x_iconst (v := 0) dM_indexed_11 (by decide) (n := 12) rfl ?_
    refine x_istore_n dM_indexed_12 (by decide) (L' := [some (vR (some a0)), some (vI x1), some (vI x2), some (vI (0 : Int32))]) rfl (n := 13) rfl ?_
    exact h
set_option maxRecDepth 100000 in
set_option maxHeartbeats 4000000 in
theorem bM_indexed_13 {l : Launch} {G : xG} {m : XM} {bc bs : Nat} {Q : XR → XM → Prop} {a0 : Nat} {x1 : Int32} {x2 : Int32} {x3 : Int32}
    (h : kd m a0 = some (oB 5) ∧ ∃ a2, gR m a0 14 = some a2 ∧ ∃ n5, kd m a2 = some (aR 0 n5) ∧ vp_in x2 n5 ∧ (((gI m a2 x2.toNatClampNeg) ≤ x3 → WW l G xM_indexed 5 [some (vR (some a0)), some (vI x1), some (vI (x2 + 1)), none] [] m bc bs Q) ∧ (¬ (gI m a2 x2.toNatClampNeg) ≤ x3 → ∃ a7, gR m a0 15 = some a7 ∧ ∃ n10, kd m a7 = some (aR 0 n10) ∧ vp_in (((8 : Int32) * x2) + x3) n10 ∧ ∃ a12, gR m a0 9 = some a12 ∧ ∃ n15, kd m a12 = some (aR 1 n15) ∧ vp_in (gI m a7 (((8 : Int32) * x2) + x3).toNatClampNeg) n15 ∧ (((gI m a12 (gI m a7 (((8 : Int32) * x2) + x3).toNatClampNeg).toNatClampNeg) = 0 → WW l G xM_indexed 13 [some (vR (some a0)), some (vI (x1 + (0 : Int32))), some (vI x2), some (vI (x3 + 1))] [] m bc bs Q) ∧ (¬ (gI m a12 (gI m a7 (((8 : Int32) * x2) + x3).toNatClampNeg).toNatClampNeg) = 0 → WW l G xM_indexed 13 [some (vR (some a0)), some (vI (x1 + (1 : Int32))), some (vI x2), some (vI (x3 + 1))] [] m bc bs Q))))) :
    WW l G xM_indexed 13 [some (vR (some a0)), some (vI x1), some (vI x2), some (vI x3)] [] m bc bs Q := by
  refine x_iload_n dM_indexed_13 rfl (n := 14) rfl ?_
  refine x_aload_n dM_indexed_14 rfl (n := 15) rfl ?_
  obtain ⟨k1, h⟩ := h
  refine x_getR rfl dM_indexed_15 fM_44 k1 (n := 18) rfl ?_
  refine x_iload_n dM_indexed_18 rfl (n := 19) rfl ?_
  obtain ⟨a2, e3, h⟩ := h
  obtain ⟨n5, k4, h⟩ := h
  obtain ⟨c6, h⟩ := h
  refine x_iald e3 dM_indexed_19 k4 c6 (n := 20) rfl ?_
  obtain ⟨h, h'⟩ := h
  refine x_icmp_ge (tgt := 56) dM_indexed_20 rfl (n := 23) rfl (fun c18 => ?_) (fun c18 => ?_)
  · replace h := h c18
    refine x_iinc (v := x2 + 1) dM_indexed_56 rfl rfl (by decide) (L' := [some (vR (some a0)), some (vI x1), some (vI (x2 + 1)), some (vI x3)]) rfl (n := 59) rfl ?_
    refine x_goto (tgt := 5) dM_indexed_59 rfl ?_
    exact x_weak (b := [true, true, true, false]) rfl h
  · replace h := h' c18
    refine x_iload_n dM_indexed_23 rfl (n := 24) rfl ?_
    refine x_aload_n dM_indexed_24 rfl (n := 25) rfl ?_
    refine x_getR rfl dM_indexed_25 fM_31 k1 (n := 28) rfl ?_
    refine x_aload_n dM_indexed_28 rfl (n := 29) rfl ?_
    refine x_getR rfl dM_indexed_29 fM_47 k1 (n := 32) rfl ?_
    refine x_bipush (v := 8) dM_indexed_32 (by decide) (n := 34) rfl ?_
    refine x_iload_n dM_indexed_34 rfl (n := 35) rfl ?_
    refine x_imul dM_indexed_35 (n := 36) rfl ?_
    refine x_iload_n dM_indexed_36 rfl (n := 37) rfl ?_
    refine x_iadd dM_indexed_37 (n := 38) rfl ?_
    obtain ⟨a7, e8, h⟩ := h
    obtain ⟨n10, k9, h⟩ := h
    obtain ⟨c11, h⟩ := h
    refine x_iald e8 dM_indexed_38 k9 c11 (n := 39) rfl ?_
    obtain ⟨a12, e13, h⟩ := h
    obtain ⟨n15, k14, h⟩ := h
    obtain ⟨c16, h⟩ := h
    refine x_zald e13 dM_indexed_39 k14 c16 (n := 40) rfl ?_
    obtain ⟨h, h'⟩ := h
    refine x_if_eq (tgt := 47) dM_indexed_40 rfl (n := 43) rfl (fun c17 => ?_) (fun c17 => ?_)
    · replace h := h c17
      refine x_iconst (v := 0) dM_indexed_47 (by decide) (n := 48) rfl ?_
      refine x_iadd dM_indexed_48 (n := 49) rfl ?_
      refine x_istore_n dM_indexed_49 (by decide) (L' := [some (vR (some a0)), some (vI (x1 + (0 : Int32))), some (vI x2), some (vI x3)]) rfl (n := 50) rfl ?_
      refine x_iinc (v := x3 + 1) dM_indexed_50 rfl rfl (by decide) (L' := [some (vR (some a0)), some (vI (x1 + (0 : Int32))), some (vI x2), some (vI (x3 + 1))]) rfl (n := 53) rfl ?_
      refine x_goto (tgt := 13) dM_indexed_53 rfl ?_
      exact h
    · replace h := h' c17
      refine x_iconst (v := 1) dM_indexed_43 (by decide) (n := 44) rfl ?_
      refine x_goto (tgt := 48) dM_indexed_44 rfl ?_
      refine x_iadd dM_indexed_48 (n := 49) rfl ?_
      refine x_istore_n dM_indexed_49 (by decide) (L' := [some (vR (some a0)), some (vI (x1 + (1 : Int32))), some (vI x2), some (vI x3)]) rfl (n := 50) rfl ?_
      refine x_iinc (v := x3 + 1) dM_indexed_50 rfl rfl (by decide) (L' := [some (vR (some a0)), some (vI (x1 + (1 : Int32))), some (vI x2), some (vI (x3 + 1))]) rfl (n := 53) rfl ?_
      refine x_goto (tgt := 13) dM_indexed_53 rfl ?_
      exact h
set_option maxRecDepth 100000 in
set_option maxHeartbeats 4000000 in
theorem bM_indexed {l : Launch} {G : xG} {m : XM} {Q : XR → XM → Prop} {a0 : Nat} (hst : l.stackTraces = false)
    (h : WW l G xM_indexed 5 [some (vR (some a0)), some (vI (0 : Int32)), some (vI (64 : Int32)), none] [] m 0 0 Q) :
    CC l G xM_indexed [vR (some a0)] m Q := by
  refine x_entry (by decide +kernel) rfl hst (Nat.le_of_ble_eq_true rfl) (L0 := [some (vR (some a0)), none, none, none]) rfl ?_
  refine x_iconst (v := 0) dM_indexed_0 (by decide) (n := 1) rfl ?_
  refine x_istore_n dM_indexed_1 (by decide) (L' := [some (vR (some a0)), some (vI (0 : Int32)), none, none]) rfl (n := 2) rfl ?_
  refine x_bipush (v := 64) dM_indexed_2 (by decide) (n := 4) rfl ?_
  refine x_istore_n dM_indexed_4 (by decide) (L' := [some (vR (some a0)), some (vI (0 : Int32)), some (vI (64 : Int32)), none]) rfl (n := 5) rfl ?_
  exact h
set_option maxRecDepth 100000 in
set_option maxHeartbeats 4000000 in
theorem bM_count {l : Launch} {G : xG} {m : XM} {Q : XR → XM → Prop} {a0 : Nat} {x1 : Int32} (hst : l.stackTraces = false)
    (h : kd m a0 = some (oB 5) ∧ ∀ m2, m2 = mI m a0 0 (0 : Int32) → CC l G xM_within [vI x1, vI (0 : Int32), vI (12 : Int32)] m2 (kI (fun v4 m3 => ((¬ v4 = 0 → ((¬ x1 = (11 : Int32) → ((¬ x1 = (12 : Int32) → kd m3 a0 = some (oB 5) ∧ ∃ a6, gR m3 a0 23 = some a6 ∧ ∃ n9, kd m3 a6 = some (aR 0 n9) ∧ vp_in x1 n9 ∧ Q (.inl (some (vI (gI m3 a6 x1.toNatClampNeg)))) m3) ∧ (x1 = (12 : Int32) → kd m3 a0 = some (oB 5) ∧ CC l G xM_wordsOf [vR (some a0), vI (96 : Int32)] m3 (kI (fun v13 m12 => Q (.inl (some (vI v13))) m12) Q)))) ∧ (x1 = (11 : Int32) → kd m3 a0 = some (oB 5) ∧ CC l G xM_indexed [vR (some a0)] m3 (kI (fun v17 m16 => Q (.inl (some (vI v17))) m16) Q)))) ∧ (v4 = 0 → Q (.inl (some (vI (-1 : Int32)))) m3))) Q)) :
    CC l G xM_count [vR (some a0), vI x1] m Q := by
  refine x_entry (by decide +kernel) rfl hst (Nat.le_of_ble_eq_true rfl) (L0 := [some (vR (some a0)), some (vI x1)]) rfl ?_
  refine x_aload_n dM_count_0 rfl (n := 1) rfl ?_
  refine x_iconst (v := 0) dM_count_1 (by decide) (n := 2) rfl ?_
  obtain ⟨k1, h⟩ := h
  replace h := h _ rfl
  refine x_putI rfl dM_count_2 pM_65 k1 rfl rfl (n := 5) rfl ?_
  refine x_iload_n dM_count_5 rfl (n := 6) rfl ?_
  refine x_iconst (v := 0) dM_count_6 (by decide) (n := 7) rfl ?_
  refine x_bipush (v := 12) dM_count_7 (by decide) (n := 9) rfl ?_
  refine x_invS (m := (mI m a0 0 (0 : Int32))) dM_count_9 gM_count_9 (as := [vI x1, vI (0 : Int32), vI (12 : Int32)]) (st := []) rfl rfl (Nat.le_of_ble_eq_true rfl) (n := 12) rfl rfl rfl h (xBk.I fun v4 m3 h => ?_)
  obtain ⟨h, h'⟩ := h
  refine x_if_ne (tgt := 17) dM_count_12 rfl (n := 15) rfl (fun c19 => ?_) (fun c19 => ?_)
  · replace h := h c19
    refine x_iload_n dM_count_17 rfl (n := 18) rfl ?_
    refine x_bipush (v := 11) dM_count_18 (by decide) (n := 20) rfl ?_
    obtain ⟨h, h'⟩ := h
    refine x_icmp_ne (tgt := 30) dM_count_20 rfl (n := 23) rfl (fun c18 => ?_) (fun c18 => ?_)
    · replace h := h c18
      refine x_iload_n dM_count_30 rfl (n := 31) rfl ?_
      refine x_bipush (v := 12) dM_count_31 (by decide) (n := 33) rfl ?_
      obtain ⟨h, h'⟩ := h
      refine x_icmp_ne (tgt := 45) dM_count_33 rfl (n := 36) rfl (fun c14 => ?_) (fun c14 => ?_)
      · replace h := h c14
        refine x_aload_n dM_count_45 rfl (n := 46) rfl ?_
        obtain ⟨k5, h⟩ := h
        refine x_getR rfl dM_count_46 fM_62 k5 (n := 49) rfl ?_
        refine x_iload_n dM_count_49 rfl (n := 50) rfl ?_
        obtain ⟨a6, e7, h⟩ := h
        obtain ⟨n9, k8, h⟩ := h
        obtain ⟨c10, h⟩ := h
        refine x_iald e7 dM_count_50 k8 c10 (n := 51) rfl ?_
        exact x_iret dM_count_51 rfl h
      · replace h := h' c14
        refine x_aload_n dM_count_36 rfl (n := 37) rfl ?_
        refine x_bipush (v := 96) dM_count_37 (by decide) (n := 39) rfl ?_
        obtain ⟨k11, h⟩ := h
        refine x_invV (m := m3) rfl dM_count_39 gM_count_39 (as := [vI (96 : Int32)]) (st := []) rfl rfl k11 rfl rfl (Nat.le_of_ble_eq_true rfl) (n := 42) rfl rfl rfl h (xBk.I fun v13 m12 h => ?_)
        refine x_goto (tgt := 51) dM_count_42 rfl ?_
        exact x_iret dM_count_51 rfl h
    · replace h := h' c18
      refine x_aload_n dM_count_23 rfl (n := 24) rfl ?_
      obtain ⟨k15, h⟩ := h
      refine x_invV (m := m3) rfl dM_count_24 gM_count_24 (as := []) (st := []) rfl rfl k15 rfl rfl (Nat.le_of_ble_eq_true rfl) (n := 27) rfl rfl rfl h (xBk.I fun v17 m16 h => ?_)
      refine x_goto (tgt := 51) dM_count_27 rfl ?_
      exact x_iret dM_count_51 rfl h
  · replace h := h' c19
    refine x_iconst (v := -1) dM_count_15 (by decide) (n := 16) rfl ?_
    exact x_iret dM_count_16 rfl h
