set_option maxRecDepth 100000 in
set_option maxHeartbeats 4000000 in
theorem bP_init {l : Launch} {G : xG} {m : XM} {Q : XR → XM → Prop} {a0 : Nat} (hst : l.stackTraces = false)
    (h : ∃ bc1 bs2, 1 = bc1 + 1 ∧ 8 = bs2 + 8 ∧ ∀ a5, kd m a5 = none → ∀ m7, m7 = mN m a5 (aR 3 8) → kd m7 a0 = some (oB 3) ∧ ∀ m10, m10 = mR m7 a0 0 (some a5) → ∀ m11, m11 = mI m10 a0 1 (0 : Int32) → ∀ m12, m12 = mI m11 a0 2 (0 : Int32) → ∀ m13, m13 = mL m12 a0 3 (0 : Int64) → Q (.inl none) m13) :
    CC l G xP_init [vR (some a0)] m Q := by
  refine x_entry (by decide +kernel) rfl hst (Nat.le_of_ble_eq_true rfl) (L0 := [some (vR (some a0))]) rfl ?_
  refine x_aload_n dP_init_0 rfl (n := 1) rfl ?_
  refine x_objInit dP_init_1 w_69 w_58 w_59 (by decide) (by decide) (n := 4) rfl ?_
  refine x_aload_n dP_init_4 rfl (n := 5) rfl ?_
  refine x_bipush (v := 8) dP_init_5 (by decide) (n := 7) rfl ?_
  obtain ⟨bc1, bs2, b3, b4, h⟩ := h
  refine x_anew (t := 3) (N := 8) dP_init_7 w_70 (by decide) (by decide) (by decide) (by decide) (n := 10) rfl (by decide) b3 b4 fun a5 f6 => ?_
  replace h := h a5 f6 _ rfl
  have k8 := kdNs m a5 (aR 3 8)
  obtain ⟨k9, h⟩ := h
  replace h := h _ rfl
  refine x_putR rfl dP_init_10 pP_11 k9 (fun o => by cases o <;> rfl) (fun o => by cases o <;> rfl) (n := 13) rfl ?_
  refine x_aload_n dP_init_13 rfl (n := 14) rfl ?_
  refine x_iconst (v := 0) dP_init_14 (by decide) (n := 15) rfl ?_
  replace h := h _ rfl
  refine x_putI rfl dP_init_15 pP_17 k9 rfl rfl (n := 18) rfl ?_
  refine x_aload_n dP_init_18 rfl (n := 19) rfl ?_
  refine x_iconst (v := 0) dP_init_19 (by decide) (n := 20) rfl ?_
  replace h := h _ rfl
  refine x_putI rfl dP_init_20 pP_21 k9 rfl rfl (n := 23) rfl ?_
  refine x_aload_n dP_init_23 rfl (n := 24) rfl ?_
  refine x_lconst (v := 0) dP_init_24 (by decide) (n := 25) rfl ?_
  replace h := h _ rfl
  refine x_putL rfl dP_init_25 pP_24 k9 rfl rfl (n := 28) rfl ?_
  exact x_vret dP_init_28 rfl h
set_option maxRecDepth 100000 in
set_option maxHeartbeats 4000000 in
theorem bP_hasRoomFor {l : Launch} {G : xG} {m : XM} {Q : XR → XM → Prop} {a0 : Nat} {x1 : Int32} (hst : l.stackTraces = false)
    (h : kd m a0 = some (oB 3) ∧ (((32 : Int32) < ((gI m a0 2) + x1) → Q (.inl (some (vI (0 : Int32)))) m) ∧ (¬ (32 : Int32) < ((gI m a0 2) + x1) → Q (.inl (some (vI (1 : Int32)))) m))) :
    CC l G xP_hasRoomFor [vR (some a0), vI x1] m Q := by
  refine x_entry (by decide +kernel) rfl hst (Nat.le_of_ble_eq_true rfl) (L0 := [some (vR (some a0)), some (vI x1)]) rfl ?_
  refine x_aload_n dP_hasRoomFor_0 rfl (n := 1) rfl ?_
  obtain ⟨k1, h⟩ := h
  refine x_getI rfl dP_hasRoomFor_1 fP_21 k1 (n := 4) rfl ?_
  refine x_iload_n dP_hasRoomFor_4 rfl (n := 5) rfl ?_
  refine x_iadd dP_hasRoomFor_5 (n := 6) rfl ?_
  refine x_bipush (v := 32) dP_hasRoomFor_6 (by decide) (n := 8) rfl ?_
  obtain ⟨h, h'⟩ := h
  refine x_icmp_gt (tgt := 15) dP_hasRoomFor_8 rfl (n := 11) rfl (fun c2 => ?_) (fun c2 => ?_)
  · replace h := h c2
    refine x_iconst (v := 0) dP_hasRoomFor_15 (by decide) (n := 16) rfl ?_
    exact x_zret dP_hasRoomFor_16 rfl (by decide) h
  · replace h := h' c2
    refine x_iconst (v := 1) dP_hasRoomFor_11 (by decide) (n := 12) rfl ?_
    refine x_goto (tgt := 16) dP_hasRoomFor_12 rfl ?_
    exact x_zret dP_hasRoomFor_16 rfl (by decide) h
set_option maxRecDepth 100000 in
set_option maxHeartbeats 4000000 in
theorem bP_find {l : Launch} {G : xG} {m : XM} {Q : XR → XM → Prop} {a0 : Nat} {x1 : Int64} (hst : l.stackTraces = false)
    (h : kd m a0 = some (oB 3) ∧ CC l G xP_placeOf [vR (some a0), vL x1] m (kI (fun v3 m2 => ((¬ v3 = (-1 : Int32) → kd m2 a0 = some (oB 3) ∧ ∃ a5, gR m2 a0 0 = some a5 ∧ ∃ n8, kd m2 a5 = some (aR 3 n8) ∧ vp_in v3 n8 ∧ Q (.inl (some (vR (gR m2 a5 v3.toNatClampNeg)))) m2) ∧ (v3 = (-1 : Int32) → Q (.inl (some (vR none))) m2))) Q)) :
    CC l G xP_find [vR (some a0), vL x1] m Q := by
  refine x_entry (by decide +kernel) rfl hst (Nat.le_of_ble_eq_true rfl) (L0 := [some (vR (some a0)), some (vL x1), none, none]) rfl ?_
  refine x_aload_n dP_find_0 rfl (n := 1) rfl ?_
  refine x_lload_n dP_find_1 rfl (n := 2) rfl ?_
  obtain ⟨k1, h⟩ := h
  refine x_invV (m := m) rfl dP_find_2 gP_find_2 (as := [vL x1]) (st := []) rfl rfl k1 rfl rfl (Nat.le_of_ble_eq_true rfl) (n := 5) rfl rfl rfl h (xBk.I fun v3 m2 h => ?_)
  refine x_istore_n dP_find_5 (by decide) (L' := [some (vR (some a0)), some (vL x1), none, some (vI v3)]) rfl (n := 6) rfl ?_
  refine x_iload_n dP_find_6 rfl (n := 7) rfl ?_
  refine x_iconst (v := -1) dP_find_7 (by decide) (n := 8) rfl ?_
  obtain ⟨h, h'⟩ := h
  refine x_icmp_ne (tgt := 15) dP_find_8 rfl (n := 11) rfl (fun c10 => ?_) (fun c10 => ?_)
  · replace h := h c10
    refine x_aload_n dP_find_15 rfl (n := 16) rfl ?_
    obtain ⟨k4, h⟩ := h
    refine x_getR rfl dP_find_16 fP_11 k4 (n := 19) rfl ?_
    refine x_iload_n dP_find_19 rfl (n := 20) rfl ?_
    obtain ⟨a5, e6, h⟩ := h
    obtain ⟨n8, k7, h⟩ := h
    obtain ⟨c9, h⟩ := h
    refine x_aald e6 dP_find_20 k7 (by decide) c9 (n := 21) rfl ?_
    exact x_aret dP_find_21 rfl (Or.inl ⟨_, rfl⟩) h
  · replace h := h' c10
    refine x_null dP_find_11 (n := 12) rfl ?_
    refine x_goto (tgt := 21) dP_find_12 rfl ?_
    exact x_aret dP_find_21 rfl (Or.inl ⟨_, rfl⟩) h
set_option maxRecDepth 100000 in
set_option maxHeartbeats 4000000 in
theorem bP_placeOf_2 {l : Launch} {G : xG} {m : XM} {bc bs : Nat} {Q : XR → XM → Prop} {a0 : Nat} {x1 : Int64} {x3 : Int32}
    (h : kd m a0 = some (oB 3) ∧ (((gI m a0 1) ≤ x3 → Q (.inl (some (vI (-1 : Int32)))) m) ∧ (¬ (gI m a0 1) ≤ x3 → ∃ a2, gR m a0 0 = some a2 ∧ ∃ n5, kd m a2 = some (aR 3 n5) ∧ vp_in x3 n5 ∧ ∃ a7, gR m a2 x3.toNatClampNeg = some a7 ∧ kd m a7 = some (oB 1) ∧ ((¬ (lg_cmp (gL m a7 0) x1) = 0 → WW l G xP_placeOf 2 [some (vR (some a0)), some (vL x1), none, some (vI (x3 + 1))] [] m bc bs Q) ∧ ((lg_cmp (gL m a7 0) x1) = 0 → Q (.inl (some (vI x3))) m))))) :
    WW l G xP_placeOf 2 [some (vR (some a0)), some (vL x1), none, some (vI x3)] [] m bc bs Q := by
  refine x_iload_n dP_placeOf_2 rfl (n := 3) rfl ?_
  refine x_aload_n dP_placeOf_3 rfl (n := 4) rfl ?_
  obtain ⟨k1, h⟩ := h
  refine x_getI rfl dP_placeOf_4 fP_17 k1 (n := 7) rfl ?_
  obtain ⟨h, h'⟩ := h
  refine x_icmp_ge (tgt := 32) dP_placeOf_7 rfl (n := 10) rfl (fun c11 => ?_) (fun c11 => ?_)
  · replace h := h c11
    refine x_iconst (v := -1) dP_placeOf_32 (by decide) (n := 33) rfl ?_
    exact x_iret dP_placeOf_33 rfl h
  · replace h := h' c11
    refine x_aload_n dP_placeOf_10 rfl (n := 11) rfl ?_
    refine x_getR rfl dP_placeOf_11 fP_11 k1 (n := 14) rfl ?_
    refine x_iload_n dP_placeOf_14 rfl (n := 15) rfl ?_
    obtain ⟨a2, e3, h⟩ := h
    obtain ⟨n5, k4, h⟩ := h
    obtain ⟨c6, h⟩ := h
    refine x_aald e3 dP_placeOf_15 k4 (by decide) c6 (n := 16) rfl ?_
    obtain ⟨a7, e8, h⟩ := h
    obtain ⟨k9, h⟩ := h
    refine x_getL e8 dP_placeOf_16 fP_54 k9 (n := 19) rfl ?_
    refine x_lload_n dP_placeOf_19 rfl (n := 20) rfl ?_
    refine x_lcmp dP_placeOf_20 (n := 21) rfl ?_
    obtain ⟨h, h'⟩ := h
    refine x_if_ne (tgt := 26) dP_placeOf_21 rfl (n := 24) rfl (fun c10 => ?_) (fun c10 => ?_)
    · replace h := h c10
      refine x_iinc (v := x3 + 1) dP_placeOf_26 rfl rfl (by decide) (L' := [some (vR (some a0)), some (vL x1), none, some (vI (x3 + 1))]) rfl (n := 29) rfl ?_
      refine x_goto (tgt := 2) dP_placeOf_29 rfl ?_
      exact h
    · replace h := h' c10
      refine x_iload_n dP_placeOf_24 rfl (n := 25) rfl ?_
      exact x_iret dP_placeOf_25 rfl h
set_option maxRecDepth 100000 in
set_option maxHeartbeats 4000000 in
theorem bP_placeOf {l : Launch} {G : xG} {m : XM} {Q : XR → XM → Prop} {a0 : Nat} {x1 : Int64} (hst : l.stackTraces = false)
    (h : WW l G xP_placeOf 2 [some (vR (some a0)), some (vL x1), none, some (vI (0 : Int32))] [] m 0 0 Q) :
    CC l G xP_placeOf [vR (some a0), vL x1] m Q := by
  refine x_entry (by decide +kernel) rfl hst (Nat.le_of_ble_eq_true rfl) (L0 := [some (vR (some a0)), some (vL x1), none, none]) rfl ?_
  refine x_iconst (v := 0) dP_placeOf_0 (by decide) (n := 1) rfl ?_
  refine x_istore_n dP_placeOf_1 (by decide) (L' := [some (vR (some a0)), some (vL x1), none, some (vI (0 : Int32))]) rfl (n := 2) rfl ?_
  exact h
set_option maxRecDepth 100000 in
set_option maxHeartbeats 4000000 in
theorem bP_remove {l : Launch} {G : xG} {m : XM} {Q : XR → XM → Prop} {a0 : Nat} {x1 : Int64} (hst : l.stackTraces = false)
    (h : kd m a0 = some (oB 3) ∧ CC l G xP_placeOf [vR (some a0), vL x1] m (kI (fun v3 m2 => ((v3 = (-1 : Int32) → Q (.inl none) m2) ∧ (¬ v3 = (-1 : Int32) → kd m2 a0 = some (oB 3) ∧ CC l G xP_removeAt [vR (some a0), vI v3] m2 (kV (fun m5 => Q (.inl none) m5) Q)))) Q)) :
    CC l G xP_remove [vR (some a0), vL x1] m Q := by
  refine x_entry (by decide +kernel) rfl hst (Nat.le_of_ble_eq_true rfl) (L0 := [some (vR (some a0)), some (vL x1), none, none]) rfl ?_
  refine x_aload_n dP_remove_0 rfl (n := 1) rfl ?_
  refine x_lload_n dP_remove_1 rfl (n := 2) rfl ?_
  obtain ⟨k1, h⟩ := h
  refine x_invV (m := m) rfl dP_remove_2 gP_remove_2 (as := [vL x1]) (st := []) rfl rfl k1 rfl rfl (Nat.le_of_ble_eq_true rfl) (n := 5) rfl rfl rfl h (xBk.I fun v3 m2 h => ?_)
  refine x_istore_n dP_remove_5 (by decide) (L' := [some (vR (some a0)), some (vL x1), none, some (vI v3)]) rfl (n := 6) rfl ?_
  refine x_iload_n dP_remove_6 rfl (n := 7) rfl ?_
  refine x_iconst (v := -1) dP_remove_7 (by decide) (n := 8) rfl ?_
  obtain ⟨h, h'⟩ := h
  refine x_icmp_eq (tgt := 16) dP_remove_8 rfl (n := 11) rfl (fun c6 => ?_) (fun c6 => ?_)
  · replace h := h c6
    exact x_vret dP_remove_16 rfl h
  · replace h := h' c6
    refine x_aload_n dP_remove_11 rfl (n := 12) rfl ?_
    refine x_iload_n dP_remove_12 rfl (n := 13) rfl ?_
    obtain ⟨k4, h⟩ := h
    refine x_invV (m := m2) rfl dP_remove_13 gP_remove_13 (as := [vI v3]) (st := []) rfl rfl k4 rfl rfl (Nat.le_of_ble_eq_true rfl) (n := 16) rfl rfl rfl h (xBk.V fun m5 h => ?_)
    exact x_vret dP_remove_16 rfl h
set_option maxRecDepth 100000 in
set_option maxHeartbeats 4000000 in
theorem bP_removeAt_30 {l : Launch} {G : xG} {m : XM} {bc bs : Nat} {Q : XR → XM → Prop} {a0 : Nat} {x1 : Int32} {x2 : Int32}
    (h : kd m a0 = some (oB 3) ∧ (((gI m a0 1) ≤ x2 → ∃ a2, gR m a0 0 = some a2 ∧ ∃ n5, kd m a2 = some (aR 3 n5) ∧ vp_in (gI m a0 1) n5 ∧ ∀ m7, m7 = mR m a2 (gI m a0 1).toNatClampNeg none → ∀ m8, m8 = mL m7 a0 3 (0 : Int64) → WW l G xP_removeAt 75 [some (vR (some a0)), some (vI x1), some (vI (0 : Int32))] [] m8 bc bs Q) ∧ (¬ (gI m a0 1) ≤ x2 → ∃ a9, gR m a0 0 = some a9 ∧ ∃ n12, kd m a9 = some (aR 3 n12) ∧ vp_in (x2 + (1 : Int32)) n12 ∧ vp_in x2 n12 ∧ ∃ a15, gR m a9 (x2 + (1 : Int32)).toNatClampNeg = some a15 ∧ kd m a15 = some (oB 1) ∧ ∀ m18, m18 = mR m a9 x2.toNatClampNeg (some a15) → WW l G xP_removeAt 30 [some (vR (some a0)), some (vI x1), some (vI (x2 + 1))] [] m18 bc bs Q))) :
    WW l G xP_removeAt 30 [some (vR (some a0)), some (vI x1), some (vI x2)] [] m bc bs Q := by
  refine x_iload_n dP_removeAt_30 rfl (n := 31) rfl ?_
  refine x_aload_n dP_removeAt_31 rfl (n := 32) rfl ?_
  obtain ⟨k1, h⟩ := h
  refine x_getI rfl dP_removeAt_32 fP_17 k1 (n := 35) rfl ?_
  obtain ⟨h, h'⟩ := h
  refine x_icmp_ge (tgt := 58) dP_removeAt_35 rfl (n := 38) rfl (fun c19 => ?_) (fun c19 => ?_)
  · replace h := h c19
    refine x_aload_n dP_removeAt_58 rfl (n := 59) rfl ?_
    refine x_getR rfl dP_removeAt_59 fP_11 k1 (n := 62) rfl ?_
    refine x_aload_n dP_removeAt_62 rfl (n := 63) rfl ?_
    refine x_getI rfl dP_removeAt_63 fP_17 k1 (n := 66) rfl ?_
    refine x_null dP_removeAt_66 (n := 67) rfl ?_
    obtain ⟨a2, e3, h⟩ := h
    obtain ⟨n5, k4, h⟩ := h
    obtain ⟨c6, h⟩ := h
    replace h := h _ rfl
    refine x_aastN e3 dP_removeAt_67 k4 (by decide) c6 (n := 68) rfl ?_
    refine x_aload_n dP_removeAt_68 rfl (n := 69) rfl ?_
    refine x_lconst (v := 0) dP_removeAt_69 (by decide) (n := 70) rfl ?_
    replace h := h _ rfl
    refine x_putL rfl dP_removeAt_70 pP_24 k1 rfl rfl (n := 73) rfl ?_
    refine x_iconst (v := 0) dP_removeAt_73 (by decide) (n := 74) rfl ?_
    refine x_istore_n dP_removeAt_74 (by decide) (L' := [some (vR (some a0)), some (vI x1), some (vI (0 : Int32))]) rfl (n := 75) rfl ?_
    exact h
  · replace h := h' c19
    refine x_aload_n dP_removeAt_38 rfl (n := 39) rfl ?_
    refine x_getR rfl dP_removeAt_39 fP_11 k1 (n := 42) rfl ?_
    refine x_iload_n dP_removeAt_42 rfl (n := 43) rfl ?_
    refine x_aload_n dP_removeAt_43 rfl (n := 44) rfl ?_
    refine x_getR rfl dP_removeAt_44 fP_11 k1 (n := 47) rfl ?_
    refine x_iload_n dP_removeAt_47 rfl (n := 48) rfl ?_
    refine x_iconst (v := 1) dP_removeAt_48 (by decide) (n := 49) rfl ?_
    refine x_iadd dP_removeAt_49 (n := 50) rfl ?_
    obtain ⟨a9, e10, h⟩ := h
    obtain ⟨n12, k11, h⟩ := h
    obtain ⟨c13, h⟩ := h
    refine x_aald e10 dP_removeAt_50 k11 (by decide) c13 (n := 51) rfl ?_
    obtain ⟨c14, h⟩ := h
    obtain ⟨a15, e16, h⟩ := h
    obtain ⟨k17, h⟩ := h
    replace h := h _ rfl
    refine x_aast e10 e16 dP_removeAt_51 k11 (by decide) k17 c14 (n := 52) rfl ?_
    refine x_iinc (v := x2 + 1) dP_removeAt_52 rfl rfl (by decide) (L' := [some (vR (some a0)), some (vI x1), some (vI (x2 + 1))]) rfl (n := 55) rfl ?_
    refine x_goto (tgt := 30) dP_removeAt_55 rfl ?_
    exact h
set_option maxRecDepth 100000 in
set_option maxHeartbeats 4000000 in
theorem bP_removeAt_75 {l : Launch} {G : xG} {m : XM} {bc bs : Nat} {Q : XR → XM → Prop} {a0 : Nat} {x1 : Int32} {x2 : Int32}
    (h : kd m a0 = some (oB 3) ∧ (((gI m a0 1) ≤ x2 → Q (.inl none) m) ∧ (¬ (gI m a0 1) ≤ x2 → ∃ a2, gR m a0 0 = some a2 ∧ ∃ n5, kd m a2 = some (aR 3 n5) ∧ vp_in x2 n5 ∧ ∃ a7, gR m a2 x2.toNatClampNeg = some a7 ∧ kd m a7 = some (oB 1) ∧ ∀ m10, m10 = mL m a0 3 ((gL m a0 3) ||| (gL m a7 3)) → WW l G xP_removeAt 75 [some (vR (some a0)), some (vI x1), some (vI (x2 + 1))] [] m10 bc bs Q))) :
    WW l G xP_removeAt 75 [some (vR (some a0)), some (vI x1), some (vI x2)] [] m bc bs Q := by
  refine x_iload_n dP_removeAt_75 rfl (n := 76) rfl ?_
  refine x_aload_n dP_removeAt_76 rfl (n := 77) rfl ?_
  obtain ⟨k1, h⟩ := h
  refine x_getI rfl dP_removeAt_77 fP_17 k1 (n := 80) rfl ?_
  obtain ⟨h, h'⟩ := h
  refine x_icmp_ge (tgt := 107) dP_removeAt_80 rfl (n := 83) rfl (fun c11 => ?_) (fun c11 => ?_)
  · replace h := h c11
    exact x_vret dP_removeAt_107 rfl h
  · replace h := h' c11
    refine x_aload_n dP_removeAt_83 rfl (n := 84) rfl ?_
    refine x_dup dP_removeAt_84 rfl (n := 85) rfl ?_
    refine x_getL rfl dP_removeAt_85 fP_24 k1 (n := 88) rfl ?_
    refine x_aload_n dP_removeAt_88 rfl (n := 89) rfl ?_
    refine x_getR rfl dP_removeAt_89 fP_11 k1 (n := 92) rfl ?_
    refine x_iload_n dP_removeAt_92 rfl (n := 93) rfl ?_
    obtain ⟨a2, e3, h⟩ := h
    obtain ⟨n5, k4, h⟩ := h
    obtain ⟨c6, h⟩ := h
    refine x_aald e3 dP_removeAt_93 k4 (by decide) c6 (n := 94) rfl ?_
    obtain ⟨a7, e8, h⟩ := h
    obtain ⟨k9, h⟩ := h
    refine x_getL e8 dP_removeAt_94 fP_31 k9 (n := 97) rfl ?_
    refine x_lor dP_removeAt_97 (n := 98) rfl ?_
    replace h := h _ rfl
    refine x_putL rfl dP_removeAt_98 pP_24 k1 rfl rfl (n := 101) rfl ?_
    refine x_iinc (v := x2 + 1) dP_removeAt_101 rfl rfl (by decide) (L' := [some (vR (some a0)), some (vI x1), some (vI (x2 + 1))]) rfl (n := 104) rfl ?_
    refine x_goto (tgt := 75) dP_removeAt_104 rfl ?_
    exact h
set_option maxRecDepth 100000 in
set_option maxHeartbeats 4000000 in
theorem bP_removeAt {l : Launch} {G : xG} {m : XM} {Q : XR → XM → Prop} {a0 : Nat} {x1 : Int32} (hst : l.stackTraces = false)
    (h : kd m a0 = some (oB 3) ∧ ∃ a2, gR m a0 0 = some a2 ∧ ∃ n5, kd m a2 = some (aR 3 n5) ∧ vp_in x1 n5 ∧ ∃ a7, gR m a2 x1.toNatClampNeg = some a7 ∧ kd m a7 = some (oB 1) ∧ CC l G xT_words [vR (some a7)] m (kI (fun v11 m10 => kd m10 a0 = some (oB 3) ∧ ∀ m13, m13 = mI m10 a0 2 ((gI m a0 2) - v11) → ∀ m14, m14 = mI m13 a0 1 ((gI m13 a0 1) - (1 : Int32)) → WW l G xP_removeAt 30 [some (vR (some a0)), some (vI x1), some (vI x1)] [] m14 0 0 Q) Q)) :
    CC l G xP_removeAt [vR (some a0), vI x1] m Q := by
  refine x_entry (by decide +kernel) rfl hst (Nat.le_of_ble_eq_true rfl) (L0 := [some (vR (some a0)), some (vI x1), none]) rfl ?_
  refine x_aload_n dP_removeAt_0 rfl (n := 1) rfl ?_
  refine x_dup dP_removeAt_1 rfl (n := 2) rfl ?_
  obtain ⟨k1, h⟩ := h
  refine x_getI rfl dP_removeAt_2 fP_21 k1 (n := 5) rfl ?_
  refine x_aload_n dP_removeAt_5 rfl (n := 6) rfl ?_
  refine x_getR rfl dP_removeAt_6 fP_11 k1 (n := 9) rfl ?_
  refine x_iload_n dP_removeAt_9 rfl (n := 10) rfl ?_
  obtain ⟨a2, e3, h⟩ := h
  obtain ⟨n5, k4, h⟩ := h
  obtain ⟨c6, h⟩ := h
  refine x_aald e3 dP_removeAt_10 k4 (by decide) c6 (n := 11) rfl ?_
  obtain ⟨a7, e8, h⟩ := h
  obtain ⟨k9, h⟩ := h
  refine x_invV (m := m) e8 dP_removeAt_11 gP_removeAt_11 (as := []) (st := [vI (gI m a0 2), vR (some a0)]) rfl rfl k9 rfl rfl (Nat.le_of_ble_eq_true rfl) (n := 14) rfl rfl rfl h (xBk.I fun v11 m10 h => ?_)
  refine x_isub dP_removeAt_14 (n := 15) rfl ?_
  obtain ⟨k12, h⟩ := h
  replace h := h _ rfl
  refine x_putI rfl dP_removeAt_15 pP_21 k12 rfl rfl (n := 18) rfl ?_
  refine x_aload_n dP_removeAt_18 rfl (n := 19) rfl ?_
  refine x_dup dP_removeAt_19 rfl (n := 20) rfl ?_
  refine x_getI rfl dP_removeAt_20 fP_17 k12 (n := 23) rfl ?_
  refine x_iconst (v := 1) dP_removeAt_23 (by decide) (n := 24) rfl ?_
  refine x_isub dP_removeAt_24 (n := 25) rfl ?_
  replace h := h _ rfl
  refine x_putI rfl dP_removeAt_25 pP_17 k12 rfl rfl (n := 28) rfl ?_
  refine x_iload_n dP_removeAt_28 rfl (n := 29) rfl ?_
  refine x_istore_n dP_removeAt_29 (by decide) (L' := [some (vR (some a0)), some (vI x1), some (vI x1)]) rfl (n := 30) rfl ?_
  exact h
set_option maxRecDepth 100000 in
set_option maxHeartbeats 4000000 in
theorem bP_dropFor_11 {l : Launch} {G : xG} {m : XM} {bc bs : Nat} {Q : XR → XM → Prop} {a0 : Nat} {x1 : Int32} {x2 : Int32} {x3 : Int32} {x4 : Int32} {x5 : Int32}
    (h : ((x3 ≤ x5 → kd m a0 = some (oB 3) ∧ Q (.inl (some (vI (x3 - (gI m a0 1))))) m) ∧ (¬ x3 ≤ x5 → kd m a0 = some (oB 3) ∧ CC l G xP_hasRoomFor [vR (some a0), vI x1] m (kI (fun v4 m3 => ((¬ v4 = 0 → kd m3 a0 = some (oB 3) ∧ Q (.inl (some (vI (x3 - (gI m3 a0 1))))) m3) ∧ (v4 = 0 → kd m3 a0 = some (oB 3) ∧ ∃ a7, gR m3 a0 0 = some a7 ∧ ∃ n10, kd m3 a7 = some (aR 3 n10) ∧ vp_in x4 n10 ∧ ∃ a12, gR m3 a7 x4.toNatClampNeg = some a12 ∧ kd m3 a12 = some (oB 1) ∧ ((¬ (gI m3 a12 5) = x2 → WW l G xP_dropFor 11 [some (vR (some a0)), some (vI x1), some (vI x2), some (vI x3), some (vI (x4 + 1)), some (vI (x5 + 1))] [] m3 bc bs Q) ∧ ((gI m3 a12 5) = x2 → CC l G xP_removeAt [vR (some a0), vI x4] m3 (kV (fun m15 => WW l G xP_dropFor 11 [some (vR (some a0)), some (vI x1), some (vI x2), some (vI x3), some (vI x4), some (vI (x5 + 1))] [] m15 bc bs Q) Q)))))) Q)))) :
    WW l G xP_dropFor 11 [some (vR (some a0)), some (vI x1), some (vI x2), some (vI x3), some (vI x4), some (vI x5)] [] m bc bs Q := by
  refine x_iload dP_dropFor_11 rfl (n := 13) rfl ?_
  refine x_iload_n dP_dropFor_13 rfl (n := 14) rfl ?_
  obtain ⟨h, h'⟩ := h
  refine x_icmp_ge (tgt := 57) dP_dropFor_14 rfl (n := 17) rfl (fun c18 => ?_) (fun c18 => ?_)
  · replace h := h c18
    refine x_iload_n dP_dropFor_57 rfl (n := 58) rfl ?_
    refine x_aload_n dP_dropFor_58 rfl (n := 59) rfl ?_
    obtain ⟨k1, h⟩ := h
    refine x_getI rfl dP_dropFor_59 fP_17 k1 (n := 62) rfl ?_
    refine x_isub dP_dropFor_62 (n := 63) rfl ?_
    exact x_iret dP_dropFor_63 rfl h
  · replace h := h' c18
    refine x_aload_n dP_dropFor_17 rfl (n := 18) rfl ?_
    refine x_iload_n dP_dropFor_18 rfl (n := 19) rfl ?_
    obtain ⟨k2, h⟩ := h
    refine x_invV (m := m) rfl dP_dropFor_19 gP_dropFor_19 (as := [vI x1]) (st := []) rfl rfl k2 rfl rfl (Nat.le_of_ble_eq_true rfl) (n := 22) rfl rfl rfl h (xBk.I fun v4 m3 h => ?_)
    obtain ⟨h, h'⟩ := h
    refine x_if_ne (tgt := 57) dP_dropFor_22 rfl (n := 25) rfl (fun c17 => ?_) (fun c17 => ?_)
    · replace h := h c17
      refine x_iload_n dP_dropFor_57 rfl (n := 58) rfl ?_
      refine x_aload_n dP_dropFor_58 rfl (n := 59) rfl ?_
      obtain ⟨k5, h⟩ := h
      refine x_getI rfl dP_dropFor_59 fP_17 k5 (n := 62) rfl ?_
      refine x_isub dP_dropFor_62 (n := 63) rfl ?_
      exact x_iret dP_dropFor_63 rfl h
    · replace h := h' c17
      refine x_aload_n dP_dropFor_25 rfl (n := 26) rfl ?_
      obtain ⟨k6, h⟩ := h
      refine x_getR rfl dP_dropFor_26 fP_11 k6 (n := 29) rfl ?_
      refine x_iload dP_dropFor_29 rfl (n := 31) rfl ?_
      obtain ⟨a7, e8, h⟩ := h
      obtain ⟨n10, k9, h⟩ := h
      obtain ⟨c11, h⟩ := h
      refine x_aald e8 dP_dropFor_31 k9 (by decide) c11 (n := 32) rfl ?_
      obtain ⟨a12, e13, h⟩ := h
      obtain ⟨k14, h⟩ := h
      refine x_getI e13 dP_dropFor_32 fP_46 k14 (n := 35) rfl ?_
      refine x_iload_n dP_dropFor_35 rfl (n := 36) rfl ?_
      obtain ⟨h, h'⟩ := h
      refine x_icmp_ne (tgt := 48) dP_dropFor_36 rfl (n := 39) rfl (fun c16 => ?_) (fun c16 => ?_)
      · replace h := h c16
        refine x_iinc (v := x4 + 1) dP_dropFor_48 rfl rfl (by decide) (L' := [some (vR (some a0)), some (vI x1), some (vI x2), some (vI x3), some (vI (x4 + 1)), some (vI x5)]) rfl (n := 51) rfl ?_
        refine x_iinc (v := x5 + 1) dP_dropFor_51 rfl rfl (by decide) (L' := [some (vR (some a0)), some (vI x1), some (vI x2), some (vI x3), some (vI (x4 + 1)), some (vI (x5 + 1))]) rfl (n := 54) rfl ?_
        refine x_goto (tgt := 11) dP_dropFor_54 rfl ?_
        exact h
      · replace h := h' c16
        refine x_aload_n dP_dropFor_39 rfl (n := 40) rfl ?_
        refine x_iload dP_dropFor_40 rfl (n := 42) rfl ?_
        refine x_invV (m := m3) rfl dP_dropFor_42 gP_dropFor_42 (as := [vI x4]) (st := []) rfl rfl k6 rfl rfl (Nat.le_of_ble_eq_true rfl) (n := 45) rfl rfl rfl h (xBk.V fun m15 h => ?_)
        refine x_goto (tgt := 51) dP_dropFor_45 rfl ?_
        refine x_iinc (v := x5 + 1) dP_dropFor_51 rfl rfl (by decide) (L' := [some (vR (some a0)), some (vI x1), some (vI x2), some (vI x3), some (vI x4), some (vI (x5 + 1))]) rfl (n := 54) rfl ?_
        refine x_goto (tgt := 11) dP_dropFor_54 rfl ?_
        exact h
set_option maxRecDepth 100000 in
set_option maxHeartbeats 4000000 in
theorem bP_dropFor {l : Launch} {G : xG} {m : XM} {Q : XR → XM → Prop} {a0 : Nat} {x1 : Int32} {x2 : Int32} (hst : l.stackTraces = false)
    (h : kd m a0 = some (oB 3) ∧ WW l G xP_dropFor 11 [some (vR (some a0)), some (vI x1), some (vI x2), some (vI (gI m a0 1)), some (vI (0 : Int32)), some (vI (0 : Int32))] [] m 0 0 Q) :
    CC l G xP_dropFor [vR (some a0), vI x1, vI x2] m Q := by
  refine x_entry (by decide +kernel) rfl hst (Nat.le_of_ble_eq_true rfl) (L0 := [some (vR (some a0)), some (vI x1), some (vI x2), none, none, none]) rfl ?_
  refine x_aload_n dP_dropFor_0 rfl (n := 1) rfl ?_
  obtain ⟨k1, h⟩ := h
  refine x_getI rfl dP_dropFor_1 fP_17 k1 (n := 4) rfl ?_
  refine x_istore_n dP_dropFor_4 (by decide) (L' := [some (vR (some a0)), some (vI x1), some (vI x2), some (vI (gI m a0 1)), none, none]) rfl (n := 5) rfl ?_
  refine x_iconst (v := 0) dP_dropFor_5 (by decide) (n := 6) rfl ?_
  refine x_istore dP_dropFor_6 (by decide) (L' := [some (vR (some a0)), some (vI x1), some (vI x2), some (vI (gI m a0 1)), some (vI (0 : Int32)), none]) rfl (n := 8) rfl ?_
  refine x_iconst (v := 0) dP_dropFor_8 (by decide) (n := 9) rfl ?_
  refine x_istore dP_dropFor_9 (by decide) (L' := [some (vR (some a0)), some (vI x1), some (vI x2), some (vI (gI m a0 1)), some (vI (0 : Int32)), some (vI (0 : Int32))]) rfl (n := 11) rfl ?_
  exact h
set_option maxRecDepth 100000 in
set_option maxHeartbeats 4000000 in
theorem bP_add {l : Launch} {G : xG} {m : XM} {Q : XR → XM → Prop} {a0 : Nat} {o1 : Option Nat} (hst : l.stackTraces = false)
    (h : kd m a0 = some (oB 3) ∧ ∃ a2, gR m a0 0 = some a2 ∧ ∃ n5, kd m a2 = some (aR 3 n5) ∧ vp_in (gI m a0 1) n5 ∧ ∃ a7, o1 = some a7 ∧ kd m a7 = some (oB 1) ∧ ∀ m10, m10 = mR m a2 (gI m a0 1).toNatClampNeg (some a7) → ∀ m11, m11 = mI m10 a0 1 ((gI m a0 1) + (1 : Int32)) → CC l G xT_words [vR (some a7)] m11 (kI (fun v13 m12 => kd m12 a0 = some (oB 3) ∧ ∀ m15, m15 = mI m12 a0 2 ((gI m11 a0 2) + v13) → kd m12 a7 = some (oB 1) ∧ ∀ m17, m17 = mL m15 a0 3 ((gL m12 a0 3) ||| (gL m12 a7 3)) → Q (.inl none) m17) Q)) :
    CC l G xP_add [vR (some a0), vR o1] m Q := by
  refine x_entry (by decide +kernel) rfl hst (Nat.le_of_ble_eq_true rfl) (L0 := [some (vR (some a0)), some (vR o1)]) rfl ?_
  refine x_aload_n dP_add_0 rfl (n := 1) rfl ?_
  obtain ⟨k1, h⟩ := h
  refine x_getR rfl dP_add_1 fP_11 k1 (n := 4) rfl ?_
  refine x_aload_n dP_add_4 rfl (n := 5) rfl ?_
  refine x_getI rfl dP_add_5 fP_17 k1 (n := 8) rfl ?_
  refine x_aload_n dP_add_8 rfl (n := 9) rfl ?_
  obtain ⟨a2, e3, h⟩ := h
  obtain ⟨n5, k4, h⟩ := h
  obtain ⟨c6, h⟩ := h
  obtain ⟨a7, e8, h⟩ := h
  obtain ⟨k9, h⟩ := h
  replace h := h _ rfl
  refine x_aast e3 e8 dP_add_9 k4 (by decide) k9 c6 (n := 10) rfl ?_
  refine x_aload_n dP_add_10 rfl (n := 11) rfl ?_
  refine x_dup dP_add_11 rfl (n := 12) rfl ?_
  refine x_getI rfl dP_add_12 fP_17 k1 (n := 15) rfl ?_
  refine x_iconst (v := 1) dP_add_15 (by decide) (n := 16) rfl ?_
  refine x_iadd dP_add_16 (n := 17) rfl ?_
  replace h := h _ rfl
  refine x_putI rfl dP_add_17 pP_17 k1 rfl rfl (n := 20) rfl ?_
  refine x_aload_n dP_add_20 rfl (n := 21) rfl ?_
  refine x_dup dP_add_21 rfl (n := 22) rfl ?_
  refine x_getI rfl dP_add_22 fP_21 k1 (n := 25) rfl ?_
  refine x_aload_n dP_add_25 rfl (n := 26) rfl ?_
  refine x_invV (m := (mI (mR m a2 (gI m a0 1).toNatClampNeg (some a7)) a0 1 ((gI m a0 1) + (1 : Int32)))) e8 dP_add_26 gP_add_26 (as := []) (st := [vI (gI (mI (mR m a2 (gI m a0 1).toNatClampNeg (some a7)) a0 1 ((gI m a0 1) + (1 : Int32))) a0 2), vR (some a0)]) rfl rfl k9 rfl rfl (Nat.le_of_ble_eq_true rfl) (n := 29) rfl rfl rfl h (xBk.I fun v13 m12 h => ?_)
  refine x_iadd dP_add_29 (n := 30) rfl ?_
  obtain ⟨k14, h⟩ := h
  replace h := h _ rfl
  refine x_putI rfl dP_add_30 pP_21 k14 rfl rfl (n := 33) rfl ?_
  refine x_aload_n dP_add_33 rfl (n := 34) rfl ?_
  refine x_dup dP_add_34 rfl (n := 35) rfl ?_
  refine x_getL rfl dP_add_35 fP_24 k14 (n := 38) rfl ?_
  refine x_aload_n dP_add_38 rfl (n := 39) rfl ?_
  obtain ⟨k16, h⟩ := h
  refine x_getL e8 dP_add_39 fP_31 k16 (n := 42) rfl ?_
  refine x_lor dP_add_42 (n := 43) rfl ?_
  replace h := h _ rfl
  refine x_putL rfl dP_add_43 pP_24 k14 rfl rfl (n := 46) rfl ?_
  exact x_vret dP_add_46 rfl h
set_option maxRecDepth 100000 in
set_option maxHeartbeats 4000000 in
theorem bP_clearMarks_2 {l : Launch} {G : xG} {m : XM} {bc bs : Nat} {Q : XR → XM → Prop} {a0 : Nat} {x1 : Int32}
    (h : kd m a0 = some (oB 3) ∧ (((gI m a0 1) ≤ x1 → Q (.inl none) m) ∧ (¬ (gI m a0 1) ≤ x1 → ∃ a2, gR m a0 0 = some a2 ∧ ∃ n5, kd m a2 = some (aR 3 n5) ∧ vp_in x1 n5 ∧ ∃ a7, gR m a2 x1.toNatClampNeg = some a7 ∧ kd m a7 = some (oB 1) ∧ ∀ m10, m10 = mI m a7 5 (0 : Int32) → WW l G xP_clearMarks 2 [some (vR (some a0)), some (vI (x1 + 1))] [] m10 bc bs Q))) :
    WW l G xP_clearMarks 2 [some (vR (some a0)), some (vI x1)] [] m bc bs Q := by
  refine x_iload_n dP_clearMarks_2 rfl (n := 3) rfl ?_
  refine x_aload_n dP_clearMarks_3 rfl (n := 4) rfl ?_
  obtain ⟨k1, h⟩ := h
  refine x_getI rfl dP_clearMarks_4 fP_17 k1 (n := 7) rfl ?_
  obtain ⟨h, h'⟩ := h
  refine x_icmp_ge (tgt := 26) dP_clearMarks_7 rfl (n := 10) rfl (fun c11 => ?_) (fun c11 => ?_)
  · replace h := h c11
    exact x_vret dP_clearMarks_26 rfl h
  · replace h := h' c11
    refine x_aload_n dP_clearMarks_10 rfl (n := 11) rfl ?_
    refine x_getR rfl dP_clearMarks_11 fP_11 k1 (n := 14) rfl ?_
    refine x_iload_n dP_clearMarks_14 rfl (n := 15) rfl ?_
    obtain ⟨a2, e3, h⟩ := h
    obtain ⟨n5, k4, h⟩ := h
    obtain ⟨c6, h⟩ := h
    refine x_aald e3 dP_clearMarks_15 k4 (by decide) c6 (n := 16) rfl ?_
    refine x_iconst (v := 0) dP_clearMarks_16 (by decide) (n := 17) rfl ?_
    obtain ⟨a7, e8, h⟩ := h
    obtain ⟨k9, h⟩ := h
    replace h := h _ rfl
    refine x_putI e8 dP_clearMarks_17 pP_46 k9 (by decide) (by decide) (n := 20) rfl ?_
    refine x_iinc (v := x1 + 1) dP_clearMarks_20 rfl rfl (by decide) (L' := [some (vR (some a0)), some (vI (x1 + 1))]) rfl (n := 23) rfl ?_
    refine x_goto (tgt := 2) dP_clearMarks_23 rfl ?_
    exact h
set_option maxRecDepth 100000 in
set_option maxHeartbeats 4000000 in
theorem bP_clearMarks {l : Launch} {G : xG} {m : XM} {Q : XR → XM → Prop} {a0 : Nat} (hst : l.stackTraces = false)
    (h : WW l G xP_clearMarks 2 [some (vR (some a0)), some (vI (0 : Int32))] [] m 0 0 Q) :
    CC l G xP_clearMarks [vR (some a0)] m Q := by
  refine x_entry (by decide +kernel) rfl hst (Nat.le_of_ble_eq_true rfl) (L0 := [some (vR (some a0)), none]) rfl ?_
  refine x_iconst (v := 0) dP_clearMarks_0 (by decide) (n := 1) rfl ?_
  refine x_istore_n dP_clearMarks_1 (by decide) (L' := [some (vR (some a0)), some (vI (0 : Int32))]) rfl (n := 2) rfl ?_
  exact h
set_option maxRecDepth 100000 in
set_option maxHeartbeats 4000000 in
theorem bP_wipe_2 {l : Launch} {G : xG} {m : XM} {bc bs : Nat} {Q : XR → XM → Prop} {a0 : Nat} {x1 : Int32}
    (h : (((8 : Int32) ≤ x1 → kd m a0 = some (oB 3) ∧ ∀ m2, m2 = mI m a0 1 (0 : Int32) → ∀ m3, m3 = mI m2 a0 2 (0 : Int32) → ∀ m4, m4 = mL m3 a0 3 (0 : Int64) → Q (.inl none) m4) ∧ (¬ (8 : Int32) ≤ x1 → kd m a0 = some (oB 3) ∧ ∃ a6, gR m a0 0 = some a6 ∧ ∃ n9, kd m a6 = some (aR 3 n9) ∧ vp_in x1 n9 ∧ ∀ m11, m11 = mR m a6 x1.toNatClampNeg none → WW l G xP_wipe 2 [some (vR (some a0)), some (vI (x1 + 1))] [] m11 bc bs Q))) :
    WW l G xP_wipe 2 [some (vR (some a0)), some (vI x1)] [] m bc bs Q := by
  refine x_iload_n dP_wipe_2 rfl (n := 3) rfl ?_
  refine x_bipush (v := 8) dP_wipe_3 (by decide) (n := 5) rfl ?_
  obtain ⟨h, h'⟩ := h
  refine x_icmp_ge (tgt := 21) dP_wipe_5 rfl (n := 8) rfl (fun c12 => ?_) (fun c12 => ?_)
  · replace h := h c12
    refine x_aload_n dP_wipe_21 rfl (n := 22) rfl ?_
    refine x_iconst (v := 0) dP_wipe_22 (by decide) (n := 23) rfl ?_
    obtain ⟨k1, h⟩ := h
    replace h := h _ rfl
    refine x_putI rfl dP_wipe_23 pP_17 k1 rfl rfl (n := 26) rfl ?_
    refine x_aload_n dP_wipe_26 rfl (n := 27) rfl ?_
    refine x_iconst (v := 0) dP_wipe_27 (by decide) (n := 28) rfl ?_
    replace h := h _ rfl
    refine x_putI rfl dP_wipe_28 pP_21 k1 rfl rfl (n := 31) rfl ?_
    refine x_aload_n dP_wipe_31 rfl (n := 32) rfl ?_
    refine x_lconst (v := 0) dP_wipe_32 (by decide) (n := 33) rfl ?_
    replace h := h _ rfl
    refine x_putL rfl dP_wipe_33 pP_24 k1 rfl rfl (n := 36) rfl ?_
    exact x_vret dP_wipe_36 rfl h
  · replace h := h' c12
    refine x_aload_n dP_wipe_8 rfl (n := 9) rfl ?_
    obtain ⟨k5, h⟩ := h
    refine x_getR rfl dP_wipe_9 fP_11 k5 (n := 12) rfl ?_
    refine x_iload_n dP_wipe_12 rfl (n := 13) rfl ?_
    refine x_null dP_wipe_13 (n := 14) rfl ?_
    obtain ⟨a6, e7, h⟩ := h
    obtain ⟨n9, k8, h⟩ := h
    obtain ⟨c10, h⟩ := h
    replace h := h _ rfl
    refine x_aastN e7 dP_wipe_14 k8 (by decide) c10 (n := 15) rfl ?_
    refine x_iinc (v := x1 + 1) dP_wipe_15 rfl rfl (by decide) (L' := [some (vR (some a0)), some (vI (x1 + 1))]) rfl (n := 18) rfl ?_
    refine x_goto (tgt := 2) dP_wipe_18 rfl ?_
    exact h
set_option maxRecDepth 100000 in
set_option maxHeartbeats 4000000 in
theorem bP_wipe {l : Launch} {G : xG} {m : XM} {Q : XR → XM → Prop} {a0 : Nat} (hst : l.stackTraces = false)
    (h : WW l G xP_wipe 2 [some (vR (some a0)), some (vI (0 : Int32))] [] m 0 0 Q) :
    CC l G xP_wipe [vR (some a0)] m Q := by
  refine x_entry (by decide +kernel) rfl hst (Nat.le_of_ble_eq_true rfl) (L0 := [some (vR (some a0)), none]) rfl ?_
  refine x_iconst (v := 0) dP_wipe_0 (by decide) (n := 1) rfl ?_
  refine x_istore_n dP_wipe_1 (by decide) (L' := [some (vR (some a0)), some (vI (0 : Int32))]) rfl (n := 2) rfl ?_
  exact h
set_option maxRecDepth 100000 in
set_option maxHeartbeats 4000000 in
theorem bP_wordAt_4 {l : Launch} {G : xG} {m : XM} {bc bs : Nat} {Q : XR → XM → Prop} {a0 : Nat} {x1 : Int32} {x2 : Int32} {x3 : Int32}
    (h : kd m a0 = some (oB 3) ∧ (((gI m a0 1) ≤ x3 → Q (.inl (some (vI (0 : Int32)))) m) ∧ (¬ (gI m a0 1) ≤ x3 → ∃ a2, gR m a0 0 = some a2 ∧ ∃ n5, kd m a2 = some (aR 3 n5) ∧ vp_in x3 n5 ∧ ∃ a7, gR m a2 x3.toNatClampNeg = some a7 ∧ kd m a7 = some (oB 1) ∧ CC l G xT_words [vR (some a7)] m (kI (fun v11 m10 => (((x2 + v11) ≤ x1 → WW l G xP_wordAt 4 [some (vR (some a0)), some (vI x1), some (vI (x2 + v11)), some (vI (x3 + 1)), none] [] m10 bc bs Q) ∧ (¬ (x2 + v11) ≤ x1 → kd m10 a0 = some (oB 3) ∧ ∃ a13, gR m10 a0 0 = some a13 ∧ ∃ n16, kd m10 a13 = some (aR 3 n16) ∧ vp_in x3 n16 ∧ ∃ a18, gR m10 a13 x3.toNatClampNeg = some a18 ∧ kd m10 a18 = some (oB 1) ∧ CC l G xT_wordAt [vR (some a18), vI (x1 - x2)] m10 (kI (fun v22 m21 => Q (.inl (some (vI v22))) m21) Q)))) Q)))) :
    WW l G xP_wordAt 4 [some (vR (some a0)), some (vI x1), some (vI x2), some (vI x3), none] [] m bc bs Q := by
  refine x_iload_n dP_wordAt_4 rfl (n := 5) rfl ?_
  refine x_aload_n dP_wordAt_5 rfl (n := 6) rfl ?_
  obtain ⟨k1, h⟩ := h
  refine x_getI rfl dP_wordAt_6 fP_17 k1 (n := 9) rfl ?_
  obtain ⟨h, h'⟩ := h
  refine x_icmp_ge (tgt := 53) dP_wordAt_9 rfl (n := 12) rfl (fun c24 => ?_) (fun c24 => ?_)
  · replace h := h c24
    refine x_iconst (v := 0) dP_wordAt_53 (by decide) (n := 54) rfl ?_
    exact x_iret dP_wordAt_54 rfl h
  · replace h := h' c24
    refine x_iload_n dP_wordAt_12 rfl (n := 13) rfl ?_
    refine x_aload_n dP_wordAt_13 rfl (n := 14) rfl ?_
    refine x_getR rfl dP_wordAt_14 fP_11 k1 (n := 17) rfl ?_
    refine x_iload_n dP_wordAt_17 rfl (n := 18) rfl ?_
    obtain ⟨a2, e3, h⟩ := h
    obtain ⟨n5, k4, h⟩ := h
    obtain ⟨c6, h⟩ := h
    refine x_aald e3 dP_wordAt_18 k4 (by decide) c6 (n := 19) rfl ?_
    obtain ⟨a7, e8, h⟩ := h
    obtain ⟨k9, h⟩ := h
    refine x_invV (m := m) e8 dP_wordAt_19 gP_wordAt_19 (as := []) (st := [vI x2]) rfl rfl k9 rfl rfl (Nat.le_of_ble_eq_true rfl) (n := 22) rfl rfl rfl h (xBk.I fun v11 m10 h => ?_)
    refine x_iadd dP_wordAt_22 (n := 23) rfl ?_
    refine x_istore dP_wordAt_23 (by decide) (L' := [some (vR (some a0)), some (vI x1), some (vI x2), some (vI x3), some (vI (x2 + v11))]) rfl (n := 25) rfl ?_
    refine x_iload_n dP_wordAt_25 rfl (n := 26) rfl ?_
    refine x_iload dP_wordAt_26 rfl (n := 28) rfl ?_
    obtain ⟨h, h'⟩ := h
    refine x_icmp_ge (tgt := 44) dP_wordAt_28 rfl (n := 31) rfl (fun c23 => ?_) (fun c23 => ?_)
    · replace h := h c23
      refine x_iload dP_wordAt_44 rfl (n := 46) rfl ?_
      refine x_istore_n dP_wordAt_46 (by decide) (L' := [some (vR (some a0)), some (vI x1), some (vI (x2 + v11)), some (vI x3), some (vI (x2 + v11))]) rfl (n := 47) rfl ?_
      refine x_iinc (v := x3 + 1) dP_wordAt_47 rfl rfl (by decide) (L' := [some (vR (some a0)), some (vI x1), some (vI (x2 + v11)), some (vI (x3 + 1)), some (vI (x2 + v11))]) rfl (n := 50) rfl ?_
      refine x_goto (tgt := 4) dP_wordAt_50 rfl ?_
      exact x_weak (b := [true, true, true, true, false]) rfl h
    · replace h := h' c23
      refine x_aload_n dP_wordAt_31 rfl (n := 32) rfl ?_
      obtain ⟨k12, h⟩ := h
      refine x_getR rfl dP_wordAt_32 fP_11 k12 (n := 35) rfl ?_
      refine x_iload_n dP_wordAt_35 rfl (n := 36) rfl ?_
      obtain ⟨a13, e14, h⟩ := h
      obtain ⟨n16, k15, h⟩ := h
      obtain ⟨c17, h⟩ := h
      refine x_aald e14 dP_wordAt_36 k15 (by decide) c17 (n := 37) rfl ?_
      refine x_iload_n dP_wordAt_37 rfl (n := 38) rfl ?_
      refine x_iload_n dP_wordAt_38 rfl (n := 39) rfl ?_
      refine x_isub dP_wordAt_39 (n := 40) rfl ?_
      obtain ⟨a18, e19, h⟩ := h
      obtain ⟨k20, h⟩ := h
      refine x_invV (m := m10) e19 dP_wordAt_40 gP_wordAt_40 (as := [vI (x1 - x2)]) (st := []) rfl rfl k20 rfl rfl (Nat.le_of_ble_eq_true rfl) (n := 43) rfl rfl rfl h (xBk.I fun v22 m21 h => ?_)
      exact x_iret dP_wordAt_43 rfl h
set_option maxRecDepth 100000 in
set_option maxHeartbeats 4000000 in
theorem bP_wordAt {l : Launch} {G : xG} {m : XM} {Q : XR → XM → Prop} {a0 : Nat} {x1 : Int32} (hst : l.stackTraces = false)
    (h : WW l G xP_wordAt 4 [some (vR (some a0)), some (vI x1), some (vI (0 : Int32)), some (vI (0 : Int32)), none] [] m 0 0 Q) :
    CC l G xP_wordAt [vR (some a0), vI x1] m Q := by
  refine x_entry (by decide +kernel) rfl hst (Nat.le_of_ble_eq_true rfl) (L0 := [some (vR (some a0)), some (vI x1), none, none, none]) rfl ?_
  refine x_iconst (v := 0) dP_wordAt_0 (by decide) (n := 1) rfl ?_
  refine x_istore_n dP_wordAt_1 (by decide) (L' := [some (vR (some a0)), some (vI x1), some (vI (0 : Int32)), none, none]) rfl (n := 2) rfl ?_
  refine x_iconst (v := 0) dP_wordAt_2 (by decide) (n := 3) rfl ?_
  refine x_istore_n dP_wordAt_3 (by decide) (L' := [some (vR (some a0)), some (vI x1), some (vI (0 : Int32)), some (vI (0 : Int32)), none]) rfl (n := 4) rfl ?_
  exact h
