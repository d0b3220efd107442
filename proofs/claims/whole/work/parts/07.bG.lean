set_option maxRecDepth 100000 in
set_option maxHeartbeats 4000000 in
theorem bG_init {l : Launch} {G : xG} {m : XM} {Q : XR → XM → Prop} {a0 : Nat} (hst : l.stackTraces = false)
    (h : ∃ bc1 bs2, 134 = bc1 + 129 ∧ 1175 = bs2 + 832 ∧ CC l G xC_newPages [vI (32 : Int32)] m (kR (fun v6 m5 => kd m5 a0 = some (oB 2) ∧ ∀ m8, m8 = mR m5 a0 0 v6 → ∃ bc9 bs10, bc1 = bc9 + 1 ∧ bs2 = bs10 + 3 ∧ ∀ a13, kd m5 a13 = none → ∀ m15, m15 = mN m8 a13 (oB 0) → ∃ bc18 bs19, bc9 = bc18 + 2 ∧ bs10 = bs19 + 328 ∧ CC l G xI_init [vR (some a13)] m15 (kN (fun m22 => kd m22 a0 = some (oB 2) ∧ ∀ m24, m24 = mR m22 a0 1 (some a13) → ∃ bc25 bs26, bc18 = bc25 + 1 ∧ bs19 = bs26 + 4 ∧ ∀ a29, kd m22 a29 = none → ∀ m31, m31 = mN m24 a29 (oB 3) → ∃ bc34 bs35, bc25 = bc34 + 1 ∧ bs26 = bs35 + 8 ∧ CC l G xP_init [vR (some a29)] m31 (kN (fun m38 => kd m38 a0 = some (oB 2) ∧ ∀ m40, m40 = mR m38 a0 2 (some a29) → ∀ m41, m41 = mI m40 a0 3 (0 : Int32) → Q (.inl none) m41))))) xNo)) :
    CC l G xG_init [vR (some a0)] m Q := by
  refine x_entry (by decide +kernel) rfl hst (Nat.le_of_ble_eq_true rfl) (L0 := [some (vR (some a0))]) rfl ?_
  refine x_aload_n dG_init_0 rfl (n := 1) rfl ?_
  refine x_objInit dG_init_1 w_93 w_58 w_59 (by decide) (by decide) (n := 4) rfl ?_
  refine x_aload_n dG_init_4 rfl (n := 5) rfl ?_
  refine x_bipush (v := 32) dG_init_5 (by decide) (n := 7) rfl ?_
  obtain ⟨bc1, bs2, b3, b4, h⟩ := h
  refine x_invSN (m := m) dG_init_7 gG_init_7 (as := [vI (32 : Int32)]) (st := [vR (some a0)]) rfl rfl (Nat.le_of_ble_eq_true rfl) (n := 10) rfl b3 b4 h kR.no (xBk.R0 fun v6 m5 h => ?_)
  obtain ⟨k7, h⟩ := h
  replace h := h _ rfl
  refine x_putR rfl dG_init_10 pG_13 k7 (fun o => by cases o <;> rfl) (fun o => by cases o <;> rfl) (n := 13) rfl ?_
  refine x_aload_n dG_init_13 rfl (n := 14) rfl ?_
  obtain ⟨bc9, bs10, b11, b12, h⟩ := h
  refine x_new dG_init_14 nG_19 (n := 17) rfl b11 b12 fun a13 f14 => ?_
  replace h := h a13 f14 _ rfl
  have k16 := kdN (k := oB 0) f14 k7
  have k17 := kdNs (mR m5 a0 0 v6) a13 (oB 0)
  refine x_dup dG_init_17 rfl (n := 18) rfl ?_
  obtain ⟨bc18, bs19, b20, b21, h⟩ := h
  refine x_invIN (m := (mN (mR m5 a0 0 v6) a13 (oB 0))) dG_init_18 gG_init_18 (as := []) (st := [vR (some a13), vR (some a0)]) rfl rfl (Nat.le_of_ble_eq_true rfl) (n := 21) rfl b20 b21 h kN.no (xBk.N fun m22 h => ?_)
  obtain ⟨k23, h⟩ := h
  replace h := h _ rfl
  refine x_putR rfl dG_init_21 pG_22 k23 (fun o => by cases o <;> rfl) (fun o => by cases o <;> rfl) (n := 24) rfl ?_
  refine x_aload_n dG_init_24 rfl (n := 25) rfl ?_
  obtain ⟨bc25, bs26, b27, b28, h⟩ := h
  refine x_new dG_init_25 nG_26 (n := 28) rfl b27 b28 fun a29 f30 => ?_
  replace h := h a29 f30 _ rfl
  have k32 := kdN (k := oB 3) f30 k23
  have k33 := kdNs (mR m22 a0 1 (some a13)) a29 (oB 3)
  refine x_dup dG_init_28 rfl (n := 29) rfl ?_
  obtain ⟨bc34, bs35, b36, b37, h⟩ := h
  refine x_invIN (m := (mN (mR m22 a0 1 (some a13)) a29 (oB 3))) dG_init_29 gG_init_29 (as := []) (st := [vR (some a29), vR (some a0)]) rfl rfl (Nat.le_of_ble_eq_true rfl) (n := 32) rfl b36 b37 h kN.no (xBk.N fun m38 h => ?_)
  obtain ⟨k39, h⟩ := h
  replace h := h _ rfl
  refine x_putR rfl dG_init_32 pG_29 k39 (fun o => by cases o <;> rfl) (fun o => by cases o <;> rfl) (n := 35) rfl ?_
  refine x_aload_n dG_init_35 rfl (n := 36) rfl ?_
  refine x_iconst (v := 0) dG_init_36 (by decide) (n := 37) rfl ?_
  replace h := h _ rfl
  refine x_putI rfl dG_init_37 pG_33 k39 rfl rfl (n := 40) rfl ?_
  exact x_vret dG_init_40 rfl h
set_option maxRecDepth 100000 in
set_option maxHeartbeats 4000000 in
theorem bG_fullSegments {l : Launch} {G : xG} {m : XM} {Q : XR → XM → Prop} {a0 : Nat} (hst : l.stackTraces = false)
    (h : kd m a0 = some (oB 2) ∧ Q (.inl (some (vI ((gI m a0 3) / (4 : Int32))))) m) :
    CC l G xG_fullSegments [vR (some a0)] m Q := by
  refine x_entry (by decide +kernel) rfl hst (Nat.le_of_ble_eq_true rfl) (L0 := [some (vR (some a0))]) rfl ?_
  refine x_aload_n dG_fullSegments_0 rfl (n := 1) rfl ?_
  obtain ⟨k1, h⟩ := h
  refine x_getI rfl dG_fullSegments_1 fG_33 k1 (n := 4) rfl ?_
  refine x_iconst (v := 4) dG_fullSegments_4 (by decide) (n := 5) rfl ?_
  refine x_idiv dG_fullSegments_5 (by decide) (n := 6) rfl ?_
  exact x_iret dG_fullSegments_6 rfl h
set_option maxRecDepth 100000 in
set_option maxHeartbeats 4000000 in
theorem bG_hasRoomFor {l : Launch} {G : xG} {m : XM} {Q : XR → XM → Prop} {a0 : Nat} {o1 : Option Nat} (hst : l.stackTraces = false)
    (h : kd m a0 = some (oB 2) ∧ ∃ a2, o1 = some a2 ∧ kd m a2 = some (oB 1) ∧ CC l G xT_words [vR (some a2)] m (kI (fun v6 m5 => ∃ a7, gR m a0 2 = some a7 ∧ kd m5 a7 = some (oB 3) ∧ CC l G xP_hasRoomFor [vR (some a7), vI v6] m5 (kI (fun v11 m10 => ((v11 = 0 ∨ v11 = 1) ∧ Q (.inl (some (vI v11))) m10)) Q)) Q)) :
    CC l G xG_hasRoomFor [vR (some a0), vR o1] m Q := by
  refine x_entry (by decide +kernel) rfl hst (Nat.le_of_ble_eq_true rfl) (L0 := [some (vR (some a0)), some (vR o1)]) rfl ?_
  refine x_aload_n dG_hasRoomFor_0 rfl (n := 1) rfl ?_
  obtain ⟨k1, h⟩ := h
  refine x_getR rfl dG_hasRoomFor_1 fG_29 k1 (n := 4) rfl ?_
  refine x_aload_n dG_hasRoomFor_4 rfl (n := 5) rfl ?_
  obtain ⟨a2, e3, h⟩ := h
  obtain ⟨k4, h⟩ := h
  refine x_invV (m := m) e3 dG_hasRoomFor_5 gG_hasRoomFor_5 (as := []) (st := [vR (gR m a0 2)]) rfl rfl k4 rfl rfl (Nat.le_of_ble_eq_true rfl) (n := 8) rfl rfl rfl h (xBk.I fun v6 m5 h => ?_)
  obtain ⟨a7, e8, h⟩ := h
  obtain ⟨k9, h⟩ := h
  refine x_invV (m := m5) e8 dG_hasRoomFor_8 gG_hasRoomFor_8 (as := [vI v6]) (st := []) rfl rfl k9 rfl rfl (Nat.le_of_ble_eq_true rfl) (n := 11) rfl rfl rfl h (xBk.I fun v11 m10 h => ?_)
  exact x_zret dG_hasRoomFor_11 rfl (nar_b h.1) h.2
set_option maxRecDepth 100000 in
set_option maxHeartbeats 4000000 in
theorem bG_isBeforeWrittenSegment {l : Launch} {G : xG} {m : XM} {Q : XR → XM → Prop} {a0 : Nat} (hst : l.stackTraces = false)
    (h : kd m a0 = some (oB 2) ∧ (((gI m a0 3) < (32 : Int32) → Q (.inl (some (vI (0 : Int32)))) m) ∧ (¬ (gI m a0 3) < (32 : Int32) → ((¬ ((gI m a0 3) - (gI m a0 3) / (4 : Int32) * (4 : Int32)) = 0 → Q (.inl (some (vI (0 : Int32)))) m) ∧ (((gI m a0 3) - (gI m a0 3) / (4 : Int32) * (4 : Int32)) = 0 → Q (.inl (some (vI (1 : Int32)))) m))))) :
    CC l G xG_isBeforeWrittenSegment [vR (some a0)] m Q := by
  refine x_entry (by decide +kernel) rfl hst (Nat.le_of_ble_eq_true rfl) (L0 := [some (vR (some a0))]) rfl ?_
  refine x_aload_n dG_isBeforeWrittenSegment_0 rfl (n := 1) rfl ?_
  obtain ⟨k1, h⟩ := h
  refine x_getI rfl dG_isBeforeWrittenSegment_1 fG_33 k1 (n := 4) rfl ?_
  refine x_bipush (v := 32) dG_isBeforeWrittenSegment_4 (by decide) (n := 6) rfl ?_
  obtain ⟨h, h'⟩ := h
  refine x_icmp_lt (tgt := 22) dG_isBeforeWrittenSegment_6 rfl (n := 9) rfl (fun c3 => ?_) (fun c3 => ?_)
  · replace h := h c3
    refine x_iconst (v := 0) dG_isBeforeWrittenSegment_22 (by decide) (n := 23) rfl ?_
    exact x_zret dG_isBeforeWrittenSegment_23 rfl (by decide) h
  · replace h := h' c3
    refine x_aload_n dG_isBeforeWrittenSegment_9 rfl (n := 10) rfl ?_
    refine x_getI rfl dG_isBeforeWrittenSegment_10 fG_33 k1 (n := 13) rfl ?_
    refine x_iconst (v := 4) dG_isBeforeWrittenSegment_13 (by decide) (n := 14) rfl ?_
    refine x_irem dG_isBeforeWrittenSegment_14 (by decide) (n := 15) rfl ?_
    obtain ⟨h, h'⟩ := h
    refine x_if_ne (tgt := 22) dG_isBeforeWrittenSegment_15 rfl (n := 18) rfl (fun c2 => ?_) (fun c2 => ?_)
    · replace h := h c2
      refine x_iconst (v := 0) dG_isBeforeWrittenSegment_22 (by decide) (n := 23) rfl ?_
      exact x_zret dG_isBeforeWrittenSegment_23 rfl (by decide) h
    · replace h := h' c2
      refine x_iconst (v := 1) dG_isBeforeWrittenSegment_18 (by decide) (n := 19) rfl ?_
      refine x_goto (tgt := 23) dG_isBeforeWrittenSegment_19 rfl ?_
      exact x_zret dG_isBeforeWrittenSegment_23 rfl (by decide) h
set_option maxRecDepth 100000 in
set_option maxHeartbeats 4000000 in
theorem bG_oldestSegmentEnd {l : Launch} {G : xG} {m : XM} {Q : XR → XM → Prop} {a0 : Nat} (hst : l.stackTraces = false)
    (h : kd m a0 = some (oB 2) ∧ Q (.inl (some (vI (((gI m a0 3) - (32 : Int32)) + (4 : Int32))))) m) :
    CC l G xG_oldestSegmentEnd [vR (some a0)] m Q := by
  refine x_entry (by decide +kernel) rfl hst (Nat.le_of_ble_eq_true rfl) (L0 := [some (vR (some a0))]) rfl ?_
  refine x_aload_n dG_oldestSegmentEnd_0 rfl (n := 1) rfl ?_
  obtain ⟨k1, h⟩ := h
  refine x_getI rfl dG_oldestSegmentEnd_1 fG_33 k1 (n := 4) rfl ?_
  refine x_bipush (v := 32) dG_oldestSegmentEnd_4 (by decide) (n := 6) rfl ?_
  refine x_isub dG_oldestSegmentEnd_6 (n := 7) rfl ?_
  refine x_iconst (v := 4) dG_oldestSegmentEnd_7 (by decide) (n := 8) rfl ?_
  refine x_iadd dG_oldestSegmentEnd_8 (n := 9) rfl ?_
  exact x_iret dG_oldestSegmentEnd_9 rfl h
set_option maxRecDepth 100000 in
set_option maxHeartbeats 4000000 in
theorem bG_writeOut {l : Launch} {G : xG} {m : XM} {Q : XR → XM → Prop} {a0 : Nat} (hst : l.stackTraces = false)
    (h : kd m a0 = some (oB 2) ∧ ∃ a2, gR m a0 0 = some a2 ∧ ∃ n5, kd m a2 = some (aR 4 n5) ∧ vp_in ((gI m a0 3) &&& (31 : Int32)) n5 ∧ vp_in ((gI m a0 3) &&& (31 : Int32)) n5 ∧ ∃ a8, gR m a0 2 = some a8 ∧ kd m a8 = some (oB 3) ∧ ∀ m11, m11 = mR m a2 ((gI m a0 3) &&& (31 : Int32)).toNatClampNeg (some a8) → ∃ a12, gR m a2 ((gI m a0 3) &&& (31 : Int32)).toNatClampNeg = some a12 ∧ kd m a12 = some (oB 3) ∧ CC l G xP_wipe [vR (some a12)] m11 (kV (fun m15 => kd m15 a0 = some (oB 2) ∧ ∀ m17, m17 = mR m15 a0 2 (gR m a2 ((gI m a0 3) &&& (31 : Int32)).toNatClampNeg) → ∀ m18, m18 = mI m17 a0 3 ((gI m15 a0 3) + (1 : Int32)) → Q (.inl none) m18) Q)) :
    CC l G xG_writeOut [vR (some a0)] m Q := by
  refine x_entry (by decide +kernel) rfl hst (Nat.le_of_ble_eq_true rfl) (L0 := [some (vR (some a0)), none, none]) rfl ?_
  refine x_aload_n dG_writeOut_0 rfl (n := 1) rfl ?_
  obtain ⟨k1, h⟩ := h
  refine x_getI rfl dG_writeOut_1 fG_33 k1 (n := 4) rfl ?_
  refine x_bipush (v := 31) dG_writeOut_4 (by decide) (n := 6) rfl ?_
  refine x_iand dG_writeOut_6 (n := 7) rfl ?_
  refine x_istore_n dG_writeOut_7 (by decide) (L' := [some (vR (some a0)), some (vI ((gI m a0 3) &&& (31 : Int32))), none]) rfl (n := 8) rfl ?_
  refine x_aload_n dG_writeOut_8 rfl (n := 9) rfl ?_
  refine x_getR rfl dG_writeOut_9 fG_13 k1 (n := 12) rfl ?_
  refine x_iload_n dG_writeOut_12 rfl (n := 13) rfl ?_
  obtain ⟨a2, e3, h⟩ := h
  obtain ⟨n5, k4, h⟩ := h
  obtain ⟨c6, h⟩ := h
  refine x_aald e3 dG_writeOut_13 k4 (by decide) c6 (n := 14) rfl ?_
  refine x_astore_n dG_writeOut_14 (by decide) (L' := [some (vR (some a0)), some (vI ((gI m a0 3) &&& (31 : Int32))), some (vR (gR m a2 ((gI m a0 3) &&& (31 : Int32)).toNatClampNeg))]) rfl (n := 15) rfl ?_
  refine x_aload_n dG_writeOut_15 rfl (n := 16) rfl ?_
  refine x_getR rfl dG_writeOut_16 fG_13 k1 (n := 19) rfl ?_
  refine x_iload_n dG_writeOut_19 rfl (n := 20) rfl ?_
  refine x_aload_n dG_writeOut_20 rfl (n := 21) rfl ?_
  refine x_getR rfl dG_writeOut_21 fG_29 k1 (n := 24) rfl ?_
  obtain ⟨c7, h⟩ := h
  obtain ⟨a8, e9, h⟩ := h
  obtain ⟨k10, h⟩ := h
  replace h := h _ rfl
  refine x_aast e3 e9 dG_writeOut_24 k4 (by decide) k10 c7 (n := 25) rfl ?_
  refine x_aload_n dG_writeOut_25 rfl (n := 26) rfl ?_
  obtain ⟨a12, e13, h⟩ := h
  obtain ⟨k14, h⟩ := h
  refine x_invV (m := (mR m a2 ((gI m a0 3) &&& (31 : Int32)).toNatClampNeg (some a8))) e13 dG_writeOut_26 gG_writeOut_26 (as := []) (st := []) rfl rfl k14 rfl rfl (Nat.le_of_ble_eq_true rfl) (n := 29) rfl rfl rfl h (xBk.V fun m15 h => ?_)
  refine x_aload_n dG_writeOut_29 rfl (n := 30) rfl ?_
  refine x_aload_n dG_writeOut_30 rfl (n := 31) rfl ?_
  obtain ⟨k16, h⟩ := h
  replace h := h _ rfl
  refine x_putR rfl dG_writeOut_31 pG_29 k16 (fun o => by cases o <;> rfl) (fun o => by cases o <;> rfl) (n := 34) rfl ?_
  refine x_aload_n dG_writeOut_34 rfl (n := 35) rfl ?_
  refine x_dup dG_writeOut_35 rfl (n := 36) rfl ?_
  refine x_getI rfl dG_writeOut_36 fG_33 k16 (n := 39) rfl ?_
  refine x_iconst (v := 1) dG_writeOut_39 (by decide) (n := 40) rfl ?_
  refine x_iadd dG_writeOut_40 (n := 41) rfl ?_
  replace h := h _ rfl
  refine x_putI rfl dG_writeOut_41 pG_33 k16 rfl rfl (n := 44) rfl ?_
  exact x_vret dG_writeOut_44 rfl h
set_option maxRecDepth 100000 in
set_option maxHeartbeats 4000000 in
theorem bG_append {l : Launch} {G : xG} {m : XM} {Q : XR → XM → Prop} {a0 : Nat} {o1 : Option Nat} (hst : l.stackTraces = false)
    (h : ∃ a1, o1 = some a1 ∧ kd m a1 = some (oB 1) ∧ ∀ m4, m4 = mI m a1 5 (0 : Int32) → kd m a0 = some (oB 2) ∧ ∀ m6, m6 = mI m4 a1 4 (gI m4 a0 3) → ∃ a7, gR m a0 2 = some a7 ∧ kd m a7 = some (oB 3) ∧ CC l G xP_add [vR (some a7), vR o1] m6 (kV (fun m10 => kd m10 a0 = some (oB 2) ∧ ∃ a12, gR m10 a0 1 = some a12 ∧ kd m10 a12 = some (oB 0) ∧ CC l G xI_add [vR (some a12), vR o1] m10 (kV (fun m15 => Q (.inl none) m15) Q)) Q)) :
    CC l G xG_append [vR (some a0), vR o1] m Q := by
  refine x_entry (by decide +kernel) rfl hst (Nat.le_of_ble_eq_true rfl) (L0 := [some (vR (some a0)), some (vR o1)]) rfl ?_
  refine x_aload_n dG_append_0 rfl (n := 1) rfl ?_
  refine x_iconst (v := 0) dG_append_1 (by decide) (n := 2) rfl ?_
  obtain ⟨a1, e2, h⟩ := h
  obtain ⟨k3, h⟩ := h
  replace h := h _ rfl
  refine x_putI e2 dG_append_2 pG_50 k3 (by decide) (by decide) (n := 5) rfl ?_
  refine x_aload_n dG_append_5 rfl (n := 6) rfl ?_
  refine x_aload_n dG_append_6 rfl (n := 7) rfl ?_
  obtain ⟨k5, h⟩ := h
  refine x_getI rfl dG_append_7 fG_33 k5 (n := 10) rfl ?_
  replace h := h _ rfl
  refine x_putI e2 dG_append_10 pG_47 k3 rfl rfl (n := 13) rfl ?_
  refine x_aload_n dG_append_13 rfl (n := 14) rfl ?_
  refine x_getR rfl dG_append_14 fG_29 k5 (n := 17) rfl ?_
  refine x_aload_n dG_append_17 rfl (n := 18) rfl ?_
  obtain ⟨a7, e8, h⟩ := h
  obtain ⟨k9, h⟩ := h
  refine x_invV (m := (mI (mI m a1 5 (0 : Int32)) a1 4 (gI (mI m a1 5 (0 : Int32)) a0 3))) e8 dG_append_18 gG_append_18 (as := [vR o1]) (st := []) rfl rfl k9 rfl rfl (Nat.le_of_ble_eq_true rfl) (n := 21) rfl rfl rfl h (xBk.V fun m10 h => ?_)
  refine x_aload_n dG_append_21 rfl (n := 22) rfl ?_
  obtain ⟨k11, h⟩ := h
  refine x_getR rfl dG_append_22 fG_22 k11 (n := 25) rfl ?_
  refine x_aload_n dG_append_25 rfl (n := 26) rfl ?_
  obtain ⟨a12, e13, h⟩ := h
  obtain ⟨k14, h⟩ := h
  refine x_invV (m := m10) e13 dG_append_26 gG_append_26 (as := [vR o1]) (st := []) rfl rfl k14 rfl rfl (Nat.le_of_ble_eq_true rfl) (n := 29) rfl rfl rfl h (xBk.V fun m15 h => ?_)
  exact x_vret dG_append_29 rfl h
set_option maxRecDepth 100000 in
set_option maxHeartbeats 4000000 in
theorem bG_hasInOpenPage {l : Launch} {G : xG} {m : XM} {Q : XR → XM → Prop} {a0 : Nat} {o1 : Option Nat} (hst : l.stackTraces = false)
    (h : ∃ a1, o1 = some a1 ∧ kd m a1 = some (oB 1) ∧ kd m a0 = some (oB 2) ∧ ((¬ (gI m a1 4) = (gI m a0 3) → Q (.inl (some (vI (0 : Int32)))) m) ∧ ((gI m a1 4) = (gI m a0 3) → Q (.inl (some (vI (1 : Int32)))) m))) :
    CC l G xG_hasInOpenPage [vR (some a0), vR o1] m Q := by
  refine x_entry (by decide +kernel) rfl hst (Nat.le_of_ble_eq_true rfl) (L0 := [some (vR (some a0)), some (vR o1)]) rfl ?_
  refine x_aload_n dG_hasInOpenPage_0 rfl (n := 1) rfl ?_
  obtain ⟨a1, e2, h⟩ := h
  obtain ⟨k3, h⟩ := h
  refine x_getI e2 dG_hasInOpenPage_1 fG_47 k3 (n := 4) rfl ?_
  refine x_aload_n dG_hasInOpenPage_4 rfl (n := 5) rfl ?_
  obtain ⟨k4, h⟩ := h
  refine x_getI rfl dG_hasInOpenPage_5 fG_33 k4 (n := 8) rfl ?_
  obtain ⟨h, h'⟩ := h
  refine x_icmp_ne (tgt := 15) dG_hasInOpenPage_8 rfl (n := 11) rfl (fun c5 => ?_) (fun c5 => ?_)
  · replace h := h c5
    refine x_iconst (v := 0) dG_hasInOpenPage_15 (by decide) (n := 16) rfl ?_
    exact x_zret dG_hasInOpenPage_16 rfl (by decide) h
  · replace h := h' c5
    refine x_iconst (v := 1) dG_hasInOpenPage_11 (by decide) (n := 12) rfl ?_
    refine x_goto (tgt := 16) dG_hasInOpenPage_12 rfl ?_
    exact x_zret dG_hasInOpenPage_16 rfl (by decide) h
set_option maxRecDepth 100000 in
set_option maxHeartbeats 4000000 in
theorem bG_wipe_2 {l : Launch} {G : xG} {m : XM} {bc bs : Nat} {Q : XR → XM → Prop} {a0 : Nat} {x1 : Int32}
    (h : (((32 : Int32) ≤ x1 → kd m a0 = some (oB 2) ∧ ∃ a2, gR m a0 2 = some a2 ∧ kd m a2 = some (oB 3) ∧ CC l G xP_wipe [vR (some a2)] m (kV (fun m5 => kd m5 a0 = some (oB 2) ∧ ∃ a7, gR m5 a0 1 = some a7 ∧ kd m5 a7 = some (oB 0) ∧ CC l G xI_wipe [vR (some a7)] m5 (kV (fun m10 => kd m10 a0 = some (oB 2) ∧ ∀ m12, m12 = mI m10 a0 3 (0 : Int32) → Q (.inl none) m12) Q)) Q)) ∧ (¬ (32 : Int32) ≤ x1 → kd m a0 = some (oB 2) ∧ ∃ a14, gR m a0 0 = some a14 ∧ ∃ n17, kd m a14 = some (aR 4 n17) ∧ vp_in x1 n17 ∧ ∃ a19, gR m a14 x1.toNatClampNeg = some a19 ∧ kd m a19 = some (oB 3) ∧ CC l G xP_wipe [vR (some a19)] m (kV (fun m22 => WW l G xG_wipe 2 [some (vR (some a0)), some (vI (x1 + 1))] [] m22 bc bs Q) Q)))) :
    WW l G xG_wipe 2 [some (vR (some a0)), some (vI x1)] [] m bc bs Q := by
  refine x_iload_n dG_wipe_2 rfl (n := 3) rfl ?_
  refine x_bipush (v := 32) dG_wipe_3 (by decide) (n := 5) rfl ?_
  obtain ⟨h, h'⟩ := h
  refine x_icmp_ge (tgt := 23) dG_wipe_5 rfl (n := 8) rfl (fun c23 => ?_) (fun c23 => ?_)
  · replace h := h c23
    refine x_aload_n dG_wipe_23 rfl (n := 24) rfl ?_
    obtain ⟨k1, h⟩ := h
    refine x_getR rfl dG_wipe_24 fG_29 k1 (n := 27) rfl ?_
    obtain ⟨a2, e3, h⟩ := h
    obtain ⟨k4, h⟩ := h
    refine x_invV (m := m) e3 dG_wipe_27 gG_wipe_27 (as := []) (st := []) rfl rfl k4 rfl rfl (Nat.le_of_ble_eq_true rfl) (n := 30) rfl rfl rfl h (xBk.V fun m5 h => ?_)
    refine x_aload_n dG_wipe_30 rfl (n := 31) rfl ?_
    obtain ⟨k6, h⟩ := h
    refine x_getR rfl dG_wipe_31 fG_22 k6 (n := 34) rfl ?_
    obtain ⟨a7, e8, h⟩ := h
    obtain ⟨k9, h⟩ := h
    refine x_invV (m := m5) e8 dG_wipe_34 gG_wipe_34 (as := []) (st := []) rfl rfl k9 rfl rfl (Nat.le_of_ble_eq_true rfl) (n := 37) rfl rfl rfl h (xBk.V fun m10 h => ?_)
    refine x_aload_n dG_wipe_37 rfl (n := 38) rfl ?_
    refine x_iconst (v := 0) dG_wipe_38 (by decide) (n := 39) rfl ?_
    obtain ⟨k11, h⟩ := h
    replace h := h _ rfl
    refine x_putI rfl dG_wipe_39 pG_33 k11 rfl rfl (n := 42) rfl ?_
    exact x_vret dG_wipe_42 rfl h
  · replace h := h' c23
    refine x_aload_n dG_wipe_8 rfl (n := 9) rfl ?_
    obtain ⟨k13, h⟩ := h
    refine x_getR rfl dG_wipe_9 fG_13 k13 (n := 12) rfl ?_
    refine x_iload_n dG_wipe_12 rfl (n := 13) rfl ?_
    obtain ⟨a14, e15, h⟩ := h
    obtain ⟨n17, k16, h⟩ := h
    obtain ⟨c18, h⟩ := h
    refine x_aald e15 dG_wipe_13 k16 (by decide) c18 (n := 14) rfl ?_
    obtain ⟨a19, e20, h⟩ := h
    obtain ⟨k21, h⟩ := h
    refine x_invV (m := m) e20 dG_wipe_14 gG_wipe_14 (as := []) (st := []) rfl rfl k21 rfl rfl (Nat.le_of_ble_eq_true rfl) (n := 17) rfl rfl rfl h (xBk.V fun m22 h => ?_)
    refine x_iinc (v := x1 + 1) dG_wipe_17 rfl rfl (by decide) (L' := [some (vR (some a0)), some (vI (x1 + 1))]) rfl (n := 20) rfl ?_
    refine x_goto (tgt := 2) dG_wipe_20 rfl ?_
    exact h
set_option maxRecDepth 100000 in
set_option maxHeartbeats 4000000 in
theorem bG_wipe {l : Launch} {G : xG} {m : XM} {Q : XR → XM → Prop} {a0 : Nat} (hst : l.stackTraces = false)
    (h : WW l G xG_wipe 2 [some (vR (some a0)), some (vI (0 : Int32))] [] m 0 0 Q) :
    CC l G xG_wipe [vR (some a0)] m Q := by
  refine x_entry (by decide +kernel) rfl hst (Nat.le_of_ble_eq_true rfl) (L0 := [some (vR (some a0)), none]) rfl ?_
  refine x_iconst (v := 0) dG_wipe_0 (by decide) (n := 1) rfl ?_
  refine x_istore_n dG_wipe_1 (by decide) (L' := [some (vR (some a0)), some (vI (0 : Int32))]) rfl (n := 2) rfl ?_
  exact h
