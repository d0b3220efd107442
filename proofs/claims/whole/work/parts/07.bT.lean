set_option maxRecDepth 100000 in
set_option maxHeartbeats 4000000 in
theorem bT_init {l : Launch} {G : xG} {m : XM} {Q : XR → XM → Prop} {a0 : Nat} {x1 : Int64} {o3 : Option Nat} (hst : l.stackTraces = false)
    (h : kd m a0 = some (oB 1) ∧ ∀ m2, m2 = mI m a0 4 (0 : Int32) → ∀ m3, m3 = mI m2 a0 5 (0 : Int32) → CC l G xC_mix [vL x1] m3 (kL (fun v5 m4 => kd m4 a0 = some (oB 1) ∧ ∀ m7, m7 = mL m4 a0 0 x1 → ∀ m8, m8 = mR m7 a0 1 o3 → CC l G xC_setNumber [vL v5] m8 (kI (fun v10 m9 => kd m9 a0 = some (oB 1) ∧ ∀ m12, m12 = mI m9 a0 2 v10 → CC l G xC_filterBit [vL v5] m12 (kL (fun v14 m13 => kd m13 a0 = some (oB 1) ∧ ∀ m16, m16 = mL m13 a0 3 v14 → Q (.inl none) m16) xNo)) xNo)) xNo)) :
    CC l G xT_init [vR (some a0), vL x1, vR o3] m Q := by
  refine x_entry (by decide +kernel) rfl hst (Nat.le_of_ble_eq_true rfl) (L0 := [some (vR (some a0)), some (vL x1), none, some (vR o3), none, none]) rfl ?_
  refine x_aload_n dT_init_0 rfl (n := 1) rfl ?_
  refine x_objInit dT_init_1 w_311 w_58 w_59 (by decide) (by decide) (n := 4) rfl ?_
  refine x_aload_n dT_init_4 rfl (n := 5) rfl ?_
  refine x_iconst (v := 0) dT_init_5 (by decide) (n := 6) rfl ?_
  obtain ⟨k1, h⟩ := h
  replace h := h _ rfl
  refine x_putI rfl dT_init_6 pT_9 k1 rfl rfl (n := 9) rfl ?_
  refine x_aload_n dT_init_9 rfl (n := 10) rfl ?_
  refine x_iconst (v := 0) dT_init_10 (by decide) (n := 11) rfl ?_
  replace h := h _ rfl
  refine x_putI rfl dT_init_11 pT_15 k1 (by decide) (by decide) (n := 14) rfl ?_
  refine x_lload_n dT_init_14 rfl (n := 15) rfl ?_
  refine x_invSN (m := (mI (mI m a0 4 (0 : Int32)) a0 5 (0 : Int32))) dT_init_15 gT_init_15 (as := [vL x1]) (st := []) rfl rfl (Nat.le_of_ble_eq_true rfl) (n := 18) rfl rfl rfl h kL.no (xBk.J0 fun v5 m4 h => ?_)
  refine x_lstore dT_init_18 (by decide) (L' := [some (vR (some a0)), some (vL x1), none, some (vR o3), some (vL v5), none]) rfl (n := 20) rfl ?_
  refine x_aload_n dT_init_20 rfl (n := 21) rfl ?_
  refine x_lload_n dT_init_21 rfl (n := 22) rfl ?_
  obtain ⟨k6, h⟩ := h
  replace h := h _ rfl
  refine x_putL rfl dT_init_22 pT_23 k6 rfl rfl (n := 25) rfl ?_
  refine x_aload_n dT_init_25 rfl (n := 26) rfl ?_
  refine x_aload_n dT_init_26 rfl (n := 27) rfl ?_
  replace h := h _ rfl
  refine x_putR rfl dT_init_27 pT_27 k6 (fun o => by cases o <;> rfl) (fun o => by cases o <;> rfl) (n := 30) rfl ?_
  refine x_aload_n dT_init_30 rfl (n := 31) rfl ?_
  refine x_lload dT_init_31 rfl (n := 33) rfl ?_
  refine x_invSN (m := (mR (mL m4 a0 0 x1) a0 1 o3)) dT_init_33 gT_init_33 (as := [vL v5]) (st := [vR (some a0)]) rfl rfl (Nat.le_of_ble_eq_true rfl) (n := 36) rfl rfl rfl h kI.no (xBk.I0 fun v10 m9 h => ?_)
  obtain ⟨k11, h⟩ := h
  replace h := h _ rfl
  refine x_putI rfl dT_init_36 pT_35 k11 rfl rfl (n := 39) rfl ?_
  refine x_aload_n dT_init_39 rfl (n := 40) rfl ?_
  refine x_lload dT_init_40 rfl (n := 42) rfl ?_
  refine x_invSN (m := (mI m9 a0 2 v10)) dT_init_42 gT_init_42 (as := [vL v5]) (st := [vR (some a0)]) rfl rfl (Nat.le_of_ble_eq_true rfl) (n := 45) rfl rfl rfl h kL.no (xBk.J0 fun v14 m13 h => ?_)
  obtain ⟨k15, h⟩ := h
  replace h := h _ rfl
  refine x_putL rfl dT_init_45 pT_41 k15 rfl rfl (n := 48) rfl ?_
  exact x_vret dT_init_48 rfl h
set_option maxRecDepth 100000 in
set_option maxHeartbeats 4000000 in
theorem bT_words {l : Launch} {G : xG} {m : XM} {Q : XR → XM → Prop} {a0 : Nat} (hst : l.stackTraces = false)
    (h : kd m a0 = some (oB 1) ∧ ∃ a2, gR m a0 1 = some a2 ∧ ∃ n5, kd m a2 = some (aR 0 n5) ∧ Q (.inl (some (vI ((3 : Int32) + (Int32.ofNat n5))))) m) :
    CC l G xT_words [vR (some a0)] m Q := by
  refine x_entry (by decide +kernel) rfl hst (Nat.le_of_ble_eq_true rfl) (L0 := [some (vR (some a0))]) rfl ?_
  refine x_iconst (v := 3) dT_words_0 (by decide) (n := 1) rfl ?_
  refine x_aload_n dT_words_1 rfl (n := 2) rfl ?_
  obtain ⟨k1, h⟩ := h
  refine x_getR rfl dT_words_2 fT_27 k1 (n := 5) rfl ?_
  obtain ⟨a2, e3, h⟩ := h
  obtain ⟨n5, k4, h⟩ := h
  refine x_alen e3 dT_words_5 k4 (by decide) (n := 6) rfl ?_
  refine x_iadd dT_words_6 (n := 7) rfl ?_
  exact x_iret dT_words_7 rfl h
set_option maxRecDepth 100000 in
set_option maxHeartbeats 4000000 in
theorem bT_wordAt {l : Launch} {G : xG} {m : XM} {Q : XR → XM → Prop} {a0 : Nat} {x1 : Int32} (hst : l.stackTraces = false)
    (h : ((x1 = (0 : Int32) → kd m a0 = some (oB 1) ∧ ∃ a3, gR m a0 1 = some a3 ∧ ∃ n6, kd m a3 = some (aR 0 n6) ∧ Q (.inl (some (vI (Int32.ofNat n6)))) m) ∧ (x1 = (1 : Int32) → kd m a0 = some (oB 1) ∧ Q (.inl (some (vI ((jushr (gL m a0 0) (32 : Int32)).toInt32)))) m) ∧ (x1 = (2 : Int32) → kd m a0 = some (oB 1) ∧ Q (.inl (some (vI ((gL m a0 0).toInt32)))) m) ∧ (x1.toInt < 0 ∨ 2 < x1.toInt → kd m a0 = some (oB 1) ∧ ∃ a10, gR m a0 1 = some a10 ∧ ∃ n13, kd m a10 = some (aR 0 n13) ∧ vp_in (x1 - (3 : Int32)) n13 ∧ Q (.inl (some (vI (gI m a10 (x1 - (3 : Int32)).toNatClampNeg)))) m))) :
    CC l G xT_wordAt [vR (some a0), vI x1] m Q := by
  refine x_entry (by decide +kernel) rfl hst (Nat.le_of_ble_eq_true rfl) (L0 := [some (vR (some a0)), some (vI x1)]) rfl ?_
  refine x_iload_n dT_wordAt_0 rfl (n := 1) rfl ?_
  obtain ⟨h15, h16, h17, h18⟩ := h
  rcases sw3 x1 with c1 | c1 | c1 | c1
  · refine x_tableIn (tgt := 28) dT_wordAt_1 (by rw [c1]; decide) (by rw [c1]; decide) (by rw [c1]; rfl) rfl ?_
    replace h := h15 c1
    refine x_aload_n dT_wordAt_28 rfl (n := 29) rfl ?_
    obtain ⟨k2, h⟩ := h
    refine x_getR rfl dT_wordAt_29 fT_27 k2 (n := 32) rfl ?_
    obtain ⟨a3, e4, h⟩ := h
    obtain ⟨n6, k5, h⟩ := h
    refine x_alen e4 dT_wordAt_32 k5 (by decide) (n := 33) rfl ?_
    exact x_iret dT_wordAt_33 rfl h
  · refine x_tableIn (tgt := 34) dT_wordAt_1 (by rw [c1]; decide) (by rw [c1]; decide) (by rw [c1]; rfl) rfl ?_
    replace h := h16 c1
    refine x_aload_n dT_wordAt_34 rfl (n := 35) rfl ?_
    obtain ⟨k7, h⟩ := h
    refine x_getL rfl dT_wordAt_35 fT_23 k7 (n := 38) rfl ?_
    refine x_bipush (v := 32) dT_wordAt_38 (by decide) (n := 40) rfl ?_
    refine x_lushr dT_wordAt_40 (n := 41) rfl ?_
    refine x_l2i dT_wordAt_41 (n := 42) rfl ?_
    exact x_iret dT_wordAt_42 rfl h
  · refine x_tableIn (tgt := 43) dT_wordAt_1 (by rw [c1]; decide) (by rw [c1]; decide) (by rw [c1]; rfl) rfl ?_
    replace h := h17 c1
    refine x_aload_n dT_wordAt_43 rfl (n := 44) rfl ?_
    obtain ⟨k8, h⟩ := h
    refine x_getL rfl dT_wordAt_44 fT_23 k8 (n := 47) rfl ?_
    refine x_l2i dT_wordAt_47 (n := 48) rfl ?_
    exact x_iret dT_wordAt_48 rfl h
  · refine x_tableOut (tgt := 49) dT_wordAt_1 c1 rfl ?_
    replace h := h18 c1
    refine x_aload_n dT_wordAt_49 rfl (n := 50) rfl ?_
    obtain ⟨k9, h⟩ := h
    refine x_getR rfl dT_wordAt_50 fT_27 k9 (n := 53) rfl ?_
    refine x_iload_n dT_wordAt_53 rfl (n := 54) rfl ?_
    refine x_iconst (v := 3) dT_wordAt_54 (by decide) (n := 55) rfl ?_
    refine x_isub dT_wordAt_55 (n := 56) rfl ?_
    obtain ⟨a10, e11, h⟩ := h
    obtain ⟨n13, k12, h⟩ := h
    obtain ⟨c14, h⟩ := h
    refine x_iald e11 dT_wordAt_56 k12 c14 (n := 57) rfl ?_
    exact x_iret dT_wordAt_57 rfl h
