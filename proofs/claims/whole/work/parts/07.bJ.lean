set_option maxRecDepth 100000 in
set_option maxHeartbeats 4000000 in
theorem bJ_min {l : Launch} {G : xG} {m : XM} {Q : XR → XM → Prop} {x0 : Int32} {x1 : Int32} (hst : l.stackTraces = false)
    (h : ((x1 < x0 → Q (.inl (some (vI x1))) m) ∧ (¬ x1 < x0 → Q (.inl (some (vI x0))) m))) :
    CC l G xJ_min [vI x0, vI x1] m Q := by
  refine x_entryF (by decide +kernel) rfl hst (Nat.le_of_ble_eq_true rfl) (L0 := [some (vI x0), some (vI x1)]) rfl ?_
  refine x_iload_n dJ_min_0 rfl (n := 1) rfl ?_
  refine x_iload_n dJ_min_1 rfl (n := 2) rfl ?_
  obtain ⟨h, h'⟩ := h
  refine x_icmp_gt (tgt := 9) dJ_min_2 rfl (n := 5) rfl (fun c1 => ?_) (fun c1 => ?_)
  · replace h := h c1
    refine x_iload_n dJ_min_9 rfl (n := 10) rfl ?_
    exact x_iret dJ_min_10 rfl h
  · replace h := h' c1
    refine x_iload_n dJ_min_5 rfl (n := 6) rfl ?_
    refine x_goto (tgt := 10) dJ_min_6 rfl ?_
    exact x_iret dJ_min_10 rfl h
set_option maxRecDepth 100000 in
set_option maxHeartbeats 4000000 in
theorem bJ_fill_5 {l : Launch} {G : xG} {m : XM} {bc bs : Nat} {Q : XR → XM → Prop} {o0 : Option Nat} {x1 : Int32} {x2 : Int32} {x3 : Int32}
    (h : ((x3 ≤ x2 → Q (.inl none) m) ∧ (¬ x3 ≤ x2 → ∃ a1, o0 = some a1 ∧ ∃ n4, kd m a1 = some (aR 0 n4) ∧ vp_in x2 n4 ∧ ∀ m6, m6 = mI m a1 x2.toNatClampNeg x1 → WW l G xJ_fill 5 [some (vR o0), some (vI x1), some (vI (x2 + 1)), some (vI x3)] [] m6 bc bs Q))) :
    WW l G xJ_fill 5 [some (vR o0), some (vI x1), some (vI x2), some (vI x3)] [] m bc bs Q := by
  refine x_iload_n dJ_fill_5 rfl (n := 6) rfl ?_
  refine x_iload_n dJ_fill_6 rfl (n := 7) rfl ?_
  obtain ⟨h, h'⟩ := h
  refine x_icmp_ge (tgt := 20) dJ_fill_7 rfl (n := 10) rfl (fun c7 => ?_) (fun c7 => ?_)
  · replace h := h c7
    exact x_vret dJ_fill_20 rfl h
  · replace h := h' c7
    refine x_aload_n dJ_fill_10 rfl (n := 11) rfl ?_
    refine x_iload_n dJ_fill_11 rfl (n := 12) rfl ?_
    refine x_iload_n dJ_fill_12 rfl (n := 13) rfl ?_
    obtain ⟨a1, e2, h⟩ := h
    obtain ⟨n4, k3, h⟩ := h
    obtain ⟨c5, h⟩ := h
    replace h := h _ rfl
    refine x_iast e2 dJ_fill_13 k3 c5 (n := 14) rfl ?_
    refine x_iinc (v := x2 + 1) dJ_fill_14 rfl rfl (by decide) (L' := [some (vR o0), some (vI x1), some (vI (x2 + 1)), some (vI x3)]) rfl (n := 17) rfl ?_
    refine x_goto (tgt := 5) dJ_fill_17 rfl ?_
    exact h
set_option maxRecDepth 100000 in
set_option maxHeartbeats 4000000 in
theorem bJ_fill {l : Launch} {G : xG} {m : XM} {Q : XR → XM → Prop} {o0 : Option Nat} {x1 : Int32} (hst : l.stackTraces = false)
    (h : ∃ a1, o0 = some a1 ∧ ∃ n4, kd m a1 = some (aR 0 n4) ∧ WW l G xJ_fill 5 [some (vR o0), some (vI x1), some (vI (0 : Int32)), some (vI (Int32.ofNat n4))] [] m 0 0 Q) :
    CC l G xJ_fill [vR o0, vI x1] m Q := by
  refine x_entryF (by decide +kernel) rfl hst (Nat.le_of_ble_eq_true rfl) (L0 := [some (vR o0), some (vI x1), none, none]) rfl ?_
  refine x_iconst (v := 0) dJ_fill_0 (by decide) (n := 1) rfl ?_
  refine x_istore_n dJ_fill_1 (by decide) (L' := [some (vR o0), some (vI x1), some (vI (0 : Int32)), none]) rfl (n := 2) rfl ?_
  refine x_aload_n dJ_fill_2 rfl (n := 3) rfl ?_
  obtain ⟨a1, e2, h⟩ := h
  obtain ⟨n4, k3, h⟩ := h
  refine x_alen e2 dJ_fill_3 k3 (by decide) (n := 4) rfl ?_
  refine x_istore_n dJ_fill_4 (by decide) (L' := [some (vR o0), some (vI x1), some (vI (0 : Int32)), some (vI (Int32.ofNat n4))]) rfl (n := 5) rfl ?_
  exact h
