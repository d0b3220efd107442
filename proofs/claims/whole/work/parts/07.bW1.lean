set_option maxRecDepth 100000 in
set_option maxHeartbeats 4000000 in
theorem bW_word_13 {l : Launch} {G : xG} {m : XM} {bc bs : Nat} {Q : XR → XM → Prop} {o0 : Option Nat} {x1 : Int32} {x2 : Int32} {o3 : Option Nat} {s0 : Option Nat}
    (h : Q (.inl (some (vI (1 : Int32)))) m) :
    WW l G xW_word 13 [some (vR o0), some (vI x1), some (vI x2), some (vR o3), none] [vR s0] m bc bs Q := by
  refine x_astore dW_word_13 (by decide) (L' := [some (vR o0), some (vI x1), some (vI x2), some (vR o3), some (vR s0)]) rfl (n := 15) rfl ?_
  refine x_iconst (v := 1) dW_word_15 (by decide) (n := 16) rfl ?_
  exact x_iret dW_word_16 rfl h
set_option maxRecDepth 100000 in
set_option maxHeartbeats 4000000 in
theorem bW_word {l : Launch} {G : xG} {m : XM} {Q : XR → XM → Prop} {o0 : Option Nat} {x1 : Int32} {x2 : Int32} {o3 : Option Nat} (hst : l.stackTraces = false)
    (h : ∃ a1, o0 = some a1 ∧ kd m a1 = some (oB 4) ∧ ∃ bc4 bs5, 1 = bc4 + 1 ∧ 6 = bs5 + 6 ∧ CC l G xC_word [vR (some a1), vI x1, vI x2] m (kI (fun v9 m8 => ∃ a10, o3 = some a10 ∧ ∃ n13, kd m8 a10 = some (aR 2 n13) ∧ vp_in (0 : Int32) n13 ∧ ∀ m15, m15 = mL m8 a10 (0 : Int32).toNatClampNeg v9.toInt64 → Q (.inl (some (vI (0 : Int32)))) m15) (kE (fun E m8 => (E = "java/lang/IndexOutOfBoundsException" ∧ ∀ q, WW l G xW_word 13 [some (vR o0), some (vI x1), some (vI x2), some (vR o3), none] [vR (some q)] m8 bc4 bs5 Q))))) :
    CC l G xW_word [vR o0, vI x1, vI x2, vR o3] m Q := by
  refine x_entryH (by decide +kernel) (by decide) hst (Nat.le_of_ble_eq_true rfl) (L0 := [some (vR o0), some (vI x1), some (vI x2), some (vR o3), none]) rfl ?_
  refine x_aload_n dW_word_0 rfl (n := 1) rfl ?_
  refine x_iconst (v := 0) dW_word_1 (by decide) (n := 2) rfl ?_
  refine x_aload_n dW_word_2 rfl (n := 3) rfl ?_
  refine x_iload_n dW_word_3 rfl (n := 4) rfl ?_
  refine x_iload_n dW_word_4 rfl (n := 5) rfl ?_
  obtain ⟨a1, e2, h⟩ := h
  obtain ⟨k3, h⟩ := h
  obtain ⟨bc4, bs5, b6, b7, h⟩ := h
  refine x_invVT (m := m) e2 dW_word_5 gW_word_5 (as := [vI x1, vI x2]) (st := [vI (0 : Int32), vR o3]) rfl rfl k3 rfl rfl (Nat.le_of_ble_eq_true rfl) (n := 8) rfl b6 b7 h (xTI fun v9 m8 h => ?_) ?_
  · refine x_i2l dW_word_8 (n := 9) rfl ?_
    obtain ⟨a10, e11, h⟩ := h
    obtain ⟨n13, k12, h⟩ := h
    obtain ⟨c14, h⟩ := h
    replace h := h _ rfl
    refine x_last e11 dW_word_9 k12 c14 (n := 10) rfl ?_
    refine x_goto (tgt := 17) dW_word_10 rfl ?_
    refine x_iconst (v := 0) dW_word_17 (by decide) (n := 18) rfl ?_
    exact x_iret dW_word_18 rfl h
  · intro E m' h
    rcases h with ⟨rfl, h⟩
    · exact ⟨13, kW_word_5_0, h⟩
set_option maxRecDepth 100000 in
set_option maxHeartbeats 4000000 in
theorem bW_put_9 {l : Launch} {G : xG} {m : XM} {bc bs : Nat} {Q : XR → XM → Prop} {o0 : Option Nat} {x1 : Int64} {x3 : Int32} {s0 : Option Nat}
    (h : Q (.inl (some (vI (1 : Int32)))) m) :
    WW l G xW_put 9 [some (vR o0), some (vL x1), none, some (vI x3), none] [vR s0] m bc bs Q := by
  refine x_astore dW_put_9 (by decide) (L' := [some (vR o0), some (vL x1), none, some (vI x3), some (vR s0)]) rfl (n := 11) rfl ?_
  refine x_iconst (v := 1) dW_put_11 (by decide) (n := 12) rfl ?_
  exact x_iret dW_put_12 rfl h
set_option maxRecDepth 100000 in
set_option maxHeartbeats 4000000 in
theorem bW_put_13 {l : Launch} {G : xG} {m : XM} {bc bs : Nat} {Q : XR → XM → Prop} {o0 : Option Nat} {x1 : Int64} {x3 : Int32} {s0 : Option Nat}
    (h : Q (.inl (some (vI (2 : Int32)))) m) :
    WW l G xW_put 13 [some (vR o0), some (vL x1), none, some (vI x3), none] [vR s0] m bc bs Q := by
  refine x_astore dW_put_13 (by decide) (L' := [some (vR o0), some (vL x1), none, some (vI x3), some (vR s0)]) rfl (n := 15) rfl ?_
  refine x_iconst (v := 2) dW_put_15 (by decide) (n := 16) rfl ?_
  exact x_iret dW_put_16 rfl h
set_option maxRecDepth 100000 in
set_option maxHeartbeats 4000000 in
theorem bW_put {l : Launch} {G : xG} {m : XM} {Q : XR → XM → Prop} {o0 : Option Nat} {x1 : Int64} {x3 : Int32} (hst : l.stackTraces = false)
    (h : ∃ a1, o0 = some a1 ∧ kd m a1 = some (oB 4) ∧ ∃ bc4 bs5, 4 = bc4 + 4 ∧ 26 = bs5 + 26 ∧ CC l G xC_put [vR (some a1), vL x1, vI x3] m (kV (fun m8 => Q (.inl (some (vI (0 : Int32)))) m8) (kE (fun E m8 => (E = "java/lang/IllegalStateException" ∧ ∀ q, WW l G xW_put 9 [some (vR o0), some (vL x1), none, some (vI x3), none] [vR (some q)] m8 bc4 bs5 Q) ∨ (E = "java/lang/IllegalArgumentException" ∧ ∀ q, WW l G xW_put 13 [some (vR o0), some (vL x1), none, some (vI x3), none] [vR (some q)] m8 bc4 bs5 Q))))) :
    CC l G xW_put [vR o0, vL x1, vI x3] m Q := by
  refine x_entryH (by decide +kernel) (by decide) hst (Nat.le_of_ble_eq_true rfl) (L0 := [some (vR o0), some (vL x1), none, some (vI x3), none]) rfl ?_
  refine x_aload_n dW_put_0 rfl (n := 1) rfl ?_
  refine x_lload_n dW_put_1 rfl (n := 2) rfl ?_
  refine x_iload_n dW_put_2 rfl (n := 3) rfl ?_
  obtain ⟨a1, e2, h⟩ := h
  obtain ⟨k3, h⟩ := h
  obtain ⟨bc4, bs5, b6, b7, h⟩ := h
  refine x_invVT (m := m) e2 dW_put_3 gW_put_3 (as := [vL x1, vI x3]) (st := []) rfl rfl k3 rfl rfl (Nat.le_of_ble_eq_true rfl) (n := 6) rfl b6 b7 h (xTV fun m8 h => ?_) ?_
  · refine x_goto (tgt := 17) dW_put_6 rfl ?_
    refine x_iconst (v := 0) dW_put_17 (by decide) (n := 18) rfl ?_
    exact x_iret dW_put_18 rfl h
  · intro E m' h
    rcases h with ⟨rfl, h⟩ | ⟨rfl, h⟩
    · exact ⟨9, kW_put_3_0, h⟩
    · exact ⟨13, kW_put_3_1, h⟩
set_option maxRecDepth 100000 in
set_option maxHeartbeats 4000000 in
theorem bW_get_12 {l : Launch} {G : xG} {m : XM} {bc bs : Nat} {Q : XR → XM → Prop} {o0 : Option Nat} {x1 : Int64} {o3 : Option Nat} {s0 : Option Nat}
    (h : Q (.inl (some (vI (1 : Int32)))) m) :
    WW l G xW_get 12 [some (vR o0), some (vL x1), none, some (vR o3), none] [vR s0] m bc bs Q := by
  refine x_astore dW_get_12 (by decide) (L' := [some (vR o0), some (vL x1), none, some (vR o3), some (vR s0)]) rfl (n := 14) rfl ?_
  refine x_iconst (v := 1) dW_get_14 (by decide) (n := 15) rfl ?_
  exact x_iret dW_get_15 rfl h
set_option maxRecDepth 100000 in
set_option maxHeartbeats 4000000 in
theorem bW_get {l : Launch} {G : xG} {m : XM} {Q : XR → XM → Prop} {o0 : Option Nat} {x1 : Int64} {o3 : Option Nat} (hst : l.stackTraces = false)
    (h : ∃ a1, o0 = some a1 ∧ kd m a1 = some (oB 4) ∧ ∃ bc4 bs5, 1 = bc4 + 1 ∧ 6 = bs5 + 6 ∧ CC l G xC_get [vR (some a1), vL x1] m (kI (fun v9 m8 => ∃ a10, o3 = some a10 ∧ ∃ n13, kd m8 a10 = some (aR 2 n13) ∧ vp_in (0 : Int32) n13 ∧ ∀ m15, m15 = mL m8 a10 (0 : Int32).toNatClampNeg v9.toInt64 → Q (.inl (some (vI (0 : Int32)))) m15) (kE (fun E m8 => (E = "java/lang/IllegalStateException" ∧ ∀ q, WW l G xW_get 12 [some (vR o0), some (vL x1), none, some (vR o3), none] [vR (some q)] m8 bc4 bs5 Q))))) :
    CC l G xW_get [vR o0, vL x1, vR o3] m Q := by
  refine x_entryH (by decide +kernel) (by decide) hst (Nat.le_of_ble_eq_true rfl) (L0 := [some (vR o0), some (vL x1), none, some (vR o3), none]) rfl ?_
  refine x_aload_n dW_get_0 rfl (n := 1) rfl ?_
  refine x_iconst (v := 0) dW_get_1 (by decide) (n := 2) rfl ?_
  refine x_aload_n dW_get_2 rfl (n := 3) rfl ?_
  refine x_lload_n dW_get_3 rfl (n := 4) rfl ?_
  obtain ⟨a1, e2, h⟩ := h
  obtain ⟨k3, h⟩ := h
  obtain ⟨bc4, bs5, b6, b7, h⟩ := h
  refine x_invVT (m := m) e2 dW_get_4 gW_get_4 (as := [vL x1]) (st := [vI (0 : Int32), vR o3]) rfl rfl k3 rfl rfl (Nat.le_of_ble_eq_true rfl) (n := 7) rfl b6 b7 h (xTI fun v9 m8 h => ?_) ?_
  · refine x_i2l dW_get_7 (n := 8) rfl ?_
    obtain ⟨a10, e11, h⟩ := h
    obtain ⟨n13, k12, h⟩ := h
    obtain ⟨c14, h⟩ := h
    replace h := h _ rfl
    refine x_last e11 dW_get_8 k12 c14 (n := 9) rfl ?_
    refine x_goto (tgt := 16) dW_get_9 rfl ?_
    refine x_iconst (v := 0) dW_get_16 (by decide) (n := 17) rfl ?_
    exact x_iret dW_get_17 rfl h
  · intro E m' h
    rcases h with ⟨rfl, h⟩
    · exact ⟨12, kW_get_4_0, h⟩
set_option maxRecDepth 100000 in
set_option maxHeartbeats 4000000 in
theorem bW_got_12 {l : Launch} {G : xG} {m : XM} {bc bs : Nat} {Q : XR → XM → Prop} {o0 : Option Nat} {x1 : Int32} {o2 : Option Nat} {s0 : Option Nat}
    (h : Q (.inl (some (vI (1 : Int32)))) m) :
    WW l G xW_got 12 [some (vR o0), some (vI x1), some (vR o2), none] [vR s0] m bc bs Q := by
  refine x_astore_n dW_got_12 (by decide) (L' := [some (vR o0), some (vI x1), some (vR o2), some (vR s0)]) rfl (n := 13) rfl ?_
  refine x_iconst (v := 1) dW_got_13 (by decide) (n := 14) rfl ?_
  exact x_iret dW_got_14 rfl h
set_option maxRecDepth 100000 in
set_option maxHeartbeats 4000000 in
theorem bW_got {l : Launch} {G : xG} {m : XM} {Q : XR → XM → Prop} {o0 : Option Nat} {x1 : Int32} {o2 : Option Nat} (hst : l.stackTraces = false)
    (h : ∃ a1, o0 = some a1 ∧ kd m a1 = some (oB 4) ∧ ∃ bc4 bs5, 1 = bc4 + 1 ∧ 6 = bs5 + 6 ∧ CC l G xC_got [vR (some a1), vI x1] m (kI (fun v9 m8 => ∃ a10, o2 = some a10 ∧ ∃ n13, kd m8 a10 = some (aR 2 n13) ∧ vp_in (0 : Int32) n13 ∧ ∀ m15, m15 = mL m8 a10 (0 : Int32).toNatClampNeg v9.toInt64 → Q (.inl (some (vI (0 : Int32)))) m15) (kE (fun E m8 => (E = "java/lang/IndexOutOfBoundsException" ∧ ∀ q, WW l G xW_got 12 [some (vR o0), some (vI x1), some (vR o2), none] [vR (some q)] m8 bc4 bs5 Q))))) :
    CC l G xW_got [vR o0, vI x1, vR o2] m Q := by
  refine x_entryH (by decide +kernel) (by decide) hst (Nat.le_of_ble_eq_true rfl) (L0 := [some (vR o0), some (vI x1), some (vR o2), none]) rfl ?_
  refine x_aload_n dW_got_0 rfl (n := 1) rfl ?_
  refine x_iconst (v := 0) dW_got_1 (by decide) (n := 2) rfl ?_
  refine x_aload_n dW_got_2 rfl (n := 3) rfl ?_
  refine x_iload_n dW_got_3 rfl (n := 4) rfl ?_
  obtain ⟨a1, e2, h⟩ := h
  obtain ⟨k3, h⟩ := h
  obtain ⟨bc4, bs5, b6, b7, h⟩ := h
  refine x_invVT (m := m) e2 dW_got_4 gW_got_4 (as := [vI x1]) (st := [vI (0 : Int32), vR o2]) rfl rfl k3 rfl rfl (Nat.le_of_ble_eq_true rfl) (n := 7) rfl b6 b7 h (xTI fun v9 m8 h => ?_) ?_
  · refine x_i2l dW_got_7 (n := 8) rfl ?_
    obtain ⟨a10, e11, h⟩ := h
    obtain ⟨n13, k12, h⟩ := h
    obtain ⟨c14, h⟩ := h
    replace h := h _ rfl
    refine x_last e11 dW_got_8 k12 c14 (n := 9) rfl ?_
    refine x_goto (tgt := 15) dW_got_9 rfl ?_
    refine x_iconst (v := 0) dW_got_15 (by decide) (n := 16) rfl ?_
    exact x_iret dW_got_16 rfl h
  · intro E m' h
    rcases h with ⟨rfl, h⟩
    · exact ⟨12, kW_got_4_0, h⟩
set_option maxRecDepth 100000 in
set_option maxHeartbeats 4000000 in
theorem bW_delete_19 {l : Launch} {G : xG} {m : XM} {bc bs : Nat} {Q : XR → XM → Prop} {o0 : Option Nat} {x1 : Int64} {o3 : Option Nat} {s0 : Option Nat}
    (h : Q (.inl (some (vI (1 : Int32)))) m) :
    WW l G xW_delete 19 [some (vR o0), some (vL x1), none, some (vR o3), none] [vR s0] m bc bs Q := by
  refine x_astore dW_delete_19 (by decide) (L' := [some (vR o0), some (vL x1), none, some (vR o3), some (vR s0)]) rfl (n := 21) rfl ?_
  refine x_iconst (v := 1) dW_delete_21 (by decide) (n := 22) rfl ?_
  exact x_iret dW_delete_22 rfl h
set_option maxRecDepth 100000 in
set_option maxHeartbeats 4000000 in
theorem bW_delete {l : Launch} {G : xG} {m : XM} {Q : XR → XM → Prop} {o0 : Option Nat} {x1 : Int64} {o3 : Option Nat} (hst : l.stackTraces = false)
    (h : ∃ a1, o0 = some a1 ∧ kd m a1 = some (oB 4) ∧ ∃ bc4 bs5, 1 = bc4 + 1 ∧ 6 = bs5 + 6 ∧ CC l G xC_delete [vR (some a1), vL x1] m (kI (fun v9 m8 => ((v9 = 0 → ∃ a10, o3 = some a10 ∧ ∃ n13, kd m8 a10 = some (aR 2 n13) ∧ vp_in (0 : Int32) n13 ∧ ∀ m15, m15 = mL m8 a10 (0 : Int32).toNatClampNeg (0 : Int64) → Q (.inl (some (vI (0 : Int32)))) m15) ∧ (¬ v9 = 0 → ∃ a16, o3 = some a16 ∧ ∃ n19, kd m8 a16 = some (aR 2 n19) ∧ vp_in (0 : Int32) n19 ∧ ∀ m21, m21 = mL m8 a16 (0 : Int32).toNatClampNeg (1 : Int64) → Q (.inl (some (vI (0 : Int32)))) m21))) (kE (fun E m8 => (E = "java/lang/IllegalStateException" ∧ ∀ q, WW l G xW_delete 19 [some (vR o0), some (vL x1), none, some (vR o3), none] [vR (some q)] m8 bc4 bs5 Q))))) :
    CC l G xW_delete [vR o0, vL x1, vR o3] m Q := by
  refine x_entryH (by decide +kernel) (by decide) hst (Nat.le_of_ble_eq_true rfl) (L0 := [some (vR o0), some (vL x1), none, some (vR o3), none]) rfl ?_
  refine x_aload_n dW_delete_0 rfl (n := 1) rfl ?_
  refine x_iconst (v := 0) dW_delete_1 (by decide) (n := 2) rfl ?_
  refine x_aload_n dW_delete_2 rfl (n := 3) rfl ?_
  refine x_lload_n dW_delete_3 rfl (n := 4) rfl ?_
  obtain ⟨a1, e2, h⟩ := h
  obtain ⟨k3, h⟩ := h
  obtain ⟨bc4, bs5, b6, b7, h⟩ := h
  refine x_invVT (m := m) e2 dW_delete_4 gW_delete_4 (as := [vL x1]) (st := [vI (0 : Int32), vR o3]) rfl rfl k3 rfl rfl (Nat.le_of_ble_eq_true rfl) (n := 7) rfl b6 b7 h (xTI fun v9 m8 h => ?_) ?_
  · obtain ⟨h, h'⟩ := h
    refine x_if_eq (tgt := 14) dW_delete_7 rfl (n := 10) rfl (fun c22 => ?_) (fun c22 => ?_)
    · replace h := h c22
      refine x_lconst (v := 0) dW_delete_14 (by decide) (n := 15) rfl ?_
      obtain ⟨a10, e11, h⟩ := h
      obtain ⟨n13, k12, h⟩ := h
      obtain ⟨c14, h⟩ := h
      replace h := h _ rfl
      refine x_last e11 dW_delete_15 k12 c14 (n := 16) rfl ?_
      refine x_goto (tgt := 23) dW_delete_16 rfl ?_
      refine x_iconst (v := 0) dW_delete_23 (by decide) (n := 24) rfl ?_
      exact x_iret dW_delete_24 rfl h
    · replace h := h' c22
      refine x_lconst (v := 1) dW_delete_10 (by decide) (n := 11) rfl ?_
      refine x_goto (tgt := 15) dW_delete_11 rfl ?_
      obtain ⟨a16, e17, h⟩ := h
      obtain ⟨n19, k18, h⟩ := h
      obtain ⟨c20, h⟩ := h
      replace h := h _ rfl
      refine x_last e17 dW_delete_15 k18 c20 (n := 16) rfl ?_
      refine x_goto (tgt := 23) dW_delete_16 rfl ?_
      refine x_iconst (v := 0) dW_delete_23 (by decide) (n := 24) rfl ?_
      exact x_iret dW_delete_24 rfl h
  · intro E m' h
    rcases h with ⟨rfl, h⟩
    · exact ⟨19, kW_delete_4_0, h⟩
set_option maxRecDepth 100000 in
set_option maxHeartbeats 4000000 in
theorem bW_where_12 {l : Launch} {G : xG} {m : XM} {bc bs : Nat} {Q : XR → XM → Prop} {o0 : Option Nat} {x1 : Int64} {o3 : Option Nat} {s0 : Option Nat}
    (h : Q (.inl (some (vI (1 : Int32)))) m) :
    WW l G xW_where 12 [some (vR o0), some (vL x1), none, some (vR o3), none] [vR s0] m bc bs Q := by
  refine x_astore dW_where_12 (by decide) (L' := [some (vR o0), some (vL x1), none, some (vR o3), some (vR s0)]) rfl (n := 14) rfl ?_
  refine x_iconst (v := 1) dW_where_14 (by decide) (n := 15) rfl ?_
  exact x_iret dW_where_15 rfl h
set_option maxRecDepth 100000 in
set_option maxHeartbeats 4000000 in
theorem bW_where {l : Launch} {G : xG} {m : XM} {Q : XR → XM → Prop} {o0 : Option Nat} {x1 : Int64} {o3 : Option Nat} (hst : l.stackTraces = false)
    (h : ∃ a1, o0 = some a1 ∧ kd m a1 = some (oB 4) ∧ ∃ bc4 bs5, 1 = bc4 + 1 ∧ 6 = bs5 + 6 ∧ CC l G xC_where [vR (some a1), vL x1] m (kI (fun v9 m8 => ∃ a10, o3 = some a10 ∧ ∃ n13, kd m8 a10 = some (aR 2 n13) ∧ vp_in (0 : Int32) n13 ∧ ∀ m15, m15 = mL m8 a10 (0 : Int32).toNatClampNeg v9.toInt64 → Q (.inl (some (vI (0 : Int32)))) m15) (kE (fun E m8 => (E = "java/lang/IllegalStateException" ∧ ∀ q, WW l G xW_where 12 [some (vR o0), some (vL x1), none, some (vR o3), none] [vR (some q)] m8 bc4 bs5 Q))))) :
    CC l G xW_where [vR o0, vL x1, vR o3] m Q := by
  refine x_entryH (by decide +kernel) (by decide) hst (Nat.le_of_ble_eq_true rfl) (L0 := [some (vR o0), some (vL x1), none, some (vR o3), none]) rfl ?_
  refine x_aload_n dW_where_0 rfl (n := 1) rfl ?_
  refine x_iconst (v := 0) dW_where_1 (by decide) (n := 2) rfl ?_
  refine x_aload_n dW_where_2 rfl (n := 3) rfl ?_
  refine x_lload_n dW_where_3 rfl (n := 4) rfl ?_
  obtain ⟨a1, e2, h⟩ := h
  obtain ⟨k3, h⟩ := h
  obtain ⟨bc4, bs5, b6, b7, h⟩ := h
  refine x_invVT (m := m) e2 dW_where_4 gW_where_4 (as := [vL x1]) (st := [vI (0 : Int32), vR o3]) rfl rfl k3 rfl rfl (Nat.le_of_ble_eq_true rfl) (n := 7) rfl b6 b7 h (xTI fun v9 m8 h => ?_) ?_
  · refine x_i2l dW_where_7 (n := 8) rfl ?_
    obtain ⟨a10, e11, h⟩ := h
    obtain ⟨n13, k12, h⟩ := h
    obtain ⟨c14, h⟩ := h
    replace h := h _ rfl
    refine x_last e11 dW_where_8 k12 c14 (n := 9) rfl ?_
    refine x_goto (tgt := 16) dW_where_9 rfl ?_
    refine x_iconst (v := 0) dW_where_16 (by decide) (n := 17) rfl ?_
    exact x_iret dW_where_17 rfl h
  · intro E m' h
    rcases h with ⟨rfl, h⟩
    · exact ⟨12, kW_where_4_0, h⟩
set_option maxRecDepth 100000 in
set_option maxHeartbeats 4000000 in
theorem bW_flash_13 {l : Launch} {G : xG} {m : XM} {bc bs : Nat} {Q : XR → XM → Prop} {o0 : Option Nat} {x1 : Int32} {x2 : Int32} {o3 : Option Nat} {s0 : Option Nat}
    (h : Q (.inl (some (vI (1 : Int32)))) m) :
    WW l G xW_flash 13 [some (vR o0), some (vI x1), some (vI x2), some (vR o3), none] [vR s0] m bc bs Q := by
  refine x_astore dW_flash_13 (by decide) (L' := [some (vR o0), some (vI x1), some (vI x2), some (vR o3), some (vR s0)]) rfl (n := 15) rfl ?_
  refine x_iconst (v := 1) dW_flash_15 (by decide) (n := 16) rfl ?_
  exact x_iret dW_flash_16 rfl h
set_option maxRecDepth 100000 in
set_option maxHeartbeats 4000000 in
theorem bW_flash {l : Launch} {G : xG} {m : XM} {Q : XR → XM → Prop} {o0 : Option Nat} {x1 : Int32} {x2 : Int32} {o3 : Option Nat} (hst : l.stackTraces = false)
    (h : ∃ a1, o0 = some a1 ∧ kd m a1 = some (oB 4) ∧ ∃ bc4 bs5, 1 = bc4 + 1 ∧ 6 = bs5 + 6 ∧ CC l G xC_flash [vR (some a1), vI x1, vI x2] m (kI (fun v9 m8 => ∃ a10, o3 = some a10 ∧ ∃ n13, kd m8 a10 = some (aR 2 n13) ∧ vp_in (0 : Int32) n13 ∧ ∀ m15, m15 = mL m8 a10 (0 : Int32).toNatClampNeg v9.toInt64 → Q (.inl (some (vI (0 : Int32)))) m15) (kE (fun E m8 => (E = "java/lang/IndexOutOfBoundsException" ∧ ∀ q, WW l G xW_flash 13 [some (vR o0), some (vI x1), some (vI x2), some (vR o3), none] [vR (some q)] m8 bc4 bs5 Q))))) :
    CC l G xW_flash [vR o0, vI x1, vI x2, vR o3] m Q := by
  refine x_entryH (by decide +kernel) (by decide) hst (Nat.le_of_ble_eq_true rfl) (L0 := [some (vR o0), some (vI x1), some (vI x2), some (vR o3), none]) rfl ?_
  refine x_aload_n dW_flash_0 rfl (n := 1) rfl ?_
  refine x_iconst (v := 0) dW_flash_1 (by decide) (n := 2) rfl ?_
  refine x_aload_n dW_flash_2 rfl (n := 3) rfl ?_
  refine x_iload_n dW_flash_3 rfl (n := 4) rfl ?_
  refine x_iload_n dW_flash_4 rfl (n := 5) rfl ?_
  obtain ⟨a1, e2, h⟩ := h
  obtain ⟨k3, h⟩ := h
  obtain ⟨bc4, bs5, b6, b7, h⟩ := h
  refine x_invVT (m := m) e2 dW_flash_5 gW_flash_5 (as := [vI x1, vI x2]) (st := [vI (0 : Int32), vR o3]) rfl rfl k3 rfl rfl (Nat.le_of_ble_eq_true rfl) (n := 8) rfl b6 b7 h (xTI fun v9 m8 h => ?_) ?_
  · refine x_i2l dW_flash_8 (n := 9) rfl ?_
    obtain ⟨a10, e11, h⟩ := h
    obtain ⟨n13, k12, h⟩ := h
    obtain ⟨c14, h⟩ := h
    replace h := h _ rfl
    refine x_last e11 dW_flash_9 k12 c14 (n := 10) rfl ?_
    refine x_goto (tgt := 17) dW_flash_10 rfl ?_
    refine x_iconst (v := 0) dW_flash_17 (by decide) (n := 18) rfl ?_
    exact x_iret dW_flash_18 rfl h
  · intro E m' h
    rcases h with ⟨rfl, h⟩
    · exact ⟨13, kW_flash_5_0, h⟩
set_option maxRecDepth 100000 in
set_option maxHeartbeats 4000000 in
theorem bW_close_7 {l : Launch} {G : xG} {m : XM} {bc bs : Nat} {Q : XR → XM → Prop} {o0 : Option Nat} {s0 : Option Nat}
    (h : Q (.inl (some (vI (1 : Int32)))) m) :
    WW l G xW_close 7 [some (vR o0), none] [vR s0] m bc bs Q := by
  refine x_astore_n dW_close_7 (by decide) (L' := [some (vR o0), some (vR s0)]) rfl (n := 8) rfl ?_
  refine x_iconst (v := 1) dW_close_8 (by decide) (n := 9) rfl ?_
  exact x_iret dW_close_9 rfl h
set_option maxRecDepth 100000 in
set_option maxHeartbeats 4000000 in
theorem bW_close {l : Launch} {G : xG} {m : XM} {Q : XR → XM → Prop} {o0 : Option Nat} (hst : l.stackTraces = false)
    (h : ∃ a1, o0 = some a1 ∧ kd m a1 = some (oB 4) ∧ ∃ bc4 bs5, 1 = bc4 + 1 ∧ 6 = bs5 + 6 ∧ CC l G xC_close [vR (some a1)] m (kV (fun m8 => Q (.inl (some (vI (0 : Int32)))) m8) (kE (fun E m8 => (E = "java/lang/IllegalStateException" ∧ ∀ q, WW l G xW_close 7 [some (vR o0), none] [vR (some q)] m8 bc4 bs5 Q))))) :
    CC l G xW_close [vR o0] m Q := by
  refine x_entryH (by decide +kernel) (by decide) hst (Nat.le_of_ble_eq_true rfl) (L0 := [some (vR o0), none]) rfl ?_
  refine x_aload_n dW_close_0 rfl (n := 1) rfl ?_
  obtain ⟨a1, e2, h⟩ := h
  obtain ⟨k3, h⟩ := h
  obtain ⟨bc4, bs5, b6, b7, h⟩ := h
  refine x_invVT (m := m) e2 dW_close_1 gW_close_1 (as := []) (st := []) rfl rfl k3 rfl rfl (Nat.le_of_ble_eq_true rfl) (n := 4) rfl b6 b7 h (xTV fun m8 h => ?_) ?_
  · refine x_goto (tgt := 10) dW_close_4 rfl ?_
    refine x_iconst (v := 0) dW_close_10 (by decide) (n := 11) rfl ?_
    exact x_iret dW_close_11 rfl h
  · intro E m' h
    rcases h with ⟨rfl, h⟩
    · exact ⟨7, kW_close_1_0, h⟩
set_option maxRecDepth 100000 in
set_option maxHeartbeats 4000000 in
theorem bW_crash_7 {l : Launch} {G : xG} {m : XM} {bc bs : Nat} {Q : XR → XM → Prop} {o0 : Option Nat} {s0 : Option Nat}
    (h : Q (.inl (some (vI (1 : Int32)))) m) :
    WW l G xW_crash 7 [some (vR o0), none] [vR s0] m bc bs Q := by
  refine x_astore_n dW_crash_7 (by decide) (L' := [some (vR o0), some (vR s0)]) rfl (n := 8) rfl ?_
  refine x_iconst (v := 1) dW_crash_8 (by decide) (n := 9) rfl ?_
  exact x_iret dW_crash_9 rfl h
set_option maxRecDepth 100000 in
set_option maxHeartbeats 4000000 in
theorem bW_crash {l : Launch} {G : xG} {m : XM} {Q : XR → XM → Prop} {o0 : Option Nat} (hst : l.stackTraces = false)
    (h : ∃ a1, o0 = some a1 ∧ kd m a1 = some (oB 4) ∧ ∃ bc4 bs5, 1 = bc4 + 1 ∧ 6 = bs5 + 6 ∧ CC l G xC_crash [vR (some a1)] m (kV (fun m8 => Q (.inl (some (vI (0 : Int32)))) m8) (kE (fun E m8 => (E = "java/lang/IllegalStateException" ∧ ∀ q, WW l G xW_crash 7 [some (vR o0), none] [vR (some q)] m8 bc4 bs5 Q))))) :
    CC l G xW_crash [vR o0] m Q := by
  refine x_entryH (by decide +kernel) (by decide) hst (Nat.le_of_ble_eq_true rfl) (L0 := [some (vR o0), none]) rfl ?_
  refine x_aload_n dW_crash_0 rfl (n := 1) rfl ?_
  obtain ⟨a1, e2, h⟩ := h
  obtain ⟨k3, h⟩ := h
  obtain ⟨bc4, bs5, b6, b7, h⟩ := h
  refine x_invVT (m := m) e2 dW_crash_1 gW_crash_1 (as := []) (st := []) rfl rfl k3 rfl rfl (Nat.le_of_ble_eq_true rfl) (n := 4) rfl b6 b7 h (xTV fun m8 h => ?_) ?_
  · refine x_goto (tgt := 10) dW_crash_4 rfl ?_
    refine x_iconst (v := 0) dW_crash_10 (by decide) (n := 11) rfl ?_
    exact x_iret dW_crash_11 rfl h
  · intro E m' h
    rcases h with ⟨rfl, h⟩
    · exact ⟨7, kW_crash_1_0, h⟩
set_option maxRecDepth 100000 in
set_option maxHeartbeats 4000000 in
theorem bW_open_11 {l : Launch} {G : xG} {m : XM} {bc bs : Nat} {Q : XR → XM → Prop} {o0 : Option Nat} {o1 : Option Nat} {s0 : Option Nat}
    (h : Q (.inl (some (vI (1 : Int32)))) m) :
    WW l G xW_open 11 [some (vR o0), some (vR o1), none] [vR s0] m bc bs Q := by
  refine x_astore_n dW_open_11 (by decide) (L' := [some (vR o0), some (vR o1), some (vR s0)]) rfl (n := 12) rfl ?_
  refine x_iconst (v := 1) dW_open_12 (by decide) (n := 13) rfl ?_
  exact x_iret dW_open_13 rfl h
set_option maxRecDepth 100000 in
set_option maxHeartbeats 4000000 in
theorem bW_open {l : Launch} {G : xG} {m : XM} {Q : XR → XM → Prop} {o0 : Option Nat} {o1 : Option Nat} (hst : l.stackTraces = false)
    (h : ∃ a1, o0 = some a1 ∧ kd m a1 = some (oB 4) ∧ ∃ bc4 bs5, 1 = bc4 + 1 ∧ 6 = bs5 + 6 ∧ CC l G xC_open [vR (some a1)] m (kI (fun v9 m8 => ∃ a10, o1 = some a10 ∧ ∃ n13, kd m8 a10 = some (aR 2 n13) ∧ vp_in (0 : Int32) n13 ∧ ∀ m15, m15 = mL m8 a10 (0 : Int32).toNatClampNeg v9.toInt64 → Q (.inl (some (vI (0 : Int32)))) m15) (kE (fun E m8 => (E = "java/lang/IllegalStateException" ∧ ∀ q, WW l G xW_open 11 [some (vR o0), some (vR o1), none] [vR (some q)] m8 bc4 bs5 Q))))) :
    CC l G xW_open [vR o0, vR o1] m Q := by
  refine x_entryH (by decide +kernel) (by decide) hst (Nat.le_of_ble_eq_true rfl) (L0 := [some (vR o0), some (vR o1), none]) rfl ?_
  refine x_aload_n dW_open_0 rfl (n := 1) rfl ?_
  refine x_iconst (v := 0) dW_open_1 (by decide) (n := 2) rfl ?_
  refine x_aload_n dW_open_2 rfl (n := 3) rfl ?_
  obtain ⟨a1, e2, h⟩ := h
  obtain ⟨k3, h⟩ := h
  obtain ⟨bc4, bs5, b6, b7, h⟩ := h
  refine x_invVT (m := m) e2 dW_open_3 gW_open_3 (as := []) (st := [vI (0 : Int32), vR o1]) rfl rfl k3 rfl rfl (Nat.le_of_ble_eq_true rfl) (n := 6) rfl b6 b7 h (xTI fun v9 m8 h => ?_) ?_
  · refine x_i2l dW_open_6 (n := 7) rfl ?_
    obtain ⟨a10, e11, h⟩ := h
    obtain ⟨n13, k12, h⟩ := h
    obtain ⟨c14, h⟩ := h
    replace h := h _ rfl
    refine x_last e11 dW_open_7 k12 c14 (n := 8) rfl ?_
    refine x_goto (tgt := 14) dW_open_8 rfl ?_
    refine x_iconst (v := 0) dW_open_14 (by decide) (n := 15) rfl ?_
    exact x_iret dW_open_15 rfl h
  · intro E m' h
    rcases h with ⟨rfl, h⟩
    · exact ⟨11, kW_open_3_0, h⟩
set_option maxRecDepth 100000 in
set_option maxHeartbeats 4000000 in
theorem bW_law_0 {l : Launch} {G : xG} {m : XM} {bc bs : Nat} {Q : XR → XM → Prop} {o0 : Option Nat} (hscr : o0 = some G.2.2.2.1)
    (h : ∃ bc1 bs2, bc = bc1 + 1 ∧ bs = bs2 + 8 ∧ ∀ a5, kd m a5 = none → ∀ m7, m7 = mN m a5 (oB 4) → ∃ bc9 bs10, bc1 = bc9 + 268 ∧ bs2 = bs10 + 2326 ∧ CC l G xC_init [vR (some a5)] m7 (kN (fun m13 => ∃ bc14 bs15, bc9 = bc14 + 1 ∧ bs10 = bs15 + 24 ∧ ∀ a18, kd m13 a18 = none → ∀ m20, m20 = mN m13 a18 (oB 5) → ∃ bc22 bs23, bc14 = bc22 + 16 ∧ bs15 = bs23 + 63006 ∧ CC l G xM_init [vR (some a18)] m20 (kN (fun m26 => ∃ bc27 bs28, bc22 = bc27 + 1 ∧ bs23 = bs28 + 1 ∧ ∀ a31, kd m26 a31 = none → ∀ m33, m33 = mN m26 a31 (aR 2 1) → WW l G xW_law 23 [some (vR o0), some (vR (some a5)), some (vR (some a18)), some (vR (some a31)), some (vI (0 : Int32)), none, none] [] m33 bc27 bs28 Q))))) :
    WW l G xW_law 0 [some (vR o0), none, none, none, none, none, none] [] m bc bs Q := by
  obtain ⟨bc1, bs2, b3, b4, h⟩ := h
  refine x_new dW_law_0 nW_8 (n := 3) rfl b3 b4 fun a5 f6 => ?_
  replace h := h a5 f6 _ rfl
  have k8 := kdNs m a5 (oB 4)
  refine x_dup dW_law_3 rfl (n := 4) rfl ?_
  obtain ⟨bc9, bs10, b11, b12, h⟩ := h
  refine x_invI (m := (mN m a5 (oB 4))) dW_law_4 gW_law_4 (as := []) (st := [vR (some a5)]) rfl rfl (Nat.le_of_ble_eq_true rfl) (n := 7) rfl b11 b12 h kN.no (xBk.N fun m13 h => ?_)
  refine x_astore_n dW_law_7 (by decide) (L' := [some (vR o0), some (vR (some a5)), none, none, none, none, none]) rfl (n := 8) rfl ?_
  obtain ⟨bc14, bs15, b16, b17, h⟩ := h
  refine x_new dW_law_8 nW_52 (n := 11) rfl b16 b17 fun a18 f19 => ?_
  replace h := h a18 f19 _ rfl
  have k21 := kdNs m13 a18 (oB 5)
  refine x_dup dW_law_11 rfl (n := 12) rfl ?_
  obtain ⟨bc22, bs23, b24, b25, h⟩ := h
  refine x_invI (m := (mN m13 a18 (oB 5))) dW_law_12 gW_law_12 (as := []) (st := [vR (some a18)]) rfl rfl (Nat.le_of_ble_eq_true rfl) (n := 15) rfl b24 b25 h kN.no (xBk.N fun m26 h => ?_)
  refine x_astore_n dW_law_15 (by decide) (L' := [some (vR o0), some (vR (some a5)), some (vR (some a18)), none, none, none, none]) rfl (n := 16) rfl ?_
  refine x_iconst (v := 1) dW_law_16 (by decide) (n := 17) rfl ?_
  obtain ⟨bc27, bs28, b29, b30, h⟩ := h
  refine x_newa (atype := .long) (t := 2) (N := 1) dW_law_17 w_624 (by decide) (by decide) (by decide) (n := 19) rfl (by decide) b29 b30 fun a31 f32 => ?_
  replace h := h a31 f32 _ rfl
  have k34 := kdNs m26 a31 (aR 2 1)
  refine x_astore_n dW_law_19 (by decide) (L' := [some (vR o0), some (vR (some a5)), some (vR (some a18)), some (vR (some a31)), none, none, none]) rfl (n := 20) rfl ?_
  refine x_iconst (v := 0) dW_law_20 (by decide) (n := 21) rfl ?_
  refine x_istore dW_law_21 (by decide) (L' := [some (vR o0), some (vR (some a5)), some (vR (some a18)), some (vR (some a31)), some (vI (0 : Int32)), none, none]) rfl (n := 23) rfl ?_
  exact h
set_option maxRecDepth 100000 in
set_option maxHeartbeats 4000000 in
theorem bW_law_23 {l : Launch} {G : xG} {m : XM} {bc bs : Nat} {Q : XR → XM → Prop} {o0 : Option Nat} (hscr : o0 = some G.2.2.2.1) {o1 : Option Nat} {o2 : Option Nat} {o3 : Option Nat} {x4 : Int32}
    (h : ((((Int32.ofNat G.2.2.2.2.1) - (4 : Int32)) < x4 → Q (.inl (some (vI (1 : Int32)))) m) ∧ (¬ ((Int32.ofNat G.2.2.2.2.1) - (4 : Int32)) < x4 → vp_in x4 G.2.2.2.2.1 ∧ (((G.2.2.2.2.2 (x4).toNatClampNeg) &&& (15 : Int32) = (0 : Int32) → vp_in (x4 + (1 : Int32)) G.2.2.2.2.1 ∧ vp_in (x4 + (2 : Int32)) G.2.2.2.2.1 ∧ ∃ bc5 bs6, bc = bc5 + 1 ∧ bs = bs6 + 6 ∧ CC l G xW_word [vR o1, vI (G.2.2.2.2.2 ((x4 + (1 : Int32))).toNatClampNeg), vI (G.2.2.2.2.2 ((x4 + (2 : Int32))).toNatClampNeg), vR o3] m (kI (fun v10 m9 => vp_in (x4 + (1 : Int32)) G.2.2.2.2.1 ∧ vp_in (x4 + (2 : Int32)) G.2.2.2.2.1 ∧ ∃ a13, o2 = some a13 ∧ kd m9 a13 = some (oB 5) ∧ CC l G xM_word [vR (some a13), vI (G.2.2.2.2.2 ((x4 + (1 : Int32))).toNatClampNeg), vI (G.2.2.2.2.2 ((x4 + (2 : Int32))).toNatClampNeg)] m9 (kI (fun v17 m16 => kd m16 a13 = some (oB 5) ∧ CC l G xM_thrown [vR (some a13)] m16 (kI (fun v20 m19 => ((v20 = v10 → ((¬ v10 = 0 → WW l G xW_law 23 [some (vR o0), some (vR o1), some (vR o2), some (vR o3), some (vI (x4 + 4)), none, none] [] m19 bc5 bs6 Q) ∧ (v10 = 0 → ∃ a21, o3 = some a21 ∧ ∃ n24, kd m19 a21 = some (aR 2 n24) ∧ vp_in (0 : Int32) n24 ∧ (((lg_cmp (gL m19 a21 (0 : Int32).toNatClampNeg) v17.toInt64) = 0 → WW l G xW_law 23 [some (vR o0), some (vR o1), some (vR o2), some (vR o3), some (vI (x4 + 4)), none, none] [] m19 bc5 bs6 Q) ∧ (¬ (lg_cmp (gL m19 a21 (0 : Int32).toNatClampNeg) v17.toInt64) = 0 → Q (.inl (some (vI (0 : Int32)))) m19))))) ∧ (¬ v20 = v10 → Q (.inl (some (vI (0 : Int32)))) m19))) Q)) Q)) Q)) ∧ ((G.2.2.2.2.2 (x4).toNatClampNeg) &&& (15 : Int32) = (1 : Int32) → vp_in (x4 + (1 : Int32)) G.2.2.2.2.1 ∧ vp_in (x4 + (2 : Int32)) G.2.2.2.2.1 ∧ vp_in (x4 + (3 : Int32)) G.2.2.2.2.1 ∧ ∃ bc32 bs33, bc = bc32 + 4 ∧ bs = bs33 + 26 ∧ CC l G xW_put [vR o1, vL ((jshl ((G.2.2.2.2.2 ((x4 + (1 : Int32))).toNatClampNeg).toInt64) (32 : Int32)) ||| (((G.2.2.2.2.2 ((x4 + (2 : Int32))).toNatClampNeg).toInt64) &&& (4294967295 : Int64))), vI (G.2.2.2.2.2 ((x4 + (3 : Int32))).toNatClampNeg)] m (kI (fun v37 m36 => vp_in (x4 + (1 : Int32)) G.2.2.2.2.1 ∧ vp_in (x4 + (2 : Int32)) G.2.2.2.2.1 ∧ vp_in (x4 + (3 : Int32)) G.2.2.2.2.1 ∧ ∃ a41, o2 = some a41 ∧ kd m36 a41 = some (oB 5) ∧ CC l G xM_put [vR (some a41), vL ((jshl ((G.2.2.2.2.2 ((x4 + (1 : Int32))).toNatClampNeg).toInt64) (32 : Int32)) ||| (((G.2.2.2.2.2 ((x4 + (2 : Int32))).toNatClampNeg).toInt64) &&& (4294967295 : Int64))), vI (G.2.2.2.2.2 ((x4 + (3 : Int32))).toNatClampNeg)] m36 (kV (fun m44 => kd m44 a41 = some (oB 5) ∧ CC l G xM_thrown [vR (some a41)] m44 (kI (fun v47 m46 => ((v47 = v37 → WW l G xW_law 23 [some (vR o0), some (vR o1), some (vR o2), some (vR o3), some (vI (x4 + 4)), none, none] [] m46 bc32 bs33 Q) ∧ (¬ v47 = v37 → Q (.inl (some (vI (0 : Int32)))) m46))) Q)) Q)) Q)) ∧ ((G.2.2.2.2.2 (x4).toNatClampNeg) &&& (15 : Int32) = (2 : Int32) → vp_in (x4 + (1 : Int32)) G.2.2.2.2.1 ∧ vp_in (x4 + (2 : Int32)) G.2.2.2.2.1 ∧ ∃ bc51 bs52, bc = bc51 + 1 ∧ bs = bs52 + 6 ∧ CC l G xW_get [vR o1, vL ((jshl ((G.2.2.2.2.2 ((x4 + (1 : Int32))).toNatClampNeg).toInt64) (32 : Int32)) ||| (((G.2.2.2.2.2 ((x4 + (2 : Int32))).toNatClampNeg).toInt64) &&& (4294967295 : Int64))), vR o3] m (kI (fun v56 m55 => vp_in (x4 + (1 : Int32)) G.2.2.2.2.1 ∧ vp_in (x4 + (2 : Int32)) G.2.2.2.2.1 ∧ ∃ a59, o2 = some a59 ∧ kd m55 a59 = some (oB 5) ∧ CC l G xM_get [vR (some a59), vL ((jshl ((G.2.2.2.2.2 ((x4 + (1 : Int32))).toNatClampNeg).toInt64) (32 : Int32)) ||| (((G.2.2.2.2.2 ((x4 + (2 : Int32))).toNatClampNeg).toInt64) &&& (4294967295 : Int64)))] m55 (kI (fun v63 m62 => kd m62 a59 = some (oB 5) ∧ CC l G xM_thrown [vR (some a59)] m62 (kI (fun v66 m65 => ((v66 = v56 → ((¬ v56 = 0 → WW l G xW_law 23 [some (vR o0), some (vR o1), some (vR o2), some (vR o3), some (vI (x4 + 4)), none, none] [] m65 bc51 bs52 Q) ∧ (v56 = 0 → ∃ a67, o3 = some a67 ∧ ∃ n70, kd m65 a67 = some (aR 2 n70) ∧ vp_in (0 : Int32) n70 ∧ (((lg_cmp (gL m65 a67 (0 : Int32).toNatClampNeg) v63.toInt64) = 0 → WW l G xW_law 23 [some (vR o0), some (vR o1), some (vR o2), some (vR o3), some (vI (x4 + 4)), none, none] [] m65 bc51 bs52 Q) ∧ (¬ (lg_cmp (gL m65 a67 (0 : Int32).toNatClampNeg) v63.toInt64) = 0 → Q (.inl (some (vI (0 : Int32)))) m65))))) ∧ (¬ v66 = v56 → Q (.inl (some (vI (0 : Int32)))) m65))) Q)) Q)) Q)) ∧ ((G.2.2.2.2.2 (x4).toNatClampNeg) &&& (15 : Int32) = (3 : Int32) → vp_in (x4 + (1 : Int32)) G.2.2.2.2.1 ∧ ∃ bc76 bs77, bc = bc76 + 1 ∧ bs = bs77 + 6 ∧ CC l G xW_got [vR o1, vI (G.2.2.2.2.2 ((x4 + (1 : Int32))).toNatClampNeg), vR o3] m (kI (fun v81 m80 => vp_in (x4 + (1 : Int32)) G.2.2.2.2.1 ∧ ∃ a83, o2 = some a83 ∧ kd m80 a83 = some (oB 5) ∧ CC l G xM_got [vR (some a83), vI (G.2.2.2.2.2 ((x4 + (1 : Int32))).toNatClampNeg)] m80 (kI (fun v87 m86 => kd m86 a83 = some (oB 5) ∧ CC l G xM_thrown [vR (some a83)] m86 (kI (fun v90 m89 => ((v90 = v81 → ((¬ v81 = 0 → WW l G xW_law 23 [some (vR o0), some (vR o1), some (vR o2), some (vR o3), some (vI (x4 + 4)), none, none] [] m89 bc76 bs77 Q) ∧ (v81 = 0 → ∃ a91, o3 = some a91 ∧ ∃ n94, kd m89 a91 = some (aR 2 n94) ∧ vp_in (0 : Int32) n94 ∧ (((lg_cmp (gL m89 a91 (0 : Int32).toNatClampNeg) v87.toInt64) = 0 → WW l G xW_law 23 [some (vR o0), some (vR o1), some (vR o2), some (vR o3), some (vI (x4 + 4)), none, none] [] m89 bc76 bs77 Q) ∧ (¬ (lg_cmp (gL m89 a91 (0 : Int32).toNatClampNeg) v87.toInt64) = 0 → Q (.inl (some (vI (0 : Int32)))) m89))))) ∧ (¬ v90 = v81 → Q (.inl (some (vI (0 : Int32)))) m89))) Q)) Q)) Q)) ∧ ((G.2.2.2.2.2 (x4).toNatClampNeg) &&& (15 : Int32) = (4 : Int32) → vp_in (x4 + (1 : Int32)) G.2.2.2.2.1 ∧ vp_in (x4 + (2 : Int32)) G.2.2.2.2.1 ∧ ∃ bc101 bs102, bc = bc101 + 1 ∧ bs = bs102 + 6 ∧ CC l G xW_delete [vR o1, vL ((jshl ((G.2.2.2.2.2 ((x4 + (1 : Int32))).toNatClampNeg).toInt64) (32 : Int32)) ||| (((G.2.2.2.2.2 ((x4 + (2 : Int32))).toNatClampNeg).toInt64) &&& (4294967295 : Int64))), vR o3] m (kI (fun v106 m105 => vp_in (x4 + (1 : Int32)) G.2.2.2.2.1 ∧ vp_in (x4 + (2 : Int32)) G.2.2.2.2.1 ∧ ∃ a109, o2 = some a109 ∧ kd m105 a109 = some (oB 5) ∧ CC l G xM_delete [vR (some a109), vL ((jshl ((G.2.2.2.2.2 ((x4 + (1 : Int32))).toNatClampNeg).toInt64) (32 : Int32)) ||| (((G.2.2.2.2.2 ((x4 + (2 : Int32))).toNatClampNeg).toInt64) &&& (4294967295 : Int64)))] m105 (kI (fun v113 m112 => kd m112 a109 = some (oB 5) ∧ CC l G xM_thrown [vR (some a109)] m112 (kI (fun v116 m115 => ((v116 = v106 → ((¬ v106 = 0 → WW l G xW_law 23 [some (vR o0), some (vR o1), some (vR o2), some (vR o3), some (vI (x4 + 4)), none, none] [] m115 bc101 bs102 Q) ∧ (v106 = 0 → ∃ a117, o3 = some a117 ∧ ∃ n120, kd m115 a117 = some (aR 2 n120) ∧ vp_in (0 : Int32) n120 ∧ ((v113 = 0 → (((lg_cmp (gL m115 a117 (0 : Int32).toNatClampNeg) (0 : Int64)) = 0 → WW l G xW_law 23 [some (vR o0), some (vR o1), some (vR o2), some (vR o3), some (vI (x4 + 4)), none, none] [] m115 bc101 bs102 Q) ∧ (¬ (lg_cmp (gL m115 a117 (0 : Int32).toNatClampNeg) (0 : Int64)) = 0 → Q (.inl (some (vI (0 : Int32)))) m115))) ∧ (¬ v113 = 0 → (((lg_cmp (gL m115 a117 (0 : Int32).toNatClampNeg) (1 : Int64)) = 0 → WW l G xW_law 23 [some (vR o0), some (vR o1), some (vR o2), some (vR o3), some (vI (x4 + 4)), none, none] [] m115 bc101 bs102 Q) ∧ (¬ (lg_cmp (gL m115 a117 (0 : Int32).toNatClampNeg) (1 : Int64)) = 0 → Q (.inl (some (vI (0 : Int32)))) m115))))))) ∧ (¬ v116 = v106 → Q (.inl (some (vI (0 : Int32)))) m115))) Q)) Q)) Q)) ∧ ((G.2.2.2.2.2 (x4).toNatClampNeg) &&& (15 : Int32) = (5 : Int32) → vp_in (x4 + (1 : Int32)) G.2.2.2.2.1 ∧ vp_in (x4 + (2 : Int32)) G.2.2.2.2.1 ∧ ∃ a129, o1 = some a129 ∧ kd m a129 = some (oB 4) ∧ CC l G xC_setOf [vR (some a129), vL ((jshl ((G.2.2.2.2.2 ((x4 + (1 : Int32))).toNatClampNeg).toInt64) (32 : Int32)) ||| (((G.2.2.2.2.2 ((x4 + (2 : Int32))).toNatClampNeg).toInt64) &&& (4294967295 : Int64)))] m (kI (fun v133 m132 => vp_in (x4 + (1 : Int32)) G.2.2.2.2.1 ∧ vp_in (x4 + (2 : Int32)) G.2.2.2.2.1 ∧ ∃ a136, o2 = some a136 ∧ kd m132 a136 = some (oB 5) ∧ CC l G xM_setOf [vR (some a136), vL ((jshl ((G.2.2.2.2.2 ((x4 + (1 : Int32))).toNatClampNeg).toInt64) (32 : Int32)) ||| (((G.2.2.2.2.2 ((x4 + (2 : Int32))).toNatClampNeg).toInt64) &&& (4294967295 : Int64)))] m132 (kI (fun v140 m139 => ((v133 = v140 → WW l G xW_law 23 [some (vR o0), some (vR o1), some (vR o2), some (vR o3), some (vI (x4 + 4)), none, none] [] m139 bc bs Q) ∧ (¬ v133 = v140 → Q (.inl (some (vI (0 : Int32)))) m139))) Q)) Q)) ∧ ((G.2.2.2.2.2 (x4).toNatClampNeg) &&& (15 : Int32) = (6 : Int32) → vp_in (x4 + (1 : Int32)) G.2.2.2.2.1 ∧ vp_in (x4 + (2 : Int32)) G.2.2.2.2.1 ∧ ∃ bc144 bs145, bc = bc144 + 1 ∧ bs = bs145 + 6 ∧ CC l G xW_where [vR o1, vL ((jshl ((G.2.2.2.2.2 ((x4 + (1 : Int32))).toNatClampNeg).toInt64) (32 : Int32)) ||| (((G.2.2.2.2.2 ((x4 + (2 : Int32))).toNatClampNeg).toInt64) &&& (4294967295 : Int64))), vR o3] m (kI (fun v149 m148 => vp_in (x4 + (1 : Int32)) G.2.2.2.2.1 ∧ vp_in (x4 + (2 : Int32)) G.2.2.2.2.1 ∧ ∃ a152, o2 = some a152 ∧ kd m148 a152 = some (oB 5) ∧ CC l G xM_where [vR (some a152), vL ((jshl ((G.2.2.2.2.2 ((x4 + (1 : Int32))).toNatClampNeg).toInt64) (32 : Int32)) ||| (((G.2.2.2.2.2 ((x4 + (2 : Int32))).toNatClampNeg).toInt64) &&& (4294967295 : Int64)))] m148 (kI (fun v156 m155 => kd m155 a152 = some (oB 5) ∧ CC l G xM_thrown [vR (some a152)] m155 (kI (fun v159 m158 => ((v159 = v149 → ((¬ v149 = 0 → WW l G xW_law 23 [some (vR o0), some (vR o1), some (vR o2), some (vR o3), some (vI (x4 + 4)), none, none] [] m158 bc144 bs145 Q) ∧ (v149 = 0 → ∃ a160, o3 = some a160 ∧ ∃ n163, kd m158 a160 = some (aR 2 n163) ∧ vp_in (0 : Int32) n163 ∧ (((lg_cmp (gL m158 a160 (0 : Int32).toNatClampNeg) v156.toInt64) = 0 → WW l G xW_law 23 [some (vR o0), some (vR o1), some (vR o2), some (vR o3), some (vI (x4 + 4)), none, none] [] m158 bc144 bs145 Q) ∧ (¬ (lg_cmp (gL m158 a160 (0 : Int32).toNatClampNeg) v156.toInt64) = 0 → Q (.inl (some (vI (0 : Int32)))) m158))))) ∧ (¬ v159 = v149 → Q (.inl (some (vI (0 : Int32)))) m158))) Q)) Q)) Q)) ∧ ((G.2.2.2.2.2 (x4).toNatClampNeg) &&& (15 : Int32) = (7 : Int32) → vp_in (x4 + (1 : Int32)) G.2.2.2.2.1 ∧ vp_in (x4 + (2 : Int32)) G.2.2.2.2.1 ∧ ∃ bc170 bs171, bc = bc170 + 1 ∧ bs = bs171 + 6 ∧ CC l G xW_flash [vR o1, vI (G.2.2.2.2.2 ((x4 + (1 : Int32))).toNatClampNeg), vI (G.2.2.2.2.2 ((x4 + (2 : Int32))).toNatClampNeg), vR o3] m (kI (fun v175 m174 => vp_in (x4 + (1 : Int32)) G.2.2.2.2.1 ∧ vp_in (x4 + (2 : Int32)) G.2.2.2.2.1 ∧ ∃ a178, o2 = some a178 ∧ kd m174 a178 = some (oB 5) ∧ CC l G xM_flash [vR (some a178), vI (G.2.2.2.2.2 ((x4 + (1 : Int32))).toNatClampNeg), vI (G.2.2.2.2.2 ((x4 + (2 : Int32))).toNatClampNeg)] m174 (kI (fun v182 m181 => kd m181 a178 = some (oB 5) ∧ CC l G xM_thrown [vR (some a178)] m181 (kI (fun v185 m184 => ((v185 = v175 → ((¬ v175 = 0 → WW l G xW_law 23 [some (vR o0), some (vR o1), some (vR o2), some (vR o3), some (vI (x4 + 4)), none, none] [] m184 bc170 bs171 Q) ∧ (v175 = 0 → ∃ a186, o3 = some a186 ∧ ∃ n189, kd m184 a186 = some (aR 2 n189) ∧ vp_in (0 : Int32) n189 ∧ (((lg_cmp (gL m184 a186 (0 : Int32).toNatClampNeg) v182.toInt64) = 0 → WW l G xW_law 23 [some (vR o0), some (vR o1), some (vR o2), some (vR o3), some (vI (x4 + 4)), none, none] [] m184 bc170 bs171 Q) ∧ (¬ (lg_cmp (gL m184 a186 (0 : Int32).toNatClampNeg) v182.toInt64) = 0 → Q (.inl (some (vI (0 : Int32)))) m184))))) ∧ (¬ v185 = v175 → Q (.inl (some (vI (0 : Int32)))) m184))) Q)) Q)) Q)) ∧ ((G.2.2.2.2.2 (x4).toNatClampNeg) &&& (15 : Int32) = (8 : Int32) → ∃ bc194 bs195, bc = bc194 + 1 ∧ bs = bs195 + 6 ∧ CC l G xW_close [vR o1] m (kI (fun v199 m198 => ∃ a200, o2 = some a200 ∧ kd m198 a200 = some (oB 5) ∧ CC l G xM_close [vR (some a200)] m198 (kV (fun m203 => kd m203 a200 = some (oB 5) ∧ CC l G xM_thrown [vR (some a200)] m203 (kI (fun v206 m205 => ((v206 = v199 → WW l G xW_law 23 [some (vR o0), some (vR o1), some (vR o2), some (vR o3), some (vI (x4 + 4)), none, none] [] m205 bc194 bs195 Q) ∧ (¬ v206 = v199 → Q (.inl (some (vI (0 : Int32)))) m205))) Q)) Q)) Q)) ∧ ((G.2.2.2.2.2 (x4).toNatClampNeg) &&& (15 : Int32) = (9 : Int32) → ∃ bc208 bs209, bc = bc208 + 1 ∧ bs = bs209 + 6 ∧ CC l G xW_crash [vR o1] m (kI (fun v213 m212 => ∃ a214, o2 = some a214 ∧ kd m212 a214 = some (oB 5) ∧ CC l G xM_crash [vR (some a214)] m212 (kV (fun m217 => kd m217 a214 = some (oB 5) ∧ CC l G xM_thrown [vR (some a214)] m217 (kI (fun v220 m219 => ((v220 = v213 → WW l G xW_law 23 [some (vR o0), some (vR o1), some (vR o2), some (vR o3), some (vI (x4 + 4)), none, none] [] m219 bc208 bs209 Q) ∧ (¬ v220 = v213 → Q (.inl (some (vI (0 : Int32)))) m219))) Q)) Q)) Q)) ∧ ((G.2.2.2.2.2 (x4).toNatClampNeg) &&& (15 : Int32) = (10 : Int32) → ∃ bc222 bs223, bc = bc222 + 1 ∧ bs = bs223 + 6 ∧ CC l G xW_open [vR o1, vR o3] m (kI (fun v227 m226 => ∃ a228, o2 = some a228 ∧ kd m226 a228 = some (oB 5) ∧ CC l G xM_open [vR (some a228)] m226 (kI (fun v232 m231 => kd m231 a228 = some (oB 5) ∧ CC l G xM_thrown [vR (some a228)] m231 (kI (fun v235 m234 => ((v235 = v227 → ((¬ v227 = 0 → WW l G xW_law 23 [some (vR o0), some (vR o1), some (vR o2), some (vR o3), some (vI (x4 + 4)), none, none] [] m234 bc222 bs223 Q) ∧ (v227 = 0 → ∃ a236, o3 = some a236 ∧ ∃ n239, kd m234 a236 = some (aR 2 n239) ∧ vp_in (0 : Int32) n239 ∧ (((lg_cmp (gL m234 a236 (0 : Int32).toNatClampNeg) v232.toInt64) = 0 → WW l G xW_law 23 [some (vR o0), some (vR o1), some (vR o2), some (vR o3), some (vI (x4 + 4)), none, none] [] m234 bc222 bs223 Q) ∧ (¬ (lg_cmp (gL m234 a236 (0 : Int32).toNatClampNeg) v232.toInt64) = 0 → Q (.inl (some (vI (0 : Int32)))) m234))))) ∧ (¬ v235 = v227 → Q (.inl (some (vI (0 : Int32)))) m234))) Q)) Q)) Q)) ∧ ((G.2.2.2.2.2 (x4).toNatClampNeg) &&& (15 : Int32) = (11 : Int32) → vp_in (x4 + (1 : Int32)) G.2.2.2.2.1 ∧ ∃ a245, o1 = some a245 ∧ kd m a245 = some (oB 4) ∧ CC l G xC_count [vR (some a245), vI (G.2.2.2.2.2 ((x4 + (1 : Int32))).toNatClampNeg)] m (kI (fun v249 m248 => vp_in (x4 + (1 : Int32)) G.2.2.2.2.1 ∧ ∃ a251, o2 = some a251 ∧ kd m248 a251 = some (oB 5) ∧ CC l G xM_count [vR (some a251), vI (G.2.2.2.2.2 ((x4 + (1 : Int32))).toNatClampNeg)] m248 (kI (fun v255 m254 => ((v249 = v255 → WW l G xW_law 23 [some (vR o0), some (vR o1), some (vR o2), some (vR o3), some (vI (x4 + 4)), none, none] [] m254 bc bs Q) ∧ (¬ v249 = v255 → Q (.inl (some (vI (0 : Int32)))) m254))) Q)) Q)) ∧ (((G.2.2.2.2.2 (x4).toNatClampNeg) &&& (15 : Int32)).toInt < 0 ∨ 11 < ((G.2.2.2.2.2 (x4).toNatClampNeg) &&& (15 : Int32)).toInt → WW l G xW_law 23 [some (vR o0), some (vR o1), some (vR o2), some (vR o3), some (vI (x4 + 4)), none, none] [] m bc bs Q))))) :
    WW l G xW_law 23 [some (vR o0), some (vR o1), some (vR o2), some (vR o3), some (vI x4), none, none] [] m bc bs Q := by
  refine x_iload dW_law_23 rfl (n := 25) rfl ?_
  refine x_aload_n dW_law_25 rfl (n := 26) rfl ?_
  refine x_slen hscr dW_law_26 (n := 27) rfl ?_
  refine x_iconst (v := 4) dW_law_27 (by decide) (n := 28) rfl ?_
  refine x_isub dW_law_28 (n := 29) rfl ?_
  obtain ⟨h, h'⟩ := h
  refine x_icmp_gt (tgt := 823) dW_law_29 rfl (n := 32) rfl (fun c270 => ?_) (fun c270 => ?_)
  · replace h := h c270
    refine x_iconst (v := 1) dW_law_823 (by decide) (n := 824) rfl ?_
    exact x_zret dW_law_824 rfl (by decide) h
  · replace h := h' c270
    refine x_aload_n dW_law_32 rfl (n := 33) rfl ?_
    refine x_iload dW_law_33 rfl (n := 35) rfl ?_
    obtain ⟨c1, h⟩ := h
    refine x_sald hscr dW_law_35 c1 (n := 36) rfl ?_
    refine x_bipush (v := 15) dW_law_36 (by decide) (n := 38) rfl ?_
    refine x_iand dW_law_38 (n := 39) rfl ?_
    obtain ⟨h257, h258, h259, h260, h261, h262, h263, h264, h265, h266, h267, h268, h269⟩ := h
    rcases sw12 ((G.2.2.2.2.2 (x4).toNatClampNeg) &&& (15 : Int32)) with c2 | c2 | c2 | c2 | c2 | c2 | c2 | c2 | c2 | c2 | c2 | c2 | c2
    · refine x_tableIn (tgt := 100) dW_law_39 (by rw [c2]; decide) (by rw [c2]; decide) (by rw [c2]; rfl) rfl ?_
      replace h := h257 c2
      refine x_aload_n dW_law_100 rfl (n := 101) rfl ?_
      refine x_aload_n dW_law_101 rfl (n := 102) rfl ?_
      refine x_iload dW_law_102 rfl (n := 104) rfl ?_
      refine x_iconst (v := 1) dW_law_104 (by decide) (n := 105) rfl ?_
      refine x_iadd dW_law_105 (n := 106) rfl ?_
      obtain ⟨c3, h⟩ := h
      refine x_sald hscr dW_law_106 c3 (n := 107) rfl ?_
      refine x_aload_n dW_law_107 rfl (n := 108) rfl ?_
      refine x_iload dW_law_108 rfl (n := 110) rfl ?_
      refine x_iconst (v := 2) dW_law_110 (by decide) (n := 111) rfl ?_
      refine x_iadd dW_law_111 (n := 112) rfl ?_
      obtain ⟨c4, h⟩ := h
      refine x_sald hscr dW_law_112 c4 (n := 113) rfl ?_
      refine x_aload_n dW_law_113 rfl (n := 114) rfl ?_
      obtain ⟨bc5, bs6, b7, b8, h⟩ := h
      refine x_invSH (m := m) dW_law_114 gW_law_114 (as := [vR o1, vI (G.2.2.2.2.2 ((x4 + (1 : Int32))).toNatClampNeg), vI (G.2.2.2.2.2 ((x4 + (2 : Int32))).toNatClampNeg), vR o3]) (st := []) rfl rfl (Nat.le_of_ble_eq_true rfl) (n := 117) rfl b7 b8 h (xBk.I fun v10 m9 h => ?_)
      refine x_istore dW_law_117 (by decide) (L' := [some (vR o0), some (vR o1), some (vR o2), some (vR o3), some (vI x4), some (vI v10), none]) rfl (n := 119) rfl ?_
      refine x_aload_n dW_law_119 rfl (n := 120) rfl ?_
      refine x_aload_n dW_law_120 rfl (n := 121) rfl ?_
      refine x_iload dW_law_121 rfl (n := 123) rfl ?_
      refine x_iconst (v := 1) dW_law_123 (by decide) (n := 124) rfl ?_
      refine x_iadd dW_law_124 (n := 125) rfl ?_
      obtain ⟨c11, h⟩ := h
      refine x_sald hscr dW_law_125 c11 (n := 126) rfl ?_
      refine x_aload_n dW_law_126 rfl (n := 127) rfl ?_
      refine x_iload dW_law_127 rfl (n := 129) rfl ?_
      refine x_iconst (v := 2) dW_law_129 (by decide) (n := 130) rfl ?_
      refine x_iadd dW_law_130 (n := 131) rfl ?_
      obtain ⟨c12, h⟩ := h
      refine x_sald hscr dW_law_131 c12 (n := 132) rfl ?_
      obtain ⟨a13, e14, h⟩ := h
      obtain ⟨k15, h⟩ := h
      refine x_invV (m := m9) e14 dW_law_132 gW_law_132 (as := [vI (G.2.2.2.2.2 ((x4 + (1 : Int32))).toNatClampNeg), vI (G.2.2.2.2.2 ((x4 + (2 : Int32))).toNatClampNeg)]) (st := []) rfl rfl k15 rfl rfl (Nat.le_of_ble_eq_true rfl) (n := 135) rfl rfl rfl h (xBk.I fun v17 m16 h => ?_)
      refine x_istore dW_law_135 (by decide) (L' := [some (vR o0), some (vR o1), some (vR o2), some (vR o3), some (vI x4), some (vI v10), some (vI v17)]) rfl (n := 137) rfl ?_
      refine x_aload_n dW_law_137 rfl (n := 138) rfl ?_
      obtain ⟨k18, h⟩ := h
      refine x_invV (m := m16) e14 dW_law_138 gW_law_138 (as := []) (st := []) rfl rfl k18 rfl rfl (Nat.le_of_ble_eq_true rfl) (n := 141) rfl rfl rfl h (xBk.I fun v20 m19 h => ?_)
      refine x_iload dW_law_141 rfl (n := 143) rfl ?_
      obtain ⟨h, h'⟩ := h
      refine x_icmp_eq (tgt := 148) dW_law_143 rfl (n := 146) rfl (fun c28 => ?_) (fun c28 => ?_)
      · replace h := h c28
        refine x_iload dW_law_148 rfl (n := 150) rfl ?_
        obtain ⟨h, h'⟩ := h
        refine x_if_ne (tgt := 165) dW_law_150 rfl (n := 153) rfl (fun c27 => ?_) (fun c27 => ?_)
        · replace h := h c27
          refine x_goto (tgt := 817) dW_law_165 rfl ?_
          refine x_iinc (v := x4 + 4) dW_law_817 rfl rfl (by decide) (L' := [some (vR o0), some (vR o1), some (vR o2), some (vR o3), some (vI (x4 + 4)), some (vI v10), some (vI v17)]) rfl (n := 820) rfl ?_
          refine x_goto (tgt := 23) dW_law_820 rfl ?_
          exact x_weak (b := [true, true, true, true, true, false, false]) rfl h
        · replace h := h' c27
          refine x_aload_n dW_law_153 rfl (n := 154) rfl ?_
          refine x_iconst (v := 0) dW_law_154 (by decide) (n := 155) rfl ?_
          obtain ⟨a21, e22, h⟩ := h
          obtain ⟨n24, k23, h⟩ := h
          obtain ⟨c25, h⟩ := h
          refine x_lald e22 dW_law_155 k23 c25 (n := 156) rfl ?_
          refine x_iload dW_law_156 rfl (n := 158) rfl ?_
          refine x_i2l dW_law_158 (n := 159) rfl ?_
          refine x_lcmp dW_law_159 (n := 160) rfl ?_
          obtain ⟨h, h'⟩ := h
          refine x_if_eq (tgt := 165) dW_law_160 rfl (n := 163) rfl (fun c26 => ?_) (fun c26 => ?_)
          · replace h := h c26
            refine x_goto (tgt := 817) dW_law_165 rfl ?_
            refine x_iinc (v := x4 + 4) dW_law_817 rfl rfl (by decide) (L' := [some (vR o0), some (vR o1), some (vR o2), some (vR o3), some (vI (x4 + 4)), some (vI v10), some (vI v17)]) rfl (n := 820) rfl ?_
            refine x_goto (tgt := 23) dW_law_820 rfl ?_
            exact x_weak (b := [true, true, true, true, true, false, false]) rfl h
          · replace h := h' c26
            refine x_iconst (v := 0) dW_law_163 (by decide) (n := 164) rfl ?_
            exact x_zret dW_law_164 rfl (by decide) h
      · replace h := h' c28
        refine x_iconst (v := 0) dW_law_146 (by decide) (n := 147) rfl ?_
        exact x_zret dW_law_147 rfl (by decide) h
    · refine x_tableIn (tgt := 168) dW_law_39 (by rw [c2]; decide) (by rw [c2]; decide) (by rw [c2]; rfl) rfl ?_
      replace h := h258 c2
      refine x_aload_n dW_law_168 rfl (n := 169) rfl ?_
      refine x_aload_n dW_law_169 rfl (n := 170) rfl ?_
      refine x_iload dW_law_170 rfl (n := 172) rfl ?_
      refine x_iconst (v := 1) dW_law_172 (by decide) (n := 173) rfl ?_
      refine x_iadd dW_law_173 (n := 174) rfl ?_
      obtain ⟨c29, h⟩ := h
      refine x_sald hscr dW_law_174 c29 (n := 175) rfl ?_
      refine x_i2l dW_law_175 (n := 176) rfl ?_
      refine x_bipush (v := 32) dW_law_176 (by decide) (n := 178) rfl ?_
      refine x_lshl dW_law_178 (n := 179) rfl ?_
      refine x_aload_n dW_law_179 rfl (n := 180) rfl ?_
      refine x_iload dW_law_180 rfl (n := 182) rfl ?_
      refine x_iconst (v := 2) dW_law_182 (by decide) (n := 183) rfl ?_
      refine x_iadd dW_law_183 (n := 184) rfl ?_
      obtain ⟨c30, h⟩ := h
      refine x_sald hscr dW_law_184 c30 (n := 185) rfl ?_
      refine x_i2l dW_law_185 (n := 186) rfl ?_
      refine x_ldc2 (v := 4294967295) dW_law_186 w_797 (n := 189) rfl ?_
      refine x_land dW_law_189 (n := 190) rfl ?_
      refine x_lor dW_law_190 (n := 191) rfl ?_
      refine x_aload_n dW_law_191 rfl (n := 192) rfl ?_
      refine x_iload dW_law_192 rfl (n := 194) rfl ?_
      refine x_iconst (v := 3) dW_law_194 (by decide) (n := 195) rfl ?_
      refine x_iadd dW_law_195 (n := 196) rfl ?_
      obtain ⟨c31, h⟩ := h
      refine x_sald hscr dW_law_196 c31 (n := 197) rfl ?_
      obtain ⟨bc32, bs33, b34, b35, h⟩ := h
      refine x_invSH (m := m) dW_law_197 gW_law_197 (as := [vR o1, vL ((jshl ((G.2.2.2.2.2 ((x4 + (1 : Int32))).toNatClampNeg).toInt64) (32 : Int32)) ||| (((G.2.2.2.2.2 ((x4 + (2 : Int32))).toNatClampNeg).toInt64) &&& (4294967295 : Int64))), vI (G.2.2.2.2.2 ((x4 + (3 : Int32))).toNatClampNeg)]) (st := []) rfl rfl (Nat.le_of_ble_eq_true rfl) (n := 200) rfl b34 b35 h (xBk.I fun v37 m36 h => ?_)
      refine x_istore dW_law_200 (by decide) (L' := [some (vR o0), some (vR o1), some (vR o2), some (vR o3), some (vI x4), some (vI v37), none]) rfl (n := 202) rfl ?_
      refine x_aload_n dW_law_202 rfl (n := 203) rfl ?_
      refine x_aload_n dW_law_203 rfl (n := 204) rfl ?_
      refine x_iload dW_law_204 rfl (n := 206) rfl ?_
      refine x_iconst (v := 1) dW_law_206 (by decide) (n := 207) rfl ?_
      refine x_iadd dW_law_207 (n := 208) rfl ?_
      obtain ⟨c38, h⟩ := h
      refine x_sald hscr dW_law_208 c38 (n := 209) rfl ?_
      refine x_i2l dW_law_209 (n := 210) rfl ?_
      refine x_bipush (v := 32) dW_law_210 (by decide) (n := 212) rfl ?_
      refine x_lshl dW_law_212 (n := 213) rfl ?_
      refine x_aload_n dW_law_213 rfl (n := 214) rfl ?_
      refine x_iload dW_law_214 rfl (n := 216) rfl ?_
      refine x_iconst (v := 2) dW_law_216 (by decide) (n := 217) rfl ?_
      refine x_iadd dW_law_217 (n := 218) rfl ?_
      obtain ⟨c39, h⟩ := h
      refine x_sald hscr dW_law_218 c39 (n := 219) rfl ?_
      refine x_i2l dW_law_219 (n := 220) rfl ?_
      refine x_ldc2 (v := 4294967295) dW_law_220 w_797 (n := 223) rfl ?_
      refine x_land dW_law_223 (n := 224) rfl ?_
      refine x_lor dW_law_224 (n := 225) rfl ?_
      refine x_aload_n dW_law_225 rfl (n := 226) rfl ?_
      refine x_iload dW_law_226 rfl (n := 228) rfl ?_
      refine x_iconst (v := 3) dW_law_228 (by decide) (n := 229) rfl ?_
      refine x_iadd dW_law_229 (n := 230) rfl ?_
      obtain ⟨c40, h⟩ := h
      refine x_sald hscr dW_law_230 c40 (n := 231) rfl ?_
      obtain ⟨a41, e42, h⟩ := h
      obtain ⟨k43, h⟩ := h
      refine x_invV (m := m36) e42 dW_law_231 gW_law_231 (as := [vL ((jshl ((G.2.2.2.2.2 ((x4 + (1 : Int32))).toNatClampNeg).toInt64) (32 : Int32)) ||| (((G.2.2.2.2.2 ((x4 + (2 : Int32))).toNatClampNeg).toInt64) &&& (4294967295 : Int64))), vI (G.2.2.2.2.2 ((x4 + (3 : Int32))).toNatClampNeg)]) (st := []) rfl rfl k43 rfl rfl (Nat.le_of_ble_eq_true rfl) (n := 234) rfl rfl rfl h (xBk.V fun m44 h => ?_)
      refine x_aload_n dW_law_234 rfl (n := 235) rfl ?_
      obtain ⟨k45, h⟩ := h
      refine x_invV (m := m44) e42 dW_law_235 gW_law_235 (as := []) (st := []) rfl rfl k45 rfl rfl (Nat.le_of_ble_eq_true rfl) (n := 238) rfl rfl rfl h (xBk.I fun v47 m46 h => ?_)
      refine x_iload dW_law_238 rfl (n := 240) rfl ?_
      obtain ⟨h, h'⟩ := h
      refine x_icmp_eq (tgt := 245) dW_law_240 rfl (n := 243) rfl (fun c48 => ?_) (fun c48 => ?_)
      · replace h := h c48
        refine x_goto (tgt := 817) dW_law_245 rfl ?_
        refine x_iinc (v := x4 + 4) dW_law_817 rfl rfl (by decide) (L' := [some (vR o0), some (vR o1), some (vR o2), some (vR o3), some (vI (x4 + 4)), some (vI v37), none]) rfl (n := 820) rfl ?_
        refine x_goto (tgt := 23) dW_law_820 rfl ?_
        exact x_weak (b := [true, true, true, true, true, false, false]) rfl h
      · replace h := h' c48
        refine x_iconst (v := 0) dW_law_243 (by decide) (n := 244) rfl ?_
        exact x_zret dW_law_244 rfl (by decide) h
    · refine x_tableIn (tgt := 248) dW_law_39 (by rw [c2]; decide) (by rw [c2]; decide) (by rw [c2]; rfl) rfl ?_
      replace h := h259 c2
      refine x_aload_n dW_law_248 rfl (n := 249) rfl ?_
      refine x_aload_n dW_law_249 rfl (n := 250) rfl ?_
      refine x_iload dW_law_250 rfl (n := 252) rfl ?_
      refine x_iconst (v := 1) dW_law_252 (by decide) (n := 253) rfl ?_
      refine x_iadd dW_law_253 (n := 254) rfl ?_
      obtain ⟨c49, h⟩ := h
      refine x_sald hscr dW_law_254 c49 (n := 255) rfl ?_
      refine x_i2l dW_law_255 (n := 256) rfl ?_
      refine x_bipush (v := 32) dW_law_256 (by decide) (n := 258) rfl ?_
      refine x_lshl dW_law_258 (n := 259) rfl ?_
      refine x_aload_n dW_law_259 rfl (n := 260) rfl ?_
      refine x_iload dW_law_260 rfl (n := 262) rfl ?_
      refine x_iconst (v := 2) dW_law_262 (by decide) (n := 263) rfl ?_
      refine x_iadd dW_law_263 (n := 264) rfl ?_
      obtain ⟨c50, h⟩ := h
      refine x_sald hscr dW_law_264 c50 (n := 265) rfl ?_
      refine x_i2l dW_law_265 (n := 266) rfl ?_
      refine x_ldc2 (v := 4294967295) dW_law_266 w_797 (n := 269) rfl ?_
      refine x_land dW_law_269 (n := 270) rfl ?_
      refine x_lor dW_law_270 (n := 271) rfl ?_
      refine x_aload_n dW_law_271 rfl (n := 272) rfl ?_
      obtain ⟨bc51, bs52, b53, b54, h⟩ := h
      refine x_invSH (m := m) dW_law_272 gW_law_272 (as := [vR o1, vL ((jshl ((G.2.2.2.2.2 ((x4 + (1 : Int32))).toNatClampNeg).toInt64) (32 : Int32)) ||| (((G.2.2.2.2.2 ((x4 + (2 : Int32))).toNatClampNeg).toInt64) &&& (4294967295 : Int64))), vR o3]) (st := []) rfl rfl (Nat.le_of_ble_eq_true rfl) (n := 275) rfl b53 b54 h (xBk.I fun v56 m55 h => ?_)
      refine x_istore dW_law_275 (by decide) (L' := [some (vR o0), some (vR o1), some (vR o2), some (vR o3), some (vI x4), some (vI v56), none]) rfl (n := 277) rfl ?_
      refine x_aload_n dW_law_277 rfl (n := 278) rfl ?_
      refine x_aload_n dW_law_278 rfl (n := 279) rfl ?_
      refine x_iload dW_law_279 rfl (n := 281) rfl ?_
      refine x_iconst (v := 1) dW_law_281 (by decide) (n := 282) rfl ?_
      refine x_iadd dW_law_282 (n := 283) rfl ?_
      obtain ⟨c57, h⟩ := h
      refine x_sald hscr dW_law_283 c57 (n := 284) rfl ?_
      refine x_i2l dW_law_284 (n := 285) rfl ?_
      refine x_bipush (v := 32) dW_law_285 (by decide) (n := 287) rfl ?_
      refine x_lshl dW_law_287 (n := 288) rfl ?_
      refine x_aload_n dW_law_288 rfl (n := 289) rfl ?_
      refine x_iload dW_law_289 rfl (n := 291) rfl ?_
      refine x_iconst (v := 2) dW_law_291 (by decide) (n := 292) rfl ?_
      refine x_iadd dW_law_292 (n := 293) rfl ?_
      obtain ⟨c58, h⟩ := h
      refine x_sald hscr dW_law_293 c58 (n := 294) rfl ?_
      refine x_i2l dW_law_294 (n := 295) rfl ?_
      refine x_ldc2 (v := 4294967295) dW_law_295 w_797 (n := 298) rfl ?_
      refine x_land dW_law_298 (n := 299) rfl ?_
      refine x_lor dW_law_299 (n := 300) rfl ?_
      obtain ⟨a59, e60, h⟩ := h
      obtain ⟨k61, h⟩ := h
      refine x_invV (m := m55) e60 dW_law_300 gW_law_300 (as := [vL ((jshl ((G.2.2.2.2.2 ((x4 + (1 : Int32))).toNatClampNeg).toInt64) (32 : Int32)) ||| (((G.2.2.2.2.2 ((x4 + (2 : Int32))).toNatClampNeg).toInt64) &&& (4294967295 : Int64)))]) (st := []) rfl rfl k61 rfl rfl (Nat.le_of_ble_eq_true rfl) (n := 303) rfl rfl rfl h (xBk.I fun v63 m62 h => ?_)
      refine x_istore dW_law_303 (by decide) (L' := [some (vR o0), some (vR o1), some (vR o2), some (vR o3), some (vI x4), some (vI v56), some (vI v63)]) rfl (n := 305) rfl ?_
      refine x_aload_n dW_law_305 rfl (n := 306) rfl ?_
      obtain ⟨k64, h⟩ := h
      refine x_invV (m := m62) e60 dW_law_306 gW_law_306 (as := []) (st := []) rfl rfl k64 rfl rfl (Nat.le_of_ble_eq_true rfl) (n := 309) rfl rfl rfl h (xBk.I fun v66 m65 h => ?_)
      refine x_iload dW_law_309 rfl (n := 311) rfl ?_
      obtain ⟨h, h'⟩ := h
      refine x_icmp_eq (tgt := 316) dW_law_311 rfl (n := 314) rfl (fun c74 => ?_) (fun c74 => ?_)
      · replace h := h c74
        refine x_iload dW_law_316 rfl (n := 318) rfl ?_
        obtain ⟨h, h'⟩ := h
        refine x_if_ne (tgt := 333) dW_law_318 rfl (n := 321) rfl (fun c73 => ?_) (fun c73 => ?_)
        · replace h := h c73
          refine x_goto (tgt := 817) dW_law_333 rfl ?_
          refine x_iinc (v := x4 + 4) dW_law_817 rfl rfl (by decide) (L' := [some (vR o0), some (vR o1), some (vR o2), some (vR o3), some (vI (x4 + 4)), some (vI v56), some (vI v63)]) rfl (n := 820) rfl ?_
          refine x_goto (tgt := 23) dW_law_820 rfl ?_
          exact x_weak (b := [true, true, true, true, true, false, false]) rfl h
        · replace h := h' c73
          refine x_aload_n dW_law_321 rfl (n := 322) rfl ?_
          refine x_iconst (v := 0) dW_law_322 (by decide) (n := 323) rfl ?_
          obtain ⟨a67, e68, h⟩ := h
          obtain ⟨n70, k69, h⟩ := h
          obtain ⟨c71, h⟩ := h
          refine x_lald e68 dW_law_323 k69 c71 (n := 324) rfl ?_
          refine x_iload dW_law_324 rfl (n := 326) rfl ?_
          refine x_i2l dW_law_326 (n := 327) rfl ?_
          refine x_lcmp dW_law_327 (n := 328) rfl ?_
          obtain ⟨h, h'⟩ := h
          refine x_if_eq (tgt := 333) dW_law_328 rfl (n := 331) rfl (fun c72 => ?_) (fun c72 => ?_)
          · replace h := h c72
            refine x_goto (tgt := 817) dW_law_333 rfl ?_
            refine x_iinc (v := x4 + 4) dW_law_817 rfl rfl (by decide) (L' := [some (vR o0), some (vR o1), some (vR o2), some (vR o3), some (vI (x4 + 4)), some (vI v56), some (vI v63)]) rfl (n := 820) rfl ?_
            refine x_goto (tgt := 23) dW_law_820 rfl ?_
            exact x_weak (b := [true, true, true, true, true, false, false]) rfl h
          · replace h := h' c72
            refine x_iconst (v := 0) dW_law_331 (by decide) (n := 332) rfl ?_
            exact x_zret dW_law_332 rfl (by decide) h
      · replace h := h' c74
        refine x_iconst (v := 0) dW_law_314 (by decide) (n := 315) rfl ?_
        exact x_zret dW_law_315 rfl (by decide) h
    · refine x_tableIn (tgt := 336) dW_law_39 (by rw [c2]; decide) (by rw [c2]; decide) (by rw [c2]; rfl) rfl ?_
      replace h := h260 c2
      refine x_aload_n dW_law_336 rfl (n := 337) rfl ?_
      refine x_aload_n dW_law_337 rfl (n := 338) rfl ?_
      refine x_iload dW_law_338 rfl (n := 340) rfl ?_
      refine x_iconst (v := 1) dW_law_340 (by decide) (n := 341) rfl ?_
      refine x_iadd dW_law_341 (n := 342) rfl ?_
      obtain ⟨c75, h⟩ := h
      refine x_sald hscr dW_law_342 c75 (n := 343) rfl ?_
      refine x_aload_n dW_law_343 rfl (n := 344) rfl ?_
      obtain ⟨bc76, bs77, b78, b79, h⟩ := h
      refine x_invSH (m := m) dW_law_344 gW_law_344 (as := [vR o1, vI (G.2.2.2.2.2 ((x4 + (1 : Int32))).toNatClampNeg), vR o3]) (st := []) rfl rfl (Nat.le_of_ble_eq_true rfl) (n := 347) rfl b78 b79 h (xBk.I fun v81 m80 h => ?_)
      refine x_istore dW_law_347 (by decide) (L' := [some (vR o0), some (vR o1), some (vR o2), some (vR o3), some (vI x4), some (vI v81), none]) rfl (n := 349) rfl ?_
      refine x_aload_n dW_law_349 rfl (n := 350) rfl ?_
      refine x_aload_n dW_law_350 rfl (n := 351) rfl ?_
      refine x_iload dW_law_351 rfl (n := 353) rfl ?_
      refine x_iconst (v := 1) dW_law_353 (by decide) (n := 354) rfl ?_
      refine x_iadd dW_law_354 (n := 355) rfl ?_
      obtain ⟨c82, h⟩ := h
      refine x_sald hscr dW_law_355 c82 (n := 356) rfl ?_
      obtain ⟨a83, e84, h⟩ := h
      obtain ⟨k85, h⟩ := h
      refine x_invV (m := m80) e84 dW_law_356 gW_law_356 (as := [vI (G.2.2.2.2.2 ((x4 + (1 : Int32))).toNatClampNeg)]) (st := []) rfl rfl k85 rfl rfl (Nat.le_of_ble_eq_true rfl) (n := 359) rfl rfl rfl h (xBk.I fun v87 m86 h => ?_)
      refine x_istore dW_law_359 (by decide) (L' := [some (vR o0), some (vR o1), some (vR o2), some (vR o3), some (vI x4), some (vI v81), some (vI v87)]) rfl (n := 361) rfl ?_
      refine x_aload_n dW_law_361 rfl (n := 362) rfl ?_
      obtain ⟨k88, h⟩ := h
      refine x_invV (m := m86) e84 dW_law_362 gW_law_362 (as := []) (st := []) rfl rfl k88 rfl rfl (Nat.le_of_ble_eq_true rfl) (n := 365) rfl rfl rfl h (xBk.I fun v90 m89 h => ?_)
      refine x_iload dW_law_365 rfl (n := 367) rfl ?_
      obtain ⟨h, h'⟩ := h
      refine x_icmp_eq (tgt := 372) dW_law_367 rfl (n := 370) rfl (fun c98 => ?_) (fun c98 => ?_)
      · replace h := h c98
        refine x_iload dW_law_372 rfl (n := 374) rfl ?_
        obtain ⟨h, h'⟩ := h
        refine x_if_ne (tgt := 389) dW_law_374 rfl (n := 377) rfl (fun c97 => ?_) (fun c97 => ?_)
        · replace h := h c97
          refine x_goto (tgt := 817) dW_law_389 rfl ?_
          refine x_iinc (v := x4 + 4) dW_law_817 rfl rfl (by decide) (L' := [some (vR o0), some (vR o1), some (vR o2), some (vR o3), some (vI (x4 + 4)), some (vI v81), some (vI v87)]) rfl (n := 820) rfl ?_
          refine x_goto (tgt := 23) dW_law_820 rfl ?_
          exact x_weak (b := [true, true, true, true, true, false, false]) rfl h
        · replace h := h' c97
          refine x_aload_n dW_law_377 rfl (n := 378) rfl ?_
          refine x_iconst (v := 0) dW_law_378 (by decide) (n := 379) rfl ?_
          obtain ⟨a91, e92, h⟩ := h
          obtain ⟨n94, k93, h⟩ := h
          obtain ⟨c95, h⟩ := h
          refine x_lald e92 dW_law_379 k93 c95 (n := 380) rfl ?_
          refine x_iload dW_law_380 rfl (n := 382) rfl ?_
          refine x_i2l dW_law_382 (n := 383) rfl ?_
          refine x_lcmp dW_law_383 (n := 384) rfl ?_
          obtain ⟨h, h'⟩ := h
          refine x_if_eq (tgt := 389) dW_law_384 rfl (n := 387) rfl (fun c96 => ?_) (fun c96 => ?_)
          · replace h := h c96
            refine x_goto (tgt := 817) dW_law_389 rfl ?_
            refine x_iinc (v := x4 + 4) dW_law_817 rfl rfl (by decide) (L' := [some (vR o0), some (vR o1), some (vR o2), some (vR o3), some (vI (x4 + 4)), some (vI v81), some (vI v87)]) rfl (n := 820) rfl ?_
            refine x_goto (tgt := 23) dW_law_820 rfl ?_
            exact x_weak (b := [true, true, true, true, true, false, false]) rfl h
          · replace h := h' c96
            refine x_iconst (v := 0) dW_law_387 (by decide) (n := 388) rfl ?_
            exact x_zret dW_law_388 rfl (by decide) h
      · replace h := h' c98
        refine x_iconst (v := 0) dW_law_370 (by decide) (n := 371) rfl ?_
        exact x_zret dW_law_371 rfl (by decide) h
    · refine x_tableIn (tgt := 392) dW_law_39 (by rw [c2]; decide) (by rw [c2]; decide) (by rw [c2]; rfl) rfl ?_
      replace h := h261 c2
      refine x_aload_n dW_law_392 rfl (n := 393) rfl ?_
      refine x_aload_n dW_law_393 rfl (n := 394) rfl ?_
      refine x_iload dW_law_394 rfl (n := 396) rfl ?_
      refine x_iconst (v := 1) dW_law_396 (by decide) (n := 397) rfl ?_
      refine x_iadd dW_law_397 (n := 398) rfl ?_
      obtain ⟨c99, h⟩ := h
      refine x_sald hscr dW_law_398 c99 (n := 399) rfl ?_
      refine x_i2l dW_law_399 (n := 400) rfl ?_
      refine x_bipush (v := 32) dW_law_400 (by decide) (n := 402) rfl ?_
      refine x_lshl dW_law_402 (n := 403) rfl ?_
      refine x_aload_n dW_law_403 rfl (n := 404) rfl ?_
      refine x_iload dW_law_404 rfl (n := 406) rfl ?_
      refine x_iconst (v := 2) dW_law_406 (by decide) (n := 407) rfl ?_
      refine x_iadd dW_law_407 (n := 408) rfl ?_
      obtain ⟨c100, h⟩ := h
      refine x_sald hscr dW_law_408 c100 (n := 409) rfl ?_
      refine x_i2l dW_law_409 (n := 410) rfl ?_
      refine x_ldc2 (v := 4294967295) dW_law_410 w_797 (n := 413) rfl ?_
      refine x_land dW_law_413 (n := 414) rfl ?_
      refine x_lor dW_law_414 (n := 415) rfl ?_
      refine x_aload_n dW_law_415 rfl (n := 416) rfl ?_
      obtain ⟨bc101, bs102, b103, b104, h⟩ := h
      refine x_invSH (m := m) dW_law_416 gW_law_416 (as := [vR o1, vL ((jshl ((G.2.2.2.2.2 ((x4 + (1 : Int32))).toNatClampNeg).toInt64) (32 : Int32)) ||| (((G.2.2.2.2.2 ((x4 + (2 : Int32))).toNatClampNeg).toInt64) &&& (4294967295 : Int64))), vR o3]) (st := []) rfl rfl (Nat.le_of_ble_eq_true rfl) (n := 419) rfl b103 b104 h (xBk.I fun v106 m105 h => ?_)
      refine x_istore dW_law_419 (by decide) (L' := [some (vR o0), some (vR o1), some (vR o2), some (vR o3), some (vI x4), some (vI v106), none]) rfl (n := 421) rfl ?_
      refine x_aload_n dW_law_421 rfl (n := 422) rfl ?_
      refine x_aload_n dW_law_422 rfl (n := 423) rfl ?_
      refine x_iload dW_law_423 rfl (n := 425) rfl ?_
      refine x_iconst (v := 1) dW_law_425 (by decide) (n := 426) rfl ?_
      refine x_iadd dW_law_426 (n := 427) rfl ?_
      obtain ⟨c107, h⟩ := h
      refine x_sald hscr dW_law_427 c107 (n := 428) rfl ?_
      refine x_i2l dW_law_428 (n := 429) rfl ?_
      refine x_bipush (v := 32) dW_law_429 (by decide) (n := 431) rfl ?_
      refine x_lshl dW_law_431 (n := 432) rfl ?_
      refine x_aload_n dW_law_432 rfl (n := 433) rfl ?_
      refine x_iload dW_law_433 rfl (n := 435) rfl ?_
      refine x_iconst (v := 2) dW_law_435 (by decide) (n := 436) rfl ?_
      refine x_iadd dW_law_436 (n := 437) rfl ?_
      obtain ⟨c108, h⟩ := h
      refine x_sald hscr dW_law_437 c108 (n := 438) rfl ?_
      refine x_i2l dW_law_438 (n := 439) rfl ?_
      refine x_ldc2 (v := 4294967295) dW_law_439 w_797 (n := 442) rfl ?_
      refine x_land dW_law_442 (n := 443) rfl ?_
      refine x_lor dW_law_443 (n := 444) rfl ?_
      obtain ⟨a109, e110, h⟩ := h
      obtain ⟨k111, h⟩ := h
      refine x_invV (m := m105) e110 dW_law_444 gW_law_444 (as := [vL ((jshl ((G.2.2.2.2.2 ((x4 + (1 : Int32))).toNatClampNeg).toInt64) (32 : Int32)) ||| (((G.2.2.2.2.2 ((x4 + (2 : Int32))).toNatClampNeg).toInt64) &&& (4294967295 : Int64)))]) (st := []) rfl rfl k111 rfl rfl (Nat.le_of_ble_eq_true rfl) (n := 447) rfl rfl rfl h (xBk.I fun v113 m112 h => ?_)
      refine x_istore dW_law_447 (by decide) (L' := [some (vR o0), some (vR o1), some (vR o2), some (vR o3), some (vI x4), some (vI v106), some (vI v113)]) rfl (n := 449) rfl ?_
      refine x_aload_n dW_law_449 rfl (n := 450) rfl ?_
      obtain ⟨k114, h⟩ := h
      refine x_invV (m := m112) e110 dW_law_450 gW_law_450 (as := []) (st := []) rfl rfl k114 rfl rfl (Nat.le_of_ble_eq_true rfl) (n := 453) rfl rfl rfl h (xBk.I fun v116 m115 h => ?_)
      refine x_iload dW_law_453 rfl (n := 455) rfl ?_
      obtain ⟨h, h'⟩ := h
      refine x_icmp_eq (tgt := 460) dW_law_455 rfl (n := 458) rfl (fun c126 => ?_) (fun c126 => ?_)
      · replace h := h c126
        refine x_iload dW_law_460 rfl (n := 462) rfl ?_
        obtain ⟨h, h'⟩ := h
        refine x_if_ne (tgt := 484) dW_law_462 rfl (n := 465) rfl (fun c125 => ?_) (fun c125 => ?_)
        · replace h := h c125
          refine x_goto (tgt := 817) dW_law_484 rfl ?_
          refine x_iinc (v := x4 + 4) dW_law_817 rfl rfl (by decide) (L' := [some (vR o0), some (vR o1), some (vR o2), some (vR o3), some (vI (x4 + 4)), some (vI v106), some (vI v113)]) rfl (n := 820) rfl ?_
          refine x_goto (tgt := 23) dW_law_820 rfl ?_
          exact x_weak (b := [true, true, true, true, true, false, false]) rfl h
        · replace h := h' c125
          refine x_aload_n dW_law_465 rfl (n := 466) rfl ?_
          refine x_iconst (v := 0) dW_law_466 (by decide) (n := 467) rfl ?_
          obtain ⟨a117, e118, h⟩ := h
          obtain ⟨n120, k119, h⟩ := h
          obtain ⟨c121, h⟩ := h
          refine x_lald e118 dW_law_467 k119 c121 (n := 468) rfl ?_
          refine x_iload dW_law_468 rfl (n := 470) rfl ?_
          obtain ⟨h, h'⟩ := h
          refine x_if_eq (tgt := 477) dW_law_470 rfl (n := 473) rfl (fun c124 => ?_) (fun c124 => ?_)
          · replace h := h c124
            refine x_lconst (v := 0) dW_law_477 (by decide) (n := 478) rfl ?_
            refine x_lcmp dW_law_478 (n := 479) rfl ?_
            obtain ⟨h, h'⟩ := h
            refine x_if_eq (tgt := 484) dW_law_479 rfl (n := 482) rfl (fun c122 => ?_) (fun c122 => ?_)
            · replace h := h c122
              refine x_goto (tgt := 817) dW_law_484 rfl ?_
              refine x_iinc (v := x4 + 4) dW_law_817 rfl rfl (by decide) (L' := [some (vR o0), some (vR o1), some (vR o2), some (vR o3), some (vI (x4 + 4)), some (vI v106), some (vI v113)]) rfl (n := 820) rfl ?_
              refine x_goto (tgt := 23) dW_law_820 rfl ?_
              exact x_weak (b := [true, true, true, true, true, false, false]) rfl h
            · replace h := h' c122
              refine x_iconst (v := 0) dW_law_482 (by decide) (n := 483) rfl ?_
              exact x_zret dW_law_483 rfl (by decide) h
          · replace h := h' c124
            refine x_lconst (v := 1) dW_law_473 (by decide) (n := 474) rfl ?_
            refine x_goto (tgt := 478) dW_law_474 rfl ?_
            refine x_lcmp dW_law_478 (n := 479) rfl ?_
            obtain ⟨h, h'⟩ := h
            refine x_if_eq (tgt := 484) dW_law_479 rfl (n := 482) rfl (fun c123 => ?_) (fun c123 => ?_)
            · replace h := h c123
              refine x_goto (tgt := 817) dW_law_484 rfl ?_
              refine x_iinc (v := x4 + 4) dW_law_817 rfl rfl (by decide) (L' := [some (vR o0), some (vR o1), some (vR o2), some (vR o3), some (vI (x4 + 4)), some (vI v106), some (vI v113)]) rfl (n := 820) rfl ?_
              refine x_goto (tgt := 23) dW_law_820 rfl ?_
              exact x_weak (b := [true, true, true, true, true, false, false]) rfl h
            · replace h := h' c123
              refine x_iconst (v := 0) dW_law_482 (by decide) (n := 483) rfl ?_
              exact x_zret dW_law_483 rfl (by decide) h
      · replace h := h' c126
        refine x_iconst (v := 0) dW_law_458 (by decide) (n := 459) rfl ?_
        exact x_zret dW_law_459 rfl (by decide) h
    · refine x_tableIn (tgt := 487) dW_law_39 (by rw [c2]; decide) (by rw [c2]; decide) (by rw [c2]; rfl) rfl ?_
      replace h := h262 c2
      refine x_aload_n dW_law_487 rfl (n := 488) rfl ?_
      refine x_aload_n dW_law_488 rfl (n := 489) rfl ?_
      refine x_iload dW_law_489 rfl (n := 491) rfl ?_
      refine x_iconst (v := 1) dW_law_491 (by decide) (n := 492) rfl ?_
      refine x_iadd dW_law_492 (n := 493) rfl ?_
      obtain ⟨c127, h⟩ := h
      refine x_sald hscr dW_law_493 c127 (n := 494) rfl ?_
      refine x_i2l dW_law_494 (n := 495) rfl ?_
      refine x_bipush (v := 32) dW_law_495 (by decide) (n := 497) rfl ?_
      refine x_lshl dW_law_497 (n := 498) rfl ?_
      refine x_aload_n dW_law_498 rfl (n := 499) rfl ?_
      refine x_iload dW_law_499 rfl (n := 501) rfl ?_
      refine x_iconst (v := 2) dW_law_501 (by decide) (n := 502) rfl ?_
      refine x_iadd dW_law_502 (n := 503) rfl ?_
      obtain ⟨c128, h⟩ := h
      refine x_sald hscr dW_law_503 c128 (n := 504) rfl ?_
      refine x_i2l dW_law_504 (n := 505) rfl ?_
      refine x_ldc2 (v := 4294967295) dW_law_505 w_797 (n := 508) rfl ?_
      refine x_land dW_law_508 (n := 509) rfl ?_
      refine x_lor dW_law_509 (n := 510) rfl ?_
      obtain ⟨a129, e130, h⟩ := h
      obtain ⟨k131, h⟩ := h
      refine x_invV (m := m) e130 dW_law_510 gW_law_510 (as := [vL ((jshl ((G.2.2.2.2.2 ((x4 + (1 : Int32))).toNatClampNeg).toInt64) (32 : Int32)) ||| (((G.2.2.2.2.2 ((x4 + (2 : Int32))).toNatClampNeg).toInt64) &&& (4294967295 : Int64)))]) (st := []) rfl rfl k131 rfl rfl (Nat.le_of_ble_eq_true rfl) (n := 513) rfl rfl rfl h (xBk.I fun v133 m132 h => ?_)
      refine x_aload_n dW_law_513 rfl (n := 514) rfl ?_
      refine x_aload_n dW_law_514 rfl (n := 515) rfl ?_
      refine x_iload dW_law_515 rfl (n := 517) rfl ?_
      refine x_iconst (v := 1) dW_law_517 (by decide) (n := 518) rfl ?_
      refine x_iadd dW_law_518 (n := 519) rfl ?_
      obtain ⟨c134, h⟩ := h
      refine x_sald hscr dW_law_519 c134 (n := 520) rfl ?_
      refine x_i2l dW_law_520 (n := 521) rfl ?_
      refine x_bipush (v := 32) dW_law_521 (by decide) (n := 523) rfl ?_
      refine x_lshl dW_law_523 (n := 524) rfl ?_
      refine x_aload_n dW_law_524 rfl (n := 525) rfl ?_
      refine x_iload dW_law_525 rfl (n := 527) rfl ?_
      refine x_iconst (v := 2) dW_law_527 (by decide) (n := 528) rfl ?_
      refine x_iadd dW_law_528 (n := 529) rfl ?_
      obtain ⟨c135, h⟩ := h
      refine x_sald hscr dW_law_529 c135 (n := 530) rfl ?_
      refine x_i2l dW_law_530 (n := 531) rfl ?_
      refine x_ldc2 (v := 4294967295) dW_law_531 w_797 (n := 534) rfl ?_
      refine x_land dW_law_534 (n := 535) rfl ?_
      refine x_lor dW_law_535 (n := 536) rfl ?_
      obtain ⟨a136, e137, h⟩ := h
      obtain ⟨k138, h⟩ := h
      refine x_invV (m := m132) e137 dW_law_536 gW_law_536 (as := [vL ((jshl ((G.2.2.2.2.2 ((x4 + (1 : Int32))).toNatClampNeg).toInt64) (32 : Int32)) ||| (((G.2.2.2.2.2 ((x4 + (2 : Int32))).toNatClampNeg).toInt64) &&& (4294967295 : Int64)))]) (st := [vI v133]) rfl rfl k138 rfl rfl (Nat.le_of_ble_eq_true rfl) (n := 539) rfl rfl rfl h (xBk.I fun v140 m139 h => ?_)
      obtain ⟨h, h'⟩ := h
      refine x_icmp_eq (tgt := 817) dW_law_539 rfl (n := 542) rfl (fun c141 => ?_) (fun c141 => ?_)
      · replace h := h c141
        refine x_iinc (v := x4 + 4) dW_law_817 rfl rfl (by decide) (L' := [some (vR o0), some (vR o1), some (vR o2), some (vR o3), some (vI (x4 + 4)), none, none]) rfl (n := 820) rfl ?_
        refine x_goto (tgt := 23) dW_law_820 rfl ?_
        exact h
      · replace h := h' c141
        refine x_iconst (v := 0) dW_law_542 (by decide) (n := 543) rfl ?_
        exact x_zret dW_law_543 rfl (by decide) h
    · refine x_tableIn (tgt := 544) dW_law_39 (by rw [c2]; decide) (by rw [c2]; decide) (by rw [c2]; rfl) rfl ?_
      replace h := h263 c2
      refine x_aload_n dW_law_544 rfl (n := 545) rfl ?_
      refine x_aload_n dW_law_545 rfl (n := 546) rfl ?_
      refine x_iload dW_law_546 rfl (n := 548) rfl ?_
      refine x_iconst (v := 1) dW_law_548 (by decide) (n := 549) rfl ?_
      refine x_iadd dW_law_549 (n := 550) rfl ?_
      obtain ⟨c142, h⟩ := h
      refine x_sald hscr dW_law_550 c142 (n := 551) rfl ?_
      refine x_i2l dW_law_551 (n := 552) rfl ?_
      refine x_bipush (v := 32) dW_law_552 (by decide) (n := 554) rfl ?_
      refine x_lshl dW_law_554 (n := 555) rfl ?_
      refine x_aload_n dW_law_555 rfl (n := 556) rfl ?_
      refine x_iload dW_law_556 rfl (n := 558) rfl ?_
      refine x_iconst (v := 2) dW_law_558 (by decide) (n := 559) rfl ?_
      refine x_iadd dW_law_559 (n := 560) rfl ?_
      obtain ⟨c143, h⟩ := h
      refine x_sald hscr dW_law_560 c143 (n := 561) rfl ?_
      refine x_i2l dW_law_561 (n := 562) rfl ?_
      refine x_ldc2 (v := 4294967295) dW_law_562 w_797 (n := 565) rfl ?_
      refine x_land dW_law_565 (n := 566) rfl ?_
      refine x_lor dW_law_566 (n := 567) rfl ?_
      refine x_aload_n dW_law_567 rfl (n := 568) rfl ?_
      obtain ⟨bc144, bs145, b146, b147, h⟩ := h
      refine x_invSH (m := m) dW_law_568 gW_law_568 (as := [vR o1, vL ((jshl ((G.2.2.2.2.2 ((x4 + (1 : Int32))).toNatClampNeg).toInt64) (32 : Int32)) ||| (((G.2.2.2.2.2 ((x4 + (2 : Int32))).toNatClampNeg).toInt64) &&& (4294967295 : Int64))), vR o3]) (st := []) rfl rfl (Nat.le_of_ble_eq_true rfl) (n := 571) rfl b146 b147 h (xBk.I fun v149 m148 h => ?_)
      refine x_istore dW_law_571 (by decide) (L' := [some (vR o0), some (vR o1), some (vR o2), some (vR o3), some (vI x4), some (vI v149), none]) rfl (n := 573) rfl ?_
      refine x_aload_n dW_law_573 rfl (n := 574) rfl ?_
      refine x_aload_n dW_law_574 rfl (n := 575) rfl ?_
      refine x_iload dW_law_575 rfl (n := 577) rfl ?_
      refine x_iconst (v := 1) dW_law_577 (by decide) (n := 578) rfl ?_
      refine x_iadd dW_law_578 (n := 579) rfl ?_
      obtain ⟨c150, h⟩ := h
      refine x_sald hscr dW_law_579 c150 (n := 580) rfl ?_
      refine x_i2l dW_law_580 (n := 581) rfl ?_
      refine x_bipush (v := 32) dW_law_581 (by decide) (n := 583) rfl ?_
      refine x_lshl dW_law_583 (n := 584) rfl ?_
      refine x_aload_n dW_law_584 rfl (n := 585) rfl ?_
      refine x_iload dW_law_585 rfl (n := 587) rfl ?_
      refine x_iconst (v := 2) dW_law_587 (by decide) (n := 588) rfl ?_
      refine x_iadd dW_law_588 (n := 589) rfl ?_
      obtain ⟨c151, h⟩ := h
      refine x_sald hscr dW_law_589 c151 (n := 590) rfl ?_
      refine x_i2l dW_law_590 (n := 591) rfl ?_
      refine x_ldc2 (v := 4294967295) dW_law_591 w_797 (n := 594) rfl ?_
      refine x_land dW_law_594 (n := 595) rfl ?_
      refine x_lor dW_law_595 (n := 596) rfl ?_
      obtain ⟨a152, e153, h⟩ := h
      obtain ⟨k154, h⟩ := h
      refine x_invV (m := m148) e153 dW_law_596 gW_law_596 (as := [vL ((jshl ((G.2.2.2.2.2 ((x4 + (1 : Int32))).toNatClampNeg).toInt64) (32 : Int32)) ||| (((G.2.2.2.2.2 ((x4 + (2 : Int32))).toNatClampNeg).toInt64) &&& (4294967295 : Int64)))]) (st := []) rfl rfl k154 rfl rfl (Nat.le_of_ble_eq_true rfl) (n := 599) rfl rfl rfl h (xBk.I fun v156 m155 h => ?_)
      refine x_istore dW_law_599 (by decide) (L' := [some (vR o0), some (vR o1), some (vR o2), some (vR o3), some (vI x4), some (vI v149), some (vI v156)]) rfl (n := 601) rfl ?_
      refine x_aload_n dW_law_601 rfl (n := 602) rfl ?_
      obtain ⟨k157, h⟩ := h
      refine x_invV (m := m155) e153 dW_law_602 gW_law_602 (as := []) (st := []) rfl rfl k157 rfl rfl (Nat.le_of_ble_eq_true rfl) (n := 605) rfl rfl rfl h (xBk.I fun v159 m158 h => ?_)
      refine x_iload dW_law_605 rfl (n := 607) rfl ?_
      obtain ⟨h, h'⟩ := h
      refine x_icmp_eq (tgt := 612) dW_law_607 rfl (n := 610) rfl (fun c167 => ?_) (fun c167 => ?_)
      · replace h := h c167
        refine x_iload dW_law_612 rfl (n := 614) rfl ?_
        obtain ⟨h, h'⟩ := h
        refine x_if_ne (tgt := 629) dW_law_614 rfl (n := 617) rfl (fun c166 => ?_) (fun c166 => ?_)
        · replace h := h c166
          refine x_goto (tgt := 817) dW_law_629 rfl ?_
          refine x_iinc (v := x4 + 4) dW_law_817 rfl rfl (by decide) (L' := [some (vR o0), some (vR o1), some (vR o2), some (vR o3), some (vI (x4 + 4)), some (vI v149), some (vI v156)]) rfl (n := 820) rfl ?_
          refine x_goto (tgt := 23) dW_law_820 rfl ?_
          exact x_weak (b := [true, true, true, true, true, false, false]) rfl h
        · replace h := h' c166
          refine x_aload_n dW_law_617 rfl (n := 618) rfl ?_
          refine x_iconst (v := 0) dW_law_618 (by decide) (n := 619) rfl ?_
          obtain ⟨a160, e161, h⟩ := h
          obtain ⟨n163, k162, h⟩ := h
          obtain ⟨c164, h⟩ := h
          refine x_lald e161 dW_law_619 k162 c164 (n := 620) rfl ?_
          refine x_iload dW_law_620 rfl (n := 622) rfl ?_
          refine x_i2l dW_law_622 (n := 623) rfl ?_
          refine x_lcmp dW_law_623 (n := 624) rfl ?_
          obtain ⟨h, h'⟩ := h
          refine x_if_eq (tgt := 629) dW_law_624 rfl (n := 627) rfl (fun c165 => ?_) (fun c165 => ?_)
          · replace h := h c165
            refine x_goto (tgt := 817) dW_law_629 rfl ?_
            refine x_iinc (v := x4 + 4) dW_law_817 rfl rfl (by decide) (L' := [some (vR o0), some (vR o1), some (vR o2), some (vR o3), some (vI (x4 + 4)), some (vI v149), some (vI v156)]) rfl (n := 820) rfl ?_
            refine x_goto (tgt := 23) dW_law_820 rfl ?_
            exact x_weak (b := [true, true, true, true, true, false, false]) rfl h
          · replace h := h' c165
            refine x_iconst (v := 0) dW_law_627 (by decide) (n := 628) rfl ?_
            exact x_zret dW_law_628 rfl (by decide) h
      · replace h := h' c167
        refine x_iconst (v := 0) dW_law_610 (by decide) (n := 611) rfl ?_
        exact x_zret dW_law_611 rfl (by decide) h
    · refine x_tableIn (tgt := 632) dW_law_39 (by rw [c2]; decide) (by rw [c2]; decide) (by rw [c2]; rfl) rfl ?_
      replace h := h264 c2
      refine x_aload_n dW_law_632 rfl (n := 633) rfl ?_
      refine x_aload_n dW_law_633 rfl (n := 634) rfl ?_
      refine x_iload dW_law_634 rfl (n := 636) rfl ?_
      refine x_iconst (v := 1) dW_law_636 (by decide) (n := 637) rfl ?_
      refine x_iadd dW_law_637 (n := 638) rfl ?_
      obtain ⟨c168, h⟩ := h
      refine x_sald hscr dW_law_638 c168 (n := 639) rfl ?_
      refine x_aload_n dW_law_639 rfl (n := 640) rfl ?_
      refine x_iload dW_law_640 rfl (n := 642) rfl ?_
      refine x_iconst (v := 2) dW_law_642 (by decide) (n := 643) rfl ?_
      refine x_iadd dW_law_643 (n := 644) rfl ?_
      obtain ⟨c169, h⟩ := h
      refine x_sald hscr dW_law_644 c169 (n := 645) rfl ?_
      refine x_aload_n dW_law_645 rfl (n := 646) rfl ?_
      obtain ⟨bc170, bs171, b172, b173, h⟩ := h
      refine x_invSH (m := m) dW_law_646 gW_law_646 (as := [vR o1, vI (G.2.2.2.2.2 ((x4 + (1 : Int32))).toNatClampNeg), vI (G.2.2.2.2.2 ((x4 + (2 : Int32))).toNatClampNeg), vR o3]) (st := []) rfl rfl (Nat.le_of_ble_eq_true rfl) (n := 649) rfl b172 b173 h (xBk.I fun v175 m174 h => ?_)
      refine x_istore dW_law_649 (by decide) (L' := [some (vR o0), some (vR o1), some (vR o2), some (vR o3), some (vI x4), some (vI v175), none]) rfl (n := 651) rfl ?_
      refine x_aload_n dW_law_651 rfl (n := 652) rfl ?_
      refine x_aload_n dW_law_652 rfl (n := 653) rfl ?_
      refine x_iload dW_law_653 rfl (n := 655) rfl ?_
      refine x_iconst (v := 1) dW_law_655 (by decide) (n := 656) rfl ?_
      refine x_iadd dW_law_656 (n := 657) rfl ?_
      obtain ⟨c176, h⟩ := h
      refine x_sald hscr dW_law_657 c176 (n := 658) rfl ?_
      refine x_aload_n dW_law_658 rfl (n := 659) rfl ?_
      refine x_iload dW_law_659 rfl (n := 661) rfl ?_
      refine x_iconst (v := 2) dW_law_661 (by decide) (n := 662) rfl ?_
      refine x_iadd dW_law_662 (n := 663) rfl ?_
      obtain ⟨c177, h⟩ := h
      refine x_sald hscr dW_law_663 c177 (n := 664) rfl ?_
      obtain ⟨a178, e179, h⟩ := h
      obtain ⟨k180, h⟩ := h
      refine x_invV (m := m174) e179 dW_law_664 gW_law_664 (as := [vI (G.2.2.2.2.2 ((x4 + (1 : Int32))).toNatClampNeg), vI (G.2.2.2.2.2 ((x4 + (2 : Int32))).toNatClampNeg)]) (st := []) rfl rfl k180 rfl rfl (Nat.le_of_ble_eq_true rfl) (n := 667) rfl rfl rfl h (xBk.I fun v182 m181 h => ?_)
      refine x_istore dW_law_667 (by decide) (L' := [some (vR o0), some (vR o1), some (vR o2), some (vR o3), some (vI x4), some (vI v175), some (vI v182)]) rfl (n := 669) rfl ?_
      refine x_aload_n dW_law_669 rfl (n := 670) rfl ?_
      obtain ⟨k183, h⟩ := h
      refine x_invV (m := m181) e179 dW_law_670 gW_law_670 (as := []) (st := []) rfl rfl k183 rfl rfl (Nat.le_of_ble_eq_true rfl) (n := 673) rfl rfl rfl h (xBk.I fun v185 m184 h => ?_)
      refine x_iload dW_law_673 rfl (n := 675) rfl ?_
      obtain ⟨h, h'⟩ := h
      refine x_icmp_eq (tgt := 680) dW_law_675 rfl (n := 678) rfl (fun c193 => ?_) (fun c193 => ?_)
      · replace h := h c193
        refine x_iload dW_law_680 rfl (n := 682) rfl ?_
        obtain ⟨h, h'⟩ := h
        refine x_if_ne (tgt := 697) dW_law_682 rfl (n := 685) rfl (fun c192 => ?_) (fun c192 => ?_)
        · replace h := h c192
          refine x_goto (tgt := 817) dW_law_697 rfl ?_
          refine x_iinc (v := x4 + 4) dW_law_817 rfl rfl (by decide) (L' := [some (vR o0), some (vR o1), some (vR o2), some (vR o3), some (vI (x4 + 4)), some (vI v175), some (vI v182)]) rfl (n := 820) rfl ?_
          refine x_goto (tgt := 23) dW_law_820 rfl ?_
          exact x_weak (b := [true, true, true, true, true, false, false]) rfl h
        · replace h := h' c192
          refine x_aload_n dW_law_685 rfl (n := 686) rfl ?_
          refine x_iconst (v := 0) dW_law_686 (by decide) (n := 687) rfl ?_
          obtain ⟨a186, e187, h⟩ := h
          obtain ⟨n189, k188, h⟩ := h
          obtain ⟨c190, h⟩ := h
          refine x_lald e187 dW_law_687 k188 c190 (n := 688) rfl ?_
          refine x_iload dW_law_688 rfl (n := 690) rfl ?_
          refine x_i2l dW_law_690 (n := 691) rfl ?_
          refine x_lcmp dW_law_691 (n := 692) rfl ?_
          obtain ⟨h, h'⟩ := h
          refine x_if_eq (tgt := 697) dW_law_692 rfl (n := 695) rfl (fun c191 => ?_) (fun c191 => ?_)
          · replace h := h c191
            refine x_goto (tgt := 817) dW_law_697 rfl ?_
            refine x_iinc (v := x4 + 4) dW_law_817 rfl rfl (by decide) (L' := [some (vR o0), some (vR o1), some (vR o2), some (vR o3), some (vI (x4 + 4)), some (vI v175), some (vI v182)]) rfl (n := 820) rfl ?_
            refine x_goto (tgt := 23) dW_law_820 rfl ?_
            exact x_weak (b := [true, true, true, true, true, false, false]) rfl h
          · replace h := h' c191
            refine x_iconst (v := 0) dW_law_695 (by decide) (n := 696) rfl ?_
            exact x_zret dW_law_696 rfl (by decide) h
      · replace h := h' c193
        refine x_iconst (v := 0) dW_law_678 (by decide) (n := 679) rfl ?_
        exact x_zret dW_law_679 rfl (by decide) h
    · refine x_tableIn (tgt := 700) dW_law_39 (by rw [c2]; decide) (by rw [c2]; decide) (by rw [c2]; rfl) rfl ?_
      replace h := h265 c2
      refine x_aload_n dW_law_700 rfl (n := 701) rfl ?_
      obtain ⟨bc194, bs195, b196, b197, h⟩ := h
      refine x_invSH (m := m) dW_law_701 gW_law_701 (as := [vR o1]) (st := []) rfl rfl (Nat.le_of_ble_eq_true rfl) (n := 704) rfl b196 b197 h (xBk.I fun v199 m198 h => ?_)
      refine x_istore dW_law_704 (by decide) (L' := [some (vR o0), some (vR o1), some (vR o2), some (vR o3), some (vI x4), some (vI v199), none]) rfl (n := 706) rfl ?_
      refine x_aload_n dW_law_706 rfl (n := 707) rfl ?_
      obtain ⟨a200, e201, h⟩ := h
      obtain ⟨k202, h⟩ := h
      refine x_invV (m := m198) e201 dW_law_707 gW_law_707 (as := []) (st := []) rfl rfl k202 rfl rfl (Nat.le_of_ble_eq_true rfl) (n := 710) rfl rfl rfl h (xBk.V fun m203 h => ?_)
      refine x_aload_n dW_law_710 rfl (n := 711) rfl ?_
      obtain ⟨k204, h⟩ := h
      refine x_invV (m := m203) e201 dW_law_711 gW_law_711 (as := []) (st := []) rfl rfl k204 rfl rfl (Nat.le_of_ble_eq_true rfl) (n := 714) rfl rfl rfl h (xBk.I fun v206 m205 h => ?_)
      refine x_iload dW_law_714 rfl (n := 716) rfl ?_
      obtain ⟨h, h'⟩ := h
      refine x_icmp_eq (tgt := 721) dW_law_716 rfl (n := 719) rfl (fun c207 => ?_) (fun c207 => ?_)
      · replace h := h c207
        refine x_goto (tgt := 817) dW_law_721 rfl ?_
        refine x_iinc (v := x4 + 4) dW_law_817 rfl rfl (by decide) (L' := [some (vR o0), some (vR o1), some (vR o2), some (vR o3), some (vI (x4 + 4)), some (vI v199), none]) rfl (n := 820) rfl ?_
        refine x_goto (tgt := 23) dW_law_820 rfl ?_
        exact x_weak (b := [true, true, true, true, true, false, false]) rfl h
      · replace h := h' c207
        refine x_iconst (v := 0) dW_law_719 (by decide) (n := 720) rfl ?_
        exact x_zret dW_law_720 rfl (by decide) h
    · refine x_tableIn (tgt := 724) dW_law_39 (by rw [c2]; decide) (by rw [c2]; decide) (by rw [c2]; rfl) rfl ?_
      replace h := h266 c2
      refine x_aload_n dW_law_724 rfl (n := 725) rfl ?_
      obtain ⟨bc208, bs209, b210, b211, h⟩ := h
      refine x_invSH (m := m) dW_law_725 gW_law_725 (as := [vR o1]) (st := []) rfl rfl (Nat.le_of_ble_eq_true rfl) (n := 728) rfl b210 b211 h (xBk.I fun v213 m212 h => ?_)
      refine x_istore dW_law_728 (by decide) (L' := [some (vR o0), some (vR o1), some (vR o2), some (vR o3), some (vI x4), some (vI v213), none]) rfl (n := 730) rfl ?_
      refine x_aload_n dW_law_730 rfl (n := 731) rfl ?_
      obtain ⟨a214, e215, h⟩ := h
      obtain ⟨k216, h⟩ := h
      refine x_invV (m := m212) e215 dW_law_731 gW_law_731 (as := []) (st := []) rfl rfl k216 rfl rfl (Nat.le_of_ble_eq_true rfl) (n := 734) rfl rfl rfl h (xBk.V fun m217 h => ?_)
      refine x_aload_n dW_law_734 rfl (n := 735) rfl ?_
      obtain ⟨k218, h⟩ := h
      refine x_invV (m := m217) e215 dW_law_735 gW_law_735 (as := []) (st := []) rfl rfl k218 rfl rfl (Nat.le_of_ble_eq_true rfl) (n := 738) rfl rfl rfl h (xBk.I fun v220 m219 h => ?_)
      refine x_iload dW_law_738 rfl (n := 740) rfl ?_
      obtain ⟨h, h'⟩ := h
      refine x_icmp_eq (tgt := 745) dW_law_740 rfl (n := 743) rfl (fun c221 => ?_) (fun c221 => ?_)
      · replace h := h c221
        refine x_goto (tgt := 817) dW_law_745 rfl ?_
        refine x_iinc (v := x4 + 4) dW_law_817 rfl rfl (by decide) (L' := [some (vR o0), some (vR o1), some (vR o2), some (vR o3), some (vI (x4 + 4)), some (vI v213), none]) rfl (n := 820) rfl ?_
        refine x_goto (tgt := 23) dW_law_820 rfl ?_
        exact x_weak (b := [true, true, true, true, true, false, false]) rfl h
      · replace h := h' c221
        refine x_iconst (v := 0) dW_law_743 (by decide) (n := 744) rfl ?_
        exact x_zret dW_law_744 rfl (by decide) h
    · refine x_tableIn (tgt := 748) dW_law_39 (by rw [c2]; decide) (by rw [c2]; decide) (by rw [c2]; rfl) rfl ?_
      replace h := h267 c2
      refine x_aload_n dW_law_748 rfl (n := 749) rfl ?_
      refine x_aload_n dW_law_749 rfl (n := 750) rfl ?_
      obtain ⟨bc222, bs223, b224, b225, h⟩ := h
      refine x_invSH (m := m) dW_law_750 gW_law_750 (as := [vR o1, vR o3]) (st := []) rfl rfl (Nat.le_of_ble_eq_true rfl) (n := 753) rfl b224 b225 h (xBk.I fun v227 m226 h => ?_)
      refine x_istore dW_law_753 (by decide) (L' := [some (vR o0), some (vR o1), some (vR o2), some (vR o3), some (vI x4), some (vI v227), none]) rfl (n := 755) rfl ?_
      refine x_aload_n dW_law_755 rfl (n := 756) rfl ?_
      obtain ⟨a228, e229, h⟩ := h
      obtain ⟨k230, h⟩ := h
      refine x_invV (m := m226) e229 dW_law_756 gW_law_756 (as := []) (st := []) rfl rfl k230 rfl rfl (Nat.le_of_ble_eq_true rfl) (n := 759) rfl rfl rfl h (xBk.I fun v232 m231 h => ?_)
      refine x_istore dW_law_759 (by decide) (L' := [some (vR o0), some (vR o1), some (vR o2), some (vR o3), some (vI x4), some (vI v227), some (vI v232)]) rfl (n := 761) rfl ?_
      refine x_aload_n dW_law_761 rfl (n := 762) rfl ?_
      obtain ⟨k233, h⟩ := h
      refine x_invV (m := m231) e229 dW_law_762 gW_law_762 (as := []) (st := []) rfl rfl k233 rfl rfl (Nat.le_of_ble_eq_true rfl) (n := 765) rfl rfl rfl h (xBk.I fun v235 m234 h => ?_)
      refine x_iload dW_law_765 rfl (n := 767) rfl ?_
      obtain ⟨h, h'⟩ := h
      refine x_icmp_eq (tgt := 772) dW_law_767 rfl (n := 770) rfl (fun c243 => ?_) (fun c243 => ?_)
      · replace h := h c243
        refine x_iload dW_law_772 rfl (n := 774) rfl ?_
        obtain ⟨h, h'⟩ := h
        refine x_if_ne (tgt := 789) dW_law_774 rfl (n := 777) rfl (fun c242 => ?_) (fun c242 => ?_)
        · replace h := h c242
          refine x_goto (tgt := 817) dW_law_789 rfl ?_
          refine x_iinc (v := x4 + 4) dW_law_817 rfl rfl (by decide) (L' := [some (vR o0), some (vR o1), some (vR o2), some (vR o3), some (vI (x4 + 4)), some (vI v227), some (vI v232)]) rfl (n := 820) rfl ?_
          refine x_goto (tgt := 23) dW_law_820 rfl ?_
          exact x_weak (b := [true, true, true, true, true, false, false]) rfl h
        · replace h := h' c242
          refine x_aload_n dW_law_777 rfl (n := 778) rfl ?_
          refine x_iconst (v := 0) dW_law_778 (by decide) (n := 779) rfl ?_
          obtain ⟨a236, e237, h⟩ := h
          obtain ⟨n239, k238, h⟩ := h
          obtain ⟨c240, h⟩ := h
          refine x_lald e237 dW_law_779 k238 c240 (n := 780) rfl ?_
          refine x_iload dW_law_780 rfl (n := 782) rfl ?_
          refine x_i2l dW_law_782 (n := 783) rfl ?_
          refine x_lcmp dW_law_783 (n := 784) rfl ?_
          obtain ⟨h, h'⟩ := h
          refine x_if_eq (tgt := 789) dW_law_784 rfl (n := 787) rfl (fun c241 => ?_) (fun c241 => ?_)
          · replace h := h c241
            refine x_goto (tgt := 817) dW_law_789 rfl ?_
            refine x_iinc (v := x4 + 4) dW_law_817 rfl rfl (by decide) (L' := [some (vR o0), some (vR o1), some (vR o2), some (vR o3), some (vI (x4 + 4)), some (vI v227), some (vI v232)]) rfl (n := 820) rfl ?_
            refine x_goto (tgt := 23) dW_law_820 rfl ?_
            exact x_weak (b := [true, true, true, true, true, false, false]) rfl h
          · replace h := h' c241
            refine x_iconst (v := 0) dW_law_787 (by decide) (n := 788) rfl ?_
            exact x_zret dW_law_788 rfl (by decide) h
      · replace h := h' c243
        refine x_iconst (v := 0) dW_law_770 (by decide) (n := 771) rfl ?_
        exact x_zret dW_law_771 rfl (by decide) h
    · refine x_tableIn (tgt := 792) dW_law_39 (by rw [c2]; decide) (by rw [c2]; decide) (by rw [c2]; rfl) rfl ?_
      replace h := h268 c2
      refine x_aload_n dW_law_792 rfl (n := 793) rfl ?_
      refine x_aload_n dW_law_793 rfl (n := 794) rfl ?_
      refine x_iload dW_law_794 rfl (n := 796) rfl ?_
      refine x_iconst (v := 1) dW_law_796 (by decide) (n := 797) rfl ?_
      refine x_iadd dW_law_797 (n := 798) rfl ?_
      obtain ⟨c244, h⟩ := h
      refine x_sald hscr dW_law_798 c244 (n := 799) rfl ?_
      obtain ⟨a245, e246, h⟩ := h
      obtain ⟨k247, h⟩ := h
      refine x_invV (m := m) e246 dW_law_799 gW_law_799 (as := [vI (G.2.2.2.2.2 ((x4 + (1 : Int32))).toNatClampNeg)]) (st := []) rfl rfl k247 rfl rfl (Nat.le_of_ble_eq_true rfl) (n := 802) rfl rfl rfl h (xBk.I fun v249 m248 h => ?_)
      refine x_aload_n dW_law_802 rfl (n := 803) rfl ?_
      refine x_aload_n dW_law_803 rfl (n := 804) rfl ?_
      refine x_iload dW_law_804 rfl (n := 806) rfl ?_
      refine x_iconst (v := 1) dW_law_806 (by decide) (n := 807) rfl ?_
      refine x_iadd dW_law_807 (n := 808) rfl ?_
      obtain ⟨c250, h⟩ := h
      refine x_sald hscr dW_law_808 c250 (n := 809) rfl ?_
      obtain ⟨a251, e252, h⟩ := h
      obtain ⟨k253, h⟩ := h
      refine x_invV (m := m248) e252 dW_law_809 gW_law_809 (as := [vI (G.2.2.2.2.2 ((x4 + (1 : Int32))).toNatClampNeg)]) (st := [vI v249]) rfl rfl k253 rfl rfl (Nat.le_of_ble_eq_true rfl) (n := 812) rfl rfl rfl h (xBk.I fun v255 m254 h => ?_)
      obtain ⟨h, h'⟩ := h
      refine x_icmp_eq (tgt := 817) dW_law_812 rfl (n := 815) rfl (fun c256 => ?_) (fun c256 => ?_)
      · replace h := h c256
        refine x_iinc (v := x4 + 4) dW_law_817 rfl rfl (by decide) (L' := [some (vR o0), some (vR o1), some (vR o2), some (vR o3), some (vI (x4 + 4)), none, none]) rfl (n := 820) rfl ?_
        refine x_goto (tgt := 23) dW_law_820 rfl ?_
        exact h
      · replace h := h' c256
        refine x_iconst (v := 0) dW_law_815 (by decide) (n := 816) rfl ?_
        exact x_zret dW_law_816 rfl (by decide) h
    · refine x_tableOut (tgt := 817) dW_law_39 c2 rfl ?_
      replace h := h269 c2
      refine x_iinc (v := x4 + 4) dW_law_817 rfl rfl (by decide) (L' := [some (vR o0), some (vR o1), some (vR o2), some (vR o3), some (vI (x4 + 4)), none, none]) rfl (n := 820) rfl ?_
      refine x_goto (tgt := 23) dW_law_820 rfl ?_
      exact h
