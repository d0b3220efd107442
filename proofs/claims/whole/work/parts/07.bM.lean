set_option maxRecDepth 100000 in
set_option maxHeartbeats 4000000 in
theorem bM_init {l : Launch} {G : xG} {m : XM} {Q : XR → XM → Prop} {a0 : Nat} (hst : l.stackTraces = false)
    (h : kd m a0 = some (oB 5) ∧ ∀ m2, m2 = mI m a0 1 (1 : Int32) → ∃ bc3 bs4, 16 = bc3 + 1 ∧ 63006 = bs4 + 8 ∧ ∀ a7, kd m a7 = none → ∀ m9, m9 = mN m2 a7 (aR 0 8) → ∀ m12, m12 = mR m9 a0 2 (some a7) → ∃ bc13 bs14, bc3 = bc13 + 1 ∧ bs4 = bs14 + 8 ∧ ∀ a17, kd m9 a17 = none → ∀ m19, m19 = mN m12 a17 (aR 0 8) → ∀ m23, m23 = mR m19 a0 4 (some a17) → ∃ bc24 bs25, bc13 = bc24 + 1 ∧ bs14 = bs25 + 4096 ∧ ∀ a28, kd m19 a28 = none → ∀ m30, m30 = mN m23 a28 (aR 2 4096) → ∀ m35, m35 = mR m30 a0 6 (some a28) → ∃ bc36 bs37, bc24 = bc36 + 1 ∧ bs25 = bs37 + 4096 ∧ ∀ a40, kd m30 a40 = none → ∀ m42, m42 = mN m35 a40 (aR 0 4096) → ∀ m48, m48 = mR m42 a0 7 (some a40) → ∃ bc49 bs50, bc36 = bc49 + 1 ∧ bs37 = bs50 + 32768 ∧ ∀ a53, kd m42 a53 = none → ∀ m55, m55 = mN m48 a53 (aR 0 32768) → ∀ m62, m62 = mR m55 a0 8 (some a53) → ∃ bc63 bs64, bc49 = bc63 + 1 ∧ bs50 = bs64 + 4096 ∧ ∀ a67, kd m55 a67 = none → ∀ m69, m69 = mN m62 a67 (aR 1 4096) → ∀ m77, m77 = mR m69 a0 9 (some a67) → ∃ bc78 bs79, bc63 = bc78 + 1 ∧ bs64 = bs79 + 4096 ∧ ∀ a82, kd m69 a82 = none → ∀ m84, m84 = mN m77 a82 (aR 1 4096) → ∀ m93, m93 = mR m84 a0 10 (some a82) → ∃ bc94 bs95, bc78 = bc94 + 1 ∧ bs79 = bs95 + 4096 ∧ ∀ a98, kd m84 a98 = none → ∀ m100, m100 = mN m93 a98 (aR 0 4096) → ∀ m110, m110 = mR m100 a0 11 (some a98) → ∃ bc111 bs112, bc94 = bc111 + 1 ∧ bs95 = bs112 + 4096 ∧ ∀ a115, kd m100 a115 = none → ∀ m117, m117 = mN m110 a115 (aR 1 4096) → ∀ m128, m128 = mR m117 a0 12 (some a115) → ∃ bc129 bs130, bc111 = bc129 + 1 ∧ bs112 = bs130 + 97 ∧ ∀ a133, kd m117 a133 = none → ∀ m135, m135 = mN m128 a133 (aR 0 97) → ∀ m147, m147 = mR m135 a0 14 (some a133) → ∃ bc148 bs149, bc129 = bc148 + 1 ∧ bs130 = bs149 + 776 ∧ ∀ a152, kd m135 a152 = none → ∀ m154, m154 = mN m147 a152 (aR 0 776) → ∀ m167, m167 = mR m154 a0 15 (some a152) → ∃ bc168 bs169, bc148 = bc168 + 1 ∧ bs149 = bs169 + 4096 ∧ ∀ a172, kd m154 a172 = none → ∀ m174, m174 = mN m167 a172 (aR 1 4096) → ∀ m188, m188 = mR m174 a0 17 (some a172) → ∃ bc189 bs190, bc168 = bc189 + 1 ∧ bs169 = bs190 + 300 ∧ ∀ a193, kd m174 a193 = none → ∀ m195, m195 = mN m188 a193 (aR 0 300) → ∀ m210, m210 = mR m195 a0 19 (some a193) → ∃ bc211 bs212, bc189 = bc211 + 1 ∧ bs190 = bs212 + 300 ∧ ∀ a215, kd m195 a215 = none → ∀ m217, m217 = mN m210 a215 (aR 0 300) → ∀ m233, m233 = mR m217 a0 21 (some a215) → ∃ bc234 bs235, bc211 = bc234 + 1 ∧ bs212 = bs235 + 64 ∧ ∀ a238, kd m217 a238 = none → ∀ m240, m240 = mN m233 a238 (aR 1 64) → ∀ m257, m257 = mR m240 a0 22 (some a238) → ∃ bc258 bs259, bc234 = bc258 + 1 ∧ bs235 = bs259 + 13 ∧ ∀ a262, kd m240 a262 = none → ∀ m264, m264 = mN m257 a262 (aR 0 13) → ∀ m282, m282 = mR m264 a0 23 (some a262) → Q (.inl none) m282) :
    CC l G xM_init [vR (some a0)] m Q := by
  refine x_entry (by decide +kernel) rfl hst (Nat.le_of_ble_eq_true rfl) (L0 := [some (vR (some a0))]) rfl ?_
  refine x_aload_n dM_init_0 rfl (n := 1) rfl ?_
  refine x_objInit dM_init_1 w_550 w_58 w_59 (by decide) (by decide) (n := 4) rfl ?_
  refine x_aload_n dM_init_4 rfl (n := 5) rfl ?_
  refine x_iconst (v := 1) dM_init_5 (by decide) (n := 6) rfl ?_
  obtain ⟨k1, h⟩ := h
  replace h := h _ rfl
  refine x_putI rfl dM_init_6 pM_7 k1 (by decide) (by decide) (n := 9) rfl ?_
  refine x_aload_n dM_init_9 rfl (n := 10) rfl ?_
  refine x_bipush (v := 8) dM_init_10 (by decide) (n := 12) rfl ?_
  obtain ⟨bc3, bs4, b5, b6, h⟩ := h
  refine x_newa (atype := .int) (t := 0) (N := 8) dM_init_12 w_87 (by decide) (by decide) (by decide) (n := 14) rfl (by decide) b5 b6 fun a7 f8 => ?_
  replace h := h a7 f8 _ rfl
  have k10 := kdN (k := aR 0 8) f8 k1
  have k11 := kdNs (mI m a0 1 (1 : Int32)) a7 (aR 0 8)
  replace h := h _ rfl
  refine x_putR rfl dM_init_14 pM_13 k10 (fun o => by cases o <;> rfl) (fun o => by cases o <;> rfl) (n := 17) rfl ?_
  refine x_aload_n dM_init_17 rfl (n := 18) rfl ?_
  refine x_bipush (v := 8) dM_init_18 (by decide) (n := 20) rfl ?_
  obtain ⟨bc13, bs14, b15, b16, h⟩ := h
  refine x_newa (atype := .int) (t := 0) (N := 8) dM_init_20 w_87 (by decide) (by decide) (by decide) (n := 22) rfl (by decide) b15 b16 fun a17 f18 => ?_
  replace h := h a17 f18 _ rfl
  have k20 := kdN (k := aR 0 8) f18 k10
  have k21 := kdN (k := aR 0 8) f18 k11
  have k22 := kdNs (mR (mN (mI m a0 1 (1 : Int32)) a7 (aR 0 8)) a0 2 (some a7)) a17 (aR 0 8)
  replace h := h _ rfl
  refine x_putR rfl dM_init_22 pM_17 k20 (fun o => by cases o <;> rfl) (fun o => by cases o <;> rfl) (n := 25) rfl ?_
  refine x_aload_n dM_init_25 rfl (n := 26) rfl ?_
  refine x_sipush (v := 4096) dM_init_26 (by decide) (n := 29) rfl ?_
  obtain ⟨bc24, bs25, b26, b27, h⟩ := h
  refine x_newa (atype := .long) (t := 2) (N := 4096) dM_init_29 w_624 (by decide) (by decide) (by decide) (n := 31) rfl (by decide) b26 b27 fun a28 f29 => ?_
  replace h := h a28 f29 _ rfl
  have k31 := kdN (k := aR 2 4096) f29 k20
  have k32 := kdN (k := aR 2 4096) f29 k21
  have k33 := kdN (k := aR 2 4096) f29 k22
  have k34 := kdNs (mR (mN (mR (mN (mI m a0 1 (1 : Int32)) a7 (aR 0 8)) a0 2 (some a7)) a17 (aR 0 8)) a0 4 (some a17)) a28 (aR 2 4096)
  replace h := h _ rfl
  refine x_putR rfl dM_init_31 pM_20 k31 (fun o => by cases o <;> rfl) (fun o => by cases o <;> rfl) (n := 34) rfl ?_
  refine x_aload_n dM_init_34 rfl (n := 35) rfl ?_
  refine x_sipush (v := 4096) dM_init_35 (by decide) (n := 38) rfl ?_
  obtain ⟨bc36, bs37, b38, b39, h⟩ := h
  refine x_newa (atype := .int) (t := 0) (N := 4096) dM_init_38 w_87 (by decide) (by decide) (by decide) (n := 40) rfl (by decide) b38 b39 fun a40 f41 => ?_
  replace h := h a40 f41 _ rfl
  have k43 := kdN (k := aR 0 4096) f41 k31
  have k44 := kdN (k := aR 0 4096) f41 k32
  have k45 := kdN (k := aR 0 4096) f41 k33
  have k46 := kdN (k := aR 0 4096) f41 k34
  have k47 := kdNs (mR (mN (mR (mN (mR (mN (mI m a0 1 (1 : Int32)) a7 (aR 0 8)) a0 2 (some a7)) a17 (aR 0 8)) a0 4 (some a17)) a28 (aR 2 4096)) a0 6 (some a28)) a40 (aR 0 4096)
  replace h := h _ rfl
  refine x_putR rfl dM_init_40 pM_24 k43 (fun o => by cases o <;> rfl) (fun o => by cases o <;> rfl) (n := 43) rfl ?_
  refine x_aload_n dM_init_43 rfl (n := 44) rfl ?_
  refine x_ldc (v := 32768) dM_init_44 w_551 (n := 46) rfl ?_
  obtain ⟨bc49, bs50, b51, b52, h⟩ := h
  refine x_newa (atype := .int) (t := 0) (N := 32768) dM_init_46 w_87 (by decide) (by decide) (by decide) (n := 48) rfl (by decide) b51 b52 fun a53 f54 => ?_
  replace h := h a53 f54 _ rfl
  have k56 := kdN (k := aR 0 32768) f54 k43
  have k57 := kdN (k := aR 0 32768) f54 k44
  have k58 := kdN (k := aR 0 32768) f54 k45
  have k59 := kdN (k := aR 0 32768) f54 k46
  have k60 := kdN (k := aR 0 32768) f54 k47
  have k61 := kdNs (mR (mN (mR (mN (mR (mN (mR (mN (mI m a0 1 (1 : Int32)) a7 (aR 0 8)) a0 2 (some a7)) a17 (aR 0 8)) a0 4 (some a17)) a28 (aR 2 4096)) a0 6 (some a28)) a40 (aR 0 4096)) a0 7 (some a40)) a53 (aR 0 32768)
  replace h := h _ rfl
  refine x_putR rfl dM_init_48 pM_28 k56 (fun o => by cases o <;> rfl) (fun o => by cases o <;> rfl) (n := 51) rfl ?_
  refine x_aload_n dM_init_51 rfl (n := 52) rfl ?_
  refine x_sipush (v := 4096) dM_init_52 (by decide) (n := 55) rfl ?_
  obtain ⟨bc63, bs64, b65, b66, h⟩ := h
  refine x_newa (atype := .boolean) (t := 1) (N := 4096) dM_init_55 w_625 (by decide) (by decide) (by decide) (n := 57) rfl (by decide) b65 b66 fun a67 f68 => ?_
  replace h := h a67 f68 _ rfl
  have k70 := kdN (k := aR 1 4096) f68 k56
  have k71 := kdN (k := aR 1 4096) f68 k57
  have k72 := kdN (k := aR 1 4096) f68 k58
  have k73 := kdN (k := aR 1 4096) f68 k59
  have k74 := kdN (k := aR 1 4096) f68 k60
  have k75 := kdN (k := aR 1 4096) f68 k61
  have k76 := kdNs (mR (mN (mR (mN (mR (mN (mR (mN (mR (mN (mI m a0 1 (1 : Int32)) a7 (aR 0 8)) a0 2 (some a7)) a17 (aR 0 8)) a0 4 (some a17)) a28 (aR 2 4096)) a0 6 (some a28)) a40 (aR 0 4096)) a0 7 (some a40)) a53 (aR 0 32768)) a0 8 (some a53)) a67 (aR 1 4096)
  replace h := h _ rfl
  refine x_putR rfl dM_init_57 pM_31 k70 (fun o => by cases o <;> rfl) (fun o => by cases o <;> rfl) (n := 60) rfl ?_
  refine x_aload_n dM_init_60 rfl (n := 61) rfl ?_
  refine x_sipush (v := 4096) dM_init_61 (by decide) (n := 64) rfl ?_
  obtain ⟨bc78, bs79, b80, b81, h⟩ := h
  refine x_newa (atype := .boolean) (t := 1) (N := 4096) dM_init_64 w_625 (by decide) (by decide) (by decide) (n := 66) rfl (by decide) b80 b81 fun a82 f83 => ?_
  replace h := h a82 f83 _ rfl
  have k85 := kdN (k := aR 1 4096) f83 k70
  have k86 := kdN (k := aR 1 4096) f83 k71
  have k87 := kdN (k := aR 1 4096) f83 k72
  have k88 := kdN (k := aR 1 4096) f83 k73
  have k89 := kdN (k := aR 1 4096) f83 k74
  have k90 := kdN (k := aR 1 4096) f83 k75
  have k91 := kdN (k := aR 1 4096) f83 k76
  have k92 := kdNs (mR (mN (mR (mN (mR (mN (mR (mN (mR (mN (mR (mN (mI m a0 1 (1 : Int32)) a7 (aR 0 8)) a0 2 (some a7)) a17 (aR 0 8)) a0 4 (some a17)) a28 (aR 2 4096)) a0 6 (some a28)) a40 (aR 0 4096)) a0 7 (some a40)) a53 (aR 0 32768)) a0 8 (some a53)) a67 (aR 1 4096)) a0 9 (some a67)) a82 (aR 1 4096)
  replace h := h _ rfl
  refine x_putR rfl dM_init_66 pM_35 k85 (fun o => by cases o <;> rfl) (fun o => by cases o <;> rfl) (n := 69) rfl ?_
  refine x_aload_n dM_init_69 rfl (n := 70) rfl ?_
  refine x_sipush (v := 4096) dM_init_70 (by decide) (n := 73) rfl ?_
  obtain ⟨bc94, bs95, b96, b97, h⟩ := h
  refine x_newa (atype := .int) (t := 0) (N := 4096) dM_init_73 w_87 (by decide) (by decide) (by decide) (n := 75) rfl (by decide) b96 b97 fun a98 f99 => ?_
  replace h := h a98 f99 _ rfl
  have k101 := kdN (k := aR 0 4096) f99 k85
  have k102 := kdN (k := aR 0 4096) f99 k86
  have k103 := kdN (k := aR 0 4096) f99 k87
  have k104 := kdN (k := aR 0 4096) f99 k88
  have k105 := kdN (k := aR 0 4096) f99 k89
  have k106 := kdN (k := aR 0 4096) f99 k90
  have k107 := kdN (k := aR 0 4096) f99 k91
  have k108 := kdN (k := aR 0 4096) f99 k92
  have k109 := kdNs (mR (mN (mR (mN (mR (mN (mR (mN (mR (mN (mR (mN (mR (mN (mI m a0 1 (1 : Int32)) a7 (aR 0 8)) a0 2 (some a7)) a17 (aR 0 8)) a0 4 (some a17)) a28 (aR 2 4096)) a0 6 (some a28)) a40 (aR 0 4096)) a0 7 (some a40)) a53 (aR 0 32768)) a0 8 (some a53)) a67 (aR 1 4096)) a0 9 (some a67)) a82 (aR 1 4096)) a0 10 (some a82)) a98 (aR 0 4096)
  replace h := h _ rfl
  refine x_putR rfl dM_init_75 pM_38 k101 (fun o => by cases o <;> rfl) (fun o => by cases o <;> rfl) (n := 78) rfl ?_
  refine x_aload_n dM_init_78 rfl (n := 79) rfl ?_
  refine x_sipush (v := 4096) dM_init_79 (by decide) (n := 82) rfl ?_
  obtain ⟨bc111, bs112, b113, b114, h⟩ := h
  refine x_newa (atype := .boolean) (t := 1) (N := 4096) dM_init_82 w_625 (by decide) (by decide) (by decide) (n := 84) rfl (by decide) b113 b114 fun a115 f116 => ?_
  replace h := h a115 f116 _ rfl
  have k118 := kdN (k := aR 1 4096) f116 k101
  have k119 := kdN (k := aR 1 4096) f116 k102
  have k120 := kdN (k := aR 1 4096) f116 k103
  have k121 := kdN (k := aR 1 4096) f116 k104
  have k122 := kdN (k := aR 1 4096) f116 k105
  have k123 := kdN (k := aR 1 4096) f116 k106
  have k124 := kdN (k := aR 1 4096) f116 k107
  have k125 := kdN (k := aR 1 4096) f116 k108
  have k126 := kdN (k := aR 1 4096) f116 k109
  have k127 := kdNs (mR (mN (mR (mN (mR (mN (mR (mN (mR (mN (mR (mN (mR (mN (mR (mN (mI m a0 1 (1 : Int32)) a7 (aR 0 8)) a0 2 (some a7)) a17 (aR 0 8)) a0 4 (some a17)) a28 (aR 2 4096)) a0 6 (some a28)) a40 (aR 0 4096)) a0 7 (some a40)) a53 (aR 0 32768)) a0 8 (some a53)) a67 (aR 1 4096)) a0 9 (some a67)) a82 (aR 1 4096)) a0 10 (some a82)) a98 (aR 0 4096)) a0 11 (some a98)) a115 (aR 1 4096)
  replace h := h _ rfl
  refine x_putR rfl dM_init_84 pM_41 k118 (fun o => by cases o <;> rfl) (fun o => by cases o <;> rfl) (n := 87) rfl ?_
  refine x_aload_n dM_init_87 rfl (n := 88) rfl ?_
  refine x_bipush (v := 97) dM_init_88 (by decide) (n := 90) rfl ?_
  obtain ⟨bc129, bs130, b131, b132, h⟩ := h
  refine x_newa (atype := .int) (t := 0) (N := 97) dM_init_90 w_87 (by decide) (by decide) (by decide) (n := 92) rfl (by decide) b131 b132 fun a133 f134 => ?_
  replace h := h a133 f134 _ rfl
  have k136 := kdN (k := aR 0 97) f134 k118
  have k137 := kdN (k := aR 0 97) f134 k119
  have k138 := kdN (k := aR 0 97) f134 k120
  have k139 := kdN (k := aR 0 97) f134 k121
  have k140 := kdN (k := aR 0 97) f134 k122
  have k141 := kdN (k := aR 0 97) f134 k123
  have k142 := kdN (k := aR 0 97) f134 k124
  have k143 := kdN (k := aR 0 97) f134 k125
  have k144 := kdN (k := aR 0 97) f134 k126
  have k145 := kdN (k := aR 0 97) f134 k127
  have k146 := kdNs (mR (mN (mR (mN (mR (mN (mR (mN (mR (mN (mR (mN (mR (mN (mR (mN (mR (mN (mI m a0 1 (1 : Int32)) a7 (aR 0 8)) a0 2 (some a7)) a17 (aR 0 8)) a0 4 (some a17)) a28 (aR 2 4096)) a0 6 (some a28)) a40 (aR 0 4096)) a0 7 (some a40)) a53 (aR 0 32768)) a0 8 (some a53)) a67 (aR 1 4096)) a0 9 (some a67)) a82 (aR 1 4096)) a0 10 (some a82)) a98 (aR 0 4096)) a0 11 (some a98)) a115 (aR 1 4096)) a0 12 (some a115)) a133 (aR 0 97)
  replace h := h _ rfl
  refine x_putR rfl dM_init_92 pM_44 k136 (fun o => by cases o <;> rfl) (fun o => by cases o <;> rfl) (n := 95) rfl ?_
  refine x_aload_n dM_init_95 rfl (n := 96) rfl ?_
  refine x_sipush (v := 776) dM_init_96 (by decide) (n := 99) rfl ?_
  obtain ⟨bc148, bs149, b150, b151, h⟩ := h
  refine x_newa (atype := .int) (t := 0) (N := 776) dM_init_99 w_87 (by decide) (by decide) (by decide) (n := 101) rfl (by decide) b150 b151 fun a152 f153 => ?_
  replace h := h a152 f153 _ rfl
  have k155 := kdN (k := aR 0 776) f153 k136
  have k156 := kdN (k := aR 0 776) f153 k137
  have k157 := kdN (k := aR 0 776) f153 k138
  have k158 := kdN (k := aR 0 776) f153 k139
  have k159 := kdN (k := aR 0 776) f153 k140
  have k160 := kdN (k := aR 0 776) f153 k141
  have k161 := kdN (k := aR 0 776) f153 k142
  have k162 := kdN (k := aR 0 776) f153 k143
  have k163 := kdN (k := aR 0 776) f153 k144
  have k164 := kdN (k := aR 0 776) f153 k145
  have k165 := kdN (k := aR 0 776) f153 k146
  have k166 := kdNs (mR (mN (mR (mN (mR (mN (mR (mN (mR (mN (mR (mN (mR (mN (mR (mN (mR (mN (mR (mN (mI m a0 1 (1 : Int32)) a7 (aR 0 8)) a0 2 (some a7)) a17 (aR 0 8)) a0 4 (some a17)) a28 (aR 2 4096)) a0 6 (some a28)) a40 (aR 0 4096)) a0 7 (some a40)) a53 (aR 0 32768)) a0 8 (some a53)) a67 (aR 1 4096)) a0 9 (some a67)) a82 (aR 1 4096)) a0 10 (some a82)) a98 (aR 0 4096)) a0 11 (some a98)) a115 (aR 1 4096)) a0 12 (some a115)) a133 (aR 0 97)) a0 14 (some a133)) a152 (aR 0 776)
  replace h := h _ rfl
  refine x_putR rfl dM_init_101 pM_47 k155 (fun o => by cases o <;> rfl) (fun o => by cases o <;> rfl) (n := 104) rfl ?_
  refine x_aload_n dM_init_104 rfl (n := 105) rfl ?_
  refine x_sipush (v := 4096) dM_init_105 (by decide) (n := 108) rfl ?_
  obtain ⟨bc168, bs169, b170, b171, h⟩ := h
  refine x_newa (atype := .boolean) (t := 1) (N := 4096) dM_init_108 w_625 (by decide) (by decide) (by decide) (n := 110) rfl (by decide) b170 b171 fun a172 f173 => ?_
  replace h := h a172 f173 _ rfl
  have k175 := kdN (k := aR 1 4096) f173 k155
  have k176 := kdN (k := aR 1 4096) f173 k156
  have k177 := kdN (k := aR 1 4096) f173 k157
  have k178 := kdN (k := aR 1 4096) f173 k158
  have k179 := kdN (k := aR 1 4096) f173 k159
  have k180 := kdN (k := aR 1 4096) f173 k160
  have k181 := kdN (k := aR 1 4096) f173 k161
  have k182 := kdN (k := aR 1 4096) f173 k162
  have k183 := kdN (k := aR 1 4096) f173 k163
  have k184 := kdN (k := aR 1 4096) f173 k164
  have k185 := kdN (k := aR 1 4096) f173 k165
  have k186 := kdN (k := aR 1 4096) f173 k166
  have k187 := kdNs (mR (mN (mR (mN (mR (mN (mR (mN (mR (mN (mR (mN (mR (mN (mR (mN (mR (mN (mR (mN (mR (mN (mI m a0 1 (1 : Int32)) a7 (aR 0 8)) a0 2 (some a7)) a17 (aR 0 8)) a0 4 (some a17)) a28 (aR 2 4096)) a0 6 (some a28)) a40 (aR 0 4096)) a0 7 (some a40)) a53 (aR 0 32768)) a0 8 (some a53)) a67 (aR 1 4096)) a0 9 (some a67)) a82 (aR 1 4096)) a0 10 (some a82)) a98 (aR 0 4096)) a0 11 (some a98)) a115 (aR 1 4096)) a0 12 (some a115)) a133 (aR 0 97)) a0 14 (some a133)) a152 (aR 0 776)) a0 15 (some a152)) a172 (aR 1 4096)
  replace h := h _ rfl
  refine x_putR rfl dM_init_110 pM_50 k175 (fun o => by cases o <;> rfl) (fun o => by cases o <;> rfl) (n := 113) rfl ?_
  refine x_aload_n dM_init_113 rfl (n := 114) rfl ?_
  refine x_sipush (v := 300) dM_init_114 (by decide) (n := 117) rfl ?_
  obtain ⟨bc189, bs190, b191, b192, h⟩ := h
  refine x_newa (atype := .int) (t := 0) (N := 300) dM_init_117 w_87 (by decide) (by decide) (by decide) (n := 119) rfl (by decide) b191 b192 fun a193 f194 => ?_
  replace h := h a193 f194 _ rfl
  have k196 := kdN (k := aR 0 300) f194 k175
  have k197 := kdN (k := aR 0 300) f194 k176
  have k198 := kdN (k := aR 0 300) f194 k177
  have k199 := kdN (k := aR 0 300) f194 k178
  have k200 := kdN (k := aR 0 300) f194 k179
  have k201 := kdN (k := aR 0 300) f194 k180
  have k202 := kdN (k := aR 0 300) f194 k181
  have k203 := kdN (k := aR 0 300) f194 k182
  have k204 := kdN (k := aR 0 300) f194 k183
  have k205 := kdN (k := aR 0 300) f194 k184
  have k206 := kdN (k := aR 0 300) f194 k185
  have k207 := kdN (k := aR 0 300) f194 k186
  have k208 := kdN (k := aR 0 300) f194 k187
  have k209 := kdNs (mR (mN (mR (mN (mR (mN (mR (mN (mR (mN (mR (mN (mR (mN (mR (mN (mR (mN (mR (mN (mR (mN (mR (mN (mI m a0 1 (1 : Int32)) a7 (aR 0 8)) a0 2 (some a7)) a17 (aR 0 8)) a0 4 (some a17)) a28 (aR 2 4096)) a0 6 (some a28)) a40 (aR 0 4096)) a0 7 (some a40)) a53 (aR 0 32768)) a0 8 (some a53)) a67 (aR 1 4096)) a0 9 (some a67)) a82 (aR 1 4096)) a0 10 (some a82)) a98 (aR 0 4096)) a0 11 (some a98)) a115 (aR 1 4096)) a0 12 (some a115)) a133 (aR 0 97)) a0 14 (some a133)) a152 (aR 0 776)) a0 15 (some a152)) a172 (aR 1 4096)) a0 17 (some a172)) a193 (aR 0 300)
  replace h := h _ rfl
  refine x_putR rfl dM_init_119 pM_53 k196 (fun o => by cases o <;> rfl) (fun o => by cases o <;> rfl) (n := 122) rfl ?_
  refine x_aload_n dM_init_122 rfl (n := 123) rfl ?_
  refine x_sipush (v := 300) dM_init_123 (by decide) (n := 126) rfl ?_
  obtain ⟨bc211, bs212, b213, b214, h⟩ := h
  refine x_newa (atype := .int) (t := 0) (N := 300) dM_init_126 w_87 (by decide) (by decide) (by decide) (n := 128) rfl (by decide) b213 b214 fun a215 f216 => ?_
  replace h := h a215 f216 _ rfl
  have k218 := kdN (k := aR 0 300) f216 k196
  have k219 := kdN (k := aR 0 300) f216 k197
  have k220 := kdN (k := aR 0 300) f216 k198
  have k221 := kdN (k := aR 0 300) f216 k199
  have k222 := kdN (k := aR 0 300) f216 k200
  have k223 := kdN (k := aR 0 300) f216 k201
  have k224 := kdN (k := aR 0 300) f216 k202
  have k225 := kdN (k := aR 0 300) f216 k203
  have k226 := kdN (k := aR 0 300) f216 k204
  have k227 := kdN (k := aR 0 300) f216 k205
  have k228 := kdN (k := aR 0 300) f216 k206
  have k229 := kdN (k := aR 0 300) f216 k207
  have k230 := kdN (k := aR 0 300) f216 k208
  have k231 := kdN (k := aR 0 300) f216 k209
  have k232 := kdNs (mR (mN (mR (mN (mR (mN (mR (mN (mR (mN (mR (mN (mR (mN (mR (mN (mR (mN (mR (mN (mR (mN (mR (mN (mR (mN (mI m a0 1 (1 : Int32)) a7 (aR 0 8)) a0 2 (some a7)) a17 (aR 0 8)) a0 4 (some a17)) a28 (aR 2 4096)) a0 6 (some a28)) a40 (aR 0 4096)) a0 7 (some a40)) a53 (aR 0 32768)) a0 8 (some a53)) a67 (aR 1 4096)) a0 9 (some a67)) a82 (aR 1 4096)) a0 10 (some a82)) a98 (aR 0 4096)) a0 11 (some a98)) a115 (aR 1 4096)) a0 12 (some a115)) a133 (aR 0 97)) a0 14 (some a133)) a152 (aR 0 776)) a0 15 (some a152)) a172 (aR 1 4096)) a0 17 (some a172)) a193 (aR 0 300)) a0 19 (some a193)) a215 (aR 0 300)
  replace h := h _ rfl
  refine x_putR rfl dM_init_128 pM_56 k218 (fun o => by cases o <;> rfl) (fun o => by cases o <;> rfl) (n := 131) rfl ?_
  refine x_aload_n dM_init_131 rfl (n := 132) rfl ?_
  refine x_bipush (v := 64) dM_init_132 (by decide) (n := 134) rfl ?_
  obtain ⟨bc234, bs235, b236, b237, h⟩ := h
  refine x_newa (atype := .boolean) (t := 1) (N := 64) dM_init_134 w_625 (by decide) (by decide) (by decide) (n := 136) rfl (by decide) b236 b237 fun a238 f239 => ?_
  replace h := h a238 f239 _ rfl
  have k241 := kdN (k := aR 1 64) f239 k218
  have k242 := kdN (k := aR 1 64) f239 k219
  have k243 := kdN (k := aR 1 64) f239 k220
  have k244 := kdN (k := aR 1 64) f239 k221
  have k245 := kdN (k := aR 1 64) f239 k222
  have k246 := kdN (k := aR 1 64) f239 k223
  have k247 := kdN (k := aR 1 64) f239 k224
  have k248 := kdN (k := aR 1 64) f239 k225
  have k249 := kdN (k := aR 1 64) f239 k226
  have k250 := kdN (k := aR 1 64) f239 k227
  have k251 := kdN (k := aR 1 64) f239 k228
  have k252 := kdN (k := aR 1 64) f239 k229
  have k253 := kdN (k := aR 1 64) f239 k230
  have k254 := kdN (k := aR 1 64) f239 k231
  have k255 := kdN (k := aR 1 64) f239 k232
  have k256 := kdNs (mR (mN (mR (mN (mR (mN (mR (mN (mR (mN (mR (mN (mR (mN (mR (mN (mR (mN (mR (mN (mR (mN (mR (mN (mR (mN (mR (mN (mI m a0 1 (1 : Int32)) a7 (aR 0 8)) a0 2 (some a7)) a17 (aR 0 8)) a0 4 (some a17)) a28 (aR 2 4096)) a0 6 (some a28)) a40 (aR 0 4096)) a0 7 (some a40)) a53 (aR 0 32768)) a0 8 (some a53)) a67 (aR 1 4096)) a0 9 (some a67)) a82 (aR 1 4096)) a0 10 (some a82)) a98 (aR 0 4096)) a0 11 (some a98)) a115 (aR 1 4096)) a0 12 (some a115)) a133 (aR 0 97)) a0 14 (some a133)) a152 (aR 0 776)) a0 15 (some a152)) a172 (aR 1 4096)) a0 17 (some a172)) a193 (aR 0 300)) a0 19 (some a193)) a215 (aR 0 300)) a0 21 (some a215)) a238 (aR 1 64)
  replace h := h _ rfl
  refine x_putR rfl dM_init_136 pM_59 k241 (fun o => by cases o <;> rfl) (fun o => by cases o <;> rfl) (n := 139) rfl ?_
  refine x_aload_n dM_init_139 rfl (n := 140) rfl ?_
  refine x_bipush (v := 13) dM_init_140 (by decide) (n := 142) rfl ?_
  obtain ⟨bc258, bs259, b260, b261, h⟩ := h
  refine x_newa (atype := .int) (t := 0) (N := 13) dM_init_142 w_87 (by decide) (by decide) (by decide) (n := 144) rfl (by decide) b260 b261 fun a262 f263 => ?_
  replace h := h a262 f263 _ rfl
  have k265 := kdN (k := aR 0 13) f263 k241
  have k266 := kdN (k := aR 0 13) f263 k242
  have k267 := kdN (k := aR 0 13) f263 k243
  have k268 := kdN (k := aR 0 13) f263 k244
  have k269 := kdN (k := aR 0 13) f263 k245
  have k270 := kdN (k := aR 0 13) f263 k246
  have k271 := kdN (k := aR 0 13) f263 k247
  have k272 := kdN (k := aR 0 13) f263 k248
  have k273 := kdN (k := aR 0 13) f263 k249
  have k274 := kdN (k := aR 0 13) f263 k250
  have k275 := kdN (k := aR 0 13) f263 k251
  have k276 := kdN (k := aR 0 13) f263 k252
  have k277 := kdN (k := aR 0 13) f263 k253
  have k278 := kdN (k := aR 0 13) f263 k254
  have k279 := kdN (k := aR 0 13) f263 k255
  have k280 := kdN (k := aR 0 13) f263 k256
  have k281 := kdNs (mR (mN (mR (mN (mR (mN (mR (mN (mR (mN (mR (mN (mR (mN (mR (mN (mR (mN (mR (mN (mR (mN (mR (mN (mR (mN (mR (mN (mR (mN (mI m a0 1 (1 : Int32)) a7 (aR 0 8)) a0 2 (some a7)) a17 (aR 0 8)) a0 4 (some a17)) a28 (aR 2 4096)) a0 6 (some a28)) a40 (aR 0 4096)) a0 7 (some a40)) a53 (aR 0 32768)) a0 8 (some a53)) a67 (aR 1 4096)) a0 9 (some a67)) a82 (aR 1 4096)) a0 10 (some a82)) a98 (aR 0 4096)) a0 11 (some a98)) a115 (aR 1 4096)) a0 12 (some a115)) a133 (aR 0 97)) a0 14 (some a133)) a152 (aR 0 776)) a0 15 (some a152)) a172 (aR 1 4096)) a0 17 (some a172)) a193 (aR 0 300)) a0 19 (some a193)) a215 (aR 0 300)) a0 21 (some a215)) a238 (aR 1 64)) a0 22 (some a238)) a262 (aR 0 13)
  replace h := h _ rfl
  refine x_putR rfl dM_init_144 pM_62 k265 (fun o => by cases o <;> rfl) (fun o => by cases o <;> rfl) (n := 147) rfl ?_
  exact x_vret dM_init_147 rfl h
set_option maxRecDepth 100000 in
set_option maxHeartbeats 4000000 in
theorem bM_thrown {l : Launch} {G : xG} {m : XM} {Q : XR → XM → Prop} {a0 : Nat} (hst : l.stackTraces = false)
    (h : kd m a0 = some (oB 5) ∧ Q (.inl (some (vI (gI m a0 0)))) m) :
    CC l G xM_thrown [vR (some a0)] m Q := by
  refine x_entry (by decide +kernel) rfl hst (Nat.le_of_ble_eq_true rfl) (L0 := [some (vR (some a0))]) rfl ?_
  refine x_aload_n dM_thrown_0 rfl (n := 1) rfl ?_
  obtain ⟨k1, h⟩ := h
  refine x_getI rfl dM_thrown_1 fM_65 k1 (n := 4) rfl ?_
  exact x_iret dM_thrown_4 rfl h
set_option maxRecDepth 100000 in
set_option maxHeartbeats 4000000 in
theorem bM_word {l : Launch} {G : xG} {m : XM} {Q : XR → XM → Prop} {a0 : Nat} {x1 : Int32} {x2 : Int32} (hst : l.stackTraces = false)
    (h : kd m a0 = some (oB 5) ∧ ∀ m2, m2 = mI m a0 0 (0 : Int32) → CC l G xM_within [vI x1, vI (0 : Int32), vI (7 : Int32)] m2 (kI (fun v4 m3 => ((¬ v4 = 0 → kd m3 a0 = some (oB 5) ∧ ∃ a6, gR m3 a0 2 = some a6 ∧ ∃ n9, kd m3 a6 = some (aR 0 n9) ∧ vp_in x1 n9 ∧ vp_in x1 n9 ∧ ∀ m12, m12 = mI m3 a6 x1.toNatClampNeg x2 → Q (.inl (some (vI (gI m3 a6 x1.toNatClampNeg)))) m12) ∧ (v4 = 0 → kd m3 a0 = some (oB 5) ∧ CC l G xM_fail [vR (some a0), vI (1 : Int32)] m3 (kI (fun v15 m14 => Q (.inl (some (vI v15))) m14) Q)))) Q)) :
    CC l G xM_word [vR (some a0), vI x1, vI x2] m Q := by
  refine x_entry (by decide +kernel) rfl hst (Nat.le_of_ble_eq_true rfl) (L0 := [some (vR (some a0)), some (vI x1), some (vI x2), none]) rfl ?_
  refine x_aload_n dM_word_0 rfl (n := 1) rfl ?_
  refine x_iconst (v := 0) dM_word_1 (by decide) (n := 2) rfl ?_
  obtain ⟨k1, h⟩ := h
  replace h := h _ rfl
  refine x_putI rfl dM_word_2 pM_65 k1 rfl rfl (n := 5) rfl ?_
  refine x_iload_n dM_word_5 rfl (n := 6) rfl ?_
  refine x_iconst (v := 0) dM_word_6 (by decide) (n := 7) rfl ?_
  refine x_bipush (v := 7) dM_word_7 (by decide) (n := 9) rfl ?_
  refine x_invS (m := (mI m a0 0 (0 : Int32))) dM_word_9 gM_word_9 (as := [vI x1, vI (0 : Int32), vI (7 : Int32)]) (st := []) rfl rfl (Nat.le_of_ble_eq_true rfl) (n := 12) rfl rfl rfl h (xBk.I fun v4 m3 h => ?_)
  obtain ⟨h, h'⟩ := h
  refine x_if_ne (tgt := 21) dM_word_12 rfl (n := 15) rfl (fun c16 => ?_) (fun c16 => ?_)
  · replace h := h c16
    refine x_aload_n dM_word_21 rfl (n := 22) rfl ?_
    obtain ⟨k5, h⟩ := h
    refine x_getR rfl dM_word_22 fM_13 k5 (n := 25) rfl ?_
    refine x_iload_n dM_word_25 rfl (n := 26) rfl ?_
    obtain ⟨a6, e7, h⟩ := h
    obtain ⟨n9, k8, h⟩ := h
    obtain ⟨c10, h⟩ := h
    refine x_iald e7 dM_word_26 k8 c10 (n := 27) rfl ?_
    refine x_istore_n dM_word_27 (by decide) (L' := [some (vR (some a0)), some (vI x1), some (vI x2), some (vI (gI m3 a6 x1.toNatClampNeg))]) rfl (n := 28) rfl ?_
    refine x_aload_n dM_word_28 rfl (n := 29) rfl ?_
    refine x_getR rfl dM_word_29 fM_13 k5 (n := 32) rfl ?_
    refine x_iload_n dM_word_32 rfl (n := 33) rfl ?_
    refine x_iload_n dM_word_33 rfl (n := 34) rfl ?_
    obtain ⟨c11, h⟩ := h
    replace h := h _ rfl
    refine x_iast e7 dM_word_34 k8 c11 (n := 35) rfl ?_
    refine x_iload_n dM_word_35 rfl (n := 36) rfl ?_
    exact x_iret dM_word_36 rfl h
  · replace h := h' c16
    refine x_aload_n dM_word_15 rfl (n := 16) rfl ?_
    refine x_iconst (v := 1) dM_word_16 (by decide) (n := 17) rfl ?_
    obtain ⟨k13, h⟩ := h
    refine x_invV (m := m3) rfl dM_word_17 gM_word_17 (as := [vI (1 : Int32)]) (st := []) rfl rfl k13 rfl rfl (Nat.le_of_ble_eq_true rfl) (n := 20) rfl rfl rfl h (xBk.I fun v15 m14 h => ?_)
    exact x_iret dM_word_20 rfl h
set_option maxRecDepth 100000 in
set_option maxHeartbeats 4000000 in
theorem bM_within {l : Launch} {G : xG} {m : XM} {Q : XR → XM → Prop} {x0 : Int32} {x1 : Int32} {x2 : Int32} (hst : l.stackTraces = false)
    (h : ((x0 < x1 → Q (.inl (some (vI (0 : Int32)))) m) ∧ (¬ x0 < x1 → ((x2 < x0 → Q (.inl (some (vI (0 : Int32)))) m) ∧ (¬ x2 < x0 → Q (.inl (some (vI (1 : Int32)))) m))))) :
    CC l G xM_within [vI x0, vI x1, vI x2] m Q := by
  refine x_entry (by decide +kernel) rfl hst (Nat.le_of_ble_eq_true rfl) (L0 := [some (vI x0), some (vI x1), some (vI x2)]) rfl ?_
  refine x_iload_n dM_within_0 rfl (n := 1) rfl ?_
  refine x_iload_n dM_within_1 rfl (n := 2) rfl ?_
  obtain ⟨h, h'⟩ := h
  refine x_icmp_lt (tgt := 14) dM_within_2 rfl (n := 5) rfl (fun c2 => ?_) (fun c2 => ?_)
  · replace h := h c2
    refine x_iconst (v := 0) dM_within_14 (by decide) (n := 15) rfl ?_
    exact x_zret dM_within_15 rfl (by decide) h
  · replace h := h' c2
    refine x_iload_n dM_within_5 rfl (n := 6) rfl ?_
    refine x_iload_n dM_within_6 rfl (n := 7) rfl ?_
    obtain ⟨h, h'⟩ := h
    refine x_icmp_gt (tgt := 14) dM_within_7 rfl (n := 10) rfl (fun c1 => ?_) (fun c1 => ?_)
    · replace h := h c1
      refine x_iconst (v := 0) dM_within_14 (by decide) (n := 15) rfl ?_
      exact x_zret dM_within_15 rfl (by decide) h
    · replace h := h' c1
      refine x_iconst (v := 1) dM_within_10 (by decide) (n := 11) rfl ?_
      refine x_goto (tgt := 15) dM_within_11 rfl ?_
      exact x_zret dM_within_15 rfl (by decide) h
set_option maxRecDepth 100000 in
set_option maxHeartbeats 4000000 in
theorem bM_fail {l : Launch} {G : xG} {m : XM} {Q : XR → XM → Prop} {a0 : Nat} {x1 : Int32} (hst : l.stackTraces = false)
    (h : kd m a0 = some (oB 5) ∧ ∀ m2, m2 = mI m a0 0 x1 → Q (.inl (some (vI (0 : Int32)))) m2) :
    CC l G xM_fail [vR (some a0), vI x1] m Q := by
  refine x_entry (by decide +kernel) rfl hst (Nat.le_of_ble_eq_true rfl) (L0 := [some (vR (some a0)), some (vI x1)]) rfl ?_
  refine x_aload_n dM_fail_0 rfl (n := 1) rfl ?_
  refine x_iload_n dM_fail_1 rfl (n := 2) rfl ?_
  obtain ⟨k1, h⟩ := h
  replace h := h _ rfl
  refine x_putI rfl dM_fail_2 pM_65 k1 rfl rfl (n := 5) rfl ?_
  refine x_iconst (v := 0) dM_fail_5 (by decide) (n := 6) rfl ?_
  exact x_iret dM_fail_6 rfl h
set_option maxRecDepth 100000 in
set_option maxHeartbeats 4000000 in
theorem bM_put_34 {l : Launch} {G : xG} {m : XM} {bc bs : Nat} {Q : XR → XM → Prop} {a0 : Nat} {x1 : Int64} {x3 : Int32}
    (h : kd m a0 = some (oB 5) ∧ CC l G xM_wordsOf [vR (some a0), vI (96 : Int32)] m (kI (fun v3 m2 => ((((v3 + x3) + (3 : Int32)) ≤ (32 : Int32) → kd m2 a0 = some (oB 5) ∧ CC l G xM_freeNumber [vR (some a0)] m2 (kI (fun v6 m5 => kd m5 a0 = some (oB 5) ∧ ∃ a8, gR m5 a0 6 = some a8 ∧ ∃ n11, kd m5 a8 = some (aR 2 n11) ∧ vp_in v6 n11 ∧ ∀ m13, m13 = mL m5 a8 v6.toNatClampNeg x1 → ∃ a14, gR m5 a0 7 = some a14 ∧ ∃ n17, kd m5 a14 = some (aR 0 n17) ∧ vp_in v6 n17 ∧ ∀ m19, m19 = mI m13 a14 v6.toNatClampNeg x3 → WW l G xM_put 81 [some (vR (some a0)), some (vL x1), none, some (vI x3), some (vI v6), some (vI (0 : Int32))] [] m19 bc bs Q) Q)) ∧ (¬ ((v3 + x3) + (3 : Int32)) ≤ (32 : Int32) → kd m2 a0 = some (oB 5) ∧ CC l G xM_makeRoom [vR (some a0)] m2 (kV (fun m21 => WW l G xM_put 34 [some (vR (some a0)), some (vL x1), none, some (vI x3), none, none] [] m21 bc bs Q) Q)))) Q)) :
    WW l G xM_put 34 [some (vR (some a0)), some (vL x1), none, some (vI x3), none, none] [] m bc bs Q := by
  refine x_aload_n dM_put_34 rfl (n := 35) rfl ?_
  refine x_bipush (v := 96) dM_put_35 (by decide) (n := 37) rfl ?_
  obtain ⟨k1, h⟩ := h
  refine x_invV (m := m) rfl dM_put_37 gM_put_37 (as := [vI (96 : Int32)]) (st := []) rfl rfl k1 rfl rfl (Nat.le_of_ble_eq_true rfl) (n := 40) rfl rfl rfl h (xBk.I fun v3 m2 h => ?_)
  refine x_iload_n dM_put_40 rfl (n := 41) rfl ?_
  refine x_iadd dM_put_41 (n := 42) rfl ?_
  refine x_iconst (v := 3) dM_put_42 (by decide) (n := 43) rfl ?_
  refine x_iadd dM_put_43 (n := 44) rfl ?_
  refine x_bipush (v := 32) dM_put_44 (by decide) (n := 46) rfl ?_
  obtain ⟨h, h'⟩ := h
  refine x_icmp_le (tgt := 56) dM_put_46 rfl (n := 49) rfl (fun c22 => ?_) (fun c22 => ?_)
  · replace h := h c22
    refine x_aload_n dM_put_56 rfl (n := 57) rfl ?_
    obtain ⟨k4, h⟩ := h
    refine x_invV (m := m2) rfl dM_put_57 gM_put_57 (as := []) (st := []) rfl rfl k4 rfl rfl (Nat.le_of_ble_eq_true rfl) (n := 60) rfl rfl rfl h (xBk.I fun v6 m5 h => ?_)
    refine x_istore dM_put_60 (by decide) (L' := [some (vR (some a0)), some (vL x1), none, some (vI x3), some (vI v6), none]) rfl (n := 62) rfl ?_
    refine x_aload_n dM_put_62 rfl (n := 63) rfl ?_
    obtain ⟨k7, h⟩ := h
    refine x_getR rfl dM_put_63 fM_20 k7 (n := 66) rfl ?_
    refine x_iload dM_put_66 rfl (n := 68) rfl ?_
    refine x_lload_n dM_put_68 rfl (n := 69) rfl ?_
    obtain ⟨a8, e9, h⟩ := h
    obtain ⟨n11, k10, h⟩ := h
    obtain ⟨c12, h⟩ := h
    replace h := h _ rfl
    refine x_last e9 dM_put_69 k10 c12 (n := 70) rfl ?_
    refine x_aload_n dM_put_70 rfl (n := 71) rfl ?_
    refine x_getR rfl dM_put_71 fM_24 k7 (n := 74) rfl ?_
    refine x_iload dM_put_74 rfl (n := 76) rfl ?_
    refine x_iload_n dM_put_76 rfl (n := 77) rfl ?_
    obtain ⟨a14, e15, h⟩ := h
    obtain ⟨n17, k16, h⟩ := h
    obtain ⟨c18, h⟩ := h
    replace h := h _ rfl
    refine x_iast e15 dM_put_77 k16 c18 (n := 78) rfl ?_
    refine x_iconst (v := 0) dM_put_78 (by decide) (n := 79) rfl ?_
    refine x_istore dM_put_79 (by decide) (L' := [some (vR (some a0)), some (vL x1), none, some (vI x3), some (vI v6), some (vI (0 : Int32))]) rfl (n := 81) rfl ?_
    exact h
  · replace h := h' c22
    refine x_aload_n dM_put_49 rfl (n := 50) rfl ?_
    obtain ⟨k20, h⟩ := h
    refine x_invV (m := m2) rfl dM_put_50 gM_put_50 (as := []) (st := []) rfl rfl k20 rfl rfl (Nat.le_of_ble_eq_true rfl) (n := 53) rfl rfl rfl h (xBk.V fun m21 h => ?_)
    refine x_goto (tgt := 34) dM_put_53 rfl ?_
    exact h
set_option maxRecDepth 100000 in
set_option maxHeartbeats 4000000 in
theorem bM_put_81 {l : Launch} {G : xG} {m : XM} {bc bs : Nat} {Q : XR → XM → Prop} {a0 : Nat} {x1 : Int64} {x3 : Int32} {x4 : Int32} {x5 : Int32}
    (h : (((8 : Int32) ≤ x5 → kd m a0 = some (oB 5) ∧ ∃ a2, gR m a0 9 = some a2 ∧ ∃ n5, kd m a2 = some (aR 1 n5) ∧ vp_in x4 n5 ∧ ∀ m7, m7 = mI m a2 x4.toNatClampNeg (0 : Int32) → ∃ a8, gR m a0 12 = some a8 ∧ ∃ n11, kd m a8 = some (aR 1 n11) ∧ vp_in x4 n11 ∧ ∀ m13, m13 = mI m7 a8 x4.toNatClampNeg (0 : Int32) → CC l G xM_enter [vR (some a0), vI x4] m13 (kV (fun m14 => Q (.inl none) m14) Q)) ∧ (¬ (8 : Int32) ≤ x5 → kd m a0 = some (oB 5) ∧ ((x3 ≤ x5 → ∃ a16, gR m a0 8 = some a16 ∧ ∃ n19, kd m a16 = some (aR 0 n19) ∧ vp_in (((8 : Int32) * x4) + x5) n19 ∧ ∀ m21, m21 = mI m a16 (((8 : Int32) * x4) + x5).toNatClampNeg (0 : Int32) → WW l G xM_put 81 [some (vR (some a0)), some (vL x1), none, some (vI x3), some (vI x4), some (vI (x5 + 1))] [] m21 bc bs Q) ∧ (¬ x3 ≤ x5 → ∃ a22, gR m a0 2 = some a22 ∧ ∃ n25, kd m a22 = some (aR 0 n25) ∧ vp_in x5 n25 ∧ ∃ a27, gR m a0 8 = some a27 ∧ ∃ n30, kd m a27 = some (aR 0 n30) ∧ vp_in (((8 : Int32) * x4) + x5) n30 ∧ ∀ m32, m32 = mI m a27 (((8 : Int32) * x4) + x5).toNatClampNeg (gI m a22 x5.toNatClampNeg) → WW l G xM_put 81 [some (vR (some a0)), some (vL x1), none, some (vI x3), some (vI x4), some (vI (x5 + 1))] [] m32 bc bs Q))))) :
    WW l G xM_put 81 [some (vR (some a0)), some (vL x1), none, some (vI x3), some (vI x4), some (vI x5)] [] m bc bs Q := by
  refine x_iload dM_put_81 rfl (n := 83) rfl ?_
  refine x_bipush (v := 8) dM_put_83 (by decide) (n := 85) rfl ?_
  obtain ⟨h, h'⟩ := h
  refine x_icmp_ge (tgt := 124) dM_put_85 rfl (n := 88) rfl (fun c34 => ?_) (fun c34 => ?_)
  · replace h := h c34
    refine x_aload_n dM_put_124 rfl (n := 125) rfl ?_
    obtain ⟨k1, h⟩ := h
    refine x_getR rfl dM_put_125 fM_31 k1 (n := 128) rfl ?_
    refine x_iload dM_put_128 rfl (n := 130) rfl ?_
    refine x_iconst (v := 0) dM_put_130 (by decide) (n := 131) rfl ?_
    obtain ⟨a2, e3, h⟩ := h
    obtain ⟨n5, k4, h⟩ := h
    obtain ⟨c6, h⟩ := h
    replace h := h _ rfl
    refine x_zast e3 dM_put_131 k4 c6 (by decide) (n := 132) rfl ?_
    refine x_aload_n dM_put_132 rfl (n := 133) rfl ?_
    refine x_getR rfl dM_put_133 fM_41 k1 (n := 136) rfl ?_
    refine x_iload dM_put_136 rfl (n := 138) rfl ?_
    refine x_iconst (v := 0) dM_put_138 (by decide) (n := 139) rfl ?_
    obtain ⟨a8, e9, h⟩ := h
    obtain ⟨n11, k10, h⟩ := h
    obtain ⟨c12, h⟩ := h
    replace h := h _ rfl
    refine x_zast e9 dM_put_139 k10 c12 (by decide) (n := 140) rfl ?_
    refine x_aload_n dM_put_140 rfl (n := 141) rfl ?_
    refine x_iload dM_put_141 rfl (n := 143) rfl ?_
    refine x_invV (m := (mI (mI m a2 x4.toNatClampNeg (0 : Int32)) a8 x4.toNatClampNeg (0 : Int32))) rfl dM_put_143 gM_put_143 (as := [vI x4]) (st := []) rfl rfl k1 rfl rfl (Nat.le_of_ble_eq_true rfl) (n := 146) rfl rfl rfl h (xBk.V fun m14 h => ?_)
    exact x_vret dM_put_146 rfl h
  · replace h := h' c34
    refine x_aload_n dM_put_88 rfl (n := 89) rfl ?_
    obtain ⟨k15, h⟩ := h
    refine x_getR rfl dM_put_89 fM_28 k15 (n := 92) rfl ?_
    refine x_bipush (v := 8) dM_put_92 (by decide) (n := 94) rfl ?_
    refine x_iload dM_put_94 rfl (n := 96) rfl ?_
    refine x_imul dM_put_96 (n := 97) rfl ?_
    refine x_iload dM_put_97 rfl (n := 99) rfl ?_
    refine x_iadd dM_put_99 (n := 100) rfl ?_
    refine x_iload dM_put_100 rfl (n := 102) rfl ?_
    refine x_iload_n dM_put_102 rfl (n := 103) rfl ?_
    obtain ⟨h, h'⟩ := h
    refine x_icmp_ge (tgt := 116) dM_put_103 rfl (n := 106) rfl (fun c33 => ?_) (fun c33 => ?_)
    · replace h := h c33
      refine x_iconst (v := 0) dM_put_116 (by decide) (n := 117) rfl ?_
      obtain ⟨a16, e17, h⟩ := h
      obtain ⟨n19, k18, h⟩ := h
      obtain ⟨c20, h⟩ := h
      replace h := h _ rfl
      refine x_iast e17 dM_put_117 k18 c20 (n := 118) rfl ?_
      refine x_iinc (v := x5 + 1) dM_put_118 rfl rfl (by decide) (L' := [some (vR (some a0)), some (vL x1), none, some (vI x3), some (vI x4), some (vI (x5 + 1))]) rfl (n := 121) rfl ?_
      refine x_goto (tgt := 81) dM_put_121 rfl ?_
      exact h
    · replace h := h' c33
      refine x_aload_n dM_put_106 rfl (n := 107) rfl ?_
      refine x_getR rfl dM_put_107 fM_13 k15 (n := 110) rfl ?_
      refine x_iload dM_put_110 rfl (n := 112) rfl ?_
      obtain ⟨a22, e23, h⟩ := h
      obtain ⟨n25, k24, h⟩ := h
      obtain ⟨c26, h⟩ := h
      refine x_iald e23 dM_put_112 k24 c26 (n := 113) rfl ?_
      refine x_goto (tgt := 117) dM_put_113 rfl ?_
      obtain ⟨a27, e28, h⟩ := h
      obtain ⟨n30, k29, h⟩ := h
      obtain ⟨c31, h⟩ := h
      replace h := h _ rfl
      refine x_iast e28 dM_put_117 k29 c31 (n := 118) rfl ?_
      refine x_iinc (v := x5 + 1) dM_put_118 rfl rfl (by decide) (L' := [some (vR (some a0)), some (vL x1), none, some (vI x3), some (vI x4), some (vI (x5 + 1))]) rfl (n := 121) rfl ?_
      refine x_goto (tgt := 81) dM_put_121 rfl ?_
      exact h
set_option maxRecDepth 100000 in
set_option maxHeartbeats 4000000 in
theorem bM_put {l : Launch} {G : xG} {m : XM} {Q : XR → XM → Prop} {a0 : Nat} {x1 : Int64} {x3 : Int32} (hst : l.stackTraces = false)
    (h : kd m a0 = some (oB 5) ∧ CC l G xM_works [vR (some a0)] m (kI (fun v3 m2 => ((¬ v3 = 0 → CC l G xM_within [vI x3, vI (1 : Int32), vI (8 : Int32)] m2 (kI (fun v5 m4 => ((¬ v5 = 0 → kd m4 a0 = some (oB 5) ∧ ∀ m7, m7 = mI m4 a0 18 (0 : Int32) → ∀ m8, m8 = mI m7 a0 20 (0 : Int32) → WW l G xM_put 34 [some (vR (some a0)), some (vL x1), none, some (vI x3), none, none] [] m8 0 0 Q) ∧ (v5 = 0 → kd m4 a0 = some (oB 5) ∧ ∀ m10, m10 = mI m4 a0 0 (2 : Int32) → Q (.inl none) m10))) Q)) ∧ (v3 = 0 → Q (.inl none) m2))) Q)) :
    CC l G xM_put [vR (some a0), vL x1, vI x3] m Q := by
  refine x_entry (by decide +kernel) rfl hst (Nat.le_of_ble_eq_true rfl) (L0 := [some (vR (some a0)), some (vL x1), none, some (vI x3), none, none]) rfl ?_
  refine x_aload_n dM_put_0 rfl (n := 1) rfl ?_
  obtain ⟨k1, h⟩ := h
  refine x_invV (m := m) rfl dM_put_1 gM_put_1 (as := []) (st := []) rfl rfl k1 rfl rfl (Nat.le_of_ble_eq_true rfl) (n := 4) rfl rfl rfl h (xBk.I fun v3 m2 h => ?_)
  obtain ⟨h, h'⟩ := h
  refine x_if_ne (tgt := 8) dM_put_4 rfl (n := 7) rfl (fun c12 => ?_) (fun c12 => ?_)
  · replace h := h c12
    refine x_iload_n dM_put_8 rfl (n := 9) rfl ?_
    refine x_iconst (v := 1) dM_put_9 (by decide) (n := 10) rfl ?_
    refine x_bipush (v := 8) dM_put_10 (by decide) (n := 12) rfl ?_
    refine x_invS (m := m2) dM_put_12 gM_put_12 (as := [vI x3, vI (1 : Int32), vI (8 : Int32)]) (st := []) rfl rfl (Nat.le_of_ble_eq_true rfl) (n := 15) rfl rfl rfl h (xBk.I fun v5 m4 h => ?_)
    obtain ⟨h, h'⟩ := h
    refine x_if_ne (tgt := 24) dM_put_15 rfl (n := 18) rfl (fun c11 => ?_) (fun c11 => ?_)
    · replace h := h c11
      refine x_aload_n dM_put_24 rfl (n := 25) rfl ?_
      refine x_iconst (v := 0) dM_put_25 (by decide) (n := 26) rfl ?_
      obtain ⟨k6, h⟩ := h
      replace h := h _ rfl
      refine x_putI rfl dM_put_26 pM_83 k6 rfl rfl (n := 29) rfl ?_
      refine x_aload_n dM_put_29 rfl (n := 30) rfl ?_
      refine x_iconst (v := 0) dM_put_30 (by decide) (n := 31) rfl ?_
      replace h := h _ rfl
      refine x_putI rfl dM_put_31 pM_86 k6 rfl rfl (n := 34) rfl ?_
      exact h
    · replace h := h' c11
      refine x_aload_n dM_put_18 rfl (n := 19) rfl ?_
      refine x_iconst (v := 2) dM_put_19 (by decide) (n := 20) rfl ?_
      obtain ⟨k9, h⟩ := h
      replace h := h _ rfl
      refine x_putI rfl dM_put_20 pM_65 k9 rfl rfl (n := 23) rfl ?_
      exact x_vret dM_put_23 rfl h
  · replace h := h' c12
    exact x_vret dM_put_7 rfl h
set_option maxRecDepth 100000 in
set_option maxHeartbeats 4000000 in
theorem bM_works {l : Launch} {G : xG} {m : XM} {Q : XR → XM → Prop} {a0 : Nat} (hst : l.stackTraces = false)
    (h : kd m a0 = some (oB 5) ∧ (((gI m a0 1) = 0 → ∀ m2, m2 = mI m a0 0 (1 : Int32) → ((gI m2 a0 1 = 0 ∨ gI m2 a0 1 = 1) ∧ Q (.inl (some (vI (gI m2 a0 1)))) m2)) ∧ (¬ (gI m a0 1) = 0 → ∀ m3, m3 = mI m a0 0 (0 : Int32) → ((gI m3 a0 1 = 0 ∨ gI m3 a0 1 = 1) ∧ Q (.inl (some (vI (gI m3 a0 1)))) m3)))) :
    CC l G xM_works [vR (some a0)] m Q := by
  refine x_entry (by decide +kernel) rfl hst (Nat.le_of_ble_eq_true rfl) (L0 := [some (vR (some a0))]) rfl ?_
  refine x_aload_n dM_works_0 rfl (n := 1) rfl ?_
  refine x_aload_n dM_works_1 rfl (n := 2) rfl ?_
  obtain ⟨k1, h⟩ := h
  refine x_getI rfl dM_works_2 fM_7 k1 (n := 5) rfl ?_
  obtain ⟨h, h'⟩ := h
  refine x_if_eq (tgt := 12) dM_works_5 rfl (n := 8) rfl (fun c4 => ?_) (fun c4 => ?_)
  · replace h := h c4
    refine x_iconst (v := 1) dM_works_12 (by decide) (n := 13) rfl ?_
    replace h := h _ rfl
    refine x_putI rfl dM_works_13 pM_65 k1 rfl rfl (n := 16) rfl ?_
    refine x_aload_n dM_works_16 rfl (n := 17) rfl ?_
    refine x_getI rfl dM_works_17 fM_7 k1 (n := 20) rfl ?_
    exact x_zret dM_works_20 rfl (nar_b h.1) h.2
  · replace h := h' c4
    refine x_iconst (v := 0) dM_works_8 (by decide) (n := 9) rfl ?_
    refine x_goto (tgt := 13) dM_works_9 rfl ?_
    replace h := h _ rfl
    refine x_putI rfl dM_works_13 pM_65 k1 rfl rfl (n := 16) rfl ?_
    refine x_aload_n dM_works_16 rfl (n := 17) rfl ?_
    refine x_getI rfl dM_works_17 fM_7 k1 (n := 20) rfl ?_
    exact x_zret dM_works_20 rfl (nar_b h.1) h.2
set_option maxRecDepth 100000 in
set_option maxHeartbeats 4000000 in
theorem bM_wordsOf_4 {l : Launch} {G : xG} {m : XM} {bc bs : Nat} {Q : XR → XM → Prop} {a0 : Nat} {x1 : Int32} {x2 : Int32} {x3 : Int32}
    (h : kd m a0 = some (oB 5) ∧ ∃ a2, gR m a0 14 = some a2 ∧ ∃ n5, kd m a2 = some (aR 0 n5) ∧ vp_in x1 n5 ∧ (((gI m a2 x1.toNatClampNeg) ≤ x3 → Q (.inl (some (vI x2))) m) ∧ (¬ (gI m a2 x1.toNatClampNeg) ≤ x3 → ∃ a7, gR m a0 15 = some a7 ∧ ∃ n10, kd m a7 = some (aR 0 n10) ∧ vp_in (((8 : Int32) * x1) + x3) n10 ∧ CC l G xM_need [vR (some a0), vI (gI m a7 (((8 : Int32) * x1) + x3).toNatClampNeg)] m (kI (fun v13 m12 => WW l G xM_wordsOf 4 [some (vR (some a0)), some (vI x1), some (vI (x2 + v13)), some (vI (x3 + 1))] [] m12 bc bs Q) Q)))) :
    WW l G xM_wordsOf 4 [some (vR (some a0)), some (vI x1), some (vI x2), some (vI x3)] [] m bc bs Q := by
  refine x_iload_n dM_wordsOf_4 rfl (n := 5) rfl ?_
  refine x_aload_n dM_wordsOf_5 rfl (n := 6) rfl ?_
  obtain ⟨k1, h⟩ := h
  refine x_getR rfl dM_wordsOf_6 fM_44 k1 (n := 9) rfl ?_
  refine x_iload_n dM_wordsOf_9 rfl (n := 10) rfl ?_
  obtain ⟨a2, e3, h⟩ := h
  obtain ⟨n5, k4, h⟩ := h
  obtain ⟨c6, h⟩ := h
  refine x_iald e3 dM_wordsOf_10 k4 c6 (n := 11) rfl ?_
  obtain ⟨h, h'⟩ := h
  refine x_icmp_ge (tgt := 38) dM_wordsOf_11 rfl (n := 14) rfl (fun c14 => ?_) (fun c14 => ?_)
  · replace h := h c14
    refine x_iload_n dM_wordsOf_38 rfl (n := 39) rfl ?_
    exact x_iret dM_wordsOf_39 rfl h
  · replace h := h' c14
    refine x_iload_n dM_wordsOf_14 rfl (n := 15) rfl ?_
    refine x_aload_n dM_wordsOf_15 rfl (n := 16) rfl ?_
    refine x_aload_n dM_wordsOf_16 rfl (n := 17) rfl ?_
    refine x_getR rfl dM_wordsOf_17 fM_47 k1 (n := 20) rfl ?_
    refine x_bipush (v := 8) dM_wordsOf_20 (by decide) (n := 22) rfl ?_
    refine x_iload_n dM_wordsOf_22 rfl (n := 23) rfl ?_
    refine x_imul dM_wordsOf_23 (n := 24) rfl ?_
    refine x_iload_n dM_wordsOf_24 rfl (n := 25) rfl ?_
    refine x_iadd dM_wordsOf_25 (n := 26) rfl ?_
    obtain ⟨a7, e8, h⟩ := h
    obtain ⟨n10, k9, h⟩ := h
    obtain ⟨c11, h⟩ := h
    refine x_iald e8 dM_wordsOf_26 k9 c11 (n := 27) rfl ?_
    refine x_invV (m := m) rfl dM_wordsOf_27 gM_wordsOf_27 (as := [vI (gI m a7 (((8 : Int32) * x1) + x3).toNatClampNeg)]) (st := [vI x2]) rfl rfl k1 rfl rfl (Nat.le_of_ble_eq_true rfl) (n := 30) rfl rfl rfl h (xBk.I fun v13 m12 h => ?_)
    refine x_iadd dM_wordsOf_30 (n := 31) rfl ?_
    refine x_istore_n dM_wordsOf_31 (by decide) (L' := [some (vR (some a0)), some (vI x1), some (vI (x2 + v13)), some (vI x3)]) rfl (n := 32) rfl ?_
    refine x_iinc (v := x3 + 1) dM_wordsOf_32 rfl rfl (by decide) (L' := [some (vR (some a0)), some (vI x1), some (vI (x2 + v13)), some (vI (x3 + 1))]) rfl (n := 35) rfl ?_
    refine x_goto (tgt := 4) dM_wordsOf_35 rfl ?_
    exact h
set_option maxRecDepth 100000 in
set_option maxHeartbeats 4000000 in
theorem bM_wordsOf {l : Launch} {G : xG} {m : XM} {Q : XR → XM → Prop} {a0 : Nat} {x1 : Int32} (hst : l.stackTraces = false)
    (h : WW l G xM_wordsOf 4 [some (vR (some a0)), some (vI x1), some (vI (0 : Int32)), some (vI (0 : Int32))] [] m 0 0 Q) :
    CC l G xM_wordsOf [vR (some a0), vI x1] m Q := by
  refine x_entry (by decide +kernel) rfl hst (Nat.le_of_ble_eq_true rfl) (L0 := [some (vR (some a0)), some (vI x1), none, none]) rfl ?_
  refine x_iconst (v := 0) dM_wordsOf_0 (by decide) (n := 1) rfl ?_
  refine x_istore_n dM_wordsOf_1 (by decide) (L' := [some (vR (some a0)), some (vI x1), some (vI (0 : Int32)), none]) rfl (n := 2) rfl ?_
  refine x_iconst (v := 0) dM_wordsOf_2 (by decide) (n := 3) rfl ?_
  refine x_istore_n dM_wordsOf_3 (by decide) (L' := [some (vR (some a0)), some (vI x1), some (vI (0 : Int32)), some (vI (0 : Int32))]) rfl (n := 4) rfl ?_
  exact h
set_option maxRecDepth 100000 in
set_option maxHeartbeats 4000000 in
theorem bM_need {l : Launch} {G : xG} {m : XM} {Q : XR → XM → Prop} {a0 : Nat} {x1 : Int32} (hst : l.stackTraces = false)
    (h : kd m a0 = some (oB 5) ∧ ∃ a2, gR m a0 7 = some a2 ∧ ∃ n5, kd m a2 = some (aR 0 n5) ∧ vp_in x1 n5 ∧ Q (.inl (some (vI ((gI m a2 x1.toNatClampNeg) + (3 : Int32))))) m) :
    CC l G xM_need [vR (some a0), vI x1] m Q := by
  refine x_entry (by decide +kernel) rfl hst (Nat.le_of_ble_eq_true rfl) (L0 := [some (vR (some a0)), some (vI x1)]) rfl ?_
  refine x_aload_n dM_need_0 rfl (n := 1) rfl ?_
  obtain ⟨k1, h⟩ := h
  refine x_getR rfl dM_need_1 fM_24 k1 (n := 4) rfl ?_
  refine x_iload_n dM_need_4 rfl (n := 5) rfl ?_
  obtain ⟨a2, e3, h⟩ := h
  obtain ⟨n5, k4, h⟩ := h
  obtain ⟨c6, h⟩ := h
  refine x_iald e3 dM_need_5 k4 c6 (n := 6) rfl ?_
  refine x_iconst (v := 3) dM_need_6 (by decide) (n := 7) rfl ?_
  refine x_iadd dM_need_7 (n := 8) rfl ?_
  exact x_iret dM_need_8 rfl h
set_option maxRecDepth 100000 in
set_option maxHeartbeats 4000000 in
theorem bM_makeRoom_39 {l : Launch} {G : xG} {m : XM} {bc bs : Nat} {Q : XR → XM → Prop} {a0 : Nat} {x1 : Int32}
    (h : kd m a0 = some (oB 5) ∧ CC l G xM_writeOpen [vR (some a0)] m (kV (fun m2 => kd m2 a0 = some (oB 5) ∧ CC l G xM_sortAgain [vR (some a0)] m2 (kV (fun m4 => WW l G xM_makeRoom 54 [some (vR (some a0)), some (vI x1), some (vI (gI m2 a0 20)), some (vI (0 : Int32))] [] m4 bc bs Q) Q)) Q)) :
    WW l G xM_makeRoom 39 [some (vR (some a0)), some (vI x1), none, none] [] m bc bs Q := by
  refine x_aload_n dM_makeRoom_39 rfl (n := 40) rfl ?_
  obtain ⟨k1, h⟩ := h
  refine x_invV (m := m) rfl dM_makeRoom_40 gM_makeRoom_40 (as := []) (st := []) rfl rfl k1 rfl rfl (Nat.le_of_ble_eq_true rfl) (n := 43) rfl rfl rfl h (xBk.V fun m2 h => ?_)
  refine x_aload_n dM_makeRoom_43 rfl (n := 44) rfl ?_
  obtain ⟨k3, h⟩ := h
  refine x_getI rfl dM_makeRoom_44 fM_86 k3 (n := 47) rfl ?_
  refine x_istore_n dM_makeRoom_47 (by decide) (L' := [some (vR (some a0)), some (vI x1), some (vI (gI (mI m a0 20 (0 : Int32)) a0 20)), none]) rfl (n := 48) rfl ?_
  refine x_aload_n dM_makeRoom_48 rfl (n := 49) rfl ?_
  refine x_invV (m := (mI m a0 20 (0 : Int32))) rfl dM_makeRoom_49 gM_makeRoom_49 (as := []) (st := []) rfl rfl k3 rfl rfl (Nat.le_of_ble_eq_true rfl) (n := 52) rfl rfl rfl h (xBk.V fun m4 h => ?_)
  refine x_iconst (v := 0) dM_makeRoom_52 (by decide) (n := 53) rfl ?_
  refine x_istore_n dM_makeRoom_53 (by decide) (L' := [some (vR (some a0)), some (vI x1), some (vI (gI (mI m a0 20 (0 : Int32)) a0 20)), some (vI (0 : Int32))]) rfl (n := 54) rfl ?_
  exact h
set_option maxRecDepth 100000 in
set_option maxHeartbeats 4000000 in
theorem bM_makeRoom_54 {l : Launch} {G : xG} {m : XM} {bc bs : Nat} {Q : XR → XM → Prop} {a0 : Nat} {x1 : Int32} {x2 : Int32} {x3 : Int32}
    (h : ((x2 ≤ x3 → kd m a0 = some (oB 5) ∧ ∀ m2, m2 = mI m a0 20 (0 : Int32) → Q (.inl none) m2) ∧ (¬ x2 ≤ x3 → kd m a0 = some (oB 5) ∧ ∃ a4, gR m a0 21 = some a4 ∧ ∃ n7, kd m a4 = some (aR 0 n7) ∧ vp_in x3 n7 ∧ CC l G xM_putAnew [vR (some a0), vI (gI m a4 x3.toNatClampNeg)] m (kV (fun m9 => WW l G xM_makeRoom 54 [some (vR (some a0)), some (vI x1), some (vI x2), some (vI (x3 + 1))] [] m9 bc bs Q) Q)))) :
    WW l G xM_makeRoom 54 [some (vR (some a0)), some (vI x1), some (vI x2), some (vI x3)] [] m bc bs Q := by
  refine x_iload_n dM_makeRoom_54 rfl (n := 55) rfl ?_
  refine x_iload_n dM_makeRoom_55 rfl (n := 56) rfl ?_
  obtain ⟨h, h'⟩ := h
  refine x_icmp_ge (tgt := 75) dM_makeRoom_56 rfl (n := 59) rfl (fun c10 => ?_) (fun c10 => ?_)
  · replace h := h c10
    refine x_aload_n dM_makeRoom_75 rfl (n := 76) rfl ?_
    refine x_iconst (v := 0) dM_makeRoom_76 (by decide) (n := 77) rfl ?_
    obtain ⟨k1, h⟩ := h
    replace h := h _ rfl
    refine x_putI rfl dM_makeRoom_77 pM_86 k1 rfl rfl (n := 80) rfl ?_
    exact x_vret dM_makeRoom_80 rfl h
  · replace h := h' c10
    refine x_aload_n dM_makeRoom_59 rfl (n := 60) rfl ?_
    refine x_aload_n dM_makeRoom_60 rfl (n := 61) rfl ?_
    obtain ⟨k3, h⟩ := h
    refine x_getR rfl dM_makeRoom_61 fM_56 k3 (n := 64) rfl ?_
    refine x_iload_n dM_makeRoom_64 rfl (n := 65) rfl ?_
    obtain ⟨a4, e5, h⟩ := h
    obtain ⟨n7, k6, h⟩ := h
    obtain ⟨c8, h⟩ := h
    refine x_iald e5 dM_makeRoom_65 k6 c8 (n := 66) rfl ?_
    refine x_invV (m := m) rfl dM_makeRoom_66 gM_makeRoom_66 (as := [vI (gI m a4 x3.toNatClampNeg)]) (st := []) rfl rfl k3 rfl rfl (Nat.le_of_ble_eq_true rfl) (n := 69) rfl rfl rfl h (xBk.V fun m9 h => ?_)
    refine x_iinc (v := x3 + 1) dM_makeRoom_69 rfl rfl (by decide) (L' := [some (vR (some a0)), some (vI x1), some (vI x2), some (vI (x3 + 1))]) rfl (n := 72) rfl ?_
    refine x_goto (tgt := 54) dM_makeRoom_72 rfl ?_
    exact h
set_option maxRecDepth 100000 in
set_option maxHeartbeats 4000000 in
theorem bM_makeRoom {l : Launch} {G : xG} {m : XM} {Q : XR → XM → Prop} {a0 : Nat} (hst : l.stackTraces = false)
    (h : kd m a0 = some (oB 5) ∧ ∀ m2, m2 = mI m a0 20 (0 : Int32) → ((¬ ((gI m2 a0 16) - (gI m2 a0 16) / (4 : Int32) * (4 : Int32)) = 0 → WW l G xM_makeRoom 39 [some (vR (some a0)), some (vI ((64 : Int32) + ((gI m a0 16) - (gI m a0 16) / (32 : Int32) * (32 : Int32)))), none, none] [] m2 0 0 Q) ∧ (((gI m2 a0 16) - (gI m2 a0 16) / (4 : Int32) * (4 : Int32)) = 0 → (((gI m2 a0 16) < (32 : Int32) → WW l G xM_makeRoom 39 [some (vR (some a0)), some (vI ((64 : Int32) + ((gI m a0 16) - (gI m a0 16) / (32 : Int32) * (32 : Int32)))), none, none] [] m2 0 0 Q) ∧ (¬ (gI m2 a0 16) < (32 : Int32) → CC l G xM_empty [vR (some a0), vI ((64 : Int32) + ((gI m a0 16) - (gI m a0 16) / (32 : Int32) * (32 : Int32)))] m2 (kV (fun m3 => WW l G xM_makeRoom 39 [some (vR (some a0)), some (vI ((64 : Int32) + ((gI m a0 16) - (gI m a0 16) / (32 : Int32) * (32 : Int32)))), none, none] [] m3 0 0 Q) Q)))))) :
    CC l G xM_makeRoom [vR (some a0)] m Q := by
  refine x_entry (by decide +kernel) rfl hst (Nat.le_of_ble_eq_true rfl) (L0 := [some (vR (some a0)), none, none, none]) rfl ?_
  refine x_bipush (v := 64) dM_makeRoom_0 (by decide) (n := 2) rfl ?_
  refine x_aload_n dM_makeRoom_2 rfl (n := 3) rfl ?_
  obtain ⟨k1, h⟩ := h
  refine x_getI rfl dM_makeRoom_3 fM_96 k1 (n := 6) rfl ?_
  refine x_bipush (v := 32) dM_makeRoom_6 (by decide) (n := 8) rfl ?_
  refine x_irem dM_makeRoom_8 (by decide) (n := 9) rfl ?_
  refine x_iadd dM_makeRoom_9 (n := 10) rfl ?_
  refine x_istore_n dM_makeRoom_10 (by decide) (L' := [some (vR (some a0)), some (vI ((64 : Int32) + ((gI m a0 16) - (gI m a0 16) / (32 : Int32) * (32 : Int32)))), none, none]) rfl (n := 11) rfl ?_
  refine x_aload_n dM_makeRoom_11 rfl (n := 12) rfl ?_
  refine x_iconst (v := 0) dM_makeRoom_12 (by decide) (n := 13) rfl ?_
  replace h := h _ rfl
  refine x_putI rfl dM_makeRoom_13 pM_86 k1 rfl rfl (n := 16) rfl ?_
  refine x_aload_n dM_makeRoom_16 rfl (n := 17) rfl ?_
  refine x_getI rfl dM_makeRoom_17 fM_96 k1 (n := 20) rfl ?_
  refine x_iconst (v := 4) dM_makeRoom_20 (by decide) (n := 21) rfl ?_
  refine x_irem dM_makeRoom_21 (by decide) (n := 22) rfl ?_
  obtain ⟨h, h'⟩ := h
  refine x_if_ne (tgt := 39) dM_makeRoom_22 rfl (n := 25) rfl (fun c5 => ?_) (fun c5 => ?_)
  · replace h := h c5
    exact h
  · replace h := h' c5
    refine x_aload_n dM_makeRoom_25 rfl (n := 26) rfl ?_
    refine x_getI rfl dM_makeRoom_26 fM_96 k1 (n := 29) rfl ?_
    refine x_bipush (v := 32) dM_makeRoom_29 (by decide) (n := 31) rfl ?_
    obtain ⟨h, h'⟩ := h
    refine x_icmp_lt (tgt := 39) dM_makeRoom_31 rfl (n := 34) rfl (fun c4 => ?_) (fun c4 => ?_)
    · replace h := h c4
      exact h
    · replace h := h' c4
      refine x_aload_n dM_makeRoom_34 rfl (n := 35) rfl ?_
      refine x_iload_n dM_makeRoom_35 rfl (n := 36) rfl ?_
      refine x_invV (m := (mI m a0 20 (0 : Int32))) rfl dM_makeRoom_36 gM_makeRoom_36 (as := [vI ((64 : Int32) + ((gI m a0 16) - (gI m a0 16) / (32 : Int32) * (32 : Int32)))]) (st := []) rfl rfl k1 rfl rfl (Nat.le_of_ble_eq_true rfl) (n := 39) rfl rfl rfl h (xBk.V fun m3 h => ?_)
      exact h
set_option maxRecDepth 100000 in
set_option maxHeartbeats 4000000 in
theorem bM_empty_2 {l : Launch} {G : xG} {m : XM} {bc bs : Nat} {Q : XR → XM → Prop} {a0 : Nat} {x1 : Int32} {x2 : Int32}
    (h : (((64 : Int32) ≤ x2 → WW l G xM_empty 23 [some (vR (some a0)), some (vI x1), some (vI x1), none] [] m bc bs Q) ∧ (¬ (64 : Int32) ≤ x2 → kd m a0 = some (oB 5) ∧ ∃ a2, gR m a0 22 = some a2 ∧ ∃ n5, kd m a2 = some (aR 1 n5) ∧ vp_in x2 n5 ∧ ∀ m7, m7 = mI m a2 x2.toNatClampNeg (0 : Int32) → WW l G xM_empty 2 [some (vR (some a0)), some (vI x1), some (vI (x2 + 1)), none] [] m7 bc bs Q))) :
    WW l G xM_empty 2 [some (vR (some a0)), some (vI x1), some (vI x2), none] [] m bc bs Q := by
  refine x_iload_n dM_empty_2 rfl (n := 3) rfl ?_
  refine x_bipush (v := 64) dM_empty_3 (by decide) (n := 5) rfl ?_
  obtain ⟨h, h'⟩ := h
  refine x_icmp_ge (tgt := 21) dM_empty_5 rfl (n := 8) rfl (fun c8 => ?_) (fun c8 => ?_)
  · replace h := h c8
    refine x_iload_n dM_empty_21 rfl (n := 22) rfl ?_
    refine x_istore_n dM_empty_22 (by decide) (L' := [some (vR (some a0)), some (vI x1), some (vI x1), none]) rfl (n := 23) rfl ?_
    exact h
  · replace h := h' c8
    refine x_aload_n dM_empty_8 rfl (n := 9) rfl ?_
    obtain ⟨k1, h⟩ := h
    refine x_getR rfl dM_empty_9 fM_59 k1 (n := 12) rfl ?_
    refine x_iload_n dM_empty_12 rfl (n := 13) rfl ?_
    refine x_iconst (v := 0) dM_empty_13 (by decide) (n := 14) rfl ?_
    obtain ⟨a2, e3, h⟩ := h
    obtain ⟨n5, k4, h⟩ := h
    obtain ⟨c6, h⟩ := h
    replace h := h _ rfl
    refine x_zast e3 dM_empty_14 k4 c6 (by decide) (n := 15) rfl ?_
    refine x_iinc (v := x2 + 1) dM_empty_15 rfl rfl (by decide) (L' := [some (vR (some a0)), some (vI x1), some (vI (x2 + 1)), none]) rfl (n := 18) rfl ?_
    refine x_goto (tgt := 2) dM_empty_18 rfl ?_
    exact h
set_option maxRecDepth 100000 in
set_option maxHeartbeats 4000000 in
theorem bM_empty_23 {l : Launch} {G : xG} {m : XM} {bc bs : Nat} {Q : XR → XM → Prop} {a0 : Nat} {x1 : Int32} {x2 : Int32}
    (h : (((x1 + (4 : Int32)) ≤ x2 → WW l G xM_empty 100 [some (vR (some a0)), some (vI x1), some (vI (0 : Int32)), none] [] m bc bs Q) ∧ (¬ (x1 + (4 : Int32)) ≤ x2 → WW l G xM_empty 32 [some (vR (some a0)), some (vI x1), some (vI x2), some (vI (0 : Int32))] [] m bc bs Q))) :
    WW l G xM_empty 23 [some (vR (some a0)), some (vI x1), some (vI x2), none] [] m bc bs Q := by
  refine x_iload_n dM_empty_23 rfl (n := 24) rfl ?_
  refine x_iload_n dM_empty_24 rfl (n := 25) rfl ?_
  refine x_iconst (v := 4) dM_empty_25 (by decide) (n := 26) rfl ?_
  refine x_iadd dM_empty_26 (n := 27) rfl ?_
  obtain ⟨h, h'⟩ := h
  refine x_icmp_ge (tgt := 98) dM_empty_27 rfl (n := 30) rfl (fun c1 => ?_) (fun c1 => ?_)
  · replace h := h c1
    refine x_iconst (v := 0) dM_empty_98 (by decide) (n := 99) rfl ?_
    refine x_istore_n dM_empty_99 (by decide) (L' := [some (vR (some a0)), some (vI x1), some (vI (0 : Int32)), none]) rfl (n := 100) rfl ?_
    exact h
  · replace h := h' c1
    refine x_iconst (v := 0) dM_empty_30 (by decide) (n := 31) rfl ?_
    refine x_istore_n dM_empty_31 (by decide) (L' := [some (vR (some a0)), some (vI x1), some (vI x2), some (vI (0 : Int32))]) rfl (n := 32) rfl ?_
    exact h
set_option maxRecDepth 100000 in
set_option maxHeartbeats 4000000 in
theorem bM_empty_32 {l : Launch} {G : xG} {m : XM} {bc bs : Nat} {Q : XR → XM → Prop} {a0 : Nat} {x1 : Int32} {x2 : Int32} {x3 : Int32}
    (h : kd m a0 = some (oB 5) ∧ ∃ a2, gR m a0 14 = some a2 ∧ ∃ n5, kd m a2 = some (aR 0 n5) ∧ vp_in x2 n5 ∧ (((gI m a2 x2.toNatClampNeg) ≤ x3 → WW l G xM_empty 23 [some (vR (some a0)), some (vI x1), some (vI (x2 + 1)), none] [] m bc bs Q) ∧ (¬ (gI m a2 x2.toNatClampNeg) ≤ x3 → ∃ a7, gR m a0 15 = some a7 ∧ ∃ n10, kd m a7 = some (aR 0 n10) ∧ vp_in (((8 : Int32) * x2) + x3) n10 ∧ ∃ a12, gR m a0 9 = some a12 ∧ ∃ n15, kd m a12 = some (aR 1 n15) ∧ vp_in (gI m a7 (((8 : Int32) * x2) + x3).toNatClampNeg) n15 ∧ (((gI m a12 (gI m a7 (((8 : Int32) * x2) + x3).toNatClampNeg).toNatClampNeg) = 0 → WW l G xM_empty 32 [some (vR (some a0)), some (vI x1), some (vI x2), some (vI (x3 + 1))] [] m bc bs Q) ∧ (¬ (gI m a12 (gI m a7 (((8 : Int32) * x2) + x3).toNatClampNeg).toNatClampNeg) = 0 → vp_in (((8 : Int32) * x2) + x3) n10 ∧ ∃ a18, gR m a0 6 = some a18 ∧ ∃ n21, kd m a18 = some (aR 2 n21) ∧ vp_in (gI m a7 (((8 : Int32) * x2) + x3).toNatClampNeg) n21 ∧ CC l G xM_setOfKey [vL (gL m a18 (gI m a7 (((8 : Int32) * x2) + x3).toNatClampNeg).toNatClampNeg)] m (kI (fun v24 m23 => ∃ a25, gR m a0 22 = some a25 ∧ ∃ n28, kd m23 a25 = some (aR 1 n28) ∧ vp_in v24 n28 ∧ ∀ m30, m30 = mI m23 a25 v24.toNatClampNeg (1 : Int32) → WW l G xM_empty 32 [some (vR (some a0)), some (vI x1), some (vI x2), some (vI (x3 + 1))] [] m30 bc bs Q) Q)))))) :
    WW l G xM_empty 32 [some (vR (some a0)), some (vI x1), some (vI x2), some (vI x3)] [] m bc bs Q := by
  refine x_iload_n dM_empty_32 rfl (n := 33) rfl ?_
  refine x_aload_n dM_empty_33 rfl (n := 34) rfl ?_
  obtain ⟨k1, h⟩ := h
  refine x_getR rfl dM_empty_34 fM_44 k1 (n := 37) rfl ?_
  refine x_iload_n dM_empty_37 rfl (n := 38) rfl ?_
  obtain ⟨a2, e3, h⟩ := h
  obtain ⟨n5, k4, h⟩ := h
  obtain ⟨c6, h⟩ := h
  refine x_iald e3 dM_empty_38 k4 c6 (n := 39) rfl ?_
  obtain ⟨h, h'⟩ := h
  refine x_icmp_ge (tgt := 92) dM_empty_39 rfl (n := 42) rfl (fun c32 => ?_) (fun c32 => ?_)
  · replace h := h c32
    refine x_iinc (v := x2 + 1) dM_empty_92 rfl rfl (by decide) (L' := [some (vR (some a0)), some (vI x1), some (vI (x2 + 1)), some (vI x3)]) rfl (n := 95) rfl ?_
    refine x_goto (tgt := 23) dM_empty_95 rfl ?_
    exact x_weak (b := [true, true, true, false]) rfl h
  · replace h := h' c32
    refine x_aload_n dM_empty_42 rfl (n := 43) rfl ?_
    refine x_getR rfl dM_empty_43 fM_31 k1 (n := 46) rfl ?_
    refine x_aload_n dM_empty_46 rfl (n := 47) rfl ?_
    refine x_getR rfl dM_empty_47 fM_47 k1 (n := 50) rfl ?_
    refine x_bipush (v := 8) dM_empty_50 (by decide) (n := 52) rfl ?_
    refine x_iload_n dM_empty_52 rfl (n := 53) rfl ?_
    refine x_imul dM_empty_53 (n := 54) rfl ?_
    refine x_iload_n dM_empty_54 rfl (n := 55) rfl ?_
    refine x_iadd dM_empty_55 (n := 56) rfl ?_
    obtain ⟨a7, e8, h⟩ := h
    obtain ⟨n10, k9, h⟩ := h
    obtain ⟨c11, h⟩ := h
    refine x_iald e8 dM_empty_56 k9 c11 (n := 57) rfl ?_
    obtain ⟨a12, e13, h⟩ := h
    obtain ⟨n15, k14, h⟩ := h
    obtain ⟨c16, h⟩ := h
    refine x_zald e13 dM_empty_57 k14 c16 (n := 58) rfl ?_
    obtain ⟨h, h'⟩ := h
    refine x_if_eq (tgt := 86) dM_empty_58 rfl (n := 61) rfl (fun c31 => ?_) (fun c31 => ?_)
    · replace h := h c31
      refine x_iinc (v := x3 + 1) dM_empty_86 rfl rfl (by decide) (L' := [some (vR (some a0)), some (vI x1), some (vI x2), some (vI (x3 + 1))]) rfl (n := 89) rfl ?_
      refine x_goto (tgt := 32) dM_empty_89 rfl ?_
      exact h
    · replace h := h' c31
      refine x_aload_n dM_empty_61 rfl (n := 62) rfl ?_
      refine x_getR rfl dM_empty_62 fM_59 k1 (n := 65) rfl ?_
      refine x_aload_n dM_empty_65 rfl (n := 66) rfl ?_
      refine x_getR rfl dM_empty_66 fM_20 k1 (n := 69) rfl ?_
      refine x_aload_n dM_empty_69 rfl (n := 70) rfl ?_
      refine x_getR rfl dM_empty_70 fM_47 k1 (n := 73) rfl ?_
      refine x_bipush (v := 8) dM_empty_73 (by decide) (n := 75) rfl ?_
      refine x_iload_n dM_empty_75 rfl (n := 76) rfl ?_
      refine x_imul dM_empty_76 (n := 77) rfl ?_
      refine x_iload_n dM_empty_77 rfl (n := 78) rfl ?_
      refine x_iadd dM_empty_78 (n := 79) rfl ?_
      obtain ⟨c17, h⟩ := h
      refine x_iald e8 dM_empty_79 k9 c17 (n := 80) rfl ?_
      obtain ⟨a18, e19, h⟩ := h
      obtain ⟨n21, k20, h⟩ := h
      obtain ⟨c22, h⟩ := h
      refine x_lald e19 dM_empty_80 k20 c22 (n := 81) rfl ?_
      refine x_invS (m := m) dM_empty_81 gM_empty_81 (as := [vL (gL m a18 (gI m a7 (((8 : Int32) * x2) + x3).toNatClampNeg).toNatClampNeg)]) (st := [vR (gR m a0 22)]) rfl rfl (Nat.le_of_ble_eq_true rfl) (n := 84) rfl rfl rfl h (xBk.I fun v24 m23 h => ?_)
      refine x_iconst (v := 1) dM_empty_84 (by decide) (n := 85) rfl ?_
      obtain ⟨a25, e26, h⟩ := h
      obtain ⟨n28, k27, h⟩ := h
      obtain ⟨c29, h⟩ := h
      replace h := h _ rfl
      refine x_zast e26 dM_empty_85 k27 c29 (by decide) (n := 86) rfl ?_
      refine x_iinc (v := x3 + 1) dM_empty_86 rfl rfl (by decide) (L' := [some (vR (some a0)), some (vI x1), some (vI x2), some (vI (x3 + 1))]) rfl (n := 89) rfl ?_
      refine x_goto (tgt := 32) dM_empty_89 rfl ?_
      exact h
set_option maxRecDepth 100000 in
set_option maxHeartbeats 4000000 in
theorem bM_empty_100 {l : Launch} {G : xG} {m : XM} {bc bs : Nat} {Q : XR → XM → Prop} {a0 : Nat} {x1 : Int32} {x2 : Int32}
    (h : (((64 : Int32) ≤ x2 → kd m a0 = some (oB 5) ∧ ∀ m2, m2 = mI m a0 18 (0 : Int32) → Q (.inl none) m2) ∧ (¬ (64 : Int32) ≤ x2 → kd m a0 = some (oB 5) ∧ ∃ a4, gR m a0 22 = some a4 ∧ ∃ n7, kd m a4 = some (aR 1 n7) ∧ vp_in x2 n7 ∧ (((gI m a4 x2.toNatClampNeg) = 0 → WW l G xM_empty 100 [some (vR (some a0)), some (vI x1), some (vI (x2 + 1)), none] [] m bc bs Q) ∧ (¬ (gI m a4 x2.toNatClampNeg) = 0 → CC l G xM_gatherAll [vR (some a0), vI x2] m (kV (fun m9 => kd m9 a0 = some (oB 5) ∧ (((gI m9 a0 18) ≤ (1 : Int32) → ∃ a11, gR m9 a0 19 = some a11 ∧ ∃ n14, kd m9 a11 = some (aR 0 n14) ∧ vp_in (0 : Int32) n14 ∧ CC l G xM_alone [vR (some a0), vI x2, vI (gI m9 a11 (0 : Int32).toNatClampNeg)] m9 (kV (fun m16 => WW l G xM_empty 100 [some (vR (some a0)), some (vI x1), some (vI (x2 + 1)), none] [] m16 bc bs Q) Q)) ∧ (¬ (gI m9 a0 18) ≤ (1 : Int32) → CC l G xM_moveAll [vR (some a0), vI x2] m9 (kV (fun m17 => WW l G xM_empty 100 [some (vR (some a0)), some (vI x1), some (vI (x2 + 1)), none] [] m17 bc bs Q) Q)))) Q)))))) :
    WW l G xM_empty 100 [some (vR (some a0)), some (vI x1), some (vI x2), none] [] m bc bs Q := by
  refine x_iload_n dM_empty_100 rfl (n := 101) rfl ?_
  refine x_bipush (v := 64) dM_empty_101 (by decide) (n := 103) rfl ?_
  obtain ⟨h, h'⟩ := h
  refine x_icmp_ge (tgt := 153) dM_empty_103 rfl (n := 106) rfl (fun c20 => ?_) (fun c20 => ?_)
  · replace h := h c20
    refine x_aload_n dM_empty_153 rfl (n := 154) rfl ?_
    refine x_iconst (v := 0) dM_empty_154 (by decide) (n := 155) rfl ?_
    obtain ⟨k1, h⟩ := h
    replace h := h _ rfl
    refine x_putI rfl dM_empty_155 pM_83 k1 rfl rfl (n := 158) rfl ?_
    exact x_vret dM_empty_158 rfl h
  · replace h := h' c20
    refine x_aload_n dM_empty_106 rfl (n := 107) rfl ?_
    obtain ⟨k3, h⟩ := h
    refine x_getR rfl dM_empty_107 fM_59 k3 (n := 110) rfl ?_
    refine x_iload_n dM_empty_110 rfl (n := 111) rfl ?_
    obtain ⟨a4, e5, h⟩ := h
    obtain ⟨n7, k6, h⟩ := h
    obtain ⟨c8, h⟩ := h
    refine x_zald e5 dM_empty_111 k6 c8 (n := 112) rfl ?_
    obtain ⟨h, h'⟩ := h
    refine x_if_eq (tgt := 147) dM_empty_112 rfl (n := 115) rfl (fun c19 => ?_) (fun c19 => ?_)
    · replace h := h c19
      refine x_iinc (v := x2 + 1) dM_empty_147 rfl rfl (by decide) (L' := [some (vR (some a0)), some (vI x1), some (vI (x2 + 1)), none]) rfl (n := 150) rfl ?_
      refine x_goto (tgt := 100) dM_empty_150 rfl ?_
      exact h
    · replace h := h' c19
      refine x_aload_n dM_empty_115 rfl (n := 116) rfl ?_
      refine x_iload_n dM_empty_116 rfl (n := 117) rfl ?_
      refine x_invV (m := m) rfl dM_empty_117 gM_empty_117 (as := [vI x2]) (st := []) rfl rfl k3 rfl rfl (Nat.le_of_ble_eq_true rfl) (n := 120) rfl rfl rfl h (xBk.V fun m9 h => ?_)
      refine x_aload_n dM_empty_120 rfl (n := 121) rfl ?_
      obtain ⟨k10, h⟩ := h
      refine x_getI rfl dM_empty_121 fM_83 k10 (n := 124) rfl ?_
      refine x_iconst (v := 1) dM_empty_124 (by decide) (n := 125) rfl ?_
      obtain ⟨h, h'⟩ := h
      refine x_icmp_le (tgt := 136) dM_empty_125 rfl (n := 128) rfl (fun c18 => ?_) (fun c18 => ?_)
      · replace h := h c18
        refine x_aload_n dM_empty_136 rfl (n := 137) rfl ?_
        refine x_iload_n dM_empty_137 rfl (n := 138) rfl ?_
        refine x_aload_n dM_empty_138 rfl (n := 139) rfl ?_
        refine x_getR rfl dM_empty_139 fM_53 k10 (n := 142) rfl ?_
        refine x_iconst (v := 0) dM_empty_142 (by decide) (n := 143) rfl ?_
        obtain ⟨a11, e12, h⟩ := h
        obtain ⟨n14, k13, h⟩ := h
        obtain ⟨c15, h⟩ := h
        refine x_iald e12 dM_empty_143 k13 c15 (n := 144) rfl ?_
        refine x_invV (m := m9) rfl dM_empty_144 gM_empty_144 (as := [vI x2, vI (gI m9 a11 (0 : Int32).toNatClampNeg)]) (st := []) rfl rfl k10 rfl rfl (Nat.le_of_ble_eq_true rfl) (n := 147) rfl rfl rfl h (xBk.V fun m16 h => ?_)
        refine x_iinc (v := x2 + 1) dM_empty_147 rfl rfl (by decide) (L' := [some (vR (some a0)), some (vI x1), some (vI (x2 + 1)), none]) rfl (n := 150) rfl ?_
        refine x_goto (tgt := 100) dM_empty_150 rfl ?_
        exact h
      · replace h := h' c18
        refine x_aload_n dM_empty_128 rfl (n := 129) rfl ?_
        refine x_iload_n dM_empty_129 rfl (n := 130) rfl ?_
        refine x_invV (m := m9) rfl dM_empty_130 gM_empty_130 (as := [vI x2]) (st := []) rfl rfl k10 rfl rfl (Nat.le_of_ble_eq_true rfl) (n := 133) rfl rfl rfl h (xBk.V fun m17 h => ?_)
        refine x_goto (tgt := 147) dM_empty_133 rfl ?_
        refine x_iinc (v := x2 + 1) dM_empty_147 rfl rfl (by decide) (L' := [some (vR (some a0)), some (vI x1), some (vI (x2 + 1)), none]) rfl (n := 150) rfl ?_
        refine x_goto (tgt := 100) dM_empty_150 rfl ?_
        exact h
set_option maxRecDepth 100000 in
set_option maxHeartbeats 4000000 in
theorem bM_empty {l : Launch} {G : xG} {m : XM} {Q : XR → XM → Prop} {a0 : Nat} {x1 : Int32} (hst : l.stackTraces = false)
    (h : WW l G xM_empty 2 [some (vR (some a0)), some (vI x1), some (vI (0 : Int32)), none] [] m 0 0 Q) :
    CC l G xM_empty [vR (some a0), vI x1] m Q := by
  refine x_entry (by decide +kernel) rfl hst (Nat.le_of_ble_eq_true rfl) (L0 := [some (vR (some a0)), some (vI x1), none, none]) rfl ?_
  refine x_iconst (v := 0) dM_empty_0 (by decide) (n := 1) rfl ?_
  refine x_istore_n dM_empty_1 (by decide) (L' := [some (vR (some a0)), some (vI x1), some (vI (0 : Int32)), none]) rfl (n := 2) rfl ?_
  exact h
set_option maxRecDepth 100000 in
set_option maxHeartbeats 4000000 in
theorem bM_setOfKey {l : Launch} {G : xG} {m : XM} {Q : XR → XM → Prop} {x0 : Int64} (hst : l.stackTraces = false)
    (h : CC l G xM_mixed [vL x0] m (kL (fun v2 m1 => Q (.inl (some (vI ((jushr v2 (58 : Int32)).toInt32)))) m1) Q)) :
    CC l G xM_setOfKey [vL x0] m Q := by
  refine x_entry (by decide +kernel) rfl hst (Nat.le_of_ble_eq_true rfl) (L0 := [some (vL x0), none]) rfl ?_
  refine x_lload_n dM_setOfKey_0 rfl (n := 1) rfl ?_
  refine x_invS (m := m) dM_setOfKey_1 gM_setOfKey_1 (as := [vL x0]) (st := []) rfl rfl (Nat.le_of_ble_eq_true rfl) (n := 4) rfl rfl rfl h (xBk.J fun v2 m1 h => ?_)
  refine x_bipush (v := 58) dM_setOfKey_4 (by decide) (n := 6) rfl ?_
  refine x_lushr dM_setOfKey_6 (n := 7) rfl ?_
  refine x_l2i dM_setOfKey_7 (n := 8) rfl ?_
  exact x_iret dM_setOfKey_8 rfl h
set_option maxRecDepth 100000 in
set_option maxHeartbeats 4000000 in
theorem bM_mixed {l : Launch} {G : xG} {m : XM} {Q : XR → XM → Prop} {x0 : Int64} (hst : l.stackTraces = false)
    (h : Q (.inl (some (vL (((((x0 ^^^ (jushr x0 (30 : Int32))) * (-4658895280553007687 : Int64)) ^^^ (jushr ((x0 ^^^ (jushr x0 (30 : Int32))) * (-4658895280553007687 : Int64)) (27 : Int32))) * (-7723592293110705685 : Int64)) ^^^ (jushr ((((x0 ^^^ (jushr x0 (30 : Int32))) * (-4658895280553007687 : Int64)) ^^^ (jushr ((x0 ^^^ (jushr x0 (30 : Int32))) * (-4658895280553007687 : Int64)) (27 : Int32))) * (-7723592293110705685 : Int64)) (31 : Int32)))))) m) :
    CC l G xM_mixed [vL x0] m Q := by
  refine x_entry (by decide +kernel) rfl hst (Nat.le_of_ble_eq_true rfl) (L0 := [some (vL x0), none, none, none]) rfl ?_
  refine x_lload_n dM_mixed_0 rfl (n := 1) rfl ?_
  refine x_lload_n dM_mixed_1 rfl (n := 2) rfl ?_
  refine x_bipush (v := 30) dM_mixed_2 (by decide) (n := 4) rfl ?_
  refine x_lushr dM_mixed_4 (n := 5) rfl ?_
  refine x_lxor dM_mixed_5 (n := 6) rfl ?_
  refine x_lstore_n dM_mixed_6 (by decide) (L' := [some (vL x0), none, some (vL (x0 ^^^ (jushr x0 (30 : Int32)))), none]) rfl (n := 7) rfl ?_
  refine x_lload_n dM_mixed_7 rfl (n := 8) rfl ?_
  refine x_ldc2 (v := -4658895280553007687) dM_mixed_8 w_671 (n := 11) rfl ?_
  refine x_lmul dM_mixed_11 (n := 12) rfl ?_
  refine x_lstore_n dM_mixed_12 (by decide) (L' := [some (vL x0), none, some (vL ((x0 ^^^ (jushr x0 (30 : Int32))) * (-4658895280553007687 : Int64))), none]) rfl (n := 13) rfl ?_
  refine x_lload_n dM_mixed_13 rfl (n := 14) rfl ?_
  refine x_lload_n dM_mixed_14 rfl (n := 15) rfl ?_
  refine x_bipush (v := 27) dM_mixed_15 (by decide) (n := 17) rfl ?_
  refine x_lushr dM_mixed_17 (n := 18) rfl ?_
  refine x_lxor dM_mixed_18 (n := 19) rfl ?_
  refine x_lstore_n dM_mixed_19 (by decide) (L' := [some (vL x0), none, some (vL (((x0 ^^^ (jushr x0 (30 : Int32))) * (-4658895280553007687 : Int64)) ^^^ (jushr ((x0 ^^^ (jushr x0 (30 : Int32))) * (-4658895280553007687 : Int64)) (27 : Int32)))), none]) rfl (n := 20) rfl ?_
  refine x_lload_n dM_mixed_20 rfl (n := 21) rfl ?_
  refine x_ldc2 (v := -7723592293110705685) dM_mixed_21 w_672 (n := 24) rfl ?_
  refine x_lmul dM_mixed_24 (n := 25) rfl ?_
  refine x_lstore_n dM_mixed_25 (by decide) (L' := [some (vL x0), none, some (vL ((((x0 ^^^ (jushr x0 (30 : Int32))) * (-4658895280553007687 : Int64)) ^^^ (jushr ((x0 ^^^ (jushr x0 (30 : Int32))) * (-4658895280553007687 : Int64)) (27 : Int32))) * (-7723592293110705685 : Int64))), none]) rfl (n := 26) rfl ?_
  refine x_lload_n dM_mixed_26 rfl (n := 27) rfl ?_
  refine x_lload_n dM_mixed_27 rfl (n := 28) rfl ?_
  refine x_bipush (v := 31) dM_mixed_28 (by decide) (n := 30) rfl ?_
  refine x_lushr dM_mixed_30 (n := 31) rfl ?_
  refine x_lxor dM_mixed_31 (n := 32) rfl ?_
  exact x_lret dM_mixed_32 rfl h
set_option maxRecDepth 100000 in
set_option maxHeartbeats 4000000 in
theorem bM_gatherAll_8 {l : Launch} {G : xG} {m : XM} {bc bs : Nat} {Q : XR → XM → Prop} {a0 : Nat} {x1 : Int32} {x2 : Int32}
    (h : (((97 : Int32) ≤ x2 → Q (.inl none) m) ∧ (¬ (97 : Int32) ≤ x2 → WW l G xM_gatherAll 16 [some (vR (some a0)), some (vI x1), some (vI x2), some (vI (0 : Int32)), none, none] [] m bc bs Q))) :
    WW l G xM_gatherAll 8 [some (vR (some a0)), some (vI x1), some (vI x2), none, none, none] [] m bc bs Q := by
  refine x_iload_n dM_gatherAll_8 rfl (n := 9) rfl ?_
  refine x_bipush (v := 97) dM_gatherAll_9 (by decide) (n := 11) rfl ?_
  obtain ⟨h, h'⟩ := h
  refine x_icmp_ge (tgt := 151) dM_gatherAll_11 rfl (n := 14) rfl (fun c1 => ?_) (fun c1 => ?_)
  · replace h := h c1
    exact x_vret dM_gatherAll_151 rfl h
  · replace h := h' c1
    refine x_iconst (v := 0) dM_gatherAll_14 (by decide) (n := 15) rfl ?_
    refine x_istore_n dM_gatherAll_15 (by decide) (L' := [some (vR (some a0)), some (vI x1), some (vI x2), some (vI (0 : Int32)), none, none]) rfl (n := 16) rfl ?_
    exact h
set_option maxRecDepth 100000 in
set_option maxHeartbeats 4000000 in
theorem bM_gatherAll_16 {l : Launch} {G : xG} {m : XM} {bc bs : Nat} {Q : XR → XM → Prop} {a0 : Nat} {x1 : Int32} {x2 : Int32} {x3 : Int32}
    (h : kd m a0 = some (oB 5) ∧ ∃ a2, gR m a0 14 = some a2 ∧ ∃ n5, kd m a2 = some (aR 0 n5) ∧ vp_in x2 n5 ∧ (((gI m a2 x2.toNatClampNeg) ≤ x3 → WW l G xM_gatherAll 8 [some (vR (some a0)), some (vI x1), some (vI (x2 + 1)), none, none, none] [] m bc bs Q) ∧ (¬ (gI m a2 x2.toNatClampNeg) ≤ x3 → ∃ a7, gR m a0 15 = some a7 ∧ ∃ n10, kd m a7 = some (aR 0 n10) ∧ vp_in (((8 : Int32) * x2) + x3) n10 ∧ ∃ a12, gR m a0 9 = some a12 ∧ ∃ n15, kd m a12 = some (aR 1 n15) ∧ vp_in (gI m a7 (((8 : Int32) * x2) + x3).toNatClampNeg) n15 ∧ (((gI m a12 (gI m a7 (((8 : Int32) * x2) + x3).toNatClampNeg).toNatClampNeg) = 0 → WW l G xM_gatherAll 16 [some (vR (some a0)), some (vI x1), some (vI x2), some (vI (x3 + 1)), none, none] [] m bc bs Q) ∧ (¬ (gI m a12 (gI m a7 (((8 : Int32) * x2) + x3).toNatClampNeg).toNatClampNeg) = 0 → ∃ a17, gR m a0 6 = some a17 ∧ ∃ n20, kd m a17 = some (aR 2 n20) ∧ vp_in (gI m a7 (((8 : Int32) * x2) + x3).toNatClampNeg) n20 ∧ CC l G xM_setOfKey [vL (gL m a17 (gI m a7 (((8 : Int32) * x2) + x3).toNatClampNeg).toNatClampNeg)] m (kI (fun v23 m22 => ((¬ v23 = x1 → WW l G xM_gatherAll 16 [some (vR (some a0)), some (vI x1), some (vI x2), some (vI (x3 + 1)), none, none] [] m22 bc bs Q) ∧ (v23 = x1 → kd m22 a0 = some (oB 5) ∧ WW l G xM_gatherAll 69 [some (vR (some a0)), some (vI x1), some (vI x2), some (vI x3), some (vI (gI m a7 (((8 : Int32) * x2) + x3).toNatClampNeg)), some (vI (gI m22 a0 18))] [] m22 bc bs Q))) Q)))))) :
    WW l G xM_gatherAll 16 [some (vR (some a0)), some (vI x1), some (vI x2), some (vI x3), none, none] [] m bc bs Q := by
  refine x_iload_n dM_gatherAll_16 rfl (n := 17) rfl ?_
  refine x_aload_n dM_gatherAll_17 rfl (n := 18) rfl ?_
  obtain ⟨k1, h⟩ := h
  refine x_getR rfl dM_gatherAll_18 fM_44 k1 (n := 21) rfl ?_
  refine x_iload_n dM_gatherAll_21 rfl (n := 22) rfl ?_
  obtain ⟨a2, e3, h⟩ := h
  obtain ⟨n5, k4, h⟩ := h
  obtain ⟨c6, h⟩ := h
  refine x_iald e3 dM_gatherAll_22 k4 c6 (n := 23) rfl ?_
  obtain ⟨h, h'⟩ := h
  refine x_icmp_ge (tgt := 145) dM_gatherAll_23 rfl (n := 26) rfl (fun c27 => ?_) (fun c27 => ?_)
  · replace h := h c27
    refine x_iinc (v := x2 + 1) dM_gatherAll_145 rfl rfl (by decide) (L' := [some (vR (some a0)), some (vI x1), some (vI (x2 + 1)), some (vI x3), none, none]) rfl (n := 148) rfl ?_
    refine x_goto (tgt := 8) dM_gatherAll_148 rfl ?_
    exact x_weak (b := [true, true, true, false, false, false]) rfl h
  · replace h := h' c27
    refine x_aload_n dM_gatherAll_26 rfl (n := 27) rfl ?_
    refine x_getR rfl dM_gatherAll_27 fM_47 k1 (n := 30) rfl ?_
    refine x_bipush (v := 8) dM_gatherAll_30 (by decide) (n := 32) rfl ?_
    refine x_iload_n dM_gatherAll_32 rfl (n := 33) rfl ?_
    refine x_imul dM_gatherAll_33 (n := 34) rfl ?_
    refine x_iload_n dM_gatherAll_34 rfl (n := 35) rfl ?_
    refine x_iadd dM_gatherAll_35 (n := 36) rfl ?_
    obtain ⟨a7, e8, h⟩ := h
    obtain ⟨n10, k9, h⟩ := h
    obtain ⟨c11, h⟩ := h
    refine x_iald e8 dM_gatherAll_36 k9 c11 (n := 37) rfl ?_
    refine x_istore dM_gatherAll_37 (by decide) (L' := [some (vR (some a0)), some (vI x1), some (vI x2), some (vI x3), some (vI (gI m a7 (((8 : Int32) * x2) + x3).toNatClampNeg)), none]) rfl (n := 39) rfl ?_
    refine x_aload_n dM_gatherAll_39 rfl (n := 40) rfl ?_
    refine x_getR rfl dM_gatherAll_40 fM_31 k1 (n := 43) rfl ?_
    refine x_iload dM_gatherAll_43 rfl (n := 45) rfl ?_
    obtain ⟨a12, e13, h⟩ := h
    obtain ⟨n15, k14, h⟩ := h
    obtain ⟨c16, h⟩ := h
    refine x_zald e13 dM_gatherAll_45 k14 c16 (n := 46) rfl ?_
    obtain ⟨h, h'⟩ := h
    refine x_if_eq (tgt := 139) dM_gatherAll_46 rfl (n := 49) rfl (fun c26 => ?_) (fun c26 => ?_)
    · replace h := h c26
      refine x_iinc (v := x3 + 1) dM_gatherAll_139 rfl rfl (by decide) (L' := [some (vR (some a0)), some (vI x1), some (vI x2), some (vI (x3 + 1)), some (vI (gI m a7 (((8 : Int32) * x2) + x3).toNatClampNeg)), none]) rfl (n := 142) rfl ?_
      refine x_goto (tgt := 16) dM_gatherAll_142 rfl ?_
      exact x_weak (b := [true, true, true, true, false, false]) rfl h
    · replace h := h' c26
      refine x_aload_n dM_gatherAll_49 rfl (n := 50) rfl ?_
      refine x_getR rfl dM_gatherAll_50 fM_20 k1 (n := 53) rfl ?_
      refine x_iload dM_gatherAll_53 rfl (n := 55) rfl ?_
      obtain ⟨a17, e18, h⟩ := h
      obtain ⟨n20, k19, h⟩ := h
      obtain ⟨c21, h⟩ := h
      refine x_lald e18 dM_gatherAll_55 k19 c21 (n := 56) rfl ?_
      refine x_invS (m := m) dM_gatherAll_56 gM_gatherAll_56 (as := [vL (gL m a17 (gI m a7 (((8 : Int32) * x2) + x3).toNatClampNeg).toNatClampNeg)]) (st := []) rfl rfl (Nat.le_of_ble_eq_true rfl) (n := 59) rfl rfl rfl h (xBk.I fun v23 m22 h => ?_)
      refine x_iload_n dM_gatherAll_59 rfl (n := 60) rfl ?_
      obtain ⟨h, h'⟩ := h
      refine x_icmp_ne (tgt := 139) dM_gatherAll_60 rfl (n := 63) rfl (fun c25 => ?_) (fun c25 => ?_)
      · replace h := h c25
        refine x_iinc (v := x3 + 1) dM_gatherAll_139 rfl rfl (by decide) (L' := [some (vR (some a0)), some (vI x1), some (vI x2), some (vI (x3 + 1)), some (vI (gI m a7 (((8 : Int32) * x2) + x3).toNatClampNeg)), none]) rfl (n := 142) rfl ?_
        refine x_goto (tgt := 16) dM_gatherAll_142 rfl ?_
        exact x_weak (b := [true, true, true, true, false, false]) rfl h
      · replace h := h' c25
        refine x_aload_n dM_gatherAll_63 rfl (n := 64) rfl ?_
        obtain ⟨k24, h⟩ := h
        refine x_getI rfl dM_gatherAll_64 fM_83 k24 (n := 67) rfl ?_
        refine x_istore dM_gatherAll_67 (by decide) (L' := [some (vR (some a0)), some (vI x1), some (vI x2), some (vI x3), some (vI (gI m a7 (((8 : Int32) * x2) + x3).toNatClampNeg)), some (vI (gI m22 a0 18))]) rfl (n := 69) rfl ?_
        exact h
set_option maxRecDepth 100000 in
set_option maxHeartbeats 4000000 in
theorem bM_gatherAll_69 {l : Launch} {G : xG} {m : XM} {bc bs : Nat} {Q : XR → XM → Prop} {a0 : Nat} {x1 : Int32} {x2 : Int32} {x3 : Int32} {x4 : Int32} {x5 : Int32}
    (h : ((x5 ≤ 0 → WW l G xM_gatherAll 120 [some (vR (some a0)), some (vI x1), some (vI x2), some (vI x3), some (vI x4), some (vI x5)] [] m bc bs Q) ∧ (¬ x5 ≤ 0 → kd m a0 = some (oB 5) ∧ ∃ a2, gR m a0 19 = some a2 ∧ ∃ n5, kd m a2 = some (aR 0 n5) ∧ vp_in (x5 - (1 : Int32)) n5 ∧ ∃ a7, gR m a0 11 = some a7 ∧ ∃ n10, kd m a7 = some (aR 0 n10) ∧ vp_in (gI m a2 (x5 - (1 : Int32)).toNatClampNeg) n10 ∧ vp_in x4 n10 ∧ (((gI m a7 (gI m a2 (x5 - (1 : Int32)).toNatClampNeg).toNatClampNeg) ≤ (gI m a7 x4.toNatClampNeg) → WW l G xM_gatherAll 120 [some (vR (some a0)), some (vI x1), some (vI x2), some (vI x3), some (vI x4), some (vI x5)] [] m bc bs Q) ∧ (¬ (gI m a7 (gI m a2 (x5 - (1 : Int32)).toNatClampNeg).toNatClampNeg) ≤ (gI m a7 x4.toNatClampNeg) → vp_in (x5 - (1 : Int32)) n5 ∧ vp_in x5 n5 ∧ ∀ m15, m15 = mI m a2 x5.toNatClampNeg (gI m a2 (x5 - (1 : Int32)).toNatClampNeg) → WW l G xM_gatherAll 69 [some (vR (some a0)), some (vI x1), some (vI x2), some (vI x3), some (vI x4), some (vI (x5 + (-1)))] [] m15 bc bs Q))))) :
    WW l G xM_gatherAll 69 [some (vR (some a0)), some (vI x1), some (vI x2), some (vI x3), some (vI x4), some (vI x5)] [] m bc bs Q := by
  refine x_iload dM_gatherAll_69 rfl (n := 71) rfl ?_
  obtain ⟨h, h'⟩ := h
  refine x_if_le (tgt := 120) dM_gatherAll_71 rfl (n := 74) rfl (fun c17 => ?_) (fun c17 => ?_)
  · replace h := h c17
    exact h
  · replace h := h' c17
    refine x_aload_n dM_gatherAll_74 rfl (n := 75) rfl ?_
    obtain ⟨k1, h⟩ := h
    refine x_getR rfl dM_gatherAll_75 fM_38 k1 (n := 78) rfl ?_
    refine x_aload_n dM_gatherAll_78 rfl (n := 79) rfl ?_
    refine x_getR rfl dM_gatherAll_79 fM_53 k1 (n := 82) rfl ?_
    refine x_iload dM_gatherAll_82 rfl (n := 84) rfl ?_
    refine x_iconst (v := 1) dM_gatherAll_84 (by decide) (n := 85) rfl ?_
    refine x_isub dM_gatherAll_85 (n := 86) rfl ?_
    obtain ⟨a2, e3, h⟩ := h
    obtain ⟨n5, k4, h⟩ := h
    obtain ⟨c6, h⟩ := h
    refine x_iald e3 dM_gatherAll_86 k4 c6 (n := 87) rfl ?_
    obtain ⟨a7, e8, h⟩ := h
    obtain ⟨n10, k9, h⟩ := h
    obtain ⟨c11, h⟩ := h
    refine x_iald e8 dM_gatherAll_87 k9 c11 (n := 88) rfl ?_
    refine x_aload_n dM_gatherAll_88 rfl (n := 89) rfl ?_
    refine x_getR rfl dM_gatherAll_89 fM_38 k1 (n := 92) rfl ?_
    refine x_iload dM_gatherAll_92 rfl (n := 94) rfl ?_
    obtain ⟨c12, h⟩ := h
    refine x_iald e8 dM_gatherAll_94 k9 c12 (n := 95) rfl ?_
    obtain ⟨h, h'⟩ := h
    refine x_icmp_le (tgt := 120) dM_gatherAll_95 rfl (n := 98) rfl (fun c16 => ?_) (fun c16 => ?_)
    · replace h := h c16
      exact h
    · replace h := h' c16
      refine x_aload_n dM_gatherAll_98 rfl (n := 99) rfl ?_
      refine x_getR rfl dM_gatherAll_99 fM_53 k1 (n := 102) rfl ?_
      refine x_iload dM_gatherAll_102 rfl (n := 104) rfl ?_
      refine x_aload_n dM_gatherAll_104 rfl (n := 105) rfl ?_
      refine x_getR rfl dM_gatherAll_105 fM_53 k1 (n := 108) rfl ?_
      refine x_iload dM_gatherAll_108 rfl (n := 110) rfl ?_
      refine x_iconst (v := 1) dM_gatherAll_110 (by decide) (n := 111) rfl ?_
      refine x_isub dM_gatherAll_111 (n := 112) rfl ?_
      obtain ⟨c13, h⟩ := h
      refine x_iald e3 dM_gatherAll_112 k4 c13 (n := 113) rfl ?_
      obtain ⟨c14, h⟩ := h
      replace h := h _ rfl
      refine x_iast e3 dM_gatherAll_113 k4 c14 (n := 114) rfl ?_
      refine x_iinc (v := x5 + (-1)) dM_gatherAll_114 rfl rfl (by decide) (L' := [some (vR (some a0)), some (vI x1), some (vI x2), some (vI x3), some (vI x4), some (vI (x5 + (-1)))]) rfl (n := 117) rfl ?_
      refine x_goto (tgt := 69) dM_gatherAll_117 rfl ?_
      exact h
set_option maxRecDepth 100000 in
set_option maxHeartbeats 4000000 in
theorem bM_gatherAll_120 {l : Launch} {G : xG} {m : XM} {bc bs : Nat} {Q : XR → XM → Prop} {a0 : Nat} {x1 : Int32} {x2 : Int32} {x3 : Int32} {x4 : Int32} {x5 : Int32}
    (h : kd m a0 = some (oB 5) ∧ ∃ a2, gR m a0 19 = some a2 ∧ ∃ n5, kd m a2 = some (aR 0 n5) ∧ vp_in x5 n5 ∧ ∀ m7, m7 = mI m a2 x5.toNatClampNeg x4 → ∀ m8, m8 = mI m7 a0 18 ((gI m7 a0 18) + (1 : Int32)) → WW l G xM_gatherAll 16 [some (vR (some a0)), some (vI x1), some (vI x2), some (vI (x3 + 1)), none, none] [] m8 bc bs Q) :
    WW l G xM_gatherAll 120 [some (vR (some a0)), some (vI x1), some (vI x2), some (vI x3), some (vI x4), some (vI x5)] [] m bc bs Q := by
  refine x_aload_n dM_gatherAll_120 rfl (n := 121) rfl ?_
  obtain ⟨k1, h⟩ := h
  refine x_getR rfl dM_gatherAll_121 fM_53 k1 (n := 124) rfl ?_
  refine x_iload dM_gatherAll_124 rfl (n := 126) rfl ?_
  refine x_iload dM_gatherAll_126 rfl (n := 128) rfl ?_
  obtain ⟨a2, e3, h⟩ := h
  obtain ⟨n5, k4, h⟩ := h
  obtain ⟨c6, h⟩ := h
  replace h := h _ rfl
  refine x_iast e3 dM_gatherAll_128 k4 c6 (n := 129) rfl ?_
  refine x_aload_n dM_gatherAll_129 rfl (n := 130) rfl ?_
  refine x_dup dM_gatherAll_130 rfl (n := 131) rfl ?_
  refine x_getI rfl dM_gatherAll_131 fM_83 k1 (n := 134) rfl ?_
  refine x_iconst (v := 1) dM_gatherAll_134 (by decide) (n := 135) rfl ?_
  refine x_iadd dM_gatherAll_135 (n := 136) rfl ?_
  replace h := h _ rfl
  refine x_putI rfl dM_gatherAll_136 pM_83 k1 rfl rfl (n := 139) rfl ?_
  refine x_iinc (v := x3 + 1) dM_gatherAll_139 rfl rfl (by decide) (L' := [some (vR (some a0)), some (vI x1), some (vI x2), some (vI (x3 + 1)), some (vI x4), some (vI x5)]) rfl (n := 142) rfl ?_
  refine x_goto (tgt := 16) dM_gatherAll_142 rfl ?_
  exact x_weak (b := [true, true, true, true, false, false]) rfl h
set_option maxRecDepth 100000 in
set_option maxHeartbeats 4000000 in
theorem bM_gatherAll {l : Launch} {G : xG} {m : XM} {Q : XR → XM → Prop} {a0 : Nat} {x1 : Int32} (hst : l.stackTraces = false)
    (h : kd m a0 = some (oB 5) ∧ ∀ m2, m2 = mI m a0 18 (0 : Int32) → WW l G xM_gatherAll 8 [some (vR (some a0)), some (vI x1), some (vI (64 : Int32)), none, none, none] [] m2 0 0 Q) :
    CC l G xM_gatherAll [vR (some a0), vI x1] m Q := by
  refine x_entry (by decide +kernel) rfl hst (Nat.le_of_ble_eq_true rfl) (L0 := [some (vR (some a0)), some (vI x1), none, none, none, none]) rfl ?_
  refine x_aload_n dM_gatherAll_0 rfl (n := 1) rfl ?_
  refine x_iconst (v := 0) dM_gatherAll_1 (by decide) (n := 2) rfl ?_
  obtain ⟨k1, h⟩ := h
  replace h := h _ rfl
  refine x_putI rfl dM_gatherAll_2 pM_83 k1 rfl rfl (n := 5) rfl ?_
  refine x_bipush (v := 64) dM_gatherAll_5 (by decide) (n := 7) rfl ?_
  refine x_istore_n dM_gatherAll_7 (by decide) (L' := [some (vR (some a0)), some (vI x1), some (vI (64 : Int32)), none, none, none]) rfl (n := 8) rfl ?_
  exact h
set_option maxRecDepth 100000 in
set_option maxHeartbeats 4000000 in
theorem bM_moveAll_26 {l : Launch} {G : xG} {m : XM} {bc bs : Nat} {Q : XR → XM → Prop} {a0 : Nat} {x1 : Int32} {x2 : Int32}
    (h : kd m a0 = some (oB 5) ∧ (((gI m a0 18) ≤ x2 → CC l G xM_dropFirst [vR (some a0), vI x1, vI (0 : Int32), vI (5 : Int32)] m (kV (fun m2 => kd m2 a0 = some (oB 5) ∧ CC l G xM_dropFirst [vR (some a0), vI x1, vI (1 : Int32), vI (6 : Int32)] m2 (kV (fun m4 => WW l G xM_moveAll 93 [some (vR (some a0)), some (vI x1), some (vI x2), none] [] m4 bc bs Q) Q)) Q)) ∧ (¬ (gI m a0 18) ≤ x2 → ∃ a5, gR m a0 19 = some a5 ∧ ∃ n8, kd m a5 = some (aR 0 n8) ∧ vp_in x2 n8 ∧ ∃ a10, gR m a0 9 = some a10 ∧ ∃ n13, kd m a10 = some (aR 1 n13) ∧ vp_in (gI m a5 x2.toNatClampNeg) n13 ∧ ∀ m15, m15 = mI m a10 (gI m a5 x2.toNatClampNeg).toNatClampNeg (0 : Int32) → vp_in x2 n8 ∧ ∃ a17, gR m a0 6 = some a17 ∧ ∃ n20, kd m a17 = some (aR 2 n20) ∧ vp_in (gI m15 a5 x2.toNatClampNeg) n20 ∧ CC l G xM_inSet [vR (some a0), vL (gL m a17 (gI m15 a5 x2.toNatClampNeg).toNatClampNeg)] m15 (kI (fun v23 m22 => ((v23 < 0 → WW l G xM_moveAll 26 [some (vR (some a0)), some (vI x1), some (vI (x2 + 1)), none] [] m22 bc bs Q) ∧ (¬ v23 < 0 → kd m22 a0 = some (oB 5) ∧ CC l G xM_takeOut [vR (some a0), vI x1, vI v23] m22 (kV (fun m25 => WW l G xM_moveAll 26 [some (vR (some a0)), some (vI x1), some (vI (x2 + 1)), none] [] m25 bc bs Q) Q)))) Q)))) :
    WW l G xM_moveAll 26 [some (vR (some a0)), some (vI x1), some (vI x2), none] [] m bc bs Q := by
  refine x_iload_n dM_moveAll_26 rfl (n := 27) rfl ?_
  refine x_aload_n dM_moveAll_27 rfl (n := 28) rfl ?_
  obtain ⟨k1, h⟩ := h
  refine x_getI rfl dM_moveAll_28 fM_83 k1 (n := 31) rfl ?_
  obtain ⟨h, h'⟩ := h
  refine x_icmp_ge (tgt := 78) dM_moveAll_31 rfl (n := 34) rfl (fun c27 => ?_) (fun c27 => ?_)
  · replace h := h c27
    refine x_aload_n dM_moveAll_78 rfl (n := 79) rfl ?_
    refine x_iload_n dM_moveAll_79 rfl (n := 80) rfl ?_
    refine x_iconst (v := 0) dM_moveAll_80 (by decide) (n := 81) rfl ?_
    refine x_iconst (v := 5) dM_moveAll_81 (by decide) (n := 82) rfl ?_
    refine x_invV (m := m) rfl dM_moveAll_82 gM_moveAll_82 (as := [vI x1, vI (0 : Int32), vI (5 : Int32)]) (st := []) rfl rfl k1 rfl rfl (Nat.le_of_ble_eq_true rfl) (n := 85) rfl rfl rfl h (xBk.V fun m2 h => ?_)
    refine x_aload_n dM_moveAll_85 rfl (n := 86) rfl ?_
    refine x_iload_n dM_moveAll_86 rfl (n := 87) rfl ?_
    refine x_iconst (v := 1) dM_moveAll_87 (by decide) (n := 88) rfl ?_
    refine x_bipush (v := 6) dM_moveAll_88 (by decide) (n := 90) rfl ?_
    obtain ⟨k3, h⟩ := h
    refine x_invV (m := m2) rfl dM_moveAll_90 gM_moveAll_90 (as := [vI x1, vI (1 : Int32), vI (6 : Int32)]) (st := []) rfl rfl k3 rfl rfl (Nat.le_of_ble_eq_true rfl) (n := 93) rfl rfl rfl h (xBk.V fun m4 h => ?_)
    exact h
  · replace h := h' c27
    refine x_aload_n dM_moveAll_34 rfl (n := 35) rfl ?_
    refine x_getR rfl dM_moveAll_35 fM_31 k1 (n := 38) rfl ?_
    refine x_aload_n dM_moveAll_38 rfl (n := 39) rfl ?_
    refine x_getR rfl dM_moveAll_39 fM_53 k1 (n := 42) rfl ?_
    refine x_iload_n dM_moveAll_42 rfl (n := 43) rfl ?_
    obtain ⟨a5, e6, h⟩ := h
    obtain ⟨n8, k7, h⟩ := h
    obtain ⟨c9, h⟩ := h
    refine x_iald e6 dM_moveAll_43 k7 c9 (n := 44) rfl ?_
    refine x_iconst (v := 0) dM_moveAll_44 (by decide) (n := 45) rfl ?_
    obtain ⟨a10, e11, h⟩ := h
    obtain ⟨n13, k12, h⟩ := h
    obtain ⟨c14, h⟩ := h
    replace h := h _ rfl
    refine x_zast e11 dM_moveAll_45 k12 c14 (by decide) (n := 46) rfl ?_
    refine x_aload_n dM_moveAll_46 rfl (n := 47) rfl ?_
    refine x_aload_n dM_moveAll_47 rfl (n := 48) rfl ?_
    refine x_getR rfl dM_moveAll_48 fM_20 k1 (n := 51) rfl ?_
    refine x_aload_n dM_moveAll_51 rfl (n := 52) rfl ?_
    refine x_getR rfl dM_moveAll_52 fM_53 k1 (n := 55) rfl ?_
    refine x_iload_n dM_moveAll_55 rfl (n := 56) rfl ?_
    obtain ⟨c16, h⟩ := h
    refine x_iald e6 dM_moveAll_56 k7 c16 (n := 57) rfl ?_
    obtain ⟨a17, e18, h⟩ := h
    obtain ⟨n20, k19, h⟩ := h
    obtain ⟨c21, h⟩ := h
    refine x_lald e18 dM_moveAll_57 k19 c21 (n := 58) rfl ?_
    refine x_invV (m := (mI m a10 (gI m a5 x2.toNatClampNeg).toNatClampNeg (0 : Int32))) rfl dM_moveAll_58 gM_moveAll_58 (as := [vL (gL m a17 (gI (mI m a10 (gI m a5 x2.toNatClampNeg).toNatClampNeg (0 : Int32)) a5 x2.toNatClampNeg).toNatClampNeg)]) (st := []) rfl rfl k1 rfl rfl (Nat.le_of_ble_eq_true rfl) (n := 61) rfl rfl rfl h (xBk.I fun v23 m22 h => ?_)
    refine x_istore_n dM_moveAll_61 (by decide) (L' := [some (vR (some a0)), some (vI x1), some (vI x2), some (vI v23)]) rfl (n := 62) rfl ?_
    refine x_iload_n dM_moveAll_62 rfl (n := 63) rfl ?_
    obtain ⟨h, h'⟩ := h
    refine x_if_lt (tgt := 72) dM_moveAll_63 rfl (n := 66) rfl (fun c26 => ?_) (fun c26 => ?_)
    · replace h := h c26
      refine x_iinc (v := x2 + 1) dM_moveAll_72 rfl rfl (by decide) (L' := [some (vR (some a0)), some (vI x1), some (vI (x2 + 1)), some (vI v23)]) rfl (n := 75) rfl ?_
      refine x_goto (tgt := 26) dM_moveAll_75 rfl ?_
      exact x_weak (b := [true, true, true, false]) rfl h
    · replace h := h' c26
      refine x_aload_n dM_moveAll_66 rfl (n := 67) rfl ?_
      refine x_iload_n dM_moveAll_67 rfl (n := 68) rfl ?_
      refine x_iload_n dM_moveAll_68 rfl (n := 69) rfl ?_
      obtain ⟨k24, h⟩ := h
      refine x_invV (m := m22) rfl dM_moveAll_69 gM_moveAll_69 (as := [vI x1, vI v23]) (st := []) rfl rfl k24 rfl rfl (Nat.le_of_ble_eq_true rfl) (n := 72) rfl rfl rfl h (xBk.V fun m25 h => ?_)
      refine x_iinc (v := x2 + 1) dM_moveAll_72 rfl rfl (by decide) (L' := [some (vR (some a0)), some (vI x1), some (vI (x2 + 1)), some (vI v23)]) rfl (n := 75) rfl ?_
      refine x_goto (tgt := 26) dM_moveAll_75 rfl ?_
      exact x_weak (b := [true, true, true, false]) rfl h
set_option maxRecDepth 100000 in
set_option maxHeartbeats 4000000 in
theorem bM_moveAll_93 {l : Launch} {G : xG} {m : XM} {bc bs : Nat} {Q : XR → XM → Prop} {a0 : Nat} {x1 : Int32} {x2 : Int32}
    (h : kd m a0 = some (oB 5) ∧ CC l G xM_needAll [vR (some a0), vI x1] m (kI (fun v3 m2 => ((v3 ≤ (32 : Int32) → WW l G xM_moveAll 159 [some (vR (some a0)), some (vI x1), some (vI (0 : Int32)), none] [] m2 bc bs Q) ∧ (¬ v3 ≤ (32 : Int32) → kd m2 a0 = some (oB 5) ∧ ∀ m5, m5 = mI m2 a0 18 ((gI m2 a0 18) - (1 : Int32)) → WW l G xM_moveAll 115 [some (vR (some a0)), some (vI x1), some (vI (0 : Int32)), none] [] m5 bc bs Q))) Q)) :
    WW l G xM_moveAll 93 [some (vR (some a0)), some (vI x1), some (vI x2), none] [] m bc bs Q := by
  refine x_aload_n dM_moveAll_93 rfl (n := 94) rfl ?_
  refine x_iload_n dM_moveAll_94 rfl (n := 95) rfl ?_
  obtain ⟨k1, h⟩ := h
  refine x_invV (m := m) rfl dM_moveAll_95 gM_moveAll_95 (as := [vI x1]) (st := []) rfl rfl k1 rfl rfl (Nat.le_of_ble_eq_true rfl) (n := 98) rfl rfl rfl h (xBk.I fun v3 m2 h => ?_)
  refine x_bipush (v := 32) dM_moveAll_98 (by decide) (n := 100) rfl ?_
  obtain ⟨h, h'⟩ := h
  refine x_icmp_le (tgt := 157) dM_moveAll_100 rfl (n := 103) rfl (fun c6 => ?_) (fun c6 => ?_)
  · replace h := h c6
    refine x_iconst (v := 0) dM_moveAll_157 (by decide) (n := 158) rfl ?_
    refine x_istore_n dM_moveAll_158 (by decide) (L' := [some (vR (some a0)), some (vI x1), some (vI (0 : Int32)), none]) rfl (n := 159) rfl ?_
    exact h
  · replace h := h' c6
    refine x_aload_n dM_moveAll_103 rfl (n := 104) rfl ?_
    refine x_dup dM_moveAll_104 rfl (n := 105) rfl ?_
    obtain ⟨k4, h⟩ := h
    refine x_getI rfl dM_moveAll_105 fM_83 k4 (n := 108) rfl ?_
    refine x_iconst (v := 1) dM_moveAll_108 (by decide) (n := 109) rfl ?_
    refine x_isub dM_moveAll_109 (n := 110) rfl ?_
    replace h := h _ rfl
    refine x_putI rfl dM_moveAll_110 pM_83 k4 rfl rfl (n := 113) rfl ?_
    refine x_iconst (v := 0) dM_moveAll_113 (by decide) (n := 114) rfl ?_
    refine x_istore_n dM_moveAll_114 (by decide) (L' := [some (vR (some a0)), some (vI x1), some (vI (0 : Int32)), none]) rfl (n := 115) rfl ?_
    exact h
set_option maxRecDepth 100000 in
set_option maxHeartbeats 4000000 in
theorem bM_moveAll_115 {l : Launch} {G : xG} {m : XM} {bc bs : Nat} {Q : XR → XM → Prop} {a0 : Nat} {x1 : Int32} {x2 : Int32}
    (h : kd m a0 = some (oB 5) ∧ (((gI m a0 18) ≤ x2 → ∃ a2, gR m a0 23 = some a2 ∧ ∃ n5, kd m a2 = some (aR 0 n5) ∧ vp_in (7 : Int32) n5 ∧ vp_in (7 : Int32) n5 ∧ ∀ m8, m8 = mI m a2 (7 : Int32).toNatClampNeg ((gI m a2 (7 : Int32).toNatClampNeg) + (1 : Int32)) → WW l G xM_moveAll 93 [some (vR (some a0)), some (vI x1), some (vI x2), none] [] m8 bc bs Q) ∧ (¬ (gI m a0 18) ≤ x2 → ∃ a9, gR m a0 19 = some a9 ∧ ∃ n12, kd m a9 = some (aR 0 n12) ∧ vp_in (x2 + (1 : Int32)) n12 ∧ vp_in x2 n12 ∧ ∀ m15, m15 = mI m a9 x2.toNatClampNeg (gI m a9 (x2 + (1 : Int32)).toNatClampNeg) → WW l G xM_moveAll 115 [some (vR (some a0)), some (vI x1), some (vI (x2 + 1)), none] [] m15 bc bs Q))) :
    WW l G xM_moveAll 115 [some (vR (some a0)), some (vI x1), some (vI x2), none] [] m bc bs Q := by
  refine x_iload_n dM_moveAll_115 rfl (n := 116) rfl ?_
  refine x_aload_n dM_moveAll_116 rfl (n := 117) rfl ?_
  obtain ⟨k1, h⟩ := h
  refine x_getI rfl dM_moveAll_117 fM_83 k1 (n := 120) rfl ?_
  obtain ⟨h, h'⟩ := h
  refine x_icmp_ge (tgt := 143) dM_moveAll_120 rfl (n := 123) rfl (fun c16 => ?_) (fun c16 => ?_)
  · replace h := h c16
    refine x_aload_n dM_moveAll_143 rfl (n := 144) rfl ?_
    refine x_getR rfl dM_moveAll_144 fM_62 k1 (n := 147) rfl ?_
    refine x_bipush (v := 7) dM_moveAll_147 (by decide) (n := 149) rfl ?_
    refine x_dup2 dM_moveAll_149 rfl rfl (n := 150) rfl ?_
    obtain ⟨a2, e3, h⟩ := h
    obtain ⟨n5, k4, h⟩ := h
    obtain ⟨c6, h⟩ := h
    refine x_iald e3 dM_moveAll_150 k4 c6 (n := 151) rfl ?_
    refine x_iconst (v := 1) dM_moveAll_151 (by decide) (n := 152) rfl ?_
    refine x_iadd dM_moveAll_152 (n := 153) rfl ?_
    obtain ⟨c7, h⟩ := h
    replace h := h _ rfl
    refine x_iast e3 dM_moveAll_153 k4 c7 (n := 154) rfl ?_
    refine x_goto (tgt := 93) dM_moveAll_154 rfl ?_
    exact h
  · replace h := h' c16
    refine x_aload_n dM_moveAll_123 rfl (n := 124) rfl ?_
    refine x_getR rfl dM_moveAll_124 fM_53 k1 (n := 127) rfl ?_
    refine x_iload_n dM_moveAll_127 rfl (n := 128) rfl ?_
    refine x_aload_n dM_moveAll_128 rfl (n := 129) rfl ?_
    refine x_getR rfl dM_moveAll_129 fM_53 k1 (n := 132) rfl ?_
    refine x_iload_n dM_moveAll_132 rfl (n := 133) rfl ?_
    refine x_iconst (v := 1) dM_moveAll_133 (by decide) (n := 134) rfl ?_
    refine x_iadd dM_moveAll_134 (n := 135) rfl ?_
    obtain ⟨a9, e10, h⟩ := h
    obtain ⟨n12, k11, h⟩ := h
    obtain ⟨c13, h⟩ := h
    refine x_iald e10 dM_moveAll_135 k11 c13 (n := 136) rfl ?_
    obtain ⟨c14, h⟩ := h
    replace h := h _ rfl
    refine x_iast e10 dM_moveAll_136 k11 c14 (n := 137) rfl ?_
    refine x_iinc (v := x2 + 1) dM_moveAll_137 rfl rfl (by decide) (L' := [some (vR (some a0)), some (vI x1), some (vI (x2 + 1)), none]) rfl (n := 140) rfl ?_
    refine x_goto (tgt := 115) dM_moveAll_140 rfl ?_
    exact h
set_option maxRecDepth 100000 in
set_option maxHeartbeats 4000000 in
theorem bM_moveAll_159 {l : Launch} {G : xG} {m : XM} {bc bs : Nat} {Q : XR → XM → Prop} {a0 : Nat} {x1 : Int32} {x2 : Int32}
    (h : kd m a0 = some (oB 5) ∧ ∃ a2, gR m a0 14 = some a2 ∧ ∃ n5, kd m a2 = some (aR 0 n5) ∧ vp_in x1 n5 ∧ (((gI m a2 x1.toNatClampNeg) ≤ x2 → WW l G xM_moveAll 194 [some (vR (some a0)), some (vI x1), some (vI (0 : Int32)), none] [] m bc bs Q) ∧ (¬ (gI m a2 x1.toNatClampNeg) ≤ x2 → ∃ a7, gR m a0 15 = some a7 ∧ ∃ n10, kd m a7 = some (aR 0 n10) ∧ vp_in (((8 : Int32) * x1) + x2) n10 ∧ ∃ a12, gR m a0 12 = some a12 ∧ ∃ n15, kd m a12 = some (aR 1 n15) ∧ vp_in (gI m a7 (((8 : Int32) * x1) + x2).toNatClampNeg) n15 ∧ ∀ m17, m17 = mI m a12 (gI m a7 (((8 : Int32) * x1) + x2).toNatClampNeg).toNatClampNeg (0 : Int32) → WW l G xM_moveAll 159 [some (vR (some a0)), some (vI x1), some (vI (x2 + 1)), none] [] m17 bc bs Q))) :
    WW l G xM_moveAll 159 [some (vR (some a0)), some (vI x1), some (vI x2), none] [] m bc bs Q := by
  refine x_iload_n dM_moveAll_159 rfl (n := 160) rfl ?_
  refine x_aload_n dM_moveAll_160 rfl (n := 161) rfl ?_
  obtain ⟨k1, h⟩ := h
  refine x_getR rfl dM_moveAll_161 fM_44 k1 (n := 164) rfl ?_
  refine x_iload_n dM_moveAll_164 rfl (n := 165) rfl ?_
  obtain ⟨a2, e3, h⟩ := h
  obtain ⟨n5, k4, h⟩ := h
  obtain ⟨c6, h⟩ := h
  refine x_iald e3 dM_moveAll_165 k4 c6 (n := 166) rfl ?_
  obtain ⟨h, h'⟩ := h
  refine x_icmp_ge (tgt := 192) dM_moveAll_166 rfl (n := 169) rfl (fun c18 => ?_) (fun c18 => ?_)
  · replace h := h c18
    refine x_iconst (v := 0) dM_moveAll_192 (by decide) (n := 193) rfl ?_
    refine x_istore_n dM_moveAll_193 (by decide) (L' := [some (vR (some a0)), some (vI x1), some (vI (0 : Int32)), none]) rfl (n := 194) rfl ?_
    exact h
  · replace h := h' c18
    refine x_aload_n dM_moveAll_169 rfl (n := 170) rfl ?_
    refine x_getR rfl dM_moveAll_170 fM_41 k1 (n := 173) rfl ?_
    refine x_aload_n dM_moveAll_173 rfl (n := 174) rfl ?_
    refine x_getR rfl dM_moveAll_174 fM_47 k1 (n := 177) rfl ?_
    refine x_bipush (v := 8) dM_moveAll_177 (by decide) (n := 179) rfl ?_
    refine x_iload_n dM_moveAll_179 rfl (n := 180) rfl ?_
    refine x_imul dM_moveAll_180 (n := 181) rfl ?_
    refine x_iload_n dM_moveAll_181 rfl (n := 182) rfl ?_
    refine x_iadd dM_moveAll_182 (n := 183) rfl ?_
    obtain ⟨a7, e8, h⟩ := h
    obtain ⟨n10, k9, h⟩ := h
    obtain ⟨c11, h⟩ := h
    refine x_iald e8 dM_moveAll_183 k9 c11 (n := 184) rfl ?_
    refine x_iconst (v := 0) dM_moveAll_184 (by decide) (n := 185) rfl ?_
    obtain ⟨a12, e13, h⟩ := h
    obtain ⟨n15, k14, h⟩ := h
    obtain ⟨c16, h⟩ := h
    replace h := h _ rfl
    refine x_zast e13 dM_moveAll_185 k14 c16 (by decide) (n := 186) rfl ?_
    refine x_iinc (v := x2 + 1) dM_moveAll_186 rfl rfl (by decide) (L' := [some (vR (some a0)), some (vI x1), some (vI (x2 + 1)), none]) rfl (n := 189) rfl ?_
    refine x_goto (tgt := 159) dM_moveAll_189 rfl ?_
    exact h
set_option maxRecDepth 100000 in
set_option maxHeartbeats 4000000 in
theorem bM_moveAll_194 {l : Launch} {G : xG} {m : XM} {bc bs : Nat} {Q : XR → XM → Prop} {a0 : Nat} {x1 : Int32} {x2 : Int32}
    (h : kd m a0 = some (oB 5) ∧ (((gI m a0 18) ≤ x2 → ∃ a2, gR m a0 23 = some a2 ∧ ∃ n5, kd m a2 = some (aR 0 n5) ∧ vp_in (1 : Int32) n5 ∧ vp_in (1 : Int32) n5 ∧ ∀ m8, m8 = mI m a2 (1 : Int32).toNatClampNeg ((gI m a2 (1 : Int32).toNatClampNeg) + (1 : Int32)) → Q (.inl none) m8) ∧ (¬ (gI m a0 18) ≤ x2 → ∃ a9, gR m a0 19 = some a9 ∧ ∃ n12, kd m a9 = some (aR 0 n12) ∧ vp_in x2 n12 ∧ CC l G xM_copy [vR (some a0), vI (gI m a9 x2.toNatClampNeg)] m (kI (fun v15 m14 => kd m14 a0 = some (oB 5) ∧ CC l G xM_append [vR (some a0), vI x1, vI v15] m14 (kV (fun m17 => WW l G xM_moveAll 194 [some (vR (some a0)), some (vI x1), some (vI (x2 + 1)), none] [] m17 bc bs Q) Q)) Q)))) :
    WW l G xM_moveAll 194 [some (vR (some a0)), some (vI x1), some (vI x2), none] [] m bc bs Q := by
  refine x_iload_n dM_moveAll_194 rfl (n := 195) rfl ?_
  refine x_aload_n dM_moveAll_195 rfl (n := 196) rfl ?_
  obtain ⟨k1, h⟩ := h
  refine x_getI rfl dM_moveAll_196 fM_83 k1 (n := 199) rfl ?_
  obtain ⟨h, h'⟩ := h
  refine x_icmp_ge (tgt := 225) dM_moveAll_199 rfl (n := 202) rfl (fun c18 => ?_) (fun c18 => ?_)
  · replace h := h c18
    refine x_aload_n dM_moveAll_225 rfl (n := 226) rfl ?_
    refine x_getR rfl dM_moveAll_226 fM_62 k1 (n := 229) rfl ?_
    refine x_iconst (v := 1) dM_moveAll_229 (by decide) (n := 230) rfl ?_
    refine x_dup2 dM_moveAll_230 rfl rfl (n := 231) rfl ?_
    obtain ⟨a2, e3, h⟩ := h
    obtain ⟨n5, k4, h⟩ := h
    obtain ⟨c6, h⟩ := h
    refine x_iald e3 dM_moveAll_231 k4 c6 (n := 232) rfl ?_
    refine x_iconst (v := 1) dM_moveAll_232 (by decide) (n := 233) rfl ?_
    refine x_iadd dM_moveAll_233 (n := 234) rfl ?_
    obtain ⟨c7, h⟩ := h
    replace h := h _ rfl
    refine x_iast e3 dM_moveAll_234 k4 c7 (n := 235) rfl ?_
    exact x_vret dM_moveAll_235 rfl h
  · replace h := h' c18
    refine x_aload_n dM_moveAll_202 rfl (n := 203) rfl ?_
    refine x_aload_n dM_moveAll_203 rfl (n := 204) rfl ?_
    refine x_getR rfl dM_moveAll_204 fM_53 k1 (n := 207) rfl ?_
    refine x_iload_n dM_moveAll_207 rfl (n := 208) rfl ?_
    obtain ⟨a9, e10, h⟩ := h
    obtain ⟨n12, k11, h⟩ := h
    obtain ⟨c13, h⟩ := h
    refine x_iald e10 dM_moveAll_208 k11 c13 (n := 209) rfl ?_
    refine x_invV (m := m) rfl dM_moveAll_209 gM_moveAll_209 (as := [vI (gI m a9 x2.toNatClampNeg)]) (st := []) rfl rfl k1 rfl rfl (Nat.le_of_ble_eq_true rfl) (n := 212) rfl rfl rfl h (xBk.I fun v15 m14 h => ?_)
    refine x_istore_n dM_moveAll_212 (by decide) (L' := [some (vR (some a0)), some (vI x1), some (vI x2), some (vI v15)]) rfl (n := 213) rfl ?_
    refine x_aload_n dM_moveAll_213 rfl (n := 214) rfl ?_
    refine x_iload_n dM_moveAll_214 rfl (n := 215) rfl ?_
    refine x_iload_n dM_moveAll_215 rfl (n := 216) rfl ?_
    obtain ⟨k16, h⟩ := h
    refine x_invV (m := m14) rfl dM_moveAll_216 gM_moveAll_216 (as := [vI x1, vI v15]) (st := []) rfl rfl k16 rfl rfl (Nat.le_of_ble_eq_true rfl) (n := 219) rfl rfl rfl h (xBk.V fun m17 h => ?_)
    refine x_iinc (v := x2 + 1) dM_moveAll_219 rfl rfl (by decide) (L' := [some (vR (some a0)), some (vI x1), some (vI (x2 + 1)), some (vI v15)]) rfl (n := 222) rfl ?_
    refine x_goto (tgt := 194) dM_moveAll_222 rfl ?_
    exact x_weak (b := [true, true, true, false]) rfl h
set_option maxRecDepth 100000 in
set_option maxHeartbeats 4000000 in
theorem bM_moveAll {l : Launch} {G : xG} {m : XM} {Q : XR → XM → Prop} {a0 : Nat} {x1 : Int32} (hst : l.stackTraces = false)
    (h : kd m a0 = some (oB 5) ∧ ∃ a2, gR m a0 23 = some a2 ∧ ∃ n5, kd m a2 = some (aR 0 n5) ∧ vp_in (9 : Int32) n5 ∧ vp_in (9 : Int32) n5 ∧ ∀ m8, m8 = mI m a2 (9 : Int32).toNatClampNeg ((gI m a2 (9 : Int32).toNatClampNeg) + (1 : Int32)) → vp_in (4 : Int32) n5 ∧ vp_in (4 : Int32) n5 ∧ ∀ m11, m11 = mI m8 a2 (4 : Int32).toNatClampNeg ((gI m8 a2 (4 : Int32).toNatClampNeg) + (gI m8 a0 18)) → WW l G xM_moveAll 26 [some (vR (some a0)), some (vI x1), some (vI (0 : Int32)), none] [] m11 0 0 Q) :
    CC l G xM_moveAll [vR (some a0), vI x1] m Q := by
  refine x_entry (by decide +kernel) rfl hst (Nat.le_of_ble_eq_true rfl) (L0 := [some (vR (some a0)), some (vI x1), none, none]) rfl ?_
  refine x_aload_n dM_moveAll_0 rfl (n := 1) rfl ?_
  obtain ⟨k1, h⟩ := h
  refine x_getR rfl dM_moveAll_1 fM_62 k1 (n := 4) rfl ?_
  refine x_bipush (v := 9) dM_moveAll_4 (by decide) (n := 6) rfl ?_
  refine x_dup2 dM_moveAll_6 rfl rfl (n := 7) rfl ?_
  obtain ⟨a2, e3, h⟩ := h
  obtain ⟨n5, k4, h⟩ := h
  obtain ⟨c6, h⟩ := h
  refine x_iald e3 dM_moveAll_7 k4 c6 (n := 8) rfl ?_
  refine x_iconst (v := 1) dM_moveAll_8 (by decide) (n := 9) rfl ?_
  refine x_iadd dM_moveAll_9 (n := 10) rfl ?_
  obtain ⟨c7, h⟩ := h
  replace h := h _ rfl
  refine x_iast e3 dM_moveAll_10 k4 c7 (n := 11) rfl ?_
  refine x_aload_n dM_moveAll_11 rfl (n := 12) rfl ?_
  refine x_getR rfl dM_moveAll_12 fM_62 k1 (n := 15) rfl ?_
  refine x_iconst (v := 4) dM_moveAll_15 (by decide) (n := 16) rfl ?_
  refine x_dup2 dM_moveAll_16 rfl rfl (n := 17) rfl ?_
  obtain ⟨c9, h⟩ := h
  refine x_iald e3 dM_moveAll_17 k4 c9 (n := 18) rfl ?_
  refine x_aload_n dM_moveAll_18 rfl (n := 19) rfl ?_
  refine x_getI rfl dM_moveAll_19 fM_83 k1 (n := 22) rfl ?_
  refine x_iadd dM_moveAll_22 (n := 23) rfl ?_
  obtain ⟨c10, h⟩ := h
  replace h := h _ rfl
  refine x_iast e3 dM_moveAll_23 k4 c10 (n := 24) rfl ?_
  refine x_iconst (v := 0) dM_moveAll_24 (by decide) (n := 25) rfl ?_
  refine x_istore_n dM_moveAll_25 (by decide) (L' := [some (vR (some a0)), some (vI x1), some (vI (0 : Int32)), none]) rfl (n := 26) rfl ?_
  exact h
set_option maxRecDepth 100000 in
set_option maxHeartbeats 4000000 in
theorem bM_inSet_11 {l : Launch} {G : xG} {m : XM} {bc bs : Nat} {Q : XR → XM → Prop} {a0 : Nat} {x1 : Int64} {x3 : Int32} {x4 : Int32} {x5 : Int32}
    (h : kd m a0 = some (oB 5) ∧ ∃ a2, gR m a0 14 = some a2 ∧ ∃ n5, kd m a2 = some (aR 0 n5) ∧ vp_in x3 n5 ∧ (((gI m a2 x3.toNatClampNeg) ≤ x5 → Q (.inl (some (vI x4))) m) ∧ (¬ (gI m a2 x3.toNatClampNeg) ≤ x5 → ∃ a7, gR m a0 15 = some a7 ∧ ∃ n10, kd m a7 = some (aR 0 n10) ∧ vp_in (((8 : Int32) * x3) + x5) n10 ∧ ∃ a12, gR m a0 6 = some a12 ∧ ∃ n15, kd m a12 = some (aR 2 n15) ∧ vp_in (gI m a7 (((8 : Int32) * x3) + x5).toNatClampNeg) n15 ∧ ((¬ (lg_cmp (gL m a12 (gI m a7 (((8 : Int32) * x3) + x5).toNatClampNeg).toNatClampNeg) x1) = 0 → WW l G xM_inSet 11 [some (vR (some a0)), some (vL x1), none, some (vI x3), some (vI x4), some (vI (x5 + 1))] [] m bc bs Q) ∧ ((lg_cmp (gL m a12 (gI m a7 (((8 : Int32) * x3) + x5).toNatClampNeg).toNatClampNeg) x1) = 0 → WW l G xM_inSet 11 [some (vR (some a0)), some (vL x1), none, some (vI x3), some (vI x5), some (vI (x5 + 1))] [] m bc bs Q))))) :
    WW l G xM_inSet 11 [some (vR (some a0)), some (vL x1), none, some (vI x3), some (vI x4), some (vI x5)] [] m bc bs Q := by
  refine x_iload dM_inSet_11 rfl (n := 13) rfl ?_
  refine x_aload_n dM_inSet_13 rfl (n := 14) rfl ?_
  obtain ⟨k1, h⟩ := h
  refine x_getR rfl dM_inSet_14 fM_44 k1 (n := 17) rfl ?_
  refine x_iload_n dM_inSet_17 rfl (n := 18) rfl ?_
  obtain ⟨a2, e3, h⟩ := h
  obtain ⟨n5, k4, h⟩ := h
  obtain ⟨c6, h⟩ := h
  refine x_iald e3 dM_inSet_18 k4 c6 (n := 19) rfl ?_
  obtain ⟨h, h'⟩ := h
  refine x_icmp_ge (tgt := 59) dM_inSet_19 rfl (n := 22) rfl (fun c18 => ?_) (fun c18 => ?_)
  · replace h := h c18
    refine x_iload dM_inSet_59 rfl (n := 61) rfl ?_
    exact x_iret dM_inSet_61 rfl h
  · replace h := h' c18
    refine x_aload_n dM_inSet_22 rfl (n := 23) rfl ?_
    refine x_getR rfl dM_inSet_23 fM_20 k1 (n := 26) rfl ?_
    refine x_aload_n dM_inSet_26 rfl (n := 27) rfl ?_
    refine x_getR rfl dM_inSet_27 fM_47 k1 (n := 30) rfl ?_
    refine x_bipush (v := 8) dM_inSet_30 (by decide) (n := 32) rfl ?_
    refine x_iload_n dM_inSet_32 rfl (n := 33) rfl ?_
    refine x_imul dM_inSet_33 (n := 34) rfl ?_
    refine x_iload dM_inSet_34 rfl (n := 36) rfl ?_
    refine x_iadd dM_inSet_36 (n := 37) rfl ?_
    obtain ⟨a7, e8, h⟩ := h
    obtain ⟨n10, k9, h⟩ := h
    obtain ⟨c11, h⟩ := h
    refine x_iald e8 dM_inSet_37 k9 c11 (n := 38) rfl ?_
    obtain ⟨a12, e13, h⟩ := h
    obtain ⟨n15, k14, h⟩ := h
    obtain ⟨c16, h⟩ := h
    refine x_lald e13 dM_inSet_38 k14 c16 (n := 39) rfl ?_
    refine x_lload_n dM_inSet_39 rfl (n := 40) rfl ?_
    refine x_lcmp dM_inSet_40 (n := 41) rfl ?_
    obtain ⟨h, h'⟩ := h
    refine x_if_ne (tgt := 49) dM_inSet_41 rfl (n := 44) rfl (fun c17 => ?_) (fun c17 => ?_)
    · replace h := h c17
      refine x_iload dM_inSet_49 rfl (n := 51) rfl ?_
      refine x_istore dM_inSet_51 (by decide) (L' := [some (vR (some a0)), some (vL x1), none, some (vI x3), some (vI x4), some (vI x5)]) rfl (n := 53) rfl ?_
      refine x_iinc (v := x5 + 1) dM_inSet_53 rfl rfl (by decide) (L' := [some (vR (some a0)), some (vL x1), none, some (vI x3), some (vI x4), some (vI (x5 + 1))]) rfl (n := 56) rfl ?_
      refine x_goto (tgt := 11) dM_inSet_56 rfl ?_
      exact h
    · replace h := h' c17
      refine x_iload dM_inSet_44 rfl (n := 46) rfl ?_
      refine x_goto (tgt := 51) dM_inSet_46 rfl ?_
      refine x_istore dM_inSet_51 (by decide) (L' := [some (vR (some a0)), some (vL x1), none, some (vI x3), some (vI x5), some (vI x5)]) rfl (n := 53) rfl ?_
      refine x_iinc (v := x5 + 1) dM_inSet_53 rfl rfl (by decide) (L' := [some (vR (some a0)), some (vL x1), none, some (vI x3), some (vI x5), some (vI (x5 + 1))]) rfl (n := 56) rfl ?_
      refine x_goto (tgt := 11) dM_inSet_56 rfl ?_
      exact h
set_option maxRecDepth 100000 in
set_option maxHeartbeats 4000000 in
theorem bM_inSet {l : Launch} {G : xG} {m : XM} {Q : XR → XM → Prop} {a0 : Nat} {x1 : Int64} (hst : l.stackTraces = false)
    (h : CC l G xM_setOfKey [vL x1] m (kI (fun v2 m1 => WW l G xM_inSet 11 [some (vR (some a0)), some (vL x1), none, some (vI v2), some (vI (-1 : Int32)), some (vI (0 : Int32))] [] m1 0 0 Q) Q)) :
    CC l G xM_inSet [vR (some a0), vL x1] m Q := by
  refine x_entry (by decide +kernel) rfl hst (Nat.le_of_ble_eq_true rfl) (L0 := [some (vR (some a0)), some (vL x1), none, none, none, none]) rfl ?_
  refine x_lload_n dM_inSet_0 rfl (n := 1) rfl ?_
  refine x_invS (m := m) dM_inSet_1 gM_inSet_1 (as := [vL x1]) (st := []) rfl rfl (Nat.le_of_ble_eq_true rfl) (n := 4) rfl rfl rfl h (xBk.I fun v2 m1 h => ?_)
  refine x_istore_n dM_inSet_4 (by decide) (L' := [some (vR (some a0)), some (vL x1), none, some (vI v2), none, none]) rfl (n := 5) rfl ?_
  refine x_iconst (v := -1) dM_inSet_5 (by decide) (n := 6) rfl ?_
  refine x_istore dM_inSet_6 (by decide) (L' := [some (vR (some a0)), some (vL x1), none, some (vI v2), some (vI (-1 : Int32)), none]) rfl (n := 8) rfl ?_
  refine x_iconst (v := 0) dM_inSet_8 (by decide) (n := 9) rfl ?_
  refine x_istore dM_inSet_9 (by decide) (L' := [some (vR (some a0)), some (vL x1), none, some (vI v2), some (vI (-1 : Int32)), some (vI (0 : Int32))]) rfl (n := 11) rfl ?_
  exact h
set_option maxRecDepth 100000 in
set_option maxHeartbeats 4000000 in
theorem bM_takeOut_12 {l : Launch} {G : xG} {m : XM} {bc bs : Nat} {Q : XR → XM → Prop} {a0 : Nat} {x1 : Int32} {x2 : Int32} {x3 : Int32}
    (h : kd m a0 = some (oB 5) ∧ ∃ a2, gR m a0 14 = some a2 ∧ ∃ n5, kd m a2 = some (aR 0 n5) ∧ vp_in x1 n5 ∧ (((gI m a2 x1.toNatClampNeg) ≤ x3 → Q (.inl none) m) ∧ (¬ (gI m a2 x1.toNatClampNeg) ≤ x3 → ∃ a7, gR m a0 15 = some a7 ∧ ∃ n10, kd m a7 = some (aR 0 n10) ∧ vp_in ((((8 : Int32) * x1) + x3) + (1 : Int32)) n10 ∧ vp_in (((8 : Int32) * x1) + x3) n10 ∧ ∀ m13, m13 = mI m a7 (((8 : Int32) * x1) + x3).toNatClampNeg (gI m a7 ((((8 : Int32) * x1) + x3) + (1 : Int32)).toNatClampNeg) → WW l G xM_takeOut 12 [some (vR (some a0)), some (vI x1), some (vI x2), some (vI (x3 + 1))] [] m13 bc bs Q))) :
    WW l G xM_takeOut 12 [some (vR (some a0)), some (vI x1), some (vI x2), some (vI x3)] [] m bc bs Q := by
  refine x_iload_n dM_takeOut_12 rfl (n := 13) rfl ?_
  refine x_aload_n dM_takeOut_13 rfl (n := 14) rfl ?_
  obtain ⟨k1, h⟩ := h
  refine x_getR rfl dM_takeOut_14 fM_44 k1 (n := 17) rfl ?_
  refine x_iload_n dM_takeOut_17 rfl (n := 18) rfl ?_
  obtain ⟨a2, e3, h⟩ := h
  obtain ⟨n5, k4, h⟩ := h
  obtain ⟨c6, h⟩ := h
  refine x_iald e3 dM_takeOut_18 k4 c6 (n := 19) rfl ?_
  obtain ⟨h, h'⟩ := h
  refine x_icmp_ge (tgt := 52) dM_takeOut_19 rfl (n := 22) rfl (fun c14 => ?_) (fun c14 => ?_)
  · replace h := h c14
    exact x_vret dM_takeOut_52 rfl h
  · replace h := h' c14
    refine x_aload_n dM_takeOut_22 rfl (n := 23) rfl ?_
    refine x_getR rfl dM_takeOut_23 fM_47 k1 (n := 26) rfl ?_
    refine x_bipush (v := 8) dM_takeOut_26 (by decide) (n := 28) rfl ?_
    refine x_iload_n dM_takeOut_28 rfl (n := 29) rfl ?_
    refine x_imul dM_takeOut_29 (n := 30) rfl ?_
    refine x_iload_n dM_takeOut_30 rfl (n := 31) rfl ?_
    refine x_iadd dM_takeOut_31 (n := 32) rfl ?_
    refine x_aload_n dM_takeOut_32 rfl (n := 33) rfl ?_
    refine x_getR rfl dM_takeOut_33 fM_47 k1 (n := 36) rfl ?_
    refine x_bipush (v := 8) dM_takeOut_36 (by decide) (n := 38) rfl ?_
    refine x_iload_n dM_takeOut_38 rfl (n := 39) rfl ?_
    refine x_imul dM_takeOut_39 (n := 40) rfl ?_
    refine x_iload_n dM_takeOut_40 rfl (n := 41) rfl ?_
    refine x_iadd dM_takeOut_41 (n := 42) rfl ?_
    refine x_iconst (v := 1) dM_takeOut_42 (by decide) (n := 43) rfl ?_
    refine x_iadd dM_takeOut_43 (n := 44) rfl ?_
    obtain ⟨a7, e8, h⟩ := h
    obtain ⟨n10, k9, h⟩ := h
    obtain ⟨c11, h⟩ := h
    refine x_iald e8 dM_takeOut_44 k9 c11 (n := 45) rfl ?_
    obtain ⟨c12, h⟩ := h
    replace h := h _ rfl
    refine x_iast e8 dM_takeOut_45 k9 c12 (n := 46) rfl ?_
    refine x_iinc (v := x3 + 1) dM_takeOut_46 rfl rfl (by decide) (L' := [some (vR (some a0)), some (vI x1), some (vI x2), some (vI (x3 + 1))]) rfl (n := 49) rfl ?_
    refine x_goto (tgt := 12) dM_takeOut_49 rfl ?_
    exact h
set_option maxRecDepth 100000 in
set_option maxHeartbeats 4000000 in
theorem bM_takeOut {l : Launch} {G : xG} {m : XM} {Q : XR → XM → Prop} {a0 : Nat} {x1 : Int32} {x2 : Int32} (hst : l.stackTraces = false)
    (h : kd m a0 = some (oB 5) ∧ ∃ a2, gR m a0 14 = some a2 ∧ ∃ n5, kd m a2 = some (aR 0 n5) ∧ vp_in x1 n5 ∧ vp_in x1 n5 ∧ ∀ m8, m8 = mI m a2 x1.toNatClampNeg ((gI m a2 x1.toNatClampNeg) - (1 : Int32)) → WW l G xM_takeOut 12 [some (vR (some a0)), some (vI x1), some (vI x2), some (vI x2)] [] m8 0 0 Q) :
    CC l G xM_takeOut [vR (some a0), vI x1, vI x2] m Q := by
  refine x_entry (by decide +kernel) rfl hst (Nat.le_of_ble_eq_true rfl) (L0 := [some (vR (some a0)), some (vI x1), some (vI x2), none]) rfl ?_
  refine x_aload_n dM_takeOut_0 rfl (n := 1) rfl ?_
  obtain ⟨k1, h⟩ := h
  refine x_getR rfl dM_takeOut_1 fM_44 k1 (n := 4) rfl ?_
  refine x_iload_n dM_takeOut_4 rfl (n := 5) rfl ?_
  refine x_dup2 dM_takeOut_5 rfl rfl (n := 6) rfl ?_
  obtain ⟨a2, e3, h⟩ := h
  obtain ⟨n5, k4, h⟩ := h
  obtain ⟨c6, h⟩ := h
  refine x_iald e3 dM_takeOut_6 k4 c6 (n := 7) rfl ?_
  refine x_iconst (v := 1) dM_takeOut_7 (by decide) (n := 8) rfl ?_
  refine x_isub dM_takeOut_8 (n := 9) rfl ?_
  obtain ⟨c7, h⟩ := h
  replace h := h _ rfl
  refine x_iast e3 dM_takeOut_9 k4 c7 (n := 10) rfl ?_
  refine x_iload_n dM_takeOut_10 rfl (n := 11) rfl ?_
  refine x_istore_n dM_takeOut_11 (by decide) (L' := [some (vR (some a0)), some (vI x1), some (vI x2), some (vI x2)]) rfl (n := 12) rfl ?_
  exact h
set_option maxRecDepth 100000 in
set_option maxHeartbeats 4000000 in
theorem bM_dropFirst_3 {l : Launch} {G : xG} {m : XM} {bc bs : Nat} {Q : XR → XM → Prop} {a0 : Nat} {x1 : Int32} {x2 : Int32} {x3 : Int32} {x4 : Int32}
    (h : kd m a0 = some (oB 5) ∧ CC l G xM_needAll [vR (some a0), vI x1] m (kI (fun v3 m2 => ((v3 ≤ (32 : Int32) → Q (.inl none) m2) ∧ (¬ v3 ≤ (32 : Int32) → kd m2 a0 = some (oB 5) ∧ ∃ a5, gR m2 a0 14 = some a5 ∧ ∃ n8, kd m2 a5 = some (aR 0 n8) ∧ vp_in x1 n8 ∧ (((gI m2 a5 x1.toNatClampNeg) ≤ x4 → Q (.inl none) m2) ∧ (¬ (gI m2 a5 x1.toNatClampNeg) ≤ x4 → ∃ a10, gR m2 a0 15 = some a10 ∧ ∃ n13, kd m2 a10 = some (aR 0 n13) ∧ vp_in (((8 : Int32) * x1) + x4) n13 ∧ ∃ a15, gR m2 a0 12 = some a15 ∧ ∃ n18, kd m2 a15 = some (aR 1 n18) ∧ vp_in (gI m2 a10 (((8 : Int32) * x1) + x4).toNatClampNeg) n18 ∧ ((¬ (gI m2 a15 (gI m2 a10 (((8 : Int32) * x1) + x4).toNatClampNeg).toNatClampNeg) = x2 → WW l G xM_dropFirst 3 [some (vR (some a0)), some (vI x1), some (vI x2), some (vI x3), some (vI (x4 + 1))] [] m2 bc bs Q) ∧ ((gI m2 a15 (gI m2 a10 (((8 : Int32) * x1) + x4).toNatClampNeg).toNatClampNeg) = x2 → CC l G xM_takeOut [vR (some a0), vI x1, vI x4] m2 (kV (fun m20 => kd m20 a0 = some (oB 5) ∧ ∃ a22, gR m20 a0 23 = some a22 ∧ ∃ n25, kd m20 a22 = some (aR 0 n25) ∧ vp_in x3 n25 ∧ vp_in x3 n25 ∧ ∀ m28, m28 = mI m20 a22 x3.toNatClampNeg ((gI m20 a22 x3.toNatClampNeg) + (1 : Int32)) → WW l G xM_dropFirst 3 [some (vR (some a0)), some (vI x1), some (vI x2), some (vI x3), some (vI x4)] [] m28 bc bs Q) Q)))))))) Q)) :
    WW l G xM_dropFirst 3 [some (vR (some a0)), some (vI x1), some (vI x2), some (vI x3), some (vI x4)] [] m bc bs Q := by
  refine x_aload_n dM_dropFirst_3 rfl (n := 4) rfl ?_
  refine x_iload_n dM_dropFirst_4 rfl (n := 5) rfl ?_
  obtain ⟨k1, h⟩ := h
  refine x_invV (m := m) rfl dM_dropFirst_5 gM_dropFirst_5 (as := [vI x1]) (st := []) rfl rfl k1 rfl rfl (Nat.le_of_ble_eq_true rfl) (n := 8) rfl rfl rfl h (xBk.I fun v3 m2 h => ?_)
  refine x_bipush (v := 32) dM_dropFirst_8 (by decide) (n := 10) rfl ?_
  obtain ⟨h, h'⟩ := h
  refine x_icmp_le (tgt := 71) dM_dropFirst_10 rfl (n := 13) rfl (fun c31 => ?_) (fun c31 => ?_)
  · replace h := h c31
    exact x_vret dM_dropFirst_71 rfl h
  · replace h := h' c31
    refine x_iload dM_dropFirst_13 rfl (n := 15) rfl ?_
    refine x_aload_n dM_dropFirst_15 rfl (n := 16) rfl ?_
    obtain ⟨k4, h⟩ := h
    refine x_getR rfl dM_dropFirst_16 fM_44 k4 (n := 19) rfl ?_
    refine x_iload_n dM_dropFirst_19 rfl (n := 20) rfl ?_
    obtain ⟨a5, e6, h⟩ := h
    obtain ⟨n8, k7, h⟩ := h
    obtain ⟨c9, h⟩ := h
    refine x_iald e6 dM_dropFirst_20 k7 c9 (n := 21) rfl ?_
    obtain ⟨h, h'⟩ := h
    refine x_icmp_ge (tgt := 71) dM_dropFirst_21 rfl (n := 24) rfl (fun c30 => ?_) (fun c30 => ?_)
    · replace h := h c30
      exact x_vret dM_dropFirst_71 rfl h
    · replace h := h' c30
      refine x_aload_n dM_dropFirst_24 rfl (n := 25) rfl ?_
      refine x_getR rfl dM_dropFirst_25 fM_41 k4 (n := 28) rfl ?_
      refine x_aload_n dM_dropFirst_28 rfl (n := 29) rfl ?_
      refine x_getR rfl dM_dropFirst_29 fM_47 k4 (n := 32) rfl ?_
      refine x_bipush (v := 8) dM_dropFirst_32 (by decide) (n := 34) rfl ?_
      refine x_iload_n dM_dropFirst_34 rfl (n := 35) rfl ?_
      refine x_imul dM_dropFirst_35 (n := 36) rfl ?_
      refine x_iload dM_dropFirst_36 rfl (n := 38) rfl ?_
      refine x_iadd dM_dropFirst_38 (n := 39) rfl ?_
      obtain ⟨a10, e11, h⟩ := h
      obtain ⟨n13, k12, h⟩ := h
      obtain ⟨c14, h⟩ := h
      refine x_iald e11 dM_dropFirst_39 k12 c14 (n := 40) rfl ?_
      obtain ⟨a15, e16, h⟩ := h
      obtain ⟨n18, k17, h⟩ := h
      obtain ⟨c19, h⟩ := h
      refine x_zald e16 dM_dropFirst_40 k17 c19 (n := 41) rfl ?_
      refine x_iload_n dM_dropFirst_41 rfl (n := 42) rfl ?_
      obtain ⟨h, h'⟩ := h
      refine x_icmp_ne (tgt := 65) dM_dropFirst_42 rfl (n := 45) rfl (fun c29 => ?_) (fun c29 => ?_)
      · replace h := h c29
        refine x_iinc (v := x4 + 1) dM_dropFirst_65 rfl rfl (by decide) (L' := [some (vR (some a0)), some (vI x1), some (vI x2), some (vI x3), some (vI (x4 + 1))]) rfl (n := 68) rfl ?_
        refine x_goto (tgt := 3) dM_dropFirst_68 rfl ?_
        exact h
      · replace h := h' c29
        refine x_aload_n dM_dropFirst_45 rfl (n := 46) rfl ?_
        refine x_iload_n dM_dropFirst_46 rfl (n := 47) rfl ?_
        refine x_iload dM_dropFirst_47 rfl (n := 49) rfl ?_
        refine x_invV (m := m2) rfl dM_dropFirst_49 gM_dropFirst_49 (as := [vI x1, vI x4]) (st := []) rfl rfl k4 rfl rfl (Nat.le_of_ble_eq_true rfl) (n := 52) rfl rfl rfl h (xBk.V fun m20 h => ?_)
        refine x_aload_n dM_dropFirst_52 rfl (n := 53) rfl ?_
        obtain ⟨k21, h⟩ := h
        refine x_getR rfl dM_dropFirst_53 fM_62 k21 (n := 56) rfl ?_
        refine x_iload_n dM_dropFirst_56 rfl (n := 57) rfl ?_
        refine x_dup2 dM_dropFirst_57 rfl rfl (n := 58) rfl ?_
        obtain ⟨a22, e23, h⟩ := h
        obtain ⟨n25, k24, h⟩ := h
        obtain ⟨c26, h⟩ := h
        refine x_iald e23 dM_dropFirst_58 k24 c26 (n := 59) rfl ?_
        refine x_iconst (v := 1) dM_dropFirst_59 (by decide) (n := 60) rfl ?_
        refine x_iadd dM_dropFirst_60 (n := 61) rfl ?_
        obtain ⟨c27, h⟩ := h
        replace h := h _ rfl
        refine x_iast e23 dM_dropFirst_61 k24 c27 (n := 62) rfl ?_
        refine x_goto (tgt := 3) dM_dropFirst_62 rfl ?_
        exact h
set_option maxRecDepth 100000 in
set_option maxHeartbeats 4000000 in
theorem bM_dropFirst {l : Launch} {G : xG} {m : XM} {Q : XR → XM → Prop} {a0 : Nat} {x1 : Int32} {x2 : Int32} {x3 : Int32} (hst : l.stackTraces = false)
    (h : WW l G xM_dropFirst 3 [some (vR (some a0)), some (vI x1), some (vI x2), some (vI x3), some (vI (0 : Int32))] [] m 0 0 Q) :
    CC l G xM_dropFirst [vR (some a0), vI x1, vI x2, vI x3] m Q := by
  refine x_entry (by decide +kernel) rfl hst (Nat.le_of_ble_eq_true rfl) (L0 := [some (vR (some a0)), some (vI x1), some (vI x2), some (vI x3), none]) rfl ?_
  refine x_iconst (v := 0) dM_dropFirst_0 (by decide) (n := 1) rfl ?_
  refine x_istore dM_dropFirst_1 (by decide) (L' := [some (vR (some a0)), some (vI x1), some (vI x2), some (vI x3), some (vI (0 : Int32))]) rfl (n := 3) rfl ?_
  exact h
set_option maxRecDepth 100000 in
set_option maxHeartbeats 4000000 in
theorem bM_needAll_8 {l : Launch} {G : xG} {m : XM} {bc bs : Nat} {Q : XR → XM → Prop} {a0 : Nat} {x1 : Int32} {x2 : Int32} {x3 : Int32}
    (h : kd m a0 = some (oB 5) ∧ (((gI m a0 18) ≤ x3 → Q (.inl (some (vI x2))) m) ∧ (¬ (gI m a0 18) ≤ x3 → ∃ a2, gR m a0 19 = some a2 ∧ ∃ n5, kd m a2 = some (aR 0 n5) ∧ vp_in x3 n5 ∧ CC l G xM_need [vR (some a0), vI (gI m a2 x3.toNatClampNeg)] m (kI (fun v8 m7 => WW l G xM_needAll 8 [some (vR (some a0)), some (vI x1), some (vI (x2 + v8)), some (vI (x3 + 1))] [] m7 bc bs Q) Q)))) :
    WW l G xM_needAll 8 [some (vR (some a0)), some (vI x1), some (vI x2), some (vI x3)] [] m bc bs Q := by
  refine x_iload_n dM_needAll_8 rfl (n := 9) rfl ?_
  refine x_aload_n dM_needAll_9 rfl (n := 10) rfl ?_
  obtain ⟨k1, h⟩ := h
  refine x_getI rfl dM_needAll_10 fM_83 k1 (n := 13) rfl ?_
  obtain ⟨h, h'⟩ := h
  refine x_icmp_ge (tgt := 35) dM_needAll_13 rfl (n := 16) rfl (fun c9 => ?_) (fun c9 => ?_)
  · replace h := h c9
    refine x_iload_n dM_needAll_35 rfl (n := 36) rfl ?_
    exact x_iret dM_needAll_36 rfl h
  · replace h := h' c9
    refine x_iload_n dM_needAll_16 rfl (n := 17) rfl ?_
    refine x_aload_n dM_needAll_17 rfl (n := 18) rfl ?_
    refine x_aload_n dM_needAll_18 rfl (n := 19) rfl ?_
    refine x_getR rfl dM_needAll_19 fM_53 k1 (n := 22) rfl ?_
    refine x_iload_n dM_needAll_22 rfl (n := 23) rfl ?_
    obtain ⟨a2, e3, h⟩ := h
    obtain ⟨n5, k4, h⟩ := h
    obtain ⟨c6, h⟩ := h
    refine x_iald e3 dM_needAll_23 k4 c6 (n := 24) rfl ?_
    refine x_invV (m := m) rfl dM_needAll_24 gM_needAll_24 (as := [vI (gI m a2 x3.toNatClampNeg)]) (st := [vI x2]) rfl rfl k1 rfl rfl (Nat.le_of_ble_eq_true rfl) (n := 27) rfl rfl rfl h (xBk.I fun v8 m7 h => ?_)
    refine x_iadd dM_needAll_27 (n := 28) rfl ?_
    refine x_istore_n dM_needAll_28 (by decide) (L' := [some (vR (some a0)), some (vI x1), some (vI (x2 + v8)), some (vI x3)]) rfl (n := 29) rfl ?_
    refine x_iinc (v := x3 + 1) dM_needAll_29 rfl rfl (by decide) (L' := [some (vR (some a0)), some (vI x1), some (vI (x2 + v8)), some (vI (x3 + 1))]) rfl (n := 32) rfl ?_
    refine x_goto (tgt := 8) dM_needAll_32 rfl ?_
    exact h
set_option maxRecDepth 100000 in
set_option maxHeartbeats 4000000 in
theorem bM_needAll {l : Launch} {G : xG} {m : XM} {Q : XR → XM → Prop} {a0 : Nat} {x1 : Int32} (hst : l.stackTraces = false)
    (h : kd m a0 = some (oB 5) ∧ CC l G xM_wordsOf [vR (some a0), vI x1] m (kI (fun v3 m2 => WW l G xM_needAll 8 [some (vR (some a0)), some (vI x1), some (vI v3), some (vI (0 : Int32))] [] m2 0 0 Q) Q)) :
    CC l G xM_needAll [vR (some a0), vI x1] m Q := by
  refine x_entry (by decide +kernel) rfl hst (Nat.le_of_ble_eq_true rfl) (L0 := [some (vR (some a0)), some (vI x1), none, none]) rfl ?_
  refine x_aload_n dM_needAll_0 rfl (n := 1) rfl ?_
  refine x_iload_n dM_needAll_1 rfl (n := 2) rfl ?_
  obtain ⟨k1, h⟩ := h
  refine x_invV (m := m) rfl dM_needAll_2 gM_needAll_2 (as := [vI x1]) (st := []) rfl rfl k1 rfl rfl (Nat.le_of_ble_eq_true rfl) (n := 5) rfl rfl rfl h (xBk.I fun v3 m2 h => ?_)
  refine x_istore_n dM_needAll_5 (by decide) (L' := [some (vR (some a0)), some (vI x1), some (vI v3), none]) rfl (n := 6) rfl ?_
  refine x_iconst (v := 0) dM_needAll_6 (by decide) (n := 7) rfl ?_
  refine x_istore_n dM_needAll_7 (by decide) (L' := [some (vR (some a0)), some (vI x1), some (vI v3), some (vI (0 : Int32))]) rfl (n := 8) rfl ?_
  exact h
set_option maxRecDepth 100000 in
set_option maxHeartbeats 4000000 in
theorem bM_copy_31 {l : Launch} {G : xG} {m : XM} {bc bs : Nat} {Q : XR → XM → Prop} {a0 : Nat} {x1 : Int32} {x2 : Int32} {x3 : Int32}
    (h : (((8 : Int32) ≤ x3 → kd m a0 = some (oB 5) ∧ ∃ a2, gR m a0 9 = some a2 ∧ ∃ n5, kd m a2 = some (aR 1 n5) ∧ vp_in x2 n5 ∧ ∀ m7, m7 = mI m a2 x2.toNatClampNeg (0 : Int32) → ∃ a8, gR m a0 10 = some a8 ∧ ∃ n11, kd m a8 = some (aR 1 n11) ∧ vp_in x2 n11 ∧ ∀ m13, m13 = mI m7 a8 x2.toNatClampNeg (0 : Int32) → ∃ a14, gR m a0 12 = some a14 ∧ ∃ n17, kd m a14 = some (aR 1 n17) ∧ vp_in x2 n17 ∧ ∀ m19, m19 = mI m13 a14 x2.toNatClampNeg (0 : Int32) → Q (.inl (some (vI x2))) m19) ∧ (¬ (8 : Int32) ≤ x3 → kd m a0 = some (oB 5) ∧ ∃ a21, gR m a0 8 = some a21 ∧ ∃ n24, kd m a21 = some (aR 0 n24) ∧ vp_in (((8 : Int32) * x1) + x3) n24 ∧ vp_in (((8 : Int32) * x2) + x3) n24 ∧ ∀ m27, m27 = mI m a21 (((8 : Int32) * x2) + x3).toNatClampNeg (gI m a21 (((8 : Int32) * x1) + x3).toNatClampNeg) → WW l G xM_copy 31 [some (vR (some a0)), some (vI x1), some (vI x2), some (vI (x3 + 1))] [] m27 bc bs Q))) :
    WW l G xM_copy 31 [some (vR (some a0)), some (vI x1), some (vI x2), some (vI x3)] [] m bc bs Q := by
  refine x_iload_n dM_copy_31 rfl (n := 32) rfl ?_
  refine x_bipush (v := 8) dM_copy_32 (by decide) (n := 34) rfl ?_
  obtain ⟨h, h'⟩ := h
  refine x_icmp_ge (tgt := 65) dM_copy_34 rfl (n := 37) rfl (fun c28 => ?_) (fun c28 => ?_)
  · replace h := h c28
    refine x_aload_n dM_copy_65 rfl (n := 66) rfl ?_
    obtain ⟨k1, h⟩ := h
    refine x_getR rfl dM_copy_66 fM_31 k1 (n := 69) rfl ?_
    refine x_iload_n dM_copy_69 rfl (n := 70) rfl ?_
    refine x_iconst (v := 0) dM_copy_70 (by decide) (n := 71) rfl ?_
    obtain ⟨a2, e3, h⟩ := h
    obtain ⟨n5, k4, h⟩ := h
    obtain ⟨c6, h⟩ := h
    replace h := h _ rfl
    refine x_zast e3 dM_copy_71 k4 c6 (by decide) (n := 72) rfl ?_
    refine x_aload_n dM_copy_72 rfl (n := 73) rfl ?_
    refine x_getR rfl dM_copy_73 fM_35 k1 (n := 76) rfl ?_
    refine x_iload_n dM_copy_76 rfl (n := 77) rfl ?_
    refine x_iconst (v := 0) dM_copy_77 (by decide) (n := 78) rfl ?_
    obtain ⟨a8, e9, h⟩ := h
    obtain ⟨n11, k10, h⟩ := h
    obtain ⟨c12, h⟩ := h
    replace h := h _ rfl
    refine x_zast e9 dM_copy_78 k10 c12 (by decide) (n := 79) rfl ?_
    refine x_aload_n dM_copy_79 rfl (n := 80) rfl ?_
    refine x_getR rfl dM_copy_80 fM_41 k1 (n := 83) rfl ?_
    refine x_iload_n dM_copy_83 rfl (n := 84) rfl ?_
    refine x_iconst (v := 0) dM_copy_84 (by decide) (n := 85) rfl ?_
    obtain ⟨a14, e15, h⟩ := h
    obtain ⟨n17, k16, h⟩ := h
    obtain ⟨c18, h⟩ := h
    replace h := h _ rfl
    refine x_zast e15 dM_copy_85 k16 c18 (by decide) (n := 86) rfl ?_
    refine x_iload_n dM_copy_86 rfl (n := 87) rfl ?_
    exact x_iret dM_copy_87 rfl h
  · replace h := h' c28
    refine x_aload_n dM_copy_37 rfl (n := 38) rfl ?_
    obtain ⟨k20, h⟩ := h
    refine x_getR rfl dM_copy_38 fM_28 k20 (n := 41) rfl ?_
    refine x_bipush (v := 8) dM_copy_41 (by decide) (n := 43) rfl ?_
    refine x_iload_n dM_copy_43 rfl (n := 44) rfl ?_
    refine x_imul dM_copy_44 (n := 45) rfl ?_
    refine x_iload_n dM_copy_45 rfl (n := 46) rfl ?_
    refine x_iadd dM_copy_46 (n := 47) rfl ?_
    refine x_aload_n dM_copy_47 rfl (n := 48) rfl ?_
    refine x_getR rfl dM_copy_48 fM_28 k20 (n := 51) rfl ?_
    refine x_bipush (v := 8) dM_copy_51 (by decide) (n := 53) rfl ?_
    refine x_iload_n dM_copy_53 rfl (n := 54) rfl ?_
    refine x_imul dM_copy_54 (n := 55) rfl ?_
    refine x_iload_n dM_copy_55 rfl (n := 56) rfl ?_
    refine x_iadd dM_copy_56 (n := 57) rfl ?_
    obtain ⟨a21, e22, h⟩ := h
    obtain ⟨n24, k23, h⟩ := h
    obtain ⟨c25, h⟩ := h
    refine x_iald e22 dM_copy_57 k23 c25 (n := 58) rfl ?_
    obtain ⟨c26, h⟩ := h
    replace h := h _ rfl
    refine x_iast e22 dM_copy_58 k23 c26 (n := 59) rfl ?_
    refine x_iinc (v := x3 + 1) dM_copy_59 rfl rfl (by decide) (L' := [some (vR (some a0)), some (vI x1), some (vI x2), some (vI (x3 + 1))]) rfl (n := 62) rfl ?_
    refine x_goto (tgt := 31) dM_copy_62 rfl ?_
    exact h
set_option maxRecDepth 100000 in
set_option maxHeartbeats 4000000 in
theorem bM_copy {l : Launch} {G : xG} {m : XM} {Q : XR → XM → Prop} {a0 : Nat} {x1 : Int32} (hst : l.stackTraces = false)
    (h : kd m a0 = some (oB 5) ∧ CC l G xM_freeNumber [vR (some a0)] m (kI (fun v3 m2 => kd m2 a0 = some (oB 5) ∧ ∃ a5, gR m2 a0 6 = some a5 ∧ ∃ n8, kd m2 a5 = some (aR 2 n8) ∧ vp_in x1 n8 ∧ vp_in v3 n8 ∧ ∀ m11, m11 = mL m2 a5 v3.toNatClampNeg (gL m2 a5 x1.toNatClampNeg) → ∃ a12, gR m2 a0 7 = some a12 ∧ ∃ n15, kd m2 a12 = some (aR 0 n15) ∧ vp_in x1 n15 ∧ vp_in v3 n15 ∧ ∀ m18, m18 = mI m11 a12 v3.toNatClampNeg (gI m2 a12 x1.toNatClampNeg) → WW l G xM_copy 31 [some (vR (some a0)), some (vI x1), some (vI v3), some (vI (0 : Int32))] [] m18 0 0 Q) Q)) :
    CC l G xM_copy [vR (some a0), vI x1] m Q := by
  refine x_entry (by decide +kernel) rfl hst (Nat.le_of_ble_eq_true rfl) (L0 := [some (vR (some a0)), some (vI x1), none, none]) rfl ?_
  refine x_aload_n dM_copy_0 rfl (n := 1) rfl ?_
  obtain ⟨k1, h⟩ := h
  refine x_invV (m := m) rfl dM_copy_1 gM_copy_1 (as := []) (st := []) rfl rfl k1 rfl rfl (Nat.le_of_ble_eq_true rfl) (n := 4) rfl rfl rfl h (xBk.I fun v3 m2 h => ?_)
  refine x_istore_n dM_copy_4 (by decide) (L' := [some (vR (some a0)), some (vI x1), some (vI v3), none]) rfl (n := 5) rfl ?_
  refine x_aload_n dM_copy_5 rfl (n := 6) rfl ?_
  obtain ⟨k4, h⟩ := h
  refine x_getR rfl dM_copy_6 fM_20 k4 (n := 9) rfl ?_
  refine x_iload_n dM_copy_9 rfl (n := 10) rfl ?_
  refine x_aload_n dM_copy_10 rfl (n := 11) rfl ?_
  refine x_getR rfl dM_copy_11 fM_20 k4 (n := 14) rfl ?_
  refine x_iload_n dM_copy_14 rfl (n := 15) rfl ?_
  obtain ⟨a5, e6, h⟩ := h
  obtain ⟨n8, k7, h⟩ := h
  obtain ⟨c9, h⟩ := h
  refine x_lald e6 dM_copy_15 k7 c9 (n := 16) rfl ?_
  obtain ⟨c10, h⟩ := h
  replace h := h _ rfl
  refine x_last e6 dM_copy_16 k7 c10 (n := 17) rfl ?_
  refine x_aload_n dM_copy_17 rfl (n := 18) rfl ?_
  refine x_getR rfl dM_copy_18 fM_24 k4 (n := 21) rfl ?_
  refine x_iload_n dM_copy_21 rfl (n := 22) rfl ?_
  refine x_aload_n dM_copy_22 rfl (n := 23) rfl ?_
  refine x_getR rfl dM_copy_23 fM_24 k4 (n := 26) rfl ?_
  refine x_iload_n dM_copy_26 rfl (n := 27) rfl ?_
  obtain ⟨a12, e13, h⟩ := h
  obtain ⟨n15, k14, h⟩ := h
  obtain ⟨c16, h⟩ := h
  refine x_iald e13 dM_copy_27 k14 c16 (n := 28) rfl ?_
  obtain ⟨c17, h⟩ := h
  replace h := h _ rfl
  refine x_iast e13 dM_copy_28 k14 c17 (n := 29) rfl ?_
  refine x_iconst (v := 0) dM_copy_29 (by decide) (n := 30) rfl ?_
  refine x_istore_n dM_copy_30 (by decide) (L' := [some (vR (some a0)), some (vI x1), some (vI v3), some (vI (0 : Int32))]) rfl (n := 31) rfl ?_
  exact h
set_option maxRecDepth 100000 in
set_option maxHeartbeats 4000000 in
theorem bM_freeNumber_2 {l : Launch} {G : xG} {m : XM} {bc bs : Nat} {Q : XR → XM → Prop} {a0 : Nat} {x1 : Int32}
    (h : (((4096 : Int32) ≤ x1 → WW l G xM_freeNumber 24 [some (vR (some a0)), some (vI (0 : Int32)), none] [] m bc bs Q) ∧ (¬ (4096 : Int32) ≤ x1 → kd m a0 = some (oB 5) ∧ ∃ a2, gR m a0 17 = some a2 ∧ ∃ n5, kd m a2 = some (aR 1 n5) ∧ vp_in x1 n5 ∧ ∀ m7, m7 = mI m a2 x1.toNatClampNeg (0 : Int32) → WW l G xM_freeNumber 2 [some (vR (some a0)), some (vI (x1 + 1)), none] [] m7 bc bs Q))) :
    WW l G xM_freeNumber 2 [some (vR (some a0)), some (vI x1), none] [] m bc bs Q := by
  refine x_iload_n dM_freeNumber_2 rfl (n := 3) rfl ?_
  refine x_sipush (v := 4096) dM_freeNumber_3 (by decide) (n := 6) rfl ?_
  obtain ⟨h, h'⟩ := h
  refine x_icmp_ge (tgt := 22) dM_freeNumber_6 rfl (n := 9) rfl (fun c8 => ?_) (fun c8 => ?_)
  · replace h := h c8
    refine x_iconst (v := 0) dM_freeNumber_22 (by decide) (n := 23) rfl ?_
    refine x_istore_n dM_freeNumber_23 (by decide) (L' := [some (vR (some a0)), some (vI (0 : Int32)), none]) rfl (n := 24) rfl ?_
    exact h
  · replace h := h' c8
    refine x_aload_n dM_freeNumber_9 rfl (n := 10) rfl ?_
    obtain ⟨k1, h⟩ := h
    refine x_getR rfl dM_freeNumber_10 fM_50 k1 (n := 13) rfl ?_
    refine x_iload_n dM_freeNumber_13 rfl (n := 14) rfl ?_
    refine x_iconst (v := 0) dM_freeNumber_14 (by decide) (n := 15) rfl ?_
    obtain ⟨a2, e3, h⟩ := h
    obtain ⟨n5, k4, h⟩ := h
    obtain ⟨c6, h⟩ := h
    replace h := h _ rfl
    refine x_zast e3 dM_freeNumber_15 k4 c6 (by decide) (n := 16) rfl ?_
    refine x_iinc (v := x1 + 1) dM_freeNumber_16 rfl rfl (by decide) (L' := [some (vR (some a0)), some (vI (x1 + 1)), none]) rfl (n := 19) rfl ?_
    refine x_goto (tgt := 2) dM_freeNumber_19 rfl ?_
    exact h
set_option maxRecDepth 100000 in
set_option maxHeartbeats 4000000 in
theorem bM_freeNumber_24 {l : Launch} {G : xG} {m : XM} {bc bs : Nat} {Q : XR → XM → Prop} {a0 : Nat} {x1 : Int32}
    (h : (((97 : Int32) ≤ x1 → WW l G xM_freeNumber 73 [some (vR (some a0)), some (vI (0 : Int32)), none] [] m bc bs Q) ∧ (¬ (97 : Int32) ≤ x1 → WW l G xM_freeNumber 32 [some (vR (some a0)), some (vI x1), some (vI (0 : Int32))] [] m bc bs Q))) :
    WW l G xM_freeNumber 24 [some (vR (some a0)), some (vI x1), none] [] m bc bs Q := by
  refine x_iload_n dM_freeNumber_24 rfl (n := 25) rfl ?_
  refine x_bipush (v := 97) dM_freeNumber_25 (by decide) (n := 27) rfl ?_
  obtain ⟨h, h'⟩ := h
  refine x_icmp_ge (tgt := 71) dM_freeNumber_27 rfl (n := 30) rfl (fun c1 => ?_) (fun c1 => ?_)
  · replace h := h c1
    refine x_iconst (v := 0) dM_freeNumber_71 (by decide) (n := 72) rfl ?_
    refine x_istore_n dM_freeNumber_72 (by decide) (L' := [some (vR (some a0)), some (vI (0 : Int32)), none]) rfl (n := 73) rfl ?_
    exact h
  · replace h := h' c1
    refine x_iconst (v := 0) dM_freeNumber_30 (by decide) (n := 31) rfl ?_
    refine x_istore_n dM_freeNumber_31 (by decide) (L' := [some (vR (some a0)), some (vI x1), some (vI (0 : Int32))]) rfl (n := 32) rfl ?_
    exact h
set_option maxRecDepth 100000 in
set_option maxHeartbeats 4000000 in
theorem bM_freeNumber_32 {l : Launch} {G : xG} {m : XM} {bc bs : Nat} {Q : XR → XM → Prop} {a0 : Nat} {x1 : Int32} {x2 : Int32}
    (h : kd m a0 = some (oB 5) ∧ ∃ a2, gR m a0 14 = some a2 ∧ ∃ n5, kd m a2 = some (aR 0 n5) ∧ vp_in x1 n5 ∧ (((gI m a2 x1.toNatClampNeg) ≤ x2 → WW l G xM_freeNumber 24 [some (vR (some a0)), some (vI (x1 + 1)), none] [] m bc bs Q) ∧ (¬ (gI m a2 x1.toNatClampNeg) ≤ x2 → ∃ a7, gR m a0 15 = some a7 ∧ ∃ n10, kd m a7 = some (aR 0 n10) ∧ vp_in (((8 : Int32) * x1) + x2) n10 ∧ ∃ a12, gR m a0 17 = some a12 ∧ ∃ n15, kd m a12 = some (aR 1 n15) ∧ vp_in (gI m a7 (((8 : Int32) * x1) + x2).toNatClampNeg) n15 ∧ ∀ m17, m17 = mI m a12 (gI m a7 (((8 : Int32) * x1) + x2).toNatClampNeg).toNatClampNeg (1 : Int32) → WW l G xM_freeNumber 32 [some (vR (some a0)), some (vI x1), some (vI (x2 + 1))] [] m17 bc bs Q))) :
    WW l G xM_freeNumber 32 [some (vR (some a0)), some (vI x1), some (vI x2)] [] m bc bs Q := by
  refine x_iload_n dM_freeNumber_32 rfl (n := 33) rfl ?_
  refine x_aload_n dM_freeNumber_33 rfl (n := 34) rfl ?_
  obtain ⟨k1, h⟩ := h
  refine x_getR rfl dM_freeNumber_34 fM_44 k1 (n := 37) rfl ?_
  refine x_iload_n dM_freeNumber_37 rfl (n := 38) rfl ?_
  obtain ⟨a2, e3, h⟩ := h
  obtain ⟨n5, k4, h⟩ := h
  obtain ⟨c6, h⟩ := h
  refine x_iald e3 dM_freeNumber_38 k4 c6 (n := 39) rfl ?_
  obtain ⟨h, h'⟩ := h
  refine x_icmp_ge (tgt := 65) dM_freeNumber_39 rfl (n := 42) rfl (fun c18 => ?_) (fun c18 => ?_)
  · replace h := h c18
    refine x_iinc (v := x1 + 1) dM_freeNumber_65 rfl rfl (by decide) (L' := [some (vR (some a0)), some (vI (x1 + 1)), some (vI x2)]) rfl (n := 68) rfl ?_
    refine x_goto (tgt := 24) dM_freeNumber_68 rfl ?_
    exact x_weak (b := [true, true, false]) rfl h
  · replace h := h' c18
    refine x_aload_n dM_freeNumber_42 rfl (n := 43) rfl ?_
    refine x_getR rfl dM_freeNumber_43 fM_50 k1 (n := 46) rfl ?_
    refine x_aload_n dM_freeNumber_46 rfl (n := 47) rfl ?_
    refine x_getR rfl dM_freeNumber_47 fM_47 k1 (n := 50) rfl ?_
    refine x_bipush (v := 8) dM_freeNumber_50 (by decide) (n := 52) rfl ?_
    refine x_iload_n dM_freeNumber_52 rfl (n := 53) rfl ?_
    refine x_imul dM_freeNumber_53 (n := 54) rfl ?_
    refine x_iload_n dM_freeNumber_54 rfl (n := 55) rfl ?_
    refine x_iadd dM_freeNumber_55 (n := 56) rfl ?_
    obtain ⟨a7, e8, h⟩ := h
    obtain ⟨n10, k9, h⟩ := h
    obtain ⟨c11, h⟩ := h
    refine x_iald e8 dM_freeNumber_56 k9 c11 (n := 57) rfl ?_
    refine x_iconst (v := 1) dM_freeNumber_57 (by decide) (n := 58) rfl ?_
    obtain ⟨a12, e13, h⟩ := h
    obtain ⟨n15, k14, h⟩ := h
    obtain ⟨c16, h⟩ := h
    replace h := h _ rfl
    refine x_zast e13 dM_freeNumber_58 k14 c16 (by decide) (n := 59) rfl ?_
    refine x_iinc (v := x2 + 1) dM_freeNumber_59 rfl rfl (by decide) (L' := [some (vR (some a0)), some (vI x1), some (vI (x2 + 1))]) rfl (n := 62) rfl ?_
    refine x_goto (tgt := 32) dM_freeNumber_62 rfl ?_
    exact h
set_option maxRecDepth 100000 in
set_option maxHeartbeats 4000000 in
theorem bM_freeNumber_73 {l : Launch} {G : xG} {m : XM} {bc bs : Nat} {Q : XR → XM → Prop} {a0 : Nat} {x1 : Int32}
    (h : kd m a0 = some (oB 5) ∧ (((gI m a0 18) ≤ x1 → WW l G xM_freeNumber 101 [some (vR (some a0)), some (vI (0 : Int32)), none] [] m bc bs Q) ∧ (¬ (gI m a0 18) ≤ x1 → ∃ a2, gR m a0 19 = some a2 ∧ ∃ n5, kd m a2 = some (aR 0 n5) ∧ vp_in x1 n5 ∧ ∃ a7, gR m a0 17 = some a7 ∧ ∃ n10, kd m a7 = some (aR 1 n10) ∧ vp_in (gI m a2 x1.toNatClampNeg) n10 ∧ ∀ m12, m12 = mI m a7 (gI m a2 x1.toNatClampNeg).toNatClampNeg (1 : Int32) → WW l G xM_freeNumber 73 [some (vR (some a0)), some (vI (x1 + 1)), none] [] m12 bc bs Q))) :
    WW l G xM_freeNumber 73 [some (vR (some a0)), some (vI x1), none] [] m bc bs Q := by
  refine x_iload_n dM_freeNumber_73 rfl (n := 74) rfl ?_
  refine x_aload_n dM_freeNumber_74 rfl (n := 75) rfl ?_
  obtain ⟨k1, h⟩ := h
  refine x_getI rfl dM_freeNumber_75 fM_83 k1 (n := 78) rfl ?_
  obtain ⟨h, h'⟩ := h
  refine x_icmp_ge (tgt := 99) dM_freeNumber_78 rfl (n := 81) rfl (fun c13 => ?_) (fun c13 => ?_)
  · replace h := h c13
    refine x_iconst (v := 0) dM_freeNumber_99 (by decide) (n := 100) rfl ?_
    refine x_istore_n dM_freeNumber_100 (by decide) (L' := [some (vR (some a0)), some (vI (0 : Int32)), none]) rfl (n := 101) rfl ?_
    exact h
  · replace h := h' c13
    refine x_aload_n dM_freeNumber_81 rfl (n := 82) rfl ?_
    refine x_getR rfl dM_freeNumber_82 fM_50 k1 (n := 85) rfl ?_
    refine x_aload_n dM_freeNumber_85 rfl (n := 86) rfl ?_
    refine x_getR rfl dM_freeNumber_86 fM_53 k1 (n := 89) rfl ?_
    refine x_iload_n dM_freeNumber_89 rfl (n := 90) rfl ?_
    obtain ⟨a2, e3, h⟩ := h
    obtain ⟨n5, k4, h⟩ := h
    obtain ⟨c6, h⟩ := h
    refine x_iald e3 dM_freeNumber_90 k4 c6 (n := 91) rfl ?_
    refine x_iconst (v := 1) dM_freeNumber_91 (by decide) (n := 92) rfl ?_
    obtain ⟨a7, e8, h⟩ := h
    obtain ⟨n10, k9, h⟩ := h
    obtain ⟨c11, h⟩ := h
    replace h := h _ rfl
    refine x_zast e8 dM_freeNumber_92 k9 c11 (by decide) (n := 93) rfl ?_
    refine x_iinc (v := x1 + 1) dM_freeNumber_93 rfl rfl (by decide) (L' := [some (vR (some a0)), some (vI (x1 + 1)), none]) rfl (n := 96) rfl ?_
    refine x_goto (tgt := 73) dM_freeNumber_96 rfl ?_
    exact h
set_option maxRecDepth 100000 in
set_option maxHeartbeats 4000000 in
theorem bM_freeNumber_101 {l : Launch} {G : xG} {m : XM} {bc bs : Nat} {Q : XR → XM → Prop} {a0 : Nat} {x1 : Int32}
    (h : kd m a0 = some (oB 5) ∧ (((gI m a0 20) ≤ x1 → WW l G xM_freeNumber 129 [some (vR (some a0)), some (vI (0 : Int32)), none] [] m bc bs Q) ∧ (¬ (gI m a0 20) ≤ x1 → ∃ a2, gR m a0 21 = some a2 ∧ ∃ n5, kd m a2 = some (aR 0 n5) ∧ vp_in x1 n5 ∧ ∃ a7, gR m a0 17 = some a7 ∧ ∃ n10, kd m a7 = some (aR 1 n10) ∧ vp_in (gI m a2 x1.toNatClampNeg) n10 ∧ ∀ m12, m12 = mI m a7 (gI m a2 x1.toNatClampNeg).toNatClampNeg (1 : Int32) → WW l G xM_freeNumber 101 [some (vR (some a0)), some (vI (x1 + 1)), none] [] m12 bc bs Q))) :
    WW l G xM_freeNumber 101 [some (vR (some a0)), some (vI x1), none] [] m bc bs Q := by
  refine x_iload_n dM_freeNumber_101 rfl (n := 102) rfl ?_
  refine x_aload_n dM_freeNumber_102 rfl (n := 103) rfl ?_
  obtain ⟨k1, h⟩ := h
  refine x_getI rfl dM_freeNumber_103 fM_86 k1 (n := 106) rfl ?_
  obtain ⟨h, h'⟩ := h
  refine x_icmp_ge (tgt := 127) dM_freeNumber_106 rfl (n := 109) rfl (fun c13 => ?_) (fun c13 => ?_)
  · replace h := h c13
    refine x_iconst (v := 0) dM_freeNumber_127 (by decide) (n := 128) rfl ?_
    refine x_istore_n dM_freeNumber_128 (by decide) (L' := [some (vR (some a0)), some (vI (0 : Int32)), none]) rfl (n := 129) rfl ?_
    exact h
  · replace h := h' c13
    refine x_aload_n dM_freeNumber_109 rfl (n := 110) rfl ?_
    refine x_getR rfl dM_freeNumber_110 fM_50 k1 (n := 113) rfl ?_
    refine x_aload_n dM_freeNumber_113 rfl (n := 114) rfl ?_
    refine x_getR rfl dM_freeNumber_114 fM_56 k1 (n := 117) rfl ?_
    refine x_iload_n dM_freeNumber_117 rfl (n := 118) rfl ?_
    obtain ⟨a2, e3, h⟩ := h
    obtain ⟨n5, k4, h⟩ := h
    obtain ⟨c6, h⟩ := h
    refine x_iald e3 dM_freeNumber_118 k4 c6 (n := 119) rfl ?_
    refine x_iconst (v := 1) dM_freeNumber_119 (by decide) (n := 120) rfl ?_
    obtain ⟨a7, e8, h⟩ := h
    obtain ⟨n10, k9, h⟩ := h
    obtain ⟨c11, h⟩ := h
    replace h := h _ rfl
    refine x_zast e8 dM_freeNumber_120 k9 c11 (by decide) (n := 121) rfl ?_
    refine x_iinc (v := x1 + 1) dM_freeNumber_121 rfl rfl (by decide) (L' := [some (vR (some a0)), some (vI (x1 + 1)), none]) rfl (n := 124) rfl ?_
    refine x_goto (tgt := 101) dM_freeNumber_124 rfl ?_
    exact h
set_option maxRecDepth 100000 in
set_option maxHeartbeats 4000000 in
theorem bM_freeNumber_129 {l : Launch} {G : xG} {m : XM} {bc bs : Nat} {Q : XR → XM → Prop} {a0 : Nat} {x1 : Int32}
    (h : kd m a0 = some (oB 5) ∧ ∃ a2, gR m a0 17 = some a2 ∧ ∃ n5, kd m a2 = some (aR 1 n5) ∧ vp_in x1 n5 ∧ (((gI m a2 x1.toNatClampNeg) = 0 → Q (.inl (some (vI x1))) m) ∧ (¬ (gI m a2 x1.toNatClampNeg) = 0 → WW l G xM_freeNumber 129 [some (vR (some a0)), some (vI (x1 + 1)), none] [] m bc bs Q))) :
    WW l G xM_freeNumber 129 [some (vR (some a0)), some (vI x1), none] [] m bc bs Q := by
  refine x_aload_n dM_freeNumber_129 rfl (n := 130) rfl ?_
  obtain ⟨k1, h⟩ := h
  refine x_getR rfl dM_freeNumber_130 fM_50 k1 (n := 133) rfl ?_
  refine x_iload_n dM_freeNumber_133 rfl (n := 134) rfl ?_
  obtain ⟨a2, e3, h⟩ := h
  obtain ⟨n5, k4, h⟩ := h
  obtain ⟨c6, h⟩ := h
  refine x_zald e3 dM_freeNumber_134 k4 c6 (n := 135) rfl ?_
  obtain ⟨h, h'⟩ := h
  refine x_if_eq (tgt := 144) dM_freeNumber_135 rfl (n := 138) rfl (fun c7 => ?_) (fun c7 => ?_)
  · replace h := h c7
    refine x_iload_n dM_freeNumber_144 rfl (n := 145) rfl ?_
    exact x_iret dM_freeNumber_145 rfl h
  · replace h := h' c7
    refine x_iinc (v := x1 + 1) dM_freeNumber_138 rfl rfl (by decide) (L' := [some (vR (some a0)), some (vI (x1 + 1)), none]) rfl (n := 141) rfl ?_
    refine x_goto (tgt := 129) dM_freeNumber_141 rfl ?_
    exact h
set_option maxRecDepth 100000 in
set_option maxHeartbeats 4000000 in
theorem bM_freeNumber {l : Launch} {G : xG} {m : XM} {Q : XR → XM → Prop} {a0 : Nat} (hst : l.stackTraces = false)
    (h : WW l G xM_freeNumber 2 [some (vR (some a0)), some (vI (0 : Int32)), none] [] m 0 0 Q) :
    CC l G xM_freeNumber [vR (some a0)] m Q := by
  refine x_entry (by decide +kernel) rfl hst (Nat.le_of_ble_eq_true rfl) (L0 := [some (vR (some a0)), none, none]) rfl ?_
  refine x_iconst (v := 0) dM_freeNumber_0 (by decide) (n := 1) rfl ?_
  refine x_istore_n dM_freeNumber_1 (by decide) (L' := [some (vR (some a0)), some (vI (0 : Int32)), none]) rfl (n := 2) rfl ?_
  exact h
set_option maxRecDepth 100000 in
set_option maxHeartbeats 4000000 in
theorem bM_append {l : Launch} {G : xG} {m : XM} {Q : XR → XM → Prop} {a0 : Nat} {x1 : Int32} {x2 : Int32} (hst : l.stackTraces = false)
    (h : kd m a0 = some (oB 5) ∧ ∃ a2, gR m a0 14 = some a2 ∧ ∃ n5, kd m a2 = some (aR 0 n5) ∧ vp_in x1 n5 ∧ ∃ a7, gR m a0 15 = some a7 ∧ ∃ n10, kd m a7 = some (aR 0 n10) ∧ vp_in (((8 : Int32) * x1) + (gI m a2 x1.toNatClampNeg)) n10 ∧ ∀ m12, m12 = mI m a7 (((8 : Int32) * x1) + (gI m a2 x1.toNatClampNeg)).toNatClampNeg x2 → vp_in x1 n5 ∧ vp_in x1 n5 ∧ ∀ m15, m15 = mI m12 a2 x1.toNatClampNeg ((gI m12 a2 x1.toNatClampNeg) + (1 : Int32)) → Q (.inl none) m15) :
    CC l G xM_append [vR (some a0), vI x1, vI x2] m Q := by
  refine x_entry (by decide +kernel) rfl hst (Nat.le_of_ble_eq_true rfl) (L0 := [some (vR (some a0)), some (vI x1), some (vI x2)]) rfl ?_
  refine x_aload_n dM_append_0 rfl (n := 1) rfl ?_
  obtain ⟨k1, h⟩ := h
  refine x_getR rfl dM_append_1 fM_47 k1 (n := 4) rfl ?_
  refine x_bipush (v := 8) dM_append_4 (by decide) (n := 6) rfl ?_
  refine x_iload_n dM_append_6 rfl (n := 7) rfl ?_
  refine x_imul dM_append_7 (n := 8) rfl ?_
  refine x_aload_n dM_append_8 rfl (n := 9) rfl ?_
  refine x_getR rfl dM_append_9 fM_44 k1 (n := 12) rfl ?_
  refine x_iload_n dM_append_12 rfl (n := 13) rfl ?_
  obtain ⟨a2, e3, h⟩ := h
  obtain ⟨n5, k4, h⟩ := h
  obtain ⟨c6, h⟩ := h
  refine x_iald e3 dM_append_13 k4 c6 (n := 14) rfl ?_
  refine x_iadd dM_append_14 (n := 15) rfl ?_
  refine x_iload_n dM_append_15 rfl (n := 16) rfl ?_
  obtain ⟨a7, e8, h⟩ := h
  obtain ⟨n10, k9, h⟩ := h
  obtain ⟨c11, h⟩ := h
  replace h := h _ rfl
  refine x_iast e8 dM_append_16 k9 c11 (n := 17) rfl ?_
  refine x_aload_n dM_append_17 rfl (n := 18) rfl ?_
  refine x_getR rfl dM_append_18 fM_44 k1 (n := 21) rfl ?_
  refine x_iload_n dM_append_21 rfl (n := 22) rfl ?_
  refine x_dup2 dM_append_22 rfl rfl (n := 23) rfl ?_
  obtain ⟨c13, h⟩ := h
  refine x_iald e3 dM_append_23 k4 c13 (n := 24) rfl ?_
  refine x_iconst (v := 1) dM_append_24 (by decide) (n := 25) rfl ?_
  refine x_iadd dM_append_25 (n := 26) rfl ?_
  obtain ⟨c14, h⟩ := h
  replace h := h _ rfl
  refine x_iast e3 dM_append_26 k4 c14 (n := 27) rfl ?_
  exact x_vret dM_append_27 rfl h
set_option maxRecDepth 100000 in
set_option maxHeartbeats 4000000 in
theorem bM_alone {l : Launch} {G : xG} {m : XM} {Q : XR → XM → Prop} {a0 : Nat} {x1 : Int32} {x2 : Int32} (hst : l.stackTraces = false)
    (h : kd m a0 = some (oB 5) ∧ ∃ a2, gR m a0 9 = some a2 ∧ ∃ n5, kd m a2 = some (aR 1 n5) ∧ vp_in x2 n5 ∧ ∀ m7, m7 = mI m a2 x2.toNatClampNeg (0 : Int32) → ∃ a8, gR m a0 10 = some a8 ∧ ∃ n11, kd m a8 = some (aR 1 n11) ∧ vp_in x2 n11 ∧ (((gI m7 a8 x2.toNatClampNeg) = 0 → ∃ a13, gR m a0 23 = some a13 ∧ ∃ n16, kd m a13 = some (aR 0 n16) ∧ vp_in (8 : Int32) n16 ∧ vp_in (8 : Int32) n16 ∧ ∀ m19, m19 = mI m7 a13 (8 : Int32).toNatClampNeg ((gI m7 a13 (8 : Int32).toNatClampNeg) + (1 : Int32)) → ∃ a20, gR m a0 6 = some a20 ∧ ∃ n23, kd m a20 = some (aR 2 n23) ∧ vp_in x2 n23 ∧ CC l G xM_removeOld [vR (some a0), vL (gL m a20 x2.toNatClampNeg), vI (2 : Int32)] m19 (kI (fun v26 m25 => Q (.inl none) m25) Q)) ∧ (¬ (gI m7 a8 x2.toNatClampNeg) = 0 → CC l G xM_copy [vR (some a0), vI x2] m7 (kI (fun v28 m27 => kd m27 a0 = some (oB 5) ∧ ∃ a30, gR m27 a0 11 = some a30 ∧ ∃ n33, kd m27 a30 = some (aR 0 n33) ∧ vp_in x2 n33 ∧ vp_in v28 n33 ∧ ∀ m36, m36 = mI m27 a30 v28.toNatClampNeg (gI m27 a30 x2.toNatClampNeg) → ∃ a37, gR m27 a0 21 = some a37 ∧ ∃ n40, kd m27 a37 = some (aR 0 n40) ∧ vp_in (gI m36 a0 20) n40 ∧ ∀ m42, m42 = mI m36 a37 (gI m36 a0 20).toNatClampNeg v28 → ∀ m43, m43 = mI m42 a0 20 ((gI m42 a0 20) + (1 : Int32)) → Q (.inl none) m43) Q)))) :
    CC l G xM_alone [vR (some a0), vI x1, vI x2] m Q := by
  refine x_entry (by decide +kernel) rfl hst (Nat.le_of_ble_eq_true rfl) (L0 := [some (vR (some a0)), some (vI x1), some (vI x2), none]) rfl ?_
  refine x_aload_n dM_alone_0 rfl (n := 1) rfl ?_
  obtain ⟨k1, h⟩ := h
  refine x_getR rfl dM_alone_1 fM_31 k1 (n := 4) rfl ?_
  refine x_iload_n dM_alone_4 rfl (n := 5) rfl ?_
  refine x_iconst (v := 0) dM_alone_5 (by decide) (n := 6) rfl ?_
  obtain ⟨a2, e3, h⟩ := h
  obtain ⟨n5, k4, h⟩ := h
  obtain ⟨c6, h⟩ := h
  replace h := h _ rfl
  refine x_zast e3 dM_alone_6 k4 c6 (by decide) (n := 7) rfl ?_
  refine x_aload_n dM_alone_7 rfl (n := 8) rfl ?_
  refine x_getR rfl dM_alone_8 fM_35 k1 (n := 11) rfl ?_
  refine x_iload_n dM_alone_11 rfl (n := 12) rfl ?_
  obtain ⟨a8, e9, h⟩ := h
  obtain ⟨n11, k10, h⟩ := h
  obtain ⟨c12, h⟩ := h
  refine x_zald e9 dM_alone_12 k10 c12 (n := 13) rfl ?_
  obtain ⟨h, h'⟩ := h
  refine x_if_eq (tgt := 55) dM_alone_13 rfl (n := 16) rfl (fun c44 => ?_) (fun c44 => ?_)
  · replace h := h c44
    refine x_aload_n dM_alone_55 rfl (n := 56) rfl ?_
    refine x_getR rfl dM_alone_56 fM_62 k1 (n := 59) rfl ?_
    refine x_bipush (v := 8) dM_alone_59 (by decide) (n := 61) rfl ?_
    refine x_dup2 dM_alone_61 rfl rfl (n := 62) rfl ?_
    obtain ⟨a13, e14, h⟩ := h
    obtain ⟨n16, k15, h⟩ := h
    obtain ⟨c17, h⟩ := h
    refine x_iald e14 dM_alone_62 k15 c17 (n := 63) rfl ?_
    refine x_iconst (v := 1) dM_alone_63 (by decide) (n := 64) rfl ?_
    refine x_iadd dM_alone_64 (n := 65) rfl ?_
    obtain ⟨c18, h⟩ := h
    replace h := h _ rfl
    refine x_iast e14 dM_alone_65 k15 c18 (n := 66) rfl ?_
    refine x_aload_n dM_alone_66 rfl (n := 67) rfl ?_
    refine x_aload_n dM_alone_67 rfl (n := 68) rfl ?_
    refine x_getR rfl dM_alone_68 fM_20 k1 (n := 71) rfl ?_
    refine x_iload_n dM_alone_71 rfl (n := 72) rfl ?_
    obtain ⟨a20, e21, h⟩ := h
    obtain ⟨n23, k22, h⟩ := h
    obtain ⟨c24, h⟩ := h
    refine x_lald e21 dM_alone_72 k22 c24 (n := 73) rfl ?_
    refine x_iconst (v := 2) dM_alone_73 (by decide) (n := 74) rfl ?_
    refine x_invV (m := (mI (mI m a2 x2.toNatClampNeg (0 : Int32)) a13 (8 : Int32).toNatClampNeg ((gI (mI m a2 x2.toNatClampNeg (0 : Int32)) a13 (8 : Int32).toNatClampNeg) + (1 : Int32)))) rfl dM_alone_74 gM_alone_74 (as := [vL (gL m a20 x2.toNatClampNeg), vI (2 : Int32)]) (st := []) rfl rfl k1 rfl rfl (Nat.le_of_ble_eq_true rfl) (n := 77) rfl rfl rfl h (xBk.I fun v26 m25 h => ?_)
    refine x_pop dM_alone_77 rfl (n := 78) rfl ?_
    exact x_vret dM_alone_78 rfl h
  · replace h := h' c44
    refine x_aload_n dM_alone_16 rfl (n := 17) rfl ?_
    refine x_iload_n dM_alone_17 rfl (n := 18) rfl ?_
    refine x_invV (m := (mI m a2 x2.toNatClampNeg (0 : Int32))) rfl dM_alone_18 gM_alone_18 (as := [vI x2]) (st := []) rfl rfl k1 rfl rfl (Nat.le_of_ble_eq_true rfl) (n := 21) rfl rfl rfl h (xBk.I fun v28 m27 h => ?_)
    refine x_istore_n dM_alone_21 (by decide) (L' := [some (vR (some a0)), some (vI x1), some (vI x2), some (vI v28)]) rfl (n := 22) rfl ?_
    refine x_aload_n dM_alone_22 rfl (n := 23) rfl ?_
    obtain ⟨k29, h⟩ := h
    refine x_getR rfl dM_alone_23 fM_38 k29 (n := 26) rfl ?_
    refine x_iload_n dM_alone_26 rfl (n := 27) rfl ?_
    refine x_aload_n dM_alone_27 rfl (n := 28) rfl ?_
    refine x_getR rfl dM_alone_28 fM_38 k29 (n := 31) rfl ?_
    refine x_iload_n dM_alone_31 rfl (n := 32) rfl ?_
    obtain ⟨a30, e31, h⟩ := h
    obtain ⟨n33, k32, h⟩ := h
    obtain ⟨c34, h⟩ := h
    refine x_iald e31 dM_alone_32 k32 c34 (n := 33) rfl ?_
    obtain ⟨c35, h⟩ := h
    replace h := h _ rfl
    refine x_iast e31 dM_alone_33 k32 c35 (n := 34) rfl ?_
    refine x_aload_n dM_alone_34 rfl (n := 35) rfl ?_
    refine x_getR rfl dM_alone_35 fM_56 k29 (n := 38) rfl ?_
    refine x_aload_n dM_alone_38 rfl (n := 39) rfl ?_
    refine x_getI rfl dM_alone_39 fM_86 k29 (n := 42) rfl ?_
    refine x_iload_n dM_alone_42 rfl (n := 43) rfl ?_
    obtain ⟨a37, e38, h⟩ := h
    obtain ⟨n40, k39, h⟩ := h
    obtain ⟨c41, h⟩ := h
    replace h := h _ rfl
    refine x_iast e38 dM_alone_43 k39 c41 (n := 44) rfl ?_
    refine x_aload_n dM_alone_44 rfl (n := 45) rfl ?_
    refine x_dup dM_alone_45 rfl (n := 46) rfl ?_
    refine x_getI rfl dM_alone_46 fM_86 k29 (n := 49) rfl ?_
    refine x_iconst (v := 1) dM_alone_49 (by decide) (n := 50) rfl ?_
    refine x_iadd dM_alone_50 (n := 51) rfl ?_
    replace h := h _ rfl
    refine x_putI rfl dM_alone_51 pM_86 k29 rfl rfl (n := 54) rfl ?_
    exact x_vret dM_alone_54 rfl h
set_option maxRecDepth 100000 in
set_option maxHeartbeats 4000000 in
theorem bM_removeOld {l : Launch} {G : xG} {m : XM} {Q : XR → XM → Prop} {a0 : Nat} {x1 : Int64} {x3 : Int32} (hst : l.stackTraces = false)
    (h : kd m a0 = some (oB 5) ∧ CC l G xM_reads [vR (some a0), vL x1] m (kI (fun v3 m2 => ((¬ v3 = 0 → kd m2 a0 = some (oB 5) ∧ CC l G xM_inSet [vR (some a0), vL x1] m2 (kI (fun v6 m5 => ((0 ≤ v6 → CC l G xM_setOfKey [vL x1] m5 (kI (fun v8 m7 => kd m7 a0 = some (oB 5) ∧ CC l G xM_takeOut [vR (some a0), vI v8, vI v6] m7 (kV (fun m10 => kd m10 a0 = some (oB 5) ∧ ∃ a12, gR m10 a0 23 = some a12 ∧ ∃ n15, kd m10 a12 = some (aR 0 n15) ∧ vp_in x3 n15 ∧ vp_in x3 n15 ∧ ∀ m18, m18 = mI m10 a12 x3.toNatClampNeg ((gI m10 a12 x3.toNatClampNeg) + (1 : Int32)) → Q (.inl (some (vI (1 : Int32)))) m18) Q)) Q)) ∧ (¬ 0 ≤ v6 → Q (.inl (some (vI (0 : Int32)))) m5))) Q)) ∧ (v3 = 0 → Q (.inl (some (vI (0 : Int32)))) m2))) Q)) :
    CC l G xM_removeOld [vR (some a0), vL x1, vI x3] m Q := by
  refine x_entry (by decide +kernel) rfl hst (Nat.le_of_ble_eq_true rfl) (L0 := [some (vR (some a0)), some (vL x1), none, some (vI x3), none]) rfl ?_
  refine x_aload_n dM_removeOld_0 rfl (n := 1) rfl ?_
  refine x_lload_n dM_removeOld_1 rfl (n := 2) rfl ?_
  obtain ⟨k1, h⟩ := h
  refine x_invV (m := m) rfl dM_removeOld_2 gM_removeOld_2 (as := [vL x1]) (st := []) rfl rfl k1 rfl rfl (Nat.le_of_ble_eq_true rfl) (n := 5) rfl rfl rfl h (xBk.I fun v3 m2 h => ?_)
  obtain ⟨h, h'⟩ := h
  refine x_if_ne (tgt := 10) dM_removeOld_5 rfl (n := 8) rfl (fun c20 => ?_) (fun c20 => ?_)
  · replace h := h c20
    refine x_aload_n dM_removeOld_10 rfl (n := 11) rfl ?_
    refine x_lload_n dM_removeOld_11 rfl (n := 12) rfl ?_
    obtain ⟨k4, h⟩ := h
    refine x_invV (m := m2) rfl dM_removeOld_12 gM_removeOld_12 (as := [vL x1]) (st := []) rfl rfl k4 rfl rfl (Nat.le_of_ble_eq_true rfl) (n := 15) rfl rfl rfl h (xBk.I fun v6 m5 h => ?_)
    refine x_istore dM_removeOld_15 (by decide) (L' := [some (vR (some a0)), some (vL x1), none, some (vI x3), some (vI v6)]) rfl (n := 17) rfl ?_
    refine x_iload dM_removeOld_17 rfl (n := 19) rfl ?_
    obtain ⟨h, h'⟩ := h
    refine x_if_ge (tgt := 24) dM_removeOld_19 rfl (n := 22) rfl (fun c19 => ?_) (fun c19 => ?_)
    · replace h := h c19
      refine x_aload_n dM_removeOld_24 rfl (n := 25) rfl ?_
      refine x_lload_n dM_removeOld_25 rfl (n := 26) rfl ?_
      refine x_invS (m := m5) dM_removeOld_26 gM_removeOld_26 (as := [vL x1]) (st := [vR (some a0)]) rfl rfl (Nat.le_of_ble_eq_true rfl) (n := 29) rfl rfl rfl h (xBk.I fun v8 m7 h => ?_)
      refine x_iload dM_removeOld_29 rfl (n := 31) rfl ?_
      obtain ⟨k9, h⟩ := h
      refine x_invV (m := m7) rfl dM_removeOld_31 gM_removeOld_31 (as := [vI v8, vI v6]) (st := []) rfl rfl k9 rfl rfl (Nat.le_of_ble_eq_true rfl) (n := 34) rfl rfl rfl h (xBk.V fun m10 h => ?_)
      refine x_aload_n dM_removeOld_34 rfl (n := 35) rfl ?_
      obtain ⟨k11, h⟩ := h
      refine x_getR rfl dM_removeOld_35 fM_62 k11 (n := 38) rfl ?_
      refine x_iload_n dM_removeOld_38 rfl (n := 39) rfl ?_
      refine x_dup2 dM_removeOld_39 rfl rfl (n := 40) rfl ?_
      obtain ⟨a12, e13, h⟩ := h
      obtain ⟨n15, k14, h⟩ := h
      obtain ⟨c16, h⟩ := h
      refine x_iald e13 dM_removeOld_40 k14 c16 (n := 41) rfl ?_
      refine x_iconst (v := 1) dM_removeOld_41 (by decide) (n := 42) rfl ?_
      refine x_iadd dM_removeOld_42 (n := 43) rfl ?_
      obtain ⟨c17, h⟩ := h
      replace h := h _ rfl
      refine x_iast e13 dM_removeOld_43 k14 c17 (n := 44) rfl ?_
      refine x_iconst (v := 1) dM_removeOld_44 (by decide) (n := 45) rfl ?_
      exact x_zret dM_removeOld_45 rfl (by decide) h
    · replace h := h' c19
      refine x_iconst (v := 0) dM_removeOld_22 (by decide) (n := 23) rfl ?_
      exact x_zret dM_removeOld_23 rfl (by decide) h
  · replace h := h' c20
    refine x_iconst (v := 0) dM_removeOld_8 (by decide) (n := 9) rfl ?_
    exact x_zret dM_removeOld_9 rfl (by decide) h
set_option maxRecDepth 100000 in
set_option maxHeartbeats 4000000 in
theorem bM_reads_11 {l : Launch} {G : xG} {m : XM} {bc bs : Nat} {Q : XR → XM → Prop} {a0 : Nat} {x1 : Int64} {x3 : Int32} {x4 : Int32} {x5 : Int32}
    (h : kd m a0 = some (oB 5) ∧ ∃ a2, gR m a0 14 = some a2 ∧ ∃ n5, kd m a2 = some (aR 0 n5) ∧ vp_in x3 n5 ∧ (((gI m a2 x3.toNatClampNeg) ≤ x5 → ((x4 = 0 → ((x4 = 0 ∨ x4 = 1) ∧ Q (.inl (some (vI x4))) m)) ∧ (¬ x4 = 0 → ∃ a7, gR m a0 23 = some a7 ∧ ∃ n10, kd m a7 = some (aR 0 n10) ∧ vp_in (9 : Int32) n10 ∧ vp_in (9 : Int32) n10 ∧ ∀ m13, m13 = mI m a7 (9 : Int32).toNatClampNeg ((gI m a7 (9 : Int32).toNatClampNeg) + (1 : Int32)) → ((x4 = 0 ∨ x4 = 1) ∧ Q (.inl (some (vI x4))) m13)))) ∧ (¬ (gI m a2 x3.toNatClampNeg) ≤ x5 → ((¬ x4 = 0 → WW l G xM_reads 11 [some (vR (some a0)), some (vL x1), none, some (vI x3), some (vI (1 : Int32)), some (vI (x5 + 1))] [] m bc bs Q) ∧ (x4 = 0 → ∃ a15, gR m a0 15 = some a15 ∧ ∃ n18, kd m a15 = some (aR 0 n18) ∧ vp_in (((8 : Int32) * x3) + x5) n18 ∧ ∃ a20, gR m a0 6 = some a20 ∧ ∃ n23, kd m a20 = some (aR 2 n23) ∧ vp_in (gI m a15 (((8 : Int32) * x3) + x5).toNatClampNeg) n23 ∧ CC l G xM_bitOf [vL (gL m a20 (gI m a15 (((8 : Int32) * x3) + x5).toNatClampNeg).toNatClampNeg)] m (kI (fun v26 m25 => CC l G xM_bitOf [vL x1] m25 (kI (fun v28 m27 => ((¬ v26 = v28 → WW l G xM_reads 11 [some (vR (some a0)), some (vL x1), none, some (vI x3), some (vI (0 : Int32)), some (vI (x5 + 1))] [] m27 bc bs Q) ∧ (v26 = v28 → WW l G xM_reads 11 [some (vR (some a0)), some (vL x1), none, some (vI x3), some (vI (1 : Int32)), some (vI (x5 + 1))] [] m27 bc bs Q))) Q)) Q)))))) :
    WW l G xM_reads 11 [some (vR (some a0)), some (vL x1), none, some (vI x3), some (vI x4), some (vI x5)] [] m bc bs Q := by
  refine x_iload dM_reads_11 rfl (n := 13) rfl ?_
  refine x_aload_n dM_reads_13 rfl (n := 14) rfl ?_
  obtain ⟨k1, h⟩ := h
  refine x_getR rfl dM_reads_14 fM_44 k1 (n := 17) rfl ?_
  refine x_iload_n dM_reads_17 rfl (n := 18) rfl ?_
  obtain ⟨a2, e3, h⟩ := h
  obtain ⟨n5, k4, h⟩ := h
  obtain ⟨c6, h⟩ := h
  refine x_iald e3 dM_reads_18 k4 c6 (n := 19) rfl ?_
  obtain ⟨h, h'⟩ := h
  refine x_icmp_ge (tgt := 67) dM_reads_19 rfl (n := 22) rfl (fun c31 => ?_) (fun c31 => ?_)
  · replace h := h c31
    refine x_iload dM_reads_67 rfl (n := 69) rfl ?_
    obtain ⟨h, h'⟩ := h
    refine x_if_eq (tgt := 83) dM_reads_69 rfl (n := 72) rfl (fun c14 => ?_) (fun c14 => ?_)
    · replace h := h c14
      refine x_iload dM_reads_83 rfl (n := 85) rfl ?_
      exact x_zret dM_reads_85 rfl (nar_b h.1) h.2
    · replace h := h' c14
      refine x_aload_n dM_reads_72 rfl (n := 73) rfl ?_
      refine x_getR rfl dM_reads_73 fM_62 k1 (n := 76) rfl ?_
      refine x_bipush (v := 9) dM_reads_76 (by decide) (n := 78) rfl ?_
      refine x_dup2 dM_reads_78 rfl rfl (n := 79) rfl ?_
      obtain ⟨a7, e8, h⟩ := h
      obtain ⟨n10, k9, h⟩ := h
      obtain ⟨c11, h⟩ := h
      refine x_iald e8 dM_reads_79 k9 c11 (n := 80) rfl ?_
      refine x_iconst (v := 1) dM_reads_80 (by decide) (n := 81) rfl ?_
      refine x_iadd dM_reads_81 (n := 82) rfl ?_
      obtain ⟨c12, h⟩ := h
      replace h := h _ rfl
      refine x_iast e8 dM_reads_82 k9 c12 (n := 83) rfl ?_
      refine x_iload dM_reads_83 rfl (n := 85) rfl ?_
      exact x_zret dM_reads_85 rfl (nar_b h.1) h.2
  · replace h := h' c31
    refine x_iload dM_reads_22 rfl (n := 24) rfl ?_
    obtain ⟨h, h'⟩ := h
    refine x_if_ne (tgt := 54) dM_reads_24 rfl (n := 27) rfl (fun c30 => ?_) (fun c30 => ?_)
    · replace h := h c30
      refine x_iconst (v := 1) dM_reads_54 (by decide) (n := 55) rfl ?_
      refine x_goto (tgt := 59) dM_reads_55 rfl ?_
      refine x_istore dM_reads_59 (by decide) (L' := [some (vR (some a0)), some (vL x1), none, some (vI x3), some (vI (1 : Int32)), some (vI x5)]) rfl (n := 61) rfl ?_
      refine x_iinc (v := x5 + 1) dM_reads_61 rfl rfl (by decide) (L' := [some (vR (some a0)), some (vL x1), none, some (vI x3), some (vI (1 : Int32)), some (vI (x5 + 1))]) rfl (n := 64) rfl ?_
      refine x_goto (tgt := 11) dM_reads_64 rfl ?_
      exact h
    · replace h := h' c30
      refine x_aload_n dM_reads_27 rfl (n := 28) rfl ?_
      refine x_getR rfl dM_reads_28 fM_20 k1 (n := 31) rfl ?_
      refine x_aload_n dM_reads_31 rfl (n := 32) rfl ?_
      refine x_getR rfl dM_reads_32 fM_47 k1 (n := 35) rfl ?_
      refine x_bipush (v := 8) dM_reads_35 (by decide) (n := 37) rfl ?_
      refine x_iload_n dM_reads_37 rfl (n := 38) rfl ?_
      refine x_imul dM_reads_38 (n := 39) rfl ?_
      refine x_iload dM_reads_39 rfl (n := 41) rfl ?_
      refine x_iadd dM_reads_41 (n := 42) rfl ?_
      obtain ⟨a15, e16, h⟩ := h
      obtain ⟨n18, k17, h⟩ := h
      obtain ⟨c19, h⟩ := h
      refine x_iald e16 dM_reads_42 k17 c19 (n := 43) rfl ?_
      obtain ⟨a20, e21, h⟩ := h
      obtain ⟨n23, k22, h⟩ := h
      obtain ⟨c24, h⟩ := h
      refine x_lald e21 dM_reads_43 k22 c24 (n := 44) rfl ?_
      refine x_invS (m := m) dM_reads_44 gM_reads_44 (as := [vL (gL m a20 (gI m a15 (((8 : Int32) * x3) + x5).toNatClampNeg).toNatClampNeg)]) (st := []) rfl rfl (Nat.le_of_ble_eq_true rfl) (n := 47) rfl rfl rfl h (xBk.I fun v26 m25 h => ?_)
      refine x_lload_n dM_reads_47 rfl (n := 48) rfl ?_
      refine x_invS (m := m25) dM_reads_48 gM_reads_48 (as := [vL x1]) (st := [vI v26]) rfl rfl (Nat.le_of_ble_eq_true rfl) (n := 51) rfl rfl rfl h (xBk.I fun v28 m27 h => ?_)
      obtain ⟨h, h'⟩ := h
      refine x_icmp_ne (tgt := 58) dM_reads_51 rfl (n := 54) rfl (fun c29 => ?_) (fun c29 => ?_)
      · replace h := h c29
        refine x_iconst (v := 0) dM_reads_58 (by decide) (n := 59) rfl ?_
        refine x_istore dM_reads_59 (by decide) (L' := [some (vR (some a0)), some (vL x1), none, some (vI x3), some (vI (0 : Int32)), some (vI x5)]) rfl (n := 61) rfl ?_
        refine x_iinc (v := x5 + 1) dM_reads_61 rfl rfl (by decide) (L' := [some (vR (some a0)), some (vL x1), none, some (vI x3), some (vI (0 : Int32)), some (vI (x5 + 1))]) rfl (n := 64) rfl ?_
        refine x_goto (tgt := 11) dM_reads_64 rfl ?_
        exact h
      · replace h := h' c29
        refine x_iconst (v := 1) dM_reads_54 (by decide) (n := 55) rfl ?_
        refine x_goto (tgt := 59) dM_reads_55 rfl ?_
        refine x_istore dM_reads_59 (by decide) (L' := [some (vR (some a0)), some (vL x1), none, some (vI x3), some (vI (1 : Int32)), some (vI x5)]) rfl (n := 61) rfl ?_
        refine x_iinc (v := x5 + 1) dM_reads_61 rfl rfl (by decide) (L' := [some (vR (some a0)), some (vL x1), none, some (vI x3), some (vI (1 : Int32)), some (vI (x5 + 1))]) rfl (n := 64) rfl ?_
        refine x_goto (tgt := 11) dM_reads_64 rfl ?_
        exact h
set_option maxRecDepth 100000 in
set_option maxHeartbeats 4000000 in
theorem bM_reads {l : Launch} {G : xG} {m : XM} {Q : XR → XM → Prop} {a0 : Nat} {x1 : Int64} (hst : l.stackTraces = false)
    (h : CC l G xM_setOfKey [vL x1] m (kI (fun v2 m1 => WW l G xM_reads 11 [some (vR (some a0)), some (vL x1), none, some (vI v2), some (vI (0 : Int32)), some (vI (0 : Int32))] [] m1 0 0 Q) Q)) :
    CC l G xM_reads [vR (some a0), vL x1] m Q := by
  refine x_entry (by decide +kernel) rfl hst (Nat.le_of_ble_eq_true rfl) (L0 := [some (vR (some a0)), some (vL x1), none, none, none, none]) rfl ?_
  refine x_lload_n dM_reads_0 rfl (n := 1) rfl ?_
  refine x_invS (m := m) dM_reads_1 gM_reads_1 (as := [vL x1]) (st := []) rfl rfl (Nat.le_of_ble_eq_true rfl) (n := 4) rfl rfl rfl h (xBk.I fun v2 m1 h => ?_)
  refine x_istore_n dM_reads_4 (by decide) (L' := [some (vR (some a0)), some (vL x1), none, some (vI v2), none, none]) rfl (n := 5) rfl ?_
  refine x_iconst (v := 0) dM_reads_5 (by decide) (n := 6) rfl ?_
  refine x_istore dM_reads_6 (by decide) (L' := [some (vR (some a0)), some (vL x1), none, some (vI v2), some (vI (0 : Int32)), none]) rfl (n := 8) rfl ?_
  refine x_iconst (v := 0) dM_reads_8 (by decide) (n := 9) rfl ?_
  refine x_istore dM_reads_9 (by decide) (L' := [some (vR (some a0)), some (vL x1), none, some (vI v2), some (vI (0 : Int32)), some (vI (0 : Int32))]) rfl (n := 11) rfl ?_
  exact h
set_option maxRecDepth 100000 in
set_option maxHeartbeats 4000000 in
theorem bM_bitOf {l : Launch} {G : xG} {m : XM} {Q : XR → XM → Prop} {x0 : Int64} (hst : l.stackTraces = false)
    (h : CC l G xM_mixed [vL x0] m (kL (fun v2 m1 => Q (.inl (some (vI ((v2 &&& (63 : Int64)).toInt32)))) m1) Q)) :
    CC l G xM_bitOf [vL x0] m Q := by
  refine x_entry (by decide +kernel) rfl hst (Nat.le_of_ble_eq_true rfl) (L0 := [some (vL x0), none]) rfl ?_
  refine x_lload_n dM_bitOf_0 rfl (n := 1) rfl ?_
  refine x_invS (m := m) dM_bitOf_1 gM_bitOf_1 (as := [vL x0]) (st := []) rfl rfl (Nat.le_of_ble_eq_true rfl) (n := 4) rfl rfl rfl h (xBk.J fun v2 m1 h => ?_)
  refine x_ldc2 (v := 63) dM_bitOf_4 w_724 (n := 7) rfl ?_
  refine x_land dM_bitOf_7 (n := 8) rfl ?_
  refine x_l2i dM_bitOf_8 (n := 9) rfl ?_
  exact x_iret dM_bitOf_9 rfl h
set_option maxRecDepth 100000 in
set_option maxHeartbeats 4000000 in
theorem bM_writeOpen_20 {l : Launch} {G : xG} {m : XM} {bc bs : Nat} {Q : XR → XM → Prop} {a0 : Nat} {x1 : Int32} {x2 : Int32}
    (h : kd m a0 = some (oB 5) ∧ ∃ a2, gR m a0 14 = some a2 ∧ ∃ n5, kd m a2 = some (aR 0 n5) ∧ vp_in (96 : Int32) n5 ∧ (((gI m a2 (96 : Int32).toNatClampNeg) ≤ x2 → vp_in (96 : Int32) n5 ∧ ∀ m8, m8 = mI m a2 (96 : Int32).toNatClampNeg (0 : Int32) → ∀ m9, m9 = mI m8 a0 16 ((gI m8 a0 16) + (1 : Int32)) → ((¬ ((gI m9 a0 16) - (gI m9 a0 16) / (4 : Int32) * (4 : Int32)) = 0 → Q (.inl none) m9) ∧ (((gI m9 a0 16) - (gI m9 a0 16) / (4 : Int32) * (4 : Int32)) = 0 → ∃ a10, gR m a0 23 = some a10 ∧ ∃ n13, kd m a10 = some (aR 0 n13) ∧ vp_in (0 : Int32) n13 ∧ vp_in (0 : Int32) n13 ∧ ∀ m16, m16 = mI m9 a10 (0 : Int32).toNatClampNeg ((gI m9 a10 (0 : Int32).toNatClampNeg) + (1 : Int32)) → Q (.inl none) m16))) ∧ (¬ (gI m a2 (96 : Int32).toNatClampNeg) ≤ x2 → ∃ a18, gR m a0 15 = some a18 ∧ ∃ n21, kd m a18 = some (aR 0 n21) ∧ vp_in ((768 : Int32) + x2) n21 ∧ CC l G xM_append [vR (some a0), vI x1, vI (gI m a18 ((768 : Int32) + x2).toNatClampNeg)] m (kV (fun m23 => WW l G xM_writeOpen 20 [some (vR (some a0)), some (vI x1), some (vI (x2 + 1))] [] m23 bc bs Q) Q)))) :
    WW l G xM_writeOpen 20 [some (vR (some a0)), some (vI x1), some (vI x2)] [] m bc bs Q := by
  refine x_iload_n dM_writeOpen_20 rfl (n := 21) rfl ?_
  refine x_aload_n dM_writeOpen_21 rfl (n := 22) rfl ?_
  obtain ⟨k1, h⟩ := h
  refine x_getR rfl dM_writeOpen_22 fM_44 k1 (n := 25) rfl ?_
  refine x_bipush (v := 96) dM_writeOpen_25 (by decide) (n := 27) rfl ?_
  obtain ⟨a2, e3, h⟩ := h
  obtain ⟨n5, k4, h⟩ := h
  obtain ⟨c6, h⟩ := h
  refine x_iald e3 dM_writeOpen_27 k4 c6 (n := 28) rfl ?_
  obtain ⟨h, h'⟩ := h
  refine x_icmp_ge (tgt := 52) dM_writeOpen_28 rfl (n := 31) rfl (fun c24 => ?_) (fun c24 => ?_)
  · replace h := h c24
    refine x_aload_n dM_writeOpen_52 rfl (n := 53) rfl ?_
    refine x_getR rfl dM_writeOpen_53 fM_44 k1 (n := 56) rfl ?_
    refine x_bipush (v := 96) dM_writeOpen_56 (by decide) (n := 58) rfl ?_
    refine x_iconst (v := 0) dM_writeOpen_58 (by decide) (n := 59) rfl ?_
    obtain ⟨c7, h⟩ := h
    replace h := h _ rfl
    refine x_iast e3 dM_writeOpen_59 k4 c7 (n := 60) rfl ?_
    refine x_aload_n dM_writeOpen_60 rfl (n := 61) rfl ?_
    refine x_dup dM_writeOpen_61 rfl (n := 62) rfl ?_
    refine x_getI rfl dM_writeOpen_62 fM_96 k1 (n := 65) rfl ?_
    refine x_iconst (v := 1) dM_writeOpen_65 (by decide) (n := 66) rfl ?_
    refine x_iadd dM_writeOpen_66 (n := 67) rfl ?_
    replace h := h _ rfl
    refine x_putI rfl dM_writeOpen_67 pM_96 k1 rfl rfl (n := 70) rfl ?_
    refine x_aload_n dM_writeOpen_70 rfl (n := 71) rfl ?_
    refine x_getI rfl dM_writeOpen_71 fM_96 k1 (n := 74) rfl ?_
    refine x_iconst (v := 4) dM_writeOpen_74 (by decide) (n := 75) rfl ?_
    refine x_irem dM_writeOpen_75 (by decide) (n := 76) rfl ?_
    obtain ⟨h, h'⟩ := h
    refine x_if_ne (tgt := 89) dM_writeOpen_76 rfl (n := 79) rfl (fun c17 => ?_) (fun c17 => ?_)
    · replace h := h c17
      exact x_vret dM_writeOpen_89 rfl h
    · replace h := h' c17
      refine x_aload_n dM_writeOpen_79 rfl (n := 80) rfl ?_
      refine x_getR rfl dM_writeOpen_80 fM_62 k1 (n := 83) rfl ?_
      refine x_iconst (v := 0) dM_writeOpen_83 (by decide) (n := 84) rfl ?_
      refine x_dup2 dM_writeOpen_84 rfl rfl (n := 85) rfl ?_
      obtain ⟨a10, e11, h⟩ := h
      obtain ⟨n13, k12, h⟩ := h
      obtain ⟨c14, h⟩ := h
      refine x_iald e11 dM_writeOpen_85 k12 c14 (n := 86) rfl ?_
      refine x_iconst (v := 1) dM_writeOpen_86 (by decide) (n := 87) rfl ?_
      refine x_iadd dM_writeOpen_87 (n := 88) rfl ?_
      obtain ⟨c15, h⟩ := h
      replace h := h _ rfl
      refine x_iast e11 dM_writeOpen_88 k12 c15 (n := 89) rfl ?_
      exact x_vret dM_writeOpen_89 rfl h
  · replace h := h' c24
    refine x_aload_n dM_writeOpen_31 rfl (n := 32) rfl ?_
    refine x_iload_n dM_writeOpen_32 rfl (n := 33) rfl ?_
    refine x_aload_n dM_writeOpen_33 rfl (n := 34) rfl ?_
    refine x_getR rfl dM_writeOpen_34 fM_47 k1 (n := 37) rfl ?_
    refine x_sipush (v := 768) dM_writeOpen_37 (by decide) (n := 40) rfl ?_
    refine x_iload_n dM_writeOpen_40 rfl (n := 41) rfl ?_
    refine x_iadd dM_writeOpen_41 (n := 42) rfl ?_
    obtain ⟨a18, e19, h⟩ := h
    obtain ⟨n21, k20, h⟩ := h
    obtain ⟨c22, h⟩ := h
    refine x_iald e19 dM_writeOpen_42 k20 c22 (n := 43) rfl ?_
    refine x_invV (m := m) rfl dM_writeOpen_43 gM_writeOpen_43 (as := [vI x1, vI (gI m a18 ((768 : Int32) + x2).toNatClampNeg)]) (st := []) rfl rfl k1 rfl rfl (Nat.le_of_ble_eq_true rfl) (n := 46) rfl rfl rfl h (xBk.V fun m23 h => ?_)
    refine x_iinc (v := x2 + 1) dM_writeOpen_46 rfl rfl (by decide) (L' := [some (vR (some a0)), some (vI x1), some (vI (x2 + 1))]) rfl (n := 49) rfl ?_
    refine x_goto (tgt := 20) dM_writeOpen_49 rfl ?_
    exact h
set_option maxRecDepth 100000 in
set_option maxHeartbeats 4000000 in
theorem bM_writeOpen {l : Launch} {G : xG} {m : XM} {Q : XR → XM → Prop} {a0 : Nat} (hst : l.stackTraces = false)
    (h : kd m a0 = some (oB 5) ∧ ∃ a2, gR m a0 14 = some a2 ∧ ∃ n5, kd m a2 = some (aR 0 n5) ∧ vp_in ((64 : Int32) + ((gI m a0 16) - (gI m a0 16) / (32 : Int32) * (32 : Int32))) n5 ∧ ∀ m7, m7 = mI m a2 ((64 : Int32) + ((gI m a0 16) - (gI m a0 16) / (32 : Int32) * (32 : Int32))).toNatClampNeg (0 : Int32) → WW l G xM_writeOpen 20 [some (vR (some a0)), some (vI ((64 : Int32) + ((gI m a0 16) - (gI m a0 16) / (32 : Int32) * (32 : Int32)))), some (vI (0 : Int32))] [] m7 0 0 Q) :
    CC l G xM_writeOpen [vR (some a0)] m Q := by
  refine x_entry (by decide +kernel) rfl hst (Nat.le_of_ble_eq_true rfl) (L0 := [some (vR (some a0)), none, none]) rfl ?_
  refine x_bipush (v := 64) dM_writeOpen_0 (by decide) (n := 2) rfl ?_
  refine x_aload_n dM_writeOpen_2 rfl (n := 3) rfl ?_
  obtain ⟨k1, h⟩ := h
  refine x_getI rfl dM_writeOpen_3 fM_96 k1 (n := 6) rfl ?_
  refine x_bipush (v := 32) dM_writeOpen_6 (by decide) (n := 8) rfl ?_
  refine x_irem dM_writeOpen_8 (by decide) (n := 9) rfl ?_
  refine x_iadd dM_writeOpen_9 (n := 10) rfl ?_
  refine x_istore_n dM_writeOpen_10 (by decide) (L' := [some (vR (some a0)), some (vI ((64 : Int32) + ((gI m a0 16) - (gI m a0 16) / (32 : Int32) * (32 : Int32)))), none]) rfl (n := 11) rfl ?_
  refine x_aload_n dM_writeOpen_11 rfl (n := 12) rfl ?_
  refine x_getR rfl dM_writeOpen_12 fM_44 k1 (n := 15) rfl ?_
  refine x_iload_n dM_writeOpen_15 rfl (n := 16) rfl ?_
  refine x_iconst (v := 0) dM_writeOpen_16 (by decide) (n := 17) rfl ?_
  obtain ⟨a2, e3, h⟩ := h
  obtain ⟨n5, k4, h⟩ := h
  obtain ⟨c6, h⟩ := h
  replace h := h _ rfl
  refine x_iast e3 dM_writeOpen_17 k4 c6 (n := 18) rfl ?_
  refine x_iconst (v := 0) dM_writeOpen_18 (by decide) (n := 19) rfl ?_
  refine x_istore_n dM_writeOpen_19 (by decide) (L' := [some (vR (some a0)), some (vI ((64 : Int32) + ((gI m a0 16) - (gI m a0 16) / (32 : Int32) * (32 : Int32)))), some (vI (0 : Int32))]) rfl (n := 20) rfl ?_
  exact h
set_option maxRecDepth 100000 in
set_option maxHeartbeats 4000000 in
theorem bM_sortAgain_2 {l : Launch} {G : xG} {m : XM} {bc bs : Nat} {Q : XR → XM → Prop} {a0 : Nat} {x1 : Int32}
    (h : kd m a0 = some (oB 5) ∧ (((gI m a0 20) ≤ x1 → Q (.inl none) m) ∧ (¬ (gI m a0 20) ≤ x1 → WW l G xM_sortAgain 12 [some (vR (some a0)), some (vI x1), some (vI x1), none] [] m bc bs Q))) :
    WW l G xM_sortAgain 2 [some (vR (some a0)), some (vI x1), none, none] [] m bc bs Q := by
  refine x_iload_n dM_sortAgain_2 rfl (n := 3) rfl ?_
  refine x_aload_n dM_sortAgain_3 rfl (n := 4) rfl ?_
  obtain ⟨k1, h⟩ := h
  refine x_getI rfl dM_sortAgain_4 fM_86 k1 (n := 7) rfl ?_
  obtain ⟨h, h'⟩ := h
  refine x_icmp_ge (tgt := 85) dM_sortAgain_7 rfl (n := 10) rfl (fun c2 => ?_) (fun c2 => ?_)
  · replace h := h c2
    exact x_vret dM_sortAgain_85 rfl h
  · replace h := h' c2
    refine x_iload_n dM_sortAgain_10 rfl (n := 11) rfl ?_
    refine x_istore_n dM_sortAgain_11 (by decide) (L' := [some (vR (some a0)), some (vI x1), some (vI x1), none]) rfl (n := 12) rfl ?_
    exact h
set_option maxRecDepth 100000 in
set_option maxHeartbeats 4000000 in
theorem bM_sortAgain_12 {l : Launch} {G : xG} {m : XM} {bc bs : Nat} {Q : XR → XM → Prop} {a0 : Nat} {x1 : Int32} {x2 : Int32}
    (h : ((x2 ≤ 0 → WW l G xM_sortAgain 2 [some (vR (some a0)), some (vI (x1 + 1)), none, none] [] m bc bs Q) ∧ (¬ x2 ≤ 0 → kd m a0 = some (oB 5) ∧ ∃ a2, gR m a0 21 = some a2 ∧ ∃ n5, kd m a2 = some (aR 0 n5) ∧ vp_in x2 n5 ∧ ∃ a7, gR m a0 11 = some a7 ∧ ∃ n10, kd m a7 = some (aR 0 n10) ∧ vp_in (gI m a2 x2.toNatClampNeg) n10 ∧ vp_in (x2 - (1 : Int32)) n5 ∧ vp_in (gI m a2 (x2 - (1 : Int32)).toNatClampNeg) n10 ∧ (((gI m a7 (gI m a2 (x2 - (1 : Int32)).toNatClampNeg).toNatClampNeg) ≤ (gI m a7 (gI m a2 x2.toNatClampNeg).toNatClampNeg) → WW l G xM_sortAgain 2 [some (vR (some a0)), some (vI (x1 + 1)), none, none] [] m bc bs Q) ∧ (¬ (gI m a7 (gI m a2 (x2 - (1 : Int32)).toNatClampNeg).toNatClampNeg) ≤ (gI m a7 (gI m a2 x2.toNatClampNeg).toNatClampNeg) → vp_in x2 n5 ∧ vp_in (x2 - (1 : Int32)) n5 ∧ vp_in x2 n5 ∧ ∀ m17, m17 = mI m a2 x2.toNatClampNeg (gI m a2 (x2 - (1 : Int32)).toNatClampNeg) → vp_in (x2 - (1 : Int32)) n5 ∧ ∀ m19, m19 = mI m17 a2 (x2 - (1 : Int32)).toNatClampNeg (gI m a2 x2.toNatClampNeg) → WW l G xM_sortAgain 12 [some (vR (some a0)), some (vI x1), some (vI (x2 + (-1))), none] [] m19 bc bs Q))))) :
    WW l G xM_sortAgain 12 [some (vR (some a0)), some (vI x1), some (vI x2), none] [] m bc bs Q := by
  refine x_iload_n dM_sortAgain_12 rfl (n := 13) rfl ?_
  obtain ⟨h, h'⟩ := h
  refine x_if_le (tgt := 79) dM_sortAgain_13 rfl (n := 16) rfl (fun c21 => ?_) (fun c21 => ?_)
  · replace h := h c21
    refine x_iinc (v := x1 + 1) dM_sortAgain_79 rfl rfl (by decide) (L' := [some (vR (some a0)), some (vI (x1 + 1)), some (vI x2), none]) rfl (n := 82) rfl ?_
    refine x_goto (tgt := 2) dM_sortAgain_82 rfl ?_
    exact x_weak (b := [true, true, false, false]) rfl h
  · replace h := h' c21
    refine x_aload_n dM_sortAgain_16 rfl (n := 17) rfl ?_
    obtain ⟨k1, h⟩ := h
    refine x_getR rfl dM_sortAgain_17 fM_38 k1 (n := 20) rfl ?_
    refine x_aload_n dM_sortAgain_20 rfl (n := 21) rfl ?_
    refine x_getR rfl dM_sortAgain_21 fM_56 k1 (n := 24) rfl ?_
    refine x_iload_n dM_sortAgain_24 rfl (n := 25) rfl ?_
    obtain ⟨a2, e3, h⟩ := h
    obtain ⟨n5, k4, h⟩ := h
    obtain ⟨c6, h⟩ := h
    refine x_iald e3 dM_sortAgain_25 k4 c6 (n := 26) rfl ?_
    obtain ⟨a7, e8, h⟩ := h
    obtain ⟨n10, k9, h⟩ := h
    obtain ⟨c11, h⟩ := h
    refine x_iald e8 dM_sortAgain_26 k9 c11 (n := 27) rfl ?_
    refine x_aload_n dM_sortAgain_27 rfl (n := 28) rfl ?_
    refine x_getR rfl dM_sortAgain_28 fM_38 k1 (n := 31) rfl ?_
    refine x_aload_n dM_sortAgain_31 rfl (n := 32) rfl ?_
    refine x_getR rfl dM_sortAgain_32 fM_56 k1 (n := 35) rfl ?_
    refine x_iload_n dM_sortAgain_35 rfl (n := 36) rfl ?_
    refine x_iconst (v := 1) dM_sortAgain_36 (by decide) (n := 37) rfl ?_
    refine x_isub dM_sortAgain_37 (n := 38) rfl ?_
    obtain ⟨c12, h⟩ := h
    refine x_iald e3 dM_sortAgain_38 k4 c12 (n := 39) rfl ?_
    obtain ⟨c13, h⟩ := h
    refine x_iald e8 dM_sortAgain_39 k9 c13 (n := 40) rfl ?_
    obtain ⟨h, h'⟩ := h
    refine x_icmp_ge (tgt := 79) dM_sortAgain_40 rfl (n := 43) rfl (fun c20 => ?_) (fun c20 => ?_)
    · replace h := h c20
      refine x_iinc (v := x1 + 1) dM_sortAgain_79 rfl rfl (by decide) (L' := [some (vR (some a0)), some (vI (x1 + 1)), some (vI x2), none]) rfl (n := 82) rfl ?_
      refine x_goto (tgt := 2) dM_sortAgain_82 rfl ?_
      exact x_weak (b := [true, true, false, false]) rfl h
    · replace h := h' c20
      refine x_aload_n dM_sortAgain_43 rfl (n := 44) rfl ?_
      refine x_getR rfl dM_sortAgain_44 fM_56 k1 (n := 47) rfl ?_
      refine x_iload_n dM_sortAgain_47 rfl (n := 48) rfl ?_
      obtain ⟨c14, h⟩ := h
      refine x_iald e3 dM_sortAgain_48 k4 c14 (n := 49) rfl ?_
      refine x_istore_n dM_sortAgain_49 (by decide) (L' := [some (vR (some a0)), some (vI x1), some (vI x2), some (vI (gI m a2 x2.toNatClampNeg))]) rfl (n := 50) rfl ?_
      refine x_aload_n dM_sortAgain_50 rfl (n := 51) rfl ?_
      refine x_getR rfl dM_sortAgain_51 fM_56 k1 (n := 54) rfl ?_
      refine x_iload_n dM_sortAgain_54 rfl (n := 55) rfl ?_
      refine x_aload_n dM_sortAgain_55 rfl (n := 56) rfl ?_
      refine x_getR rfl dM_sortAgain_56 fM_56 k1 (n := 59) rfl ?_
      refine x_iload_n dM_sortAgain_59 rfl (n := 60) rfl ?_
      refine x_iconst (v := 1) dM_sortAgain_60 (by decide) (n := 61) rfl ?_
      refine x_isub dM_sortAgain_61 (n := 62) rfl ?_
      obtain ⟨c15, h⟩ := h
      refine x_iald e3 dM_sortAgain_62 k4 c15 (n := 63) rfl ?_
      obtain ⟨c16, h⟩ := h
      replace h := h _ rfl
      refine x_iast e3 dM_sortAgain_63 k4 c16 (n := 64) rfl ?_
      refine x_aload_n dM_sortAgain_64 rfl (n := 65) rfl ?_
      refine x_getR rfl dM_sortAgain_65 fM_56 k1 (n := 68) rfl ?_
      refine x_iload_n dM_sortAgain_68 rfl (n := 69) rfl ?_
      refine x_iconst (v := 1) dM_sortAgain_69 (by decide) (n := 70) rfl ?_
      refine x_isub dM_sortAgain_70 (n := 71) rfl ?_
      refine x_iload_n dM_sortAgain_71 rfl (n := 72) rfl ?_
      obtain ⟨c18, h⟩ := h
      replace h := h _ rfl
      refine x_iast e3 dM_sortAgain_72 k4 c18 (n := 73) rfl ?_
      refine x_iinc (v := x2 + (-1)) dM_sortAgain_73 rfl rfl (by decide) (L' := [some (vR (some a0)), some (vI x1), some (vI (x2 + (-1))), some (vI (gI m a2 x2.toNatClampNeg))]) rfl (n := 76) rfl ?_
      refine x_goto (tgt := 12) dM_sortAgain_76 rfl ?_
      exact x_weak (b := [true, true, true, false]) rfl h
set_option maxRecDepth 100000 in
set_option maxHeartbeats 4000000 in
theorem bM_sortAgain {l : Launch} {G : xG} {m : XM} {Q : XR → XM → Prop} {a0 : Nat} (hst : l.stackTraces = false)
    (h : WW l G xM_sortAgain 2 [some (vR (some a0)), some (vI (1 : Int32)), none, none] [] m 0 0 Q) :
    CC l G xM_sortAgain [vR (some a0)] m Q := by
  refine x_entry (by decide +kernel) rfl hst (Nat.le_of_ble_eq_true rfl) (L0 := [some (vR (some a0)), none, none, none]) rfl ?_
  refine x_iconst (v := 1) dM_sortAgain_0 (by decide) (n := 1) rfl ?_
  refine x_istore_n dM_sortAgain_1 (by decide) (L' := [some (vR (some a0)), some (vI (1 : Int32)), none, none]) rfl (n := 2) rfl ?_
  exact h
set_option maxRecDepth 100000 in
set_option maxHeartbeats 4000000 in
theorem bM_putAnew_21 {l : Launch} {G : xG} {m : XM} {bc bs : Nat} {Q : XR → XM → Prop} {a0 : Nat} {x1 : Int32}
    (h : kd m a0 = some (oB 5) ∧ CC l G xM_enter [vR (some a0), vI x1] m (kV (fun m2 => kd m2 a0 = some (oB 5) ∧ ∃ a4, gR m2 a0 23 = some a4 ∧ ∃ n7, kd m2 a4 = some (aR 0 n7) ∧ vp_in (10 : Int32) n7 ∧ vp_in (10 : Int32) n7 ∧ ∀ m10, m10 = mI m2 a4 (10 : Int32).toNatClampNeg ((gI m2 a4 (10 : Int32).toNatClampNeg) + (1 : Int32)) → Q (.inl none) m10) Q)) :
    WW l G xM_putAnew 21 [some (vR (some a0)), some (vI x1)] [] m bc bs Q := by
  refine x_aload_n dM_putAnew_21 rfl (n := 22) rfl ?_
  refine x_iload_n dM_putAnew_22 rfl (n := 23) rfl ?_
  obtain ⟨k1, h⟩ := h
  refine x_invV (m := m) rfl dM_putAnew_23 gM_putAnew_23 (as := [vI x1]) (st := []) rfl rfl k1 rfl rfl (Nat.le_of_ble_eq_true rfl) (n := 26) rfl rfl rfl h (xBk.V fun m2 h => ?_)
  refine x_aload_n dM_putAnew_26 rfl (n := 27) rfl ?_
  obtain ⟨k3, h⟩ := h
  refine x_getR rfl dM_putAnew_27 fM_62 k3 (n := 30) rfl ?_
  refine x_bipush (v := 10) dM_putAnew_30 (by decide) (n := 32) rfl ?_
  refine x_dup2 dM_putAnew_32 rfl rfl (n := 33) rfl ?_
  obtain ⟨a4, e5, h⟩ := h
  obtain ⟨n7, k6, h⟩ := h
  obtain ⟨c8, h⟩ := h
  refine x_iald e5 dM_putAnew_33 k6 c8 (n := 34) rfl ?_
  refine x_iconst (v := 1) dM_putAnew_34 (by decide) (n := 35) rfl ?_
  refine x_iadd dM_putAnew_35 (n := 36) rfl ?_
  obtain ⟨c9, h⟩ := h
  replace h := h _ rfl
  refine x_iast e5 dM_putAnew_36 k6 c9 (n := 37) rfl ?_
  exact x_vret dM_putAnew_37 rfl h
set_option maxRecDepth 100000 in
set_option maxHeartbeats 4000000 in
theorem bM_putAnew {l : Launch} {G : xG} {m : XM} {Q : XR → XM → Prop} {a0 : Nat} {x1 : Int32} (hst : l.stackTraces = false)
    (h : kd m a0 = some (oB 5) ∧ CC l G xM_wordsOf [vR (some a0), vI (96 : Int32)] m (kI (fun v3 m2 => kd m2 a0 = some (oB 5) ∧ CC l G xM_need [vR (some a0), vI x1] m2 (kI (fun v6 m5 => (((v3 + v6) ≤ (32 : Int32) → WW l G xM_putAnew 21 [some (vR (some a0)), some (vI x1)] [] m5 0 0 Q) ∧ (¬ (v3 + v6) ≤ (32 : Int32) → kd m5 a0 = some (oB 5) ∧ CC l G xM_writeOpen [vR (some a0)] m5 (kV (fun m8 => WW l G xM_putAnew 21 [some (vR (some a0)), some (vI x1)] [] m8 0 0 Q) Q)))) Q)) Q)) :
    CC l G xM_putAnew [vR (some a0), vI x1] m Q := by
  refine x_entry (by decide +kernel) rfl hst (Nat.le_of_ble_eq_true rfl) (L0 := [some (vR (some a0)), some (vI x1)]) rfl ?_
  refine x_aload_n dM_putAnew_0 rfl (n := 1) rfl ?_
  refine x_bipush (v := 96) dM_putAnew_1 (by decide) (n := 3) rfl ?_
  obtain ⟨k1, h⟩ := h
  refine x_invV (m := m) rfl dM_putAnew_3 gM_putAnew_3 (as := [vI (96 : Int32)]) (st := []) rfl rfl k1 rfl rfl (Nat.le_of_ble_eq_true rfl) (n := 6) rfl rfl rfl h (xBk.I fun v3 m2 h => ?_)
  refine x_aload_n dM_putAnew_6 rfl (n := 7) rfl ?_
  refine x_iload_n dM_putAnew_7 rfl (n := 8) rfl ?_
  obtain ⟨k4, h⟩ := h
  refine x_invV (m := m2) rfl dM_putAnew_8 gM_putAnew_8 (as := [vI x1]) (st := [vI v3]) rfl rfl k4 rfl rfl (Nat.le_of_ble_eq_true rfl) (n := 11) rfl rfl rfl h (xBk.I fun v6 m5 h => ?_)
  refine x_iadd dM_putAnew_11 (n := 12) rfl ?_
  refine x_bipush (v := 32) dM_putAnew_12 (by decide) (n := 14) rfl ?_
  obtain ⟨h, h'⟩ := h
  refine x_icmp_le (tgt := 21) dM_putAnew_14 rfl (n := 17) rfl (fun c9 => ?_) (fun c9 => ?_)
  · replace h := h c9
    exact h
  · replace h := h' c9
    refine x_aload_n dM_putAnew_17 rfl (n := 18) rfl ?_
    obtain ⟨k7, h⟩ := h
    refine x_invV (m := m5) rfl dM_putAnew_18 gM_putAnew_18 (as := []) (st := []) rfl rfl k7 rfl rfl (Nat.le_of_ble_eq_true rfl) (n := 21) rfl rfl rfl h (xBk.V fun m8 h => ?_)
    exact h
set_option maxRecDepth 100000 in
set_option maxHeartbeats 4000000 in
theorem bM_enter_22 {l : Launch} {G : xG} {m : XM} {bc bs : Nat} {Q : XR → XM → Prop} {a0 : Nat} {x1 : Int32} {x2 : Int32}
    (h : kd m a0 = some (oB 5) ∧ CC l G xM_append [vR (some a0), vI (96 : Int32), vI x1] m (kV (fun m2 => kd m2 a0 = some (oB 5) ∧ ∃ a4, gR m2 a0 9 = some a4 ∧ ∃ n7, kd m2 a4 = some (aR 1 n7) ∧ vp_in x1 n7 ∧ ∀ m9, m9 = mI m2 a4 x1.toNatClampNeg (1 : Int32) → ∃ a10, gR m2 a0 10 = some a10 ∧ ∃ n13, kd m2 a10 = some (aR 1 n13) ∧ vp_in x1 n13 ∧ ∀ m15, m15 = mI m9 a10 x1.toNatClampNeg (0 : Int32) → ∀ m16, m16 = mI m15 a0 13 ((gI m15 a0 13) + (1 : Int32)) → ∃ a17, gR m2 a0 11 = some a17 ∧ ∃ n20, kd m2 a17 = some (aR 0 n20) ∧ vp_in x1 n20 ∧ ∀ m22, m22 = mI m16 a17 x1.toNatClampNeg (gI m16 a0 13) → Q (.inl none) m22) Q)) :
    WW l G xM_enter 22 [some (vR (some a0)), some (vI x1), some (vI x2)] [] m bc bs Q := by
  refine x_aload_n dM_enter_22 rfl (n := 23) rfl ?_
  refine x_bipush (v := 96) dM_enter_23 (by decide) (n := 25) rfl ?_
  refine x_iload_n dM_enter_25 rfl (n := 26) rfl ?_
  obtain ⟨k1, h⟩ := h
  refine x_invV (m := m) rfl dM_enter_26 gM_enter_26 (as := [vI (96 : Int32), vI x1]) (st := []) rfl rfl k1 rfl rfl (Nat.le_of_ble_eq_true rfl) (n := 29) rfl rfl rfl h (xBk.V fun m2 h => ?_)
  refine x_aload_n dM_enter_29 rfl (n := 30) rfl ?_
  obtain ⟨k3, h⟩ := h
  refine x_getR rfl dM_enter_30 fM_31 k3 (n := 33) rfl ?_
  refine x_iload_n dM_enter_33 rfl (n := 34) rfl ?_
  refine x_iconst (v := 1) dM_enter_34 (by decide) (n := 35) rfl ?_
  obtain ⟨a4, e5, h⟩ := h
  obtain ⟨n7, k6, h⟩ := h
  obtain ⟨c8, h⟩ := h
  replace h := h _ rfl
  refine x_zast e5 dM_enter_35 k6 c8 (by decide) (n := 36) rfl ?_
  refine x_aload_n dM_enter_36 rfl (n := 37) rfl ?_
  refine x_getR rfl dM_enter_37 fM_35 k3 (n := 40) rfl ?_
  refine x_iload_n dM_enter_40 rfl (n := 41) rfl ?_
  refine x_iconst (v := 0) dM_enter_41 (by decide) (n := 42) rfl ?_
  obtain ⟨a10, e11, h⟩ := h
  obtain ⟨n13, k12, h⟩ := h
  obtain ⟨c14, h⟩ := h
  replace h := h _ rfl
  refine x_zast e11 dM_enter_42 k12 c14 (by decide) (n := 43) rfl ?_
  refine x_aload_n dM_enter_43 rfl (n := 44) rfl ?_
  refine x_dup dM_enter_44 rfl (n := 45) rfl ?_
  refine x_getI rfl dM_enter_45 fM_106 k3 (n := 48) rfl ?_
  refine x_iconst (v := 1) dM_enter_48 (by decide) (n := 49) rfl ?_
  refine x_iadd dM_enter_49 (n := 50) rfl ?_
  replace h := h _ rfl
  refine x_putI rfl dM_enter_50 pM_106 k3 rfl rfl (n := 53) rfl ?_
  refine x_aload_n dM_enter_53 rfl (n := 54) rfl ?_
  refine x_getR rfl dM_enter_54 fM_38 k3 (n := 57) rfl ?_
  refine x_iload_n dM_enter_57 rfl (n := 58) rfl ?_
  refine x_aload_n dM_enter_58 rfl (n := 59) rfl ?_
  refine x_getI rfl dM_enter_59 fM_106 k3 (n := 62) rfl ?_
  obtain ⟨a17, e18, h⟩ := h
  obtain ⟨n20, k19, h⟩ := h
  obtain ⟨c21, h⟩ := h
  replace h := h _ rfl
  refine x_iast e18 dM_enter_62 k19 c21 (n := 63) rfl ?_
  exact x_vret dM_enter_63 rfl h
set_option maxRecDepth 100000 in
set_option maxHeartbeats 4000000 in
theorem bM_enter {l : Launch} {G : xG} {m : XM} {Q : XR → XM → Prop} {a0 : Nat} {x1 : Int32} (hst : l.stackTraces = false)
    (h : kd m a0 = some (oB 5) ∧ ∃ a2, gR m a0 6 = some a2 ∧ ∃ n5, kd m a2 = some (aR 2 n5) ∧ vp_in x1 n5 ∧ CC l G xM_newest [vR (some a0), vL (gL m a2 x1.toNatClampNeg)] m (kI (fun v8 m7 => ((v8 < 0 → WW l G xM_enter 22 [some (vR (some a0)), some (vI x1), some (vI v8)] [] m7 0 0 Q) ∧ (¬ v8 < 0 → kd m7 a0 = some (oB 5) ∧ ∃ a10, gR m7 a0 9 = some a10 ∧ ∃ n13, kd m7 a10 = some (aR 1 n13) ∧ vp_in v8 n13 ∧ ∀ m15, m15 = mI m7 a10 v8.toNatClampNeg (0 : Int32) → WW l G xM_enter 22 [some (vR (some a0)), some (vI x1), some (vI v8)] [] m15 0 0 Q))) Q)) :
    CC l G xM_enter [vR (some a0), vI x1] m Q := by
  refine x_entry (by decide +kernel) rfl hst (Nat.le_of_ble_eq_true rfl) (L0 := [some (vR (some a0)), some (vI x1), none]) rfl ?_
  refine x_aload_n dM_enter_0 rfl (n := 1) rfl ?_
  refine x_aload_n dM_enter_1 rfl (n := 2) rfl ?_
  obtain ⟨k1, h⟩ := h
  refine x_getR rfl dM_enter_2 fM_20 k1 (n := 5) rfl ?_
  refine x_iload_n dM_enter_5 rfl (n := 6) rfl ?_
  obtain ⟨a2, e3, h⟩ := h
  obtain ⟨n5, k4, h⟩ := h
  obtain ⟨c6, h⟩ := h
  refine x_lald e3 dM_enter_6 k4 c6 (n := 7) rfl ?_
  refine x_invV (m := m) rfl dM_enter_7 gM_enter_7 (as := [vL (gL m a2 x1.toNatClampNeg)]) (st := []) rfl rfl k1 rfl rfl (Nat.le_of_ble_eq_true rfl) (n := 10) rfl rfl rfl h (xBk.I fun v8 m7 h => ?_)
  refine x_istore_n dM_enter_10 (by decide) (L' := [some (vR (some a0)), some (vI x1), some (vI v8)]) rfl (n := 11) rfl ?_
  refine x_iload_n dM_enter_11 rfl (n := 12) rfl ?_
  obtain ⟨h, h'⟩ := h
  refine x_if_lt (tgt := 22) dM_enter_12 rfl (n := 15) rfl (fun c16 => ?_) (fun c16 => ?_)
  · replace h := h c16
    exact h
  · replace h := h' c16
    refine x_aload_n dM_enter_15 rfl (n := 16) rfl ?_
    obtain ⟨k9, h⟩ := h
    refine x_getR rfl dM_enter_16 fM_31 k9 (n := 19) rfl ?_
    refine x_iload_n dM_enter_19 rfl (n := 20) rfl ?_
    refine x_iconst (v := 0) dM_enter_20 (by decide) (n := 21) rfl ?_
    obtain ⟨a10, e11, h⟩ := h
    obtain ⟨n13, k12, h⟩ := h
    obtain ⟨c14, h⟩ := h
    replace h := h _ rfl
    refine x_zast e11 dM_enter_21 k12 c14 (by decide) (n := 22) rfl ?_
    exact h
set_option maxRecDepth 100000 in
set_option maxHeartbeats 4000000 in
theorem bM_newest_6 {l : Launch} {G : xG} {m : XM} {bc bs : Nat} {Q : XR → XM → Prop} {a0 : Nat} {x1 : Int64} {x3 : Int32} {x4 : Int32}
    (h : (((97 : Int32) ≤ x4 → Q (.inl (some (vI x3))) m) ∧ (¬ (97 : Int32) ≤ x4 → WW l G xM_newest 16 [some (vR (some a0)), some (vL x1), none, some (vI x3), some (vI x4), some (vI (0 : Int32))] [] m bc bs Q))) :
    WW l G xM_newest 6 [some (vR (some a0)), some (vL x1), none, some (vI x3), some (vI x4), none] [] m bc bs Q := by
  refine x_iload dM_newest_6 rfl (n := 8) rfl ?_
  refine x_bipush (v := 97) dM_newest_8 (by decide) (n := 10) rfl ?_
  obtain ⟨h, h'⟩ := h
  refine x_icmp_ge (tgt := 98) dM_newest_10 rfl (n := 13) rfl (fun c1 => ?_) (fun c1 => ?_)
  · replace h := h c1
    refine x_iload_n dM_newest_98 rfl (n := 99) rfl ?_
    exact x_iret dM_newest_99 rfl h
  · replace h := h' c1
    refine x_iconst (v := 0) dM_newest_13 (by decide) (n := 14) rfl ?_
    refine x_istore dM_newest_14 (by decide) (L' := [some (vR (some a0)), some (vL x1), none, some (vI x3), some (vI x4), some (vI (0 : Int32))]) rfl (n := 16) rfl ?_
    exact h
set_option maxRecDepth 100000 in
set_option maxHeartbeats 4000000 in
theorem bM_newest_16 {l : Launch} {G : xG} {m : XM} {bc bs : Nat} {Q : XR → XM → Prop} {a0 : Nat} {x1 : Int64} {x3 : Int32} {x4 : Int32} {x5 : Int32}
    (h : kd m a0 = some (oB 5) ∧ ∃ a2, gR m a0 14 = some a2 ∧ ∃ n5, kd m a2 = some (aR 0 n5) ∧ vp_in x4 n5 ∧ (((gI m a2 x4.toNatClampNeg) ≤ x5 → WW l G xM_newest 6 [some (vR (some a0)), some (vL x1), none, some (vI x3), some (vI (x4 + 1)), none] [] m bc bs Q) ∧ (¬ (gI m a2 x4.toNatClampNeg) ≤ x5 → ∃ a7, gR m a0 15 = some a7 ∧ ∃ n10, kd m a7 = some (aR 0 n10) ∧ vp_in (((8 : Int32) * x4) + x5) n10 ∧ ∃ a12, gR m a0 9 = some a12 ∧ ∃ n15, kd m a12 = some (aR 1 n15) ∧ vp_in (gI m a7 (((8 : Int32) * x4) + x5).toNatClampNeg) n15 ∧ (((gI m a12 (gI m a7 (((8 : Int32) * x4) + x5).toNatClampNeg).toNatClampNeg) = 0 → WW l G xM_newest 16 [some (vR (some a0)), some (vL x1), none, some (vI x3), some (vI x4), some (vI (x5 + 1))] [] m bc bs Q) ∧ (¬ (gI m a12 (gI m a7 (((8 : Int32) * x4) + x5).toNatClampNeg).toNatClampNeg) = 0 → vp_in (((8 : Int32) * x4) + x5) n10 ∧ ∃ a18, gR m a0 6 = some a18 ∧ ∃ n21, kd m a18 = some (aR 2 n21) ∧ vp_in (gI m a7 (((8 : Int32) * x4) + x5).toNatClampNeg) n21 ∧ ((¬ (lg_cmp (gL m a18 (gI m a7 (((8 : Int32) * x4) + x5).toNatClampNeg).toNatClampNeg) x1) = 0 → WW l G xM_newest 16 [some (vR (some a0)), some (vL x1), none, some (vI x3), some (vI x4), some (vI (x5 + 1))] [] m bc bs Q) ∧ ((lg_cmp (gL m a18 (gI m a7 (((8 : Int32) * x4) + x5).toNatClampNeg).toNatClampNeg) x1) = 0 → vp_in (((8 : Int32) * x4) + x5) n10 ∧ WW l G xM_newest 16 [some (vR (some a0)), some (vL x1), none, some (vI (gI m a7 (((8 : Int32) * x4) + x5).toNatClampNeg)), some (vI x4), some (vI (x5 + 1))] [] m bc bs Q))))))) :
    WW l G xM_newest 16 [some (vR (some a0)), some (vL x1), none, some (vI x3), some (vI x4), some (vI x5)] [] m bc bs Q := by
  refine x_iload dM_newest_16 rfl (n := 18) rfl ?_
  refine x_aload_n dM_newest_18 rfl (n := 19) rfl ?_
  obtain ⟨k1, h⟩ := h
  refine x_getR rfl dM_newest_19 fM_44 k1 (n := 22) rfl ?_
  refine x_iload dM_newest_22 rfl (n := 24) rfl ?_
  obtain ⟨a2, e3, h⟩ := h
  obtain ⟨n5, k4, h⟩ := h
  obtain ⟨c6, h⟩ := h
  refine x_iald e3 dM_newest_24 k4 c6 (n := 25) rfl ?_
  obtain ⟨h, h'⟩ := h
  refine x_icmp_ge (tgt := 92) dM_newest_25 rfl (n := 28) rfl (fun c26 => ?_) (fun c26 => ?_)
  · replace h := h c26
    refine x_iinc (v := x4 + 1) dM_newest_92 rfl rfl (by decide) (L' := [some (vR (some a0)), some (vL x1), none, some (vI x3), some (vI (x4 + 1)), some (vI x5)]) rfl (n := 95) rfl ?_
    refine x_goto (tgt := 6) dM_newest_95 rfl ?_
    exact x_weak (b := [true, true, false, true, true, false]) rfl h
  · replace h := h' c26
    refine x_aload_n dM_newest_28 rfl (n := 29) rfl ?_
    refine x_getR rfl dM_newest_29 fM_31 k1 (n := 32) rfl ?_
    refine x_aload_n dM_newest_32 rfl (n := 33) rfl ?_
    refine x_getR rfl dM_newest_33 fM_47 k1 (n := 36) rfl ?_
    refine x_bipush (v := 8) dM_newest_36 (by decide) (n := 38) rfl ?_
    refine x_iload dM_newest_38 rfl (n := 40) rfl ?_
    refine x_imul dM_newest_40 (n := 41) rfl ?_
    refine x_iload dM_newest_41 rfl (n := 43) rfl ?_
    refine x_iadd dM_newest_43 (n := 44) rfl ?_
    obtain ⟨a7, e8, h⟩ := h
    obtain ⟨n10, k9, h⟩ := h
    obtain ⟨c11, h⟩ := h
    refine x_iald e8 dM_newest_44 k9 c11 (n := 45) rfl ?_
    obtain ⟨a12, e13, h⟩ := h
    obtain ⟨n15, k14, h⟩ := h
    obtain ⟨c16, h⟩ := h
    refine x_zald e13 dM_newest_45 k14 c16 (n := 46) rfl ?_
    obtain ⟨h, h'⟩ := h
    refine x_if_eq (tgt := 86) dM_newest_46 rfl (n := 49) rfl (fun c25 => ?_) (fun c25 => ?_)
    · replace h := h c25
      refine x_iinc (v := x5 + 1) dM_newest_86 rfl rfl (by decide) (L' := [some (vR (some a0)), some (vL x1), none, some (vI x3), some (vI x4), some (vI (x5 + 1))]) rfl (n := 89) rfl ?_
      refine x_goto (tgt := 16) dM_newest_89 rfl ?_
      exact h
    · replace h := h' c25
      refine x_aload_n dM_newest_49 rfl (n := 50) rfl ?_
      refine x_getR rfl dM_newest_50 fM_20 k1 (n := 53) rfl ?_
      refine x_aload_n dM_newest_53 rfl (n := 54) rfl ?_
      refine x_getR rfl dM_newest_54 fM_47 k1 (n := 57) rfl ?_
      refine x_bipush (v := 8) dM_newest_57 (by decide) (n := 59) rfl ?_
      refine x_iload dM_newest_59 rfl (n := 61) rfl ?_
      refine x_imul dM_newest_61 (n := 62) rfl ?_
      refine x_iload dM_newest_62 rfl (n := 64) rfl ?_
      refine x_iadd dM_newest_64 (n := 65) rfl ?_
      obtain ⟨c17, h⟩ := h
      refine x_iald e8 dM_newest_65 k9 c17 (n := 66) rfl ?_
      obtain ⟨a18, e19, h⟩ := h
      obtain ⟨n21, k20, h⟩ := h
      obtain ⟨c22, h⟩ := h
      refine x_lald e19 dM_newest_66 k20 c22 (n := 67) rfl ?_
      refine x_lload_n dM_newest_67 rfl (n := 68) rfl ?_
      refine x_lcmp dM_newest_68 (n := 69) rfl ?_
      obtain ⟨h, h'⟩ := h
      refine x_if_ne (tgt := 86) dM_newest_69 rfl (n := 72) rfl (fun c24 => ?_) (fun c24 => ?_)
      · replace h := h c24
        refine x_iinc (v := x5 + 1) dM_newest_86 rfl rfl (by decide) (L' := [some (vR (some a0)), some (vL x1), none, some (vI x3), some (vI x4), some (vI (x5 + 1))]) rfl (n := 89) rfl ?_
        refine x_goto (tgt := 16) dM_newest_89 rfl ?_
        exact h
      · replace h := h' c24
        refine x_aload_n dM_newest_72 rfl (n := 73) rfl ?_
        refine x_getR rfl dM_newest_73 fM_47 k1 (n := 76) rfl ?_
        refine x_bipush (v := 8) dM_newest_76 (by decide) (n := 78) rfl ?_
        refine x_iload dM_newest_78 rfl (n := 80) rfl ?_
        refine x_imul dM_newest_80 (n := 81) rfl ?_
        refine x_iload dM_newest_81 rfl (n := 83) rfl ?_
        refine x_iadd dM_newest_83 (n := 84) rfl ?_
        obtain ⟨c23, h⟩ := h
        refine x_iald e8 dM_newest_84 k9 c23 (n := 85) rfl ?_
        refine x_istore_n dM_newest_85 (by decide) (L' := [some (vR (some a0)), some (vL x1), none, some (vI (gI m a7 (((8 : Int32) * x4) + x5).toNatClampNeg)), some (vI x4), some (vI x5)]) rfl (n := 86) rfl ?_
        refine x_iinc (v := x5 + 1) dM_newest_86 rfl rfl (by decide) (L' := [some (vR (some a0)), some (vL x1), none, some (vI (gI m a7 (((8 : Int32) * x4) + x5).toNatClampNeg)), some (vI x4), some (vI (x5 + 1))]) rfl (n := 89) rfl ?_
        refine x_goto (tgt := 16) dM_newest_89 rfl ?_
        exact h
set_option maxRecDepth 100000 in
set_option maxHeartbeats 4000000 in
theorem bM_newest {l : Launch} {G : xG} {m : XM} {Q : XR → XM → Prop} {a0 : Nat} {x1 : Int64} (hst : l.stackTraces = false)
    (h : WW l G xM_newest 6 [some (vR (some a0)), some (vL x1), none, some (vI (-1 : Int32)), some (vI (64 : Int32)), none] [] m 0 0 Q) :
    CC l G xM_newest [vR (some a0), vL x1] m Q := by
  refine x_entry (by decide +kernel) rfl hst (Nat.le_of_ble_eq_true rfl) (L0 := [some (vR (some a0)), some (vL x1), none, none, none, none]) rfl ?_
  refine x_iconst (v := -1) dM_newest_0 (by decide) (n := 1) rfl ?_
  refine x_istore_n dM_newest_1 (by decide) (L' := [some (vR (some a0)), some (vL x1), none, some (vI (-1 : Int32)), none, none]) rfl (n := 2) rfl ?_
  refine x_bipush (v := 64) dM_newest_2 (by decide) (n := 4) rfl ?_
  refine x_istore dM_newest_4 (by decide) (L' := [some (vR (some a0)), some (vL x1), none, some (vI (-1 : Int32)), some (vI (64 : Int32)), none]) rfl (n := 6) rfl ?_
  exact h
set_option maxRecDepth 100000 in
set_option maxHeartbeats 4000000 in
theorem bM_get {l : Launch} {G : xG} {m : XM} {Q : XR → XM → Prop} {a0 : Nat} {x1 : Int64} (hst : l.stackTraces = false)
    (h : kd m a0 = some (oB 5) ∧ CC l G xM_works [vR (some a0)] m (kI (fun v3 m2 => ((¬ v3 = 0 → kd m2 a0 = some (oB 5) ∧ CC l G xM_newest [vR (some a0), vL x1] m2 (kI (fun v6 m5 => ((v6 < 0 → kd m5 a0 = some (oB 5) ∧ CC l G xM_reads [vR (some a0), vL x1] m5 (kI (fun v9 m8 => ((v9 = 0 → ((0 ≤ (-1 : Int32) → kd m8 a0 = some (oB 5) ∧ CC l G xM_setOfKey [vL x1] m8 (kI (fun v12 m11 => ∃ a13, gR m8 a0 15 = some a13 ∧ ∃ n16, kd m11 a13 = some (aR 0 n16) ∧ vp_in (((8 : Int32) * v12) + (-1 : Int32)) n16 ∧ (((gI m11 a13 (((8 : Int32) * v12) + (-1 : Int32)).toNatClampNeg) < 0 → kd m11 a0 = some (oB 5) ∧ CC l G xM_tell [vR (some a0), vI (gI m11 a13 (((8 : Int32) * v12) + (-1 : Int32)).toNatClampNeg)] m11 (kV (fun m19 => kd m19 a0 = some (oB 5) ∧ Q (.inl (some (vI (gI m19 a0 3)))) m19) Q)) ∧ (¬ (gI m11 a13 (((8 : Int32) * v12) + (-1 : Int32)).toNatClampNeg) < 0 → kd m11 a0 = some (oB 5) ∧ ∃ a22, gR m11 a0 12 = some a22 ∧ ∃ n25, kd m11 a22 = some (aR 1 n25) ∧ vp_in (gI m11 a13 (((8 : Int32) * v12) + (-1 : Int32)).toNatClampNeg) n25 ∧ ∀ m27, m27 = mI m11 a22 (gI m11 a13 (((8 : Int32) * v12) + (-1 : Int32)).toNatClampNeg).toNatClampNeg (1 : Int32) → CC l G xM_tell [vR (some a0), vI (gI m11 a13 (((8 : Int32) * v12) + (-1 : Int32)).toNatClampNeg)] m27 (kV (fun m28 => kd m28 a0 = some (oB 5) ∧ Q (.inl (some (vI (gI m28 a0 3)))) m28) Q)))) Q)) ∧ (¬ 0 ≤ (-1 : Int32) → (((-1 : Int32) < 0 → kd m8 a0 = some (oB 5) ∧ CC l G xM_tell [vR (some a0), vI (-1 : Int32)] m8 (kV (fun m32 => kd m32 a0 = some (oB 5) ∧ Q (.inl (some (vI (gI m32 a0 3)))) m32) Q)) ∧ (¬ (-1 : Int32) < 0 → kd m8 a0 = some (oB 5) ∧ ∃ a35, gR m8 a0 12 = some a35 ∧ ∃ n38, kd m8 a35 = some (aR 1 n38) ∧ vp_in (-1 : Int32) n38 ∧ ∀ m40, m40 = mI m8 a35 (-1 : Int32).toNatClampNeg (1 : Int32) → CC l G xM_tell [vR (some a0), vI (-1 : Int32)] m40 (kV (fun m41 => kd m41 a0 = some (oB 5) ∧ Q (.inl (some (vI (gI m41 a0 3)))) m41) Q)))))) ∧ (¬ v9 = 0 → kd m8 a0 = some (oB 5) ∧ CC l G xM_inSet [vR (some a0), vL x1] m8 (kI (fun v47 m46 => ((0 ≤ v47 → kd m46 a0 = some (oB 5) ∧ CC l G xM_setOfKey [vL x1] m46 (kI (fun v50 m49 => ∃ a51, gR m46 a0 15 = some a51 ∧ ∃ n54, kd m49 a51 = some (aR 0 n54) ∧ vp_in (((8 : Int32) * v50) + v47) n54 ∧ (((gI m49 a51 (((8 : Int32) * v50) + v47).toNatClampNeg) < 0 → kd m49 a0 = some (oB 5) ∧ CC l G xM_tell [vR (some a0), vI (gI m49 a51 (((8 : Int32) * v50) + v47).toNatClampNeg)] m49 (kV (fun m57 => kd m57 a0 = some (oB 5) ∧ Q (.inl (some (vI (gI m57 a0 3)))) m57) Q)) ∧ (¬ (gI m49 a51 (((8 : Int32) * v50) + v47).toNatClampNeg) < 0 → kd m49 a0 = some (oB 5) ∧ ∃ a60, gR m49 a0 12 = some a60 ∧ ∃ n63, kd m49 a60 = some (aR 1 n63) ∧ vp_in (gI m49 a51 (((8 : Int32) * v50) + v47).toNatClampNeg) n63 ∧ ∀ m65, m65 = mI m49 a60 (gI m49 a51 (((8 : Int32) * v50) + v47).toNatClampNeg).toNatClampNeg (1 : Int32) → CC l G xM_tell [vR (some a0), vI (gI m49 a51 (((8 : Int32) * v50) + v47).toNatClampNeg)] m65 (kV (fun m66 => kd m66 a0 = some (oB 5) ∧ Q (.inl (some (vI (gI m66 a0 3)))) m66) Q)))) Q)) ∧ (¬ 0 ≤ v47 → (((-1 : Int32) < 0 → kd m46 a0 = some (oB 5) ∧ CC l G xM_tell [vR (some a0), vI (-1 : Int32)] m46 (kV (fun m70 => kd m70 a0 = some (oB 5) ∧ Q (.inl (some (vI (gI m70 a0 3)))) m70) Q)) ∧ (¬ (-1 : Int32) < 0 → kd m46 a0 = some (oB 5) ∧ ∃ a73, gR m46 a0 12 = some a73 ∧ ∃ n76, kd m46 a73 = some (aR 1 n76) ∧ vp_in (-1 : Int32) n76 ∧ ∀ m78, m78 = mI m46 a73 (-1 : Int32).toNatClampNeg (1 : Int32) → CC l G xM_tell [vR (some a0), vI (-1 : Int32)] m78 (kV (fun m79 => kd m79 a0 = some (oB 5) ∧ Q (.inl (some (vI (gI m79 a0 3)))) m79) Q)))))) Q)))) Q)) ∧ (¬ v6 < 0 → kd m5 a0 = some (oB 5) ∧ ∃ a85, gR m5 a0 10 = some a85 ∧ ∃ n88, kd m5 a85 = some (aR 1 n88) ∧ vp_in v6 n88 ∧ ∀ m90, m90 = mI m5 a85 v6.toNatClampNeg (1 : Int32) → CC l G xM_pageOf [vR (some a0), vI v6] m90 (kI (fun v92 m91 => (((96 : Int32) ≤ v92 → kd m91 a0 = some (oB 5) ∧ CC l G xM_tell [vR (some a0), vI v6] m91 (kV (fun m94 => kd m94 a0 = some (oB 5) ∧ Q (.inl (some (vI (gI m94 a0 3)))) m94) Q)) ∧ (¬ (96 : Int32) ≤ v92 → kd m91 a0 = some (oB 5) ∧ ∃ a97, gR m91 a0 23 = some a97 ∧ ∃ n100, kd m91 a97 = some (aR 0 n100) ∧ vp_in (9 : Int32) n100 ∧ vp_in (9 : Int32) n100 ∧ ∀ m103, m103 = mI m91 a97 (9 : Int32).toNatClampNeg ((gI m91 a97 (9 : Int32).toNatClampNeg) + (1 : Int32)) → CC l G xM_tell [vR (some a0), vI v6] m103 (kV (fun m104 => kd m104 a0 = some (oB 5) ∧ Q (.inl (some (vI (gI m104 a0 3)))) m104) Q)))) Q)))) Q)) ∧ (v3 = 0 → Q (.inl (some (vI (0 : Int32)))) m2))) Q)) :
    CC l G xM_get [vR (some a0), vL x1] m Q := by
  refine x_entry (by decide +kernel) rfl hst (Nat.le_of_ble_eq_true rfl) (L0 := [some (vR (some a0)), some (vL x1), none, none, none]) rfl ?_
  refine x_aload_n dM_get_0 rfl (n := 1) rfl ?_
  obtain ⟨k1, h⟩ := h
  refine x_invV (m := m) rfl dM_get_1 gM_get_1 (as := []) (st := []) rfl rfl k1 rfl rfl (Nat.le_of_ble_eq_true rfl) (n := 4) rfl rfl rfl h (xBk.I fun v3 m2 h => ?_)
  obtain ⟨h, h'⟩ := h
  refine x_if_ne (tgt := 9) dM_get_4 rfl (n := 7) rfl (fun c108 => ?_) (fun c108 => ?_)
  · replace h := h c108
    refine x_aload_n dM_get_9 rfl (n := 10) rfl ?_
    refine x_lload_n dM_get_10 rfl (n := 11) rfl ?_
    obtain ⟨k4, h⟩ := h
    refine x_invV (m := m2) rfl dM_get_11 gM_get_11 (as := [vL x1]) (st := []) rfl rfl k4 rfl rfl (Nat.le_of_ble_eq_true rfl) (n := 14) rfl rfl rfl h (xBk.I fun v6 m5 h => ?_)
    refine x_istore_n dM_get_14 (by decide) (L' := [some (vR (some a0)), some (vL x1), none, some (vI v6), none]) rfl (n := 15) rfl ?_
    refine x_iload_n dM_get_15 rfl (n := 16) rfl ?_
    obtain ⟨h, h'⟩ := h
    refine x_if_lt (tgt := 57) dM_get_16 rfl (n := 19) rfl (fun c107 => ?_) (fun c107 => ?_)
    · replace h := h c107
      refine x_aload_n dM_get_57 rfl (n := 58) rfl ?_
      refine x_lload_n dM_get_58 rfl (n := 59) rfl ?_
      obtain ⟨k7, h⟩ := h
      refine x_invV (m := m5) rfl dM_get_59 gM_get_59 (as := [vL x1]) (st := []) rfl rfl k7 rfl rfl (Nat.le_of_ble_eq_true rfl) (n := 62) rfl rfl rfl h (xBk.I fun v9 m8 h => ?_)
      obtain ⟨h, h'⟩ := h
      refine x_if_eq (tgt := 73) dM_get_62 rfl (n := 65) rfl (fun c83 => ?_) (fun c83 => ?_)
      · replace h := h c83
        refine x_iconst (v := -1) dM_get_73 (by decide) (n := 74) rfl ?_
        refine x_istore dM_get_74 (by decide) (L' := [some (vR (some a0)), some (vL x1), none, some (vI v6), some (vI (-1 : Int32))]) rfl (n := 76) rfl ?_
        refine x_iload dM_get_76 rfl (n := 78) rfl ?_
        obtain ⟨h, h'⟩ := h
        refine x_if_ge (tgt := 85) dM_get_78 rfl (n := 81) rfl (fun c44 => ?_) (fun c44 => ?_)
        · replace h := h c44
          refine x_aload_n dM_get_85 rfl (n := 86) rfl ?_
          obtain ⟨k10, h⟩ := h
          refine x_getR rfl dM_get_86 fM_47 k10 (n := 89) rfl ?_
          refine x_bipush (v := 8) dM_get_89 (by decide) (n := 91) rfl ?_
          refine x_lload_n dM_get_91 rfl (n := 92) rfl ?_
          refine x_invS (m := m8) dM_get_92 gM_get_92 (as := [vL x1]) (st := [vI (8 : Int32), vR (gR m8 a0 15)]) rfl rfl (Nat.le_of_ble_eq_true rfl) (n := 95) rfl rfl rfl h (xBk.I fun v12 m11 h => ?_)
          refine x_imul dM_get_95 (n := 96) rfl ?_
          refine x_iload dM_get_96 rfl (n := 98) rfl ?_
          refine x_iadd dM_get_98 (n := 99) rfl ?_
          obtain ⟨a13, e14, h⟩ := h
          obtain ⟨n16, k15, h⟩ := h
          obtain ⟨c17, h⟩ := h
          refine x_iald e14 dM_get_99 k15 c17 (n := 100) rfl ?_
          refine x_istore_n dM_get_100 (by decide) (L' := [some (vR (some a0)), some (vL x1), none, some (vI (gI m11 a13 (((8 : Int32) * v12) + (-1 : Int32)).toNatClampNeg)), some (vI (-1 : Int32))]) rfl (n := 101) rfl ?_
          refine x_iload_n dM_get_101 rfl (n := 102) rfl ?_
          obtain ⟨h, h'⟩ := h
          refine x_if_lt (tgt := 112) dM_get_102 rfl (n := 105) rfl (fun c30 => ?_) (fun c30 => ?_)
          · replace h := h c30
            refine x_aload_n dM_get_112 rfl (n := 113) rfl ?_
            refine x_iload_n dM_get_113 rfl (n := 114) rfl ?_
            obtain ⟨k18, h⟩ := h
            refine x_invV (m := m11) rfl dM_get_114 gM_get_114 (as := [vI (gI m11 a13 (((8 : Int32) * v12) + (-1 : Int32)).toNatClampNeg)]) (st := []) rfl rfl k18 rfl rfl (Nat.le_of_ble_eq_true rfl) (n := 117) rfl rfl rfl h (xBk.V fun m19 h => ?_)
            refine x_aload_n dM_get_117 rfl (n := 118) rfl ?_
            obtain ⟨k20, h⟩ := h
            refine x_getI rfl dM_get_118 fM_179 k20 (n := 121) rfl ?_
            exact x_iret dM_get_121 rfl h
          · replace h := h' c30
            refine x_aload_n dM_get_105 rfl (n := 106) rfl ?_
            obtain ⟨k21, h⟩ := h
            refine x_getR rfl dM_get_106 fM_41 k21 (n := 109) rfl ?_
            refine x_iload_n dM_get_109 rfl (n := 110) rfl ?_
            refine x_iconst (v := 1) dM_get_110 (by decide) (n := 111) rfl ?_
            obtain ⟨a22, e23, h⟩ := h
            obtain ⟨n25, k24, h⟩ := h
            obtain ⟨c26, h⟩ := h
            replace h := h _ rfl
            refine x_zast e23 dM_get_111 k24 c26 (by decide) (n := 112) rfl ?_
            refine x_aload_n dM_get_112 rfl (n := 113) rfl ?_
            refine x_iload_n dM_get_113 rfl (n := 114) rfl ?_
            refine x_invV (m := (mI m11 a22 (gI m11 a13 (((8 : Int32) * v12) + (-1 : Int32)).toNatClampNeg).toNatClampNeg (1 : Int32))) rfl dM_get_114 gM_get_114 (as := [vI (gI m11 a13 (((8 : Int32) * v12) + (-1 : Int32)).toNatClampNeg)]) (st := []) rfl rfl k21 rfl rfl (Nat.le_of_ble_eq_true rfl) (n := 117) rfl rfl rfl h (xBk.V fun m28 h => ?_)
            refine x_aload_n dM_get_117 rfl (n := 118) rfl ?_
            obtain ⟨k29, h⟩ := h
            refine x_getI rfl dM_get_118 fM_179 k29 (n := 121) rfl ?_
            exact x_iret dM_get_121 rfl h
        · replace h := h' c44
          refine x_iconst (v := -1) dM_get_81 (by decide) (n := 82) rfl ?_
          refine x_goto (tgt := 100) dM_get_82 rfl ?_
          refine x_istore_n dM_get_100 (by decide) (L' := [some (vR (some a0)), some (vL x1), none, some (vI (-1 : Int32)), some (vI (-1 : Int32))]) rfl (n := 101) rfl ?_
          refine x_iload_n dM_get_101 rfl (n := 102) rfl ?_
          obtain ⟨h, h'⟩ := h
          refine x_if_lt (tgt := 112) dM_get_102 rfl (n := 105) rfl (fun c43 => ?_) (fun c43 => ?_)
          · replace h := h c43
            refine x_aload_n dM_get_112 rfl (n := 113) rfl ?_
            refine x_iload_n dM_get_113 rfl (n := 114) rfl ?_
            obtain ⟨k31, h⟩ := h
            refine x_invV (m := m8) rfl dM_get_114 gM_get_114 (as := [vI (-1 : Int32)]) (st := []) rfl rfl k31 rfl rfl (Nat.le_of_ble_eq_true rfl) (n := 117) rfl rfl rfl h (xBk.V fun m32 h => ?_)
            refine x_aload_n dM_get_117 rfl (n := 118) rfl ?_
            obtain ⟨k33, h⟩ := h
            refine x_getI rfl dM_get_118 fM_179 k33 (n := 121) rfl ?_
            exact x_iret dM_get_121 rfl h
          · replace h := h' c43
            refine x_aload_n dM_get_105 rfl (n := 106) rfl ?_
            obtain ⟨k34, h⟩ := h
            refine x_getR rfl dM_get_106 fM_41 k34 (n := 109) rfl ?_
            refine x_iload_n dM_get_109 rfl (n := 110) rfl ?_
            refine x_iconst (v := 1) dM_get_110 (by decide) (n := 111) rfl ?_
            obtain ⟨a35, e36, h⟩ := h
            obtain ⟨n38, k37, h⟩ := h
            obtain ⟨c39, h⟩ := h
            replace h := h _ rfl
            refine x_zast e36 dM_get_111 k37 c39 (by decide) (n := 112) rfl ?_
            refine x_aload_n dM_get_112 rfl (n := 113) rfl ?_
            refine x_iload_n dM_get_113 rfl (n := 114) rfl ?_
            refine x_invV (m := (mI m8 a35 (-1 : Int32).toNatClampNeg (1 : Int32))) rfl dM_get_114 gM_get_114 (as := [vI (-1 : Int32)]) (st := []) rfl rfl k34 rfl rfl (Nat.le_of_ble_eq_true rfl) (n := 117) rfl rfl rfl h (xBk.V fun m41 h => ?_)
            refine x_aload_n dM_get_117 rfl (n := 118) rfl ?_
            obtain ⟨k42, h⟩ := h
            refine x_getI rfl dM_get_118 fM_179 k42 (n := 121) rfl ?_
            exact x_iret dM_get_121 rfl h
      · replace h := h' c83
        refine x_aload_n dM_get_65 rfl (n := 66) rfl ?_
        refine x_lload_n dM_get_66 rfl (n := 67) rfl ?_
        obtain ⟨k45, h⟩ := h
        refine x_invV (m := m8) rfl dM_get_67 gM_get_67 (as := [vL x1]) (st := []) rfl rfl k45 rfl rfl (Nat.le_of_ble_eq_true rfl) (n := 70) rfl rfl rfl h (xBk.I fun v47 m46 h => ?_)
        refine x_goto (tgt := 74) dM_get_70 rfl ?_
        refine x_istore dM_get_74 (by decide) (L' := [some (vR (some a0)), some (vL x1), none, some (vI v6), some (vI v47)]) rfl (n := 76) rfl ?_
        refine x_iload dM_get_76 rfl (n := 78) rfl ?_
        obtain ⟨h, h'⟩ := h
        refine x_if_ge (tgt := 85) dM_get_78 rfl (n := 81) rfl (fun c82 => ?_) (fun c82 => ?_)
        · replace h := h c82
          refine x_aload_n dM_get_85 rfl (n := 86) rfl ?_
          obtain ⟨k48, h⟩ := h
          refine x_getR rfl dM_get_86 fM_47 k48 (n := 89) rfl ?_
          refine x_bipush (v := 8) dM_get_89 (by decide) (n := 91) rfl ?_
          refine x_lload_n dM_get_91 rfl (n := 92) rfl ?_
          refine x_invS (m := m46) dM_get_92 gM_get_92 (as := [vL x1]) (st := [vI (8 : Int32), vR (gR m46 a0 15)]) rfl rfl (Nat.le_of_ble_eq_true rfl) (n := 95) rfl rfl rfl h (xBk.I fun v50 m49 h => ?_)
          refine x_imul dM_get_95 (n := 96) rfl ?_
          refine x_iload dM_get_96 rfl (n := 98) rfl ?_
          refine x_iadd dM_get_98 (n := 99) rfl ?_
          obtain ⟨a51, e52, h⟩ := h
          obtain ⟨n54, k53, h⟩ := h
          obtain ⟨c55, h⟩ := h
          refine x_iald e52 dM_get_99 k53 c55 (n := 100) rfl ?_
          refine x_istore_n dM_get_100 (by decide) (L' := [some (vR (some a0)), some (vL x1), none, some (vI (gI m49 a51 (((8 : Int32) * v50) + v47).toNatClampNeg)), some (vI v47)]) rfl (n := 101) rfl ?_
          refine x_iload_n dM_get_101 rfl (n := 102) rfl ?_
          obtain ⟨h, h'⟩ := h
          refine x_if_lt (tgt := 112) dM_get_102 rfl (n := 105) rfl (fun c68 => ?_) (fun c68 => ?_)
          · replace h := h c68
            refine x_aload_n dM_get_112 rfl (n := 113) rfl ?_
            refine x_iload_n dM_get_113 rfl (n := 114) rfl ?_
            obtain ⟨k56, h⟩ := h
            refine x_invV (m := m49) rfl dM_get_114 gM_get_114 (as := [vI (gI m49 a51 (((8 : Int32) * v50) + v47).toNatClampNeg)]) (st := []) rfl rfl k56 rfl rfl (Nat.le_of_ble_eq_true rfl) (n := 117) rfl rfl rfl h (xBk.V fun m57 h => ?_)
            refine x_aload_n dM_get_117 rfl (n := 118) rfl ?_
            obtain ⟨k58, h⟩ := h
            refine x_getI rfl dM_get_118 fM_179 k58 (n := 121) rfl ?_
            exact x_iret dM_get_121 rfl h
          · replace h := h' c68
            refine x_aload_n dM_get_105 rfl (n := 106) rfl ?_
            obtain ⟨k59, h⟩ := h
            refine x_getR rfl dM_get_106 fM_41 k59 (n := 109) rfl ?_
            refine x_iload_n dM_get_109 rfl (n := 110) rfl ?_
            refine x_iconst (v := 1) dM_get_110 (by decide) (n := 111) rfl ?_
            obtain ⟨a60, e61, h⟩ := h
            obtain ⟨n63, k62, h⟩ := h
            obtain ⟨c64, h⟩ := h
            replace h := h _ rfl
            refine x_zast e61 dM_get_111 k62 c64 (by decide) (n := 112) rfl ?_
            refine x_aload_n dM_get_112 rfl (n := 113) rfl ?_
            refine x_iload_n dM_get_113 rfl (n := 114) rfl ?_
            refine x_invV (m := (mI m49 a60 (gI m49 a51 (((8 : Int32) * v50) + v47).toNatClampNeg).toNatClampNeg (1 : Int32))) rfl dM_get_114 gM_get_114 (as := [vI (gI m49 a51 (((8 : Int32) * v50) + v47).toNatClampNeg)]) (st := []) rfl rfl k59 rfl rfl (Nat.le_of_ble_eq_true rfl) (n := 117) rfl rfl rfl h (xBk.V fun m66 h => ?_)
            refine x_aload_n dM_get_117 rfl (n := 118) rfl ?_
            obtain ⟨k67, h⟩ := h
            refine x_getI rfl dM_get_118 fM_179 k67 (n := 121) rfl ?_
            exact x_iret dM_get_121 rfl h
        · replace h := h' c82
          refine x_iconst (v := -1) dM_get_81 (by decide) (n := 82) rfl ?_
          refine x_goto (tgt := 100) dM_get_82 rfl ?_
          refine x_istore_n dM_get_100 (by decide) (L' := [some (vR (some a0)), some (vL x1), none, some (vI (-1 : Int32)), some (vI v47)]) rfl (n := 101) rfl ?_
          refine x_iload_n dM_get_101 rfl (n := 102) rfl ?_
          obtain ⟨h, h'⟩ := h
          refine x_if_lt (tgt := 112) dM_get_102 rfl (n := 105) rfl (fun c81 => ?_) (fun c81 => ?_)
          · replace h := h c81
            refine x_aload_n dM_get_112 rfl (n := 113) rfl ?_
            refine x_iload_n dM_get_113 rfl (n := 114) rfl ?_
            obtain ⟨k69, h⟩ := h
            refine x_invV (m := m46) rfl dM_get_114 gM_get_114 (as := [vI (-1 : Int32)]) (st := []) rfl rfl k69 rfl rfl (Nat.le_of_ble_eq_true rfl) (n := 117) rfl rfl rfl h (xBk.V fun m70 h => ?_)
            refine x_aload_n dM_get_117 rfl (n := 118) rfl ?_
            obtain ⟨k71, h⟩ := h
            refine x_getI rfl dM_get_118 fM_179 k71 (n := 121) rfl ?_
            exact x_iret dM_get_121 rfl h
          · replace h := h' c81
            refine x_aload_n dM_get_105 rfl (n := 106) rfl ?_
            obtain ⟨k72, h⟩ := h
            refine x_getR rfl dM_get_106 fM_41 k72 (n := 109) rfl ?_
            refine x_iload_n dM_get_109 rfl (n := 110) rfl ?_
            refine x_iconst (v := 1) dM_get_110 (by decide) (n := 111) rfl ?_
            obtain ⟨a73, e74, h⟩ := h
            obtain ⟨n76, k75, h⟩ := h
            obtain ⟨c77, h⟩ := h
            replace h := h _ rfl
            refine x_zast e74 dM_get_111 k75 c77 (by decide) (n := 112) rfl ?_
            refine x_aload_n dM_get_112 rfl (n := 113) rfl ?_
            refine x_iload_n dM_get_113 rfl (n := 114) rfl ?_
            refine x_invV (m := (mI m46 a73 (-1 : Int32).toNatClampNeg (1 : Int32))) rfl dM_get_114 gM_get_114 (as := [vI (-1 : Int32)]) (st := []) rfl rfl k72 rfl rfl (Nat.le_of_ble_eq_true rfl) (n := 117) rfl rfl rfl h (xBk.V fun m79 h => ?_)
            refine x_aload_n dM_get_117 rfl (n := 118) rfl ?_
            obtain ⟨k80, h⟩ := h
            refine x_getI rfl dM_get_118 fM_179 k80 (n := 121) rfl ?_
            exact x_iret dM_get_121 rfl h
    · replace h := h' c107
      refine x_aload_n dM_get_19 rfl (n := 20) rfl ?_
      obtain ⟨k84, h⟩ := h
      refine x_getR rfl dM_get_20 fM_35 k84 (n := 23) rfl ?_
      refine x_iload_n dM_get_23 rfl (n := 24) rfl ?_
      refine x_iconst (v := 1) dM_get_24 (by decide) (n := 25) rfl ?_
      obtain ⟨a85, e86, h⟩ := h
      obtain ⟨n88, k87, h⟩ := h
      obtain ⟨c89, h⟩ := h
      replace h := h _ rfl
      refine x_zast e86 dM_get_25 k87 c89 (by decide) (n := 26) rfl ?_
      refine x_aload_n dM_get_26 rfl (n := 27) rfl ?_
      refine x_iload_n dM_get_27 rfl (n := 28) rfl ?_
      refine x_invV (m := (mI m5 a85 v6.toNatClampNeg (1 : Int32))) rfl dM_get_28 gM_get_28 (as := [vI v6]) (st := []) rfl rfl k84 rfl rfl (Nat.le_of_ble_eq_true rfl) (n := 31) rfl rfl rfl h (xBk.I fun v92 m91 h => ?_)
      refine x_bipush (v := 96) dM_get_31 (by decide) (n := 33) rfl ?_
      obtain ⟨h, h'⟩ := h
      refine x_icmp_ge (tgt := 47) dM_get_33 rfl (n := 36) rfl (fun c106 => ?_) (fun c106 => ?_)
      · replace h := h c106
        refine x_aload_n dM_get_47 rfl (n := 48) rfl ?_
        refine x_iload_n dM_get_48 rfl (n := 49) rfl ?_
        obtain ⟨k93, h⟩ := h
        refine x_invV (m := m91) rfl dM_get_49 gM_get_49 (as := [vI v6]) (st := []) rfl rfl k93 rfl rfl (Nat.le_of_ble_eq_true rfl) (n := 52) rfl rfl rfl h (xBk.V fun m94 h => ?_)
        refine x_aload_n dM_get_52 rfl (n := 53) rfl ?_
        obtain ⟨k95, h⟩ := h
        refine x_getI rfl dM_get_53 fM_179 k95 (n := 56) rfl ?_
        exact x_iret dM_get_56 rfl h
      · replace h := h' c106
        refine x_aload_n dM_get_36 rfl (n := 37) rfl ?_
        obtain ⟨k96, h⟩ := h
        refine x_getR rfl dM_get_37 fM_62 k96 (n := 40) rfl ?_
        refine x_bipush (v := 9) dM_get_40 (by decide) (n := 42) rfl ?_
        refine x_dup2 dM_get_42 rfl rfl (n := 43) rfl ?_
        obtain ⟨a97, e98, h⟩ := h
        obtain ⟨n100, k99, h⟩ := h
        obtain ⟨c101, h⟩ := h
        refine x_iald e98 dM_get_43 k99 c101 (n := 44) rfl ?_
        refine x_iconst (v := 1) dM_get_44 (by decide) (n := 45) rfl ?_
        refine x_iadd dM_get_45 (n := 46) rfl ?_
        obtain ⟨c102, h⟩ := h
        replace h := h _ rfl
        refine x_iast e98 dM_get_46 k99 c102 (n := 47) rfl ?_
        refine x_aload_n dM_get_47 rfl (n := 48) rfl ?_
        refine x_iload_n dM_get_48 rfl (n := 49) rfl ?_
        refine x_invV (m := (mI m91 a97 (9 : Int32).toNatClampNeg ((gI m91 a97 (9 : Int32).toNatClampNeg) + (1 : Int32)))) rfl dM_get_49 gM_get_49 (as := [vI v6]) (st := []) rfl rfl k96 rfl rfl (Nat.le_of_ble_eq_true rfl) (n := 52) rfl rfl rfl h (xBk.V fun m104 h => ?_)
        refine x_aload_n dM_get_52 rfl (n := 53) rfl ?_
        obtain ⟨k105, h⟩ := h
        refine x_getI rfl dM_get_53 fM_179 k105 (n := 56) rfl ?_
        exact x_iret dM_get_56 rfl h
  · replace h := h' c108
    refine x_iconst (v := 0) dM_get_7 (by decide) (n := 8) rfl ?_
    exact x_iret dM_get_8 rfl h
set_option maxRecDepth 100000 in
set_option maxHeartbeats 4000000 in
theorem bM_pageOf_5 {l : Launch} {G : xG} {m : XM} {bc bs : Nat} {Q : XR → XM → Prop} {a0 : Nat} {x1 : Int32} {x2 : Int32} {x3 : Int32}
    (h : (((97 : Int32) ≤ x3 → Q (.inl (some (vI x2))) m) ∧ (¬ (97 : Int32) ≤ x3 → WW l G xM_pageOf 14 [some (vR (some a0)), some (vI x1), some (vI x2), some (vI x3), some (vI (0 : Int32))] [] m bc bs Q))) :
    WW l G xM_pageOf 5 [some (vR (some a0)), some (vI x1), some (vI x2), some (vI x3), none] [] m bc bs Q := by
  refine x_iload_n dM_pageOf_5 rfl (n := 6) rfl ?_
  refine x_bipush (v := 97) dM_pageOf_6 (by decide) (n := 8) rfl ?_
  obtain ⟨h, h'⟩ := h
  refine x_icmp_ge (tgt := 59) dM_pageOf_8 rfl (n := 11) rfl (fun c1 => ?_) (fun c1 => ?_)
  · replace h := h c1
    refine x_iload_n dM_pageOf_59 rfl (n := 60) rfl ?_
    exact x_iret dM_pageOf_60 rfl h
  · replace h := h' c1
    refine x_iconst (v := 0) dM_pageOf_11 (by decide) (n := 12) rfl ?_
    refine x_istore dM_pageOf_12 (by decide) (L' := [some (vR (some a0)), some (vI x1), some (vI x2), some (vI x3), some (vI (0 : Int32))]) rfl (n := 14) rfl ?_
    exact h
set_option maxRecDepth 100000 in
set_option maxHeartbeats 4000000 in
theorem bM_pageOf_14 {l : Launch} {G : xG} {m : XM} {bc bs : Nat} {Q : XR → XM → Prop} {a0 : Nat} {x1 : Int32} {x2 : Int32} {x3 : Int32} {x4 : Int32}
    (h : kd m a0 = some (oB 5) ∧ ∃ a2, gR m a0 14 = some a2 ∧ ∃ n5, kd m a2 = some (aR 0 n5) ∧ vp_in x3 n5 ∧ (((gI m a2 x3.toNatClampNeg) ≤ x4 → WW l G xM_pageOf 5 [some (vR (some a0)), some (vI x1), some (vI x2), some (vI (x3 + 1)), none] [] m bc bs Q) ∧ (¬ (gI m a2 x3.toNatClampNeg) ≤ x4 → ∃ a7, gR m a0 15 = some a7 ∧ ∃ n10, kd m a7 = some (aR 0 n10) ∧ vp_in (((8 : Int32) * x3) + x4) n10 ∧ ((¬ (gI m a7 (((8 : Int32) * x3) + x4).toNatClampNeg) = x1 → WW l G xM_pageOf 14 [some (vR (some a0)), some (vI x1), some (vI x2), some (vI x3), some (vI (x4 + 1))] [] m bc bs Q) ∧ ((gI m a7 (((8 : Int32) * x3) + x4).toNatClampNeg) = x1 → WW l G xM_pageOf 14 [some (vR (some a0)), some (vI x1), some (vI x3), some (vI x3), some (vI (x4 + 1))] [] m bc bs Q))))) :
    WW l G xM_pageOf 14 [some (vR (some a0)), some (vI x1), some (vI x2), some (vI x3), some (vI x4)] [] m bc bs Q := by
  refine x_iload dM_pageOf_14 rfl (n := 16) rfl ?_
  refine x_aload_n dM_pageOf_16 rfl (n := 17) rfl ?_
  obtain ⟨k1, h⟩ := h
  refine x_getR rfl dM_pageOf_17 fM_44 k1 (n := 20) rfl ?_
  refine x_iload_n dM_pageOf_20 rfl (n := 21) rfl ?_
  obtain ⟨a2, e3, h⟩ := h
  obtain ⟨n5, k4, h⟩ := h
  obtain ⟨c6, h⟩ := h
  refine x_iald e3 dM_pageOf_21 k4 c6 (n := 22) rfl ?_
  obtain ⟨h, h'⟩ := h
  refine x_icmp_ge (tgt := 53) dM_pageOf_22 rfl (n := 25) rfl (fun c13 => ?_) (fun c13 => ?_)
  · replace h := h c13
    refine x_iinc (v := x3 + 1) dM_pageOf_53 rfl rfl (by decide) (L' := [some (vR (some a0)), some (vI x1), some (vI x2), some (vI (x3 + 1)), some (vI x4)]) rfl (n := 56) rfl ?_
    refine x_goto (tgt := 5) dM_pageOf_56 rfl ?_
    exact x_weak (b := [true, true, true, true, false]) rfl h
  · replace h := h' c13
    refine x_aload_n dM_pageOf_25 rfl (n := 26) rfl ?_
    refine x_getR rfl dM_pageOf_26 fM_47 k1 (n := 29) rfl ?_
    refine x_bipush (v := 8) dM_pageOf_29 (by decide) (n := 31) rfl ?_
    refine x_iload_n dM_pageOf_31 rfl (n := 32) rfl ?_
    refine x_imul dM_pageOf_32 (n := 33) rfl ?_
    refine x_iload dM_pageOf_33 rfl (n := 35) rfl ?_
    refine x_iadd dM_pageOf_35 (n := 36) rfl ?_
    obtain ⟨a7, e8, h⟩ := h
    obtain ⟨n10, k9, h⟩ := h
    obtain ⟨c11, h⟩ := h
    refine x_iald e8 dM_pageOf_36 k9 c11 (n := 37) rfl ?_
    refine x_iload_n dM_pageOf_37 rfl (n := 38) rfl ?_
    obtain ⟨h, h'⟩ := h
    refine x_icmp_ne (tgt := 45) dM_pageOf_38 rfl (n := 41) rfl (fun c12 => ?_) (fun c12 => ?_)
    · replace h := h c12
      refine x_iload_n dM_pageOf_45 rfl (n := 46) rfl ?_
      refine x_istore_n dM_pageOf_46 (by decide) (L' := [some (vR (some a0)), some (vI x1), some (vI x2), some (vI x3), some (vI x4)]) rfl (n := 47) rfl ?_
      refine x_iinc (v := x4 + 1) dM_pageOf_47 rfl rfl (by decide) (L' := [some (vR (some a0)), some (vI x1), some (vI x2), some (vI x3), some (vI (x4 + 1))]) rfl (n := 50) rfl ?_
      refine x_goto (tgt := 14) dM_pageOf_50 rfl ?_
      exact h
    · replace h := h' c12
      refine x_iload_n dM_pageOf_41 rfl (n := 42) rfl ?_
      refine x_goto (tgt := 46) dM_pageOf_42 rfl ?_
      refine x_istore_n dM_pageOf_46 (by decide) (L' := [some (vR (some a0)), some (vI x1), some (vI x3), some (vI x3), some (vI x4)]) rfl (n := 47) rfl ?_
      refine x_iinc (v := x4 + 1) dM_pageOf_47 rfl rfl (by decide) (L' := [some (vR (some a0)), some (vI x1), some (vI x3), some (vI x3), some (vI (x4 + 1))]) rfl (n := 50) rfl ?_
      refine x_goto (tgt := 14) dM_pageOf_50 rfl ?_
      exact h
set_option maxRecDepth 100000 in
set_option maxHeartbeats 4000000 in
theorem bM_pageOf {l : Launch} {G : xG} {m : XM} {Q : XR → XM → Prop} {a0 : Nat} {x1 : Int32} (hst : l.stackTraces = false)
    (h : WW l G xM_pageOf 5 [some (vR (some a0)), some (vI x1), some (vI (-1 : Int32)), some (vI (64 : Int32)), none] [] m 0 0 Q) :
    CC l G xM_pageOf [vR (some a0), vI x1] m Q := by
  refine x_entry (by decide +kernel) rfl hst (Nat.le_of_ble_eq_true rfl) (L0 := [some (vR (some a0)), some (vI x1), none, none, none]) rfl ?_
  refine x_iconst (v := -1) dM_pageOf_0 (by decide) (n := 1) rfl ?_
  refine x_istore_n dM_pageOf_1 (by decide) (L' := [some (vR (some a0)), some (vI x1), some (vI (-1 : Int32)), none, none]) rfl (n := 2) rfl ?_
  refine x_bipush (v := 64) dM_pageOf_2 (by decide) (n := 4) rfl ?_
  refine x_istore_n dM_pageOf_4 (by decide) (L' := [some (vR (some a0)), some (vI x1), some (vI (-1 : Int32)), some (vI (64 : Int32)), none]) rfl (n := 5) rfl ?_
  exact h
set_option maxRecDepth 100000 in
set_option maxHeartbeats 4000000 in
theorem bM_tell_20 {l : Launch} {G : xG} {m : XM} {bc bs : Nat} {Q : XR → XM → Prop} {a0 : Nat} {x1 : Int32} {x2 : Int32}
    (h : kd m a0 = some (oB 5) ∧ (((gI m a0 3) ≤ x2 → Q (.inl none) m) ∧ (¬ (gI m a0 3) ≤ x2 → ∃ a2, gR m a0 8 = some a2 ∧ ∃ n5, kd m a2 = some (aR 0 n5) ∧ vp_in (((8 : Int32) * x1) + x2) n5 ∧ ∃ a7, gR m a0 4 = some a7 ∧ ∃ n10, kd m a7 = some (aR 0 n10) ∧ vp_in x2 n10 ∧ ∀ m12, m12 = mI m a7 x2.toNatClampNeg (gI m a2 (((8 : Int32) * x1) + x2).toNatClampNeg) → WW l G xM_tell 20 [some (vR (some a0)), some (vI x1), some (vI (x2 + 1))] [] m12 bc bs Q))) :
    WW l G xM_tell 20 [some (vR (some a0)), some (vI x1), some (vI x2)] [] m bc bs Q := by
  refine x_iload_n dM_tell_20 rfl (n := 21) rfl ?_
  refine x_aload_n dM_tell_21 rfl (n := 22) rfl ?_
  obtain ⟨k1, h⟩ := h
  refine x_getI rfl dM_tell_22 fM_179 k1 (n := 25) rfl ?_
  obtain ⟨h, h'⟩ := h
  refine x_icmp_ge (tgt := 51) dM_tell_25 rfl (n := 28) rfl (fun c13 => ?_) (fun c13 => ?_)
  · replace h := h c13
    exact x_vret dM_tell_51 rfl h
  · replace h := h' c13
    refine x_aload_n dM_tell_28 rfl (n := 29) rfl ?_
    refine x_getR rfl dM_tell_29 fM_17 k1 (n := 32) rfl ?_
    refine x_iload_n dM_tell_32 rfl (n := 33) rfl ?_
    refine x_aload_n dM_tell_33 rfl (n := 34) rfl ?_
    refine x_getR rfl dM_tell_34 fM_28 k1 (n := 37) rfl ?_
    refine x_bipush (v := 8) dM_tell_37 (by decide) (n := 39) rfl ?_
    refine x_iload_n dM_tell_39 rfl (n := 40) rfl ?_
    refine x_imul dM_tell_40 (n := 41) rfl ?_
    refine x_iload_n dM_tell_41 rfl (n := 42) rfl ?_
    refine x_iadd dM_tell_42 (n := 43) rfl ?_
    obtain ⟨a2, e3, h⟩ := h
    obtain ⟨n5, k4, h⟩ := h
    obtain ⟨c6, h⟩ := h
    refine x_iald e3 dM_tell_43 k4 c6 (n := 44) rfl ?_
    obtain ⟨a7, e8, h⟩ := h
    obtain ⟨n10, k9, h⟩ := h
    obtain ⟨c11, h⟩ := h
    replace h := h _ rfl
    refine x_iast e8 dM_tell_44 k9 c11 (n := 45) rfl ?_
    refine x_iinc (v := x2 + 1) dM_tell_45 rfl rfl (by decide) (L' := [some (vR (some a0)), some (vI x1), some (vI (x2 + 1))]) rfl (n := 48) rfl ?_
    refine x_goto (tgt := 20) dM_tell_48 rfl ?_
    exact h
set_option maxRecDepth 100000 in
set_option maxHeartbeats 4000000 in
theorem bM_tell {l : Launch} {G : xG} {m : XM} {Q : XR → XM → Prop} {a0 : Nat} {x1 : Int32} (hst : l.stackTraces = false)
    (h : ((0 ≤ x1 → kd m a0 = some (oB 5) ∧ ∃ a2, gR m a0 7 = some a2 ∧ ∃ n5, kd m a2 = some (aR 0 n5) ∧ vp_in x1 n5 ∧ ∀ m7, m7 = mI m a0 3 (gI m a2 x1.toNatClampNeg) → WW l G xM_tell 20 [some (vR (some a0)), some (vI x1), some (vI (0 : Int32))] [] m7 0 0 Q) ∧ (¬ 0 ≤ x1 → kd m a0 = some (oB 5) ∧ ∀ m9, m9 = mI m a0 3 (0 : Int32) → WW l G xM_tell 20 [some (vR (some a0)), some (vI x1), some (vI (0 : Int32))] [] m9 0 0 Q))) :
    CC l G xM_tell [vR (some a0), vI x1] m Q := by
  refine x_entry (by decide +kernel) rfl hst (Nat.le_of_ble_eq_true rfl) (L0 := [some (vR (some a0)), some (vI x1), none]) rfl ?_
  refine x_aload_n dM_tell_0 rfl (n := 1) rfl ?_
  refine x_iload_n dM_tell_1 rfl (n := 2) rfl ?_
  obtain ⟨h, h'⟩ := h
  refine x_if_ge (tgt := 9) dM_tell_2 rfl (n := 5) rfl (fun c10 => ?_) (fun c10 => ?_)
  · replace h := h c10
    refine x_aload_n dM_tell_9 rfl (n := 10) rfl ?_
    obtain ⟨k1, h⟩ := h
    refine x_getR rfl dM_tell_10 fM_24 k1 (n := 13) rfl ?_
    refine x_iload_n dM_tell_13 rfl (n := 14) rfl ?_
    obtain ⟨a2, e3, h⟩ := h
    obtain ⟨n5, k4, h⟩ := h
    obtain ⟨c6, h⟩ := h
    refine x_iald e3 dM_tell_14 k4 c6 (n := 15) rfl ?_
    replace h := h _ rfl
    refine x_putI rfl dM_tell_15 pM_179 k1 rfl rfl (n := 18) rfl ?_
    refine x_iconst (v := 0) dM_tell_18 (by decide) (n := 19) rfl ?_
    refine x_istore_n dM_tell_19 (by decide) (L' := [some (vR (some a0)), some (vI x1), some (vI (0 : Int32))]) rfl (n := 20) rfl ?_
    exact h
  · replace h := h' c10
    refine x_iconst (v := 0) dM_tell_5 (by decide) (n := 6) rfl ?_
    refine x_goto (tgt := 15) dM_tell_6 rfl ?_
    obtain ⟨k8, h⟩ := h
    replace h := h _ rfl
    refine x_putI rfl dM_tell_15 pM_179 k8 rfl rfl (n := 18) rfl ?_
    refine x_iconst (v := 0) dM_tell_18 (by decide) (n := 19) rfl ?_
    refine x_istore_n dM_tell_19 (by decide) (L' := [some (vR (some a0)), some (vI x1), some (vI (0 : Int32))]) rfl (n := 20) rfl ?_
    exact h
set_option maxRecDepth 100000 in
set_option maxHeartbeats 4000000 in
theorem bM_got {l : Launch} {G : xG} {m : XM} {Q : XR → XM → Prop} {a0 : Nat} {x1 : Int32} (hst : l.stackTraces = false)
    (h : kd m a0 = some (oB 5) ∧ ∀ m2, m2 = mI m a0 0 (0 : Int32) → CC l G xM_within [vI x1, vI (0 : Int32), vI ((gI m2 a0 3) - (1 : Int32))] m2 (kI (fun v4 m3 => ((v4 = 0 → kd m3 a0 = some (oB 5) ∧ CC l G xM_fail [vR (some a0), vI (1 : Int32)] m3 (kI (fun v7 m6 => Q (.inl (some (vI v7))) m6) Q)) ∧ (¬ v4 = 0 → kd m3 a0 = some (oB 5) ∧ ∃ a9, gR m3 a0 4 = some a9 ∧ ∃ n12, kd m3 a9 = some (aR 0 n12) ∧ vp_in x1 n12 ∧ Q (.inl (some (vI (gI m3 a9 x1.toNatClampNeg)))) m3))) Q)) :
    CC l G xM_got [vR (some a0), vI x1] m Q := by
  refine x_entry (by decide +kernel) rfl hst (Nat.le_of_ble_eq_true rfl) (L0 := [some (vR (some a0)), some (vI x1)]) rfl ?_
  refine x_aload_n dM_got_0 rfl (n := 1) rfl ?_
  refine x_iconst (v := 0) dM_got_1 (by decide) (n := 2) rfl ?_
  obtain ⟨k1, h⟩ := h
  replace h := h _ rfl
  refine x_putI rfl dM_got_2 pM_65 k1 rfl rfl (n := 5) rfl ?_
  refine x_iload_n dM_got_5 rfl (n := 6) rfl ?_
  refine x_iconst (v := 0) dM_got_6 (by decide) (n := 7) rfl ?_
  refine x_aload_n dM_got_7 rfl (n := 8) rfl ?_
  refine x_getI rfl dM_got_8 fM_179 k1 (n := 11) rfl ?_
  refine x_iconst (v := 1) dM_got_11 (by decide) (n := 12) rfl ?_
  refine x_isub dM_got_12 (n := 13) rfl ?_
  refine x_invS (m := (mI m a0 0 (0 : Int32))) dM_got_13 gM_got_13 (as := [vI x1, vI (0 : Int32), vI ((gI (mI m a0 0 (0 : Int32)) a0 3) - (1 : Int32))]) (st := []) rfl rfl (Nat.le_of_ble_eq_true rfl) (n := 16) rfl rfl rfl h (xBk.I fun v4 m3 h => ?_)
  obtain ⟨h, h'⟩ := h
  refine x_if_eq (tgt := 28) dM_got_16 rfl (n := 19) rfl (fun c14 => ?_) (fun c14 => ?_)
  · replace h := h c14
    refine x_aload_n dM_got_28 rfl (n := 29) rfl ?_
    refine x_iconst (v := 1) dM_got_29 (by decide) (n := 30) rfl ?_
    obtain ⟨k5, h⟩ := h
    refine x_invV (m := m3) rfl dM_got_30 gM_got_30 (as := [vI (1 : Int32)]) (st := []) rfl rfl k5 rfl rfl (Nat.le_of_ble_eq_true rfl) (n := 33) rfl rfl rfl h (xBk.I fun v7 m6 h => ?_)
    exact x_iret dM_got_33 rfl h
  · replace h := h' c14
    refine x_aload_n dM_got_19 rfl (n := 20) rfl ?_
    obtain ⟨k8, h⟩ := h
    refine x_getR rfl dM_got_20 fM_17 k8 (n := 23) rfl ?_
    refine x_iload_n dM_got_23 rfl (n := 24) rfl ?_
    obtain ⟨a9, e10, h⟩ := h
    obtain ⟨n12, k11, h⟩ := h
    obtain ⟨c13, h⟩ := h
    refine x_iald e10 dM_got_24 k11 c13 (n := 25) rfl ?_
    refine x_goto (tgt := 33) dM_got_25 rfl ?_
    exact x_iret dM_got_33 rfl h
set_option maxRecDepth 100000 in
set_option maxHeartbeats 4000000 in
theorem bM_delete_26 {l : Launch} {G : xG} {m : XM} {bc bs : Nat} {Q : XR → XM → Prop} {a0 : Nat} {x1 : Int64} {x3 : Int32}
    (h : kd m a0 = some (oB 5) ∧ CC l G xM_removeOld [vR (some a0), vL x1, vI (3 : Int32)] m (kI (fun v3 m2 => ((0 ≤ x3 → Q (.inl (some (vI (1 : Int32)))) m2) ∧ (¬ 0 ≤ x3 → ((v3 = 0 → Q (.inl (some (vI (0 : Int32)))) m2) ∧ (¬ v3 = 0 → Q (.inl (some (vI (1 : Int32)))) m2))))) Q)) :
    WW l G xM_delete 26 [some (vR (some a0)), some (vL x1), none, some (vI x3), none] [] m bc bs Q := by
  refine x_aload_n dM_delete_26 rfl (n := 27) rfl ?_
  refine x_lload_n dM_delete_27 rfl (n := 28) rfl ?_
  refine x_iconst (v := 3) dM_delete_28 (by decide) (n := 29) rfl ?_
  obtain ⟨k1, h⟩ := h
  refine x_invV (m := m) rfl dM_delete_29 gM_delete_29 (as := [vL x1, vI (3 : Int32)]) (st := []) rfl rfl k1 rfl rfl (Nat.le_of_ble_eq_true rfl) (n := 32) rfl rfl rfl h (xBk.I fun v3 m2 h => ?_)
  refine x_istore dM_delete_32 (by decide) (L' := [some (vR (some a0)), some (vL x1), none, some (vI x3), some (vI v3)]) rfl (n := 34) rfl ?_
  refine x_iload_n dM_delete_34 rfl (n := 35) rfl ?_
  obtain ⟨h, h'⟩ := h
  refine x_if_ge (tgt := 43) dM_delete_35 rfl (n := 38) rfl (fun c5 => ?_) (fun c5 => ?_)
  · replace h := h c5
    refine x_iconst (v := 1) dM_delete_43 (by decide) (n := 44) rfl ?_
    refine x_goto (tgt := 48) dM_delete_44 rfl ?_
    exact x_zret dM_delete_48 rfl (by decide) h
  · replace h := h' c5
    refine x_iload dM_delete_38 rfl (n := 40) rfl ?_
    obtain ⟨h, h'⟩ := h
    refine x_if_eq (tgt := 47) dM_delete_40 rfl (n := 43) rfl (fun c4 => ?_) (fun c4 => ?_)
    · replace h := h c4
      refine x_iconst (v := 0) dM_delete_47 (by decide) (n := 48) rfl ?_
      exact x_zret dM_delete_48 rfl (by decide) h
    · replace h := h' c4
      refine x_iconst (v := 1) dM_delete_43 (by decide) (n := 44) rfl ?_
      refine x_goto (tgt := 48) dM_delete_44 rfl ?_
      exact x_zret dM_delete_48 rfl (by decide) h
set_option maxRecDepth 100000 in
set_option maxHeartbeats 4000000 in
theorem bM_delete {l : Launch} {G : xG} {m : XM} {Q : XR → XM → Prop} {a0 : Nat} {x1 : Int64} (hst : l.stackTraces = false)
    (h : kd m a0 = some (oB 5) ∧ CC l G xM_works [vR (some a0)] m (kI (fun v3 m2 => ((¬ v3 = 0 → kd m2 a0 = some (oB 5) ∧ CC l G xM_newest [vR (some a0), vL x1] m2 (kI (fun v6 m5 => ((v6 < 0 → WW l G xM_delete 26 [some (vR (some a0)), some (vL x1), none, some (vI v6), none] [] m5 0 0 Q) ∧ (¬ v6 < 0 → kd m5 a0 = some (oB 5) ∧ ∃ a8, gR m5 a0 9 = some a8 ∧ ∃ n11, kd m5 a8 = some (aR 1 n11) ∧ vp_in v6 n11 ∧ ∀ m13, m13 = mI m5 a8 v6.toNatClampNeg (0 : Int32) → WW l G xM_delete 26 [some (vR (some a0)), some (vL x1), none, some (vI v6), none] [] m13 0 0 Q))) Q)) ∧ (v3 = 0 → Q (.inl (some (vI (0 : Int32)))) m2))) Q)) :
    CC l G xM_delete [vR (some a0), vL x1] m Q := by
  refine x_entry (by decide +kernel) rfl hst (Nat.le_of_ble_eq_true rfl) (L0 := [some (vR (some a0)), some (vL x1), none, none, none]) rfl ?_
  refine x_aload_n dM_delete_0 rfl (n := 1) rfl ?_
  obtain ⟨k1, h⟩ := h
  refine x_invV (m := m) rfl dM_delete_1 gM_delete_1 (as := []) (st := []) rfl rfl k1 rfl rfl (Nat.le_of_ble_eq_true rfl) (n := 4) rfl rfl rfl h (xBk.I fun v3 m2 h => ?_)
  obtain ⟨h, h'⟩ := h
  refine x_if_ne (tgt := 9) dM_delete_4 rfl (n := 7) rfl (fun c15 => ?_) (fun c15 => ?_)
  · replace h := h c15
    refine x_aload_n dM_delete_9 rfl (n := 10) rfl ?_
    refine x_lload_n dM_delete_10 rfl (n := 11) rfl ?_
    obtain ⟨k4, h⟩ := h
    refine x_invV (m := m2) rfl dM_delete_11 gM_delete_11 (as := [vL x1]) (st := []) rfl rfl k4 rfl rfl (Nat.le_of_ble_eq_true rfl) (n := 14) rfl rfl rfl h (xBk.I fun v6 m5 h => ?_)
    refine x_istore_n dM_delete_14 (by decide) (L' := [some (vR (some a0)), some (vL x1), none, some (vI v6), none]) rfl (n := 15) rfl ?_
    refine x_iload_n dM_delete_15 rfl (n := 16) rfl ?_
    obtain ⟨h, h'⟩ := h
    refine x_if_lt (tgt := 26) dM_delete_16 rfl (n := 19) rfl (fun c14 => ?_) (fun c14 => ?_)
    · replace h := h c14
      exact h
    · replace h := h' c14
      refine x_aload_n dM_delete_19 rfl (n := 20) rfl ?_
      obtain ⟨k7, h⟩ := h
      refine x_getR rfl dM_delete_20 fM_31 k7 (n := 23) rfl ?_
      refine x_iload_n dM_delete_23 rfl (n := 24) rfl ?_
      refine x_iconst (v := 0) dM_delete_24 (by decide) (n := 25) rfl ?_
      obtain ⟨a8, e9, h⟩ := h
      obtain ⟨n11, k10, h⟩ := h
      obtain ⟨c12, h⟩ := h
      replace h := h _ rfl
      refine x_zast e9 dM_delete_25 k10 c12 (by decide) (n := 26) rfl ?_
      exact h
  · replace h := h' c15
    refine x_iconst (v := 0) dM_delete_7 (by decide) (n := 8) rfl ?_
    exact x_zret dM_delete_8 rfl (by decide) h
set_option maxRecDepth 100000 in
set_option maxHeartbeats 4000000 in
theorem bM_setOf {l : Launch} {G : xG} {m : XM} {Q : XR → XM → Prop} {a0 : Nat} {x1 : Int64} (hst : l.stackTraces = false)
    (h : kd m a0 = some (oB 5) ∧ ∀ m2, m2 = mI m a0 0 (0 : Int32) → CC l G xM_setOfKey [vL x1] m2 (kI (fun v4 m3 => Q (.inl (some (vI v4))) m3) Q)) :
    CC l G xM_setOf [vR (some a0), vL x1] m Q := by
  refine x_entry (by decide +kernel) rfl hst (Nat.le_of_ble_eq_true rfl) (L0 := [some (vR (some a0)), some (vL x1), none]) rfl ?_
  refine x_aload_n dM_setOf_0 rfl (n := 1) rfl ?_
  refine x_iconst (v := 0) dM_setOf_1 (by decide) (n := 2) rfl ?_
  obtain ⟨k1, h⟩ := h
  replace h := h _ rfl
  refine x_putI rfl dM_setOf_2 pM_65 k1 rfl rfl (n := 5) rfl ?_
  refine x_lload_n dM_setOf_5 rfl (n := 6) rfl ?_
  refine x_invS (m := (mI m a0 0 (0 : Int32))) dM_setOf_6 gM_setOf_6 (as := [vL x1]) (st := []) rfl rfl (Nat.le_of_ble_eq_true rfl) (n := 9) rfl rfl rfl h (xBk.I fun v4 m3 h => ?_)
  exact x_iret dM_setOf_9 rfl h
set_option maxRecDepth 100000 in
set_option maxHeartbeats 4000000 in
theorem bM_where {l : Launch} {G : xG} {m : XM} {Q : XR → XM → Prop} {a0 : Nat} {x1 : Int64} (hst : l.stackTraces = false)
    (h : kd m a0 = some (oB 5) ∧ CC l G xM_works [vR (some a0)] m (kI (fun v3 m2 => ((¬ v3 = 0 → kd m2 a0 = some (oB 5) ∧ CC l G xM_newest [vR (some a0), vL x1] m2 (kI (fun v6 m5 => ((v6 < 0 → kd m5 a0 = some (oB 5) ∧ CC l G xM_inSet [vR (some a0), vL x1] m5 (kI (fun v9 m8 => ((v9 < 0 → Q (.inl (some (vI (0 : Int32)))) m8) ∧ (¬ v9 < 0 → Q (.inl (some (vI (2 : Int32)))) m8))) Q)) ∧ (¬ v6 < 0 → Q (.inl (some (vI (1 : Int32)))) m5))) Q)) ∧ (v3 = 0 → Q (.inl (some (vI (0 : Int32)))) m2))) Q)) :
    CC l G xM_where [vR (some a0), vL x1] m Q := by
  refine x_entry (by decide +kernel) rfl hst (Nat.le_of_ble_eq_true rfl) (L0 := [some (vR (some a0)), some (vL x1), none]) rfl ?_
  refine x_aload_n dM_where_0 rfl (n := 1) rfl ?_
  obtain ⟨k1, h⟩ := h
  refine x_invV (m := m) rfl dM_where_1 gM_where_1 (as := []) (st := []) rfl rfl k1 rfl rfl (Nat.le_of_ble_eq_true rfl) (n := 4) rfl rfl rfl h (xBk.I fun v3 m2 h => ?_)
  obtain ⟨h, h'⟩ := h
  refine x_if_ne (tgt := 9) dM_where_4 rfl (n := 7) rfl (fun c12 => ?_) (fun c12 => ?_)
  · replace h := h c12
    refine x_aload_n dM_where_9 rfl (n := 10) rfl ?_
    refine x_lload_n dM_where_10 rfl (n := 11) rfl ?_
    obtain ⟨k4, h⟩ := h
    refine x_invV (m := m2) rfl dM_where_11 gM_where_11 (as := [vL x1]) (st := []) rfl rfl k4 rfl rfl (Nat.le_of_ble_eq_true rfl) (n := 14) rfl rfl rfl h (xBk.I fun v6 m5 h => ?_)
    obtain ⟨h, h'⟩ := h
    refine x_if_lt (tgt := 21) dM_where_14 rfl (n := 17) rfl (fun c11 => ?_) (fun c11 => ?_)
    · replace h := h c11
      refine x_aload_n dM_where_21 rfl (n := 22) rfl ?_
      refine x_lload_n dM_where_22 rfl (n := 23) rfl ?_
      obtain ⟨k7, h⟩ := h
      refine x_invV (m := m5) rfl dM_where_23 gM_where_23 (as := [vL x1]) (st := []) rfl rfl k7 rfl rfl (Nat.le_of_ble_eq_true rfl) (n := 26) rfl rfl rfl h (xBk.I fun v9 m8 h => ?_)
      obtain ⟨h, h'⟩ := h
      refine x_if_lt (tgt := 33) dM_where_26 rfl (n := 29) rfl (fun c10 => ?_) (fun c10 => ?_)
      · replace h := h c10
        refine x_iconst (v := 0) dM_where_33 (by decide) (n := 34) rfl ?_
        exact x_iret dM_where_34 rfl h
      · replace h := h' c10
        refine x_iconst (v := 2) dM_where_29 (by decide) (n := 30) rfl ?_
        refine x_goto (tgt := 34) dM_where_30 rfl ?_
        exact x_iret dM_where_34 rfl h
    · replace h := h' c11
      refine x_iconst (v := 1) dM_where_17 (by decide) (n := 18) rfl ?_
      refine x_goto (tgt := 34) dM_where_18 rfl ?_
      exact x_iret dM_where_34 rfl h
  · replace h := h' c12
    refine x_iconst (v := 0) dM_where_7 (by decide) (n := 8) rfl ?_
    exact x_iret dM_where_8 rfl h
set_option maxRecDepth 100000 in
set_option maxHeartbeats 4000000 in
theorem bM_flash_36 {l : Launch} {G : xG} {m : XM} {bc bs : Nat} {Q : XR → XM → Prop} {a0 : Nat} {x1 : Int32} {x2 : Int32} {x3 : Int32} {x4 : Int32}
    (h : kd m a0 = some (oB 5) ∧ ∃ a2, gR m a0 14 = some a2 ∧ ∃ n5, kd m a2 = some (aR 0 n5) ∧ vp_in x1 n5 ∧ (((gI m a2 x1.toNatClampNeg) ≤ x4 → Q (.inl (some (vI (0 : Int32)))) m) ∧ (¬ (gI m a2 x1.toNatClampNeg) ≤ x4 → ∃ a7, gR m a0 15 = some a7 ∧ ∃ n10, kd m a7 = some (aR 0 n10) ∧ vp_in (((8 : Int32) * x1) + x4) n10 ∧ CC l G xM_need [vR (some a0), vI (gI m a7 (((8 : Int32) * x1) + x4).toNatClampNeg)] m (kI (fun v13 m12 => (((x3 + v13) ≤ x2 → kd m12 a0 = some (oB 5) ∧ CC l G xM_need [vR (some a0), vI (gI m a7 (((8 : Int32) * x1) + x4).toNatClampNeg)] m12 (kI (fun v16 m15 => WW l G xM_flash 36 [some (vR (some a0)), some (vI x1), some (vI x2), some (vI (x3 + v16)), some (vI (x4 + 1)), none] [] m15 bc bs Q) Q)) ∧ (¬ (x3 + v13) ≤ x2 → ((¬ x2 = x3 → ((¬ x2 = (x3 + (1 : Int32)) → ((¬ x2 = (x3 + (2 : Int32)) → kd m12 a0 = some (oB 5) ∧ ∃ a18, gR m12 a0 8 = some a18 ∧ ∃ n21, kd m12 a18 = some (aR 0 n21) ∧ vp_in (((((8 : Int32) * (gI m a7 (((8 : Int32) * x1) + x4).toNatClampNeg)) + x2) - x3) - (3 : Int32)) n21 ∧ Q (.inl (some (vI (gI m12 a18 (((((8 : Int32) * (gI m a7 (((8 : Int32) * x1) + x4).toNatClampNeg)) + x2) - x3) - (3 : Int32)).toNatClampNeg)))) m12) ∧ (x2 = (x3 + (2 : Int32)) → kd m12 a0 = some (oB 5) ∧ ∃ a24, gR m12 a0 6 = some a24 ∧ ∃ n27, kd m12 a24 = some (aR 2 n27) ∧ vp_in (gI m a7 (((8 : Int32) * x1) + x4).toNatClampNeg) n27 ∧ Q (.inl (some (vI ((gL m12 a24 (gI m a7 (((8 : Int32) * x1) + x4).toNatClampNeg).toNatClampNeg).toInt32)))) m12))) ∧ (x2 = (x3 + (1 : Int32)) → kd m12 a0 = some (oB 5) ∧ ∃ a31, gR m12 a0 6 = some a31 ∧ ∃ n34, kd m12 a31 = some (aR 2 n34) ∧ vp_in (gI m a7 (((8 : Int32) * x1) + x4).toNatClampNeg) n34 ∧ Q (.inl (some (vI ((jshr (gL m12 a31 (gI m a7 (((8 : Int32) * x1) + x4).toNatClampNeg).toNatClampNeg) (32 : Int32)).toInt32)))) m12))) ∧ (x2 = x3 → kd m12 a0 = some (oB 5) ∧ ∃ a38, gR m12 a0 7 = some a38 ∧ ∃ n41, kd m12 a38 = some (aR 0 n41) ∧ vp_in (gI m a7 (((8 : Int32) * x1) + x4).toNatClampNeg) n41 ∧ Q (.inl (some (vI (gI m12 a38 (gI m a7 (((8 : Int32) * x1) + x4).toNatClampNeg).toNatClampNeg)))) m12))))) Q)))) :
    WW l G xM_flash 36 [some (vR (some a0)), some (vI x1), some (vI x2), some (vI x3), some (vI x4), none] [] m bc bs Q := by
  refine x_iload dM_flash_36 rfl (n := 38) rfl ?_
  refine x_aload_n dM_flash_38 rfl (n := 39) rfl ?_
  obtain ⟨k1, h⟩ := h
  refine x_getR rfl dM_flash_39 fM_44 k1 (n := 42) rfl ?_
  refine x_iload_n dM_flash_42 rfl (n := 43) rfl ?_
  obtain ⟨a2, e3, h⟩ := h
  obtain ⟨n5, k4, h⟩ := h
  obtain ⟨c6, h⟩ := h
  refine x_iald e3 dM_flash_43 k4 c6 (n := 44) rfl ?_
  obtain ⟨h, h'⟩ := h
  refine x_icmp_ge (tgt := 159) dM_flash_44 rfl (n := 47) rfl (fun c45 => ?_) (fun c45 => ?_)
  · replace h := h c45
    refine x_iconst (v := 0) dM_flash_159 (by decide) (n := 160) rfl ?_
    exact x_iret dM_flash_160 rfl h
  · replace h := h' c45
    refine x_aload_n dM_flash_47 rfl (n := 48) rfl ?_
    refine x_getR rfl dM_flash_48 fM_47 k1 (n := 51) rfl ?_
    refine x_bipush (v := 8) dM_flash_51 (by decide) (n := 53) rfl ?_
    refine x_iload_n dM_flash_53 rfl (n := 54) rfl ?_
    refine x_imul dM_flash_54 (n := 55) rfl ?_
    refine x_iload dM_flash_55 rfl (n := 57) rfl ?_
    refine x_iadd dM_flash_57 (n := 58) rfl ?_
    obtain ⟨a7, e8, h⟩ := h
    obtain ⟨n10, k9, h⟩ := h
    obtain ⟨c11, h⟩ := h
    refine x_iald e8 dM_flash_58 k9 c11 (n := 59) rfl ?_
    refine x_istore dM_flash_59 (by decide) (L' := [some (vR (some a0)), some (vI x1), some (vI x2), some (vI x3), some (vI x4), some (vI (gI m a7 (((8 : Int32) * x1) + x4).toNatClampNeg))]) rfl (n := 61) rfl ?_
    refine x_iload_n dM_flash_61 rfl (n := 62) rfl ?_
    refine x_iload_n dM_flash_62 rfl (n := 63) rfl ?_
    refine x_aload_n dM_flash_63 rfl (n := 64) rfl ?_
    refine x_iload dM_flash_64 rfl (n := 66) rfl ?_
    refine x_invV (m := m) rfl dM_flash_66 gM_flash_66 (as := [vI (gI m a7 (((8 : Int32) * x1) + x4).toNatClampNeg)]) (st := [vI x3, vI x2]) rfl rfl k1 rfl rfl (Nat.le_of_ble_eq_true rfl) (n := 69) rfl rfl rfl h (xBk.I fun v13 m12 h => ?_)
    refine x_iadd dM_flash_69 (n := 70) rfl ?_
    obtain ⟨h, h'⟩ := h
    refine x_icmp_ge (tgt := 144) dM_flash_70 rfl (n := 73) rfl (fun c44 => ?_) (fun c44 => ?_)
    · replace h := h c44
      refine x_iload_n dM_flash_144 rfl (n := 145) rfl ?_
      refine x_aload_n dM_flash_145 rfl (n := 146) rfl ?_
      refine x_iload dM_flash_146 rfl (n := 148) rfl ?_
      obtain ⟨k14, h⟩ := h
      refine x_invV (m := m12) rfl dM_flash_148 gM_flash_148 (as := [vI (gI m a7 (((8 : Int32) * x1) + x4).toNatClampNeg)]) (st := [vI x3]) rfl rfl k14 rfl rfl (Nat.le_of_ble_eq_true rfl) (n := 151) rfl rfl rfl h (xBk.I fun v16 m15 h => ?_)
      refine x_iadd dM_flash_151 (n := 152) rfl ?_
      refine x_istore_n dM_flash_152 (by decide) (L' := [some (vR (some a0)), some (vI x1), some (vI x2), some (vI (x3 + v16)), some (vI x4), some (vI (gI m a7 (((8 : Int32) * x1) + x4).toNatClampNeg))]) rfl (n := 153) rfl ?_
      refine x_iinc (v := x4 + 1) dM_flash_153 rfl rfl (by decide) (L' := [some (vR (some a0)), some (vI x1), some (vI x2), some (vI (x3 + v16)), some (vI (x4 + 1)), some (vI (gI m a7 (((8 : Int32) * x1) + x4).toNatClampNeg))]) rfl (n := 156) rfl ?_
      refine x_goto (tgt := 36) dM_flash_156 rfl ?_
      exact x_weak (b := [true, true, true, true, true, false]) rfl h
    · replace h := h' c44
      refine x_iload_n dM_flash_73 rfl (n := 74) rfl ?_
      refine x_iload_n dM_flash_74 rfl (n := 75) rfl ?_
      obtain ⟨h, h'⟩ := h
      refine x_icmp_ne (tgt := 88) dM_flash_75 rfl (n := 78) rfl (fun c43 => ?_) (fun c43 => ?_)
      · replace h := h c43
        refine x_iload_n dM_flash_88 rfl (n := 89) rfl ?_
        refine x_iload_n dM_flash_89 rfl (n := 90) rfl ?_
        refine x_iconst (v := 1) dM_flash_90 (by decide) (n := 91) rfl ?_
        refine x_iadd dM_flash_91 (n := 92) rfl ?_
        obtain ⟨h, h'⟩ := h
        refine x_icmp_ne (tgt := 109) dM_flash_92 rfl (n := 95) rfl (fun c36 => ?_) (fun c36 => ?_)
        · replace h := h c36
          refine x_iload_n dM_flash_109 rfl (n := 110) rfl ?_
          refine x_iload_n dM_flash_110 rfl (n := 111) rfl ?_
          refine x_iconst (v := 2) dM_flash_111 (by decide) (n := 112) rfl ?_
          refine x_iadd dM_flash_112 (n := 113) rfl ?_
          obtain ⟨h, h'⟩ := h
          refine x_icmp_ne (tgt := 127) dM_flash_113 rfl (n := 116) rfl (fun c29 => ?_) (fun c29 => ?_)
          · replace h := h c29
            refine x_aload_n dM_flash_127 rfl (n := 128) rfl ?_
            obtain ⟨k17, h⟩ := h
            refine x_getR rfl dM_flash_128 fM_28 k17 (n := 131) rfl ?_
            refine x_bipush (v := 8) dM_flash_131 (by decide) (n := 133) rfl ?_
            refine x_iload dM_flash_133 rfl (n := 135) rfl ?_
            refine x_imul dM_flash_135 (n := 136) rfl ?_
            refine x_iload_n dM_flash_136 rfl (n := 137) rfl ?_
            refine x_iadd dM_flash_137 (n := 138) rfl ?_
            refine x_iload_n dM_flash_138 rfl (n := 139) rfl ?_
            refine x_isub dM_flash_139 (n := 140) rfl ?_
            refine x_iconst (v := 3) dM_flash_140 (by decide) (n := 141) rfl ?_
            refine x_isub dM_flash_141 (n := 142) rfl ?_
            obtain ⟨a18, e19, h⟩ := h
            obtain ⟨n21, k20, h⟩ := h
            obtain ⟨c22, h⟩ := h
            refine x_iald e19 dM_flash_142 k20 c22 (n := 143) rfl ?_
            exact x_iret dM_flash_143 rfl h
          · replace h := h' c29
            refine x_aload_n dM_flash_116 rfl (n := 117) rfl ?_
            obtain ⟨k23, h⟩ := h
            refine x_getR rfl dM_flash_117 fM_20 k23 (n := 120) rfl ?_
            refine x_iload dM_flash_120 rfl (n := 122) rfl ?_
            obtain ⟨a24, e25, h⟩ := h
            obtain ⟨n27, k26, h⟩ := h
            obtain ⟨c28, h⟩ := h
            refine x_lald e25 dM_flash_122 k26 c28 (n := 123) rfl ?_
            refine x_l2i dM_flash_123 (n := 124) rfl ?_
            refine x_goto (tgt := 143) dM_flash_124 rfl ?_
            exact x_iret dM_flash_143 rfl h
        · replace h := h' c36
          refine x_aload_n dM_flash_95 rfl (n := 96) rfl ?_
          obtain ⟨k30, h⟩ := h
          refine x_getR rfl dM_flash_96 fM_20 k30 (n := 99) rfl ?_
          refine x_iload dM_flash_99 rfl (n := 101) rfl ?_
          obtain ⟨a31, e32, h⟩ := h
          obtain ⟨n34, k33, h⟩ := h
          obtain ⟨c35, h⟩ := h
          refine x_lald e32 dM_flash_101 k33 c35 (n := 102) rfl ?_
          refine x_bipush (v := 32) dM_flash_102 (by decide) (n := 104) rfl ?_
          refine x_lshr dM_flash_104 (n := 105) rfl ?_
          refine x_l2i dM_flash_105 (n := 106) rfl ?_
          refine x_goto (tgt := 143) dM_flash_106 rfl ?_
          exact x_iret dM_flash_143 rfl h
      · replace h := h' c43
        refine x_aload_n dM_flash_78 rfl (n := 79) rfl ?_
        obtain ⟨k37, h⟩ := h
        refine x_getR rfl dM_flash_79 fM_24 k37 (n := 82) rfl ?_
        refine x_iload dM_flash_82 rfl (n := 84) rfl ?_
        obtain ⟨a38, e39, h⟩ := h
        obtain ⟨n41, k40, h⟩ := h
        obtain ⟨c42, h⟩ := h
        refine x_iald e39 dM_flash_84 k40 c42 (n := 85) rfl ?_
        refine x_goto (tgt := 143) dM_flash_85 rfl ?_
        exact x_iret dM_flash_143 rfl h
set_option maxRecDepth 100000 in
set_option maxHeartbeats 4000000 in
theorem bM_flash {l : Launch} {G : xG} {m : XM} {Q : XR → XM → Prop} {a0 : Nat} {x1 : Int32} {x2 : Int32} (hst : l.stackTraces = false)
    (h : kd m a0 = some (oB 5) ∧ ∀ m2, m2 = mI m a0 0 (0 : Int32) → CC l G xM_within [vI x1, vI (0 : Int32), vI (95 : Int32)] m2 (kI (fun v4 m3 => ((v4 = 0 → kd m3 a0 = some (oB 5) ∧ CC l G xM_fail [vR (some a0), vI (1 : Int32)] m3 (kI (fun v7 m6 => Q (.inl (some (vI v7))) m6) Q)) ∧ (¬ v4 = 0 → CC l G xM_within [vI x2, vI (0 : Int32), vI (31 : Int32)] m3 (kI (fun v9 m8 => ((¬ v9 = 0 → WW l G xM_flash 36 [some (vR (some a0)), some (vI x1), some (vI x2), some (vI (0 : Int32)), some (vI (0 : Int32)), none] [] m8 0 0 Q) ∧ (v9 = 0 → kd m8 a0 = some (oB 5) ∧ CC l G xM_fail [vR (some a0), vI (1 : Int32)] m8 (kI (fun v12 m11 => Q (.inl (some (vI v12))) m11) Q)))) Q)))) Q)) :
    CC l G xM_flash [vR (some a0), vI x1, vI x2] m Q := by
  refine x_entry (by decide +kernel) rfl hst (Nat.le_of_ble_eq_true rfl) (L0 := [some (vR (some a0)), some (vI x1), some (vI x2), none, none, none]) rfl ?_
  refine x_aload_n dM_flash_0 rfl (n := 1) rfl ?_
  refine x_iconst (v := 0) dM_flash_1 (by decide) (n := 2) rfl ?_
  obtain ⟨k1, h⟩ := h
  replace h := h _ rfl
  refine x_putI rfl dM_flash_2 pM_65 k1 rfl rfl (n := 5) rfl ?_
  refine x_iload_n dM_flash_5 rfl (n := 6) rfl ?_
  refine x_iconst (v := 0) dM_flash_6 (by decide) (n := 7) rfl ?_
  refine x_bipush (v := 95) dM_flash_7 (by decide) (n := 9) rfl ?_
  refine x_invS (m := (mI m a0 0 (0 : Int32))) dM_flash_9 gM_flash_9 (as := [vI x1, vI (0 : Int32), vI (95 : Int32)]) (st := []) rfl rfl (Nat.le_of_ble_eq_true rfl) (n := 12) rfl rfl rfl h (xBk.I fun v4 m3 h => ?_)
  obtain ⟨h, h'⟩ := h
  refine x_if_eq (tgt := 25) dM_flash_12 rfl (n := 15) rfl (fun c14 => ?_) (fun c14 => ?_)
  · replace h := h c14
    refine x_aload_n dM_flash_25 rfl (n := 26) rfl ?_
    refine x_iconst (v := 1) dM_flash_26 (by decide) (n := 27) rfl ?_
    obtain ⟨k5, h⟩ := h
    refine x_invV (m := m3) rfl dM_flash_27 gM_flash_27 (as := [vI (1 : Int32)]) (st := []) rfl rfl k5 rfl rfl (Nat.le_of_ble_eq_true rfl) (n := 30) rfl rfl rfl h (xBk.I fun v7 m6 h => ?_)
    exact x_iret dM_flash_30 rfl h
  · replace h := h' c14
    refine x_iload_n dM_flash_15 rfl (n := 16) rfl ?_
    refine x_iconst (v := 0) dM_flash_16 (by decide) (n := 17) rfl ?_
    refine x_bipush (v := 31) dM_flash_17 (by decide) (n := 19) rfl ?_
    refine x_invS (m := m3) dM_flash_19 gM_flash_19 (as := [vI x2, vI (0 : Int32), vI (31 : Int32)]) (st := []) rfl rfl (Nat.le_of_ble_eq_true rfl) (n := 22) rfl rfl rfl h (xBk.I fun v9 m8 h => ?_)
    obtain ⟨h, h'⟩ := h
    refine x_if_ne (tgt := 31) dM_flash_22 rfl (n := 25) rfl (fun c13 => ?_) (fun c13 => ?_)
    · replace h := h c13
      refine x_iconst (v := 0) dM_flash_31 (by decide) (n := 32) rfl ?_
      refine x_istore_n dM_flash_32 (by decide) (L' := [some (vR (some a0)), some (vI x1), some (vI x2), some (vI (0 : Int32)), none, none]) rfl (n := 33) rfl ?_
      refine x_iconst (v := 0) dM_flash_33 (by decide) (n := 34) rfl ?_
      refine x_istore dM_flash_34 (by decide) (L' := [some (vR (some a0)), some (vI x1), some (vI x2), some (vI (0 : Int32)), some (vI (0 : Int32)), none]) rfl (n := 36) rfl ?_
      exact h
    · replace h := h' c13
      refine x_aload_n dM_flash_25 rfl (n := 26) rfl ?_
      refine x_iconst (v := 1) dM_flash_26 (by decide) (n := 27) rfl ?_
      obtain ⟨k10, h⟩ := h
      refine x_invV (m := m8) rfl dM_flash_27 gM_flash_27 (as := [vI (1 : Int32)]) (st := []) rfl rfl k10 rfl rfl (Nat.le_of_ble_eq_true rfl) (n := 30) rfl rfl rfl h (xBk.I fun v12 m11 h => ?_)
      exact x_iret dM_flash_30 rfl h
set_option maxRecDepth 100000 in
set_option maxHeartbeats 4000000 in
theorem bM_close {l : Launch} {G : xG} {m : XM} {Q : XR → XM → Prop} {a0 : Nat} (hst : l.stackTraces = false)
    (h : kd m a0 = some (oB 5) ∧ (((gI m a0 1) = 0 → ∀ m2, m2 = mI m a0 0 (1 : Int32) → ∀ m3, m3 = mI m2 a0 1 (0 : Int32) → Q (.inl none) m3) ∧ (¬ (gI m a0 1) = 0 → ∀ m4, m4 = mI m a0 0 (0 : Int32) → ∀ m5, m5 = mI m4 a0 1 (0 : Int32) → Q (.inl none) m5))) :
    CC l G xM_close [vR (some a0)] m Q := by
  refine x_entry (by decide +kernel) rfl hst (Nat.le_of_ble_eq_true rfl) (L0 := [some (vR (some a0))]) rfl ?_
  refine x_aload_n dM_close_0 rfl (n := 1) rfl ?_
  refine x_aload_n dM_close_1 rfl (n := 2) rfl ?_
  obtain ⟨k1, h⟩ := h
  refine x_getI rfl dM_close_2 fM_7 k1 (n := 5) rfl ?_
  obtain ⟨h, h'⟩ := h
  refine x_if_eq (tgt := 12) dM_close_5 rfl (n := 8) rfl (fun c6 => ?_) (fun c6 => ?_)
  · replace h := h c6
    refine x_iconst (v := 1) dM_close_12 (by decide) (n := 13) rfl ?_
    replace h := h _ rfl
    refine x_putI rfl dM_close_13 pM_65 k1 rfl rfl (n := 16) rfl ?_
    refine x_aload_n dM_close_16 rfl (n := 17) rfl ?_
    refine x_iconst (v := 0) dM_close_17 (by decide) (n := 18) rfl ?_
    replace h := h _ rfl
    refine x_putI rfl dM_close_18 pM_7 k1 (by decide) (by decide) (n := 21) rfl ?_
    exact x_vret dM_close_21 rfl h
  · replace h := h' c6
    refine x_iconst (v := 0) dM_close_8 (by decide) (n := 9) rfl ?_
    refine x_goto (tgt := 13) dM_close_9 rfl ?_
    replace h := h _ rfl
    refine x_putI rfl dM_close_13 pM_65 k1 rfl rfl (n := 16) rfl ?_
    refine x_aload_n dM_close_16 rfl (n := 17) rfl ?_
    refine x_iconst (v := 0) dM_close_17 (by decide) (n := 18) rfl ?_
    replace h := h _ rfl
    refine x_putI rfl dM_close_18 pM_7 k1 (by decide) (by decide) (n := 21) rfl ?_
    exact x_vret dM_close_21 rfl h
set_option maxRecDepth 100000 in
set_option maxHeartbeats 4000000 in
theorem bM_crash_31 {l : Launch} {G : xG} {m : XM} {bc bs : Nat} {Q : XR → XM → Prop} {a0 : Nat} {x1 : Int32}
    (h : (((97 : Int32) ≤ x1 → WW l G xM_crash 52 [some (vR (some a0)), some (vI (0 : Int32))] [] m bc bs Q) ∧ (¬ (97 : Int32) ≤ x1 → kd m a0 = some (oB 5) ∧ ∃ a2, gR m a0 14 = some a2 ∧ ∃ n5, kd m a2 = some (aR 0 n5) ∧ vp_in x1 n5 ∧ ∀ m7, m7 = mI m a2 x1.toNatClampNeg (0 : Int32) → WW l G xM_crash 31 [some (vR (some a0)), some (vI (x1 + 1))] [] m7 bc bs Q))) :
    WW l G xM_crash 31 [some (vR (some a0)), some (vI x1)] [] m bc bs Q := by
  refine x_iload_n dM_crash_31 rfl (n := 32) rfl ?_
  refine x_bipush (v := 97) dM_crash_32 (by decide) (n := 34) rfl ?_
  obtain ⟨h, h'⟩ := h
  refine x_icmp_ge (tgt := 50) dM_crash_34 rfl (n := 37) rfl (fun c8 => ?_) (fun c8 => ?_)
  · replace h := h c8
    refine x_iconst (v := 0) dM_crash_50 (by decide) (n := 51) rfl ?_
    refine x_istore_n dM_crash_51 (by decide) (L' := [some (vR (some a0)), some (vI (0 : Int32))]) rfl (n := 52) rfl ?_
    exact h
  · replace h := h' c8
    refine x_aload_n dM_crash_37 rfl (n := 38) rfl ?_
    obtain ⟨k1, h⟩ := h
    refine x_getR rfl dM_crash_38 fM_44 k1 (n := 41) rfl ?_
    refine x_iload_n dM_crash_41 rfl (n := 42) rfl ?_
    refine x_iconst (v := 0) dM_crash_42 (by decide) (n := 43) rfl ?_
    obtain ⟨a2, e3, h⟩ := h
    obtain ⟨n5, k4, h⟩ := h
    obtain ⟨c6, h⟩ := h
    replace h := h _ rfl
    refine x_iast e3 dM_crash_43 k4 c6 (n := 44) rfl ?_
    refine x_iinc (v := x1 + 1) dM_crash_44 rfl rfl (by decide) (L' := [some (vR (some a0)), some (vI (x1 + 1))]) rfl (n := 47) rfl ?_
    refine x_goto (tgt := 31) dM_crash_47 rfl ?_
    exact h
set_option maxRecDepth 100000 in
set_option maxHeartbeats 4000000 in
theorem bM_crash_52 {l : Launch} {G : xG} {m : XM} {bc bs : Nat} {Q : XR → XM → Prop} {a0 : Nat} {x1 : Int32}
    (h : (((13 : Int32) ≤ x1 → kd m a0 = some (oB 5) ∧ ∀ m2, m2 = mI m a0 16 (0 : Int32) → ∀ m3, m3 = mI m2 a0 13 (0 : Int32) → ∀ m4, m4 = mI m3 a0 3 (0 : Int32) → Q (.inl none) m4) ∧ (¬ (13 : Int32) ≤ x1 → kd m a0 = some (oB 5) ∧ ∃ a6, gR m a0 23 = some a6 ∧ ∃ n9, kd m a6 = some (aR 0 n9) ∧ vp_in x1 n9 ∧ ∀ m11, m11 = mI m a6 x1.toNatClampNeg (0 : Int32) → WW l G xM_crash 52 [some (vR (some a0)), some (vI (x1 + 1))] [] m11 bc bs Q))) :
    WW l G xM_crash 52 [some (vR (some a0)), some (vI x1)] [] m bc bs Q := by
  refine x_iload_n dM_crash_52 rfl (n := 53) rfl ?_
  refine x_bipush (v := 13) dM_crash_53 (by decide) (n := 55) rfl ?_
  obtain ⟨h, h'⟩ := h
  refine x_icmp_ge (tgt := 71) dM_crash_55 rfl (n := 58) rfl (fun c12 => ?_) (fun c12 => ?_)
  · replace h := h c12
    refine x_aload_n dM_crash_71 rfl (n := 72) rfl ?_
    refine x_iconst (v := 0) dM_crash_72 (by decide) (n := 73) rfl ?_
    obtain ⟨k1, h⟩ := h
    replace h := h _ rfl
    refine x_putI rfl dM_crash_73 pM_96 k1 rfl rfl (n := 76) rfl ?_
    refine x_aload_n dM_crash_76 rfl (n := 77) rfl ?_
    refine x_iconst (v := 0) dM_crash_77 (by decide) (n := 78) rfl ?_
    replace h := h _ rfl
    refine x_putI rfl dM_crash_78 pM_106 k1 rfl rfl (n := 81) rfl ?_
    refine x_aload_n dM_crash_81 rfl (n := 82) rfl ?_
    refine x_iconst (v := 0) dM_crash_82 (by decide) (n := 83) rfl ?_
    replace h := h _ rfl
    refine x_putI rfl dM_crash_83 pM_179 k1 rfl rfl (n := 86) rfl ?_
    exact x_vret dM_crash_86 rfl h
  · replace h := h' c12
    refine x_aload_n dM_crash_58 rfl (n := 59) rfl ?_
    obtain ⟨k5, h⟩ := h
    refine x_getR rfl dM_crash_59 fM_62 k5 (n := 62) rfl ?_
    refine x_iload_n dM_crash_62 rfl (n := 63) rfl ?_
    refine x_iconst (v := 0) dM_crash_63 (by decide) (n := 64) rfl ?_
    obtain ⟨a6, e7, h⟩ := h
    obtain ⟨n9, k8, h⟩ := h
    obtain ⟨c10, h⟩ := h
    replace h := h _ rfl
    refine x_iast e7 dM_crash_64 k8 c10 (n := 65) rfl ?_
    refine x_iinc (v := x1 + 1) dM_crash_65 rfl rfl (by decide) (L' := [some (vR (some a0)), some (vI (x1 + 1))]) rfl (n := 68) rfl ?_
    refine x_goto (tgt := 52) dM_crash_68 rfl ?_
    exact h
set_option maxRecDepth 100000 in
set_option maxHeartbeats 4000000 in
theorem bM_crash {l : Launch} {G : xG} {m : XM} {Q : XR → XM → Prop} {a0 : Nat} (hst : l.stackTraces = false)
    (h : kd m a0 = some (oB 5) ∧ (((gI m a0 1) = 0 → ∀ m2, m2 = mI m a0 0 (1 : Int32) → ((¬ (gI m2 a0 1) = 0 → ∀ m3, m3 = mI m2 a0 1 (0 : Int32) → WW l G xM_crash 31 [some (vR (some a0)), some (vI (0 : Int32))] [] m3 0 0 Q) ∧ ((gI m2 a0 1) = 0 → Q (.inl none) m2))) ∧ (¬ (gI m a0 1) = 0 → ∀ m5, m5 = mI m a0 0 (0 : Int32) → ((¬ (gI m5 a0 1) = 0 → ∀ m6, m6 = mI m5 a0 1 (0 : Int32) → WW l G xM_crash 31 [some (vR (some a0)), some (vI (0 : Int32))] [] m6 0 0 Q) ∧ ((gI m5 a0 1) = 0 → Q (.inl none) m5))))) :
    CC l G xM_crash [vR (some a0)] m Q := by
  refine x_entry (by decide +kernel) rfl hst (Nat.le_of_ble_eq_true rfl) (L0 := [some (vR (some a0)), none]) rfl ?_
  refine x_aload_n dM_crash_0 rfl (n := 1) rfl ?_
  refine x_aload_n dM_crash_1 rfl (n := 2) rfl ?_
  obtain ⟨k1, h⟩ := h
  refine x_getI rfl dM_crash_2 fM_7 k1 (n := 5) rfl ?_
  obtain ⟨h, h'⟩ := h
  refine x_if_eq (tgt := 12) dM_crash_5 rfl (n := 8) rfl (fun c8 => ?_) (fun c8 => ?_)
  · replace h := h c8
    refine x_iconst (v := 1) dM_crash_12 (by decide) (n := 13) rfl ?_
    replace h := h _ rfl
    refine x_putI rfl dM_crash_13 pM_65 k1 rfl rfl (n := 16) rfl ?_
    refine x_aload_n dM_crash_16 rfl (n := 17) rfl ?_
    refine x_getI rfl dM_crash_17 fM_7 k1 (n := 20) rfl ?_
    obtain ⟨h, h'⟩ := h
    refine x_if_ne (tgt := 24) dM_crash_20 rfl (n := 23) rfl (fun c4 => ?_) (fun c4 => ?_)
    · replace h := h c4
      refine x_aload_n dM_crash_24 rfl (n := 25) rfl ?_
      refine x_iconst (v := 0) dM_crash_25 (by decide) (n := 26) rfl ?_
      replace h := h _ rfl
      refine x_putI rfl dM_crash_26 pM_7 k1 (by decide) (by decide) (n := 29) rfl ?_
      refine x_iconst (v := 0) dM_crash_29 (by decide) (n := 30) rfl ?_
      refine x_istore_n dM_crash_30 (by decide) (L' := [some (vR (some a0)), some (vI (0 : Int32))]) rfl (n := 31) rfl ?_
      exact h
    · replace h := h' c4
      exact x_vret dM_crash_23 rfl h
  · replace h := h' c8
    refine x_iconst (v := 0) dM_crash_8 (by decide) (n := 9) rfl ?_
    refine x_goto (tgt := 13) dM_crash_9 rfl ?_
    replace h := h _ rfl
    refine x_putI rfl dM_crash_13 pM_65 k1 rfl rfl (n := 16) rfl ?_
    refine x_aload_n dM_crash_16 rfl (n := 17) rfl ?_
    refine x_getI rfl dM_crash_17 fM_7 k1 (n := 20) rfl ?_
    obtain ⟨h, h'⟩ := h
    refine x_if_ne (tgt := 24) dM_crash_20 rfl (n := 23) rfl (fun c7 => ?_) (fun c7 => ?_)
    · replace h := h c7
      refine x_aload_n dM_crash_24 rfl (n := 25) rfl ?_
      refine x_iconst (v := 0) dM_crash_25 (by decide) (n := 26) rfl ?_
      replace h := h _ rfl
      refine x_putI rfl dM_crash_26 pM_7 k1 (by decide) (by decide) (n := 29) rfl ?_
      refine x_iconst (v := 0) dM_crash_29 (by decide) (n := 30) rfl ?_
      refine x_istore_n dM_crash_30 (by decide) (L' := [some (vR (some a0)), some (vI (0 : Int32))]) rfl (n := 31) rfl ?_
      exact h
    · replace h := h' c7
      exact x_vret dM_crash_23 rfl h
set_option maxRecDepth 100000 in
set_option maxHeartbeats 4000000 in
theorem bM_open {l : Launch} {G : xG} {m : XM} {Q : XR → XM → Prop} {a0 : Nat} (hst : l.stackTraces = false)
    (h : kd m a0 = some (oB 5) ∧ (((gI m a0 1) = 0 → ∀ m2, m2 = mI m a0 0 (0 : Int32) → (((gI m2 a0 1) = 0 → ∀ m3, m3 = mI m2 a0 1 (1 : Int32) → CC l G xM_indexed [vR (some a0)] m3 (kI (fun v5 m4 => Q (.inl (some (vI v5))) m4) Q)) ∧ (¬ (gI m2 a0 1) = 0 → Q (.inl (some (vI (0 : Int32)))) m2))) ∧ (¬ (gI m a0 1) = 0 → ∀ m7, m7 = mI m a0 0 (1 : Int32) → (((gI m7 a0 1) = 0 → ∀ m8, m8 = mI m7 a0 1 (1 : Int32) → CC l G xM_indexed [vR (some a0)] m8 (kI (fun v10 m9 => Q (.inl (some (vI v10))) m9) Q)) ∧ (¬ (gI m7 a0 1) = 0 → Q (.inl (some (vI (0 : Int32)))) m7))))) :
    CC l G xM_open [vR (some a0)] m Q := by
  refine x_entry (by decide +kernel) rfl hst (Nat.le_of_ble_eq_true rfl) (L0 := [some (vR (some a0))]) rfl ?_
  refine x_aload_n dM_open_0 rfl (n := 1) rfl ?_
  refine x_aload_n dM_open_1 rfl (n := 2) rfl ?_
  obtain ⟨k1, h⟩ := h
  refine x_getI rfl dM_open_2 fM_7 k1 (n := 5) rfl ?_
  obtain ⟨h, h'⟩ := h
  refine x_if_eq (tgt := 12) dM_open_5 rfl (n := 8) rfl (fun c12 => ?_) (fun c12 => ?_)
  · replace h := h c12
    refine x_iconst (v := 0) dM_open_12 (by decide) (n := 13) rfl ?_
    replace h := h _ rfl
    refine x_putI rfl dM_open_13 pM_65 k1 rfl rfl (n := 16) rfl ?_
    refine x_aload_n dM_open_16 rfl (n := 17) rfl ?_
    refine x_getI rfl dM_open_17 fM_7 k1 (n := 20) rfl ?_
    obtain ⟨h, h'⟩ := h
    refine x_if_eq (tgt := 25) dM_open_20 rfl (n := 23) rfl (fun c6 => ?_) (fun c6 => ?_)
    · replace h := h c6
      refine x_aload_n dM_open_25 rfl (n := 26) rfl ?_
      refine x_iconst (v := 1) dM_open_26 (by decide) (n := 27) rfl ?_
      replace h := h _ rfl
      refine x_putI rfl dM_open_27 pM_7 k1 (by decide) (by decide) (n := 30) rfl ?_
      refine x_aload_n dM_open_30 rfl (n := 31) rfl ?_
      refine x_invV (m := (mI (mI m a0 0 (0 : Int32)) a0 1 (1 : Int32))) rfl dM_open_31 gM_open_31 (as := []) (st := []) rfl rfl k1 rfl rfl (Nat.le_of_ble_eq_true rfl) (n := 34) rfl rfl rfl h (xBk.I fun v5 m4 h => ?_)
      exact x_iret dM_open_34 rfl h
    · replace h := h' c6
      refine x_iconst (v := 0) dM_open_23 (by decide) (n := 24) rfl ?_
      exact x_iret dM_open_24 rfl h
  · replace h := h' c12
    refine x_iconst (v := 1) dM_open_8 (by decide) (n := 9) rfl ?_
    refine x_goto (tgt := 13) dM_open_9 rfl ?_
    replace h := h _ rfl
    refine x_putI rfl dM_open_13 pM_65 k1 rfl rfl (n := 16) rfl ?_
    refine x_aload_n dM_open_16 rfl (n := 17) rfl ?_
    refine x_getI rfl dM_open_17 fM_7 k1 (n := 20) rfl ?_
    obtain ⟨h, h'⟩ := h
    refine x_if_eq (tgt := 25) dM_open_20 rfl (n := 23) rfl (fun c11 => ?_) (fun c11 => ?_)
    · replace h := h c11
      refine x_aload_n dM_open_25 rfl (n := 26) rfl ?_
      refine x_iconst (v := 1) dM_open_26 (by decide) (n := 27) rfl ?_
      replace h := h _ rfl
      refine x_putI rfl dM_open_27 pM_7 k1 (by decide) (by decide) (n := 30) rfl ?_
      refine x_aload_n dM_open_30 rfl (n := 31) rfl ?_
      refine x_invV (m := (mI (mI m a0 0 (1 : Int32)) a0 1 (1 : Int32))) rfl dM_open_31 gM_open_31 (as := []) (st := []) rfl rfl k1 rfl rfl (Nat.le_of_ble_eq_true rfl) (n := 34) rfl rfl rfl h (xBk.I fun v10 m9 h => ?_)
      exact x_iret dM_open_34 rfl h
    · replace h := h' c11
      refine x_iconst (v := 0) dM_open_23 (by decide) (n := 24) rfl ?_
      exact x_iret dM_open_24 rfl h
set_option maxRecDepth 100000 in
set_option maxHeartbeats 4000000 in
theorem bM_indexed_5 {l : Launch} {G : xG} {m : XM} {bc bs : Nat} {Q : XR → XM → Prop} {a0 : Nat} {x1 : Int32} {x2 : Int32}
    (h : (((97 : Int32) ≤ x2 → Q (.inl (some (vI x1))) m) ∧ (¬ (97 : Int32) ≤ x2 → WW l G xM_indexed 13 [some (vR (some a0)), some (vI x1), some (vI x2), some (vI (0 : Int32))] [] m bc bs Q))) :
    WW l G xM_indexed 5 [some (vR (some a0)), some (vI x1), some (vI x2), none] [] m bc bs Q := by
  refine x_iload_n dM_indexed_5 rfl (n := 6) rfl ?_
  refine x_bipush (v := 97) dM_indexed_6 (by decide) (n := 8) rfl ?_
  obtain ⟨h, h'⟩ := h
  refine x_icmp_ge (tgt := 62) dM_indexed_8 rfl (n := 11) rfl (fun c1 => ?_) (fun c1 => ?_)
  · replace h := h c1
    refine x_iload_n dM_indexed_62 rfl (n := 63) rfl ?_
    exact x_iret dM_indexed_63 rfl h
  · replace h := h' c1
    refine x_iconst (v := 0) dM_indexed_11 (by decide) (n := 12) rfl ?_
    refine x_istore_n dM_indexed_12 (by decide) (L' := [some (vR (some a0)), some (vI x1), some (vI x2), some (vI (0 : Int32))]) rfl (n := 13) rfl ?_
    exact h
set_option maxRecDepth 100000 in
set_option maxHeartbeats 4000000 in
theorem bM_indexed_13 {l : Launch} {G : xG} {m : XM} {bc bs : Nat} {Q : XR → XM → Prop} {a0 : Nat} {x1 : Int32} {x2 : Int32} {x3 : Int32}
    (h : kd m a0 = some (oB 5) ∧ ∃ a2, gR m a0 14 = some a2 ∧ ∃ n5, kd m a2 = some (aR 0 n5) ∧ vp_in x2 n5 ∧ (((gI m a2 x2.toNatClampNeg) ≤ x3 → WW l G xM_indexed 5 [some (vR (some a0)), some (vI x1), some (vI (x2 + 1)), none] [] m bc bs Q) ∧ (¬ (gI m a2 x2.toNatClampNeg) ≤ x3 → ∃ a7, gR m a0 15 = some a7 ∧ ∃ n10, kd m a7 = some (aR 0 n10) ∧ vp_in (((8 : Int32) * x2) + x3) n10 ∧ ∃ a12, gR m a0 9 = some a12 ∧ ∃ n15, kd m a12 = some (aR 1 n15) ∧ vp_in (gI m a7 (((8 : Int32) * x2) + x3).toNatClampNeg) n15 ∧ (((gI m a12 (gI m a7 (((8 : Int32) * x2) + x3).toNatClampNeg).toNatClampNeg) = 0 → WW l G xM_indexed 13 [some (vR (some a0)), some (vI (x1 + (0 : Int32))), some (vI x2), some (vI (x3 + 1))] [] m bc bs Q) ∧ (¬ (gI m a12 (gI m a7 (((8 : Int32) * x2) + x3).toNatClampNeg).toNatClampNeg) = 0 → WW l G xM_indexed 13 [some (vR (some a0)), some (vI (x1 + (1 : Int32))), some (vI x2), some (vI (x3 + 1))] [] m bc bs Q))))) :
    WW l G xM_indexed 13 [some (vR (some a0)), some (vI x1), some (vI x2), some (vI x3)] [] m bc bs Q := by
  refine x_iload_n dM_indexed_13 rfl (n := 14) rfl ?_
  refine x_aload_n dM_indexed_14 rfl (n := 15) rfl ?_
  obtain ⟨k1, h⟩ := h
  refine x_getR rfl dM_indexed_15 fM_44 k1 (n := 18) rfl ?_
  refine x_iload_n dM_indexed_18 rfl (n := 19) rfl ?_
  obtain ⟨a2, e3, h⟩ := h
  obtain ⟨n5, k4, h⟩ := h
  obtain ⟨c6, h⟩ := h
  refine x_iald e3 dM_indexed_19 k4 c6 (n := 20) rfl ?_
  obtain ⟨h, h'⟩ := h
  refine x_icmp_ge (tgt := 56) dM_indexed_20 rfl (n := 23) rfl (fun c18 => ?_) (fun c18 => ?_)
  · replace h := h c18
    refine x_iinc (v := x2 + 1) dM_indexed_56 rfl rfl (by decide) (L' := [some (vR (some a0)), some (vI x1), some (vI (x2 + 1)), some (vI x3)]) rfl (n := 59) rfl ?_
    refine x_goto (tgt := 5) dM_indexed_59 rfl ?_
    exact x_weak (b := [true, true, true, false]) rfl h
  · replace h := h' c18
    refine x_iload_n dM_indexed_23 rfl (n := 24) rfl ?_
    refine x_aload_n dM_indexed_24 rfl (n := 25) rfl ?_
    refine x_getR rfl dM_indexed_25 fM_31 k1 (n := 28) rfl ?_
    refine x_aload_n dM_indexed_28 rfl (n := 29) rfl ?_
    refine x_getR rfl dM_indexed_29 fM_47 k1 (n := 32) rfl ?_
    refine x_bipush (v := 8) dM_indexed_32 (by decide) (n := 34) rfl ?_
    refine x_iload_n dM_indexed_34 rfl (n := 35) rfl ?_
    refine x_imul dM_indexed_35 (n := 36) rfl ?_
    refine x_iload_n dM_indexed_36 rfl (n := 37) rfl ?_
    refine x_iadd dM_indexed_37 (n := 38) rfl ?_
    obtain ⟨a7, e8, h⟩ := h
    obtain ⟨n10, k9, h⟩ := h
    obtain ⟨c11, h⟩ := h
    refine x_iald e8 dM_indexed_38 k9 c11 (n := 39) rfl ?_
    obtain ⟨a12, e13, h⟩ := h
    obtain ⟨n15, k14, h⟩ := h
    obtain ⟨c16, h⟩ := h
    refine x_zald e13 dM_indexed_39 k14 c16 (n := 40) rfl ?_
    obtain ⟨h, h'⟩ := h
    refine x_if_eq (tgt := 47) dM_indexed_40 rfl (n := 43) rfl (fun c17 => ?_) (fun c17 => ?_)
    · replace h := h c17
      refine x_iconst (v := 0) dM_indexed_47 (by decide) (n := 48) rfl ?_
      refine x_iadd dM_indexed_48 (n := 49) rfl ?_
      refine x_istore_n dM_indexed_49 (by decide) (L' := [some (vR (some a0)), some (vI (x1 + (0 : Int32))), some (vI x2), some (vI x3)]) rfl (n := 50) rfl ?_
      refine x_iinc (v := x3 + 1) dM_indexed_50 rfl rfl (by decide) (L' := [some (vR (some a0)), some (vI (x1 + (0 : Int32))), some (vI x2), some (vI (x3 + 1))]) rfl (n := 53) rfl ?_
      refine x_goto (tgt := 13) dM_indexed_53 rfl ?_
      exact h
    · replace h := h' c17
      refine x_iconst (v := 1) dM_indexed_43 (by decide) (n := 44) rfl ?_
      refine x_goto (tgt := 48) dM_indexed_44 rfl ?_
      refine x_iadd dM_indexed_48 (n := 49) rfl ?_
      refine x_istore_n dM_indexed_49 (by decide) (L' := [some (vR (some a0)), some (vI (x1 + (1 : Int32))), some (vI x2), some (vI x3)]) rfl (n := 50) rfl ?_
      refine x_iinc (v := x3 + 1) dM_indexed_50 rfl rfl (by decide) (L' := [some (vR (some a0)), some (vI (x1 + (1 : Int32))), some (vI x2), some (vI (x3 + 1))]) rfl (n := 53) rfl ?_
      refine x_goto (tgt := 13) dM_indexed_53 rfl ?_
      exact h
set_option maxRecDepth 100000 in
set_option maxHeartbeats 4000000 in
theorem bM_indexed {l : Launch} {G : xG} {m : XM} {Q : XR → XM → Prop} {a0 : Nat} (hst : l.stackTraces = false)
    (h : WW l G xM_indexed 5 [some (vR (some a0)), some (vI (0 : Int32)), some (vI (64 : Int32)), none] [] m 0 0 Q) :
    CC l G xM_indexed [vR (some a0)] m Q := by
  refine x_entry (by decide +kernel) rfl hst (Nat.le_of_ble_eq_true rfl) (L0 := [some (vR (some a0)), none, none, none]) rfl ?_
  refine x_iconst (v := 0) dM_indexed_0 (by decide) (n := 1) rfl ?_
  refine x_istore_n dM_indexed_1 (by decide) (L' := [some (vR (some a0)), some (vI (0 : Int32)), none, none]) rfl (n := 2) rfl ?_
  refine x_bipush (v := 64) dM_indexed_2 (by decide) (n := 4) rfl ?_
  refine x_istore_n dM_indexed_4 (by decide) (L' := [some (vR (some a0)), some (vI (0 : Int32)), some (vI (64 : Int32)), none]) rfl (n := 5) rfl ?_
  exact h
set_option maxRecDepth 100000 in
set_option maxHeartbeats 4000000 in
theorem bM_count {l : Launch} {G : xG} {m : XM} {Q : XR → XM → Prop} {a0 : Nat} {x1 : Int32} (hst : l.stackTraces = false)
    (h : kd m a0 = some (oB 5) ∧ ∀ m2, m2 = mI m a0 0 (0 : Int32) → CC l G xM_within [vI x1, vI (0 : Int32), vI (12 : Int32)] m2 (kI (fun v4 m3 => ((¬ v4 = 0 → ((¬ x1 = (11 : Int32) → ((¬ x1 = (12 : Int32) → kd m3 a0 = some (oB 5) ∧ ∃ a6, gR m3 a0 23 = some a6 ∧ ∃ n9, kd m3 a6 = some (aR 0 n9) ∧ vp_in x1 n9 ∧ Q (.inl (some (vI (gI m3 a6 x1.toNatClampNeg)))) m3) ∧ (x1 = (12 : Int32) → kd m3 a0 = some (oB 5) ∧ CC l G xM_wordsOf [vR (some a0), vI (96 : Int32)] m3 (kI (fun v13 m12 => Q (.inl (some (vI v13))) m12) Q)))) ∧ (x1 = (11 : Int32) → kd m3 a0 = some (oB 5) ∧ CC l G xM_indexed [vR (some a0)] m3 (kI (fun v17 m16 => Q (.inl (some (vI v17))) m16) Q)))) ∧ (v4 = 0 → Q (.inl (some (vI (-1 : Int32)))) m3))) Q)) :
    CC l G xM_count [vR (some a0), vI x1] m Q := by
  refine x_entry (by decide +kernel) rfl hst (Nat.le_of_ble_eq_true rfl) (L0 := [some (vR (some a0)), some (vI x1)]) rfl ?_
  refine x_aload_n dM_count_0 rfl (n := 1) rfl ?_
  refine x_iconst (v := 0) dM_count_1 (by decide) (n := 2) rfl ?_
  obtain ⟨k1, h⟩ := h
  replace h := h _ rfl
  refine x_putI rfl dM_count_2 pM_65 k1 rfl rfl (n := 5) rfl ?_
  refine x_iload_n dM_count_5 rfl (n := 6) rfl ?_
  refine x_iconst (v := 0) dM_count_6 (by decide) (n := 7) rfl ?_
  refine x_bipush (v := 12) dM_count_7 (by decide) (n := 9) rfl ?_
  refine x_invS (m := (mI m a0 0 (0 : Int32))) dM_count_9 gM_count_9 (as := [vI x1, vI (0 : Int32), vI (12 : Int32)]) (st := []) rfl rfl (Nat.le_of_ble_eq_true rfl) (n := 12) rfl rfl rfl h (xBk.I fun v4 m3 h => ?_)
  obtain ⟨h, h'⟩ := h
  refine x_if_ne (tgt := 17) dM_count_12 rfl (n := 15) rfl (fun c19 => ?_) (fun c19 => ?_)
  · replace h := h c19
    refine x_iload_n dM_count_17 rfl (n := 18) rfl ?_
    refine x_bipush (v := 11) dM_count_18 (by decide) (n := 20) rfl ?_
    obtain ⟨h, h'⟩ := h
    refine x_icmp_ne (tgt := 30) dM_count_20 rfl (n := 23) rfl (fun c18 => ?_) (fun c18 => ?_)
    · replace h := h c18
      refine x_iload_n dM_count_30 rfl (n := 31) rfl ?_
      refine x_bipush (v := 12) dM_count_31 (by decide) (n := 33) rfl ?_
      obtain ⟨h, h'⟩ := h
      refine x_icmp_ne (tgt := 45) dM_count_33 rfl (n := 36) rfl (fun c14 => ?_) (fun c14 => ?_)
      · replace h := h c14
        refine x_aload_n dM_count_45 rfl (n := 46) rfl ?_
        obtain ⟨k5, h⟩ := h
        refine x_getR rfl dM_count_46 fM_62 k5 (n := 49) rfl ?_
        refine x_iload_n dM_count_49 rfl (n := 50) rfl ?_
        obtain ⟨a6, e7, h⟩ := h
        obtain ⟨n9, k8, h⟩ := h
        obtain ⟨c10, h⟩ := h
        refine x_iald e7 dM_count_50 k8 c10 (n := 51) rfl ?_
        exact x_iret dM_count_51 rfl h
      · replace h := h' c14
        refine x_aload_n dM_count_36 rfl (n := 37) rfl ?_
        refine x_bipush (v := 96) dM_count_37 (by decide) (n := 39) rfl ?_
        obtain ⟨k11, h⟩ := h
        refine x_invV (m := m3) rfl dM_count_39 gM_count_39 (as := [vI (96 : Int32)]) (st := []) rfl rfl k11 rfl rfl (Nat.le_of_ble_eq_true rfl) (n := 42) rfl rfl rfl h (xBk.I fun v13 m12 h => ?_)
        refine x_goto (tgt := 51) dM_count_42 rfl ?_
        exact x_iret dM_count_51 rfl h
    · replace h := h' c18
      refine x_aload_n dM_count_23 rfl (n := 24) rfl ?_
      obtain ⟨k15, h⟩ := h
      refine x_invV (m := m3) rfl dM_count_24 gM_count_24 (as := []) (st := []) rfl rfl k15 rfl rfl (Nat.le_of_ble_eq_true rfl) (n := 27) rfl rfl rfl h (xBk.I fun v17 m16 h => ?_)
      refine x_goto (tgt := 51) dM_count_27 rfl ?_
      exact x_iret dM_count_51 rfl h
  · replace h := h' c19
    refine x_iconst (v := -1) dM_count_15 (by decide) (n := 16) rfl ?_
    exact x_iret dM_count_16 rfl h
