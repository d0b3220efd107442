set_option maxRecDepth 100000 in
set_option maxHeartbeats 4000000 in
theorem bM_init {l : Launch} {G : xG} {m : XM} {Q : XR → XM → Prop} {a0 : Nat} (hst : l.stackTraces = false)
    (h : kd m a0 = some (oB 5) ∧ ∀ m2, m2 = mI m a0 1 (1 : Int32) → ∃ bc3 bs4, 16 = bc3 + 1 ∧ 63006 = bs4 + 8 ∧ ∀ a7, kd m a7 = none → ∀ m9, m9 = mN m2 a7 (aR 0 8) → ∀ m12, m12 = mR m9 a0 2 (some a7) → ∃ bc13 bs14, bc3 = bc13 + 1 ∧ bs4 = bs14 + 8 ∧ ∀ a17, kd m9 a17 = none → ∀ m19, m19 = mN m12 a17 (aR 0 8) → ∀ m23, m23 = mR m19 a0 4 (some a17) → ∃ bc24 bs25, bc13 = bc24 + 1 ∧ bs14 = bs25 + 4096 ∧ ∀ a28, kd m19 a28 = none → ∀ m30, m30 = mN m23 a28 (aR 2 4096) → ∀ m35, m35 = mR m30 a0 6 (some a28) → ∃ bc36 bs37, bc24 = bc36 + 1 ∧ bs25 = bs37 + 4096 ∧ ∀ a40, kd m30 a40 = none → ∀ m42, m42 = mN m35 a40 (aR 0 4096) → ∀ m48, m48 = mR m42 a0 7 (some a40) → ∃ bc49 bs50, bc36 = bc49 + 1 ∧ bs37 = bs50 + 32768 ∧ ∀ a53, kd m42 a53 = none → ∀ m55, m55 = mN m48 a53 (aR 0 32768) → ∀ m62, m62 = mR m55 a0 8 (some a53) → ∃ bc63 bs64, bc49 = bc63 + 1 ∧ bs50 = bs64 + 4096 ∧ ∀ a67, kd m55 a67 = none → ∀ m69, m69 = mN m62 a67 (aR 1 4096) → ∀ m77, m77 = mR m69 a0 9 (some a67) → ∃ bc78 bs79, bc63 = bc78 + 1 ∧ bs64 = bs79 + 4096 ∧ ∀ a82, kd m69 a82 = none → ∀ m84, m84 = mN m77 a82 (aR 1 4096) → ∀ m93, m93 = mR m84 a0 10 (some a82) → ∃ bc94 bs95, bc78 = bc94 + 1 ∧ bs79 = bs95 + 4096 ∧ ∀ a98, kd m84 a98 = none → ∀ m100, m100 = mN m93 a98 (aR 0 4096) → ∀ m110, m110 = mR m100 a0 11 (some a98) → ∃ bc111 bs112, bc94 = bc111 + 1 ∧ bs95 = bs112 + 4096 ∧ ∀ a115, kd m100 a115 = none → ∀ m117, m117 = mN m110 a115 (aR 1 4096) → ∀ m128, m128 = mR m117 a0 12 (some a115) → ∃ bc129 bs130, bc111 = bc129 + 1 ∧ bs112 = bs130 + 97 ∧ ∀ a133, kd m117 a133 = none → ∀ m135, m135 = mN m128 a133 (aR 0 97) → ∀ m147, m147 = mR m135 a0 14 (some a133) → ∃ bc148 bs149, bc129 = bc148 + 1 ∧ bs130 = bs149 + 776 ∧ ∀ a152, kd m135 a152 = none → ∀ m154, m154 = mN m147 a152 (aR 0 776) → ∀ m167, m167 = mR m154 a0 15 (some a152) → ∃ bc168 bs169, bc148 = bc168 + 1 ∧ bs149 = bs169 + 4096 ∧ ∀ a172, kd m154 a172 = none → ∀ m174, m174 = mN m167 a172 (aR 1 4096) → ∀ m188, m188 = mR m174 a0 17 (some a172) → ∃ bc189 bs190, bc168 = bc189 + 1 ∧ bs169 = bs190 + 300 ∧ ∀ a193, kd m174 a193 = none → ∀ m195, m195 = mN m188 a193 (aR 0 300) → ∀ m210, m210 = mR m195 a0 19 (some a193) → ∃ bc211 bs212, bc189 = bc211 + 1 ∧ bs190 = bs212 + 300 ∧ ∀ a215, kd m195 a215 = none → ∀ m217, m217 = mN m210 a215 (aR 0 300) → ∀ m233, m233 = mR m217 a0 21 (some a215) → ∃ bc234 bs235, bc211 = bc234 + 1 ∧ bs212 = bs235 + 64 ∧ ∀ a238, kd m217 a238 = none → ∀ m240, m240 = mN m233 a238 (aR 1 64) → ∀ m257, m257 = mR m240 a0 22 (some a238) → ∃ bc258 bs259, bc234 = bc258 + 1 ∧ bs235 = bs259 + 13 ∧ ∀ a262, kd m240 a262 = none → ∀ m264, m264 = mN m257 a262 (aR 0 13) → ∀ m282, m282 = mR m264 a0 23 (some a262) → Q (.inl none) m282) :
    CC l G xM_init [vR (some a0)] m Q := by
  refine x_entry (by decide +kernel) rfl hst (Nat.le_of_ble_eq_true rfl) (L0 := [some (vR (some a0))]) rfl ?_
  refine x_aload_n dM_init_0 rfl (n := 1) rfl ?_
  refine x_objInit dM_init_1 w_550 w_58 w_59 (by decide) (by decide) (n := 4) rfl ?_
  refine x_aload_n dM_init_4 rfl (n := 5) rfl ?_
  refine x_iconst (v := 1) dM_init_5 (by decide) (n := 6) rfl ?_
  obtain ⟨k1, h⟩ := h
  replace h := h _ rfl
  refine x_putI rfl dM_init_6 pM_7 k1 (by decide) (by decide) (n := 9) rfl ?_
  refine x_aload_n dM_init_9 rfl (n := 10) rfl ?_
  refine x_bipush (v := 8) dM_init_10 (by decide) (n := 12) rfl ?_
  obtain ⟨bc3, bs4, b5, b6, h⟩ := h
  refine x_newa (atype := .int) (t := 0) (N := 8) dM_init_12 w_87 (by decide) (by decide) (by decide) (n := 14) rfl (by decide) b5 b6 fun a7 f8 => ?_
  replace h := h a7 f8 _ rfl
  have k10 := kdN (k := aR 0 8) f8 k1
  have k11 := kdNs (mI m a0 1 (1 : Int32)) a7 (aR 0 8)
  replace h := h _ rfl
  refine x_putR rfl dM_init_14 pM_13 k10 (fun o => by cases o <;> rfl) (fun o => by cases o <;> rfl) (n := 17) rfl ?_
  refine x_aload_n dM_init_17 rfl (n := 18) rfl ?_
  refine x_bipush (v := 8) dM_init_18 (by decide) (n := 20) rfl ?_
  obtain ⟨bc13, bs14, b15, b16, h⟩ := h
  refine x_newa (atype := .int) (t := 0) (N := 8) dM_init_20 w_87 (by decide) (by decide) (by decide) (n := 22) rfl (by decide) b15 b16 fun a17 f18 => ?_
  replace h := h a17 f18 _ rfl
  have k20 := kdN (k := aR 0 8) f18 k10
  have k21 := kdN (k := aR 0 8) f18 k11
  have k22 := kdNs (mR (mN (mI m a0 1 (1 : Int32)) a7 (aR 0 8)) a0 2 (some a7)) a17 (aR 0 8)
  replace h := h _ rfl
  refine x_putR rfl dM_init_22 pM_17 k20 (fun o => by cases o <;> rfl) (fun o => by cases o <;> rfl) (n := 25) rfl ?_
  refine x_aload_n dM_init_25 rfl (n := 26) rfl ?_
  refine x_sipush (v := 4096) dM_init_26 (by decide) (n := 29) rfl ?_
  obtain ⟨bc24, bs25, b26, b27, h⟩ := h
  refine x_newa (atype := .long) (t := 2) (N := 4096) dM_init_29 w_624 (by decide) (by decide) (by decide) (n := 31) rfl (by decide) b26 b27 fun a28 f29 => ?_
  replace h := h a28 f29 _ rfl
  have k31 := kdN (k := aR 2 4096) f29 k20
  have k32 := kdN (k := aR 2 4096) f29 k21
  have k33 := kdN (k := aR 2 4096) f29 k22
  have k34 := kdNs (mR (mN (mR (mN (mI m a0 1 (1 : Int32)) a7 (aR 0 8)) a0 2 (some a7)) a17 (aR 0 8)) a0 4 (some a17)) a28 (aR 2 4096)
  replace h := h _ rfl
  refine x_putR rfl dM_init_31 pM_20 k31 (fun o => by cases o <;> rfl) (fun o => by cases o <;> rfl) (n := 34) rfl ?_
  refine x_aload_n dM_init_34 rfl (n := 35) rfl ?_
  refine x_sipush (v := 4096) dM_init_35 (by decide) (n := 38) rfl ?_
  obtain ⟨bc36, bs37, b38, b39, h⟩ := h
  refine x_newa (atype := .int) (t := 0) (N := 4096) dM_init_38 w_87 (by decide) (by decide) (by decide) (n := 40) rfl (by decide) b38 b39 fun a40 f41 => ?_
  replace h := h a40 f41 _ rfl
  have k43 := kdN (k := aR 0 4096) f41 k31
  have k44 := kdN (k := aR 0 4096) f41 k32
  have k45 := kdN (k := aR 0 4096) f41 k33
  have k46 := kdN (k := aR 0 4096) f41 k34
  have k47 := kdNs (mR (mN (mR (mN (mR (mN (mI m a0 1 (1 : Int32)) a7 (aR 0 8)) a0 2 (some a7)) a17 (aR 0 8)) a0 4 (some a17)) a28 (aR 2 4096)) a0 6 (some a28)) a40 (aR 0 4096)
  replace h := h _ rfl
  refine x_putR rfl dM_init_40 pM_24 k43 (fun o => by cases o <;> rfl) (fun o => by cases o <;> rfl) (n := 43) rfl ?_
  refine x_aload_n dM_init_43 rfl (n := 44) rfl ?_
  refine x_ldc (v := 32768) dM_init_44 w_551 (n := 46) rfl ?_
  obtain ⟨bc49, bs50, b51, b52, h⟩ := h
  refine x_newa (atype := .int) (t := 0) (N := 32768) dM_init_46 w_87 (by decide) (by decide) (by decide) (n := 48) rfl (by decide) b51 b52 fun a53 f54 => ?_
  replace h := h a53 f54 _ rfl
  have k56 := kdN (k := aR 0 32768) f54 k43
  have k57 := kdN (k := aR 0 32768) f54 k44
  have k58 := kdN (k := aR 0 32768) f54 k45
  have k59 := kdN (k := aR 0 32768) f54 k46
  have k60 := kdN (k := aR 0 32768) f54 k47
  have k61 := kdNs (mR (mN (mR (mN (mR (mN (mR (mN (mI m a0 1 (1 : Int32)) a7 (aR 0 8)) a0 2 (some a7)) a17 (aR 0 8)) a0 4 (some a17)) a28 (aR 2 4096)) a0 6 (some a28)) a40 (aR 0 4096)) a0 7 (some a40)) a53 (aR 0 32768)
  replace h := h _ rfl
  refine x_putR rfl dM_init_48 pM_28 k56 (fun o => by cases o <;> rfl) (fun o => by cases o <;> rfl) (n := 51) rfl ?_
  refine x_aload_n dM_init_51 rfl (n := 52) rfl ?_
  refine x_sipush (v := 4096) dM_init_52 (by decide) (n := 55) rfl ?_
  obtain ⟨bc63, bs64, b65, b66, h⟩ := h
  refine x_newa (atype := .boolean) (t := 1) (N := 4096) dM_init_55 w_625 (by decide) (by decide) (by decide) (n := 57) rfl (by decide) b65 b66 fun a67 f68 => ?_
  replace h := h a67 f68 _ rfl
  have k70 := kdN (k := aR 1 4096) f68 k56
  have k71 := kdN (k := aR 1 4096) f68 k57
  have k72 := kdN (k := aR 1 4096) f68 k58
  have k73 := kdN (k := aR 1 4096) f68 k59
  have k74 := kdN (k := aR 1 4096) f68 k60
  have k75 := kdN (k := aR 1 4096) f68 k61
  have k76 := kdNs (mR (mN (mR (mN (mR (mN (mR (mN (mR (mN (mI m a0 1 (1 : Int32)) a7 (aR 0 8)) a0 2 (some a7)) a17 (aR 0 8)) a0 4 (some a17)) a28 (aR 2 4096)) a0 6 (some a28)) a40 (aR 0 4096)) a0 7 (some a40)) a53 (aR 0 32768)) a0 8 (some a53)) a67 (aR 1 4096)
  replace h := h _ rfl
  refine x_putR rfl dM_init_57 pM_31 k70 (fun o => by cases o <;> rfl) (fun o => by cases o <;> rfl) (n := 60) rfl ?_
  refine x_aload_n dM_init_60 rfl (n := 61) rfl ?_
  refine x_sipush (v := 4096) dM_init_61 (by decide) (n := 64) rfl ?_
  obtain ⟨bc78, bs79, b80, b81, h⟩ := h
  refine x_newa (atype := .boolean) (t := 1) (N := 4096) dM_init_64 w_625 (by decide) (by decide) (by decide) (n := 66) rfl (by decide) b80 b81 fun a82 f83 => ?_
  replace h := h a82 f83 _ rfl
  have k85 := kdN (k := aR 1 4096) f83 k70
  have k86 := kdN (k := aR 1 4096) f83 k71
  have k87 := kdN (k := aR 1 4096) f83 k72
  have k88 := kdN (k := aR 1 4096) f83 k73
  have k89 := kdN (k := aR 1 4096) f83 k74
  have k90 := kdN (k := aR 1 4096) f83 k75
  have k91 := kdN (k := aR 1 4096) f83 k76
  have k92 := kdNs (mR (mN (mR (mN (mR (mN (mR (mN (mR (mN (mR (mN (mI m a0 1 (1 : Int32)) a7 (aR 0 8)) a0 2 (some a7)) a17 (aR 0 8)) a0 4 (some a17)) a28 (aR 2 4096)) a0 6 (some a28)) a40 (aR 0 4096)) a0 7 (some a40)) a53 (aR 0 32768)) a0 8 (some a53)) a67 (aR 1 4096)) a0 9 (some a67)) a82 (aR 1 4096)
  replace h := h _ rfl
  refine x_putR rfl dM_init_66 pM_35 k85 (fun o => by cases o <;> rfl) (fun o => by cases o <;> rfl) (n := 69) rfl ?_
  refine x_aload_n dM_init_69 rfl (n := 70) rfl ?_
  refine x_sipush (v := 4096) dM_init_70 (by decide) (n := 73) rfl ?_
  obtain ⟨bc94, bs95, b96, b97, h⟩ := h
  refine x_newa (atype := .int) (t := 0) (N := 4096) dM_init_73 w_87 (by decide) (by decide) (by decide) (n := 75) rfl (by decide) b96 b97 fun a98 f99 => ?_
  replace h := h a98 f99 _ rfl
  have k101 := kdN (k := aR 0 4096) f99 k85
  have k102 := kdN (k := aR 0 4096) f99 k86
  have k103 := kdN (k := aR 0 4096) f99 k87
  have k104 := kdN (k := aR 0 4096) f99 k88
  have k105 := kdN (k := aR 0 4096) f99 k89
  have k106 := kdN (k := aR 0 4096) f99 k90
  have k107 := kdN (k := aR 0 4096) f99 k91
  have k108 := kdN (k := aR 0 4096) f99 k92
  have k109 := kdNs (mR (mN (mR (mN (mR (mN (mR (mN (mR (mN (mR (mN (mR (mN (mI m a0 1 (1 : Int32)) a7 (aR 0 8)) a0 2 (some a7)) a17 (aR 0 8)) a0 4 (some a17)) a28 (aR 2 4096)) a0 6 (some a28)) a40 (aR 0 4096)) a0 7 (some a40)) a53 (aR 0 32768)) a0 8 (some a53)) a67 (aR 1 4096)) a0 9 (some a67)) a82 (aR 1 4096)) a0 10 (some a82)) a98 (aR 0 4096)
  replace h := h _ rfl
  refine x_putR rfl dM_init_75 pM_38 k101 (fun o => by cases o <;> rfl) (fun o => by cases o <;> rfl) (n := 78) rfl ?_
  refine x_aload_n dM_init_78 rfl (n := 79) rfl ?_
  refine x_sipush (v := 4096) dM_init_79 (by decide) (n := 82) rfl ?_
  obtain ⟨bc111, bs112, b113, b114, h⟩ := h
  refine x_newa (atype := .boolean) (t := 1) (N := 4096) dM_init_82 w_625 (by decide) (by decide) (by decide) (n := 84) rfl (by decide) b113 b114 fun a115 f116 => ?_
  replace h := h a115 f116 _ rfl
  have k118 := kdN (k := aR 1 4096) f116 k101
  have k119 := kdN (k := aR 1 4096) f116 k102
  have k120 := kdN (k := aR 1 4096) f116 k103
  have k121 := kdN (k := aR 1 4096) f116 k104
  have k122 := kdN (k := aR 1 4096) f116 k105
  have k123 := kdN (k := aR 1 4096) f116 k106
  have k124 := kdN (k := aR 1 4096) f116 k107
  have k125 := kdN (k := aR 1 4096) f116 k108
  have k126 := kdN (k := aR 1 4096) f116 k109
  have k127 := kdNs (mR (mN (mR (mN (mR (mN (mR (mN (mR (mN (mR (mN (mR (mN (mR (mN (mI m a0 1 (1 : Int32)) a7 (aR 0 8)) a0 2 (some a7)) a17 (aR 0 8)) a0 4 (some a17)) a28 (aR 2 4096)) a0 6 (some a28)) a40 (aR 0 4096)) a0 7 (some a40)) a53 (aR 0 32768)) a0 8 (some a53)) a67 (aR 1 4096)) a0 9 (some a67)) a82 (aR 1 4096)) a0 10 (some a82)) a98 (aR 0 4096)) a0 11 (some a98)) a115 (aR 1 4096)
  replace h := h _ rfl
  refine x_putR rfl dM_init_84 pM_41 k118 (fun o => by cases o <;> rfl) (fun o => by cases o <;> rfl) (n := 87) rfl ?_
  refine x_aload_n dM_init_87 rfl (n := 88) rfl ?_
  refine x_bipush (v := 97) dM_init_88 (by decide) (n := 90) rfl ?_
  obtain ⟨bc129, bs130, b131, b132, h⟩ := h
  refine x_newa (atype := .int) (t := 0) (N := 97) dM_init_90 w_87 (by decide) (by decide) (by decide) (n := 92) rfl (by decide) b131 b132 fun a133 f134 => ?_
  replace h := h a133 f134 _ rfl
  have k136 := kdN (k := aR 0 97) f134 k118
  have k137 := kdN (k := aR 0 97) f134 k119
  have k138 := kdN (k := aR 0 97) f134 k120
  have k139 := kdN (k := aR 0 97) f134 k121
  have k140 := kdN (k := aR 0 97) f134 k122
  have k141 := kdN (k := aR 0 97) f134 k123
  have k142 := kdN (k := aR 0 97) f134 k124
  have k143 := kdN (k := aR 0 97) f134 k125
  have k144 := kdN (k := aR 0 97) f134 k126
  have k145 := kdN (k := aR 0 97) f134 k127
  have k146 := kdNs (mR (mN (mR (mN (mR (mN (mR (mN (mR (mN (mR (mN (mR (mN (mR (mN (mR (mN (mI m a0 1 (1 : Int32)) a7 (aR 0 8)) a0 2 (some a7)) a17 (aR 0 8)) a0 4 (some a17)) a28 (aR 2 4096)) a0 6 (some a28)) a40 (aR 0 4096)) a0 7 (some a40)) a53 (aR 0 32768)) a0 8 (some a53)) a67 (aR 1 4096)) a0 9 (some a67)) a82 (aR 1 4096)) a0 10 (some a82)) a98 (aR 0 4096)) a0 11 (some a98)) a115 (aR 1 4096)) a0 12 (some a115)) a133 (aR 0 97)
  replace h := h _ rfl
  refine x_putR rfl dM_init_92 pM_44 k136 (fun o => by cases o <;> rfl) (fun o => by cases o <;> rfl) (n := 95) rfl ?_
  refine x_aload_n dM_init_95 rfl (n := 96) rfl ?_
  refine x_sipush (v := 776) dM_init_96 (by decide) (n := 99) rfl ?_
  obtain ⟨bc148, bs149, b150, b151, h⟩ := h
  refine x_newa (atype := .int) (t := 0) (N := 776) dM_init_99 w_87 (by decide) (by decide) (by decide) (n := 101) rfl (by decide) b150 b151 fun a152 f153 => ?_
  replace h := h a152 f153 _ rfl
  have k155 := kdN (k := aR 0 776) f153 k136
  have k156 := kdN (k := aR 0 776) f153 k137
  have k157 := kdN (k := aR 0 776) f153 k138
  have k158 := kdN (k := aR 0 776) f153 k139
  have k159 := kdN (k := aR 0 776) f153 k140
  have k160 := kdN (k := aR 0 776) f153 k141
  have k161 := kdN (k := aR 0 776) f153 k142
  have k162 := kdN (k := aR 0 776) f153 k143
  have k163 := kdN (k := aR 0 776) f153 k144
  have k164 := kdN (k := aR 0 776) f153 k145
  have k165 := kdN (k := aR 0 776) f153 k146
  have k166 := kdNs (mR (mN (mR (mN (mR (mN (mR (mN (mR (mN (mR (mN (mR (mN (mR (mN (mR (mN (mR (mN (mI m a0 1 (1 : Int32)) a7 (aR 0 8)) a0 2 (some a7)) a17 (aR 0 8)) a0 4 (some a17)) a28 (aR 2 4096)) a0 6 (some a28)) a40 (aR 0 4096)) a0 7 (some a40)) a53 (aR 0 32768)) a0 8 (some a53)) a67 (aR 1 4096)) a0 9 (some a67)) a82 (aR 1 4096)) a0 10 (some a82)) a98 (aR 0 4096)) a0 11 (some a98)) a115 (aR 1 4096)) a0 12 (some a115)) a133 (aR 0 97)) a0 14 (some a133)) a152 (aR 0 776)
  replace h := h _ rfl
  refine x_putR rfl dM_init_101 pM_47 k155 (fun o => by cases o <;> rfl) (fun o => by cases o <;> rfl) (n := 104) rfl ?_
  refine x_aload_n dM_init_104 rfl (n := 105) rfl ?_
  refine x_sipush (v := 4096) dM_init_105 (by decide) (n := 108) rfl ?_
  obtain ⟨bc168, bs169, b170, b171, h⟩ := h
  refine x_newa (atype := .boolean) (t := 1) (N := 4096) dM_init_108 w_625 (by decide) (by decide) (by decide) (n := 110) rfl (by decide) b170 b171 fun a172 f173 => ?_
  replace h := h a172 f173 _ rfl
  have k175 := kdN (k := aR 1 4096) f173 k155
  have k176 := kdN (k := aR 1 4096) f173 k156
  have k177 := kdN (k := aR 1 4096) f173 k157
  have k178 := kdN (k := aR 1 4096) f173 k158
  have k179 := kdN (k := aR 1 4096) f173 k159
  have k180 := kdN (k := aR 1 4096) f173 k160
  have k181 := kdN (k := aR 1 4096) f173 k161
  have k182 := kdN (k := aR 1 4096) f173 k162
  have k183 := kdN (k := aR 1 4096) f173 k163
  have k184 := kdN (k := aR 1 4096) f173 k164
  have k185 := kdN (k := aR 1 4096) f173 k165
  have k186 := kdN (k := aR 1 4096) f173 k166
  have k187 := kdNs (mR (mN (mR (mN (mR (mN (mR (mN (mR (mN (mR (mN (mR (mN (mR (mN (mR (mN (mR (mN (mR (mN (mI m a0 1 (1 : Int32)) a7 (aR 0 8)) a0 2 (some a7)) a17 (aR 0 8)) a0 4 (some a17)) a28 (aR 2 4096)) a0 6 (some a28)) a40 (aR 0 4096)) a0 7 (some a40)) a53 (aR 0 32768)) a0 8 (some a53)) a67 (aR 1 4096)) a0 9 (some a67)) a82 (aR 1 4096)) a0 10 (some a82)) a98 (aR 0 4096)) a0 11 (some a98)) a115 (aR 1 4096)) a0 12 (some a115)) a133 (aR 0 97)) a0 14 (some a133)) a152 (aR 0 776)) a0 15 (some a152)) a172 (aR 1 4096)
  replace h := h _ rfl
  refine x_putR rfl dM_init_110 pM_50 k175 (fun o => by cases o <;> rfl) (fun o => by cases o <;> rfl) (n := 113) rfl ?_
  refine x_aload_n dM_init_113 rfl (n := 114) rfl ?_
  refine x_sipush (v := 300) dM_init_114 (by decide) (n := 117) rfl ?_
  obtain ⟨bc189, bs190, b191, b192, h⟩ := h
  refine x_newa (atype := .int) (t := 0) (N := 300) dM_init_117 w_87 (by decide) (by decide) (by decide) (n := 119) rfl (by decide) b191 b192 fun a193 f194 => ?_
  replace h := h a193 f194 _ rfl
  have k196 := kdN (k := aR 0 300) f194 k175
  have k197 := kdN (k := aR 0 300) f194 k176
  have k198 := kdN (k := aR 0 300) f194 k177
  have k199 := kdN (k := aR 0 300) f194 k178
  have k200 := kdN (k := aR 0 300) f194 k179
  have k201 := kdN (k := aR 0 300) f194 k180
  have k202 := kdN (k := aR 0 300) f194 k181
  have k203 := kdN (k := aR 0 300) f194 k182
  have k204 := kdN (k := aR 0 300) f194 k183
  have k205 := kdN (k := aR 0 300) f194 k184
  have k206 := kdN (k := aR 0 300) f194 k185
  have k207 := kdN (k := aR 0 300) f194 k186
  have k208 := kdN (k := aR 0 300) f194 k187
  have k209 := kdNs (mR (mN (mR (mN (mR (mN (mR (mN (mR (mN (mR (mN (mR (mN (mR (mN (mR (mN (mR (mN (mR (mN (mR (mN (mI m a0 1 (1 : Int32)) a7 (aR 0 8)) a0 2 (some a7)) a17 (aR 0 8)) a0 4 (some a17)) a28 (aR 2 4096)) a0 6 (some a28)) a40 (aR 0 4096)) a0 7 (some a40)) a53 (aR 0 32768)) a0 8 (some a53)) a67 (aR 1 4096)) a0 9 (some a67)) a82 (aR 1 4096)) a0 10 (some a82)) a98 (aR 0 4096)) a0 11 (some a98)) a115 (aR 1 4096)) a0 12 (some a115)) a133 (aR 0 97)) a0 14 (some a133)) a152 (aR 0 776)) a0 15 (some a152)) a172 (aR 1 4096)) a0 17 (some a172)) a193 (aR 0 300)
  replace h := h _ rfl
  refine x_putR rfl dM_init_119 pM_53 k196 (fun o => by cases o <;> rfl) (fun o => by cases o <;> rfl) (n := 122) rfl ?_
  refine x_aload_n dM_init_122 rfl (n := 123) rfl ?_
  refine x_sipush (v := 300) dM_init_123 (by decide) (n := 126) rfl ?_
  obtain ⟨bc211, bs212, b213, b214, h⟩ := h
  refine x_newa (atype := .int) (t := 0) (N := 300) dM_init_126 w_87 (by decide) (by decide) (by decide) (n := 128) rfl (by decide) b213 b214 fun a215 f216 => ?_
  replace h := h a215 f216 _ rfl
  have k218 := kdN (k := aR 0 300) f216 k196
  have k219 := kdN (k := aR 0 300) f216 k197
  have k220 := kdN (k := aR 0 300) f216 k198
  have k221 := kdN (k := aR 0 300) f216 k199
  have k222 := kdN (k := aR 0 300) f216 k200
  have k223 := kdN (k := aR 0 300) f216 k201
  have k224 := kdN (k := aR 0 300) f216 k202
  have k225 := kdN (k := aR 0 300) f216 k203
  have k226 := kdN (k := aR 0 300) f216 k204
  have k227 := kdN (k := aR 0 300) f216 k205
  have k228 := kdN (k := aR 0 300) f216 k206
  have k229 := kdN (k := aR 0 300) f216 k207
  have k230 := kdN (k := aR 0 300) f216 k208
  have k231 := kdN (k := aR 0 300) f216 k209
  have k232 := kdNs (mR (mN (mR (mN (mR (mN (mR (mN (mR (mN (mR (mN (mR (mN (mR (mN (mR (mN (mR (mN (mR (mN (mR (mN (mR (mN (mI m a0 1 (1 : Int32)) a7 (aR 0 8)) a0 2 (some a7)) a17 (aR 0 8)) a0 4 (some a17)) a28 (aR 2 4096)) a0 6 (some a28)) a40 (aR 0 4096)) a0 7 (some a40)) a53 (aR 0 32768)) a0 8 (some a53)) a67 (aR 1 4096)) a0 9 (some a67)) a82 (aR 1 4096)) a0 10 (some a82)) a98 (aR 0 4096)) a0 11 (some a98)) a115 (aR 1 4096)) a0 12 (some a115)) a133 (aR 0 97)) a0 14 (some a133)) a152 (aR 0 776)) a0 15 (some a152)) a172 (aR 1 4096)) a0 17 (some a172)) a193 (aR 0 300)) a0 19 (some a193)) a215 (aR 0 300)
  replace h := h _ rfl
  refine x_putR rfl dM_init_128 pM_56 k218 (fun o => by cases o <;> rfl) (fun o => by cases o <;> rfl) (n := 131) rfl ?_
  refine x_aload_n dM_init_131 rfl (n := 132) rfl ?_
  refine x_bipush (v := 64) dM_init_132 (by decide) (n := 134) rfl ?_
  obtain ⟨bc234, bs235, b236, b237, h⟩ := h
  refine x_newa (atype := .boolean) (t := 1) (N := 64) dM_init_134 w_625 (by decide) (by decide) (by decide) (n := 136) rfl (by decide) b236 b237 fun a238 f239 => ?_
  replace h := h a238 f239 _ rfl
  have k241 := kdN (k := aR 1 64) f239 k218
  have k242 := kdN (k := aR 1 64) f239 k219
  have k243 := kdN (k := aR 1 64) f239 k220
  have k244 := kdN (k := aR 1 64) f239 k221
  have k245 := kdN (k := aR 1 64) f239 k222
  have k246 := kdN (k := aR 1 64) f239 k223
  have k247 := kdN (k := aR 1 64) f239 k224
  have k248 := kdN (k := aR 1 64) f239 k225
  have k249 := kdN (k := aR 1 64) f239 k226
  have k250 := kdN (k := aR 1 64) f239 k227
  have k251 := kdN (k := aR 1 64) f239 k228
  have k252 := kdN (k := aR 1 64) f239 k229
  have k253 := kdN (k := aR 1 64) f239 k230
  have k254 := kdN (k := aR 1 64) f239 k231
  have k255 := kdN (k := aR 1 64) f239 k232
  have k256 := kdNs (mR (mN (mR (mN (mR (mN (mR (mN (mR (mN (mR (mN (mR (mN (mR (mN (mR (mN (mR (mN (mR (mN (mR (mN (mR (mN (mR (mN (mI m a0 1 (1 : Int32)) a7 (aR 0 8)) a0 2 (some a7)) a17 (aR 0 8)) a0 4 (some a17)) a28 (aR 2 4096)) a0 6 (some a28)) a40 (aR 0 4096)) a0 7 (some a40)) a53 (aR 0 32768)) a0 8 (some a53)) a67 (aR 1 4096)) a0 9 (some a67)) a82 (aR 1 4096)) a0 10 (some a82)) a98 (aR 0 4096)) a0 11 (some a98)) a115 (aR 1 4096)) a0 12 (some a115)) a133 (aR 0 97)) a0 14 (some a133)) a152 (aR 0 776)) a0 15 (some a152)) a172 (aR 1 4096)) a0 17 (some a172)) a193 (aR 0 300)) a0 19 (some a193)) a215 (aR 0 300)) a0 21 (some a215)) a238 (aR 1 64)
  replace h := h _ rfl
  refine x_putR rfl dM_init_136 pM_59 k241 (fun o => by cases o <;> rfl) (fun o => by cases o <;> rfl) (n := 139) rfl ?_
  refine x_aload_n dM_init_139 rfl (n := 140) rfl ?_
  refine x_bipush (v := 13) dM_init_140 (by decide) (n := 142) rfl ?_
  obtain ⟨bc258, bs259, b260, b261, h⟩ := h
  refine x_newa (atype := .int) (t := 0) (N := 13) dM_init_142 w_87 (by decide) (by decide) (by decide) (n := 144) rfl (by decide) b260 b261 fun a262 f263 => ?_
  replace h := h a262 f263 _ rfl
  have k265 := kdN (k := aR 0 13) f263 k241
  have k266 := kdN (k := aR 0 13) f263 k242
  have k267 := kdN (k := aR 0 13) f263 k243
  have k268 := kdN (k := aR 0 13) f263 k244
  have k269 := kdN (k := aR 0 13) f263 k245
  have k270 := kdN (k := aR 0 13) f263 k246
  have k271 := kdN (k := aR 0 13) f263 k247
  have k272 := kdN (k := aR 0 13) f263 k248
  have k273 := kdN (k := aR 0 13) f263 k249
  have k274 := kdN (k := aR 0 13) f263 k250
  have k275 := kdN (k := aR 0 13) f263 k251
  have k276 := kdN (k := aR 0 13) f263 k252
  have k277 := kdN (k := aR 0 13) f263 k253
  have k278 := kdN (k := aR 0 13) f263 k254
  have k279 := kdN (k := aR 0 13) f263 k255
  have k280 := kdN (k := aR 0 13) f263 k256
  have k281 := kdNs (mR (mN (mR (mN (mR (mN (mR (mN (mR (mN (mR (mN (mR (mN (mR (mN (mR (mN (mR (mN (mR (mN (mR (mN (mR (mN (mR (mN (mR (mN (mI m a0 1 (1 : Int32)) a7 (aR 0 8)) a0 2 (some a7)) a17 (aR 0 8)) a0 4 (some a17)) a28 (aR 2 4096)) a0 6 (some a28)) a40 (aR 0 4096)) a0 7 (some a40)) a53 (aR 0 32768)) a0 8 (some a53)) a67 (aR 1 4096)) a0 9 (some a67)) a82 (aR 1 4096)) a0 10 (some a82)) a98 (aR 0 4096)) a0 11 (some a98)) a115 (aR 1 4096)) a0 12 (some a115)) a133 (aR 0 97)) a0 14 (some a133)) a152 (aR 0 776)) a0 15 (some a152)) a172 (aR 1 4096)) a0 17 (some a172)) a193 (aR 0 300)) a0 19 (some a193)) a215 (aR 0 300)) a0 21 (some a215)) a238 (aR 1 64)) a0 22 (some a238)) a262 (aR 0 13)
  replace h := h _ rfl
  refine x_putR rfl dM_init_144 pM_62 k265 (fun o => by cases o <;> rfl) (fun o => by cases o <;> rfl) (n := 147) rfl ?_
  exact x_vret dM_init_147 rfl h
set_option maxRecDepth 100000 in
set_option maxHeartbeats 4000000 in
theorem bM_thrown {l : Launch} {G : xG} {m : XM} {Q : XR → XM → Prop} {a0 : Nat} (hst : l.stackTraces = false)
    (h : kd m a0 = some (oB 5) ∧ Q (.inl (some (vI (gI m a0 0)))) m) :
    CC l G xM_thrown [vR (some a0)] m Q := by
  refine x_entry (by decide +kernel) rfl hst (Nat.le_of_ble_eq_true rfl) (L0 := [some (vR (some a0))]) rfl ?_
  refine x_aload_n dM_thrown_0 rfl (n := 1) rfl ?_
  obtain ⟨k1, h⟩ := h
  refine x_getI rfl dM_thrown_1 fM_65 k1 (n := 4) rfl ?_
  exact x_iret dM_thrown_4 rfl h
set_option maxRecDepth 100000 in
set_option maxHeartbeats 4000000 in
theorem bM_word {l : Launch} {G : xG} {m : XM} {Q : XR → XM → Prop} {a0 : Nat} {x1 : Int32} {x2 : Int32} (hst : l.stackTraces = false)
    (h : kd m a0 = some (oB 5) ∧ ∀ m2, m2 = mI m a0 0 (0 : Int32) → CC l G xM_within [vI x1, vI (0 : Int32), vI (7 : Int32)] m2 (kI (fun v4 m3 => ((¬ v4 = 0 → kd m3 a0 = some (oB 5) ∧ ∃ a6, gR m3 a0 2 = some a6 ∧ ∃ n9, kd m3 a6 = some (aR 0 n9) ∧ vp_in x1 n9 ∧ vp_in x1 n9 ∧ ∀ m12, m12 = mI m3 a6 x1.toNatClampNeg x2 → Q (.inl (some (vI (gI m3 a6 x1.toNatClampNeg)))) m12) ∧ (v4 = 0 → kd m3 a0 = some (oB 5) ∧ CC l G xM_fail [vR (some a0), vI (1 : Int32)] m3 (kI (fun v15 m14 => Q (.inl (some (vI v15))) m14) Q)))) Q)) :
    CC l G xM_word [vR (some a0), vI x1, vI x2] m Q := by
  refine x_entry (by decide +kernel) rfl hst (Nat.le_of_ble_eq_true rfl) (L0 := [some (vR (some a0)), some (vI x1), some (vI x2), none]) rfl ?_
  refine x_aload_n dM_word_0 rfl (n := 1) rfl ?_
  refine x_iconst (v := 0) dM_word_1 (by decide) (n := 2) rfl ?_
  obtain ⟨k1, h⟩ := h
  replace h := h _ rfl
  refine x_putI rfl dM_word_2 pM_65 k1 rfl rfl (n := 5) rfl ?_
  refine x_iload_n dM_word_5 rfl (n := 6) rfl ?_
  refine x_iconst (v := 0) dM_word_6 (by decide) (n := 7) rfl ?_
  refine x_bipush (v := 7) dM_word_7 (by decide) (n := 9) rfl ?_
  refine x_invS (m := (mI m a0 0 (0 : Int32))) dM_word_9 gM_word_9 (as := [vI x1, vI (0 : Int32), vI (7 : Int32)]) (st := []) rfl rfl (Nat.le_of_ble_eq_true rfl) (n := 12) rfl rfl rfl h (xBk.I fun v4 m3 h => ?_)
  obtain ⟨h, h'⟩ := h
  refine x_if_ne (tgt := 21) dM_word_12 rfl (n := 15) rfl (fun c16 => ?_) (fun c16 => ?_)
  · replace h := h c16
    refine x_aload_n dM_word_21 rfl (n := 22) rfl ?_
    obtain ⟨k5, h⟩ := h
    refine x_getR rfl dM_word_22 fM_13 k5 (n := 25) rfl ?_
    refine x_iload_n dM_word_25 rfl (n := 26) rfl ?_
    obtain ⟨a6, e7, h⟩ := h
    obtain ⟨n9, k8, h⟩ := h
    obtain ⟨c10, h⟩ := h
    refine x_iald e7 dM_word_26 k8 c10 (n := 27) rfl ?_
    refine x_istore_n dM_word_27 (by decide) (L' := [some (vR (some a0)), some (vI x1), some (vI x2), some (vI (gI m3 a6 x1.toNatClampNeg))]) rfl (n := 28) rfl ?_
    refine x_aload_n dM_word_28 rfl (n := 29) rfl ?_
    refine x_getR rfl dM_word_29 fM_13 k5 (n := 32) rfl ?_
    refine x_iload_n dM_word_32 rfl (n := 33) rfl ?_
    refine x_iload_n dM_word_33 rfl (n := 34) rfl ?_
    obtain ⟨c11, h⟩ := h
    replace h := h _ rfl
    refine x_iast e7 dM_word_34 k8 c11 (n := 35) rfl ?_
    refine x_iload_n dM_word_35 rfl (n := 36) rfl ?_
    exact x_iret dM_word_36 rfl h
  · replace h := h' c16
    refine x_aload_n dM_word_15 rfl (n := 16) rfl ?_
    refine x_iconst (v := 1) dM_word_16 (by decide) (n := 17) rfl ?_
    obtain ⟨k13, h⟩ := h
    refine x_invV (m := m3) rfl dM_word_17 gM_word_17 (as := [vI (1 : Int32)]) (st := []) rfl rfl k13 rfl rfl (Nat.le_of_ble_eq_true rfl) (n := 20) rfl rfl rfl h (xBk.I fun v15 m14 h => ?_)
    exact x_iret dM_word_20 rfl h
set_option maxRecDepth 100000 in
set_option maxHeartbeats 4000000 in
theorem bM_within {l : Launch} {G : xG} {m : XM} {Q : XR → XM → Prop} {x0 : Int32} {x1 : Int32} {x2 : Int32} (hst : l.stackTraces = false)
    (h : ((x0 < x1 → Q (.inl (some (vI (0 : Int32)))) m) ∧ (¬ x0 < x1 → ((x2 < x0 → Q (.inl (some (vI (0 : Int32)))) m) ∧ (¬ x2 < x0 → Q (.inl (some (vI (1 : Int32)))) m))))) :
    CC l G xM_within [vI x0, vI x1, vI x2] m Q := by
  refine x_entry (by decide +kernel) rfl hst (Nat.le_of_ble_eq_true rfl) (L0 := [some (vI x0), some (vI x1), some (vI x2)]) rfl ?_
  refine x_iload_n dM_within_0 rfl (n := 1) rfl ?_
  refine x_iload_n dM_within_1 rfl (n := 2) rfl ?_
  obtain ⟨h, h'⟩ := h
  refine x_icmp_lt (tgt := 14) dM_within_2 rfl (n := 5) rfl (fun c2 => ?_) (fun c2 => ?_)
  · replace h := h c2
    refine x_iconst (v := 0) dM_within_14 (by decide) (n := 15) rfl ?_
    exact x_zret dM_within_15 rfl (by decide) h
  · replace h := h' c2
    refine x_iload_n dM_within_5 rfl (n := 6) rfl ?_
    refine x_iload_n dM_within_6 rfl (n := 7) rfl ?_
    obtain ⟨h, h'⟩ := h
    refine x_icmp_gt (tgt := 14) dM_within_7 rfl (n := 10) rfl (fun c1 => ?_) (fun c1 => ?_)
    · replace h := h c1
      refine x_iconst (v := 0) dM_within_14 (by decide) (n := 15) rfl ?_
      exact x_zret dM_within_15 rfl (by decide) h
    · replace h := h' c1
      refine x_iconst (v := 1) dM_within_10 (by decide) (n := 11) rfl ?_
      refine x_goto (tgt := 15) dM_within_11 rfl ?_
      exact x_zret dM_within_15 rfl (by decide) h
set_option maxRecDepth 100000 in
set_option maxHeartbeats 4000000 in
theorem bM_fail {l : Launch} {G : xG} {m : XM} {Q : XR → XM → Prop} {a0 : Nat} {x1 : Int32} (hst : l.stackTraces = false)
    (h : kd m a0 = some (oB 5) ∧ ∀ m2, m2 = mI m a0 0 x1 → Q (.inl (some (vI (0 : Int32)))) m2) :
    CC l G xM_fail [vR (some a0), vI x1] m Q := by
  refine x_entry (by decide +kernel) rfl hst (Nat.le_of_ble_eq_true rfl) (L0 := [some (vR (some a0)), some (vI x1)]) rfl ?_
  refine x_aload_n dM_fail_0 rfl (n := 1) rfl ?_
  refine x_iload_n dM_fail_1 rfl (n := 2) rfl ?_
  obtain ⟨k1, h⟩ := h
  replace h := h _ rfl
  refine x_putI rfl dM_fail_2 pM_65 k1 rfl rfl (n := 5) rfl ?_
  refine x_iconst (v := 0) dM_fail_5 (by decide) (n := 6) rfl ?_
  exact x_iret dM_fail_6 rfl h
set_option maxRecDepth 100000 in
set_option maxHeartbeats 4000000 in
theorem bM_put_34 {l : Launch} {G : xG} {m : XM} {bc bs : Nat} {Q : XR → XM → Prop} {a0 : Nat} {x1 : Int64} {x3 : Int32}
    (h : kd m a0 = some (oB 5) ∧ CC l G xM_wordsOf [vR (some a0), vI (96 : Int32)] m (kI (fun v3 m2 => ((((v3 + x3) + (3 : Int32)) ≤ (32 : Int32) → kd m2 a0 = some (oB 5) ∧ CC l G xM_freeNumber [vR (some a0)] m2 (kI (fun v6 m5 => kd m5 a0 = some (oB 5) ∧ ∃ a8, gR m5 a0 6 = some a8 ∧ ∃ n11, kd m5 a8 = some (aR 2 n11) ∧ vp_in v6 n11 ∧ ∀ m13, m13 = mL m5 a8 v6.toNatClampNeg x1 → ∃ a14, gR m5 a0 7 = some a14 ∧ ∃ n17, kd m5 a14 = some (aR 0 n17) ∧ vp_in v6 n17 ∧ ∀ m19, m19 = mI m13 a14 v6.toNatClampNeg x3 → WW l G xM_put 81 [some (vR (some a0)), some (vL x1), none, some (vI x3), some (vI v6), some (vI (0 : Int32))] [] m19 bc bs Q) Q)) ∧ (¬ ((v3 + x3) + (3 : Int32)) ≤ (32 : Int32) → kd m2 a0 = some (oB 5) ∧ CC l G xM_makeRoom [vR (some a0)] m2 (kV (fun m21 => WW l G xM_put 34 [some (vR (some a0)), some (vL x1), none, some (vI x3), none, none] [] m21 bc bs Q) Q)))) Q)) :
    WW l G xM_put 34 [some (vR (some a0)), some (vL x1), none, some (vI x3), none, none] [] m bc bs Q := by
  refine x_aload_n dM_put_34 rfl (n := 35) rfl ?_
  refine x_bipush (v := 96) dM_put_35 (by decide) (n := 37) rfl ?_
  obtain ⟨k1, h⟩ := h
  refine x_invV (m := m) rfl dM_put_37 gM_put_37 (as := [vI (96 : Int32)]) (st := []) rfl rfl k1 rfl rfl (Nat.le_of_ble_eq_true rfl) (n := 40) rfl rfl rfl h (xBk.I fun v3 m2 h => ?_)
  refine x_iload_n dM_put_40 rfl (n := 41) rfl ?_
  refine x_iadd dM_put_41 (n := 42) rfl ?_
  refine x_iconst (v := 3) dM_put_42 (by decide) (n := 43) rfl ?_
  refine x_iadd dM_put_43 (n := 44) rfl ?_
  refine x_bipush (v := 32) dM_put_44 (by decide) (n := 46) rfl ?_
  obtain ⟨h, h'⟩ := h
  refine x_icmp_le (tgt := 56) dM_put_46 rfl (n := 49) rfl (fun c22 => ?_) (fun c22 => ?_)
  · replace h := h c22
    refine x_aload_n dM_put_56 rfl (n := 57) rfl ?_
    obtain ⟨k4, h⟩ := h
    refine x_invV (m := m2) rfl dM_put_57 gM_put_57 (as := []) (st := []) rfl rfl k4 rfl rfl (Nat.le_of_ble_eq_true rfl) (n := 60) rfl rfl rfl h (xBk.I fun v6 m5 h => ?_)
    refine x_istore dM_put_60 (by decide) (L' := [some (vR (some a0)), some (vL x1), none, some (vI x3), some (vI v6), none]) rfl (n := 62) rfl ?_
    refine x_aload_n dM_put_62 rfl (n := 63) rfl ?_
    obtain ⟨k7, h⟩ := h
    refine x_getR rfl dM_put_63 fM_20 k7 (n := 66) rfl ?_
    refine x_iload dM_put_66 rfl (n := 68) rfl ?_
    refine x_lload_n dM_put_68 rfl (n := 69) rfl ?_
    obtain ⟨a8, e9, h⟩ := h
    obtain ⟨n11, k10, h⟩ := h
    obtain ⟨c12, h⟩ := h
    replace h := h _ rfl
    refine x_last e9 dM_put_69 k10 c12 (n := 70) rfl ?_
    refine x_aload_n dM_put_70 rfl (n := 71) rfl ?_
    refine x_getR rfl dM_put_71 fM_24 k7 (n := 74) rfl ?_
    refine x_iload dM_put_74 rfl (n := 76) rfl ?_
    refine x_iload_n dM_put_76 rfl (n := 77) rfl ?_
    obtain ⟨a14, e15, h⟩ := h
    obtain ⟨n17, k16, h⟩ := h
    obtain ⟨c18, h⟩ := h
    replace h := h _ rfl
    refine x_iast e15 dM_put_77 k16 c18 (n := 78) rfl ?_
    refine x_iconst (v := 0) dM_put_78 (by decide) (n := 79) rfl ?_
    refine x_istore dM_put_79 (by decide) (L' := [some (vR (some a0)), some (vL x1), none, some (vI x3), some (vI v6), some (vI (0 : Int32))]) rfl (n := 81) rfl ?_
    exact h
  · replace h := h' c22
    refine x_aload_n dM_put_49 rfl (n := 50) rfl ?_
    obtain ⟨k20, h⟩ := h
    refine x_invV (m := m2) rfl dM_put_50 gM_put_50 (as := []) (st := []) rfl rfl k20 rfl rfl (Nat.le_of_ble_eq_true rfl) (n := 53) rfl rfl rfl h (xBk.V fun m21 h => ?_)
    refine x_goto (tgt := 34) dM_put_53 rfl ?_
    exact h
set_option maxRecDepth 100000 in
set_option maxHeartbeats 4000000 in
theorem bM_put_81 {l : Launch} {G : xG} {m : XM} {bc bs : Nat} {Q : XR → XM → Prop} {a0 : Nat} {x1 : Int64} {x3 : Int32} {x4 : Int32} {x5 : Int32}
    (h : (((8 : Int32) ≤ x5 → kd m a0 = some (oB 5) ∧ ∃ a2, gR m a0 9 = some a2 ∧ ∃ n5, kd m a2 = some (aR 1 n5) ∧ vp_in x4 n5 ∧ ∀ m7, m7 = mI m a2 x4.toNatClampNeg (0 : Int32) → ∃ a8, gR m a0 12 = some a8 ∧ ∃ n11, kd m a8 = some (aR 1 n11) ∧ vp_in x4 n11 ∧ ∀ m13, m13 = mI m7 a8 x4.toNatClampNeg (0 : Int32) → CC l G xM_enter [vR (some a0), vI x4] m13 (kV (fun m14 => Q (.inl none) m14) Q)) ∧ (¬ (8 : Int32) ≤ x5 → kd m a0 = some (oB 5) ∧ ((x3 ≤ x5 → ∃ a16, gR m a0 8 = some a16 ∧ ∃ n19, kd m a16 = some (aR 0 n19) ∧ vp_in (((8 : Int32) * x4) + x5) n19 ∧ ∀ m21, m21 = mI m a16 (((8 : Int32) * x4) + x5).toNatClampNeg (0 : Int32) → WW l G xM_put 81 [some (vR (some a0)), some (vL x1), none, some (vI x3), some (vI x4), some (vI (x5 + 1))] [] m21 bc bs Q) ∧ (¬ x3 ≤ x5 → ∃ a22, gR m a0 2 = some a22 ∧ ∃ n25, kd m a22 = some (aR 0 n25) ∧ vp_in x5 n25 ∧ ∃ a27, gR m a0 8 = some a27 ∧ ∃ n30, kd m a27 = some (aR 0 n30) ∧ vp_in (((8 : Int32) * x4) + x5) n30 ∧ ∀ m32, m32 = mI m a27 (((8 : Int32) * x4) + x5).toNatClampNeg (gI m a22 x5.toNatClampNeg) → WW l G xM_put 81 [some (vR (some a0)), some (vL x1), none, some (vI x3), some (vI x4), some (vI (x5 + 1))] [] m32 bc bs Q))))) :
    WW l G xM_put 81 [some (vR (some a0)), some (vL x1), none, some (vI x3), some (vI x4), some (vI x5)] [] m bc bs Q := by
  refine x_iload dM_put_81 rfl (n := 83) rfl ?_
  refine x_bipush (v := 8) dM_put_83 (by decide) (n := 85) rfl ?_
  obtain ⟨h, h'⟩ := h
  refine x_icmp_ge (tgt := 124) dM_put_85 rfl (n := 88) rfl (fun c34 => ?_) (fun c34 => ?_)
  · replace h := h c34
    refine x_aload_n dM_put_124 rfl (n := 125) rfl ?_
    obtain ⟨k1, h⟩ := h
    refine x_getR rfl dM_put_125 fM_31 k1 (n := 128) rfl ?_
    refine x_iload dM_put_128 rfl (n := 130) rfl ?_
    refine x_iconst (v := 0) dM_put_130 (by decide) (n := 131) rfl ?_
    obtain ⟨a2, e3, h⟩ := h
    obtain ⟨n5, k4, h⟩ := h
    obtain ⟨c6, h⟩ := h
    replace h := h _ rfl
    refine x_zast e3 dM_put_131 k4 c6 (by decide) (n := 132) rfl ?_
    refine x_aload_n dM_put_132 rfl (n := 133) rfl ?_
    refine x_getR rfl dM_put_133 fM_41 k1 (n := 136) rfl ?_
    refine x_iload dM_put_136 rfl (n := 138) rfl ?_
    refine x_iconst (v := 0) dM_put_138 (by decide) (n := 139) rfl ?_
    obtain ⟨a8, e9, h⟩ := h
    obtain ⟨n11, k10, h⟩ := h
    obtain ⟨c12, h⟩ := h
    replace h := h _ rfl
    refine x_zast e9 dM_put_139 k10 c12 (by decide) (n := 140) rfl ?_
    refine x_aload_n dM_put_140 rfl (n := 141) rfl ?_
    refine x_iload dM_put_141 rfl (n := 143) rfl ?_
    refine x_invV (m := (mI (mI m a2 x4.toNatClampNeg (0 : Int32)) a8 x4.toNatClampNeg (0 : Int32))) rfl dM_put_143 gM_put_143 (as := [vI x4]) (st := []) rfl rfl k1 rfl rfl (Nat.le_of_ble_eq_true rfl) (n := 146) rfl rfl rfl h (xBk.V fun m14 h => ?_)
    exact x_vret dM_put_146 rfl h
  · replace h := h' c34
    refine x_aload_n dM_put_88 rfl (n := 89) rfl ?_
    obtain ⟨k15, h⟩ := h
    refine x_getR rfl dM_put_89 fM_28 k15 (n := 92) rfl ?_
    refine x_bipush (v := 8) dM_put_92 (by decide) (n := 94) rfl ?_
    refine x_iload dM_put_94 rfl (n := 96) rfl ?_
    refine x_imul dM_put_96 (n := 97) rfl ?_
    refine x_iload dM_put_97 rfl (n := 99) rfl ?_
    refine x_iadd dM_put_99 (n := 100) rfl ?_
    refine x_iload dM_put_100 rfl (n := 102) rfl ?_
    refine x_iload_n dM_put_102 rfl (n := 103) rfl ?_
    obtain ⟨h, h'⟩ := h
    refine x_icmp_ge (tgt := 116) dM_put_103 rfl (n := 106) rfl (fun c33 => ?_) (fun c33 => ?_)
    · replace h := h c33
      refine x_iconst (v := 0) dM_put_116 (by decide) (n := 117) rfl ?_
      obtain ⟨a16, e17, h⟩ := h
      obtain ⟨n19, k18, h⟩ := h
      obtain ⟨c20, h⟩ := h
      replace h := h _ rfl
      refine x_iast e17 dM_put_117 k18 c20 (n := 118) rfl ?_
      refine x_iinc (v := x5 + 1) dM_put_118 rfl rfl (by decide) (L' := [some (vR (some a0)), some (vL x1), none, some (vI x3), some (vI x4), some (vI (x5 + 1))]) rfl (n := 121) rfl ?_
      refine x_goto (tgt := 81) dM_put_121 rfl ?_
      exact h
    · replace h := h' c33
      refine x_aload_n dM_put_106 rfl (n := 107) rfl ?_
      refine x_getR rfl dM_put_107 fM_13 k15 (n := 110) rfl ?_
      refine x_iload dM_put_110 rfl (n := 112) rfl ?_
      obtain ⟨a22, e23, h⟩ := h
      obtain ⟨n25, k24, h⟩ := h
      obtain ⟨c26, h⟩ := h
      refine x_iald e23 dM_put_112 k24 c26 (n := 113) rfl ?_
      refine x_goto (tgt := 117) dM_put_113 rfl ?_
      obtain ⟨a27, e28, h⟩ := h
      obtain ⟨n30, k29, h⟩ := h
      obtain ⟨c31, h⟩ := h
      replace h := h _ rfl
      refine x_iast e28 dM_put_117 k29 c31 (n := 118) rfl ?_
      refine x_iinc (v := x5 + 1) dM_put_118 rfl rfl (by decide) (L' := [some (vR (some a0)), some (vL x1), none, some (vI x3), some (vI x4), some (vI (x5 + 1))]) rfl (n := 121) rfl ?_
      refine x_goto (tgt := 81) dM_put_121 rfl ?_
      exact h
set_option maxRecDepth 100000 in
set_option maxHeartbeats 4000000 in
theorem bM_put {l : Launch} {G : xG} {m : XM} {Q : XR → XM → Prop} {a0 : Nat} {x1 : Int64} {x3 : Int32} (hst : l.stackTraces = false)
    (h : kd m a0 = some (oB 5) ∧ CC l G xM_works [vR (some a0)] m (kI (fun v3 m2 => ((¬ v3 = 0 → CC l G xM_within [vI x3, vI (1 : Int32), vI (8 : Int32)] m2 (kI (fun v5 m4 => ((¬ v5 = 0 → kd m4 a0 = some (oB 5) ∧ ∀ m7, m7 = mI m4 a0 18 (0 : Int32) → ∀ m8, m8 = mI m7 a0 20 (0 : Int32) → WW l G xM_put 34 [some (vR (some a0)), some (vL x1), none, some (vI x3), none, none] [] m8 0 0 Q) ∧ (v5 = 0 → kd m4 a0 = some (oB 5) ∧ ∀ m10, m10 = mI m4 a0 0 (2 : Int32) → Q (.inl none) m10))) Q)) ∧ (v3 = 0 → Q (.inl none) m2))) Q)) :
    CC l G xM_put [vR (some a0), vL x1, vI x3] m Q := by
  refine x_entry (by decide +kernel) rfl hst (Nat.le_of_ble_eq_true rfl) (L0 := [some (vR (some a0)), some (vL x1), none, some (vI x3), none, none]) rfl ?_
  refine x_aload_n dM_put_0 rfl (n := 1) rfl ?_
  obtain ⟨k1, h⟩ := h
  refine x_invV (m := m) rfl dM_put_1 gM_put_1 (as := []) (st := []) rfl rfl k1 rfl rfl (Nat.le_of_ble_eq_true rfl) (n := 4) rfl rfl rfl h (xBk.I fun v3 m2 h => ?_)
  obtain ⟨h, h'⟩ := h
  refine x_if_ne (tgt := 8) dM_put_4 rfl (n := 7) rfl (fun c12 => ?_) (fun c12 => ?_)
  · replace h := h c12
    refine x_iload_n dM_put_8 rfl (n := 9) rfl ?_
    refine x_iconst (v := 1) dM_put_9 (by decide) (n := 10) rfl ?_
    refine x_bipush (v := 8) dM_put_10 (by decide) (n := 12) rfl ?_
    refine x_invS (m := m2) dM_put_12 gM_put_12 (as := [vI x3, vI (1 : Int32), vI (8 : Int32)]) (st := []) rfl rfl (Nat.le_of_ble_eq_true rfl) (n := 15) rfl rfl rfl h (xBk.I fun v5 m4 h => ?_)
    obtain ⟨h, h'⟩ := h
    refine x_if_ne (tgt := 24) dM_put_15 rfl (n := 18) rfl (fun c11 => ?_) (fun c11 => ?_)
    · replace h := h c11
      refine x_aload_n dM_put_24 rfl (n := 25) rfl ?_
      refine x_iconst (v := 0) dM_put_25 (by decide) (n := 26) rfl ?_
      obtain ⟨k6, h⟩ := h
      replace h := h _ rfl
      refine x_putI rfl dM_put_26 pM_83 k6 rfl rfl (n := 29) rfl ?_
      refine x_aload_n dM_put_29 rfl (n := 30) rfl ?_
      refine x_iconst (v := 0) dM_put_30 (by decide) (n := 31) rfl ?_
      replace h := h _ rfl
      refine x_putI rfl dM_put_31 pM_86 k6 rfl rfl (n := 34) rfl ?_
      exact h
    · replace h := h' c11
      refine x_aload_n dM_put_18 rfl (n := 19) rfl ?_
      refine x_iconst (v := 2) dM_put_19 (by decide) (n := 20) rfl ?_
      obtain ⟨k9, h⟩ := h
      replace h := h _ rfl
      refine x_putI rfl dM_put_20 pM_65 k9 rfl rfl (n := 23) rfl ?_
      exact x_vret dM_put_23 rfl h
  · replace h := h' c12
    exact x_vret dM_put_7 rfl h
set_option maxRecDepth 100000 in
set_option maxHeartbeats 4000000 in
theorem bM_works {l : Launch} {G : xG} {m : XM} {Q : XR → XM → Prop} {a0 : Nat} (hst : l.stackTraces = false)
    (h : kd m a0 = some (oB 5) ∧ (((gI m a0 1) = 0 → ∀ m2, m2 = mI m a0 0 (1 : Int32) → ((gI m2 a0 1 = 0 ∨ gI m2 a0 1 = 1) ∧ Q (.inl (some (vI (gI m2 a0 1)))) m2)) ∧ (¬ (gI m a0 1) = 0 → ∀ m3, m3 = mI m a0 0 (0 : Int32) → ((gI m3 a0 1 = 0 ∨ gI m3 a0 1 = 1) ∧ Q (.inl (some (vI (gI m3 a0 1)))) m3)))) :
    CC l G xM_works [vR (some a0)] m Q := by
  refine x_entry (by decide +kernel) rfl hst (Nat.le_of_ble_eq_true rfl) (L0 := [some (vR (some a0))]) rfl ?_
  refine x_aload_n dM_works_0 rfl (n := 1) rfl ?_
  refine x_aload_n dM_works_1 rfl (n := 2) rfl ?_
  obtain ⟨k1, h⟩ := h
  refine x_getI rfl dM_works_2 fM_7 k1 (n := 5) rfl ?_
  obtain ⟨h, h'⟩ := h
  refine x_if_eq (tgt := 12) dM_works_5 rfl (n := 8) rfl (fun c4 => ?_) (fun c4 => ?_)
  · replace h := h c4
    refine x_iconst (v := 1) dM_works_12 (by decide) (n := 13) rfl ?_
    replace h := h _ rfl
    refine x_putI rfl dM_works_13 pM_65 k1 rfl rfl (n := 16) rfl ?_
    refine x_aload_n dM_works_16 rfl (n := 17) rfl ?_
    refine x_getI rfl dM_works_17 fM_7 k1 (n := 20) rfl ?_
    exact x_zret dM_works_20 rfl (nar_b h.1) h.2
  · replace h := h' c4
    refine x_iconst (v := 0) dM_works_8 (by decide) (n := 9) rfl ?_
    refine x_goto (tgt := 13) dM_works_9 rfl ?_
    replace h := h _ rfl
    refine x_putI rfl dM_works_13 pM_65 k1 rfl rfl (n := 16) rfl ?_
    refine x_aload_n dM_works_16 rfl (n := 17) rfl ?_
    refine x_getI rfl dM_works_17 fM_7 k1 (n := 20) rfl ?_
    exact x_zret dM_works_20 rfl (nar_b h.1) h.2
set_option maxRecDepth 100000 in
set_option maxHeartbeats 4000000 in
theorem bM_wordsOf_4 {l : Launch} {G : xG} {m : XM} {bc bs : Nat} {Q : XR → XM → Prop} {a0 : Nat} {x1 : Int32} {x2 : Int32} {x3 : Int32}
    (h : kd m a0 = some (oB 5) ∧ ∃ a2, gR m a0 14 = some a2 ∧ ∃ n5, kd m a2 = some (aR 0 n5) ∧ vp_in x1 n5 ∧ (((gI m a2 x1.toNatClampNeg) ≤ x3 → Q (.inl (some (vI x2))) m) ∧ (¬ (gI m a2 x1.toNatClampNeg) ≤ x3 → ∃ a7, gR m a0 15 = some a7 ∧ ∃ n10, kd m a7 = some (aR 0 n10) ∧ vp_in (((8 : Int32) * x1) + x3) n10 ∧ CC l G xM_need [vR (some a0), vI (gI m a7 (((8 : Int32) * x1) + x3).toNatClampNeg)] m (kI (fun v13 m12 => WW l G xM_wordsOf 4 [some (vR (some a0)), some (vI x1), some (vI (x2 + v13)), some (vI (x3 + 1))] [] m12 bc bs Q) Q)))) :
    WW l G xM_wordsOf 4 [some (vR (some a0)), some (vI x1), some (vI x2), some (vI x3)] [] m bc bs Q := by
  refine x_iload_n dM_wordsOf_4 rfl (n := 5) rfl ?_
  refine x_aload_n dM_wordsOf_5 rfl (n := 6) rfl ?_
  obtain ⟨k1, h⟩ := h
  refine x_getR rfl dM_wordsOf_6 fM_44 k1 (n := 9) rfl ?_
  refine x_iload_n dM_wordsOf_9 rfl (n := 10) rfl ?_
  obtain ⟨a2, e3, h⟩ := h
  obtain ⟨n5, k4, h⟩ := h
  obtain ⟨c6, h⟩ := h
  refine x_iald e3 dM_wordsOf_10 k4 c6 (n := 11) rfl ?_
  obtain ⟨h, h'⟩ := h
  refine x_icmp_ge (tgt := 38) dM_wordsOf_11 rfl (n := 14) rfl (fun c14 => ?_) (fun c14 => ?_)
  · replace h := h c14
    refine x_iload_n dM_wordsOf_38 rfl (n := 39) rfl ?_
    exact x_iret dM_wordsOf_39 rfl h
  · replace h := h' c14
    refine x_iload_n dM_wordsOf_14 rfl (n := 15) rfl ?_
    refine x_aload_n dM_wordsOf_15 rfl (n := 16) rfl ?_
    refine x_aload_n dM_wordsOf_16 rfl (n := 17) rfl ?_
    refine x_getR rfl dM_wordsOf_17 fM_47 k1 (n := 20) rfl ?_
    refine x_bipush (v := 8) dM_wordsOf_20 (by decide) (n := 22) rfl ?_
    refine x_iload_n dM_wordsOf_22 rfl (n := 23) rfl ?_
    refine x_imul dM_wordsOf_23 (n := 24) rfl ?_
    refine x_iload_n dM_wordsOf_24 rfl (n := 25) rfl ?_
    refine x_iadd dM_wordsOf_25 (n := 26) rfl ?_
    obtain ⟨a7, e8, h⟩ := h
    obtain ⟨n10, k9, h⟩ := h
    obtain ⟨c11, h⟩ := h
    refine x_iald e8 dM_wordsOf_26 k9 c11 (n := 27) rfl ?_
    refine x_invV (m := m) rfl dM_wordsOf_27 gM_wordsOf_27 (as := [vI (gI m a7 (((8 : Int32) * x1) + x3).toNatClampNeg)]) (st := [vI x2]) rfl rfl k1 rfl rfl (Nat.le_of_ble_eq_true rfl) (n := 30) rfl rfl rfl h (xBk.I fun v13 m12 h => ?_)
    refine x_iadd dM_wordsOf_30 (n := 31) rfl ?_
    refine x_istore_n dM_wordsOf_31 (by decide) (L' := [some (vR (some a0)), some (vI x1), some (vI (x2 + v13)), some (vI x3)]) rfl (n := 32) rfl ?_
    refine x_iinc (v := x3 + 1) dM_wordsOf_32 rfl rfl (by decide) (L' := [some (vR (some a0)), some (vI x1), some (vI (x2 + v13)), some (vI (x3 + 1))]) rfl (n := 35) rfl ?_
    refine x_goto (tgt := 4) dM_wordsOf_35 rfl ?_
    exact h
set_option maxRecDepth 100000 in
set_option maxHeartbeats 4000000 in
theorem bM_wordsOf {l : Launch} {G : xG} {m : XM} {Q : XR → XM → Prop} {a0 : Nat} {x1 : Int32} (hst : l.stackTraces = false)
    (h : WW l G xM_wordsOf 4 [some (vR (some a0)), some (vI x1), some (vI (0 : Int32)), some (vI (0 : Int32))] [] m 0 0 Q) :
    CC l G xM_wordsOf [vR (some a0), vI x1] m Q := by
  refine x_entry (by decide +kernel) rfl hst (Nat.le_of_ble_eq_true rfl) (L0 := [some (vR (some a0)), some (vI x1), none, none]) rfl ?_
  refine x_iconst (v := 0) dM_wordsOf_0 (by decide) (n := 1) rfl ?_
  refine x_istore_n dM_wordsOf_1 (by decide) (L' := [some (vR (some a0)), some (vI x1), some (vI (0 : Int32)), none]) rfl (n := 2) rfl ?_
  refine x_iconst (v := 0) dM_wordsOf_2 (by decide) (n := 3) rfl ?_
  refine x_istore_n dM_wordsOf_3 (by decide) (L' := [some (vR (some a0)), some (vI x1), some (vI (0 : Int32)), some (vI (0 : Int32))]) rfl (n := 4) rfl ?_
  exact h
set_option maxRecDepth 100000 in
set_option maxHeartbeats 4000000 in
theorem bM_need {l : Launch} {G : xG} {m : XM} {Q : XR → XM → Prop} {a0 : Nat} {x1 : Int32} (hst : l.stackTraces = false)
    (h : kd m a0 = some (oB 5) ∧ ∃ a2, gR m a0 7 = some a2 ∧ ∃ n5, kd m a2 = some (aR 0 n5) ∧ vp_in x1 n5 ∧ Q (.inl (some (vI ((gI m a2 x1.toNatClampNeg) + (3 : Int32))))) m) :
    CC l G xM_need [vR (some a0), vI x1] m Q := by
  refine x_entry (by decide +kernel) rfl hst (Nat.le_of_ble_eq_true rfl) (L0 := [some (vR (some a0)), some (vI x1)]) rfl ?_
  refine x_aload_n dM_need_0 rfl (n := 1) rfl ?_
  obtain ⟨k1, h⟩ := h
  refine x_getR rfl dM_need_1 fM_24 k1 (n := 4) rfl ?_
  refine x_iload_n dM_need_4 rfl (n := 5) rfl ?_
  obtain ⟨a2, e3, h⟩ := h
  obtain ⟨n5, k4, h⟩ := h
  obtain ⟨c6, h⟩ := h
  refine x_iald e3 dM_need_5 k4 c6 (n := 6) rfl ?_
  refine x_iconst (v := 3) dM_need_6 (by decide) (n := 7) rfl ?_
  refine x_iadd dM_need_7 (n := 8) rfl ?_
  exact x_iret dM_need_8 rfl h
set_option maxRecDepth 100000 in
set_option maxHeartbeats 4000000 in
theorem bM_makeRoom_39 {l : Launch} {G : xG} {m : XM} {bc bs : Nat} {Q : XR → XM → Prop} {a0 : Nat} {x1 : Int32}
    (h : kd m a0 = some (oB 5) ∧ CC l G xM_writeOpen [vR (some a0)] m (kV (fun m2 => kd m2 a0 = some (oB 5) ∧ CC l G xM_sortAgain [vR (some a0)] m2 (kV (fun m4 => WW l G xM_makeRoom 54 [some (vR (some a0)), some (vI x1), some (vI (gI m2 a0 20)), some (vI (0 : Int32))] [] m4 bc bs Q) Q)) Q)) :
    WW l G xM_makeRoom 39 [some (vR (some a0)), some (vI x1), none, none] [] m bc bs Q := by
  refine x_aload_n dM_makeRoom_39 rfl (n := 40) rfl ?_
  obtain ⟨k1, h⟩ := h
  refine x_invV (m := m) rfl dM_makeRoom_40 gM_makeRoom_40 (as := []) (st := []) rfl rfl k1 rfl rfl (Nat.le_of_ble_eq_true rfl) (n := 43) rfl rfl rfl h (xBk.V fun m2 h => ?_)
  refine x_aload_n dM_makeRoom_43 rfl (n := 44) rfl ?_
  obtain ⟨k3, h⟩ := h
  refine x_getI rfl dM_makeRoom_44 fM_86 k3 (n := 47) rfl ?_
  refine x_istore_n dM_makeRoom_47 (by decide) (L' := [some (vR (some a0)), some (vI x1), some (vI (gI m2 a0 20)), none]) rfl (n := 48) rfl ?_
  refine x_aload_n dM_makeRoom_48 rfl (n := 49) rfl ?_
  refine x_invV (m := m2) rfl dM_makeRoom_49 gM_makeRoom_49 (as := []) (st := []) rfl rfl k3 rfl rfl (Nat.le_of_ble_eq_true rfl) (n := 52) rfl rfl rfl h (xBk.V fun m4 h => ?_)
  refine x_iconst (v := 0) dM_makeRoom_52 (by decide) (n := 53) rfl ?_
  refine x_istore_n dM_makeRoom_53 (by decide) (L' := [some (vR (some a0)), some (vI x1), some (vI (gI m2 a0 20)), some (vI (0 : Int32))]) rfl (n := 54) rfl ?_
  exact h
set_option maxRecDepth 100000 in
set_option maxHeartbeats 4000000 in
theorem bM_makeRoom_54 {l : Launch} {G : xG} {m : XM} {bc bs : Nat} {Q : XR → XM → Prop} {a0 : Nat} {x1 : Int32} {x2 : Int32} {x3 : Int32}
    (h : ((x2 ≤ x3 → kd m a0 = some (oB 5) ∧ ∀ m2, m2 = mI m a0 20 (0 : Int32) → Q (.inl none) m2) ∧ (¬ x2 ≤ x3 → kd m a0 = some (oB 5) ∧ ∃ a4, gR m a0 21 = some a4 ∧ ∃ n7, kd m a4 = some (aR 0 n7) ∧ vp_in x3 n7 ∧ CC l G xM_putAnew [vR (some a0), vI (gI m a4 x3.toNatClampNeg)] m (kV (fun m9 => WW l G xM_makeRoom 54 [some (vR (some a0)), some (vI x1), some (vI x2), some (vI (x3 + 1))] [] m9 bc bs Q) Q)))) :
    WW l G xM_makeRoom 54 [some (vR (some a0)), some (vI x1), some (vI x2), some (vI x3)] [] m bc bs Q := by
  refine x_iload_n dM_makeRoom_54 rfl (n := 55) rfl ?_
  refine x_iload_n dM_makeRoom_55 rfl (n := 56) rfl ?_
  obtain ⟨h, h'⟩ := h
  refine x_icmp_ge (tgt := 75) dM_makeRoom_56 rfl (n := 59) rfl (fun c10 => ?_) (fun c10 => ?_)
  · replace h := h c10
    refine x_aload_n dM_makeRoom_75 rfl (n := 76) rfl ?_
    refine x_iconst (v := 0) dM_makeRoom_76 (by decide) (n := 77) rfl ?_
    obtain ⟨k1, h⟩ := h
    replace h := h _ rfl
    refine x_putI rfl dM_makeRoom_77 pM_86 k1 rfl rfl (n := 80) rfl ?_
    exact x_vret dM_makeRoom_80 rfl h
  · replace h := h' c10
    refine x_aload_n dM_makeRoom_59 rfl (n := 60) rfl ?_
    refine x_aload_n dM_makeRoom_60 rfl (n := 61) rfl ?_
    obtain ⟨k3, h⟩ := h
    refine x_getR rfl dM_makeRoom_61 fM_56 k3 (n := 64) rfl ?_
    refine x_iload_n dM_makeRoom_64 rfl (n := 65) rfl ?_
    obtain ⟨a4, e5, h⟩ := h
    obtain ⟨n7, k6, h⟩ := h
    obtain ⟨c8, h⟩ := h
    refine x_iald e5 dM_makeRoom_65 k6 c8 (n := 66) rfl ?_
    refine x_invV (m := m) rfl dM_makeRoom_66 gM_makeRoom_66 (as := [vI (gI m a4 x3.toNatClampNeg)]) (st := []) rfl rfl k3 rfl rfl (Nat.le_of_ble_eq_true rfl) (n := 69) rfl rfl rfl h (xBk.V fun m9 h => ?_)
    refine x_iinc (v := x3 + 1) dM_makeRoom_69 rfl rfl (by decide) (L' := [some (vR (some a0)), some (vI x1), some (vI x2), some (vI (x3 + 1))]) rfl (n := 72) rfl ?_
    refine x_goto (tgt := 54) dM_makeRoom_72 rfl ?_
    exact h
set_option maxRecDepth 100000 in
set_option maxHeartbeats 4000000 in
theorem bM_makeRoom {l : Launch} {G : xG} {m : XM} {Q : XR → XM → Prop} {a0 : Nat} (hst : l.stackTraces = false)
    (h : kd m a0 = some (oB 5) ∧ ∀ m2, m2 = mI m a0 20 (0 : Int32) → ((¬ ((gI m2 a0 16) - (gI m2 a0 16) / (4 : Int32) * (4 : Int32)) = 0 → WW l G xM_makeRoom 39 [some (vR (some a0)), some (vI ((64 : Int32) + ((gI m a0 16) - (gI m a0 16) / (32 : Int32) * (32 : Int32)))), none, none] [] m2 0 0 Q) ∧ (((gI m2 a0 16) - (gI m2 a0 16) / (4 : Int32) * (4 : Int32)) = 0 → (((gI m2 a0 16) < (32 : Int32) → WW l G xM_makeRoom 39 [some (vR (some a0)), some (vI ((64 : Int32) + ((gI m a0 16) - (gI m a0 16) / (32 : Int32) * (32 : Int32)))), none, none] [] m2 0 0 Q) ∧ (¬ (gI m2 a0 16) < (32 : Int32) → CC l G xM_empty [vR (some a0), vI ((64 : Int32) + ((gI m a0 16) - (gI m a0 16) / (32 : Int32) * (32 : Int32)))] m2 (kV (fun m3 => WW l G xM_makeRoom 39 [some (vR (some a0)), some (vI ((64 : Int32) + ((gI m a0 16) - (gI m a0 16) / (32 : Int32) * (32 : Int32)))), none, none] [] m3 0 0 Q) Q)))))) :
    CC l G xM_makeRoom [vR (some a0)] m Q := by
  refine x_entry (by decide +kernel) rfl hst (Nat.le_of_ble_eq_true rfl) (L0 := [some (vR (some a0)), none, none, none]) rfl ?_
  refine x_bipush (v := 64) dM_makeRoom_0 (by decide) (n := 2) rfl ?_
  refine x_aload_n dM_makeRoom_2 rfl (n := 3) rfl ?_
  obtain ⟨k1, h⟩ := h
  refine x_getI rfl dM_makeRoom_3 fM_96 k1 (n := 6) rfl ?_
  refine x_bipush (v := 32) dM_makeRoom_6 (by decide) (n := 8) rfl ?_
  refine x_irem dM_makeRoom_8 (by decide) (n := 9) rfl ?_
  refine x_iadd dM_makeRoom_9 (n := 10) rfl ?_
  refine x_istore_n dM_makeRoom_10 (by decide) (L' := [some (vR (some a0)), some (vI ((64 : Int32) + ((gI m a0 16) - (gI m a0 16) / (32 : Int32) * (32 : Int32)))), none, none]) rfl (n := 11) rfl ?_
  refine x_aload_n dM_makeRoom_11 rfl (n := 12) rfl ?_
  refine x_iconst (v := 0) dM_makeRoom_12 (by decide) (n := 13) rfl ?_
  replace h := h _ rfl
  refine x_putI rfl dM_makeRoom_13 pM_86 k1 rfl rfl (n := 16) rfl ?_
  refine x_aload_n dM_makeRoom_16 rfl (n := 17) rfl ?_
  refine x_getI rfl dM_makeRoom_17 fM_96 k1 (n := 20) rfl ?_
  refine x_iconst (v := 4) dM_makeRoom_20 (by decide) (n := 21) rfl ?_
  refine x_irem dM_makeRoom_21 (by decide) (n := 22) rfl ?_
  obtain ⟨h, h'⟩ := h
  refine x_if_ne (tgt := 39) dM_makeRoom_22 rfl (n := 25) rfl (fun c5 => ?_) (fun c5 => ?_)
  · replace h := h c5
    exact h
  · replace h := h' c5
    refine x_aload_n dM_makeRoom_25 rfl (n := 26) rfl ?_
    refine x_getI rfl dM_makeRoom_26 fM_96 k1 (n := 29) rfl ?_
    refine x_bipush (v := 32) dM_makeRoom_29 (by decide) (n := 31) rfl ?_
    obtain ⟨h, h'⟩ := h
    refine x_icmp_lt (tgt := 39) dM_makeRoom_31 rfl (n := 34) rfl (fun c4 => ?_) (fun c4 => ?_)
    · replace h := h c4
      exact h
    · replace h := h' c4
      refine x_aload_n dM_makeRoom_34 rfl (n := 35) rfl ?_
      refine x_iload_n dM_makeRoom_35 rfl (n := 36) rfl ?_
      refine x_invV (m := (mI m a0 20 (0 : Int32))) rfl dM_makeRoom_36 gM_makeRoom_36 (as := [vI ((64 : Int32) + ((gI m a0 16) - (gI m a0 16) / (32 : Int32) * (32 : Int32)))]) (st := []) rfl rfl k1 rfl rfl (Nat.le_of_ble_eq_true rfl) (n := 39) rfl rfl rfl h (xBk.V fun m3 h => ?_)
      exact h
set_option maxRecDepth 100000 in
set_option maxHeartbeats 4000000 in
theorem bM_empty_2 {l : Launch} {G : xG} {m : XM} {bc bs : Nat} {Q : XR → XM → Prop} {a0 : Nat} {x1 : Int32} {x2 : Int32}
    (h : (((64 : Int32) ≤ x2 → WW l G xM_empty 23 [some (vR (some a0)), some (vI x1), some (vI x1), none] [] m bc bs Q) ∧ (¬ (64 : Int32) ≤ x2 → kd m a0 = some (oB 5) ∧ ∃ a2, gR m a0 22 = some a2 ∧ ∃ n5, kd m a2 = some (aR 1 n5) ∧ vp_in x2 n5 ∧ ∀ m7, m7 = mI m a2 x2.toNatClampNeg (0 : Int32) → WW l G xM_empty 2 [some (vR (some a0)), some (vI x1), some (vI (x2 + 1)), none] [] m7 bc bs Q))) :
    WW l G xM_empty 2 [some (vR (some a0)), some (vI x1), some (vI x2), none] [] m bc bs Q := by
  refine x_iload_n dM_empty_2 rfl (n := 3) rfl ?_
  refine x_bipush (v := 64) dM_empty_3 (by decide) (n := 5) rfl ?_
  obtain ⟨h, h'⟩ := h
  refine x_icmp_ge (tgt := 21) dM_empty_5 rfl (n := 8) rfl (fun c8 => ?_) (fun c8 => ?_)
  · replace h := h c8
    refine x_iload_n dM_empty_21 rfl (n := 22) rfl ?_
    refine x_istore_n dM_empty_22 (by decide) (L' := [some (vR (some a0)), some (vI x1), some (vI x1), none]) rfl (n := 23) rfl ?_
    exact h
  · replace h := h' c8
    refine x_aload_n dM_empty_8 rfl (n := 9) rfl ?_
    obtain ⟨k1, h⟩ := h
    refine x_getR rfl dM_empty_9 fM_59 k1 (n := 12) rfl ?_
    refine x_iload_n dM_empty_12 rfl (n := 13) rfl ?_
    refine x_iconst (v := 0) dM_empty_13 (by decide) (n := 14) rfl ?_
    obtain ⟨a2, e3, h⟩ := h
    obtain ⟨n5, k4, h⟩ := h
    obtain ⟨c6, h⟩ := h
    replace h := h _ rfl
    refine x_zast e3 dM_empty_14 k4 c6 (by decide) (n := 15) rfl ?_
    refine x_iinc (v := x2 + 1) dM_empty_15 rfl rfl (by decide) (L' := [some (vR (some a0)), some (vI x1), some (vI (x2 + 1)), none]) rfl (n := 18) rfl ?_
    refine x_goto (tgt := 2) dM_empty_18 rfl ?_
    exact h
set_option maxRecDepth 100000 in
set_option maxHeartbeats 4000000 in
theorem bM_empty_23 {l : Launch} {G : xG} {m : XM} {bc bs : Nat} {Q : XR → XM → Prop} {a0 : Nat} {x1 : Int32} {x2 : Int32}
    (h : (((x1 + (4 : Int32)) ≤ x2 → WW l G xM_empty 100 [some (vR (some a0)), some (vI x1), some (vI (0 : Int32)), none] [] m bc bs Q) ∧ (¬ (x1 + (4 : Int32)) ≤ x2 → WW l G xM_empty 32 [some (vR (some a0)), some (vI x1), some (vI x2), some (vI (0 : Int32))] [] m bc bs Q))) :
    WW l G xM_empty 23 [some (vR (some a0)), some (vI x1), some (vI x2), none] [] m bc bs Q := by
  refine x_iload_n dM_empty_23 rfl (n := 24) rfl ?_
  refine x_iload_n dM_empty_24 rfl (n := 25) rfl ?_
  refine x_iconst (v := 4) dM_empty_25 (by decide) (n := 26) rfl ?_
  refine x_iadd dM_empty_26 (n := 27) rfl ?_
  obtain ⟨h, h'⟩ := h
  refine x_icmp_ge (tgt := 98) dM_empty_27 rfl (n := 30) rfl (fun c1 => ?_) (fun c1 => ?_)
  · replace h := h c1
    refine x_iconst (v := 0) dM_empty_98 (by decide) (n := 99) rfl ?_
    refine x_istore_n dM_empty_99 (by decide) (L' := [some (vR (some a0)), some (vI x1), some (vI (0 : Int32)), none]) rfl (n := 100) rfl ?_
    exact h
  · replace h := h' c1
    refine x_iconst (v := 0) dM_empty_30 (by decide) (n := 31) rfl ?_
    refine x_istore_n dM_empty_31 (by decide) (L' := [some (vR (some a0)), some (vI x1), some (vI x2), some (vI (0 : Int32))]) rfl (n := 32) rfl ?_
    exact h
set_option maxRecDepth 100000 in
set_option maxHeartbeats 4000000 in
theorem bM_empty_32 {l : Launch} {G : xG} {m : XM} {bc bs : Nat} {Q : XR → XM → Prop} {a0 : Nat} {x1 : Int32} {x2 : Int32} {x3 : Int32}
    (h : kd m a0 = some (oB 5) ∧ ∃ a2, gR m a0 14 = some a2 ∧ ∃ n5, kd m a2 = some (aR 0 n5) ∧ vp_in x2 n5 ∧ (((gI m a2 x2.toNatClampNeg) ≤ x3 → WW l G xM_empty 23 [some (vR (some a0)), some (vI x1), some (vI (x2 + 1)), none] [] m bc bs Q) ∧ (¬ (gI m a2 x2.toNatClampNeg) ≤ x3 → ∃ a7, gR m a0 15 = some a7 ∧ ∃ n10, kd m a7 = some (aR 0 n10) ∧ vp_in (((8 : Int32) * x2) + x3) n10 ∧ ∃ a12, gR m a0 9 = some a12 ∧ ∃ n15, kd m a12 = some (aR 1 n15) ∧ vp_in (gI m a7 (((8 : Int32) * x2) + x3).toNatClampNeg) n15 ∧ (((gI m a12 (gI m a7 (((8 : Int32) * x2) + x3).toNatClampNeg).toNatClampNeg) = 0 → WW l G xM_empty 32 [some (vR (some a0)), some (vI x1), some (vI x2), some (vI (x3 + 1))] [] m bc bs Q) ∧ (¬ (gI m a12 (gI m a7 (((8 : Int32) * x2) + x3).toNatClampNeg).toNatClampNeg) = 0 → vp_in (((8 : Int32) * x2) + x3) n10 ∧ ∃ a18, gR m a0 6 = some a18 ∧ ∃ n21, kd m a18 = some (aR 2 n21) ∧ vp_in (gI m a7 (((8 : Int32) * x2) + x3).toNatClampNeg) n21 ∧ CC l G xM_setOfKey [vL (gL m a18 (gI m a7 (((8 : Int32) * x2) + x3).toNatClampNeg).toNatClampNeg)] m (kI (fun v24 m23 => ∃ a25, gR m a0 22 = some a25 ∧ ∃ n28, kd m23 a25 = some (aR 1 n28) ∧ vp_in v24 n28 ∧ ∀ m30, m30 = mI m23 a25 v24.toNatClampNeg (1 : Int32) → WW l G xM_empty 32 [some (vR (some a0)), some (vI x1), some (vI x2), some (vI (x3 + 1))] [] m30 bc bs Q) Q)))))) :
    WW l G xM_empty 32 [some (vR (some a0)), some (vI x1), some (vI x2), some (vI x3)] [] m bc bs Q := by
  refine x_iload_n dM_empty_32 rfl (n := 33) rfl ?_
  refine x_aload_n dM_empty_33 rfl (n := 34) rfl ?_
  obtain ⟨k1, h⟩ := h
  refine x_getR rfl dM_empty_34 fM_44 k1 (n := 37) rfl ?_
  refine x_iload_n dM_empty_37 rfl (n := 38) rfl ?_
  obtain ⟨a2, e3, h⟩ := h
  obtain ⟨n5, k4, h⟩ := h
  obtain ⟨c6, h⟩ := h
  refine x_iald e3 dM_empty_38 k4 c6 (n := 39) rfl ?_
  obtain ⟨h, h'⟩ := h
  refine x_icmp_ge (tgt := 92) dM_empty_39 rfl (n := 42) rfl (fun c32 => ?_) (fun c32 => ?_)
  · replace h := h c32
    refine x_iinc (v := x2 + 1) dM_empty_92 rfl rfl (by decide) (L' := [some (vR (some a0)), some (vI x1), some (vI (x2 + 1)), some (vI x3)]) rfl (n := 95) rfl ?_
    refine x_goto (tgt := 23) dM_empty_95 rfl ?_
    exact x_weak (b := [true, true, true, false]) rfl h
  · replace h := h' c32
    refine x_aload_n dM_empty_42 rfl (n := 43) rfl ?_
    refine x_getR rfl dM_empty_43 fM_31 k1 (n := 46) rfl ?_
    refine x_aload_n dM_empty_46 rfl (n := 47) rfl ?_
    refine x_getR rfl dM_empty_47 fM_47 k1 (n := 50) rfl ?_
    refine x_bipush (v := 8) dM_empty_50 (by decide) (n := 52) rfl ?_
    refine x_iload_n dM_empty_52 rfl (n := 53) rfl ?_
    refine x_imul dM_empty_53 (n := 54) rfl ?_
    refine x_iload_n dM_empty_54 rfl (n := 55) rfl ?_
    refine x_iadd dM_empty_55 (n := 56) rfl ?_
    obtain ⟨a7, e8, h⟩ := h
    obtain ⟨n10, k9, h⟩ := h
    obtain ⟨c11, h⟩ := h
    refine x_iald e8 dM_empty_56 k9 c11 (n := 57) rfl ?_
    obtain ⟨a12, e13, h⟩ := h
    obtain ⟨n15, k14, h⟩ := h
    obtain ⟨c16, h⟩ := h
    refine x_zald e13 dM_empty_57 k14 c16 (n := 58) rfl ?_
    obtain ⟨h, h'⟩ := h
    refine x_if_eq (tgt := 86) dM_empty_58 rfl (n := 61) rfl (fun c31 => ?_) (fun c31 => ?_)
    · replace h := h c31
      refine x_iinc (v := x3 + 1) dM_empty_86 rfl rfl (by decide) (L' := [some (vR (some a0)), some (vI x1), some (vI x2), some (vI (x3 + 1))]) rfl (n := 89) rfl ?_
      refine x_goto (tgt := 32) dM_empty_89 rfl ?_
      exact h
    · replace h := h' c31
      refine x_aload_n dM_empty_61 rfl (n := 62) rfl ?_
      refine x_getR rfl dM_empty_62 fM_59 k1 (n := 65) rfl ?_
      refine x_aload_n dM_empty_65 rfl (n := 66) rfl ?_
      refine x_getR rfl dM_empty_66 fM_20 k1 (n := 69) rfl ?_
      refine x_aload_n dM_empty_69 rfl (n := 70) rfl ?_
      refine x_getR rfl dM_empty_70 fM_47 k1 (n := 73) rfl ?_
      refine x_bipush (v := 8) dM_empty_73 (by decide) (n := 75) rfl ?_
      refine x_iload_n dM_empty_75 rfl (n := 76) rfl ?_
      refine x_imul dM_empty_76 (n := 77) rfl ?_
      refine x_iload_n dM_empty_77 rfl (n := 78) rfl ?_
      refine x_iadd dM_empty_78 (n := 79) rfl ?_
      obtain ⟨c17, h⟩ := h
      refine x_iald e8 dM_empty_79 k9 c17 (n := 80) rfl ?_
      obtain ⟨a18, e19, h⟩ := h
      obtain ⟨n21, k20, h⟩ := h
      obtain ⟨c22, h⟩ := h
      refine x_lald e19 dM_empty_80 k20 c22 (n := 81) rfl ?_
      refine x_invS (m := m) dM_empty_81 gM_empty_81 (as := [vL (gL m a18 (gI m a7 (((8 : Int32) * x2) + x3).toNatClampNeg).toNatClampNeg)]) (st := [vR (gR m a0 22)]) rfl rfl (Nat.le_of_ble_eq_true rfl) (n := 84) rfl rfl rfl h (xBk.I fun v24 m23 h => ?_)
      refine x_iconst (v := 1) dM_empty_84 (by decide) (n := 85) rfl ?_
      obtain ⟨a25, e26, h⟩ := h
      obtain ⟨n28, k27, h⟩ := h
      obtain ⟨c29, h⟩ := h
      replace h := h _ rfl
      refine x_zast e26 dM_empty_85 k27 c29 (by decide) (n := 86) rfl ?_
      refine x_iinc (v := x3 + 1) dM_empty_86 rfl rfl (by decide) (L' := [some (vR (some a0)), some (vI x1), some (vI x2), some (vI (x3 + 1))]) rfl (n := 89) rfl ?_
      refine x_goto (tgt := 32) dM_empty_89 rfl ?_
      exact h
set_option maxRecDepth 100000 in
set_option maxHeartbeats 4000000 in
theorem bM_empty_100 {l : Launch} {G : xG} {m : XM} {bc bs : Nat} {Q : XR → XM → Prop} {a0 : Nat} {x1 : Int32} {x2 : Int32}
    (h : (((64 : Int32) ≤ x2 → kd m a0 = some (oB 5) ∧ ∀ m2, m2 = mI m a0 18 (0 : Int32) → Q (.inl none) m2) ∧ (¬ (64 : Int32) ≤ x2 → kd m a0 = some (oB 5) ∧ ∃ a4, gR m a0 22 = some a4 ∧ ∃ n7, kd m a4 = some (aR 1 n7) ∧ vp_in x2 n7 ∧ (((gI m a4 x2.toNatClampNeg) = 0 → WW l G xM_empty 100 [some (vR (some a0)), some (vI x1), some (vI (x2 + 1)), none] [] m bc bs Q) ∧ (¬ (gI m a4 x2.toNatClampNeg) = 0 → CC l G xM_gatherAll [vR (some a0), vI x2] m (kV (fun m9 => kd m9 a0 = some (oB 5) ∧ (((gI m9 a0 18) ≤ (1 : Int32) → ∃ a11, gR m9 a0 19 = some a11 ∧ ∃ n14, kd m9 a11 = some (aR 0 n14) ∧ vp_in (0 : Int32) n14 ∧ CC l G xM_alone [vR (some a0), vI x2, vI (gI m9 a11 (0 : Int32).toNatClampNeg)] m9 (kV (fun m16 => WW l G xM_empty 100 [some (vR (some a0)), some (vI x1), some (vI (x2 + 1)), none] [] m16 bc bs Q) Q)) ∧ (¬ (gI m9 a0 18) ≤ (1 : Int32) → CC l G xM_moveAll [vR (some a0), vI x2] m9 (kV (fun m17 => WW l G xM_empty 100 [some (vR (some a0)), some (vI x1), some (vI (x2 + 1)), none] [] m17 bc bs Q) Q)))) Q)))))) :
    WW l G xM_empty 100 [some (vR (some a0)), some (vI x1), some (vI x2), none] [] m bc bs Q := by
  refine x_iload_n dM_empty_100 rfl (n := 101) rfl ?_
  refine x_bipush (v := 64) dM_empty_101 (by decide) (n := 103) rfl ?_
  obtain ⟨h, h'⟩ := h
  refine x_icmp_ge (tgt := 153) dM_empty_103 rfl (n := 106) rfl (fun c20 => ?_) (fun c20 => ?_)
  · replace h := h c20
    refine x_aload_n dM_empty_153 rfl (n := 154) rfl ?_
    refine x_iconst (v := 0) dM_empty_154 (by decide) (n := 155) rfl ?_
    obtain ⟨k1, h⟩ := h
    replace h := h _ rfl
    refine x_putI rfl dM_empty_155 pM_83 k1 rfl rfl (n := 158) rfl ?_
    exact x_vret dM_empty_158 rfl h
  · replace h := h' c20
    refine x_aload_n dM_empty_106 rfl (n := 107) rfl ?_
    obtain ⟨k3, h⟩ := h
    refine x_getR rfl dM_empty_107 fM_59 k3 (n := 110) rfl ?_
    refine x_iload_n dM_empty_110 rfl (n := 111) rfl ?_
    obtain ⟨a4, e5, h⟩ := h
    obtain ⟨n7, k6, h⟩ := h
    obtain ⟨c8, h⟩ := h
    refine x_zald e5 dM_empty_111 k6 c8 (n := 112) rfl ?_
    obtain ⟨h, h'⟩ := h
    refine x_if_eq (tgt := 147) dM_empty_112 rfl (n := 115) rfl (fun c19 => ?_) (fun c19 => ?_)
    · replace h := h c19
      refine x_iinc (v := x2 + 1) dM_empty_147 rfl rfl (by decide) (L' := [some (vR (some a0)), some (vI x1), some (vI (x2 + 1)), none]) rfl (n := 150) rfl ?_
      refine x_goto (tgt := 100) dM_empty_150 rfl ?_
      exact h
    · replace h := h' c19
      refine x_aload_n dM_empty_115 rfl (n := 116) rfl ?_
      refine x_iload_n dM_empty_116 rfl (n := 117) rfl ?_
      refine x_invV (m := m) rfl dM_empty_117 gM_empty_117 (as := [vI x2]) (st := []) rfl rfl k3 rfl rfl (Nat.le_of_ble_eq_true rfl) (n := 120) rfl rfl rfl h (xBk.V fun m9 h => ?_)
      refine x_aload_n dM_empty_120 rfl (n := 121) rfl ?_
      obtain ⟨k10, h⟩ := h
      refine x_getI rfl dM_empty_121 fM_83 k10 (n := 124) rfl ?_
      refine x_iconst (v := 1) dM_empty_124 (by decide) (n := 125) rfl ?_
      obtain ⟨h, h'⟩ := h
      refine x_icmp_le (tgt := 136) dM_empty_125 rfl (n := 128) rfl (fun c18 => ?_) (fun c18 => ?_)
      · replace h := h c18
        refine x_aload_n dM_empty_136 rfl (n := 137) rfl ?_
        refine x_iload_n dM_empty_137 rfl (n := 138) rfl ?_
        refine x_aload_n dM_empty_138 rfl (n := 139) rfl ?_
        refine x_getR rfl dM_empty_139 fM_53 k10 (n := 142) rfl ?_
        refine x_iconst (v := 0) dM_empty_142 (by decide) (n := 143) rfl ?_
        obtain ⟨a11, e12, h⟩ := h
        obtain ⟨n14, k13, h⟩ := h
        obtain ⟨c15, h⟩ := h
        refine x_iald e12 dM_empty_143 k13 c15 (n := 144) rfl ?_
        refine x_invV (m := m9) rfl dM_empty_144 gM_empty_144 (as := [vI x2, vI (gI m9 a11 (0 : Int32).toNatClampNeg)]) (st := []) rfl rfl k10 rfl rfl (Nat.le_of_ble_eq_true rfl) (n := 147) rfl rfl rfl h (xBk.V fun m16 h => ?_)
        refine x_iinc (v := x2 + 1) dM_empty_147 rfl rfl (by decide) (L' := [some (vR (some a0)), some (vI x1), some (vI (x2 + 1)), none]) rfl (n := 150) rfl ?_
        refine x_goto (tgt := 100) dM_empty_150 rfl ?_
        exact h
      · replace h := h' c18
        refine x_aload_n dM_empty_128 rfl (n := 129) rfl ?_
        refine x_iload_n dM_empty_129 rfl (n := 130) rfl ?_
        refine x_invV (m := m9) rfl dM_empty_130 gM_empty_130 (as := [vI x2]) (st := []) rfl rfl k10 rfl rfl (Nat.le_of_ble_eq_true rfl) (n := 133) rfl rfl rfl h (xBk.V fun m17 h => ?_)
        refine x_goto (tgt := 147) dM_empty_133 rfl ?_
        refine x_iinc (v := x2 + 1) dM_empty_147 rfl rfl (by decide) (L' := [some (vR (some a0)), some (vI x1), some (vI (x2 + 1)), none]) rfl (n := 150) rfl ?_
        refine x_goto (tgt := 100) dM_empty_150 rfl ?_
        exact h
set_option maxRecDepth 100000 in
set_option maxHeartbeats 4000000 in
theorem bM_empty {l : Launch} {G : xG} {m : XM} {Q : XR → XM → Prop} {a0 : Nat} {x1 : Int32} (hst : l.stackTraces = false)
    (h : WW l G xM_empty 2 [some (vR (some a0)), some (vI x1), some (vI (0 : Int32)), none] [] m 0 0 Q) :
    CC l G xM_empty [vR (some a0), vI x1] m Q := by
  refine x_entry (by decide +kernel) rfl hst (Nat.le_of_ble_eq_true rfl) (L0 := [some (vR (some a0)), some (vI x1), none, none]) rfl ?_
  refine x_iconst (v := 0) dM_empty_0 (by decide) (n := 1) rfl ?_
  refine x_istore_n dM_empty_1 (by decide) (L' := [some (vR (some a0)), some (vI x1), some (vI (0 : Int32)), none]) rfl (n := 2) rfl ?_
  exact h
set_option maxRecDepth 100000 in
set_option maxHeartbeats 4000000 in
theorem bM_setOfKey {l : Launch} {G : xG} {m : XM} {Q : XR → XM → Prop} {x0 : Int64} (hst : l.stackTraces = false)
    (h : CC l G xM_mixed [vL x0] m (kL (fun v2 m1 => Q (.inl (some (vI ((jushr v2 (58 : Int32)).toInt32)))) m1) Q)) :
    CC l G xM_setOfKey [vL x0] m Q := by
  refine x_entry (by decide +kernel) rfl hst (Nat.le_of_ble_eq_true rfl) (L0 := [some (vL x0), none]) rfl ?_
  refine x_lload_n dM_setOfKey_0 rfl (n := 1) rfl ?_
  refine x_invS (m := m) dM_setOfKey_1 gM_setOfKey_1 (as := [vL x0]) (st := []) rfl rfl (Nat.le_of_ble_eq_true rfl) (n := 4) rfl rfl rfl h (xBk.J fun v2 m1 h => ?_)
  refine x_bipush (v := 58) dM_setOfKey_4 (by decide) (n := 6) rfl ?_
  refine x_lushr dM_setOfKey_6 (n := 7) rfl ?_
  refine x_l2i dM_setOfKey_7 (n := 8) rfl ?_
  exact x_iret dM_setOfKey_8 rfl h
