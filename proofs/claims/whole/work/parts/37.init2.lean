/-! a new cache: the log, the whole -/
def LgN (m m' : XM) (g aa : Nat) (P PA : Nat → Nat) (ix ia ps op opa : Nat) : Prop := gR m' g 0 = some aa ∧ m'.1 aa = some (aR 4 32) ∧ m.1 aa = none ∧ NP m m' aa P PA 32 ∧ gR m' g 1 = some ix ∧ IxOK m' ix ia ps [] ∧ m.1 ix = none ∧ m.1 ia = none ∧ m.1 ps = none ∧ gR m' g 2 = some op ∧ PgOK m' op opa [] ∧ m.1 op = none ∧ m.1 opa = none ∧ (∀ j, j < 32 → op ≠ P j ∧ opa ≠ PA j) ∧ gI m' g 3 = 0
section L2R
variable {l : Launch} {G : xG} {Q : XR → XM → Prop} {F F' : Nat → Prop} {m m' m'' : XM} {a p pa g : Nat} {k : XKd}
theorem mR_ref {i : Nat} {v : Option Nat} : (mR m a i v).2.2.2 a = up (m.2.2.2 a) i v := by
  funext j
  by_cases q : j = i <;> simp [mR, up, q]
theorem mR_ne {i b : Nat} {v : Option Nat} (h : b ≠ a) : (mR m a i v).2.2.2 b = m.2.2.2 b := by
  funext j
  simp [mR, h]
theorem Nx.f0 (h : Nx (fun _ => False) m m') : Nx F m m' := h.mono (fun _ _ q => q.elim)
theorem Nx.own (h : Nx (fun x => x = a) m m') (ha : m.1 a = none) : Nx F m m' := h.mono (fun x hx q => absurd (by rw [q]; exact ha) hx)
theorem NP.nx {aa i : Nat} {P PA : Nat → Nat} {m0 : XM} (h : NP m0 m aa P PA i) (haa : m.1 aa = some k) (hx : Nx F m m') (hF : ∀ x, F x → m0.1 x ≠ none) (h0 : m0.1 aa = none) : NP m0 m' aa P PA i := by
  refine ⟨fun j hj => ?_, h.2⟩
  obtain ⟨q1, q2, q3, q4⟩ := h.1 j hj
  refine ⟨?_, q2.nx hx (fun r => hF _ r q3) (fun r => hF _ r q4), q3, q4⟩
  show m'.2.2.2 aa j = _
  rw [(hx.at haa (fun r => hF _ r h0)).2.2]
  exact q1
theorem c_Ginit (hst : l.stackTraces = false) (h : kd m g = some (oB 2)) (hq : ∀ m' aa P PA ix ia ps op opa, Nx (fun x => x = g) m m' → LgN m m' g aa P PA ix ia ps op opa → Q (.inl none) m') : CC l G xG_init [vR (some g)] m Q := by
  refine bG_init hst ⟨5, 343, rfl, rfl, c_newPages (n := 32) hst (by omega) (fun m5 aa P PA haa kaa x5 np => ?_)⟩
  have g5 : m5.1 g = some (oB 2) := x5.kd h
  have gm : m.1 g ≠ none := by rw [show m.1 g = _ from h]; exact Option.some_ne_none _
  refine ⟨g5, fun m8 hm8 => ⟨4, 340, rfl, rfl, fun ix hix m15 hm15 => ⟨2, 12, rfl, rfl, ?_⟩⟩⟩
  have x8 : Nx (fun x => x = g) m5 m8 := by rw [hm8]; exact Nx.fr (frR _ _ rfl)
  have hix8 : m8.1 ix = none := by rw [hm8]; exact hix
  have x15 : Nx (fun x => x = g) m8 m15 := by rw [hm15]; exact Nx.new hix8 (by decide)
  have k15 : m15.1 ix = some (oB 0) := by rw [hm15]; simp [mN]
  have nig : ix ≠ g := fun r => by rw [r, show kd m5 g = _ from g5] at hix; cases hix
  refine c_Iinit hst k15 (fun m22 ia ps hia hps x22 i22 => ?_)
  have x22' : Nx (fun x => x = g) m8 m22 := by
    refine ⟨fun x hx => by rw [x22.1 x (by rw [x15.1 x hx]; exact hx), x15.1 x hx], fun x hx hF => ?_, fun x hx => x15.2.2 x (x22.2.2 x hx)⟩
    obtain ⟨q1, q2, q3⟩ := x15.2.1 x hx hF
    obtain ⟨r1, r2, r3⟩ := x22.2.1 x (by rw [x15.1 x hx]; exact hx) (fun r => hx (by rw [r]; exact hix8))
    exact ⟨r1.trans q1, r2.trans q2, r3.trans q3⟩
  have g22 : m22.1 g = some (oB 2) := x22'.kd (x8.kd g5)
  refine ⟨g22, fun m24 hm24 => ⟨1, 8, rfl, rfl, fun op hop m31 hm31 => ⟨0, 0, rfl, rfl, ?_⟩⟩⟩
  have x24 : Nx (fun x => x = g) m22 m24 := by rw [hm24]; exact Nx.fr (frR _ _ rfl)
  have hop24 : m24.1 op = none := by rw [hm24]; exact hop
  have x31 : Nx (fun x => x = g) m24 m31 := by rw [hm31]; exact Nx.new hop24 (by decide)
  have k31 : m31.1 op = some (oB 3) := by rw [hm31]; simp [mN]
  have nog : op ≠ g := fun r => by rw [r, show kd m22 g = _ from g22] at hop; cases hop
  refine c_Pinit hst k31 (fun m38 opa hopa x38 p38 => ?_)
  have x38' : Nx (fun x => x = g) m24 m38 := by
    refine ⟨fun x hx => by rw [x38.1 x (by rw [x31.1 x hx]; exact hx), x31.1 x hx], fun x hx hF => ?_, fun x hx => x31.2.2 x (x38.2.2 x hx)⟩
    obtain ⟨q1, q2, q3⟩ := x31.2.1 x hx hF
    obtain ⟨r1, r2, r3⟩ := x38.2.1 x (by rw [x31.1 x hx]; exact hx) (fun r => hx (by rw [r]; exact hop24))
    exact ⟨r1.trans q1, r2.trans q2, r3.trans q3⟩
  have g38 : m38.1 g = some (oB 2) := x38'.kd (x24.kd g22)
  refine ⟨g38, fun m40 hm40 m41 hm41 => ?_⟩
  have x41 : Nx (fun x => x = g) m38 m41 := by
    rw [hm41, hm40]
    exact Nx.fr (Fr.tr (F := fun x => x = g) (frR (F := fun x => x = g) _ _ rfl) (frI (F := fun x => x = g) _ _ rfl))
  have y8 : Nx (fun x => x = g) m m8 := (Nx.f0 x5).tr x8
  have y22 := y8.tr x22'
  have y24 := y22.tr x24
  have y38 := y24.tr x38'
  have y41 := y38.tr x41
  have z5 : Nx (fun x => x = g) m5 m41 := (((x8.tr x22').tr x24).tr x38').tr x41
  have z22 : Nx (fun x => x = g) m22 m41 := (x24.tr x38').tr x41
  have hF : ∀ x, (fun x => x = g) x → m.1 x ≠ none := fun x r => by rw [show x = g from r]; exact gm
  have nag : aa ≠ g := fun r => gm (by rw [← r]; exact haa)
  have hia0 : m.1 ia = none := y8.non (x15.non hia)
  have hps0 : m.1 ps = none := y8.non (x15.non hps)
  have hop0 : m.1 op = none := y24.non hop24
  have hopa0 : m.1 opa = none := y24.non (x31.non hopa)
  have hix0 : m.1 ix = none := y8.non hix8
  have ngo : ∀ {x}, m.1 x = none → ¬ x = g := fun hx r => gm (by rw [← r]; exact hx)
  have e8 : m8.2.2.2 g = up (m5.2.2.2 g) 0 (some aa) := by rw [hm8]; exact mR_ref
  have e22 : m22.2.2.2 g = m8.2.2.2 g := by
    have h15 : m15.2.2.2 g = m8.2.2.2 g := by rw [hm15]; funext t; simp [mN, Ne.symm nig]
    rw [(x22.2.1 g (by rw [x15.kd (x8.kd g5)]; exact Option.some_ne_none _) (Ne.symm nig)).2.2, h15]
  have e24 : m24.2.2.2 g = up (m22.2.2.2 g) 1 (some ix) := by rw [hm24]; exact mR_ref
  have e38 : m38.2.2.2 g = m24.2.2.2 g := by
    have h31 : m31.2.2.2 g = m24.2.2.2 g := by rw [hm31]; funext t; simp [mN, Ne.symm nog]
    rw [(x38.2.1 g (by rw [x31.kd (x24.kd g22)]; exact Option.some_ne_none _) (Ne.symm nog)).2.2, h31]
  have e41 : m41.2.2.2 g = up (m38.2.2.2 g) 2 (some op) := by rw [hm41, hm40]; exact mR_ref
  refine hq m41 aa P PA ix ia ps op opa y41 ⟨?_, z5.kd kaa, haa, np.nx kaa z5 hF haa, ?_, i22.nx z22 (ngo hix0) (ngo hia0) (ngo hps0), hix0, hia0, hps0, ?_, p38.nx x41 (ngo hop0) (ngo hopa0), hop0, hopa0, fun j hj => ⟨fun r => ?_, fun r => ?_⟩, ?_⟩
  · show m41.2.2.2 g 0 = _
    rw [e41, e38, e24, e22, e8]
    rfl
  · show m41.2.2.2 g 1 = _
    rw [e41, e38, e24]
    rfl
  · show m41.2.2.2 g 2 = _
    rw [e41]
    rfl
  · have := ((x8.tr x22').tr x24).kd (np.1 j hj).2.1.1
    rw [← r, hop24] at this
    cases this
  · have := (((x8.tr x22').tr x24).tr x31).kd (np.1 j hj).2.1.2.2.1
    rw [← r, hopa] at this
    cases this
  · rw [hm41]
    simp [gI, mI]
def kL' (xs : List Nat) : Nat → Nat := fun i => xs.getD i 0
theorem c_Cinit (hst : l.stackTraces = false) (h : kd m a = some (oB 4)) (hq : ∀ m' K ar pg c fg fp, K 0 = a → Nx (fun x => x = a) m m' → CR K ar m' pg (fun _ => []) [] c fg fp (aCra 0) m' → (∀ i, 1 ≤ i → i < 11 → m.1 (K i) = none) → (∀ i, m'.2.1 (K 1) i = 0) → m'.2.2.2 a 6 = none → m'.2.1 a 7 = 1 → Q (.inl none) m') : CC l G xC_init [vR (some a)] m Q := by
  have am : m.1 a ≠ none := by rw [show m.1 a = _ from h]; exact Option.some_ne_none _
  have hF : ∀ x, (fun x => x = a) x → m.1 x ≠ none := fun x r => by rw [show x = a from r]; exact am
  have ng : ∀ {x}, m.1 x = none → ¬ x = a := fun hx r => am (by rw [← r]; exact hx)
  refine bC_init hst ⟨267, 2318, rfl, rfl, fun k1 hk1 m7 hm7 => ?_⟩
  have x7 : Nx (fun x => x = a) m m7 := by rw [hm7]; exact Nx.new hk1 (by decide)
  have a7 := x7.kd h
  refine ⟨a7, fun m10 hm10 => ⟨138, 1486, rfl, rfl, ?_⟩⟩
  have x10 : Nx (fun x => x = a) m7 m10 := by rw [hm10]; exact Nx.fr (frR _ _ rfl)
  have y10 := x7.tr x10
  have k10 : m10.1 k1 = some (aR 0 8) := by rw [hm10, hm7]; simp [mR, mN]
  have z10 : ∀ i, m10.2.1 k1 i = 0 := fun i => by rw [hm10, hm7]; simp [mR, mN]
  have e10 : m10.2.2.2 a = up (m7.2.2.2 a) 0 (some k1) := by rw [hm10]; exact mR_ref
  refine c_newPages (n := 64) hst (by omega) (fun m15 k2 P1 A1 hk2 kk2 x15 np1 => ?_)
  have x15' : Nx (fun x => x = a) m10 m15 := Nx.f0 x15
  have y15 := y10.tr x15'
  have a15 := y15.kd h
  have hk2' : m.1 k2 = none := y10.non hk2
  have e15 : m15.2.2.2 a = m10.2.2.2 a := (x15.at (y10.kd h) (fun r => r)).2.2
  refine ⟨a15, fun m18 hm18 => ⟨137, 1482, rfl, rfl, fun k3 hk3 m25 hm25 => ⟨3, 307, rfl, rfl, ?_⟩⟩⟩
  have x18 : Nx (fun x => x = a) m15 m18 := by rw [hm18]; exact Nx.fr (frR _ _ rfl)
  have e18 : m18.2.2.2 a = up (m15.2.2.2 a) 1 (some k2) := by rw [hm18]; exact mR_ref
  have y18 := y15.tr x18
  have hk3' : m18.1 k3 = none := by rw [hm18]; exact hk3
  have x25 : Nx (fun x => x = a) m18 m25 := by rw [hm25]; exact Nx.new hk3' (by decide)
  have k25 : m25.1 k3 = some (oB 2) := by rw [hm25]; simp [mN]
  have n3a : k3 ≠ a := fun r => by rw [r, show kd m15 a = _ from a15] at hk3; cases hk3
  refine c_Ginit hst k25 (fun m32 k7 P2 A2 ix ia ps op opa x32 lg => ?_)
  have x32' : Nx (fun x => x = a) m18 m32 := by
    refine ⟨fun x hx => by rw [x32.1 x (by rw [x25.1 x hx]; exact hx), x25.1 x hx], fun x hx hF => ?_, fun x hx => x25.2.2 x (x32.2.2 x hx)⟩
    obtain ⟨q1, q2, q3⟩ := x25.2.1 x hx hF
    obtain ⟨r1, r2, r3⟩ := x32.2.1 x (by rw [x25.1 x hx]; exact hx) (fun r => hx (by rw [r]; exact hk3'))
    exact ⟨r1.trans q1, r2.trans q2, r3.trans q3⟩
  have y32 := y18.tr x32'
  have a32 := y32.kd h
  have e32 : m32.2.2.2 a = m18.2.2.2 a := by
    have h25 : m25.2.2.2 a = m18.2.2.2 a := by rw [hm25]; funext t; simp [mN, Ne.symm n3a]
    rw [(x32.2.1 a (by rw [x25.kd (y18.kd h)]; exact Option.some_ne_none _) (Ne.symm n3a)).2.2, h25]
  have k32 : m32.1 k3 = some (oB 2) := x32.kd k25
  obtain ⟨g0, g1, g2, np2, g3, ix32, g4, g5, g6, g7, p32, g8, g9, g10, g11⟩ := lg
  refine ⟨a32, fun m34 hm34 => ⟨2, 296, rfl, rfl, fun k4 hk4 m41 hm41 m44 hm44 => ⟨1, 32, rfl, rfl, fun k5 hk5 m51 hm51 m55 hm55 => ⟨0, 0, rfl, rfl, fun k6 hk6 m62 hm62 m67 hm67 m68 hm68 m69 hm69 => ?_⟩⟩⟩⟩
  have x34 : Nx (fun x => x = a) m32 m34 := by rw [hm34]; exact Nx.fr (frR _ _ rfl)
  have e34 : m34.2.2.2 a = up (m32.2.2.2 a) 2 (some k3) := by rw [hm34]; exact mR_ref
  have hk4' : m34.1 k4 = none := by rw [hm34]; exact hk4
  have n4a : k4 ≠ a := fun r => by rw [r, show kd m32 a = _ from a32] at hk4; cases hk4
  have x41 : Nx (fun x => x = a) m34 m41 := by rw [hm41]; exact Nx.new hk4' (by decide)
  have e41 : m41.2.2.2 a = m34.2.2.2 a := by rw [hm41]; funext t; simp [mN, Ne.symm n4a]
  have x44 : Nx (fun x => x = a) m41 m44 := by rw [hm44]; exact Nx.fr (frR _ _ rfl)
  have e44 : m44.2.2.2 a = up (m41.2.2.2 a) 3 (some k4) := by rw [hm44]; exact mR_ref
  have k44 : m44.1 k4 = some (aR 0 11) := by rw [hm44, hm41]; simp [mR, mN]
  have z44 : ∀ i, m44.2.1 k4 i = 0 := fun i => by rw [hm44, hm41]; simp [mR, mN]
  have y44 := ((y32.tr x34).tr x41).tr x44
  have a44 := y44.kd h
  have hk5' : m44.1 k5 = none := by rw [hm44]; exact hk5
  have n5a : k5 ≠ a := fun r => by rw [r, a44] at hk5'; cases hk5'
  have x51 : Nx (fun x => x = a) m44 m51 := by rw [hm51]; exact Nx.new hk5' (by decide)
  have e51 : m51.2.2.2 a = m44.2.2.2 a := by rw [hm51]; funext t; simp [mN, Ne.symm n5a]
  have x55 : Nx (fun x => x = a) m51 m55 := by rw [hm55]; exact Nx.fr (frR _ _ rfl)
  have e55 : m55.2.2.2 a = up (m51.2.2.2 a) 4 (some k5) := by rw [hm55]; exact mR_ref
  have k55 : m55.1 k5 = some (aR 3 264) := by rw [hm55, hm51]; simp [mR, mN]
  have y55 := (y44.tr x51).tr x55
  have a55 := y55.kd h
  have hk6' : m55.1 k6 = none := by rw [hm55]; exact hk6
  have n6a : k6 ≠ a := fun r => by rw [r, a55] at hk6'; cases hk6'
  have x62 : Nx (fun x => x = a) m55 m62 := by rw [hm62]; exact Nx.new hk6' (by decide)
  have e62 : m62.2.2.2 a = m55.2.2.2 a := by rw [hm62]; funext t; simp [mN, Ne.symm n6a]
  have k62 : m62.1 k6 = some (aR 3 32) := by rw [hm62]; simp [mN]
  have x69 : Nx (fun x => x = a) m62 m69 := by
    rw [hm69, hm68, hm67]
    exact Nx.fr (Fr.tr (F := fun x => x = a) (Fr.tr (F := fun x => x = a) (frR (F := fun x => x = a) _ _ rfl) (frR (F := fun x => x = a) _ _ rfl)) (frI (F := fun x => x = a) _ _ rfl))
  have e69 : m69.2.2.2 a = up (up (m62.2.2.2 a) 5 (some k6)) 6 none := by
    rw [hm69]
    show m68.2.2.2 a = _
    rw [hm68, mR_ref, hm67, mR_ref]
  have eF : m69.2.2.2 a = up (up (up (up (up (up (up (m7.2.2.2 a) 0 (some k1)) 1 (some k2)) 2 (some k3)) 3 (some k4)) 4 (some k5)) 5 (some k6)) 6 none := by
    rw [e69, e62, e55, e51, e44, e41, e34, e32, e18, e15, e10]
  have w55 : Nx (fun x => x = a) m55 m69 := x62.tr x69
  have w44 : Nx (fun x => x = a) m44 m69 := (x51.tr x55).tr w55
  have w32 : Nx (fun x => x = a) m32 m69 := ((x34.tr x41).tr x44).tr w44
  have w15 : Nx (fun x => x = a) m15 m69 := (x18.tr x32').tr w32
  have w10 : Nx (fun x => x = a) m10 m69 := x15'.tr w15
  have y69 := y10.tr w10
  have z18 : ∀ {x}, m25.1 x = none → m.1 x = none := fun hx => y18.non (x25.non hx)
  have f1 : m.1 k1 = none := hk1
  have f3 : m.1 k3 = none := y18.non hk3'
  have f4 : m.1 k4 = none := (y32.tr x34).non hk4'
  have f5 : m.1 k5 = none := y44.non hk5'
  have f6 : m.1 k6 = none := y55.non hk6'
  have fP1 : ∀ j, j < 64 → m.1 (P1 j) = none ∧ m.1 (A1 j) = none := fun j hj => ⟨y10.non (np1.1 j hj).2.2.1, y10.non (np1.1 j hj).2.2.2⟩
  have fP2 : ∀ j, j < 32 → m.1 (P2 j) = none ∧ m.1 (A2 j) = none := fun j hj => ⟨z18 (np2.1 j hj).2.2.1, z18 (np2.1 j hj).2.2.2⟩
  have q1 : ∀ j, j < 64 → gR m69 k2 j = some (P1 j) ∧ PgOK m69 (P1 j) (A1 j) [] := fun j hj => by
    refine ⟨?_, (np1.1 j hj).2.1.nx w15 (ng (fP1 j hj).1) (ng (fP1 j hj).2)⟩
    show m69.2.2.2 k2 j = _
    rw [(w15.at kk2 (ng hk2')).2.2]
    exact (np1.1 j hj).1
  have q2 : ∀ j, j < 32 → gR m69 k7 j = some (P2 j) ∧ PgOK m69 (P2 j) (A2 j) [] := fun j hj => by
    refine ⟨?_, (np2.1 j hj).2.1.nx w32 (ng (fP2 j hj).1) (ng (fP2 j hj).2)⟩
    show m69.2.2.2 k7 j = _
    rw [(w32.at g1 (ng (z18 g2))).2.2]
    exact (np2.1 j hj).1
  have q3 : PgOK m69 op opa [] := p32.nx w32 (ng (z18 g8)) (ng (z18 g9))
  have q4 : IxOK m69 ix ia ps [] := ix32.nx w32 (ng (z18 g4)) (ng (z18 g5)) (ng (z18 g6))
  generalize hpg : (fun j => if j < 64 then P1 j else if j < 96 then P2 (j - 64) else op) = pg
  generalize hpa : (fun j => if j < 64 then A1 j else if j < 96 then A2 (j - 64) else opa) = pa
  have pg1 : ∀ j, j < 64 → pg j = P1 j ∧ pa j = A1 j := fun j hj => by rw [← hpg, ← hpa]; simp [hj]
  have pg2 : ∀ j, j < 32 → pg (64 + j) = P2 j ∧ pa (64 + j) = A2 j := fun j hj => by
    rw [← hpg, ← hpa]
    have h1 : ¬ 64 + j < 64 := by omega
    have h2 : 64 + j < 96 := by omega
    have h3 : 64 + j - 64 = j := by omega
    simp [h1, h2, h3]
  have pg3 : pg 96 = op ∧ pa 96 = opa := by rw [← hpg, ← hpa]; exact ⟨rfl, rfl⟩
  have hcase : ∀ j, j < 97 → j < 64 ∨ (∃ i, i < 32 ∧ j = 64 + i) ∨ j = 96 := fun j hj => by
    by_cases r : j < 64
    · exact Or.inl r
    · by_cases r' : j = 96
      · exact Or.inr (Or.inr r')
      · exact Or.inr (Or.inl ⟨j - 64, by omega, by omega⟩)
  have hall : ∀ j, j < 97 → PgOK m69 (pg j) (pa j) [] := fun j hj => by
    rcases hcase j hj with r | ⟨i, hi, r⟩ | r
    · rw [(pg1 j r).1, (pg1 j r).2]
      exact (q1 j r).2
    · rw [r, (pg2 i hi).1, (pg2 i hi).2]
      exact (q2 i hi).2
    · rw [r, pg3.1, pg3.2]
      exact q3
  -- those of the sets were there before the log's
  have d1 : ∀ j, j < 64 → m25.1 (P1 j) ≠ none ∧ m25.1 (A1 j) ≠ none := fun j hj => by
    have r1 := (x18.tr x25).kd (np1.1 j hj).2.1.1
    have r2 := (x18.tr x25).kd (np1.1 j hj).2.1.2.2.1
    rw [r1, r2]
    exact ⟨Option.some_ne_none _, Option.some_ne_none _⟩
  have hinj : ∀ i j, i < 97 → j < 97 → (pg i = pg j → i = j) ∧ (pa i = pa j → i = j) := by
    have half : ∀ i j, i < 97 → j < 97 → i < j → pg i ≠ pg j ∧ pa i ≠ pa j := by
      intro i j hi hj hij
      rcases hcase i hi with r | ⟨i', hi', r⟩ | r
      · rw [(pg1 i r).1, (pg1 i r).2]
        rcases hcase j hj with s | ⟨j', hj', s⟩ | s
        · rw [(pg1 j s).1, (pg1 j s).2]
          exact ⟨fun t => by have := (np1.2 i j r s).1 t; omega, fun t => by have := (np1.2 i j r s).2 t; omega⟩
        · rw [s, (pg2 j' hj').1, (pg2 j' hj').2]
          exact ⟨fun t => (d1 i r).1 (by rw [t]; exact (np2.1 j' hj').2.2.1), fun t => (d1 i r).2 (by rw [t]; exact (np2.1 j' hj').2.2.2)⟩
        · rw [s, pg3.1, pg3.2]
          exact ⟨fun t => (d1 i r).1 (by rw [t]; exact g8), fun t => (d1 i r).2 (by rw [t]; exact g9)⟩
      · rw [r, (pg2 i' hi').1, (pg2 i' hi').2]
        rcases hcase j hj with s | ⟨j', hj', s⟩ | s
        · omega
        · rw [s, (pg2 j' hj').1, (pg2 j' hj').2]
          exact ⟨fun t => by have := (np2.2 i' j' hi' hj').1 t; omega, fun t => by have := (np2.2 i' j' hi' hj').2 t; omega⟩
        · rw [s, pg3.1, pg3.2]
          exact ⟨fun t => (g10 i' hi').1 t.symm, fun t => (g10 i' hi').2 t.symm⟩
      · omega
    intro i j hi hj
    rcases Nat.lt_trichotomy i j with r | r | r
    · exact ⟨fun t => absurd t (half i j hi hj r).1, fun t => absurd t (half i j hi hj r).2⟩
    · exact ⟨fun _ => r, fun _ => r⟩
    · exact ⟨fun t => absurd t.symm (half j i hj hi r).1, fun t => absurd t.symm (half j i hj hi r).2⟩
  have har : ∀ j, j < 97 → (m69.2.2.2 (pg j) 0).getD 0 = pa j := fun j hj => by
    rw [show m69.2.2.2 (pg j) 0 = some (pa j) from (hall j hj).2.1]
    rfl
  have n59 : k5 ≠ ia := fun r => by
    have := ((x34.tr x41).tr x44).kd ix32.2.2.1
    rw [← r, hk5'] at this
    cases this
  refine hq m69 (kL' [a, k1, k2, k3, k4, k5, k6, k7, ix, ia, ps]) (fun x => (m69.2.2.2 x 0).getD 0) pg (fun _ => 0) (fun a => m69.2.1 a 5) (fun a => m69.2.1 a 4) rfl y69 ⟨⟨⟨⟨?_, ?_, ?_, ?_, ?_, ?_, ?_, ?_, ?_, ?_, ?_, ?_, ?_, ?_, ?_, ?_, ?_, ?_, by decide, ?_, ?_⟩, ?_, ?_, ?_, ?_⟩, ?_, fun _ _ => ⟨rfl, rfl⟩, Cl.rf⟩, fun _ _ => rfl, fun _ _ => rfl, fun _ _ _ => rfl, rfl, (fun s hs x hx => nomatch hx), (fun x hx => nomatch hx)⟩ ?_ ?_ ?_ ?_
  · exact y69.kd h
  · show m69.2.2.2 a 0 = _
    rw [eF]; rfl
  · exact w10.kd k10
  · show m69.2.2.2 a 1 = _
    rw [eF]; rfl
  · exact w15.kd kk2
  · show m69.2.2.2 a 2 = _
    rw [eF]; rfl
  · exact w32.kd k32
  · show m69.2.2.2 a 3 = _
    rw [eF]; rfl
  · exact w44.kd k44
  · show m69.2.2.2 a 4 = _
    rw [eF]; rfl
  · exact w55.kd k55
  · show m69.2.2.2 a 5 = _
    rw [eF]; rfl
  · exact x69.kd k62
  · show m69.2.2.2 k3 0 = _
    rw [(w32.at k32 (ng f3)).2.2]
    exact g0
  · exact w32.kd g1
  · show m69.2.2.2 k3 1 = _
    rw [(w32.at k32 (ng f3)).2.2]
    exact g3
  · show m69.2.2.2 k3 2 = some (pg 96)
    rw [(w32.at k32 (ng f3)).2.2, pg3.1]
    exact g7
  · show m69.2.1 k3 3 = _
    rw [(w32.at k32 (ng f3)).1]
    exact g11
  · intro i hi
    show m69.2.2.2 k2 i = some (pg i)
    rw [(pg1 i hi).1]
    exact (q1 i hi).1
  · intro i hi
    show m69.2.2.2 k7 i = some (pg (64 + i))
    rw [(pg2 i hi).1]
    exact (q2 i hi).1
  · intro j hj
    show PgOK m69 (pg j) ((m69.2.2.2 (pg j) 0).getD 0) []
    rw [har j hj]
    exact hall j hj
  · exact q4
  · refine ⟨fun i j hi hj r => (hinj i j hi hj).1 r, fun i j hi hj r => (hinj i j hi hj).2 ?_, n59⟩
    have : (m69.2.2.2 (pg i) 0).getD 0 = (m69.2.2.2 (pg j) 0).getD 0 := r
    rw [har i hi, har j hj] at this
    exact this
  · refine Or.inl ?_
    show m69.2.2.2 a 6 = none
    rw [eF]; rfl
  · intro k
    show m69.2.1 k4 k = 0
    rw [(w44.at k44 (ng f4)).1]
    exact z44 k
  · intro i h1 h11
    have : i = 1 ∨ i = 2 ∨ i = 3 ∨ i = 4 ∨ i = 5 ∨ i = 6 ∨ i = 7 ∨ i = 8 ∨ i = 9 ∨ i = 10 := by omega
    rcases this with r | r | r | r | r | r | r | r | r | r <;> subst r
    · exact f1
    · exact hk2'
    · exact f3
    · exact f4
    · exact f5
    · exact f6
    · exact z18 g2
    · exact z18 g4
    · exact z18 g5
    · exact z18 g6
  · intro i
    show m69.2.1 k1 i = 0
    rw [(w10.at k10 (ng f1)).1]
    exact z10 i
  · rw [eF]; rfl
  · rw [hm69]
    simp [mI]
end L2R
