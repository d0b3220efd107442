/-! a new reference -/
abbrev AE : Type := Nat × Nat × Nat × Nat
def AL (a : Nat) (m : XM) (as : List AE) (m' : XM) : Prop := Nx (fun x => x = a) m m' ∧ m'.1 a = some (oB 5) ∧ (∀ q ∈ as, m'.1 q.2.1 = some (aR q.2.2.1 q.2.2.2) ∧ m.1 q.2.1 = none ∧ m'.2.2.2 a q.1 = some q.2.1 ∧ (∀ i, m'.2.1 q.2.1 i = 0) ∧ ∀ i, m'.2.2.1 q.2.1 i = 0) ∧ (as.map (fun q => q.2.1)).Nodup ∧ (∀ k, k ≠ 1 → m'.2.1 a k = 0) ∧ m'.2.1 a 1 = 1
section L3R
variable {l : Launch} {G : xG} {Q : XR → XM → Prop} {m m1 m2 m' : XM} {a b f t n : Nat} {as : List AE}
theorem AL.step (h : AL a m as m') (ha : m.1 a ≠ none) (hf : ∀ q ∈ as, q.1 ≠ f) (hb : m'.1 b = none) (h1 : m1 = mN m' b (aR t n)) (h2 : m2 = mR m1 a f (some b)) : AL a m (as ++ [(f, b, t, n)]) m2 := by
  obtain ⟨g1, g2, g3, g4, g5, g6⟩ := h
  have nba : b ≠ a := fun r => by rw [r, g2] at hb; cases hb
  have x1 : Nx (fun x => x = a) m' m1 := by rw [h1]; exact Nx.new hb (by simp)
  have x2 : Nx (fun x => x = a) m1 m2 := by rw [h2]; exact Nx.fr (frR _ _ rfl)
  have e1 : m1.2.2.2 a = m'.2.2.2 a := by rw [h1]; funext i; simp [mN, Ne.symm nba]
  have e2 : m2.2.2.2 a = up (m'.2.2.2 a) f (some b) := by rw [h2, mR_ref, e1]
  have ei : m2.2.1 a = m'.2.1 a := by rw [h2, h1]; funext i; simp [mR, mN, Ne.symm nba]
  refine ⟨(g1.tr x1).tr x2, x2.kd (x1.kd g2), fun q hq => ?_, ?_, fun k hk => by rw [ei]; exact g5 k hk, by rw [ei]; exact g6⟩
  · rcases List.mem_append.mp hq with r | r
    · obtain ⟨c1, c2, c3, c4, c5⟩ := g3 q r
      have nqa : q.2.1 ≠ a := fun e => ha (by rw [← e]; exact c2)
      have y := (x1.tr x2).at c1 nqa
      refine ⟨(x1.tr x2).kd c1, c2, ?_, fun i => by rw [y.1]; exact c4 i, fun i => by rw [y.2.1]; exact c5 i⟩
      rw [e2, upN (hf q r)]
      exact c3
    · simp at r
      subst r
      refine ⟨?_, g1.non hb, ?_, fun i => ?_, fun i => ?_⟩
      · rw [h2, h1]
        simp [mR, mN]
      · rw [e2, up_same]
      · rw [h2, h1]
        simp [mR, mN]
      · rw [h2, h1]
        simp [mR, mN]
  · rw [List.map_append, List.nodup_append]
    refine ⟨g4, by simp, fun x hx y hy r => ?_⟩
    simp at hy
    obtain ⟨q, hq, e⟩ := List.mem_map.mp hx
    have := (g3 q hq).1
    rw [e, r, hy, hb] at this
    cases this
def S00 : RS := mS (fun _ => []) (fun _ => 0) (fun _ => 0) (fun _ _ => 0) (fun _ => 0) (fun _ => 0) (fun _ => 0) (fun _ => 0) 0 0 (fun _ => 0) [] []
def X00 : RX := mX 0 1 (fun _ => 0) [] (fun _ => 0)
theorem S00_RA {pn : Nat → Nat} : RA S00 (aCra 0) [] pn := by
  refine ⟨⟨fun _ _ => List.nodup_nil, fun _ _ _ _ _ y hy => nomatch hy⟩, fun _ _ => rfl, fun _ _ _ => rfl, rfl, fun n => ⟨(fun r => nomatch r), fun r => ?_⟩, List.Pairwise.nil, (fun n hn => nomatch hn), rfl, rfl, rfl, fun _ _ _ => rfl⟩
  obtain ⟨u, u1, u2, u3⟩ := lgs_mem.mp r.1
  cases u3
theorem c_Minit (hst : l.stackTraces = false) (h : kd m a = some (oB 5)) (hz : ∀ k, m.2.1 a k = 0) (hq : ∀ m' R, R 0 = a → Nx (fun x => x = a) m m' → (∀ j, inU j = true → j ≠ 0 → m.1 (R j) = none) → MR R m' S00 X00 m' → Q (.inl none) m') : CC l G xM_init [vR (some a)] m Q := by
  have ha : m.1 a ≠ none := by rw [show m.1 a = _ from h]; exact Option.some_ne_none _
  refine bM_init hst ⟨h, fun n0 hn0 => ⟨15, 62998, rfl, rfl, fun b0 f0 p0 hp0 n1 hn1 => ⟨14, 62990, rfl, rfl, fun b1 f1 p1 hp1 n2 hn2 => ⟨13, 58894, rfl, rfl, fun b2 f2 p2 hp2 n3 hn3 => ⟨12, 54798, rfl, rfl, fun b3 f3 p3 hp3 n4 hn4 => ⟨11, 22030, rfl, rfl, fun b4 f4 p4 hp4 n5 hn5 => ⟨10, 17934, rfl, rfl, fun b5 f5 p5 hp5 n6 hn6 => ⟨9, 13838, rfl, rfl, fun b6 f6 p6 hp6 n7 hn7 => ⟨8, 9742, rfl, rfl, fun b7 f7 p7 hp7 n8 hn8 => ⟨7, 5646, rfl, rfl, fun b8 f8 p8 hp8 n9 hn9 => ⟨6, 5549, rfl, rfl, fun b9 f9 p9 hp9 n10 hn10 => ⟨5, 4773, rfl, rfl, fun b10 f10 p10 hp10 n11 hn11 => ⟨4, 677, rfl, rfl, fun b11 f11 p11 hp11 n12 hn12 => ⟨3, 377, rfl, rfl, fun b12 f12 p12 hp12 n13 hn13 => ⟨2, 77, rfl, rfl, fun b13 f13 p13 hp13 n14 hn14 => ⟨1, 13, rfl, rfl, fun b14 f14 p14 hp14 n15 hn15 => ⟨0, 0, rfl, rfl, fun b15 f15 p15 hp15 n16 hn16 => ?_⟩⟩⟩⟩⟩⟩⟩⟩⟩⟩⟩⟩⟩⟩⟩⟩⟩
  have s0 : AL a m [] n0 := by
    rw [hn0]
    exact ⟨Nx.fr (frI _ _ rfl), h, (fun q hq => nomatch hq), List.nodup_nil, fun k hk => by simp [mI, hk]; exact hz k, by simp [mI]⟩
  have s1 := s0.step (f := 2) (t := 0) (n := 8) ha (by simp) (by rw [hn0]; exact f0) hp0 hn1
  have s2 := s1.step (f := 4) (t := 0) (n := 8) ha (by simp) (by rw [hn1]; exact f1) hp1 hn2
  have s3 := s2.step (f := 6) (t := 2) (n := 4096) ha (by simp) (by rw [hn2]; exact f2) hp2 hn3
  have s4 := s3.step (f := 7) (t := 0) (n := 4096) ha (by simp) (by rw [hn3]; exact f3) hp3 hn4
  have s5 := s4.step (f := 8) (t := 0) (n := 32768) ha (by simp) (by rw [hn4]; exact f4) hp4 hn5
  have s6 := s5.step (f := 9) (t := 1) (n := 4096) ha (by simp) (by rw [hn5]; exact f5) hp5 hn6
  have s7 := s6.step (f := 10) (t := 1) (n := 4096) ha (by simp) (by rw [hn6]; exact f6) hp6 hn7
  have s8 := s7.step (f := 11) (t := 0) (n := 4096) ha (by simp) (by rw [hn7]; exact f7) hp7 hn8
  have s9 := s8.step (f := 12) (t := 1) (n := 4096) ha (by simp) (by rw [hn8]; exact f8) hp8 hn9
  have s10 := s9.step (f := 14) (t := 0) (n := 97) ha (by simp) (by rw [hn9]; exact f9) hp9 hn10
  have s11 := s10.step (f := 15) (t := 0) (n := 776) ha (by simp) (by rw [hn10]; exact f10) hp10 hn11
  have s12 := s11.step (f := 17) (t := 1) (n := 4096) ha (by simp) (by rw [hn11]; exact f11) hp11 hn12
  have s13 := s12.step (f := 19) (t := 0) (n := 300) ha (by simp) (by rw [hn12]; exact f12) hp12 hn13
  have s14 := s13.step (f := 21) (t := 0) (n := 300) ha (by simp) (by rw [hn13]; exact f13) hp13 hn14
  have s15 := s14.step (f := 22) (t := 1) (n := 64) ha (by simp) (by rw [hn14]; exact f14) hp14 hn15
  have s16 := s15.step (f := 23) (t := 0) (n := 13) ha (by simp) (by rw [hn15]; exact f15) hp15 hn16
  generalize hR : kL' [a, 0, b0, 0, b1, 0, b2, b3, b4, b5, b6, b7, b8, 0, b9, b10, 0, b11, 0, b12, 0, b13, b14, b15] = R
  obtain ⟨g1, g2, g3, g4, g5, g6⟩ := s16
  have q0 := g3 (2, b0, 0, 8) (by simp)
  have r0 : R 2 = b0 := by rw [← hR]; rfl
  have q1 := g3 (4, b1, 0, 8) (by simp)
  have r1 : R 4 = b1 := by rw [← hR]; rfl
  have q2 := g3 (6, b2, 2, 4096) (by simp)
  have r2 : R 6 = b2 := by rw [← hR]; rfl
  have q3 := g3 (7, b3, 0, 4096) (by simp)
  have r3 : R 7 = b3 := by rw [← hR]; rfl
  have q4 := g3 (8, b4, 0, 32768) (by simp)
  have r4 : R 8 = b4 := by rw [← hR]; rfl
  have q5 := g3 (9, b5, 1, 4096) (by simp)
  have r5 : R 9 = b5 := by rw [← hR]; rfl
  have q6 := g3 (10, b6, 1, 4096) (by simp)
  have r6 : R 10 = b6 := by rw [← hR]; rfl
  have q7 := g3 (11, b7, 0, 4096) (by simp)
  have r7 : R 11 = b7 := by rw [← hR]; rfl
  have q8 := g3 (12, b8, 1, 4096) (by simp)
  have r8 : R 12 = b8 := by rw [← hR]; rfl
  have q9 := g3 (14, b9, 0, 97) (by simp)
  have r9 : R 14 = b9 := by rw [← hR]; rfl
  have q10 := g3 (15, b10, 0, 776) (by simp)
  have r10 : R 15 = b10 := by rw [← hR]; rfl
  have q11 := g3 (17, b11, 1, 4096) (by simp)
  have r11 : R 17 = b11 := by rw [← hR]; rfl
  have q12 := g3 (19, b12, 0, 300) (by simp)
  have r12 : R 19 = b12 := by rw [← hR]; rfl
  have q13 := g3 (21, b13, 0, 300) (by simp)
  have r13 : R 21 = b13 := by rw [← hR]; rfl
  have q14 := g3 (22, b14, 1, 64) (by simp)
  have r14 : R 22 = b14 := by rw [← hR]; rfl
  have q15 := g3 (23, b15, 0, 13) (by simp)
  have r15 : R 23 = b15 := by rw [← hR]; rfl
  have ra : R 0 = a := by rw [← hR]; rfl
  have hU : ∀ j, inU j = true → j = 0 ∨ j = 2 ∨ j = 4 ∨ j = 6 ∨ j = 7 ∨ j = 8 ∨ j = 9 ∨ j = 10 ∨ j = 11 ∨ j = 12 ∨ j = 14 ∨ j = 15 ∨ j = 17 ∨ j = 19 ∨ j = 21 ∨ j = 22 ∨ j = 23 := fun j hj => by
    unfold inU at hj
    simpa using hj
  have hnd : (a :: [b0, b1, b2, b3, b4, b5, b6, b7, b8, b9, b10, b11, b12, b13, b14, b15]).Nodup := by
    refine List.nodup_cons.mpr ⟨fun r => ?_, by simpa using g4⟩
    simp only [List.mem_cons, List.not_mem_nil, or_false] at r
    rcases r with r | r | r | r | r | r | r | r | r | r | r | r | r | r | r | r
    · exact ha (by rw [r]; exact q0.2.1)
    · exact ha (by rw [r]; exact q1.2.1)
    · exact ha (by rw [r]; exact q2.2.1)
    · exact ha (by rw [r]; exact q3.2.1)
    · exact ha (by rw [r]; exact q4.2.1)
    · exact ha (by rw [r]; exact q5.2.1)
    · exact ha (by rw [r]; exact q6.2.1)
    · exact ha (by rw [r]; exact q7.2.1)
    · exact ha (by rw [r]; exact q8.2.1)
    · exact ha (by rw [r]; exact q9.2.1)
    · exact ha (by rw [r]; exact q10.2.1)
    · exact ha (by rw [r]; exact q11.2.1)
    · exact ha (by rw [r]; exact q12.2.1)
    · exact ha (by rw [r]; exact q13.2.1)
    · exact ha (by rw [r]; exact q14.2.1)
    · exact ha (by rw [r]; exact q15.2.1)
  have hpos : ∀ j, inU j = true → ∃ d : Nat, ([0, 2, 4, 6, 7, 8, 9, 10, 11, 12, 14, 15, 17, 19, 21, 22, 23] : List Nat)[d]? = some j ∧ (a :: [b0, b1, b2, b3, b4, b5, b6, b7, b8, b9, b10, b11, b12, b13, b14, b15])[d]? = some (R j) := fun j hj => by
    rcases hU j hj with e | e | e | e | e | e | e | e | e | e | e | e | e | e | e | e | e <;> subst e
    · exact ⟨0, rfl, by rw [ra]; rfl⟩
    · exact ⟨1, rfl, by rw [r0]; rfl⟩
    · exact ⟨2, rfl, by rw [r1]; rfl⟩
    · exact ⟨3, rfl, by rw [r2]; rfl⟩
    · exact ⟨4, rfl, by rw [r3]; rfl⟩
    · exact ⟨5, rfl, by rw [r4]; rfl⟩
    · exact ⟨6, rfl, by rw [r5]; rfl⟩
    · exact ⟨7, rfl, by rw [r6]; rfl⟩
    · exact ⟨8, rfl, by rw [r7]; rfl⟩
    · exact ⟨9, rfl, by rw [r8]; rfl⟩
    · exact ⟨10, rfl, by rw [r9]; rfl⟩
    · exact ⟨11, rfl, by rw [r10]; rfl⟩
    · exact ⟨12, rfl, by rw [r11]; rfl⟩
    · exact ⟨13, rfl, by rw [r12]; rfl⟩
    · exact ⟨14, rfl, by rw [r13]; rfl⟩
    · exact ⟨15, rfl, by rw [r14]; rfl⟩
    · exact ⟨16, rfl, by rw [r15]; rfl⟩
  have hinj : ∀ i j, inU i = true → inU j = true → R i = R j → i = j := fun i j hi hj e => by
    obtain ⟨d, d1, d2⟩ := hpos i hi
    obtain ⟨d', d3, d4⟩ := hpos j hj
    have hl := (List.getElem?_eq_some_iff.mp d2).1
    have hl' := (List.getElem?_eq_some_iff.mp d4).1
    have ee : d = d' := by
      refine (List.getElem?_inj hl hnd).mp ?_
      rw [d2, d4, e]
    rw [ee, d3] at d1
    exact (Option.some.inj d1).symm
  have hW : MW R n16 := by
    refine ⟨by rw [ra]; exact g2, fun q hq => ?_, hinj⟩
    rw [ra]
    simp only [mtab, List.mem_cons, List.not_mem_nil, or_false] at hq
    rcases hq with e | e | e | e | e | e | e | e | e | e | e | e | e | e | e | e <;> subst e
    · exact ⟨by rw [r0]; exact q0.2.2.1, by rw [r0]; exact q0.1⟩
    · exact ⟨by rw [r1]; exact q1.2.2.1, by rw [r1]; exact q1.1⟩
    · exact ⟨by rw [r2]; exact q2.2.2.1, by rw [r2]; exact q2.1⟩
    · exact ⟨by rw [r3]; exact q3.2.2.1, by rw [r3]; exact q3.1⟩
    · exact ⟨by rw [r4]; exact q4.2.2.1, by rw [r4]; exact q4.1⟩
    · exact ⟨by rw [r5]; exact q5.2.2.1, by rw [r5]; exact q5.1⟩
    · exact ⟨by rw [r6]; exact q6.2.2.1, by rw [r6]; exact q6.1⟩
    · exact ⟨by rw [r7]; exact q7.2.2.1, by rw [r7]; exact q7.1⟩
    · exact ⟨by rw [r8]; exact q8.2.2.1, by rw [r8]; exact q8.1⟩
    · exact ⟨by rw [r9]; exact q9.2.2.1, by rw [r9]; exact q9.1⟩
    · exact ⟨by rw [r10]; exact q10.2.2.1, by rw [r10]; exact q10.1⟩
    · exact ⟨by rw [r11]; exact q11.2.2.1, by rw [r11]; exact q11.1⟩
    · exact ⟨by rw [r12]; exact q12.2.2.1, by rw [r12]; exact q12.1⟩
    · exact ⟨by rw [r13]; exact q13.2.2.1, by rw [r13]; exact q13.1⟩
    · exact ⟨by rw [r14]; exact q14.2.2.1, by rw [r14]; exact q14.1⟩
    · exact ⟨by rw [r15]; exact q15.2.2.1, by rw [r15]; exact q15.1⟩
  refine hq n16 R ra g1 (fun j hj hj0 => ?_) ⟨hW, MB.rf, fun p hp => ⟨Nat.zero_le _, ?_, (fun i n r => nomatch r), (fun n r => nomatch r)⟩, fun n _ => ?_, fun n _ => ⟨?_, Nat.zero_le _⟩, fun n _ i _ => ?_, fun n _ => ?_, fun n _ => ?_, fun n _ => ⟨?_, by show 0 < 2 ^ 30; omega⟩, fun n _ => ?_, ⟨?_, by show 0 < 2 ^ 29; omega⟩, ⟨?_, by show 0 < 2 ^ 29; omega⟩, fun k _ => ?_, ⟨?_, Nat.zero_le _, (fun i n r => nomatch r), (fun n r => nomatch r)⟩, ⟨?_, Nat.zero_le _, (fun i n r => nomatch r), (fun n r => nomatch r)⟩, ?_, ?_, fun i _ => ?_, ?_, Nat.zero_le _, (fun i y r => nomatch r), fun t _ => ?_⟩
  · rcases hU j hj with e | e | e | e | e | e | e | e | e | e | e | e | e | e | e | e | e <;> subst e
    · exact absurd rfl hj0
    · rw [r0]; exact q0.2.1
    · rw [r1]; exact q1.2.1
    · rw [r2]; exact q2.2.1
    · rw [r3]; exact q3.2.1
    · rw [r4]; exact q4.2.1
    · rw [r5]; exact q5.2.1
    · rw [r6]; exact q6.2.1
    · rw [r7]; exact q7.2.1
    · rw [r8]; exact q8.2.1
    · rw [r9]; exact q9.2.1
    · rw [r10]; exact q10.2.1
    · rw [r11]; exact q11.2.1
    · rw [r12]; exact q12.2.1
    · rw [r13]; exact q13.2.1
    · rw [r14]; exact q14.2.1
    · rw [r15]; exact q15.2.1
  · show n16.2.1 (R 14) _ = _
    rw [r9]
    exact q9.2.2.2.1 _
  · show n16.2.2.1 (R 6) _ = _
    rw [r2]
    exact q2.2.2.2.2 _
  · show n16.2.1 (R 7) _ = _
    rw [r3]
    exact q3.2.2.2.1 _
  · show n16.2.1 (R 8) _ = _
    rw [r4]
    exact q4.2.2.2.1 _
  · show n16.2.1 (R 9) _ = _
    rw [r5]
    exact q5.2.2.2.1 _
  · show n16.2.1 (R 10) _ = _
    rw [r6]
    exact q6.2.2.2.1 _
  · show n16.2.1 (R 11) _ = _
    rw [r7]
    exact q7.2.2.2.1 _
  · show n16.2.1 (R 12) _ = _
    rw [r8]
    exact q8.2.2.2.1 _
  · show n16.2.1 (R 0) 16 = _
    rw [ra]
    exact g5 16 (by decide)
  · show n16.2.1 (R 0) 13 = _
    rw [ra]
    exact g5 13 (by decide)
  · show n16.2.1 (R 23) _ = _
    rw [r15]
    exact q15.2.2.2.1 _
  · show n16.2.1 (R 0) 18 = _
    rw [ra]
    exact g5 18 (by decide)
  · show n16.2.1 (R 0) 20 = _
    rw [ra]
    exact g5 20 (by decide)
  · show n16.2.1 (R 0) 0 = _
    rw [ra]
    exact g5 0 (by decide)
  · show n16.2.1 (R 0) 1 = _
    rw [ra]
    exact g6
  · show n16.2.1 (R 2) _ = _
    rw [r0]
    exact q0.2.2.2.1 _
  · show n16.2.1 (R 0) 3 = _
    rw [ra]
    exact g5 3 (by decide)
  · show n16.2.1 (R 22) _ = _
    rw [r14]
    exact q14.2.2.2.1 _
end L3R
