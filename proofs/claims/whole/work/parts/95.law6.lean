/-! the law from its beginning -/
section L3Y
variable {l : Launch} {G : xG} {Q : XR → XM → Prop} {m : XM} {o0 : Option Nat} {bc bs : Nat}
theorem c_law0 (hst : l.stackTraces = false) (hscr : o0 = some G.2.2.2.1) (hL : G.2.2.2.2.1 ≤ 2048) (hm : ∀ x, m.1 x ≠ some (oB 1)) (hq : ∀ m, Q (.inl (some (vI 1))) m) (hbc : 287 + 2048 ≤ bc) (hbs : 65365 + 13312 ≤ bs) : WW l G xW_law 0 [some (vR o0), none, none, none, none, none, none] [] m bc bs Q := by
  refine bW_law_0 hscr ⟨bc - 1, bs - 8, by omega, by omega, fun a5 f5 m7 h7 => ⟨bc - 269, bs - 2334, by omega, by omega, c_Cinit hst (by rw [h7]; simp [kd, mN]) (fun m13 K ar pg c fg fp hK x13 cr fr b0 f6 o7 => ⟨bc - 270, bs - 2358, by omega, by omega, fun a18 f18 m20 h20 => ⟨bc - 286, bs - 65364, by omega, by omega, c_Minit hst (by rw [h20]; simp [kd, mN]) (fun k => by rw [h20]; simp [mN]) (fun m26 R hR x26 fR mr => ⟨bc - 287, bs - 65365, by omega, by omega, fun a31 f31 m33 h33 => ?_⟩)⟩⟩)⟩⟩
  have y20 : Nx (fun _ => False) m13 m20 := by rw [h20]; exact Nx.new f18 (by decide)
  have y26 : Nx (fun _ => False) m13 m26 := by
    refine ⟨fun x hx => by rw [x26.1 x (by rw [y20.1 x hx]; exact hx), y20.1 x hx], fun x hx _ => ?_, fun x hx => y20.2.2 x (x26.2.2 x hx)⟩
    obtain ⟨p1, p2, p3⟩ := y20.2.1 x hx (fun r => r)
    obtain ⟨r1, r2, r3⟩ := x26.2.1 x (by rw [y20.1 x hx]; exact hx) (fun r => hx (by rw [r]; exact f18))
    exact ⟨r1.trans p1, r2.trans p2, r3.trans p3⟩
  have y33' : Nx (fun _ => False) m26 m33 := by rw [h33]; exact Nx.new f31 (by decide)
  have y33 := y26.tr y33'
  have hx : Xt K (fun _ => False) m13 m33 := ⟨y33.1, fun x hx _ => y33.2.1 x hx (fun r => r), (fun _ r => r.elim), fun _ _ _ _ r => r⟩
  have hni : ∀ x, m33.1 x ≠ some (oB 1) := fun x hx => by
    have h13 := x13.2.2 x (y33.2.2 x hx)
    rw [h7] at h13
    by_cases r : x = a5
    · rw [r] at h13
      simp [mN] at h13
    · simp [mN, r] at h13
      exact hm x h13
  have k0 := cr.kd0
  have k1 := cr.kd1
  obtain ⟨e0, e1, e2, e3⟩ := hx.at k0 (show 4 ≤ 4 by decide)
  have n1 : m13.1 (K 1) ≠ none := by rw [k1]; exact Option.some_ne_none _
  have hk31 : m33.1 a31 = some (aR 2 1) := by rw [h33]; simp [mN]
  have mrk : MR R m33 S00 X00 m33 := mr.kept (fun j hj => by
    have hn : m26.1 (R j) ≠ none := (mr.w.ncl (K := K) hj).1
    obtain ⟨p1, p2, p3⟩ := y33'.2.1 _ hn (fun r => r)
    exact ⟨y33'.1 _ hn, p1, p2, p3⟩)
  have hRK : ∀ j, inU j = true → R j ≠ K 1 := fun j hj r => by
    by_cases j0 : j = 0
    · rw [j0, hR] at r
      rw [r] at f18
      exact n1 f18
    · have := fR j hj j0
      rw [r, y20.1 _ n1] at this
      exact n1 this
  have hmo : ¬ mc R a31 := fun ⟨j, hj, e⟩ => by
    have := (mr.w.ncl (K := K) hj).1
    rw [← e] at this
    exact this f31
  have hCQ : CQ K (LN K R a31) (aCra 0) (fun _ => 0) none 1 m33 := by
    refine ⟨⟨ar, pg, _, _, c, _, _, hx.cr cr⟩, aCra_AI, fun i _ => ?_, ?_, ?_, ⟨fun x hx' => absurd hx' (hni x), fun x hN => ?_⟩, Or.inl rfl⟩
    · rw [(y33.2.1 _ n1 (fun r => r)).1]
      exact b0 i
    · show m33.2.2.2 (K 0) 6 = none
      rw [e3, hK]
      exact f6
    · rw [e1, hK]
      exact o7
    · rcases hN with r | ⟨j, hj, r⟩ | r
      · rw [r, y33.1 _ n1]
        exact n1
      · rw [r]
        exact (mrk.w.ncl (K := K) hj).1
      · rw [r, hk31]
        exact Option.some_ne_none _
  rw [← hK, ← hR]
  exact c_law23 (K := K) (R := R) (o := a31) hst hscr hL hq 513 0 m33 _ _ rfl ⟨aCra 0, fun _ => 0, none, 1, S00, fun _ => 0, [], fun _ => 0, 0, ⟨hCQ, mrk, hk31, hmo, hRK⟩, S00_RA, Or.inr rfl, Nat.zero_le _, Nat.zero_le _⟩ (by omega) (by omega)
end L3Y
