/-! the law's loop -/
section L3X
variable {l : Launch} {G : xG} {Q : XR → XM → Prop} {K R : Nat → Nat} {o : Nat} {o0 : Option Nat}
theorem LawSt.ko {i : Nat} {m : XM} (h : LawSt K R o i m) : kd m o = some (aR 2 1) := by
  obtain ⟨A, b, fo, op, S, du, ix, pn, th, h1, -⟩ := h
  exact h1.ko
theorem c_law23 (hst : l.stackTraces = false) (hscr : o0 = some G.2.2.2.1) (hL : G.2.2.2.2.1 ≤ 2048) (hq : ∀ m, Q (.inl (some (vI 1))) m) : ∀ k i m bc bs, i + k = 513 → LawSt K R o i m → 4 * (512 - i) ≤ bc → 26 * (512 - i) ≤ bs → WW l G xW_law 23 [some (vR o0), some (vR (some (K 0))), some (vR (some (R 0))), some (vR (some o)), some (vI (nI (4 * i))), none, none] [] m bc bs Q := by
  have hend : ∀ n, n < 2 ^ 20 → (Int32.ofNat G.2.2.2.2.1 - (4 : Int32) < nI n ↔ G.2.2.2.2.1 < n + 4) := fun n hn => by
    rw [Int32.lt_iff_toInt_lt, show (4 : Int32) = nI 4 from rfl, show Int32.ofNat G.2.2.2.2.1 = nI G.2.2.2.2.1 from rfl, pk_sub_toInt (by omega) (by omega), nI_toInt (by omega)]
    omega
  intro k
  induction k with
  | zero =>
    intro i m bc bs e h hb hs
    exact bW_law_23 hscr ⟨fun _ => hq m, fun q => absurd ((hend (4 * i) (by omega)).mpr (by omega)) q⟩
  | succ k ih =>
    intro i m bc bs e h hb hs
    refine bW_law_23 hscr ⟨fun _ => hq m, fun q => ?_⟩
    have hlt : 4 * i + 4 ≤ G.2.2.2.2.1 := by
      have : ¬ G.2.2.2.2.1 < 4 * i + 4 := fun r => q ((hend (4 * i) (by omega)).mpr r)
      omega
    have v0 : vp_in (nI (4 * i)) G.2.2.2.2.1 := vp_in_nI (by omega) (by omega)
    have v1 : vp_in (nI (4 * i) + (1 : Int32)) G.2.2.2.2.1 := by rw [nI_1]; exact vp_in_nI (by omega) (by omega)
    have v2 : vp_in (nI (4 * i) + (2 : Int32)) G.2.2.2.2.1 := by rw [show (2 : Int32) = nI 2 from rfl, nI_add]; exact vp_in_nI (by omega) (by omega)
    have v3 : vp_in (nI (4 * i) + (3 : Int32)) G.2.2.2.2.1 := by rw [show (3 : Int32) = nI 3 from rfl, nI_add]; exact vp_in_nI (by omega) (by omega)
    have nx : ∀ m' bc' bs', LawSt K R o (i + 1) m' → bc ≤ bc' + 4 → bs ≤ bs' + 26 → WW l G xW_law 23 [some (vR o0), some (vR (some (K 0))), some (vR (some (R 0))), some (vR (some o)), some (vI (nI (4 * i) + 4)), none, none] [] m' bc' bs' Q := fun m' bc' bs' h' h1 h2 => by
      rw [show (4 : Int32) = nI 4 from rfl, nI_add, show 4 * i + 4 = 4 * (i + 1) by omega]
      exact ih (i + 1) m' bc' bs' (by omega) h' (by omega) (by omega)
    have vz : vp_in (0 : Int32) 1 := vp_in_nI (n := 0) (by omega) (by omega)
    refine ⟨v0, fun _ => ⟨v1, v2, bc - 1, bs - 6, by omega, by omega, c_Lword hst h ?_ (fun v m1 hh => ⟨v1, v2, R 0, rfl, hh⟩)⟩, fun _ => ⟨v1, v2, v3, bc - 4, bs - 26, by omega, by omega, c_Lput hst h (by omega) ?_ (fun v m1 hh => ⟨v1, v2, v3, R 0, rfl, hh⟩)⟩, fun _ => ⟨v1, v2, bc - 1, bs - 6, by omega, by omega, c_Lget hst h ?_ (fun v m1 hh => ⟨v1, v2, R 0, rfl, hh⟩)⟩, fun _ => ⟨v1, bc - 1, bs - 6, by omega, by omega, c_Lgot hst h ?_ (fun v m1 hh => ⟨v1, R 0, rfl, hh⟩)⟩, fun _ => ⟨v1, v2, bc - 1, bs - 6, by omega, by omega, c_Ldelete hst h ?_ (fun v m1 hh => ⟨v1, v2, R 0, rfl, hh⟩)⟩, fun _ => ?_, fun _ => ⟨v1, v2, bc - 1, bs - 6, by omega, by omega, c_Lwhere hst h ?_ (fun v m1 hh => ⟨v1, v2, R 0, rfl, hh⟩)⟩, fun _ => ⟨v1, v2, bc - 1, bs - 6, by omega, by omega, c_Lflash hst h ?_ (fun v m1 hh => ⟨v1, v2, R 0, rfl, hh⟩)⟩, fun _ => ⟨bc - 1, bs - 6, by omega, by omega, c_Lclose hst h ?_ (fun v m1 hh => ⟨R 0, rfl, hh⟩)⟩, fun _ => ⟨bc - 1, bs - 6, by omega, by omega, c_Lcrash hst h ?_ (fun v m1 hh => ⟨R 0, rfl, hh⟩)⟩, fun _ => ⟨bc - 1, bs - 6, by omega, by omega, c_Lopen hst h ?_ (fun v m1 hh => ⟨R 0, rfl, hh⟩)⟩, fun _ => ?_, fun _ => nx m bc bs h.next (by omega) (by omega)⟩
    · intro m' v u hs hg
      exact ⟨fun _ => ⟨fun _ => nx m' _ _ hs (by omega) (by omega), fun r => ⟨o, rfl, 1, hs.ko, vz, fun _ => nx m' _ _ hs (by omega) (by omega), fun t => absurd (lgc0.mpr (hg r)) t⟩⟩, fun t => absurd rfl t⟩
    · intro m' v hs
      exact ⟨fun _ => nx m' _ _ hs (by omega) (by omega), fun t => absurd rfl t⟩
    · intro m' v u hs hg
      exact ⟨fun _ => ⟨fun _ => nx m' _ _ hs (by omega) (by omega), fun r => ⟨o, rfl, 1, hs.ko, vz, fun _ => nx m' _ _ hs (by omega) (by omega), fun t => absurd (lgc0.mpr (hg r)) t⟩⟩, fun t => absurd rfl t⟩
    · intro m' v u hs hg
      exact ⟨fun _ => ⟨fun _ => nx m' _ _ hs (by omega) (by omega), fun r => ⟨o, rfl, 1, hs.ko, vz, fun _ => nx m' _ _ hs (by omega) (by omega), fun t => absurd (lgc0.mpr (hg r)) t⟩⟩, fun t => absurd rfl t⟩
    · intro m' v u hs hg
      exact ⟨fun _ => ⟨fun _ => nx m' _ _ hs (by omega) (by omega), fun r => ⟨o, rfl, 1, hs.ko, vz, fun ru => ⟨fun _ => nx m' _ _ hs (by omega) (by omega), fun t => absurd (lgc0.mpr (by have := hg r; rw [if_pos ru] at this; exact this)) t⟩, fun ru => ⟨fun _ => nx m' _ _ hs (by omega) (by omega), fun t => absurd (lgc0.mpr (by have := hg r; rw [if_neg ru] at this; exact this)) t⟩⟩⟩, fun t => absurd rfl t⟩
    · refine ⟨v1, v2, K 0, rfl, c_LsetOf hst h ?_ (fun v m1 hh => ⟨v1, v2, R 0, rfl, hh⟩)⟩
      intro m' v hs
      exact ⟨fun _ => nx m' _ _ hs (by omega) (by omega), fun t => absurd rfl t⟩
    · intro m' v u hs hg
      exact ⟨fun _ => ⟨fun _ => nx m' _ _ hs (by omega) (by omega), fun r => ⟨o, rfl, 1, hs.ko, vz, fun _ => nx m' _ _ hs (by omega) (by omega), fun t => absurd (lgc0.mpr (hg r)) t⟩⟩, fun t => absurd rfl t⟩
    · intro m' v u hs hg
      exact ⟨fun _ => ⟨fun _ => nx m' _ _ hs (by omega) (by omega), fun r => ⟨o, rfl, 1, hs.ko, vz, fun _ => nx m' _ _ hs (by omega) (by omega), fun t => absurd (lgc0.mpr (hg r)) t⟩⟩, fun t => absurd rfl t⟩
    · intro m' v hs
      exact ⟨fun _ => nx m' _ _ hs (by omega) (by omega), fun t => absurd rfl t⟩
    · intro m' v hs
      exact ⟨fun _ => nx m' _ _ hs (by omega) (by omega), fun t => absurd rfl t⟩
    · intro m' v u hs hg
      exact ⟨fun _ => ⟨fun _ => nx m' _ _ hs (by omega) (by omega), fun r => ⟨o, rfl, 1, hs.ko, vz, fun _ => nx m' _ _ hs (by omega) (by omega), fun t => absurd (lgc0.mpr (hg r)) t⟩⟩, fun t => absurd rfl t⟩
    · refine ⟨v1, K 0, rfl, c_Lcount hst h ?_ (fun v m1 hh => ⟨v1, R 0, rfl, hh⟩)⟩
      intro m' v hs
      exact ⟨fun _ => nx m' _ _ hs (by omega) (by omega), fun t => absurd rfl t⟩
end L3X
