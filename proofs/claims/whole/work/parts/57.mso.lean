/-! the reference puts those to be put anew in order -/
section L3J
variable {l : Launch} {G : xG} {Q : XR → XM → Prop} {R : Nat → Nat} {m0 m m' : XM} {S S' S1 S2 : RS} {X X' : RX} {A B : AS} {ix g xs ys zs rest hs0 : List Nat} {pn : Nat → Nat} {n p s i x v : Nat} {key : Int64} {c : Nat → Int32}
theorem RS.hh {a b : List Nat} : (S.sh a).sh b = S.sh b := by
  simp only [RS.sh, RS.P, RS.k, RS.l, RS.v, RS.nw, RS.gt, RS.cm, RS.mk, RS.w, RS.t, RS.c, RS.g, RS.h, mS]
  rfl
theorem swap_eq {a b : List Nat} {x y : Nat} : ((a ++ y :: x :: b).set (a.length + 1) y).set a.length x = a ++ x :: y :: b := by
  rw [List.set_append_right _ _ (by omega), List.set_append_right _ _ (by omega)]
  simp
theorem c_sort12 (hst : l.stackTraces = false) (hi : i < 264)
    (hk : ∀ cur m', cur.Pairwise (fun a b => S.cm a < S.cm b) → cur.length = i + 1 → (cur ++ rest).Perm hs0 → MR R m0 (S.sh (cur ++ rest)) X m' → WW l G xM_sortAgain 2 [some (vR (some (R 0))), some (vI (nI (i + 1))), none, none] [] m' 0 0 Q) :
    ∀ n a x b mm, a.length = n → a.length + b.length = i → (a ++ b).Pairwise (fun a b => S.cm a < S.cm b) → (∀ z ∈ b, S.cm x < S.cm z) → (∀ y ∈ a, S.cm y ≠ S.cm x) → (a ++ x :: (b ++ rest)).Perm hs0 → MR R m0 (S.sh (a ++ x :: (b ++ rest))) X mm → WW l G xM_sortAgain 12 [some (vR (some (R 0))), some (vI (nI i)), some (vI (nI n)), none] [] mm 0 0 Q := by
  intro n
  induction n with
  | zero =>
    intro a x b mm ha hab hso hxb hne hpe hR
    have ea : a = [] := List.length_eq_zero_iff.mp ha
    subst ea
    refine bM_sortAgain_12 ⟨fun _ => ?_, fun q => absurd Int32.le_rfl q⟩
    rw [nI_1]
    refine hk (x :: b) mm (List.pairwise_cons.mpr ⟨hxb, hso⟩) (by simp at hab ⊢; omega) hpe hR
  | succ n ih =>
    intro a x b mm ha hab hso hxb hne hpe hR
    obtain ⟨a', y, rfl⟩ : ∃ a' y, a = a' ++ [y] := by
      rcases List.eq_nil_or_concat a with r | ⟨a', y, r⟩
      · rw [r] at ha
        simp at ha
      · exact ⟨a', y, by rw [r]; simp⟩
    have hn : a'.length = n := by simp at ha; exact ha
    have ecur : a' ++ [y] ++ x :: (b ++ rest) = a' ++ y :: x :: (b ++ rest) := by simp
    rw [ecur] at hR hpe
    have hhg := hR.hh
    rw [RS.h_sh] at hhg
    obtain ⟨b1, b2, b3, b4⟩ := hhg
    have hy : gI mm (R 21) n = nI y := b3 n y (by rw [← hn]; exact at_mid rfl)
    have hx : gI mm (R 21) (n + 1) = nI x := b3 (n + 1) x (by
      rw [List.getElem?_append_right (by omega), show n + 1 - a'.length = 1 by omega]
      rfl)
    have hy4 : y < 4096 := b4 y (by simp)
    have hx4 : x < 4096 := b4 x (by simp)
    have hcy := hR.cm hy4
    have hcx := hR.cm hx4
    rw [RS.cm_sh] at hcy hcx
    have en : nI (n + 1) - 1 = nI n := by
      rw [show (1 : Int32) = nI 1 from rfl, pk_sub (by omega)]
      congr 1
    have hni : n + 1 ≤ i := by simp at hab; omega
    have hso' := hso
    rw [List.append_assoc, List.pairwise_append] at hso'
    obtain ⟨p1, p2, p3⟩ := hso'
    refine bM_sortAgain_12 ⟨fun q => ?_, fun _ => ⟨hR.w.k0, R 21, hR.w.r21, 300, hR.w.k21, vp_in_nI (by omega) (by omega), R 11, hR.w.r11, 4096, hR.w.k11, ?_, ?_, ?_, fun q => ?_, fun q => ⟨vp_in_nI (by omega) (by omega), ?_, vp_in_nI (by omega) (by omega), fun m17 hm17 => ⟨?_, fun m19 hm19 => ?_⟩⟩⟩⟩
    · rw [show (0 : Int32) = nI 0 from rfl, nI_leI (by omega) (by omega)] at q
      omega
    · rw [nI_clamp (by omega), hx]
      exact vp_in_nI hx4 (by omega)
    · rw [en]
      exact vp_in_nI (by omega) (by omega)
    · rw [en, nI_clamp (by omega), hy]
      exact vp_in_nI hy4 (by omega)
    · rw [en, nI_clamp (by omega), nI_clamp (by omega), hy, hx, nI_clamp (by omega), nI_clamp (by omega), hcy.1, hcx.1, nI_leI (by omega) (by omega)] at q
      have hlt : S.cm y < S.cm x := Nat.lt_of_le_of_ne q (hne y (by simp))
      rw [nI_1]
      refine hk (a' ++ y :: x :: b) mm ?_ (by simp at hab ⊢; omega) (by simpa using hpe) (by simpa using hR)
      rw [List.pairwise_append]
      refine ⟨p1, List.pairwise_cons.mpr ⟨fun z hz => ?_, List.pairwise_cons.mpr ⟨hxb, (List.pairwise_cons.mp p2).2⟩⟩, fun c hc z hz => ?_⟩
      · rcases List.mem_cons.mp hz with r | r
        · rw [r]; exact hlt
        · have := hxb z r
          omega
      · have hcy' := p3 c hc y (by simp)
        rcases List.mem_cons.mp hz with r | r
        · rw [r]; exact hcy'
        · rcases List.mem_cons.mp r with t | t
          · rw [t]; omega
          · have := hxb z t
            omega
    · rw [en]
      exact vp_in_nI (by omega) (by omega)
    · rw [en]
      exact vp_in_nI (by omega) (by omega)
    · rw [en, nI_clamp (by omega), nI_clamp (by omega), hy, hx, nI_clamp (by omega), nI_clamp (by omega), hcy.1, hcx.1, nI_leI (by omega) (by omega)] at q
      rw [en, nI_clamp (by omega), nI_clamp (by omega), hy] at hm17
      rw [en, nI_clamp (by omega), nI_clamp (by omega), hx] at hm19
      have h17 := hR.s21 (j := n + 1) hy4
      rw [← hm17, RS.h_sh, RS.hh] at h17
      have h19 := h17.s21 (j := n) hx4
      rw [← hm19, RS.h_sh, RS.hh, ← hn, swap_eq] at h19
      rw [pk_m1]
      refine ih a' x (y :: b) m19 hn (by simp at hab ⊢; omega) ?_ (fun z hz => ?_) (fun z hz => hne z (by simp [hz])) ?_ (by simpa using h19)
      · simpa using hso
      · rcases List.mem_cons.mp hz with r | r
        · rw [r]; omega
        · exact hxb z r
      · have : (a' ++ x :: y :: (b ++ rest)).Perm (a' ++ y :: x :: (b ++ rest)) := List.Perm.append_left _ (List.Perm.swap _ _ _)
        simpa using this.trans hpe
theorem c_Msort (hst : l.stackTraces = false) (h : MR R m0 S X m) (hcm : (S.h.map S.cm).Nodup) (hq : ∀ hs m', hs.Pairwise (fun a b => S.cm a < S.cm b) → hs.Perm S.h → MR R m0 (S.sh hs) X m' → Q (.inl none) m') : CC l G xM_sortAgain [vR (some (R 0))] m Q := by
  refine bM_sortAgain hst ?_
  obtain ⟨b1, b2, b3, b4⟩ := h.hh
  have loop : ∀ k i mm pre rest, i + k = S.h.length → pre.length = i → rest.length = k → pre.Pairwise (fun a b => S.cm a < S.cm b) → (pre ++ rest).Perm S.h → MR R m0 (S.sh (pre ++ rest)) X mm → WW l G xM_sortAgain 2 [some (vR (some (R 0))), some (vI (nI i)), none, none] [] mm 0 0 Q := by
    intro k
    induction k with
    | zero =>
      intro i mm pre rest e hp hr hso hpe hR
      have er : rest = [] := List.length_eq_zero_iff.mp hr
      subst er
      rw [List.append_nil] at hpe hR
      have e20 : gI mm (R 0) 20 = nI i := by rw [hR.hh.1, RS.h_sh, hp]
      refine bM_sortAgain_2 ⟨hR.w.k0, fun _ => hq pre mm hso hpe hR, fun q => ?_⟩
      rw [e20] at q
      exact absurd Int32.le_rfl q
    | succ k ih =>
      intro i mm pre rest e hp hr hso hpe hR
      obtain ⟨x, r', rfl⟩ : ∃ x r', rest = x :: r' := by
        cases rest with
        | nil => simp at hr
        | cons x r' => exact ⟨x, r', rfl⟩
      have e20 : gI mm (R 0) 20 = nI (i + (k + 1)) := by
        rw [hR.hh.1, RS.h_sh, List.length_append, hp, hr]
      refine bM_sortAgain_2 ⟨hR.w.k0, fun q => ?_, fun _ => ?_⟩
      · rw [e20, nI_leI (by omega) (by omega)] at q
        omega
      refine c_sort12 (S := S) (rest := r') (hs0 := S.h) (i := i) hst (by omega) (fun cur m' hcs hcl hcp hcR => ?_) i pre x [] mm hp (by simp; exact hp) (by rw [List.append_nil]; exact hso) (fun z hz => nomatch hz) (fun y hy r => ?_) (by simpa using hpe) (by simpa using hR)
      · exact ih (i + 1) m' cur r' (by omega) hcl (by simp at hr; exact hr) hcs hcp hcR
      · have hnd : ((pre ++ x :: r').map S.cm).Nodup := (hpe.map S.cm).nodup_iff.mpr hcm
        rw [List.map_append, List.nodup_append] at hnd
        exact hnd.2.2 (S.cm y) (List.mem_map_of_mem hy) (S.cm x) (by simp) r
  cases eh : S.h with
  | nil =>
    have e20 : gI m (R 0) 20 = nI 0 := by rw [b1, eh]; rfl
    refine bM_sortAgain_2 ⟨h.w.k0, fun _ => hq [] m List.Pairwise.nil (by rw [eh]) ?_, fun q => ?_⟩
    · have := RS.sh_self (S := S)
      rw [eh] at this
      rw [this]
      exact h
    · rw [e20] at q
      exact absurd (by decide) q
  | cons x r =>
    have hl : S.h.length = r.length + 1 := by rw [eh]; rfl
    refine loop r.length 1 m [x] r (by omega) rfl rfl (List.pairwise_singleton _ _) (by rw [eh]; exact List.Perm.refl _) ?_
    have := RS.sh_self (S := S)
    rw [eh] at this
    show MR R m0 (S.sh (x :: r)) X m
    rw [this]
    exact h
end L3J
