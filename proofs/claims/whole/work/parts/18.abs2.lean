/-! what holds of the cache without memory -/
section L2x
variable {A : AS} {Y xs ys g : List Ent} {a x : Ent} {key : Int64} {s e n : Nat} {zc : (Nat → List Ent) × (Nat → Int32)} {mk : Int32} {c : Nat → Int32} {Z : Nat → List Ent}
/-- a set's page -/
def PZ (s : Nat) (xs : List Ent) : Prop := (xs.map Ent.k).Nodup ∧ (∀ e ∈ xs, sN e.k = s) ∧ eS xs ≤ 32 ∧ ∀ e ∈ xs, 1 ≤ e.v.length ∧ e.v.length ≤ 8
theorem eS_sub (h : xs.Sublist ys) : eS xs ≤ eS ys := by
  induction h with
  | slnil => exact Nat.le_refl _
  | cons a _ ih => rw [eS_cons]; omega
  | cons_cons a _ ih => rw [eS_cons, eS_cons]; omega
theorem PZ.sub (h : PZ s ys) (hs : xs.Sublist ys) : PZ s xs := ⟨nd_sub hs h.1, fun e he => h.2.1 e (hs.subset he), Nat.le_trans (eS_sub hs) h.2.2.1, fun e he => h.2.2.2 e (hs.subset he)⟩
theorem aEra_sub : (aEra key xs).Sublist xs := List.eraseP_sublist
theorem aM1_sub : ∀ (g xs : List Ent), (aM1 xs g).Sublist xs
  | [], xs => List.Sublist.refl _
  | a :: g, xs => (aM1_sub g _).trans aEra_sub
theorem aDr_sub : ∀ (zs ys : List Ent), (aDr n mk ys zs).Sublist (ys ++ zs)
  | [], ys => by rw [List.append_nil]; exact List.Sublist.refl _
  | z :: zs, ys => by
    unfold aDr
    split
    · exact List.Sublist.refl _
    · split
      · exact (aDr_sub zs ys).trans (List.Sublist.append (List.Sublist.refl _) (List.sublist_cons_self z zs))
      · have := aDr_sub zs (ys ++ [z])
        rw [List.append_assoc] at this
        exact this
theorem aM3_sub : (aM3 xs g).Sublist (aM1 xs g) := by
  have h1 := aDr_sub (n := eS g) (mk := 0) (aM1 xs g) []
  have h2 := aDr_sub (n := eS g) (mk := 1) (aM2 xs g) []
  rw [List.nil_append] at h1 h2
  exact h2.trans h1
theorem aEra_no (hn : (xs.map Ent.k).Nodup) : ∀ e ∈ aEra key xs, e.k ≠ key := by
  induction xs with
  | nil => intro e he; cases he
  | cons x xs ih =>
    rw [List.map_cons, List.nodup_cons] at hn
    intro e he
    unfold aEra at he
    rw [List.eraseP_cons] at he
    by_cases q : x.k = key
    · have qb : (x.k == key) = true := by simp [q]
      rw [qb] at he
      simp only [cond_true] at he
      intro r
      exact hn.1 (by rw [q, ← r]; exact List.mem_map_of_mem he)
    · have qb : (x.k == key) = false := by simp [q]
      rw [qb] at he
      simp only [cond_false] at he
      rcases List.mem_cons.mp he with r | r
      · rw [r]; exact q
      · exact ih hn.2 e r
theorem aM1_no : ∀ (g xs : List Ent), (xs.map Ent.k).Nodup → ∀ e ∈ aM1 xs g, ∀ x ∈ g, e.k ≠ x.k
  | [], _, _, _, _, x, hx => nomatch hx
  | a :: g, xs, hn, e, he, x, hx => by
    have he' : e ∈ aM1 (aEra a.k xs) g := he
    rcases List.mem_cons.mp hx with q | q
    · subst q
      exact aEra_no hn e ((aM1_sub g _).subset he')
    · exact aM1_no g _ (nd_sub aEra_sub hn) e he' x q
/-- what comes in is behind what is there -/
theorem aAd_is : ∀ (g xs : List Ent), eS xs ≤ 32 → ∃ g', g'.Sublist g ∧ aAd xs g = xs ++ g' ∧ eS (aAd xs g) ≤ 32
  | [], xs, h => ⟨[], List.Sublist.refl _, by simp [aAd], h⟩
  | a :: g, xs, h => by
    unfold aAd
    by_cases q : eS xs + eS (a :: g) ≤ 32
    · rw [if_pos q]
      rw [eS_cons] at q
      obtain ⟨g', h1, h2, h3⟩ := aAd_is g (xs ++ [a]) (by rw [eS_app, eS_cons, eS_nil]; omega)
      exact ⟨a :: g', h1.cons_cons a, by rw [h2]; simp, h3⟩
    · rw [if_neg q]
      obtain ⟨g', h1, h2, h3⟩ := aAd_is g xs h
      exact ⟨g', h1.cons a, h2, h3⟩
theorem mapk_e0 : (xs.map e0).map Ent.k = xs.map Ent.k := by
  rw [List.map_map]
  rfl
theorem aMP_PZ (h : PZ s xs) (hg : (g.map Ent.k).Nodup) (hgs : ∀ e ∈ g, sN e.k = s) (hgl : ∀ e ∈ g, 1 ≤ e.v.length ∧ e.v.length ≤ 8) : PZ s (aMP xs g) := by
  have hs := (aM3_sub (xs := xs) (g := g)).trans (aM1_sub g xs)
  have h3 := h.sub hs
  obtain ⟨g', h4, h5, h6⟩ := aAd_is (g.map e0) ((aM3 xs g).map e0) (by rw [eS_e0]; exact h3.2.2.1)
  have hno : ∀ e ∈ aM3 xs g, ∀ x ∈ g, e.k ≠ x.k := fun e he x hx => aM1_no g xs h.1 e (aM3_sub.subset he) x hx
  have inv : ∀ e ∈ aMP xs g, (∃ x ∈ aM3 xs g, e0 x = e) ∨ ∃ x ∈ g, e0 x = e := by
    intro e he
    unfold aMP at he
    rw [h5] at he
    rcases List.mem_append.mp he with q | q
    · exact Or.inl (List.mem_map.mp q)
    · exact Or.inr (List.mem_map.mp (h4.subset q))
  refine ⟨?_, fun e he => ?_, h6, fun e he => ?_⟩
  · unfold aMP
    rw [h5, List.map_append, List.nodup_append]
    refine ⟨by rw [mapk_e0]; exact h3.1, nd_sub h4 (by rw [mapk_e0]; exact hg), fun k1 hk1 k2 hk2 => ?_⟩
    rw [mapk_e0] at hk1
    obtain ⟨e1, m1, rfl⟩ := List.mem_map.mp hk1
    have hk2' := (h4.map Ent.k).subset hk2
    rw [mapk_e0] at hk2'
    obtain ⟨e2, m2, rfl⟩ := List.mem_map.mp hk2'
    exact hno e1 m1 e2 m2
  · rcases inv e he with ⟨x, hx, rfl⟩ | ⟨x, hx, rfl⟩
    · exact h3.2.1 x hx
    · exact hgs x hx
  · rcases inv e he with ⟨x, hx, rfl⟩ | ⟨x, hx, rfl⟩
    · exact h3.2.2.2 x hx
    · exact hgl x hx
theorem gS_mem : x ∈ gS Y s ↔ x ∈ Y ∧ sN x.k = s := by simp [gS]
theorem stp_ne {p : Nat} (hp : p ≠ s) : (stp Y e s zc).1 p = zc.1 p := by
  unfold stp
  split
  · split
    · split
      · rename_i x xs he
        have hx : sN x.k = s := (gS_mem.mp (by rw [he]; exact List.mem_cons_self)).2
        split
        · rfl
        · show aRmZ x.k zc.1 p = _
          unfold aRmZ
          split
          · rfl
          · simp [up, hx, hp]
      · rfl
    · simp [up, hp]
  · rfl
theorem swp_ge : ∀ (n p : Nat), n ≤ p → (swp Y e zc n).1 p = zc.1 p
  | 0, _, _ => rfl
  | n + 1, p, h => by
    show (stp Y e n _).1 p = _
    rw [stp_ne (by omega), swp_ge n p (by omega)]
theorem stp_PZ (hY : (Y.map Ent.k).Nodup) (hl : ∀ e ∈ Y, 1 ≤ e.v.length ∧ e.v.length ≤ 8) (h : PZ s (zc.1 s)) : PZ s ((stp Y e s zc).1 s) := by
  unfold stp
  split
  · split
    · split
      · rename_i x xs he
        split
        · exact h
        · show PZ s (aRmZ x.k zc.1 s)
          unfold aRmZ
          split
          · exact h
          · by_cases q : s = sN x.k
            · rw [← q, up_same]
              exact h.sub aEra_sub
            · simp only [up, if_neg q]
              exact h
      · exact h
    · show PZ s (up zc.1 s _ s)
      rw [up_same]
      exact aMP_PZ h (nd_sub List.filter_sublist hY) (fun e he => (gS_mem.mp he).2) (fun e he => hl e (gS_mem.mp he).1)
  · exact h
theorem swp_PZ (hY : (Y.map Ent.k).Nodup) (hl : ∀ e ∈ Y, 1 ≤ e.v.length ∧ e.v.length ≤ 8) (h : ∀ s, s < 64 → PZ s (zc.1 s)) : ∀ n s, s < 64 → PZ s ((swp Y e zc n).1 s)
  | 0, s, hs => h s hs
  | n + 1, s, hs => by
    show PZ s ((stp Y e n _).1 s)
    by_cases q : s = n
    · subst q
      exact stp_PZ hY hl (swp_PZ hY hl h s s hs)
    · rw [stp_ne q]
      exact swp_PZ hY hl h n s hs
theorem AI.pz (h : AI A) (hs : s < 64) : PZ s (A.Z s) := ⟨(h.kz s hs).1, (h.kz s hs).2, (h.wz s (by omega)).1, (h.wz s (by omega)).2⟩
theorem pl_lt {w p : Nat} : 64 ≤ pl w p ∧ pl w p < 97 := by
  unfold pl
  split <;> omega
theorem AI.ly (h : AI A) : ∀ e ∈ A.Y, 1 ≤ e.v.length ∧ e.v.length ≤ 8 := fun e he => (h.wz _ pl_lt.2).2 (e0 e) (h.iy e he).1
theorem due_of (hx : x ∈ Y) (h : x.p < e) : due Y e (sN x.k) = true := by
  unfold due
  rw [List.any_eq_true]
  exact ⟨x, hx, by simp [h]⟩
/-- a segment is emptied -/
theorem emp_AI (h : AI A) (hE : isE A) : AI (emp A) ∧ (∀ e ∈ (emp A).Y, A.w ≤ e.p + 28) ∧ (emp A).Z 96 = A.Z 96 := by
  have hp := swp_PZ (e := A.w - 28) (zc := (A.Z, A.c)) h.ky h.ly (fun s hs => h.pz hs) 64
  have hge : ∀ p, 64 ≤ p → (emp A).Z p = A.Z p := fun p hp => swp_ge 64 p hp
  have hsub : (emp A).Y.Sublist A.Y := List.filter_sublist
  refine ⟨⟨nd_sub hsub h.ky, fun s hs => ⟨(hp s hs).1, (hp s hs).2.1⟩, fun p hp' => ?_, fun e he => ?_, h.so.sublist hsub⟩, fun e he => ?_, hge 96 (by omega)⟩
  · by_cases q : p < 64
    · exact ⟨(hp p q).2.2.1, (hp p q).2.2.2⟩
    · rw [hge p (by omega)]
      exact h.wz p hp'
  · rw [hge _ pl_lt.1]
    exact h.iy e (hsub.subset he)
  · obtain ⟨h1, h2⟩ := List.mem_filter.mp he
    have := hE.1
    by_cases q : e.p < A.w - 28
    · rw [due_of h1 q] at h2
      cases h2
    · omega
/-- the open page is written -/
theorem wro_AI (h : AI A) (hs : ∀ e ∈ A.Y, 4 * ((A.w + 4) / 4) ≤ e.p + 32) : AI (wro A) := by
  have hZ : ∀ p, (wro A).Z p = if p = 96 then [] else if p = 64 + A.w % 32 then A.Z 96 else A.Z p := fun p => rfl
  refine ⟨h.ky, fun s hs => ?_, fun p hp => ?_, fun e he => ?_, h.so⟩
  · rw [hZ, if_neg (by omega), if_neg (by omega)]
    exact h.kz s hs
  · rw [hZ]
    split
    · exact ⟨Nat.zero_le _, fun e he => nomatch he⟩
    · split
      · exact h.wz 96 (by omega)
      · exact h.wz p hp
  · obtain ⟨h1, h2, h3⟩ := h.iy e he
    have h4 := hs e he
    have e1 : pl (wro A).w e.p = 64 + e.p % 32 := by
      show pl (A.w + 1) e.p = _
      unfold pl
      rw [if_neg (by omega)]
    refine ⟨?_, show e.p ≤ A.w + 1 by omega, h4⟩
    rw [e1, hZ, if_neg (by omega)]
    unfold pl at h1
    by_cases q : e.p = A.w
    · rw [if_pos q] at h1
      rw [q, if_pos rfl]
      exact h1
    · rw [if_neg q] at h1
      rw [if_neg (by omega)]
      exact h1
/-- one comes in -/
theorem ent_AI (h : AI A) (hr : eS (A.Z 96) + ew x ≤ 32) (hl : 1 ≤ x.v.length ∧ x.v.length ≤ 8) : AI (ent x A) := by
  have hZ : ∀ p, (ent x A).Z p = if p = 96 then A.Z 96 ++ [e0 x] else A.Z p := fun p => rfl
  have hsub : (A.Y.filter (fun y => y.k != x.k)).Sublist A.Y := List.filter_sublist
  refine ⟨?_, fun s hs => ?_, fun p hp => ?_, fun e he => ?_, ?_⟩
  · show ((A.Y.filter (fun y => y.k != x.k) ++ [mE x.k x.v 0 A.w]).map Ent.k).Nodup
    rw [List.map_append, List.nodup_append]
    refine ⟨nd_sub hsub h.ky, by simp, fun k1 h1 k2 h2 => ?_⟩
    obtain ⟨y, hy, rfl⟩ := List.mem_map.mp h1
    have := (List.mem_filter.mp hy).2
    simp at h2
    rw [h2]
    exact (by simpa using this : y.k ≠ x.k)
  · rw [hZ, if_neg (by omega)]
    exact h.kz s hs
  · rw [hZ]
    split
    · refine ⟨by rw [eS_app, eS_cons, eS_nil]; exact hr, fun e he => ?_⟩
      rcases List.mem_append.mp he with q | q
      · exact (h.wz 96 (by omega)).2 e q
      · simp at q
        rw [q]
        exact hl
    · exact h.wz p hp
  · rcases List.mem_append.mp he with q | q
    · obtain ⟨h1, h2, h3⟩ := h.iy e (hsub.subset q)
      refine ⟨?_, h2, h3⟩
      rw [hZ]
      show e0 e ∈ if pl A.w e.p = 96 then _ else A.Z (pl A.w e.p)
      split
      · rename_i q
        rw [q] at h1
        exact List.mem_append_left _ h1
      · exact h1
    · simp at q
      subst q
      refine ⟨?_, Nat.le_refl _, show 4 * ((A.w + 3) / 4) ≤ A.w + 32 by omega⟩
      rw [hZ]
      show e0 x ∈ if pl A.w A.w = 96 then _ else _
      rw [if_pos (by simp [pl])]
      simp
  · show (A.Y.filter (fun y => y.k != x.k) ++ [mE x.k x.v 0 A.w]).Pairwise _
    rw [List.pairwise_append]
    refine ⟨h.so.sublist hsub, by simp, fun a ha b hb => ?_⟩
    simp at hb
    subst hb
    exact (h.iy a (hsub.subset ha)).2.1
end L2x
