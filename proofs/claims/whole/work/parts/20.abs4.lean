/-! there is room at last; the other calls -/
section L2z
variable {A B : AS} {Y xs ys g an : List Ent} {a x y : Ent} {key : Int64} {s e n w0 f : Nat}
theorem anx_Y (h : y ∈ (anx A x).Y) : y ∈ A.Y ∨ y.g = 0 := by
  have hY : (if eS (A.Z 96) + ew x ≤ 32 then A else wro A).Y = A.Y := by split <;> rfl
  have h' : y ∈ ((if eS (A.Z 96) + ew x ≤ 32 then A else wro A).Y.filter (fun y => y.k != x.k)) ++ [mE x.k x.v 0 (if eS (A.Z 96) + ew x ≤ 32 then A else wro A).w] := h
  rw [hY] at h'
  rcases List.mem_append.mp h' with q | q
  · exact Or.inl (List.filter_sublist.subset q)
  · simp at q
    exact Or.inr (by rw [q]; rfl)
theorem anx_t : (anx A x).t = A.t + 1 := by
  show (if eS (A.Z 96) + ew x ≤ 32 then A else wro A).t + 1 = _
  split <;> rfl
theorem fold_Y : ∀ (an : List Ent) (A : AS), y ∈ (an.foldl anx A).Y → y ∈ A.Y ∨ y.g = 0
  | [], _, h => Or.inl h
  | x :: an, A, h => by
    rcases fold_Y an (anx A x) h with q | q
    · exact anx_Y q
    · exact Or.inr q
theorem fold_t : ∀ (an : List Ent) (A : AS), (an.foldl anx A).t = A.t + an.length
  | [], _ => rfl
  | x :: an, A => by
    rw [List.foldl_cons, fold_t an (anx A x), anx_t, List.length_cons]
    omega
theorem wop_Y (h : y ∈ (wop A).Y) : y ∈ A.Y ∨ y.g = 0 := by
  have h' : y ∈ (wo1 A).Y := h
  unfold wo1 at h'
  rcases fold_Y _ _ h' with q | q
  · have q' : y ∈ (if isE A then emp A else A).Y := q
    split at q'
    · exact Or.inl (List.filter_sublist.subset q')
    · exact Or.inl q'
  · exact Or.inr q
theorem wop_t (h : AI A) : (wop A).t ≤ A.t + 32 := by
  show (wo1 A).t ≤ _
  unfold wo1
  rw [fold_t]
  have : (wro (if isE A then emp A else A)).t = A.t := by
    show (if isE A then emp A else A).t = A.t
    split <;> rfl
  rw [this]
  have := anl_len h
  omega
theorem roo_AI : ∀ (f : Nat) (A : AS), AI A → AI (roo n f A) ∧ (roo n f A).w ≤ A.w + 4 * f ∧ (roo n f A).t ≤ A.t + 32 * f
  | 0, A, h => ⟨h, Nat.le_refl _, Nat.le_refl _⟩
  | f + 1, A, h => by
    unfold roo
    split
    · exact ⟨h, by omega, by omega⟩
    · obtain ⟨h1, h2, h3⟩ := wop_AI h
      obtain ⟨h4, h5, h6⟩ := roo_AI f (wop A) h1
      have := wop_t h
      exact ⟨h4, by omega, by omega⟩
theorem roo_has (h : eS (A.Z 96) + n ≤ 32) : roo n f A = A := by
  cases f with
  | zero => rfl
  | succ f =>
    unfold roo
    rw [if_pos h]
theorem roo_nE (hn : n ≤ 32) (hE : ¬ isE A) (hf : 1 ≤ f) : eS ((roo n f A).Z 96) + n ≤ 32 := by
  obtain ⟨f, rfl⟩ : ∃ k, f = k + 1 := ⟨f - 1, by omega⟩
  unfold roo
  split
  · assumption
  · have hz := wop_nE hE
    rw [roo_has (by rw [hz, eS_nil]; omega), hz, eS_nil]
    omega
theorem roo_E (hn : n ≤ 32) (h4 : w0 % 4 = 0) (h32 : 32 ≤ w0) : ∀ (k f : Nat) (A : AS), AI A → A.w + 4 * k = w0 + 32 → k ≤ 8 → (∀ e ∈ A.Y, w0 < e.p → e.g = 0) → k + 2 ≤ f → eS ((roo n f A).Z 96) + n ≤ 32 := by
  intro k
  induction k with
  | zero =>
    intro f A h hw hk hg hf
    obtain ⟨f, rfl⟩ : ∃ k, f = k + 1 := ⟨f - 1, by omega⟩
    unfold roo
    split
    · assumption
    · have hE : isE A := ⟨by omega, by omega⟩
      have hJ := wo1_J h hE
      have := (hJ.2.2.2.2 0 (by omega) (fun y hy => by
        obtain ⟨m1, m2, -⟩ := anw_mem hy
        have : ¬ w0 < y.p := fun q => m2 (hg y m1 q)
        omega)).1
      have h1 := hJ.2.2.1
      refine roo_nE hn (fun q => ?_) (by omega)
      have q2 : (wo1 A).w % 4 = 0 := q.2
      omega
  | succ k ih =>
    intro f A h hw hk hg hf
    obtain ⟨f, rfl⟩ : ∃ k, f = k + 1 := ⟨f - 1, by omega⟩
    unfold roo
    split
    · assumption
    · obtain ⟨h1, h2, h3⟩ := wop_AI h
      by_cases q : isE (wop A)
      · have := q.2
        refine ih f (wop A) h1 (by omega) (by omega) (fun e he hlt => ?_) (by omega)
        rcases wop_Y he with r | r
        · exact hg e r hlt
        · exact r
      · exact roo_nE hn q (by omega)
theorem roo_room (h : AI A) (hn : n ≤ 32) : eS ((roo n 32 A).Z 96) + n ≤ 32 := by
  by_cases hE : isE A
  · refine roo_E hn hE.2 hE.1 8 32 A h rfl (by omega) (fun e he hlt => ?_) (by omega)
    have := (h.iy e he).2.1
    omega
  · exact roo_nE hn hE (by omega)
theorem aPut_AI {v : List Int32} (h : AI A) (hl : 1 ≤ v.length ∧ v.length ≤ 8) : AI (aPut key v A) ∧ (aPut key v A).w ≤ A.w + 128 ∧ (aPut key v A).t ≤ A.t + 1025 := by
  obtain ⟨h1, h2, h3⟩ := roo_AI (n := 3 + v.length) 32 A h
  refine ⟨ent_AI (x := mE key v 0 0) h1 (roo_room h (by omega)) hl, h2, ?_⟩
  show (roo (3 + v.length) 32 A).t + 1 ≤ _
  omega
/-- an entry is marked -/
def mk1 (key : Int64) (xs : List Ent) : List Ent := xs.map (fun e => if e.k = key then mE e.k e.v 1 e.p else e)
def fIn (key : Int64) (xs : List Ent) : Option Ent := xs.find? (fun e => e.k == key)
/-- what a get finds -/
def aFnd (key : Int64) (A : AS) : Option Ent := match fIn key A.Y with
  | some x => some x
  | none => if (aBor (A.Z (sN key)) &&& bitF key) = 0 then none else fIn key (A.Z (sN key))
def aGet (key : Int64) (A : AS) : AS := match fIn key A.Y with
  | some x => mA A.Z (mk1 key A.Y) A.w (if x.p = A.w then A.c else cA A.c 9 1) A.t
  | none => if (aBor (A.Z (sN key)) &&& bitF key) = 0 then A else mA (up A.Z (sN key) (mk1 key (A.Z (sN key)))) A.Y A.w (cA A.c 9 1) A.t
def aDel (key : Int64) (A : AS) : AS := mA (aRmZ key A.Z) (A.Y.filter (fun y => y.k != key)) A.w (aRmC key 3 A.Z A.c) A.t
def aNew : AS := mA (fun _ => []) [] 0 (fun _ => 0) 0
theorem mk1_k : (mk1 key xs).map Ent.k = xs.map Ent.k := by
  unfold mk1
  rw [List.map_map]
  apply List.map_congr_left
  intro e _
  show Ent.k (if e.k = key then _ else e) = e.k
  split <;> rfl
theorem mk1_e0 : (mk1 key xs).map e0 = xs.map e0 := by
  unfold mk1
  rw [List.map_map]
  apply List.map_congr_left
  intro e _
  show e0 (if e.k = key then _ else e) = e0 e
  split <;> rfl
theorem mk1_mem (h : y ∈ mk1 key xs) : ∃ e ∈ xs, y.k = e.k ∧ y.v = e.v ∧ y.p = e.p := by
  obtain ⟨e, he, rfl⟩ := List.mem_map.mp h
  refine ⟨e, he, ?_⟩
  split <;> exact ⟨rfl, rfl, rfl⟩
theorem mk1_eS : eS (mk1 key xs) = eS xs := by rw [← eS_e0, mk1_e0, eS_e0]
theorem mk1_p : (mk1 key xs).map Ent.p = xs.map Ent.p := by
  unfold mk1
  rw [List.map_map]
  apply List.map_congr_left
  intro e _
  show Ent.p (if e.k = key then _ else e) = e.p
  split <;> rfl
theorem mk1_so (h : xs.Pairwise (fun a b => a.p ≤ b.p)) : (mk1 key xs).Pairwise (fun a b => a.p ≤ b.p) := by
  have : (xs.map Ent.p).Pairwise (· ≤ ·) := List.pairwise_map.mpr h
  rw [← mk1_p (key := key)] at this
  exact List.pairwise_map.mp this
theorem e0_of (h1 : y.k = x.k) (h2 : y.v = x.v) : e0 y = e0 x := by unfold e0; rw [h1, h2]
theorem aGet_AI (h : AI A) : AI (aGet key A) := by
  unfold aGet
  split
  · refine ⟨?_, h.kz, h.wz, fun e he => ?_, mk1_so h.so⟩
    · show ((mk1 key A.Y).map Ent.k).Nodup
      rw [mk1_k]
      exact h.ky
    · obtain ⟨x, hx, q1, q2, q3⟩ := mk1_mem he
      obtain ⟨h1, h2, h3⟩ := h.iy x hx
      rw [← e0_of q1 q2, ← q3] at h1
      rw [← q3] at h2 h3
      exact ⟨h1, h2, h3⟩
  · split
    · exact h
    · have hs := sN_lt key
      refine ⟨h.ky, fun s hs => ?_, fun p hp => ?_, fun e he => ?_, h.so⟩
      · show ((up A.Z (sN key) (mk1 key (A.Z (sN key))) s).map Ent.k).Nodup ∧ ∀ e ∈ up A.Z (sN key) (mk1 key (A.Z (sN key))) s, sN e.k = s
        by_cases q : s = sN key
        · subst q
          rw [up_same, mk1_k]
          refine ⟨(h.kz _ hs).1, fun e he => ?_⟩
          obtain ⟨x, hx, q1, -, -⟩ := mk1_mem he
          rw [q1]
          exact (h.kz _ hs).2 x hx
        · simp only [up, if_neg q]
          exact h.kz s hs
      · show eS (up A.Z (sN key) (mk1 key (A.Z (sN key))) p) ≤ 32 ∧ ∀ e ∈ up A.Z (sN key) (mk1 key (A.Z (sN key))) p, _
        by_cases q : p = sN key
        · subst q
          rw [up_same, mk1_eS]
          refine ⟨(h.wz _ hp).1, fun e he => ?_⟩
          obtain ⟨x, hx, -, q2, -⟩ := mk1_mem he
          rw [q2]
          exact (h.wz _ hp).2 x hx
        · simp only [up, if_neg q]
          exact h.wz p hp
      · obtain ⟨h1, h2⟩ := h.iy e he
        refine ⟨?_, h2⟩
        have := pl_lt (w := A.w) (p := e.p)
        show e0 e ∈ up A.Z (sN key) _ (pl A.w e.p)
        rw [up, if_neg (by omega)]
        exact h1
theorem aRmZ_ne {Z : Nat → List Ent} {p : Nat} (hp : p ≠ sN key) : aRmZ key Z p = Z p := by
  unfold aRmZ
  split
  · rfl
  · simp [up, hp]
theorem aRmZ_sub {Z : Nat → List Ent} {p : Nat} : (aRmZ key Z p).Sublist (Z p) := by
  by_cases q : p = sN key
  · subst q
    unfold aRmZ
    split
    · exact List.Sublist.refl _
    · rw [up_same]
      exact aEra_sub
  · rw [aRmZ_ne q]
    exact List.Sublist.refl _
theorem aDel_AI (h : AI A) : AI (aDel key A) := by
  have hs := sN_lt key
  have hsub : (A.Y.filter (fun y => y.k != key)).Sublist A.Y := List.filter_sublist
  refine ⟨nd_sub hsub h.ky, fun s hs => ⟨nd_sub aRmZ_sub (h.kz s hs).1, fun e he => (h.kz s hs).2 e (aRmZ_sub.subset he)⟩, fun p hp => ⟨Nat.le_trans (eS_sub aRmZ_sub) (h.wz p hp).1, fun e he => (h.wz p hp).2 e (aRmZ_sub.subset he)⟩, fun e he => ?_, h.so.sublist hsub⟩
  obtain ⟨h1, h2⟩ := h.iy e (hsub.subset he)
  refine ⟨?_, h2⟩
  have := pl_lt (w := A.w) (p := e.p)
  show e0 e ∈ aRmZ key A.Z (pl A.w e.p)
  rw [aRmZ_ne (by omega)]
  exact h1
theorem aNew_AI : AI aNew := ⟨List.nodup_nil, fun s hs => ⟨List.nodup_nil, (fun e he => nomatch he)⟩, fun p hp => ⟨Nat.zero_le _, (fun e he => nomatch he)⟩, (fun e he => nomatch he), List.Pairwise.nil⟩
end L2z
