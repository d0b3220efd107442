/-! the cache's state by addresses and the cache without memory -/
def vlist (m : XM) (a : Nat) : List Int32 := (List.range (vlen m a)).map (vals m a)
def tS (m : XM) (fg : Nat → Int32) (a : Nat) : Ent := mE (m.2.2.1 a 0) (vlist m a) (fg a) 0
def tL (m : XM) (a : Nat) : Ent := mE (m.2.2.1 a 0) (vlist m a) 0 0
def tY (m : XM) (fg fp : Nat → Int32) (a : Nat) : Ent := mE (m.2.2.1 a 0) (vlist m a) (fg a) (fp a).toNatClampNeg
def ag (c d : Nat → Int32) : Prop := ∀ k, k < 11 → c k = d k
/-- what a call of the cache may have changed -/
def Cf (K : Nat → Nat) (m0 m : XM) : Prop := m.1 = m0.1 ∧ (∀ b, ¬ clsK K b (m0.1 b) → m.2.1 b = m0.2.1 b ∧ m.2.2.1 b = m0.2.2.1 b ∧ m.2.2.2 b = m0.2.2.2 b) ∧ (∀ a, m0.1 a = some (oB 1) → m.2.2.1 a = m0.2.2.1 a ∧ m.2.2.2 a = m0.2.2.2 a ∧ ∀ k, k ≠ 4 → k ≠ 5 → m.2.1 a k = m0.2.1 a k) ∧ m.2.1 (K 0) = m0.2.1 (K 0) ∧ m.2.2.2 (K 0) = m0.2.2.2 (K 0)
def CR (K ar : Nat → Nat) (m0 : XM) (pg : Nat → Nat) (Z : Nat → List Nat) (Y : List Nat) (c fg fp : Nat → Int32) (A : AS) (m : XM) : Prop := CS K ar m0 pg Z Y A.w c fg fp m ∧ ag c A.c ∧ (∀ s, s < 64 → A.Z s = (Z s).map (tS m0 fg)) ∧ (∀ p, 64 ≤ p → p < 97 → A.Z p = (Z p).map (tL m0)) ∧ A.Y = Y.map (tY m0 fg fp) ∧ (∀ s, s < 64 → ∀ a ∈ Z s, a ∉ Y) ∧ ∀ a ∈ Y, fp a = nI (fp a).toNatClampNeg
section L2A
variable {K ar : Nat → Nat} {m0 m m' m'' : XM} {T T' : Nat → Ent} {pg : Nat → Nat} {Z : Nat → List Nat} {Y xs ys g : List Nat} {w j a s : Nat} {c d fg fp : Nat → Int32} {key : Int64} {A : AS}
theorem ag.add {k : Nat} {v : Int32} (h : ag c d) : ag (cA c k v) (cA d k v) := by
  intro j hj
  unfold cA up
  by_cases q : j = k
  · subst q
    simp [h j hj]
  · simp [q, h j hj]
theorem Cf.rf : Cf K m m := ⟨rfl, fun _ _ => ⟨rfl, rfl, rfl⟩, fun _ _ => ⟨rfl, rfl, fun _ _ _ => rfl⟩, rfl, rfl⟩
theorem Cf.tr (h : Cf K m m') (h' : Cf K m' m'') : Cf K m m'' := by
  obtain ⟨a1, a2, a3, a4, a5⟩ := h
  obtain ⟨b1, b2, b3, b4, b5⟩ := h'
  refine ⟨b1.trans a1, fun b hb => ?_, fun a ha => ?_, b4.trans a4, b5.trans a5⟩
  · obtain ⟨p1, p2, p3⟩ := a2 b hb
    obtain ⟨q1, q2, q3⟩ := b2 b (by rw [a1]; exact hb)
    exact ⟨q1.trans p1, q2.trans p2, q3.trans p3⟩
  · obtain ⟨p1, p2, p3⟩ := a3 a ha
    obtain ⟨q1, q2, q3⟩ := b3 a (by rw [a1]; exact ha)
    exact ⟨q1.trans p1, q2.trans p2, fun k n4 n5 => (q3 k n4 n5).trans (p3 k n4 n5)⟩
theorem Cl.cf (h : Cl K m0 m) : Cf K m0 m := ⟨h.1, h.2.1, h.2.2.1, h.2.2.2.1, h.2.2.2.2.1⟩
theorem Cf.vl (h : Cf K m0 m) (hi : Itm m0 a) : vlist m a = vlist m0 a ∧ m.2.2.1 a 0 = m0.2.2.1 a 0 := by
  obtain ⟨v, h1, h2, h3, h4⟩ := hi.vl
  obtain ⟨e1, e2, e3⟩ := h.2.2.1 a hi.1
  have hl : vlen m a = vlen m0 a := vlen_eq e2 h.1
  have hv : ¬ clsK K v (m0.1 v) := by
    rw [h2]
    show ¬ (0 = 3 ∨ 0 = 4 ∨ (0 = 0 ∧ ((vlen m0 a = 11 ∧ v = K 4) ∨ (vlen m0 a = 64 ∧ v = K 10))))
    omega
  refine ⟨?_, by rw [e1]⟩
  unfold vlist
  rw [hl]
  apply List.map_congr_left
  intro i _
  unfold vals
  rw [e2, h1]
  show m.2.1 v i = m0.2.1 v i
  rw [(h.2.1 v hv).1]
theorem Cf.it (h : Cf K m0 m) (ha : Itm m0 a) : Itm m a := by
  obtain ⟨h1, ⟨v, n, h2, h3, h4⟩, h5, h6⟩ := ha
  obtain ⟨e1, e2, e3⟩ := h.2.2.1 a h1
  refine ⟨by show m.1 a = _; rw [h.1]; exact h1, ⟨v, n, ?_, ?_, h4⟩, ?_, ?_⟩
  · show m.2.2.2 a 1 = some v
    rw [e2]
    exact h2
  · show m.1 v = _
    rw [h.1]
    exact h3
  · show m.2.1 a 2 = setF (m.2.2.1 a 0)
    rw [e1, e3 2 (by decide) (by decide)]
    exact h5
  · show m.2.2.1 a 3 = bitF (m.2.2.1 a 0)
    rw [e1]
    exact h6
/-- the same item before -/
theorem CS.it0 (h : CS K ar m0 pg Z Y w c fg fp m) (ha : Itm m a) : Itm m0 a := by
  obtain ⟨h1, ⟨v, n, h2, h3, h4⟩, h5, h6⟩ := ha
  have h1' : m0.1 a = some (oB 1) := h.itm h1
  obtain ⟨e1, e2, e3⟩ := h.2.2.2.2.2.1 a h1'
  refine ⟨h1', ⟨v, n, ?_, ?_, h4⟩, ?_, ?_⟩
  · show m0.2.2.2 a 1 = some v
    rw [← e2]
    exact h2
  · show m0.1 v = _
    rw [← h.kd0]
    exact h3
  · show m0.2.1 a 2 = setF (m0.2.2.1 a 0)
    rw [← e1, ← e3 2 (by decide) (by decide)]
    exact h5
  · show m0.2.2.1 a 3 = bitF (m0.2.2.1 a 0)
    rw [← e1]
    exact h6
theorem CS.itZ (h : CS K ar m0 pg Z Y w c fg fp m) (hj : j < 97) : ∀ a ∈ Z j, Itm m0 a := fun a ha => h.it0 ((h.1.2.1 j hj).2.2.2.2.2.1 a ha)
theorem CS.itY (h : CS K ar m0 pg Z Y w c fg fp m) : ∀ a ∈ Y, Itm m0 a := fun a ha => h.it0 (h.1.2.2.1.2.2.2.2.2.2.2.2.1 a ha)
theorem CS.rebase (h : CS K ar m0 pg Z Y w c fg fp m) : CS K ar m pg Z Y w c fg fp m := ⟨h.1, h.2.1, fun a ha => h.2.2.1 a (by rw [← h.kd0]; exact ha), Cl.rf⟩
theorem CR.rebase (h : CR K ar m0 pg Z Y c fg fp A m) : CR K ar m pg Z Y c fg fp A m := by
  obtain ⟨h1, h2, h3, h4, h5, h6, h7⟩ := h
  have hf := h1.2.2.2.cf
  refine ⟨h1.rebase, h2, fun s hs => ?_, fun p hp hp' => ?_, ?_, h6, h7⟩
  · rw [h3 s hs]
    apply List.map_congr_left
    intro a ha
    obtain ⟨e1, e2⟩ := hf.vl (h1.itZ (by omega) a ha)
    unfold tS
    rw [e1, e2]
  · rw [h4 p hp hp']
    apply List.map_congr_left
    intro a ha
    obtain ⟨e1, e2⟩ := hf.vl (h1.itZ (by omega) a ha)
    unfold tL
    rw [e1, e2]
  · rw [h5]
    apply List.map_congr_left
    intro a ha
    obtain ⟨e1, e2⟩ := hf.vl (h1.itY a ha)
    unfold tY
    rw [e1, e2]
/-! the same by lists of entries -/
theorem ew_iw {k : Int64} {g : Int32} {p : Nat} : ew (mE k (vlist m a) g p) = iw m a := by
  show 3 + (vlist m a).length = 3 + vlen m a
  unfold vlist
  rw [List.length_map, List.length_range]
theorem era_map (hk : ∀ a, (T a).k = m.2.2.1 a 0) : (era m key xs).map T = aEra key (xs.map T) := by
  unfold era aEra
  rw [List.eraseP_map]
  congr 2
  funext a
  simp [hk]
theorem has_map (hk : ∀ a, (T a).k = m.2.2.1 a 0) : has m key xs = aHas key (xs.map T) := by
  unfold has aHas
  rw [List.any_map]
  congr 1
  funext a
  simp [hk]
theorem wsum_map (hw : ∀ a, ew (T a) = iw m a) : eS (xs.map T) = wsum m xs := by
  unfold eS wsum
  rw [List.map_map]
  congr 1
  apply List.map_congr_left
  intro a _
  exact hw a
theorem erL_map (hk : ∀ a, (T a).k = m.2.2.1 a 0) (hk' : ∀ a, (T' a).k = m.2.2.1 a 0) : ∀ (g xs : List Nat), (erL m g xs).map T = aM1 (xs.map T) (g.map T')
  | [], xs => rfl
  | a :: g, xs => by
    show (erL m g (era m (m.2.2.1 a 0) xs)).map T = aM1 (aEra (T' a).k (xs.map T)) (g.map T')
    rw [erL_map hk hk' g, era_map hk, hk']
theorem drq_map {n : Nat} {mk : Int32} (hw : ∀ a, ew (T a) = iw m a) (hg : ∀ a, (T a).g = fg a) : ∀ (zs ys : List Nat), (drq m fg n mk ys zs).map T = aDr n mk (ys.map T) (zs.map T)
  | [], ys => rfl
  | z :: zs, ys => by
    unfold drq
    rw [List.map_cons, aDr, ← List.map_cons, ← List.map_append, wsum_map hw, hg]
    split
    · rfl
    · split
      · exact drq_map hw hg zs ys
      · rw [drq_map hw hg zs (ys ++ [z]), List.map_append]
        rfl
theorem adL_map (hw : ∀ a, ew (T a) = iw m a) : ∀ (g xs : List Nat), (adL m xs g).map T = aAd (xs.map T) (g.map T)
  | [], xs => rfl
  | a :: g, xs => by
    unfold adL
    rw [List.map_cons, aAd, ← List.map_cons, wsum_map hw, wsum_map hw]
    split
    · rw [adL_map hw g (xs ++ [a]), List.map_append]
      rfl
    · exact adL_map hw g xs
theorem adC_map (hw : ∀ a, ew (T a) = iw m a) : ∀ (g xs : List Nat), adC m xs g = aAdC (xs.map T) (g.map T)
  | [], xs => rfl
  | a :: g, xs => by
    unfold adC
    rw [List.map_cons, aAdC, ← List.map_cons, wsum_map hw, wsum_map hw]
    split
    · rw [adC_map hw g (xs ++ [a]), List.map_append]
      rfl
    · rw [adC_map hw g xs]
theorem bors_map (hk : ∀ a, (T a).k = m.2.2.1 a 0) (hx : ∀ a ∈ xs, Itm m a) : bors m xs = aBor (xs.map T) := by
  have : ∀ (xs : List Nat) (b : Int64), (∀ a ∈ xs, Itm m a) → xs.foldl (fun f a => f ||| m.2.2.1 a 3) b = (xs.map T).foldl (fun f e => f ||| bitF e.k) b := by
    intro xs
    induction xs with
    | nil => intro b _; rfl
    | cons x xs ih =>
      intro b hx
      rw [List.map_cons, List.foldl_cons, List.foldl_cons, ih _ (fun a ha => hx a (List.mem_cons_of_mem _ ha)), hk, show m.2.2.1 x 3 = _ from (hx x List.mem_cons_self).2.2.2]
  exact this xs 0 hx
theorem mv1_map : (mv1 m xs g).map (tS m fg) = aM1 (xs.map (tS m fg)) (g.map (tY m fg fp)) := erL_map (fun _ => rfl) (fun _ => rfl) g xs
theorem mv2_map : (mv2 m fg xs g).map (tS m fg) = aM2 (xs.map (tS m fg)) (g.map (tY m fg fp)) := by
  unfold mv2 aM2
  rw [drq_map (T := tS m fg) (fg := fg) (fun _ => ew_iw) (fun _ => rfl), mv1_map (fp := fp), wsum_map (T := tY m fg fp) (fun _ => ew_iw)]
  rfl
theorem mv3_map : (mv3 m fg xs g).map (tS m fg) = aM3 (xs.map (tS m fg)) (g.map (tY m fg fp)) := by
  unfold mv3 aM3
  rw [drq_map (T := tS m fg) (fg := fg) (fun _ => ew_iw) (fun _ => rfl), mv2_map (fp := fp), wsum_map (T := tY m fg fp) (fun _ => ew_iw)]
  rfl
theorem tS_e0 : (xs.map (tS m fg)).map e0 = xs.map (tL m) := by
  rw [List.map_map]
  rfl
theorem tY_e0 : (xs.map (tY m fg fp)).map e0 = xs.map (tL m) := by
  rw [List.map_map]
  rfl
theorem mvP_map : (mvP m fg xs g).map (tL m) = aMP (xs.map (tS m fg)) (g.map (tY m fg fp)) := by
  unfold mvP aMP
  rw [adL_map (T := tL m) (fun _ => ew_iw), ← mv3_map, tS_e0, tY_e0]
theorem mvC_map : mvC m fg xs g c = aMC (xs.map (tS m fg)) (g.map (tY m fg fp)) c := by
  unfold mvC aMC
  rw [← mv1_map, ← mv2_map, ← mv3_map, tS_e0, tY_e0, ← adC_map (T := tL m) (fun _ => ew_iw)]
  simp only [List.length_map]
theorem rmZ_map (hx : ∀ a ∈ Z (sN key), Itm m a) (s : Nat) : (rmZ m key Z s).map (tS m fg) = aRmZ key (fun s => (Z s).map (tS m fg)) s := by
  unfold rmZ aRmZ
  rw [← bors_map (T := tS m fg) (fun _ => rfl) hx]
  split
  · rfl
  · unfold up
    split
    · exact era_map (fun _ => rfl)
    · rfl
theorem ag_aMC {xs g : List Ent} (h : ag c d) : ag (aMC xs g c) (aMC xs g d) := ((((((h.add).add).add).add).add).add)
theorem ag_aRmC {Z : Nat → List Ent} {k : Nat} (h : ag c d) : ag (aRmC key k Z c) (aRmC key k Z d) := by
  unfold aRmC
  split
  · exact h
  · split
    · exact h.add.add
    · exact h.add
theorem adL_sub : ∀ (g xs : List Nat) (a : Nat), a ∈ adL m xs g → a ∈ xs ∨ a ∈ g
  | [], xs, a, h => Or.inl h
  | b :: g, xs, a, h => by
    unfold adL at h
    split at h
    · rcases adL_sub g _ a h with q | q
      · rcases List.mem_append.mp q with r | r
        · exact Or.inl r
        · simp at r
          subst r
          exact Or.inr List.mem_cons_self
      · exact Or.inr (List.mem_cons_of_mem _ q)
    · rcases adL_sub g _ a h with q | q
      · exact Or.inl q
      · exact Or.inr (List.mem_cons_of_mem _ q)
theorem drq_sub {n : Nat} {mk : Int32} : ∀ (zs ys : List Nat) (a : Nat), a ∈ drq m fg n mk ys zs → a ∈ ys ∨ a ∈ zs
  | [], ys, a, h => Or.inl h
  | z :: zs, ys, a, h => by
    unfold drq at h
    split at h
    · exact List.mem_append.mp h
    · split at h
      · rcases drq_sub zs ys a h with q | q
        · exact Or.inl q
        · exact Or.inr (List.mem_cons_of_mem _ q)
      · rcases drq_sub zs _ a h with q | q
        · rcases List.mem_append.mp q with r | r
          · exact Or.inl r
          · simp at r
            subst r
            exact Or.inr List.mem_cons_self
        · exact Or.inr (List.mem_cons_of_mem _ q)
theorem erL_sub : ∀ (g xs : List Nat) (a : Nat), a ∈ erL m g xs → a ∈ xs
  | [], xs, a, h => h
  | b :: g, xs, a, h => era_sub a (erL_sub g _ a h)
theorem mvP_sub (h : a ∈ mvP m fg xs g) : a ∈ xs ∨ a ∈ g := by
  rcases adL_sub _ _ a h with q | q
  · rcases drq_sub _ _ a q with r | r
    · cases r
    · rcases drq_sub _ _ a r with t | t
      · cases t
      · exact Or.inl (erL_sub _ _ a t)
  · exact Or.inr q
end L2A
