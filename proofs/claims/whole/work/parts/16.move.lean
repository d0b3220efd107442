/-! gathered objects come into their set's page -/
theorem up_same {α : Type} {f : Nat → α} {k : Nat} {v : α} : up f k v k = v := by simp [up]
theorem up_up {α : Type} {f : Nat → α} {k : Nat} {v v' : α} : up (up f k v) k v' = up f k v' := by
  funext j
  by_cases h : j = k <;> simp [up, h]
theorem up_self {α : Type} {f : Nat → α} {k : Nat} : up f k (f k) = f := by
  funext j
  by_cases h : j = k <;> simp [up, h]
def drq (m0 : XM) (fg : Nat → Int32) (need : Nat) (mk : Int32) : List Nat → List Nat → List Nat
  | ys, [] => ys
  | ys, z :: zs => if wsum m0 (ys ++ z :: zs) + need ≤ 32 then ys ++ z :: zs else if fg z = mk then drq m0 fg need mk ys zs else drq m0 fg need mk (ys ++ [z]) zs
def adL (m0 : XM) : List Nat → List Nat → List Nat
  | xs, [] => xs
  | xs, a :: g => if wsum m0 xs + wsum m0 (a :: g) ≤ 32 then adL m0 (xs ++ [a]) g else adL m0 xs g
def adC (m0 : XM) : List Nat → List Nat → Nat
  | _, [] => 0
  | xs, a :: g => if wsum m0 xs + wsum m0 (a :: g) ≤ 32 then adC m0 (xs ++ [a]) g else adC m0 xs g + 1
def erL (m0 : XM) (g xs : List Nat) : List Nat := g.foldl (fun xs a => era m0 (m0.2.2.1 a 0) xs) xs
def mv1 (m0 : XM) (xs g : List Nat) : List Nat := erL m0 g xs
def mv2 (m0 : XM) (fg : Nat → Int32) (xs g : List Nat) : List Nat := drq m0 fg (wsum m0 g) 0 [] (mv1 m0 xs g)
def mv3 (m0 : XM) (fg : Nat → Int32) (xs g : List Nat) : List Nat := drq m0 fg (wsum m0 g) 1 [] (mv2 m0 fg xs g)
def mvP (m0 : XM) (fg : Nat → Int32) (xs g : List Nat) : List Nat := adL m0 (mv3 m0 fg xs g) g
def cA (c : Nat → Int32) (k : Nat) (v : Int32) : Nat → Int32 := up c k (c k + v)
def mvC (m0 : XM) (fg : Nat → Int32) (xs g : List Nat) (c : Nat → Int32) : Nat → Int32 :=
  cA (cA (cA (cA (cA (cA c 9 1) 4 (nI g.length)) 5 (nI (mv1 m0 xs g).length - nI (mv2 m0 fg xs g).length)) 6 (nI (mv2 m0 fg xs g).length - nI (mv3 m0 fg xs g).length)) 7 (nI (adC m0 (mv3 m0 fg xs g) g))) 1 1
section L2v
variable {l : Launch} {G : xG} {K ar : Nat → Nat} {m0 m : XM} {Q : XR → XM → Prop} {pg : Nat → Nat} {Z : Nat → List Nat} {Y xs : List Nat} {w j a s : Nat} {c fg fp : Nat → Int32} {key : Int64} {g : List Nat}
theorem CS.it (h : CS K ar m0 pg Z Y w c fg fp m) (ha : Itm m0 a) : Itm m a := by
  obtain ⟨h1, ⟨v, n, h2, h3, h4⟩, h5, h6⟩ := ha
  obtain ⟨e1, e2, e3⟩ := h.2.2.2.2.2.1 a h1
  refine ⟨by rw [show kd m a = m0.1 a from by rw [← h.kd0]]; exact h1, ⟨v, n, ?_, ?_, h4⟩, ?_, ?_⟩
  · show m.2.2.2 a 1 = some v
    rw [e2]
    exact h2
  · show m.1 v = _
    rw [h.kd0]
    exact h3
  · show m.2.1 a 2 = setF (m.2.2.1 a 0)
    rw [e1, e3 2 (by decide) (by decide)]
    exact h5
  · show m.2.2.1 a 3 = bitF (m.2.2.1 a 0)
    rw [e1]
    exact h6
theorem drp_eq {need : Nat} {mk : Int32} (h : CS K ar m0 pg Z Y w c fg fp m) : ∀ (zs ys : List Nat), (∀ a ∈ ys ++ zs, m0.1 a = some (oB 1)) → drp m need mk ys zs = drq m0 fg need mk ys zs
  | [], ys, _ => rfl
  | z :: zs, ys, hx => by
    unfold drp drq
    rw [h.ws hx, (h.2.2.1 z (hx z (by simp))).1, drp_eq h zs ys (fun a ha => hx a (by
      rcases List.mem_append.mp ha with q | q
      · exact List.mem_append_left _ q
      · exact List.mem_append_right _ (List.mem_cons_of_mem _ q))), drp_eq h zs (ys ++ [z]) (fun a ha => hx a (by rw [List.append_assoc] at ha; exact ha))]
theorem era_sub {xs : List Nat} : ∀ a ∈ era m0 key xs, a ∈ xs := fun a ha => List.mem_of_mem_eraseP ha
/-- a page's list after a removal that may find nothing -/
theorem c_PremoveE {j : Nat} (hst : l.stackTraces = false) (h : CS K ar m0 pg Z Y w c fg fp m) (hj : j < 97) (hq : ∀ m', Fr (PF (pg j) (ar (pg j))) m m' → CS K ar m0 pg (up Z j (era m0 key (Z j))) Y w c fg fp m' → Q (.inl none) m') : CC l G xP_remove [vR (some (pg j)), vL key] m Q := by
  have hin := h.inZ hj
  refine c_Premove hst (h.1.2.1 j hj) (fun hno => ?_) (fun ys z zs m' e hno hz f hp => ?_)
  · refine hq m Fr.rf ?_
    rw [era_none (fun a ha => by rw [← h.key (hin a ha) 0]; exact hno a ha), up_self]
    exact h
  · refine hq m' f ?_
    have : era m0 key (Z j) = ys ++ zs := by
      rw [e]
      exact era_some (fun a ha => by rw [← h.key (hin a (by rw [e]; exact List.mem_append_left _ ha)) 0]; exact hno a ha) (by rw [← h.key (hin z (by rw [e]; simp)) 0]; exact hz)
    rw [this]
    exact h.page hj f hp
theorem c_moveGathered (hst : l.stackTraces = false) (h : CS K ar m0 pg Z Y w c fg fp m) (hs : s < 64) (hgl : g.length ≤ 264) (hg0 : ∀ a ∈ g, Itm m0 a) (hga : ∀ i, i < g.length → gR m (K 5) i = g[i]?)
    (hq : ∀ m', CS K ar m0 pg (up Z s (mvP m0 fg (Z s) g)) Y w (mvC m0 fg (Z s) g c) (fun b => if b ∈ mvP m0 fg (Z s) g then 0 else fg b) fp m' → Q (.inl none) m') : CC l G xC_moveGathered [vR (some (K 0)), vR (some (pg s)), vI (nI g.length)] m Q := by
  have hs97 : s < 97 := by omega
  have hwb : ∀ g1 : List Nat, (∀ a ∈ g1, Itm m0 a) → wsum m0 g1 ≤ 11 * g1.length := by
    intro g1
    induction g1 with
    | nil => intro _; simp [wsum]
    | cons x g1 ih =>
      intro hx
      rw [wsum_cons, List.length_cons]
      obtain ⟨v, -, -, -, h8⟩ := (hx x List.mem_cons_self).vl
      have := ih (fun a ha => hx a (List.mem_cons_of_mem _ ha))
      unfold iw
      omega
  have hwg := hwb g hg0
  have hgi : ∀ a ∈ g, m0.1 a = some (oB 1) := fun a ha => (hg0 a ha).1
  have k5 : ∀ {mm : XM}, mm.1 = m0.1 → mm.1 (K 5) = some (aR 3 264) := fun e => by
    rw [e, ← h.kd0]
    exact h.1.1.2.2.2.2.2.2.2.2.2.2.1
  have nPF5 : ∀ {mm : XM} {xs : List Nat}, mm.1 = m0.1 → PgOK mm (pg s) (ar (pg s)) xs → ¬ PF (pg s) (ar (pg s)) (K 5) := fun e hp q => by
    rcases PF.kind hp q with r | r <;> · have := (k5 e).symm.trans r; cases this
  have n45 : K 5 ≠ K 4 := fun q => by
    have h9 : m.1 (K 4) = some (aR 0 11) := h.1.1.2.2.2.2.2.2.2.2.1
    have := (k5 h.kd0).symm.trans (q ▸ h9)
    cases this
  -- the last loop: in they come, or are dropped
  have loop2 : ∀ (g2 g1 : List Nat) (xs : List Nat) (cc : Nat → Int32) (mm : XM), g1 ++ g2 = g → CS K ar m0 pg (up Z s xs) Y w cc fg fp mm → (∀ i, i < g.length → gR mm (K 5) i = g[i]?) →
      (∀ m', CS K ar m0 pg (up Z s (adL m0 xs g2)) Y w (cA (cA cc 7 (nI (adC m0 xs g2))) 1 1) (fun b => if b ∈ adL m0 xs g2 then 0 else fg b) fp m' → Q (.inl none) m') →
      WW l G xC_moveGathered 99 [some (vR (some (K 0))), some (vR (some (pg s))), some (vI (nI g.length)), some (vI (nI (wsum m0 g2))), some (vI (nI g1.length))] [] mm 0 0 Q := by
    intro g2
    induction g2 with
    | nil =>
      intro g1 xs cc mm e hc hk5 hqq
      rw [List.append_nil] at e
      subst e
      have hp := hc.1.2.1 s hs97
      rw [up_same] at hp
      refine bC_moveGathered_99 ⟨fun _ => ⟨pg s, rfl, hp.1, c_clearMarks hst hp (fun m4 f4 g4 => ?_)⟩, fun hh => absurd (nI_le (Nat.le_refl _) (by omega)) hh⟩
      have hin := hc.inZ (j := s) hs97
      rw [up_same] at hin
      have hc4 : CS K ar m0 pg (up Z s xs) Y w cc (fun b => if b ∈ xs then 0 else fg b) fp m4 := by
        have a9 : mm.1 (K 4) = some (aR 0 11) := hc.1.1.2.2.2.2.2.2.2.2.1
        have a1 : mm.1 (K 0) = some (oB 4) := hc.1.1.1
        have nin : ∀ b, ¬ m0.1 b = some (oB 1) → b ∉ xs := fun b hb q => hb (hin b q)
        obtain ⟨z1, z2, z3, z4, z5⟩ := hc.2.2.2
        refine ⟨hc.1.fl f4, fun k => ?_, fun b hb => ?_, f4.1.trans z1, fun b hb => ?_, fun b hb => ?_, ?_, ?_⟩
        · rw [g4, if_neg (fun q => nin (K 4) (by rw [← hc.kd0, a9]; decide) q.1)]
          exact hc.2.1 k
        · have := hc.2.2.1 b hb
          rw [g4, g4]
          by_cases q : b ∈ xs
          · simp [q, this.2]
          · simp [q, this]
        · have nb : b ∉ xs := nin b (fun q => hb (by rw [q]; show 1 ≤ 4; decide))
          obtain ⟨y1, y2, y3⟩ := z2 b hb
          refine ⟨?_, by rw [show m4.2.2.1 = mm.2.2.1 from f4.2.1]; exact y2, by rw [show m4.2.2.2 = mm.2.2.2 from f4.2.2.1]; exact y3⟩
          rw [← y1]
          funext k
          rw [g4, if_neg (fun q => nb q.1)]
        · obtain ⟨y1, y2, y3⟩ := z3 b hb
          refine ⟨by rw [show m4.2.2.1 = mm.2.2.1 from f4.2.1]; exact y1, by rw [show m4.2.2.2 = mm.2.2.2 from f4.2.2.1]; exact y2, fun k n4 n5 => ?_⟩
          rw [g4, if_neg (fun q => n5 q.2)]
          exact y3 k n4 n5
        · rw [← z4]
          funext k
          rw [g4, if_neg (fun q => nin (K 0) (by rw [← hc.kd0, a1]; decide) q.1)]
        · rw [show m4.2.2.2 = mm.2.2.2 from f4.2.2.1]
          exact z5
      have hP := hc4.1.1
      refine ⟨hP.1, K 4, hP.2.2.2.2.2.2.2.1, 11, hP.2.2.2.2.2.2.2.2.1, vp_in_nI (n := 1) (by omega) (by omega), vp_in_nI (n := 1) (by omega) (by omega), ?_⟩
      rintro m12 rfl
      have e1 : gI m4 (K 4) (1 : Int32).toNatClampNeg = cc 1 := hc4.2.1 1
      have := hqq (mI m4 (K 4) 1 (cc 1 + 1))
      rw [show adC m0 xs [] = 0 from rfl, show adL m0 xs [] = xs from rfl] at this
      rw [e1]
      refine this ?_
      have e7 : cA cc 7 (nI 0) = cc := by
        unfold cA
        rw [show cc 7 + nI 0 = cc 7 by rw [nI_0]; exact Int32.add_zero _]
        exact up_self
      rw [e7]
      exact hc4.count 1 (cc 1 + 1)
    | cons z g2 ih =>
      intro g1 xs cc mm e hc hk5 hqq
      have hlt : g1.length < g.length := by rw [← e]; simp
      have hp := hc.1.2.1 s hs97
      rw [up_same] at hp
      have hin := hc.inZ (j := s) hs97
      rw [up_same] at hin
      have hzg : z ∈ g := by rw [← e]; simp
      have hz := hc.it (hg0 z hzg)
      have hP := hc.1.1
      have hwx : wsum mm xs = wsum m0 xs := hc.ws hin
      have hw2 : wsum m0 (z :: g2) ≤ 11 * (z :: g2).length := hwb _ (fun a ha => hg0 a (by rw [← e]; exact List.mem_append_right _ ha))
      have hl2 : (z :: g2).length ≤ 264 := by
        have : (g1 ++ z :: g2).length = g.length := by rw [e]
        simp at this ⊢
        omega
      have hat : gR mm (K 5) g1.length = some z := by
        rw [hk5 _ hlt, ← e]
        simp
      have hcl : (nI g1.length).toNatClampNeg = g1.length := nI_clamp (by omega)
      have next : ∀ (xs' : List Nat) (cc' : Nat → Int32) (m2 : XM), CS K ar m0 pg (up Z s xs') Y w cc' fg fp m2 → (∀ i, i < g.length → gR m2 (K 5) i = g[i]?) →
          (∀ m', CS K ar m0 pg (up Z s (adL m0 xs' g2)) Y w (cA (cA cc' 7 (nI (adC m0 xs' g2))) 1 1) (fun b => if b ∈ adL m0 xs' g2 then 0 else fg b) fp m' → Q (.inl none) m') →
          WW l G xC_moveGathered 138 [some (vR (some (K 0))), some (vR (some (pg s))), some (vI (nI g.length)), some (vI (nI (wsum m0 (z :: g2)))), some (vI (nI g1.length))] [] m2 0 0 Q := by
        intro xs' cc' m2 h2 hk hqq2
        have hP2 := h2.1.1
        have hz2 := h2.it (hg0 z hzg)
        refine bC_moveGathered_138 ⟨hP2.1, K 5, hP2.2.2.2.2.2.2.2.2.2.1, 264, k5 h2.kd0, vp_in_nI (by omega) (by omega), z, ?_, hz2.1, c_words hst hz2 ?_⟩
        · rw [hcl, hk _ hlt, ← e]
          simp
        · show WW _ _ _ _ _ _ _ _ _ _
          rw [nI_1, h2.wd (hgi z hzg), wsum_cons, pk_sub (Nat.le_add_right _ _), Nat.add_sub_cancel_left]
          have := ih (g1 ++ [z]) xs' cc' m2 (by rw [List.append_assoc]; exact e) h2 hk hqq2
          simpa using this
      refine bC_moveGathered_99 ⟨fun hh => absurd hh (nI_ge hlt (by omega)), fun _ => ⟨pg s, rfl, hp.1, c_hasRoomFor hst hp (by omega) (fun hr => ⟨fun q => absurd q (by decide), fun _ => ⟨hP.1, K 5, hP.2.2.2.2.2.2.2.2.2.1, 264, k5 hc.kd0, vp_in_nI (by omega) (by omega), hp.1, ?_⟩⟩) (fun hr => ⟨fun _ => ⟨hP.1, K 4, hP.2.2.2.2.2.2.2.1, 11, hP.2.2.2.2.2.2.2.2.1, vp_in_nI (n := 7) (by omega) (by omega), vp_in_nI (n := 7) (by omega) (by omega), ?_⟩, fun q => absurd rfl q⟩)⟩⟩
      · rw [hwx] at hr
        rw [hcl, hat]
        refine c_Padd hst hp hz (by rw [hwx, hc.wd (hgi z hzg)]; rw [wsum_cons] at hr; omega) (fun m33 f33 hp33 => ?_)
        have h33 := hc.page hs97 f33 hp33
        rw [up_up] at h33
        refine next (xs ++ [z]) cc m33 h33 (fun i hi => (f33.gR (nPF5 hc.kd0 hp) i).trans (hk5 i hi)) ?_
        rw [adL, adC, if_pos hr, if_pos hr] at hqq
        exact hqq
      · rintro m25 rfl
        rw [hwx] at hr
        have e7 : gI mm (K 4) (7 : Int32).toNatClampNeg = cc 7 := hc.2.1 7
        rw [e7]
        refine next xs (up cc 7 (cc 7 + 1)) _ (hc.count 7 (cc 7 + 1)) (fun i hi => hk5 i hi) ?_
        rw [adL, adC, if_neg (by omega), if_neg (by omega)] at hqq
        have : cA (up cc 7 (cc 7 + 1)) 7 (nI (adC m0 xs g2)) = cA cc 7 (nI (adC m0 xs g2 + 1)) := by
          unfold cA
          rw [up_up, up_same, nI_succ]
          congr 1
          rw [Int32.add_assoc, Int32.add_comm 1]
        rw [this]
        exact hqq
  -- the first loop: older values go
  have loop1 : ∀ (g2 g1 : List Nat) (mm : XM), g1 ++ g2 = g → CS K ar m0 pg (up Z s (erL m0 g1 (Z s))) Y w (cA (cA c 9 1) 4 (nI g.length)) fg fp mm → (∀ i, i < g.length → gR mm (K 5) i = g[i]?) →
      WW l G xC_moveGathered 26 [some (vR (some (K 0))), some (vR (some (pg s))), some (vI (nI g.length)), some (vI (nI (wsum m0 g1))), some (vI (nI g1.length))] [] mm 0 0 Q := by
    intro g2
    induction g2 with
    | nil =>
      intro g1 mm e hc hk5
      rw [List.append_nil] at e
      subst e
      have hP := hc.1.1
      have hp := hc.1.2.1 s hs97
      rw [up_same] at hp
      have hin := hc.inZ (j := s) hs97
      rw [up_same] at hin
      refine bC_moveGathered_26 ⟨fun _ => ⟨hP.1, K 4, hP.2.2.2.2.2.2.2.1, 11, hP.2.2.2.2.2.2.2.2.1, vp_in_nI (n := 5) (by omega) (by omega), pg s, rfl, hp.1, c_dropFor hst hp (by omega) (fun m10 f10 hp10 => ?_)⟩, fun hh => absurd (nI_le (Nat.le_refl _) (by omega)) hh⟩
      rw [drp_eq hc _ [] (by simpa using hin)] at hp10
      show ∃ n13, _
      rw [drp_eq hc _ [] (by simpa using hin)]
      have h10 := hc.page hs97 f10 hp10
      rw [up_up] at h10
      have hP10 := h10.1.1
      refine ⟨11, hP10.2.2.2.2.2.2.2.2.1, vp_in_nI (n := 5) (by omega) (by omega), ?_⟩
      intro m15 hm15
      have e5 : gI mm (K 4) (5 : Int32).toNatClampNeg = cA (cA c 9 1) 4 (nI g1.length) 5 := hc.2.1 5
      rw [e5] at hm15
      have h15 : CS K ar m0 pg (up Z s (mv2 m0 fg (Z s) g1)) Y w (cA (cA (cA c 9 1) 4 (nI g1.length)) 5 (nI (mv1 m0 (Z s) g1).length - nI (mv2 m0 fg (Z s) g1).length)) fg fp m15 := by
        rw [hm15]
        exact h10.count 5 (cA (cA c 9 1) 4 (nI g1.length) 5 + (nI (mv1 m0 (Z s) g1).length - nI (mv2 m0 fg (Z s) g1).length))
      have k15 : m15.2.2.2 = m10.2.2.2 := by rw [hm15]; rfl
      clear hm15
      have hp15 := h15.1.2.1 s hs97
      rw [up_same] at hp15
      have hin15 := h15.inZ (j := s) hs97
      rw [up_same] at hin15
      have hP15 := h15.1.1
      refine ⟨hP10.1, K 4, hP10.2.2.2.2.2.2.2.1, 11, hP10.2.2.2.2.2.2.2.2.1, vp_in_nI (n := 6) (by omega) (by omega), hp10.1, c_dropFor hst hp15 (by omega) (fun m23 f23 hp23 => ?_)⟩
      have hd := drp_eq (need := wsum m0 g1) (mk := 1) h15 (mv2 m0 fg (Z s) g1) [] (by simpa using hin15)
      rw [hd] at hp23
      show ∃ n26, _
      have h23 := h15.page hs97 f23 hp23
      rw [up_up] at h23
      have hP23 := h23.1.1
      refine ⟨11, hP23.2.2.2.2.2.2.2.2.1, vp_in_nI (n := 6) (by omega) (by omega), ?_⟩
      intro m28 hm28
      rw [hd] at hm28
      have e6 : gI m15 (K 4) (6 : Int32).toNatClampNeg = cA (cA (cA c 9 1) 4 (nI g1.length)) 5 (nI (mv1 m0 (Z s) g1).length - nI (mv2 m0 fg (Z s) g1).length) 6 := h15.2.1 6
      rw [e6] at hm28
      show WW _ _ _ _ _ _ _ _ _ _
      have hfin : CS K ar m0 pg (up Z s (mv3 m0 fg (Z s) g1)) Y w (cA (cA (cA (cA c 9 1) 4 (nI g1.length)) 5 (nI (mv1 m0 (Z s) g1).length - nI (mv2 m0 fg (Z s) g1).length)) 6 (nI (mv2 m0 fg (Z s) g1).length - nI (mv3 m0 fg (Z s) g1).length)) fg fp m28 := by
        rw [hm28]
        exact h23.count 6 _
      have k28 : gR m28 = gR m23 := by rw [hm28]; rfl
      have := loop2 g1 [] (mv3 m0 fg (Z s) g1) _ _ rfl hfin (fun i hi => ?_) (fun m' hm' => hq m' hm')
      · exact this
      · have q1 := f23.gR (nPF5 h15.kd0 hp15) i
        have q2 := f10.gR (nPF5 hc.kd0 hp) i
        rw [k15] at q1
        rw [k28]
        exact (q1.trans q2).trans (hk5 i hi)
    | cons z g2 ih =>
      intro g1 mm e hc hk5
      have hlt : g1.length < g.length := by rw [← e]; simp
      have hP := hc.1.1
      have hp := hc.1.2.1 s hs97
      rw [up_same] at hp
      have hzg : z ∈ g := by rw [← e]; simp
      have hz := hc.it (hg0 z hzg)
      have hat : gR mm (K 5) g1.length = some z := by
        rw [hk5 _ hlt, ← e]
        simp
      have hcl : (nI g1.length).toNatClampNeg = g1.length := nI_clamp (by omega)
      have hkz : gL mm z 0 = m0.2.2.1 z 0 := hc.key (hgi z hzg) 0
      refine bC_moveGathered_26 ⟨fun hh => absurd hh (nI_ge hlt (by omega)), fun _ => ⟨hP.1, K 5, hP.2.2.2.2.2.2.2.2.2.1, 264, k5 hc.kd0, vp_in_nI (by omega) (by omega), z, by rw [hcl]; exact hat, hz.1, pg s, rfl, hp.1, ?_⟩⟩
      rw [hkz]
      refine c_PremoveE hst hc hs97 (fun m41 f41 h41 => ?_)
      rw [up_same, up_up] at h41
      have hP41 := h41.1.1
      have hz41 := h41.it (hg0 z hzg)
      have hk41 : ∀ i, i < g.length → gR m41 (K 5) i = g[i]? := fun i hi => (f41.gR (nPF5 hc.kd0 hp) i).trans (hk5 i hi)
      refine ⟨hP41.1, K 5, hP41.2.2.2.2.2.2.2.2.2.1, 264, k5 h41.kd0, vp_in_nI (by omega) (by omega), z, ?_, hz41.1, c_words hst hz41 ?_⟩
      · rw [hcl, hk41 _ hlt, ← e]
        simp
      · show WW _ _ _ _ _ _ _ _ _ _
        rw [nI_1, h41.wd (hgi z hzg), nI_add]
        have := ih (g1 ++ [z]) m41 (by rw [List.append_assoc]; exact e) (by
          rw [show erL m0 (g1 ++ [z]) (Z s) = era m0 (m0.2.2.1 z 0) (erL m0 g1 (Z s)) by simp [erL]]
          exact h41) hk41
        rw [wsum_app, wsum_cons, wsum_nil, Nat.add_zero, List.length_append] at this
        exact this
  have hP := h.1.1
  refine bC_moveGathered hst ⟨hP.1, K 4, hP.2.2.2.2.2.2.2.1, 11, hP.2.2.2.2.2.2.2.2.1, vp_in_nI (n := 9) (by omega) (by omega), vp_in_nI (n := 9) (by omega) (by omega), ?_⟩
  rintro m8 rfl
  have e9 : gI m (K 4) (9 : Int32).toNatClampNeg = c 9 := h.2.1 9
  rw [e9]
  have h8 := h.count 9 (c 9 + 1)
  refine ⟨vp_in_nI (n := 4) (by omega) (by omega), vp_in_nI (n := 4) (by omega) (by omega), ?_⟩
  rintro m11 rfl
  have e4 : gI (mI m (K 4) (9 : Int32).toNatClampNeg (c 9 + 1)) (K 4) (4 : Int32).toNatClampNeg = up c 9 (c 9 + 1) 4 := h8.2.1 4
  rw [e4]
  have h11 := h8.count 4 (up c 9 (c 9 + 1) 4 + nI g.length)
  refine loop1 g [] _ rfl ?_ hga
  rw [show erL m0 [] (Z s) = Z s from rfl, up_self]
  exact h11
end L2v
