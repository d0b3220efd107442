/-! the reference and the cache without memory -/
def eZ (S : RS) (n : Nat) : Ent := mE (S.k n) (vlS S n) (S.mk n) 0
def eL (S : RS) (n : Nat) : Ent := mE (S.k n) (vlS S n) 0 0
def eY (S : RS) (pn : Nat → Nat) (n : Nat) : Ent := mE (S.k n) (vlS S n) (S.gt n) (pn n)
def Dj (P : Nat → List Nat) : Prop := (∀ q, q < 97 → (P q).Nodup) ∧ ∀ q r, q < 97 → r < 97 → q ≠ r → ∀ n ∈ P q, n ∉ P r
def RA (S : RS) (A : AS) (ix : List Nat) (pn : Nat → Nat) : Prop :=
  Dj S.P ∧ (∀ s, s < 64 → A.Z s = (S.P s).map (eZ S)) ∧ (∀ p, 64 ≤ p → p < 97 → A.Z p = (S.P p).map (eL S)) ∧ A.Y = ix.map (eY S pn) ∧ (∀ n, n ∈ ix ↔ n ∈ lgs S ∧ S.nw n ≠ 0) ∧ ix.Pairwise (fun a b => S.cm a < S.cm b) ∧ (∀ n ∈ ix, n ∈ S.P (pl A.w (pn n)) ∧ S.cm n ≤ S.t) ∧ A.w = S.w ∧ A.t = S.t ∧ S.c 0 = nI (A.w / 4) ∧ ∀ k, 1 ≤ k → k < 11 → S.c k = A.c k
def Hk (S S' : RS) : Prop := S'.h = S.h ∧ ∀ n ∈ S.h, S'.k n = S.k n ∧ S'.l n = S.l n ∧ S'.v n = S.v n ∧ S'.cm n = S.cm n
def eraK (S : RS) (key : Int64) (xs : List Nat) : List Nat := xs.eraseP (fun n => S.k n == key)
section L3A
variable {S S' S1 S2 : RS} {A B : AS} {ix g xs ys zs : List Nat} {pn : Nat → Nat} {n p s i x : Nat} {key : Int64} {c : Nat → Int32}
theorem pgs_nd {P : Nat → List Nat} (h : Dj P) : ∀ (k p : Nat), p + k ≤ 97 → (pgs P p k).Nodup
  | 0, p, _ => by simp [pgs]
  | k + 1, p, e => by
    rw [pgs, List.nodup_append]
    refine ⟨h.1 p (by omega), pgs_nd h k (p + 1) (by omega), fun a ha b hb r => ?_⟩
    obtain ⟨q, h1, h2, h3⟩ := (pgs_mem k (p + 1)).mp hb
    exact h.2 p q (by omega) (by omega) (by omega) a ha (r ▸ h3)
theorem RA.nd (h : RA S A ix pn) : (lgs S).Nodup := pgs_nd h.1 33 64 (by omega)
theorem lgs_mem : n ∈ lgs S ↔ ∃ q, 64 ≤ q ∧ q < 97 ∧ n ∈ S.P q := by
  rw [lgs, pgs_mem]
theorem RA.cmi (h : RA S A ix pn) : ∀ a ∈ lgs S, ∀ b ∈ lgs S, S.nw a ≠ 0 → S.nw b ≠ 0 → S.cm a = S.cm b → a = b := by
  intro a ha b hb na nb e
  have h1 := (h.2.2.2.2.1 a).mpr ⟨ha, na⟩
  have h2 := (h.2.2.2.2.1 b).mpr ⟨hb, nb⟩
  have hp := h.2.2.2.2.2.1
  have : (ix.map S.cm).Nodup := by
    rw [List.Nodup, List.pairwise_map]
    exact hp.imp (fun {a b} hab r => by omega)
  exact nd_inj this a h1 b h2 e
theorem RA.ixn (h : RA S A ix pn) : ix.Nodup := h.2.2.2.2.2.1.imp (fun {a b} hab r => by rw [r] at hab; omega)
theorem vlS_eq (h1 : S'.l n = S.l n) (h2 : S'.v n = S.v n) : vlS S' n = vlS S n := by
  unfold vlS
  rw [h1, h2]
theorem vlS_len : (vlS S n).length = S.l n := by simp [vlS]
/-- the same numbers with the same data -/
theorem RA.same (h : RA S A ix pn) (hP : S'.P = S.P) (hd : ∀ p, p < 97 → ∀ n ∈ S.P p, S'.k n = S.k n ∧ S'.l n = S.l n ∧ S'.v n = S.v n ∧ S'.mk n = S.mk n ∧ S'.gt n = S.gt n ∧ S'.cm n = S.cm n ∧ S'.nw n = S.nw n) (hw : S'.w = S.w) (ht : S'.t = S.t) (hc : S'.c = S.c) : RA S' A ix pn := by
  obtain ⟨h1, h2, h3, h4, h5, h6, h7, h8, h9, h10, h11⟩ := h
  have hl : lgs S' = lgs S := by unfold lgs; rw [hP]
  have hix : ∀ n ∈ ix, ∃ p, p < 97 ∧ n ∈ S.P p := fun n hn => by
    obtain ⟨q, -, q2, q3⟩ := lgs_mem.mp ((h5 n).mp hn).1
    exact ⟨q, q2, q3⟩
  refine ⟨by rw [hP]; exact h1, fun s hs => ?_, fun p hp hp' => ?_, ?_, fun n => ?_, ?_, fun n hn => ?_, by rw [hw]; exact h8, by rw [ht]; exact h9, by rw [hc]; exact h10, by rw [hc]; exact h11⟩
  · rw [h2 s hs, hP]
    apply List.map_congr_left
    intro n hn
    obtain ⟨d1, d2, d3, d4, -⟩ := hd s (by omega) n hn
    unfold eZ
    rw [d1, vlS_eq d2 d3, d4]
  · rw [h3 p hp hp', hP]
    apply List.map_congr_left
    intro n hn
    obtain ⟨d1, d2, d3, -⟩ := hd p (by omega) n hn
    unfold eL
    rw [d1, vlS_eq d2 d3]
  · rw [h4]
    apply List.map_congr_left
    intro n hn
    obtain ⟨q, q1, q2⟩ := hix n hn
    obtain ⟨d1, d2, d3, -, d5, -⟩ := hd q q1 n q2
    unfold eY
    rw [d1, vlS_eq d2 d3, d5]
  · rw [h5 n, hl]
    constructor
    · rintro ⟨r1, r2⟩
      obtain ⟨q, -, q2, q3⟩ := lgs_mem.mp r1
      exact ⟨r1, by rw [(hd q q2 n q3).2.2.2.2.2.2]; exact r2⟩
    · rintro ⟨r1, r2⟩
      obtain ⟨q, -, q2, q3⟩ := lgs_mem.mp r1
      exact ⟨r1, by rw [(hd q q2 n q3).2.2.2.2.2.2] at r2; exact r2⟩
  · refine List.Pairwise.imp_of_mem (fun {a b} ha hb hab => ?_) h6
    obtain ⟨q, q1, q2⟩ := hix a ha
    obtain ⟨r, r1, r2⟩ := hix b hb
    rw [(hd q q1 a q2).2.2.2.2.2.1, (hd r r1 b r2).2.2.2.2.2.1]
    exact hab
  · obtain ⟨q, q1, q2⟩ := hix n hn
    rw [hP, (hd q q1 n q2).2.2.2.2.2.1, ht]
    exact h7 n hn
theorem RA.cnt (h : RA S A ix pn) {k : Nat} (v : Int32) (h1 : 1 ≤ k) (h2 : k < 11) : RA (S.sc (up S.c k (S.c k + v))) (mA A.Z A.Y A.w (cA A.c k v) A.t) ix pn := by
  obtain ⟨g1, g2, g3, g4, g5, g6, g7, g8, g9, g10, g11⟩ := h
  refine ⟨g1, g2, g3, g4, g5, g6, g7, g8, g9, ?_, fun j hj hj' => ?_⟩
  · show up S.c k (S.c k + v) 0 = nI (A.w / 4)
    rw [up, if_neg (by omega)]
    exact g10
  · show up S.c k (S.c k + v) j = cA A.c k v j
    unfold cA
    by_cases q : j = k
    · rw [q, up_same, up_same, g11 k h1 h2]
    · simp only [up, if_neg q]
      exact g11 j hj hj'
theorem Dj.sub {P : Nat → List Nat} (h : Dj P) (hs : s < 97) (hx : xs.Sublist (P s)) : Dj (up P s xs) := by
  have hm : ∀ q n, n ∈ up P s xs q → n ∈ P q := fun q n hn => by
    by_cases r : q = s
    · subst r
      rw [up_same] at hn
      exact hx.subset hn
    · simpa [up, r] using hn
  refine ⟨fun q hq => ?_, fun q r hq hr hne n hn hn' => h.2 q r hq hr hne n (hm q n hn) (hm r n hn')⟩
  by_cases r : q = s
  · subst r
    rw [up_same]
    exact (h.1 q hq).sublist hx
  · simp only [up, if_neg r]
    exact h.1 q hq
theorem Dj.app {P : Nat → List Nat} (h : Dj P) (hs : s < 97) (hx : ∀ p, p < 97 → n ∉ P p) : Dj (up P s (P s ++ [n])) := by
  refine ⟨fun q hq => ?_, fun q r hq hr hne y hy hy' => ?_⟩
  · by_cases r : q = s
    · subst r
      rw [up_same, List.nodup_append]
      exact ⟨h.1 q hq, by simp, fun a ha b hb e => by simp at hb; rw [e, hb] at ha; exact hx q hq ha⟩
    · simp only [up, if_neg r]
      exact h.1 q hq
  · by_cases e : q = s
    · subst e
      rw [up_same] at hy
      have hrq : ¬ r = q := fun t => hne t.symm
      simp only [up, if_neg hrq] at hy'
      rcases List.mem_append.mp hy with t | t
      · exact h.2 q r hq hr hne y t hy'
      · simp at t
        rw [t] at hy'
        exact hx r hr hy'
    · simp only [up, if_neg e] at hy
      by_cases e2 : r = s
      · subst e2
        rw [up_same] at hy'
        rcases List.mem_append.mp hy' with t | t
        · exact h.2 q r hq hr hne y hy t
        · simp at t
          rw [t] at hy
          exact hx q hq hy
      · simp only [up, if_neg e2] at hy'
        exact h.2 q r hq hr hne y hy hy'
theorem lgs_set {P' : Nat → List Nat} (hP : ∀ q, 64 ≤ q → q < 97 → P' q = S.P q) : lgs (S.sP P') = lgs S := by
  have : ∀ (k p : Nat), 64 ≤ p → p + k ≤ 97 → pgs P' p k = pgs S.P p k := by
    intro k
    induction k with
    | zero => intro p _ _; rfl
    | succ k ih =>
      intro p hp e
      rw [pgs, pgs, hP p hp (by omega), ih (p + 1) (by omega) (by omega)]
  exact this 33 64 (by omega) (by omega)
/-- some of the index are no more the newest, some of a set's page go -/
theorem RA.mv (h : RA S A ix pn) (hs : s < 64) (hx : xs.Sublist (S.P s)) (hg : ∀ n ∈ g, n ∈ ix) : RA ((S.snw (clF S.nw g)).sP (up S.P s xs)) (mA (up A.Z s (xs.map (eZ S))) ((ix.filter (fun n => !g.contains n)).map (eY S pn)) A.w A.c A.t) (ix.filter (fun n => !g.contains n)) pn := by
  obtain ⟨h1, h2, h3, h4, h5, h6, h7, h8, h9, h10, h11⟩ := h
  have hl : lgs ((S.snw (clF S.nw g)).sP (up S.P s xs)) = lgs S := lgs_set (S := S.snw (clF S.nw g)) (P' := up S.P s xs) (fun q hq hq' => by
    show up S.P s xs q = S.P q
    rw [up, if_neg (by omega)])
  have hnw : ∀ n, ((S.snw (clF S.nw g)).sP (up S.P s xs)).nw n = clF S.nw g n := fun _ => rfl
  refine ⟨h1.sub (by omega) hx, fun q hq => ?_, fun p hp hp' => ?_, rfl, fun n => ?_, h6.sublist List.filter_sublist, fun n hn => ?_, h8, h9, h10, h11⟩
  · show up A.Z s (xs.map (eZ S)) q = (up S.P s xs q).map (eZ S)
    by_cases r : q = s
    · rw [r, up_same, up_same]
    · simp only [up, if_neg r]
      exact h2 q hq
  · show up A.Z s (xs.map (eZ S)) p = (up S.P s xs p).map (eL S)
    rw [up, if_neg (by omega), up, if_neg (by omega)]
    exact h3 p hp hp'
  · rw [hl, hnw, List.mem_filter, h5 n]
    obtain ⟨c1, c2⟩ := clF_in (n := n) (f := S.nw) g S.nw
    constructor
    · rintro ⟨⟨r1, r2⟩, r3⟩
      have : n ∉ g := by simpa using r3
      exact ⟨r1, by rw [c2 this]; exact r2⟩
    · rintro ⟨r1, r2⟩
      by_cases q : n ∈ g
      · exact absurd (c1 q) r2
      · rw [c2 q] at r2
        exact ⟨⟨r1, r2⟩, by simpa using q⟩
  · obtain ⟨r1, r2⟩ := h7 n (List.mem_filter.mp hn).1
    refine ⟨?_, r2⟩
    have := pl_lt (w := A.w) (p := pn n)
    show n ∈ up S.P s xs (pl A.w (pn n))
    rw [up, if_neg (by omega)]
    exact r1
theorem RA.sub (h : RA S A ix pn) (hs : s < 64) (hx : xs.Sublist (S.P s)) : RA (S.sP (up S.P s xs)) (mA (up A.Z s (xs.map (eZ S))) A.Y A.w A.c A.t) ix pn := by
  have := h.mv (g := []) hs hx (fun n hn => nomatch hn)
  have e1 : ix.filter (fun n => !([] : List Nat).contains n) = ix := List.filter_eq_self.mpr (fun n hn => by simp)
  rw [e1, ← h.2.2.2.1] at this
  exact this
/-- a set's marks go -/
theorem RA.clm (h : RA S A ix pn) (hs : s < 64) : RA (S.smk (clF S.mk (S.P s))) (mA (up A.Z s ((A.Z s).map e0)) A.Y A.w A.c A.t) ix pn := by
  obtain ⟨h1, h2, h3, h4, h5, h6, h7, h8, h9, h10, h11⟩ := h
  refine ⟨h1, fun q hq => ?_, fun p hp hp' => ?_, h4, h5, h6, h7, h8, h9, h10, h11⟩
  · show up A.Z s ((A.Z s).map e0) q = (S.P q).map (eZ (S.smk (clF S.mk (S.P s))))
    by_cases r : q = s
    · rw [r, up_same, h2 s hs, List.map_map]
      apply List.map_congr_left
      intro n hn
      show mE (S.k n) (vlS S n) 0 0 = mE (S.k n) (vlS S n) (clF S.mk (S.P s) n) 0
      rw [(clF_in (n := n) (f := S.mk) (S.P s) S.mk).1 hn]
    · simp only [up, if_neg r]
      rw [h2 q hq]
      apply List.map_congr_left
      intro n hn
      show mE (S.k n) (vlS S n) (S.mk n) 0 = mE (S.k n) (vlS S n) (clF S.mk (S.P s) n) 0
      rw [(clF_in (n := n) (f := S.mk) (S.P s) S.mk).2 (fun t => h1.2 q s (by omega) (by omega) r n hn t)]
  · show up A.Z s ((A.Z s).map e0) p = _
    rw [up, if_neg (by omega)]
    exact h3 p hp hp'
/-- a free number comes to a set's page -/
theorem RA.ap (h : RA S A ix pn) (hs : s < 64) (hn : ∀ p, p < 97 → n ∉ S.P p) : RA (S.sP (up S.P s (S.P s ++ [n]))) (mA (up A.Z s (A.Z s ++ [eZ S n])) A.Y A.w A.c A.t) ix pn := by
  obtain ⟨h1, h2, h3, h4, h5, h6, h7, h8, h9, h10, h11⟩ := h
  have hl : lgs (S.sP (up S.P s (S.P s ++ [n]))) = lgs S := lgs_set (fun q hq hq' => by rw [up, if_neg (by omega)])
  refine ⟨h1.app (by omega) hn, fun q hq => ?_, fun p hp hp' => ?_, h4, fun y => ?_, h6, fun y hy => ?_, h8, h9, h10, h11⟩
  · show up A.Z s (A.Z s ++ [eZ S n]) q = (up S.P s (S.P s ++ [n]) q).map (eZ S)
    by_cases r : q = s
    · rw [r, up_same, up_same, List.map_append, h2 s hs]
      rfl
    · simp only [up, if_neg r]
      exact h2 q hq
  · show up A.Z s (A.Z s ++ [eZ S n]) p = (up S.P s (S.P s ++ [n]) p).map (eL S)
    rw [up, if_neg (by omega), up, if_neg (by omega)]
    exact h3 p hp hp'
  · rw [hl]
    exact h5 y
  · obtain ⟨r1, r2⟩ := h7 y hy
    refine ⟨?_, r2⟩
    have := pl_lt (w := A.w) (p := pn y)
    show y ∈ up S.P s (S.P s ++ [n]) (pl A.w (pn y))
    rw [up, if_neg (by omega)]
    exact r1
/-- a copy under a free number -/
theorem RA.cp {v : Nat} (h : RA S A ix pn) (hv : ∀ p, p < 97 → v ∉ S.P p) : RA (cpS S n v) A ix pn := by
  refine h.same rfl (fun p hp y hy => ?_) rfl rfl rfl
  have hne : y ≠ v := fun r => hv p hp (r ▸ hy)
  have u : ∀ {α : Type} (f : Nat → α) (z : α), up f v z y = f y := fun f z => by simp [up, hne]
  exact ⟨u _ _, u _ _, u _ _, u _ _, u _ _, rfl, u _ _⟩
theorem Hk.rf : Hk S S := ⟨rfl, fun _ _ => ⟨rfl, rfl, rfl, rfl⟩⟩
theorem Hk.tr (h : Hk S S1) (h' : Hk S1 S2) : Hk S S2 := by
  refine ⟨h'.1.trans h.1, fun n hn => ?_⟩
  obtain ⟨a1, a2, a3, a4⟩ := h.2 n hn
  obtain ⟨b1, b2, b3, b4⟩ := h'.2 n (by rw [h.1]; exact hn)
  exact ⟨b1.trans a1, b2.trans a2, b3.trans a3, b4.trans a4⟩
theorem Hk.cp {v : Nat} (hv : v ∉ S.h) : Hk S (cpS S n v) := by
  refine ⟨rfl, fun y hy => ?_⟩
  have hne : y ≠ v := fun r => hv (r ▸ hy)
  have u : ∀ {α : Type} (f : Nat → α) (z : α), up f v z y = f y := fun f z => by simp [up, hne]
  exact ⟨u _ _, u _ _, u _ _, rfl⟩
theorem cp_e {v : Nat} : eZ (cpS S n v) v = mE (S.k n) (vlS S n) 0 0 := by
  have u : ∀ {α : Type} (f : Nat → α) (z : α), up f v z v = z := fun f z => up_same
  show mE (up S.k v (S.k n) v) ((List.range (up S.l v (S.l n) v)).map (up S.v v (S.v n) v)) (up S.mk v 0 v) 0 = _
  rw [u, u, u, u]
  rfl
/-! lists of numbers and of entries -/
theorem wS_eS {T : Nat → Ent} (hT : ∀ n, (T n).v = vlS S n) : wS S xs = eS (xs.map T) := by
  unfold wS eS
  rw [List.map_map]
  congr 1
  apply List.map_congr_left
  intro n _
  show S.l n + 3 = 3 + (T n).v.length
  rw [hT, vlS_len]
  omega
theorem drS_map {need : Nat} {mv : Int32} : ∀ (zs ys : List Nat), (drS S need mv ys zs).map (eZ S) = aDr need mv (ys.map (eZ S)) (zs.map (eZ S))
  | [], ys => rfl
  | z :: zs, ys => by
    unfold drS
    rw [List.map_cons, aDr, ← List.map_cons, ← List.map_append, ← wS_eS (S := S) (T := eZ S) (fun _ => rfl)]
    split
    · rfl
    · show (if S.mk z = mv then _ else _ : List Nat).map (eZ S) = if S.mk z = mv then _ else _
      split
      · exact drS_map zs ys
      · rw [drS_map zs (ys ++ [z]), List.map_append]
        rfl
theorem drS_sub {need : Nat} {mv : Int32} : ∀ (zs ys : List Nat), (drS S need mv ys zs).Sublist (ys ++ zs)
  | [], ys => by simp [drS]
  | z :: zs, ys => by
    unfold drS
    split
    · exact List.Sublist.refl _
    · split
      · exact (drS_sub zs ys).trans (List.Sublist.append_left (List.sublist_cons_self _ _) _)
      · have := drS_sub (need := need) (mv := mv) zs (ys ++ [z])
        rw [List.append_assoc] at this
        exact this
theorem eraK_map : (eraK S key xs).map (eZ S) = aEra key (xs.map (eZ S)) := by
  unfold eraK aEra
  rw [List.eraseP_map]
  rfl
theorem eraK_sub : (eraK S key xs).Sublist xs := List.eraseP_sublist
/-- the place of a key is one -/
theorem eraK_ix : ∀ (xs : List Nat) (i z : Nat), (xs.map S.k).Nodup → xs[i]? = some z → S.k z = key → xs.eraseIdx i = eraK S key xs
  | [], i, z, _, h, _ => by simp at h
  | x :: xs, 0, z, _, h, hk => by
    simp at h
    subst h
    simp [eraK, List.eraseP_cons, hk]
  | x :: xs, i + 1, z, hn, h, hk => by
    rw [List.map_cons, List.nodup_cons] at hn
    rw [List.getElem?_cons_succ] at h
    have hx : S.k x ≠ key := fun r => hn.1 (by
      rw [r, ← hk]
      exact List.mem_map_of_mem (List.mem_of_getElem? h))
    have hf : (S.k x == key) = false := by simpa using hx
    rw [List.eraseIdx_cons_succ, eraK_ix xs i z hn.2 h hk]
    simp [eraK, List.eraseP_cons, hf]
theorem eraK_no (h : ∀ x ∈ xs, S.k x ≠ key) : eraK S key xs = xs := List.eraseP_of_forall_not (fun a ha => by simpa using h a ha)
/-- dropping those gathered first, or passing them by, is the same -/
theorem aAd_dg : ∀ (g : List Nat) (xs : List Ent) (T : Nat → Ent), (∀ n, (T n).v = vlS S n) → aAd xs (g.map T) = xs ++ (dgF S (eS xs) g).map T ∧ aAdC xs (g.map T) = g.length - (dgF S (eS xs) g).length
  | [], xs, T, _ => by simp [aAd, aAdC, dgF]
  | x :: g, xs, T, hT => by
    have hle := dgF_len (S := S) (base := eS xs) g
    rw [List.map_cons, aAd, aAdC, dgF, ← List.map_cons, ← wS_eS (S := S) hT]
    split
    · next q =>
      -- all fit
      have fits : ∀ (g : List Nat) (xs : List Ent), eS xs + eS (g.map T) ≤ 32 → aAd xs (g.map T) = xs ++ g.map T ∧ aAdC xs (g.map T) = 0 := by
        intro g
        induction g with
        | nil => intro xs _; simp [aAd, aAdC]
        | cons y g ih =>
          intro xs hle
          rw [List.map_cons] at hle ⊢
          rw [aAd, aAdC, if_pos hle, if_pos hle]
          rw [eS_cons] at hle
          have := ih (xs ++ [T y]) (by rw [eS_app, eS_cons, eS_nil]; omega)
          rw [this.1, this.2]
          simp
      rw [wS_eS (S := S) hT, List.map_cons, eS_cons] at q
      have := fits g (xs ++ [T x]) (by rw [eS_app, eS_cons, eS_nil]; omega)
      rw [this.1, this.2]
      simp
    · obtain ⟨h1, h2⟩ := aAd_dg g xs T hT
      refine ⟨h1, ?_⟩
      rw [h2, List.length_cons]
      omega
end L3A
