/-! the reference: its cells, its numbers. R i: the cell behind field i (R 0 the reference itself); S: the numbers by pages P, and for each number the key k, length l, words v, newest nw, got gt, came cm, mark mk; w pages written, t turn, c counts, g gathered, h put anew; X: thrown, open, buffer, what was told -/
def mtab : List (Nat × Nat × Nat) := [(2, 0, 8), (4, 0, 8), (6, 2, 4096), (7, 0, 4096), (8, 0, 32768), (9, 1, 4096), (10, 1, 4096), (11, 0, 4096), (12, 1, 4096), (14, 0, 97), (15, 0, 776), (17, 1, 4096), (19, 0, 300), (21, 0, 300), (22, 1, 64), (23, 0, 13)]
def inU (j : Nat) : Bool := [0, 2, 4, 6, 7, 8, 9, 10, 11, 12, 14, 15, 17, 19, 21, 22, 23].contains j
def MW (R : Nat → Nat) (m : XM) : Prop := m.1 (R 0) = some (oB 5) ∧ (∀ q ∈ mtab, m.2.2.2 (R 0) q.1 = some (R q.1) ∧ m.1 (R q.1) = some (aR q.2.1 q.2.2)) ∧ ∀ i j, inU i = true → inU j = true → R i = R j → i = j
theorem MW.r {R : Nat → Nat} {m : XM} (h : MW R m) (i t n : Nat) (hq : (i, t, n) ∈ mtab) : gR m (R 0) i = some (R i) ∧ kd m (R i) = some (aR t n) := h.2.1 (i, t, n) hq
theorem MW.k0 {R : Nat → Nat} {m : XM} (h : MW R m) : kd m (R 0) = some (oB 5) := h.1
theorem MW.r2 {R : Nat → Nat} {m : XM} (h : MW R m) : gR m (R 0) 2 = some (R 2) := (h.r 2 0 8 (by decide)).1
theorem MW.k2 {R : Nat → Nat} {m : XM} (h : MW R m) : kd m (R 2) = some (aR 0 8) := (h.r 2 0 8 (by decide)).2
theorem MW.r4 {R : Nat → Nat} {m : XM} (h : MW R m) : gR m (R 0) 4 = some (R 4) := (h.r 4 0 8 (by decide)).1
theorem MW.k4 {R : Nat → Nat} {m : XM} (h : MW R m) : kd m (R 4) = some (aR 0 8) := (h.r 4 0 8 (by decide)).2
theorem MW.r6 {R : Nat → Nat} {m : XM} (h : MW R m) : gR m (R 0) 6 = some (R 6) := (h.r 6 2 4096 (by decide)).1
theorem MW.k6 {R : Nat → Nat} {m : XM} (h : MW R m) : kd m (R 6) = some (aR 2 4096) := (h.r 6 2 4096 (by decide)).2
theorem MW.r7 {R : Nat → Nat} {m : XM} (h : MW R m) : gR m (R 0) 7 = some (R 7) := (h.r 7 0 4096 (by decide)).1
theorem MW.k7 {R : Nat → Nat} {m : XM} (h : MW R m) : kd m (R 7) = some (aR 0 4096) := (h.r 7 0 4096 (by decide)).2
theorem MW.r8 {R : Nat → Nat} {m : XM} (h : MW R m) : gR m (R 0) 8 = some (R 8) := (h.r 8 0 32768 (by decide)).1
theorem MW.k8 {R : Nat → Nat} {m : XM} (h : MW R m) : kd m (R 8) = some (aR 0 32768) := (h.r 8 0 32768 (by decide)).2
theorem MW.r9 {R : Nat → Nat} {m : XM} (h : MW R m) : gR m (R 0) 9 = some (R 9) := (h.r 9 1 4096 (by decide)).1
theorem MW.k9 {R : Nat → Nat} {m : XM} (h : MW R m) : kd m (R 9) = some (aR 1 4096) := (h.r 9 1 4096 (by decide)).2
theorem MW.r10 {R : Nat → Nat} {m : XM} (h : MW R m) : gR m (R 0) 10 = some (R 10) := (h.r 10 1 4096 (by decide)).1
theorem MW.k10 {R : Nat → Nat} {m : XM} (h : MW R m) : kd m (R 10) = some (aR 1 4096) := (h.r 10 1 4096 (by decide)).2
theorem MW.r11 {R : Nat → Nat} {m : XM} (h : MW R m) : gR m (R 0) 11 = some (R 11) := (h.r 11 0 4096 (by decide)).1
theorem MW.k11 {R : Nat → Nat} {m : XM} (h : MW R m) : kd m (R 11) = some (aR 0 4096) := (h.r 11 0 4096 (by decide)).2
theorem MW.r12 {R : Nat → Nat} {m : XM} (h : MW R m) : gR m (R 0) 12 = some (R 12) := (h.r 12 1 4096 (by decide)).1
theorem MW.k12 {R : Nat → Nat} {m : XM} (h : MW R m) : kd m (R 12) = some (aR 1 4096) := (h.r 12 1 4096 (by decide)).2
theorem MW.r14 {R : Nat → Nat} {m : XM} (h : MW R m) : gR m (R 0) 14 = some (R 14) := (h.r 14 0 97 (by decide)).1
theorem MW.k14 {R : Nat → Nat} {m : XM} (h : MW R m) : kd m (R 14) = some (aR 0 97) := (h.r 14 0 97 (by decide)).2
theorem MW.r15 {R : Nat → Nat} {m : XM} (h : MW R m) : gR m (R 0) 15 = some (R 15) := (h.r 15 0 776 (by decide)).1
theorem MW.k15 {R : Nat → Nat} {m : XM} (h : MW R m) : kd m (R 15) = some (aR 0 776) := (h.r 15 0 776 (by decide)).2
theorem MW.r17 {R : Nat → Nat} {m : XM} (h : MW R m) : gR m (R 0) 17 = some (R 17) := (h.r 17 1 4096 (by decide)).1
theorem MW.k17 {R : Nat → Nat} {m : XM} (h : MW R m) : kd m (R 17) = some (aR 1 4096) := (h.r 17 1 4096 (by decide)).2
theorem MW.r19 {R : Nat → Nat} {m : XM} (h : MW R m) : gR m (R 0) 19 = some (R 19) := (h.r 19 0 300 (by decide)).1
theorem MW.k19 {R : Nat → Nat} {m : XM} (h : MW R m) : kd m (R 19) = some (aR 0 300) := (h.r 19 0 300 (by decide)).2
theorem MW.r21 {R : Nat → Nat} {m : XM} (h : MW R m) : gR m (R 0) 21 = some (R 21) := (h.r 21 0 300 (by decide)).1
theorem MW.k21 {R : Nat → Nat} {m : XM} (h : MW R m) : kd m (R 21) = some (aR 0 300) := (h.r 21 0 300 (by decide)).2
theorem MW.r22 {R : Nat → Nat} {m : XM} (h : MW R m) : gR m (R 0) 22 = some (R 22) := (h.r 22 1 64 (by decide)).1
theorem MW.k22 {R : Nat → Nat} {m : XM} (h : MW R m) : kd m (R 22) = some (aR 1 64) := (h.r 22 1 64 (by decide)).2
theorem MW.r23 {R : Nat → Nat} {m : XM} (h : MW R m) : gR m (R 0) 23 = some (R 23) := (h.r 23 0 13 (by decide)).1
theorem MW.k23 {R : Nat → Nat} {m : XM} (h : MW R m) : kd m (R 23) = some (aR 0 13) := (h.r 23 0 13 (by decide)).2
def RS : Type := (Nat → List Nat) × (Nat → Int64) × (Nat → Nat) × (Nat → Nat → Int32) × (Nat → Int32) × (Nat → Int32) × (Nat → Nat) × (Nat → Int32) × Nat × Nat × (Nat → Int32) × List Nat × List Nat
def RS.P (S : RS) : Nat → List Nat := S.1
def RS.k (S : RS) : Nat → Int64 := S.2.1
def RS.l (S : RS) : Nat → Nat := S.2.2.1
def RS.v (S : RS) : Nat → Nat → Int32 := S.2.2.2.1
def RS.nw (S : RS) : Nat → Int32 := S.2.2.2.2.1
def RS.gt (S : RS) : Nat → Int32 := S.2.2.2.2.2.1
def RS.cm (S : RS) : Nat → Nat := S.2.2.2.2.2.2.1
def RS.mk (S : RS) : Nat → Int32 := S.2.2.2.2.2.2.2.1
def RS.w (S : RS) : Nat := S.2.2.2.2.2.2.2.2.1
def RS.t (S : RS) : Nat := S.2.2.2.2.2.2.2.2.2.1
def RS.c (S : RS) : Nat → Int32 := S.2.2.2.2.2.2.2.2.2.2.1
def RS.g (S : RS) : List Nat := S.2.2.2.2.2.2.2.2.2.2.2.1
def RS.h (S : RS) : List Nat := S.2.2.2.2.2.2.2.2.2.2.2.2
def mS (P : Nat → List Nat) (k : Nat → Int64) (l : Nat → Nat) (v : Nat → Nat → Int32) (nw : Nat → Int32) (gt : Nat → Int32) (cm : Nat → Nat) (mk : Nat → Int32) (w : Nat) (t : Nat) (c : Nat → Int32) (g : List Nat) (h : List Nat) : RS := (P, k, l, v, nw, gt, cm, mk, w, t, c, g, h)
def RS.sP (S : RS) (x : Nat → List Nat) : RS := mS x S.k S.l S.v S.nw S.gt S.cm S.mk S.w S.t S.c S.g S.h
def RS.sk (S : RS) (x : Nat → Int64) : RS := mS S.P x S.l S.v S.nw S.gt S.cm S.mk S.w S.t S.c S.g S.h
def RS.sl (S : RS) (x : Nat → Nat) : RS := mS S.P S.k x S.v S.nw S.gt S.cm S.mk S.w S.t S.c S.g S.h
def RS.sv (S : RS) (x : Nat → Nat → Int32) : RS := mS S.P S.k S.l x S.nw S.gt S.cm S.mk S.w S.t S.c S.g S.h
def RS.snw (S : RS) (x : Nat → Int32) : RS := mS S.P S.k S.l S.v x S.gt S.cm S.mk S.w S.t S.c S.g S.h
def RS.sgt (S : RS) (x : Nat → Int32) : RS := mS S.P S.k S.l S.v S.nw x S.cm S.mk S.w S.t S.c S.g S.h
def RS.scm (S : RS) (x : Nat → Nat) : RS := mS S.P S.k S.l S.v S.nw S.gt x S.mk S.w S.t S.c S.g S.h
def RS.smk (S : RS) (x : Nat → Int32) : RS := mS S.P S.k S.l S.v S.nw S.gt S.cm x S.w S.t S.c S.g S.h
def RS.sw (S : RS) (x : Nat) : RS := mS S.P S.k S.l S.v S.nw S.gt S.cm S.mk x S.t S.c S.g S.h
def RS.st (S : RS) (x : Nat) : RS := mS S.P S.k S.l S.v S.nw S.gt S.cm S.mk S.w x S.c S.g S.h
def RS.sc (S : RS) (x : Nat → Int32) : RS := mS S.P S.k S.l S.v S.nw S.gt S.cm S.mk S.w S.t x S.g S.h
def RS.sg (S : RS) (x : List Nat) : RS := mS S.P S.k S.l S.v S.nw S.gt S.cm S.mk S.w S.t S.c x S.h
def RS.sh (S : RS) (x : List Nat) : RS := mS S.P S.k S.l S.v S.nw S.gt S.cm S.mk S.w S.t S.c S.g x
def RX : Type := Int32 × Int32 × (Nat → Int32) × List Int32 × (Nat → Int32)
def RX.th (X : RX) : Int32 := X.1
def RX.op (X : RX) : Int32 := X.2.1
def RX.b (X : RX) : Nat → Int32 := X.2.2.1
def RX.fo (X : RX) : List Int32 := X.2.2.2.1
def RX.du (X : RX) : Nat → Int32 := X.2.2.2.2
def mX (th op : Int32) (b : Nat → Int32) (fo : List Int32) (du : Nat → Int32) : RX := (th, op, b, fo, du)
/-- the pages' numbers in their two arrays -/
def pP (sz at' : Nat → Int32) (P : Nat → List Nat) : Prop := ∀ p, p < 97 → (P p).length ≤ 8 ∧ sz p = nI (P p).length ∧ (∀ i n, (P p)[i]? = some n → at' (8 * p + i) = nI n) ∧ ∀ n ∈ P p, n < 4096
def gl (c : Int32) (arr : Nat → Int32) (g : List Nat) : Prop := c = nI g.length ∧ g.length ≤ 264 ∧ (∀ i n, g[i]? = some n → arr i = nI n) ∧ ∀ n ∈ g, n < 4096
def MX (I : Nat → Nat → Int32) (X : RX) : Prop := I 0 0 = X.th ∧ I 0 1 = X.op ∧ (∀ i, i < 8 → I 2 i = X.b i) ∧ I 0 3 = nI X.fo.length ∧ X.fo.length ≤ 8 ∧ (∀ i y, X.fo[i]? = some y → I 4 i = y) ∧ ∀ t, t < 64 → I 22 t = X.du t
def MF (I : Nat → Nat → Int32) (L : Nat → Int64) (S : RS) (X : RX) : Prop := pP (I 14) (I 15) S.P ∧ (∀ n, n < 4096 → L n = S.k n) ∧ (∀ n, n < 4096 → I 7 n = nI (S.l n) ∧ S.l n ≤ 8) ∧ (∀ n, n < 4096 → ∀ i, i < 8 → I 8 (8 * n + i) = S.v n i) ∧ (∀ n, n < 4096 → I 9 n = S.nw n) ∧ (∀ n, n < 4096 → I 10 n = S.gt n) ∧ (∀ n, n < 4096 → I 11 n = nI (S.cm n) ∧ S.cm n < 2 ^ 30) ∧ (∀ n, n < 4096 → I 12 n = S.mk n) ∧ (I 0 16 = nI S.w ∧ S.w < 2 ^ 29) ∧ (I 0 13 = nI S.t ∧ S.t < 2 ^ 29) ∧ (∀ k, k < 13 → I 23 k = S.c k) ∧ gl (I 0 18) (I 19) S.g ∧ gl (I 0 20) (I 21) S.h ∧ MX I X
def iM (R : Nat → Nat) (m : XM) : Nat → Nat → Int32 := fun i => m.2.1 (R i)
def lM (R : Nat → Nat) (m : XM) : Nat → Int64 := m.2.2.1 (R 6)
def mc (R : Nat → Nat) (x : Nat) : Prop := ∃ j, inU j = true ∧ x = R j
def MB (R : Nat → Nat) (m0 m : XM) : Prop := m.1 = m0.1 ∧ m.2.2.2 = m0.2.2.2 ∧ ∀ x, ¬ mc R x → m.2.1 x = m0.2.1 x ∧ m.2.2.1 x = m0.2.2.1 x
def MR (R : Nat → Nat) (m0 : XM) (S : RS) (X : RX) (m : XM) : Prop := MW R m ∧ MB R m0 m ∧ MF (iM R m) (lM R m) S X
section L2S
variable {l : Launch} {G : xG} {Q : XR → XM → Prop} {R : Nat → Nat} {m0 m m' : XM} {S S' : RS} {X X' : RX} {I J : Nat → Nat → Int32} {L : Nat → Int64} {i j n p : Nat} {v : Int32}
theorem MF.congr (h : MF I L S X) (e : ∀ j, inU j = true → J j = I j) : MF J L S X := by
  obtain ⟨h1, h2, h3, h4, h5, h6, h7, h8, h9, h10, h11, h12, h13, h14, h15, h16, h17, h18, h19, h20⟩ := h
  unfold MF MX
  rw [e 14 (by decide), e 15 (by decide), e 7 (by decide), e 8 (by decide), e 9 (by decide), e 10 (by decide), e 11 (by decide), e 12 (by decide), e 0 (by decide), e 23 (by decide), e 19 (by decide), e 21 (by decide), e 2 (by decide), e 4 (by decide), e 22 (by decide)]
  exact ⟨h1, h2, h3, h4, h5, h6, h7, h8, h9, h10, h11, h12, h13, h14, h15, h16, h17, h18, h19, h20⟩
theorem MB.rf : MB R m m := ⟨rfl, rfl, fun _ _ => ⟨rfl, rfl⟩⟩
theorem MB.tr {m1 : XM} (h : MB R m0 m1) (h' : MB R m1 m) : MB R m0 m := ⟨h'.1.trans h.1, h'.2.1.trans h.2.1, fun x hx => ⟨(h'.2.2 x hx).1.trans (h.2.2 x hx).1, (h'.2.2 x hx).2.trans (h.2.2 x hx).2⟩⟩
theorem MB.fr (h : MB R m0 m) : Fr (mc R) m0 m := ⟨h.1, fun x hx => ⟨(h.2.2 x hx).1, (h.2.2 x hx).2, by rw [h.2.1]⟩⟩
theorem MR.w (h : MR R m0 S X m) : MW R m := h.1
theorem MR.b (h : MR R m0 S X m) : MB R m0 m := h.2.1
theorem MR.f (h : MR R m0 S X m) : MF (iM R m) (lM R m) S X := h.2.2
/-- one word is written -/
theorem MR.wI (h : MR R m0 S X m) (hi : inU i = true) (hF : MF (up (iM R m) i (up (iM R m i) n v)) (lM R m) S' X') : MR R m0 S' X' (mI m (R i) n v) := by
  refine ⟨h.1, ⟨h.2.1.1, h.2.1.2.1, fun x hx => ⟨?_, (h.2.1.2.2 x hx).2⟩⟩, hF.congr (fun j hj => ?_)⟩
  · have : x ≠ R i := fun q => hx ⟨i, hi, q⟩
    rw [← (h.2.1.2.2 x hx).1]
    funext t
    simp [mI, this]
  · funext t
    by_cases q : j = i
    · subst q
      by_cases r : t = n <;> simp [iM, mI, up, r]
    · have : R j ≠ R i := fun r => q (h.1.2.2 j i hj hi r)
      simp [iM, mI, up, q, this]
theorem MR.wL (h : MR R m0 S X m) {n : Nat} {v : Int64} (hF : MF (iM R m) (up (lM R m) n v) S' X') : MR R m0 S' X' (mL m (R 6) n v) := by
  refine ⟨h.1, ⟨h.2.1.1, h.2.1.2.1, fun x hx => ⟨(h.2.1.2.2 x hx).1, ?_⟩⟩, ?_⟩
  · have : x ≠ R 6 := fun q => hx ⟨6, by decide, q⟩
    rw [← (h.2.1.2.2 x hx).2]
    funext t
    simp [mL, this]
  · have : lM R (mL m (R 6) n v) = up (lM R m) n v := by
      funext t
      by_cases r : t = n <;> simp [lM, mL, up, r]
    rw [this]
    exact hF
/-! single fields -/
theorem MR.sNw (h : MR R m0 S X m) (hn : n < 4096) (v : Int32) : MR R m0 (S.snw (up S.nw n v)) X (mI m (R 9) n v) := by
  obtain ⟨h1, h2, h3, h4, h5, hr⟩ := h.f
  refine h.wI (by decide) ⟨h1, h2, h3, h4, fun k hk => ?_, hr⟩
  show up (iM R m 9) n v k = up S.nw n v k
  by_cases q : k = n
  · simp [up, q]
  · simp only [up, if_neg q]
    exact h5 k hk
theorem MR.sGt (h : MR R m0 S X m) (hn : n < 4096) (v : Int32) : MR R m0 (S.sgt (up S.gt n v)) X (mI m (R 10) n v) := by
  obtain ⟨h1, h2, h3, h4, h5, h6, hr⟩ := h.f
  refine h.wI (by decide) ⟨h1, h2, h3, h4, h5, fun k hk => ?_, hr⟩
  show up (iM R m 10) n v k = up S.gt n v k
  by_cases q : k = n
  · simp [up, q]
  · simp only [up, if_neg q]
    exact h6 k hk
theorem MR.sCm (h : MR R m0 S X m) (hn : n < 4096) {v : Nat} (hv : v < 2 ^ 30) : MR R m0 (S.scm (up S.cm n v)) X (mI m (R 11) n (nI v)) := by
  obtain ⟨h1, h2, h3, h4, h5, h6, h7, hr⟩ := h.f
  refine h.wI (by decide) ⟨h1, h2, h3, h4, h5, h6, fun k hk => ?_, hr⟩
  show up (iM R m 11) n (nI v) k = nI (up S.cm n v k) ∧ up S.cm n v k < 2 ^ 30
  by_cases q : k = n
  · simp only [up, if_pos q]
    exact ⟨trivial, hv⟩
  · simp only [up, if_neg q]
    exact h7 k hk
theorem MR.sMk (h : MR R m0 S X m) (hn : n < 4096) (v : Int32) : MR R m0 (S.smk (up S.mk n v)) X (mI m (R 12) n v) := by
  obtain ⟨h1, h2, h3, h4, h5, h6, h7, h8, hr⟩ := h.f
  refine h.wI (by decide) ⟨h1, h2, h3, h4, h5, h6, h7, fun k hk => ?_, hr⟩
  show up (iM R m 12) n v k = up S.mk n v k
  by_cases q : k = n
  · simp [up, q]
  · simp only [up, if_neg q]
    exact h8 k hk
theorem MR.sLen (h : MR R m0 S X m) (hn : n < 4096) {v : Nat} (hv : v ≤ 8) : MR R m0 (S.sl (up S.l n v)) X (mI m (R 7) n (nI v)) := by
  obtain ⟨h1, h2, h3, hr⟩ := h.f
  refine h.wI (by decide) ⟨h1, h2, fun k hk => ?_, hr⟩
  show up (iM R m 7) n (nI v) k = nI (up S.l n v k) ∧ up S.l n v k ≤ 8
  by_cases q : k = n
  · simp only [up, if_pos q]
    exact ⟨trivial, hv⟩
  · simp only [up, if_neg q]
    exact h3 k hk
theorem MR.sKey (h : MR R m0 S X m) (hn : n < 4096) (v : Int64) : MR R m0 (S.sk (up S.k n v)) X (mL m (R 6) n v) := by
  obtain ⟨h1, h2, hr⟩ := h.f
  refine h.wL ⟨h1, fun k hk => ?_, hr⟩
  show up (lM R m) n v k = up S.k n v k
  by_cases q : k = n
  · simp [up, q]
  · simp only [up, if_neg q]
    exact h2 k hk
theorem MR.sVal (h : MR R m0 S X m) (hn : n < 4096) (hi : i < 8) (v : Int32) : MR R m0 (S.sv (up S.v n (up (S.v n) i v))) X (mI m (R 8) (8 * n + i) v) := by
  obtain ⟨h1, h2, h3, h4, hr⟩ := h.f
  refine h.wI (by decide) ⟨h1, h2, h3, fun k hk j hj => ?_, hr⟩
  show up (iM R m 8) (8 * n + i) v (8 * k + j) = up S.v n (up (S.v n) i v) k j
  by_cases q : k = n
  · subst q
    by_cases r : j = i
    · simp [up, r]
    · have : ¬ 8 * k + j = 8 * k + i := by omega
      simp only [up, if_neg this, if_pos, if_neg r]
      exact h4 k hk j hj
  · have : ¬ 8 * k + j = 8 * n + i := by omega
    simp only [up, if_neg this, if_neg q]
    exact h4 k hk j hj
theorem MR.sCnt (h : MR R m0 S X m) (hn : n < 13) (v : Int32) : MR R m0 (S.sc (up S.c n v)) X (mI m (R 23) n v) := by
  obtain ⟨h1, h2, h3, h4, h5, h6, h7, h8, h9, h10, h11, hr⟩ := h.f
  refine h.wI (by decide) ⟨h1, h2, h3, h4, h5, h6, h7, h8, h9, h10, fun k hk => ?_, hr⟩
  show up (iM R m 23) n v k = up S.c n v k
  by_cases q : k = n
  · simp [up, q]
  · simp only [up, if_neg q]
    exact h11 k hk
theorem MR.sW (h : MR R m0 S X m) {v : Nat} (hv : v < 2 ^ 29) : MR R m0 (S.sw v) X (mI m (R 0) 16 (nI v)) := by
  obtain ⟨h1, h2, h3, h4, h5, h6, h7, h8, h9, h10, hr⟩ := h.f
  exact h.wI (by decide) ⟨h1, h2, h3, h4, h5, h6, h7, h8, ⟨rfl, hv⟩, h10, hr⟩
theorem MR.sT (h : MR R m0 S X m) {v : Nat} (hv : v < 2 ^ 29) : MR R m0 (S.st v) X (mI m (R 0) 13 (nI v)) := by
  obtain ⟨h1, h2, h3, h4, h5, h6, h7, h8, h9, h10, hr⟩ := h.f
  exact h.wI (by decide) ⟨h1, h2, h3, h4, h5, h6, h7, h8, h9, ⟨rfl, hv⟩, hr⟩
theorem MR.sTh (h : MR R m0 S X m) (v : Int32) : MR R m0 S (mX v X.op X.b X.fo X.du) (mI m (R 0) 0 v) := by
  obtain ⟨h1, h2, h3, h4, h5, h6, h7, h8, h9, h10, h11, h12, h13, h14, hr⟩ := h.f
  exact h.wI (by decide) ⟨h1, h2, h3, h4, h5, h6, h7, h8, h9, h10, h11, h12, h13, rfl, hr⟩
theorem MR.sOp (h : MR R m0 S X m) (v : Int32) : MR R m0 S (mX X.th v X.b X.fo X.du) (mI m (R 0) 1 v) := by
  obtain ⟨h1, h2, h3, h4, h5, h6, h7, h8, h9, h10, h11, h12, h13, h14, h15, hr⟩ := h.f
  exact h.wI (by decide) ⟨h1, h2, h3, h4, h5, h6, h7, h8, h9, h10, h11, h12, h13, h14, rfl, hr⟩
theorem MR.sBu (h : MR R m0 S X m) (v : Int32) : MR R m0 S (mX X.th X.op (up X.b n v) X.fo X.du) (mI m (R 2) n v) := by
  obtain ⟨h1, h2, h3, h4, h5, h6, h7, h8, h9, h10, h11, h12, h13, h14, h15, h16, hr⟩ := h.f
  refine h.wI (by decide) ⟨h1, h2, h3, h4, h5, h6, h7, h8, h9, h10, h11, h12, h13, h14, h15, fun k hk => ?_, hr⟩
  show up (iM R m 2) n v k = up X.b n v k
  by_cases q : k = n
  · simp [up, q]
  · simp only [up, if_neg q]
    exact h16 k hk
/-- words of the scratch arrays -/
theorem MR.s17 (h : MR R m0 S X m) (v : Int32) : MR R m0 S X (mI m (R 17) n v) := h.wI (by decide) h.f
theorem MR.s22 (h : MR R m0 S X m) (v : Int32) : MR R m0 S (mX X.th X.op X.b X.fo (up X.du n v)) (mI m (R 22) n v) := by
  obtain ⟨h1, h2, h3, h4, h5, h6, h7, h8, h9, h10, h11, h12, h13, h14, h15, h16, h17, h18, h19, h20⟩ := h.f
  refine h.wI (by decide) ⟨h1, h2, h3, h4, h5, h6, h7, h8, h9, h10, h11, h12, h13, h14, h15, h16, h17, h18, h19, fun k hk => ?_⟩
  show up (iM R m 22) n v k = up X.du n v k
  by_cases q : k = n
  · simp [up, q]
  · simp only [up, if_neg q]
    exact h20 k hk
theorem MR.g0 (h : MR R m0 S X m) : MR R m0 (S.sg []) X (mI m (R 0) 18 0) := by
  obtain ⟨h1, h2, h3, h4, h5, h6, h7, h8, h9, h10, h11, h12, hr⟩ := h.f
  exact h.wI (by decide) ⟨h1, h2, h3, h4, h5, h6, h7, h8, h9, h10, h11, ⟨rfl, Nat.zero_le _, (fun i n q => nomatch q), (fun n q => nomatch q)⟩, hr⟩
theorem MR.h0 (h : MR R m0 S X m) : MR R m0 (S.sh []) X (mI m (R 0) 20 0) := by
  obtain ⟨h1, h2, h3, h4, h5, h6, h7, h8, h9, h10, h11, h12, h13, hr⟩ := h.f
  exact h.wI (by decide) ⟨h1, h2, h3, h4, h5, h6, h7, h8, h9, h10, h11, h12, ⟨rfl, Nat.zero_le _, (fun i n q => nomatch q), (fun n q => nomatch q)⟩, hr⟩
/-! reading -/
theorem MR.sz (h : MR R m0 S X m) (hp : p < 97) : gI m (R 14) p = nI (S.P p).length ∧ (S.P p).length ≤ 8 := ⟨(h.f.1 p hp).2.1, (h.f.1 p hp).1⟩
theorem MR.at (h : MR R m0 S X m) (hp : p < 97) (hi : (S.P p)[i]? = some n) : gI m (R 15) (8 * p + i) = nI n ∧ n < 4096 := ⟨(h.f.1 p hp).2.2.1 i n hi, (h.f.1 p hp).2.2.2 n (List.mem_of_getElem? hi)⟩
theorem MR.key (h : MR R m0 S X m) (hn : n < 4096) : gL m (R 6) n = S.k n := h.f.2.1 n hn
theorem MR.len (h : MR R m0 S X m) (hn : n < 4096) : gI m (R 7) n = nI (S.l n) ∧ S.l n ≤ 8 := h.f.2.2.1 n hn
theorem MR.val (h : MR R m0 S X m) (hn : n < 4096) (hi : i < 8) : gI m (R 8) (8 * n + i) = S.v n i := h.f.2.2.2.1 n hn i hi
theorem MR.nw (h : MR R m0 S X m) (hn : n < 4096) : gI m (R 9) n = S.nw n := h.f.2.2.2.2.1 n hn
theorem MR.gt (h : MR R m0 S X m) (hn : n < 4096) : gI m (R 10) n = S.gt n := h.f.2.2.2.2.2.1 n hn
theorem MR.cm (h : MR R m0 S X m) (hn : n < 4096) : gI m (R 11) n = nI (S.cm n) ∧ S.cm n < 2 ^ 30 := h.f.2.2.2.2.2.2.1 n hn
theorem MR.mk (h : MR R m0 S X m) (hn : n < 4096) : gI m (R 12) n = S.mk n := h.f.2.2.2.2.2.2.2.1 n hn
theorem MR.wr (h : MR R m0 S X m) : gI m (R 0) 16 = nI S.w ∧ S.w < 2 ^ 29 := h.f.2.2.2.2.2.2.2.2.1
theorem MR.tu (h : MR R m0 S X m) : gI m (R 0) 13 = nI S.t ∧ S.t < 2 ^ 29 := h.f.2.2.2.2.2.2.2.2.2.1
theorem MR.cn (h : MR R m0 S X m) (hn : n < 13) : gI m (R 23) n = S.c n := h.f.2.2.2.2.2.2.2.2.2.2.1 n hn
theorem MR.gg (h : MR R m0 S X m) : gl (gI m (R 0) 18) (m.2.1 (R 19)) S.g := h.f.2.2.2.2.2.2.2.2.2.2.2.1
theorem MR.hh (h : MR R m0 S X m) : gl (gI m (R 0) 20) (m.2.1 (R 21)) S.h := h.f.2.2.2.2.2.2.2.2.2.2.2.2.1
theorem MR.xx (h : MR R m0 S X m) : MX (iM R m) X := h.f.2.2.2.2.2.2.2.2.2.2.2.2.2
/-! sums of words -/
theorem n8 (a b : Nat) : (8 : Int32) * nI a + nI b = nI (8 * a + b) := by
  rw [show (8 : Int32) = nI 8 from rfl, pk_mul, nI_add]
end L2S
