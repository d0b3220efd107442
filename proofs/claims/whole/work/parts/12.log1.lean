/-! the log of the class -/
section L2p
variable {m m' : XM} {F : Nat → Prop} {a ix ia ps p pa : Nat} {xs ys zs : List Nat}
theorem IxOK.fr (h : IxOK m ix ia ps ys) (hf : Fr F m m') (h1 : ¬ F ix) (h2 : ¬ F ia) (h3 : ¬ F ps) (hy : ∀ a ∈ ys, ¬ F a) : IxOK m' ix ia ps ys := by
  obtain ⟨g1, g2, g3, g4, g5, g6, g7, g8, g9, g10⟩ := h
  refine ⟨(hf.kd ix).trans g1, (hf.gR h1 0).trans g2, (hf.kd ia).trans g3, (hf.gR h1 1).trans g4, (hf.kd ps).trans g5, (hf.gI h1 2).trans g6, g7, fun i hi => (hf.gR h2 i).trans (g8 i hi), fun a ha => (g9 a ha).fr hf (hy a ha), fun s hs => ?_⟩
  rw [cnt_fr hf hy]
  exact (hf.gI h3 s).trans (g10 s hs)
theorem Fl.nf (h : Fl m m') {b : Nat} (hb : ¬ m.1 b = some (oB 1)) (k : Nat) : m'.2.1 b k = m.2.1 b k := h.2.2.2 b k (fun q => hb q.1)
theorem Fl.n45 (h : Fl m m') (b : Nat) {k : Nat} (h4 : k ≠ 4) (h5 : k ≠ 5) : m'.2.1 b k = m.2.1 b k := h.2.2.2 b k (fun q => q.2.elim h4 h5)
theorem cnt_fl {s : Nat} (h : Fl m m') : cnt m' s xs = cnt m s xs := by
  unfold cnt
  exact List.countP_congr (fun a _ => by rw [h.n45 a (by decide) (by decide)])
theorem IxOK.fl (h : IxOK m ix ia ps ys) (hf : Fl m m') : IxOK m' ix ia ps ys := by
  obtain ⟨g1, g2, g3, g4, g5, g6, g7, g8, g9, g10⟩ := h
  refine ⟨(hf.kd ix).trans g1, (hf.gR ix 0).trans g2, (hf.kd ia).trans g3, (hf.gR ix 1).trans g4, (hf.kd ps).trans g5, (hf.n45 ix (by decide) (by decide)).trans g6, g7, fun i hi => (hf.gR ia i).trans (g8 i hi), fun a ha => (g9 a ha).fl hf, fun s hs => ?_⟩
  rw [cnt_fl hf]
  refine (hf.nf (fun q => ?_) s).trans (g10 s hs)
  have := q.symm.trans g5
  cases this
theorem PF.kind (hp : PgOK m p pa xs) {b : Nat} (hb : PF p pa b) : m.1 b = some (oB 3) ∨ m.1 b = some (aR 3 8) := by
  rcases hb with rfl | rfl
  · exact Or.inl hp.1
  · exact Or.inr hp.2.2.1
theorem XF.kind (hp : IxOK m ix ia ps xs) {b : Nat} (hb : XF ix ia ps b) : m.1 b = some (oB 0) ∨ m.1 b = some (aR 3 264) ∨ m.1 b = some (aR 0 64) := by
  rcases hb with rfl | rfl | rfl
  · exact Or.inl hp.1
  · exact Or.inr (Or.inl hp.2.2.1)
  · exact Or.inr (Or.inr hp.2.2.2.2.1)
/-- the index isn't of a page's cells, nor the other way round -/
theorem IxOK.nPF (hx : IxOK m ix ia ps ys) (hp : PgOK m p pa xs) : ¬ PF p pa ix ∧ ¬ PF p pa ia ∧ ¬ PF p pa ps ∧ ∀ a ∈ ys, ¬ PF p pa a := by
  refine ⟨fun q => ?_, fun q => ?_, fun q => ?_, fun a ha => (hx.2.2.2.2.2.2.2.2.1 a ha).nPF hp⟩
  · rcases PF.kind hp q with h | h <;> · have := h.symm.trans hx.1; cases this
  · rcases PF.kind hp q with h | h <;> · have := h.symm.trans hx.2.2.1; cases this
  · rcases PF.kind hp q with h | h <;> · have := h.symm.trans hx.2.2.2.2.1; cases this
theorem PgOK.nXF (hx : IxOK m ix ia ps ys) (hp : PgOK m p pa xs) : ¬ XF ix ia ps p ∧ ¬ XF ix ia ps pa ∧ ∀ a ∈ xs, ¬ XF ix ia ps a := by
  refine ⟨fun q => ?_, fun q => ?_, fun a ha => (hp.2.2.2.2.2.1 a ha).nXF hx⟩
  · rcases XF.kind hx q with h | h | h <;> · have := h.symm.trans hp.1; cases this
  · rcases XF.kind hx q with h | h | h <;> · have := h.symm.trans hp.2.2.1; cases this
end L2p
section L2q
variable {l : Launch} {G : xG} {m : XM} {Q : XR → XM → Prop} {a lg op opa ix ia ps pr : Nat} {xs O Y : List Nat} {w : Nat}
theorem c_fullSegments (hst : l.stackTraces = false) (h1 : kd m lg = some (oB 2)) (h2 : gI m lg 3 = nI w) (hw : w < 2 ^ 30) (hq : Q (.inl (some (vI (nI (w / 4))))) m) : CC l G xG_fullSegments [vR (some lg)] m Q := by
  refine bG_fullSegments hst ⟨h1, ?_⟩
  rw [h2, show (4 : Int32) = nI 4 from rfl, pk_div (by omega) (by omega) (by omega)]
  exact hq
theorem c_isBefore (hst : l.stackTraces = false) (h1 : kd m lg = some (oB 2)) (h2 : gI m lg 3 = nI w) (hw : w < 2 ^ 30) (hq1 : 32 ≤ w → w % 4 = 0 → Q (.inl (some (vI 1))) m) (hq0 : ¬ (32 ≤ w ∧ w % 4 = 0) → Q (.inl (some (vI 0))) m) : CC l G xG_isBeforeWrittenSegment [vR (some lg)] m Q := by
  refine bG_isBeforeWrittenSegment hst ⟨h1, fun h => ?_, fun h => ⟨fun h3 => ?_, fun h3 => ?_⟩⟩
  · rw [h2, show (32 : Int32) = nI 32 from rfl, nI_ltI (by omega) (by omega)] at h
    exact hq0 (by omega)
  · rw [h2, show (4 : Int32) = nI 4 from rfl, pk_rem (by omega) (by omega) (by omega), ← nI_0, nI_eq (by omega) (by omega)] at h3
    exact hq0 (by omega)
  · rw [h2, show (32 : Int32) = nI 32 from rfl, nI_ltI (by omega) (by omega)] at h
    rw [h2, show (4 : Int32) = nI 4 from rfl, pk_rem (by omega) (by omega) (by omega), ← nI_0, nI_eq (by omega) (by omega)] at h3
    exact hq1 (by omega) h3
theorem c_oldestEnd (hst : l.stackTraces = false) (h1 : kd m lg = some (oB 2)) (h2 : gI m lg 3 = nI w) (hw : 32 ≤ w) (hq : Q (.inl (some (vI (nI (w - 28))))) m) : CC l G xG_oldestSegmentEnd [vR (some lg)] m Q := by
  refine bG_oldestSegmentEnd hst ⟨h1, ?_⟩
  rw [h2, show (32 : Int32) = nI 32 from rfl, show (4 : Int32) = nI 4 from rfl, pk_sub hw, nI_add, show w - 32 + 4 = w - 28 by omega]
  exact hq
theorem c_hasInOpenPage (hst : l.stackTraces = false) (h1 : kd m lg = some (oB 2)) (hi : kd m a = some (oB 1)) (hq1 : gI m a 4 = gI m lg 3 → Q (.inl (some (vI 1))) m) (hq0 : ¬ gI m a 4 = gI m lg 3 → Q (.inl (some (vI 0))) m) : CC l G xG_hasInOpenPage [vR (some lg), vR (some a)] m Q :=
  bG_hasInOpenPage hst ⟨a, rfl, hi, h1, hq0, hq1⟩
theorem c_GhasRoomFor (hst : l.stackTraces = false) (h1 : kd m lg = some (oB 2)) (h2 : gR m lg 2 = some op) (hp : PgOK m op opa O) (hi : Itm m a) (hq1 : wsum m O + iw m a ≤ 32 → Q (.inl (some (vI 1))) m) (hq0 : 32 < wsum m O + iw m a → Q (.inl (some (vI 0))) m) : CC l G xG_hasRoomFor [vR (some lg), vR (some a)] m Q := by
  obtain ⟨v, -, -, -, hv⟩ := hi.vl
  refine bG_hasRoomFor hst ⟨h1, a, rfl, hi.1, c_words hst hi ⟨op, h2, hp.1, c_hasRoomFor hst hp (by unfold iw; omega) (fun h => ⟨Or.inr rfl, hq1 h⟩) (fun h => ⟨Or.inl rfl, hq0 h⟩)⟩⟩
theorem c_append (hst : l.stackTraces = false) (h1 : kd m lg = some (oB 2)) (h2 : gR m lg 2 = some op) (h3 : gR m lg 1 = some ix) (hp : PgOK m op opa O) (hx : IxOK m ix ia ps Y) (hi : Itm m a) (hroom : wsum m O + iw m a ≤ 32) (hroom2 : (Y.filter (fun b => gL m b 0 != gL m a 0)).length < 264)
    (hq : ∀ m1 m', Fr (PF op opa) (mI (mI m a 5 0) a 4 (gI m lg 3)) m1 → PgOK m1 op opa (O ++ [a]) → Fr (XF ix ia ps) m1 m' → IxOK m' ix ia ps (Y.filter (fun b => gL m b 0 != gL m a 0) ++ [a]) → Q (.inl none) m') : CC l G xG_append [vR (some lg), vR (some a)] m Q := by
  have hla : lg ≠ a := fun e => by
    have := h1.symm.trans (e ▸ hi.1)
    cases this
  refine bG_append hst ⟨a, rfl, hi.1, ?_⟩
  rintro m4 rfl
  refine ⟨h1, ?_⟩
  rintro m6 rfl
  have e1 : gI (mI m a 5 0) lg 3 = gI m lg 3 := by simp [gI, mI, hla]
  rw [e1]
  have fl : Fl m (mI (mI m a 5 0) a 4 (gI m lg 3)) := (flI 0 hi.1 (Or.inr rfl)).tr (flI (m := mI m a 5 0) _ hi.1 (Or.inl rfl))
  have hp6 := hp.fl fl
  have hx6 := hx.fl fl
  have hi6 := hi.fl fl
  have eiw : iw (mI (mI m a 5 0) a 4 (gI m lg 3)) a = iw m a := by unfold iw; rw [vlen_fl fl]
  refine ⟨op, h2, hp.1, c_Padd hst hp6 hi6 (by rw [wsum_fl fl, eiw]; exact hroom) (fun m10 f10 hp10 => ?_)⟩
  obtain ⟨n1, n2, n3, n4⟩ := hx6.nPF hp6
  have hx10 := hx6.fr f10 n1 n2 n3 n4
  have hi10 := hi6.fr f10 (hi6.nPF hp6)
  have hlp : ¬ PF op opa lg := fun q => by
    rcases PF.kind hp q with h | h <;> · have := h.symm.trans h1; cases this
  have ek : ∀ b, ¬ PF op opa b → gL m10 b 0 = gL m b 0 := fun b hb => f10.gL hb 0
  have ef : Y.filter (fun b => gL m10 b 0 != gL m10 a 0) = Y.filter (fun b => gL m b 0 != gL m a 0) := by
    apply List.filter_congr
    intro b hb
    rw [ek b (n4 b hb), ek a (hi6.nPF hp6)]
  refine ⟨(f10.kd lg).trans h1, ix, (f10.gR hlp 1).trans h3, hx10.1, c_Iadd hst hx10 hi10 (by rw [ef]; exact hroom2) (fun m15 f15 hx15 => ?_)⟩
  rw [ef] at hx15
  exact hq m10 m15 f10 hp10 f15 hx15
/-- the open page is written: it takes the place of the page there, which is emptied and becomes the open one -/
theorem c_writeOut {q qa : Nat} (hst : l.stackTraces = false) (h1 : kd m lg = some (oB 2)) (h2 : gR m lg 0 = some pr) (h3 : kd m pr = some (aR 4 32)) (h4 : gR m lg 2 = some op) (h5 : kd m op = some (oB 3)) (h6 : gI m lg 3 = nI w) (hw : w < 2 ^ 30) (h7 : gR m pr (w % 32) = some q) (h8 : kd m q = some (oB 3)) (h9 : gR m q 0 = some qa) (h10 : kd m qa = some (aR 3 8))
    (hq : ∀ m', Fr (fun b => b = pr ∨ b = lg ∨ PF q qa b) m m' → (∀ i, gR m' pr i = if i = w % 32 then some op else gR m pr i) → gR m' lg 0 = gR m lg 0 → gR m' lg 1 = gR m lg 1 → gR m' lg 2 = some q → gI m' lg 3 = nI (w + 1) → PgOK m' q qa [] → Q (.inl none) m') : CC l G xG_writeOut [vR (some lg)] m Q := by
  have npl : pr ≠ lg := fun e => by have := h3.symm.trans (e ▸ h1); cases this
  have npq : pr ≠ q := fun e => by have := h3.symm.trans (e ▸ h8); cases this
  have npa : pr ≠ qa := fun e => by have := h3.symm.trans (e ▸ h10); cases this
  have nlq : lg ≠ q := fun e => by have := h1.symm.trans (e ▸ h8); cases this
  have nla : lg ≠ qa := fun e => by have := h1.symm.trans (e ▸ h10); cases this
  have ep : gI m lg 3 &&& (31 : Int32) = nI (w % 32) := by
    rw [h6]
    exact pk_andN (by omega) 5 (by decide)
  have hlt : w % 32 < 32 := Nat.mod_lt _ (by omega)
  refine bG_writeOut hst ⟨h1, pr, h2, 32, h3, by rw [ep]; exact vp_in_nI hlt (by omega), by rw [ep]; exact vp_in_nI hlt (by omega), op, h4, h5, ?_⟩
  rintro m11 rfl
  rw [ep, nI_clamp (by omega)]
  refine ⟨q, h7, h8, c_Pwipe hst h8 (pa := qa) ?_ h10 (fun m15 f15 hp15 => ⟨(f15.kd lg).trans h1, ?_⟩)⟩
  · rw [← h9]
    simp [gR, mR, npq.symm]
  · rintro m17 rfl m18 rfl
    have hlp : ¬ PF q qa lg := fun h => h.elim nlq nla
    have hpp : ¬ PF q qa pr := fun h => h.elim npq npa
    have fa : Fr (fun b => b = pr ∨ b = lg ∨ PF q qa b) m (mR m pr (w % 32) (some op)) := frR _ _ (Or.inl rfl)
    have fb : Fr (fun b => b = pr ∨ b = lg ∨ PF q qa b) (mR m pr (w % 32) (some op)) m15 := f15.mono (fun b hb => Or.inr (Or.inr hb))
    have fc : Fr (fun b => b = pr ∨ b = lg ∨ PF q qa b) m15 (mR m15 lg 2 (gR m pr (w % 32))) := frR _ _ (Or.inr (Or.inl rfl))
    have fd : Fr (fun b => b = pr ∨ b = lg ∨ PF q qa b) (mR m15 lg 2 (gR m pr (w % 32))) (mI (mR m15 lg 2 (gR m pr (w % 32))) lg 3 (gI m15 lg 3 + 1)) := frI _ _ (Or.inr (Or.inl rfl))
    have fr := ((fa.tr fb).tr fc).tr fd
    have gl : ∀ k, gR m15 lg k = gR m lg k := fun k => (f15.gR hlp k).trans (by simp [mR, npl.symm])
    refine hq _ fr (fun i => ?_) ?_ ?_ ?_ ?_ ?_
    · have : gR m15 pr i = if i = w % 32 then some op else gR m pr i := (f15.gR hpp i).trans (by simp [mR, gR])
      rw [← this]
      simp [gR, mR, mI, npl]
    · rw [← gl 0]
      simp [gR, mR, mI]
    · rw [← gl 1]
      simp [gR, mR, mI]
    · rw [← h7]
      simp [gR, mR, mI]
    · have : gI m15 lg 3 = nI w := (f15.gI hlp 3).trans h6
      rw [this, nI_1]
      simp [gI, mI]
    · have f2 : Fr (fun b => b = lg) m15 (mI (mR m15 lg 2 (gR m pr (w % 32))) lg 3 (gI m15 lg 3 + 1)) := Fr.tr (F := fun b => b = lg) (frR (F := fun b => b = lg) _ _ rfl) (frI (F := fun b => b = lg) _ _ rfl)
      exact hp15.fr f2 (fun e => nlq e.symm) (fun e => nla e.symm) (fun a ha => nomatch ha)
end L2q
