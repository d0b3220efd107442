/-! putting anew, making room -/
section L2y
variable {A B : AS} {Y xs ys g an : List Ent} {a x : Ent} {key : Int64} {s e n w0 : Nat}
theorem len_in (f : Nat → List Ent) (hf : ∀ i, i < n → (f i).length ≤ 8) (hn : (xs.map Ent.k).Nodup) (hm : ∀ e ∈ xs, ∃ i, i < n ∧ e0 e ∈ f i) : xs.length ≤ 8 * n := by
  have h1 : ∀ k, k ≤ n → ((List.range k).flatMap f).length ≤ 8 * k := by
    intro k
    induction k with
    | zero => intro _; simp
    | succ k ih =>
      intro hk
      have h2 := ih (by omega)
      have h3 := hf k (by omega)
      rw [List.range_succ, List.flatMap_append, List.length_append]
      simp only [List.flatMap_cons, List.flatMap_nil, List.append_nil]
      omega
  have h2 := len_sub (xs := xs.map e0) (ys := (List.range n).flatMap f) (nd_of_map (f := Ent.k) (by rw [mapk_e0]; exact hn)) (fun y hy => by
    obtain ⟨e, he, rfl⟩ := List.mem_map.mp hy
    obtain ⟨i, hi, hm⟩ := hm e he
    exact List.mem_flatMap.mpr ⟨i, List.mem_range.mpr hi, hm⟩)
  rw [List.length_map] at h2
  have := h1 n (Nat.le_refl _)
  omega
theorem AI.l8 (h : AI A) {p : Nat} (hp : p < 97) : (A.Z p).length ≤ 8 := by
  have h1 := eS_len (fun e he => ((h.wz p hp).2 e he).1)
  have := (h.wz p hp).1
  omega
theorem AI.yl (h : AI A) : A.Y.length ≤ 264 := by
  refine len_in (n := 33) (fun i => A.Z (64 + i)) (fun i hi => h.l8 (by omega)) h.ky (fun e he => ⟨pl A.w e.p - 64, ?_, ?_⟩)
  · have := pl_lt (w := A.w) (p := e.p)
    omega
  · have := pl_lt (w := A.w) (p := e.p)
    rw [show 64 + (pl A.w e.p - 64) = pl A.w e.p by omega]
    exact (h.iy e he).1
theorem anw_mem : x ∈ anw A → x ∈ A.Y ∧ x.g ≠ 0 ∧ x.p < A.w - 28 := by
  intro hx
  obtain ⟨h1, h2⟩ := List.mem_filter.mp hx
  unfold isK at h2
  simp at h2
  exact ⟨h1, h2.1, h2.2.1⟩
theorem anw_len (h : AI A) (hE : isE A) : (anw A).length ≤ 32 := by
  obtain ⟨q1, q2⟩ := hE
  refine len_in (n := 4) (fun i => A.Z (64 + A.w % 32 + i)) (fun i hi => h.l8 (by omega)) (nd_sub List.filter_sublist h.ky) (fun e he => ?_)
  obtain ⟨h1, -, h3⟩ := anw_mem he
  obtain ⟨h4, h5, h6⟩ := h.iy e h1
  refine ⟨e.p + 32 - A.w, by omega, ?_⟩
  have : pl A.w e.p = 64 + A.w % 32 + (e.p + 32 - A.w) := by
    unfold pl
    rw [if_neg (by omega)]
    omega
  rw [← this]
  exact h4
/-- those of one page -/
theorem anw_page (h : AI A) : eS ((anw A).filter (fun x => x.p == n)) ≤ 32 := by
  have hsub : ((anw A).filter (fun x => x.p == n)).Sublist A.Y := List.filter_sublist.trans List.filter_sublist
  have h1 := sum_sub ew (((anw A).filter (fun x => x.p == n)).map e0) (A.Z (pl A.w n)) (nd_of_map (f := Ent.k) (by rw [mapk_e0]; exact nd_sub hsub h.ky)) (fun y hy => by
    obtain ⟨e, he, rfl⟩ := List.mem_map.mp hy
    have := (h.iy e (hsub.subset he)).1
    have hp : e.p = n := by simpa using (List.mem_filter.mp he).2
    rw [hp] at this
    exact this)
  have h2 : eS (((anw A).filter (fun x => x.p == n)).map e0) ≤ eS (A.Z (pl A.w n)) := h1
  rw [eS_e0] at h2
  exact Nat.le_trans h2 (h.wz _ pl_lt.2).1
def BJ (w0 : Nat) (dn : List Ent) (B : AS) : Prop := AI B ∧ (∀ e ∈ B.Y, w0 + 4 ≤ e.p + 32) ∧ w0 + 1 ≤ B.w ∧ B.w ≤ w0 + 4 ∧
  ∀ d, d < 4 → (∀ y ∈ dn, y.p + 32 ≤ w0 + d) → B.w ≤ w0 + 1 + d ∧ (B.w = w0 + 1 + d → eS (B.Z 96) ≤ eS (dn.filter (fun y => y.p + 32 == w0 + d)))
theorem ent_w : (ent x A).w = A.w := rfl
theorem wro_w : (wro A).w = A.w + 1 := rfl
theorem anx_J (hb : BJ w0 xs B) (hw0 : w0 % 4 = 0) (ho : ∀ y ∈ xs, y.p ≤ x.p) (hx : w0 ≤ x.p + 32 ∧ x.p + 32 < w0 + 4) (hl : 1 ≤ x.v.length ∧ x.v.length ≤ 8) (hs : eS ((xs ++ [x]).filter (fun y => y.p == x.p)) ≤ 32) : BJ w0 (xs ++ [x]) (anx B x) := by
  obtain ⟨h1, h2, h3, h4, h5⟩ := hb
  obtain ⟨d1, d2⟩ := h5 (x.p + 32 - w0) (by omega) (fun y hy => by have := ho y hy; omega)
  have hfx : ∀ d, x.p + 32 = w0 + d → eS ((xs ++ [x]).filter (fun y => y.p + 32 == w0 + d)) = eS (xs.filter (fun y => y.p + 32 == w0 + d)) + ew x := by
    intro d hd
    rw [List.filter_append, eS_app]
    have : [x].filter (fun y => y.p + 32 == w0 + d) = [x] := by simp [hd]
    rw [this, eS_cons, eS_nil]
    omega
  have hsame : ∀ zs : List Ent, zs.filter (fun y => y.p + 32 == x.p + 32) = zs.filter (fun y => y.p == x.p) := by
    intro zs
    apply List.filter_congr
    intro y _
    by_cases q : y.p = x.p
    · simp [q]
    · have : y.p + 32 ≠ x.p + 32 := by omega
      rw [beq_eq_false_iff_ne.mpr q, beq_eq_false_iff_ne.mpr this]
  have hd0 : w0 + (x.p + 32 - w0) = x.p + 32 := by omega
  have hlim := hfx (x.p + 32 - w0) (by omega)
  rw [hd0, hsame] at hlim
  rw [hd0] at d2
  have hw : ew x ≤ 32 := by unfold ew; omega
  unfold anx
  by_cases q : eS (B.Z 96) + ew x ≤ 32
  · rw [if_pos q]
    refine ⟨ent_AI h1 q hl, fun e he => ?_, h3, h4, fun d hd hy => ?_⟩
    · rcases List.mem_append.mp he with r | r
      · exact h2 e (List.filter_sublist.subset r)
      · simp at r
        subst r
        show w0 + 4 ≤ B.w + 32
        omega
    · have hdx := hy x (by simp)
      rw [ent_w]
      refine ⟨by omega, fun hq => ?_⟩
      have hdd : x.p + 32 = w0 + d := by omega
      rw [hfx d hdd]
      have h6 := d2 (by omega)
      rw [hdd] at h6
      show eS (up B.Z 96 (B.Z 96 ++ [e0 x]) 96) ≤ _
      rw [up_same, eS_app, eS_cons, eS_nil]
      have : ew (e0 x) = ew x := rfl
      omega
  · rw [if_neg q]
    have hlt : B.w ≤ w0 + (x.p + 32 - w0) := by
      by_cases r : B.w = w0 + 1 + (x.p + 32 - w0)
      · have h6 := d2 r
        rw [hsame] at h6
        omega
      · omega
    have hz : (wro B).Z 96 = [] := rfl
    have hA : AI (wro B) := wro_AI h1 (fun e he => by have := h2 e he; omega)
    refine ⟨ent_AI hA (by rw [hz, eS_nil]; omega) hl, fun e he => ?_, by rw [ent_w, wro_w]; omega, by rw [ent_w, wro_w]; omega, fun d hd hy => ?_⟩
    · rcases List.mem_append.mp he with r | r
      · exact h2 e (List.filter_sublist.subset r)
      · simp at r
        subst r
        show w0 + 4 ≤ B.w + 1 + 32
        omega
    · have hdx := hy x (by simp)
      rw [ent_w, wro_w]
      refine ⟨by omega, fun hq => ?_⟩
      have hdd : x.p + 32 = w0 + d := by omega
      rw [hfx d hdd]
      show eS (up (wro B).Z 96 ((wro B).Z 96 ++ [e0 x]) 96) ≤ _
      rw [up_same, hz, List.nil_append, eS_cons, eS_nil]
      have : ew (e0 x) = ew x := rfl
      omega
theorem fold_J (hw0 : w0 % 4 = 0) (hso : an.Pairwise (fun a b => a.p ≤ b.p)) (hp : ∀ x ∈ an, w0 ≤ x.p + 32 ∧ x.p + 32 < w0 + 4) (hl : ∀ x ∈ an, 1 ≤ x.v.length ∧ x.v.length ≤ 8) (hs : ∀ n, eS (an.filter (fun y => y.p == n)) ≤ 32) :
    ∀ (ys xs : List Ent) (B : AS), xs ++ ys = an → BJ w0 xs B → BJ w0 an (ys.foldl anx B)
  | [], xs, B, e, hb => by
    rw [List.append_nil] at e
    rw [← e]
    exact hb
  | y :: ys, xs, B, e, hb => by
    have hy : y ∈ an := by rw [← e]; simp
    have e' : (xs ++ [y]) ++ ys = an := by rw [List.append_assoc]; exact e
    refine fold_J hw0 hso hp hl hs ys (xs ++ [y]) (anx B y) e' (anx_J hb hw0 (fun z hz => ?_) (hp y hy) (hl y hy) ?_)
    · rw [← e, List.pairwise_append] at hso
      exact hso.2.2 z hz y List.mem_cons_self
    · refine Nat.le_trans (eS_sub (List.Sublist.filter _ ?_)) (hs y.p)
      rw [← e']
      exact List.sublist_append_left _ _
theorem anl_len (h : AI A) : (anl A).length ≤ 32 := by
  unfold anl
  split
  · rename_i q; exact anw_len h q
  · simp
/-- one page is written and all that belongs to it -/
theorem wo1_J (h : AI A) (hE : isE A) : BJ A.w (anw A) (wo1 A) := by
  obtain ⟨h1, h2, h3⟩ := emp_AI h hE
  have h4 : AI (wro (emp A)) := wro_AI h1 (fun e he => by have := h2 e he; have := hE.2; show 4 * ((A.w + 4) / 4) ≤ _; omega)
  have hpos : ∀ x ∈ anw A, A.w ≤ x.p + 32 ∧ x.p + 32 < A.w + 4 := fun x hx => by
    obtain ⟨m1, -, m3⟩ := anw_mem hx
    have := (h.iy x m1).2.2
    have := hE.1
    have := hE.2
    omega
  have := fold_J (an := anw A) (w0 := A.w) hE.2 (h.so.sublist List.filter_sublist) hpos (fun x hx => h.ly x (anw_mem hx).1) (fun n => anw_page h) (anw A) [] (wro (emp A)) rfl
    ⟨h4, fun e he => by have := h2 e he; omega, Nat.le_refl _, show A.w + 1 ≤ A.w + 4 by omega, fun d hd _ => ⟨show A.w + 1 ≤ A.w + 1 + d by omega, fun _ => Nat.zero_le _⟩⟩
  unfold wo1 anl
  rw [if_pos hE, if_pos hE]
  exact this
theorem wo1_nE (hE : ¬ isE A) : wo1 A = wro A := by
  unfold wo1 anl
  rw [if_neg hE, if_neg hE]
  rfl
theorem AI_c {c : Nat → Int32} {t : Nat} (h : AI A) : AI (mA A.Z A.Y A.w c t) := h
theorem wop_AI (h : AI A) : AI (wop A) ∧ A.w < (wop A).w ∧ (wop A).w ≤ A.w + 4 := by
  by_cases hE : isE A
  · have hJ := wo1_J h hE
    exact ⟨hJ.1, hJ.2.2.1, hJ.2.2.2.1⟩
  · have hA : AI (wo1 A) := by
      rw [wo1_nE hE]
      refine wro_AI h (fun e he => ?_)
      have := (h.iy e he).2.2
      by_cases q : A.w % 4 = 0
      · have : ¬ 32 ≤ A.w := fun r => hE ⟨r, q⟩
        omega
      · omega
    have hw : (wop A).w = A.w + 1 := by
      show (wo1 A).w = _
      rw [wo1_nE hE]
      rfl
    exact ⟨hA, by omega, by omega⟩
theorem wop_nE (hE : ¬ isE A) : (wop A).Z 96 = [] := by
  show (wo1 A).Z 96 = []
  rw [wo1_nE hE]
  rfl
end L2y
