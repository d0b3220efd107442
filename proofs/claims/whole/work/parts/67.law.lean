/-! the law's calls of the class -/
def LM (K R : Nat → Nat) (o : Nat) (A : AS) (b : Nat → Int32) (fo : Option (List Int32)) (op : Int32) (S : RS) (X : RX) (m : XM) : Prop := CQ K (LN K R o) A b fo op m ∧ MR R m S X m ∧ m.1 o = some (aR 2 1) ∧ ¬ mc R o ∧ ∀ j, inU j = true → R j ≠ K 1
section L3T
variable {l : Launch} {G : xG} {Q : XR → XM → Prop} {K R : Nat → Nat} {m0 m m' m'' : XM} {S S' : RS} {X X' : RX} {A A' B : AS} {ix : List Nat} {pn : Nat → Nat} {o j t : Nat} {b b' : Nat → Int32} {fo fo' : Option (List Int32)} {op op' x y : Int32} {key : Int64}
theorem LM.ce (h : LM K R o A b fo op S X m) (hc : Ce K m m') (hq : CQ K (LN K R o) A' b' fo' op' m') : LM K R o A' b' fo' op' S X m' := by
  obtain ⟨h1, h2, h3, h4, h5⟩ := h
  exact ⟨hq, h2.ce hc h5, by rw [hc.1 o (by rw [h3]; exact Option.some_ne_none _)]; exact h3, h4, h5⟩
theorem LM.out (h : LM K R o A b fo op S X m) (v : Int64) : LM K R o A b fo op S X (mL m o 0 v) ∧ gL (mL m o 0 v) o 0 = v := by
  obtain ⟨h1, h2, h4, h5, h6⟩ := h
  have hf : Fr (fun x => x = o) m (mL m o 0 v) := frL _ _ rfl
  have n1 : K 1 ≠ o := fun r => by
    have := h1.kd1
    rw [r, h4] at this
    cases this
  refine ⟨⟨h1.xfr (E := fun x => x = o) hf (fun x hx => ⟨Or.inr (Or.inr hx), ?_⟩) (fun i hi => ?_), h2.kept (fun j hj => ?_), h4, h5, h6⟩, by simp [gL, mL]⟩
  · rw [show x = o from hx, h4]
    intro r
    have r' : 2 = 3 ∨ 2 = 4 ∨ (2 = 0 ∧ ((1 = 11 ∧ o = K 4) ∨ (1 = 64 ∧ o = K 10))) := r
    omega
  · rw [hf.gI n1 i]
    exact h1.2.2.1 i hi
  · have nj : R j ≠ o := fun r => h5 ⟨j, hj, r.symm⟩
    exact ⟨hf.kd _, (hf.2 _ nj).1, (hf.2 _ nj).2.1, (hf.2 _ nj).2.2⟩
/-- a call of the reference -/
theorem LM.md (h : LM K R o A b fo op S X m) (hr : MR R m S' X' m') : LM K R o A b fo op S' X' m' ∧ gL m' o 0 = gL m o 0 := by
  obtain ⟨h1, h2, h3, h4, h5⟩ := h
  refine ⟨⟨h1.mcell h2.w hr.b (fun x hx => Or.inr (Or.inl hx)) h5, hr.rb, by rw [hr.b.1]; exact h3, h4, h5⟩, ?_⟩
  show m'.2.2.1 o 0 = m.2.2.1 o 0
  rw [(hr.b.2.2 o h4).2]
theorem LM.k (h : LM K R o A b fo op S X m) : kd m (K 0) = some (oB 4) := h.1.kd0
theorem LM.ko (h : LM K R o A b fo op S X m) : kd m o = some (aR 2 1) := h.2.2.1
theorem c_Wword (hst : l.stackTraces = false) (h : LM K R o A b fo op S X m) (h0 : (x < 0 ∨ ¬ x < 8) → Q (.inl (some (vI 1))) m) (h1 : ¬ x < 0 → x < 8 → ∀ m', LM K R o A (up b x.toNatClampNeg y) fo op S X m' → gL m' o 0 = (b x.toNatClampNeg).toInt64 → Q (.inl (some (vI 0))) m') : CC l G xW_word [vR (some (K 0)), vI x, vI y, vR (some o)] m Q := by
  refine bW_word hst ⟨K 0, rfl, h.k, 0, 0, rfl, rfl, c_Cword hst h.1 (fun q => ⟨rfl, fun _ => bW_word_13 (h0 q)⟩) (fun q1 q2 m' hc hq => ?_)⟩
  have hm := h.ce hc hq
  refine ⟨o, rfl, 1, hm.ko, vp_in_nI (n := 0) (by omega) (by omega), fun m15 hm15 => ?_⟩
  rw [hm15]
  exact h1 q1 q2 _ (hm.out _).1 (hm.out _).2
theorem c_Wget (hst : l.stackTraces = false) (h : LM K R o A b fo op S X m) (h0 : op = 0 → Q (.inl (some (vI 1))) m) (h1 : ¬ op = 0 → ∀ m', LM K R o (aGet key A) b ((aFnd key A).map Ent.v) op S X m' → gL m' o 0 = (aGA key A).toInt64 → Q (.inl (some (vI 0))) m') : CC l G xW_get [vR (some (K 0)), vL key, vR (some o)] m Q := by
  refine bW_get hst ⟨K 0, rfl, h.k, 0, 0, rfl, rfl, c_Cget hst h.1 (fun q => ⟨rfl, fun _ => bW_get_12 (h0 q)⟩) (fun q m' hc hq => ?_)⟩
  have hm := h.ce hc hq
  refine ⟨o, rfl, 1, hm.ko, vp_in_nI (n := 0) (by omega) (by omega), fun m15 hm15 => ?_⟩
  rw [hm15]
  exact h1 q _ (hm.out _).1 (hm.out _).2
theorem c_Wgot (hst : l.stackTraces = false) (h : LM K R o A b fo op S X m) (h0 : (fo = none ∨ x < 0 ∨ ∃ v, fo = some v ∧ v.length ≤ x.toNatClampNeg) → Q (.inl (some (vI 1))) m) (h1 : ∀ v z, fo = some v → ¬ x < 0 → v[x.toNatClampNeg]? = some z → ∀ m', LM K R o A b fo op S X m' → gL m' o 0 = z.toInt64 → Q (.inl (some (vI 0))) m') : CC l G xW_got [vR (some (K 0)), vI x, vR (some o)] m Q := by
  refine bW_got hst ⟨K 0, rfl, h.k, 0, 0, rfl, rfl, c_Cgot hst h.1 (fun q => ⟨rfl, fun _ => bW_got_12 (h0 q)⟩) (fun v z q1 q2 q3 => ?_)⟩
  refine ⟨o, rfl, 1, h.ko, vp_in_nI (n := 0) (by omega) (by omega), fun m15 hm15 => ?_⟩
  rw [hm15]
  exact h1 v z q1 q2 q3 _ (h.out _).1 (h.out _).2
theorem c_Wwhere (hst : l.stackTraces = false) (h : LM K R o A b fo op S X m) (h0 : op = 0 → Q (.inl (some (vI 1))) m) (h1 : ¬ op = 0 → ∀ m', LM K R o A b fo op S X m' → gL m' o 0 = (aWh A key).toInt64 → Q (.inl (some (vI 0))) m') : CC l G xW_where [vR (some (K 0)), vL key, vR (some o)] m Q := by
  refine bW_where hst ⟨K 0, rfl, h.k, 0, 0, rfl, rfl, c_Cwhere hst h.1 (fun q => ⟨rfl, fun _ => bW_where_12 (h0 q)⟩) (fun q => ?_)⟩
  refine ⟨o, rfl, 1, h.ko, vp_in_nI (n := 0) (by omega) (by omega), fun m15 hm15 => ?_⟩
  rw [hm15]
  exact h1 q _ (h.out _).1 (h.out _).2
theorem c_Wflash (hst : l.stackTraces = false) (h : LM K R o A b fo op S X m) (h0 : (x < 0 ∨ 96 ≤ x ∨ y < 0 ∨ ¬ y < 32) → Q (.inl (some (vI 1))) m) (h1 : ¬ x < 0 → ¬ 96 ≤ x → ¬ y < 0 → y < 32 → ∀ m', LM K R o A b fo op S X m' → gL m' o 0 = (apw (A.Z x.toNatClampNeg) y.toNatClampNeg).toInt64 → Q (.inl (some (vI 0))) m') : CC l G xW_flash [vR (some (K 0)), vI x, vI y, vR (some o)] m Q := by
  refine bW_flash hst ⟨K 0, rfl, h.k, 0, 0, rfl, rfl, c_Cflash hst h.1 (fun q => ⟨rfl, fun _ => bW_flash_13 (h0 q)⟩) (fun q1 q2 q3 q4 => ?_)⟩
  refine ⟨o, rfl, 1, h.ko, vp_in_nI (n := 0) (by omega) (by omega), fun m15 hm15 => ?_⟩
  rw [hm15]
  exact h1 q1 q2 q3 q4 _ (h.out _).1 (h.out _).2
theorem c_Wclose (hst : l.stackTraces = false) (h : LM K R o A b fo op S X m) (h0 : op = 0 → Q (.inl (some (vI 1))) m) (h1 : ¬ op = 0 → ∀ m', LM K R o A b fo 0 S X m' → Q (.inl (some (vI 0))) m') : CC l G xW_close [vR (some (K 0))] m Q :=
  bW_close hst ⟨K 0, rfl, h.k, 0, 0, rfl, rfl, c_Cclose hst h.1 (fun q => ⟨rfl, fun _ => bW_close_7 (h0 q)⟩) (fun q m' hc hq => h1 q m' (h.ce hc hq))⟩
theorem c_Wcrash (hst : l.stackTraces = false) (h : LM K R o A b fo op S X m) (h0 : op = 0 → Q (.inl (some (vI 1))) m) (h1 : ¬ op = 0 → ∀ m', LM K R o (aCra t) b none 0 S X m' → Q (.inl (some (vI 0))) m') : CC l G xW_crash [vR (some (K 0))] m Q :=
  bW_crash hst ⟨K 0, rfl, h.k, 0, 0, rfl, rfl, c_Ccrash (t := t) hst h.1 (fun q => ⟨rfl, fun _ => bW_crash_7 (h0 q)⟩) (fun q m' hc hq => h1 q m' (h.ce hc hq))⟩
theorem c_Wopen (hst : l.stackTraces = false) (h : LM K R o A b fo op S X m) (h0 : ¬ op = 0 → Q (.inl (some (vI 1))) m) (h1 : op = 0 → ∀ m', LM K R o A b fo 1 S X m' → gL m' o 0 = (nI A.Y.length).toInt64 → Q (.inl (some (vI 0))) m') : CC l G xW_open [vR (some (K 0)), vR (some o)] m Q := by
  refine bW_open hst ⟨K 0, rfl, h.k, 0, 0, rfl, rfl, c_Copen hst h.1 (fun q => ⟨rfl, fun _ => bW_open_11 (h0 q)⟩) (fun q m' hc hq => ?_)⟩
  have hm := h.ce hc hq
  refine ⟨o, rfl, 1, hm.ko, vp_in_nI (n := 0) (by omega) (by omega), fun m15 hm15 => ?_⟩
  rw [hm15]
  exact h1 q _ (hm.out _).1 (hm.out _).2
theorem c_Wdelete (hst : l.stackTraces = false) (h : LM K R o A b fo op S X m) (h0 : op = 0 → Q (.inl (some (vI 1))) m) (h1 : ¬ op = 0 → ∀ m', LM K R o (aDel key A) b fo op S X m' → (gL m' o 0 = if aDA key A = 0 then 0 else 1) → Q (.inl (some (vI 0))) m') : CC l G xW_delete [vR (some (K 0)), vL key, vR (some o)] m Q := by
  refine bW_delete hst ⟨K 0, rfl, h.k, 0, 0, rfl, rfl, c_Cdelete hst h.1 (fun q => ⟨rfl, fun _ => bW_delete_19 (h0 q)⟩) (fun q m' hc hq => ?_)⟩
  have hm := h.ce hc hq
  refine ⟨fun r => ⟨o, rfl, 1, hm.ko, vp_in_nI (n := 0) (by omega) (by omega), fun m15 hm15 => ?_⟩, fun r => ⟨o, rfl, 1, hm.ko, vp_in_nI (n := 0) (by omega) (by omega), fun m15 hm15 => ?_⟩⟩
  · rw [hm15]
    exact h1 q _ (hm.out _).1 (by rw [if_pos r]; exact (hm.out _).2)
  · rw [hm15]
    exact h1 q _ (hm.out _).1 (by rw [if_neg r]; exact (hm.out _).2)
end L3T
