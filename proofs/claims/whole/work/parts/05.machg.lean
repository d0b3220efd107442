/-! non-throwing calls, caught calls -/
def xNo : XR → XM → Prop := fun _ _ => False
def kE (h : String → XM → Prop) : XR → XM → Prop
  | .inr E, m => h E m
  | _, _ => False
section XG
variable {l : Launch} {G : xG} {M : xMt} {pc : Nat} {L : List (Option XV)} {st : List XV} {m : XM} {bc bs : Nat} {Q : XR → XM → Prop}
theorem xBk.I0 {n : Nat} {f : Int32 → XM → Prop} (h : ∀ v m', f v m' → WW l G M n L (vI v :: st) m' bc bs Q) : xBk l G M n L st bc bs Q (kI f xNo) :=
  ⟨fun r m' hq => by
    rcases r with _ | (v | v | v)
    · exact hq.elim
    · exact h v m' hq
    · exact hq.elim
    · exact hq.elim, fun E m' hq => hq.elim⟩
theorem xBk.J0 {n : Nat} {f : Int64 → XM → Prop} (h : ∀ v m', f v m' → WW l G M n L (vL v :: st) m' bc bs Q) : xBk l G M n L st bc bs Q (kL f xNo) :=
  ⟨fun r m' hq => by
    rcases r with _ | (v | v | v)
    · exact hq.elim
    · exact hq.elim
    · exact h v m' hq
    · exact hq.elim, fun E m' hq => hq.elim⟩
theorem xBk.R0 {n : Nat} {f : Option Nat → XM → Prop} (h : ∀ v m', f v m' → WW l G M n L (vR v :: st) m' bc bs Q) : xBk l G M n L st bc bs Q (kR f xNo) :=
  ⟨fun r m' hq => by
    rcases r with _ | (v | v | v)
    · exact hq.elim
    · exact hq.elim
    · exact hq.elim
    · exact h v m' hq, fun E m' hq => hq.elim⟩
theorem kI.no {f : Int32 → XM → Prop} : ∀ E m', ¬ kI f xNo (.inr E) m' := fun _ _ h => h
theorem kL.no {f : Int64 → XM → Prop} : ∀ E m', ¬ kL f xNo (.inr E) m' := fun _ _ h => h
theorem kR.no {f : Option Nat → XM → Prop} : ∀ E m', ¬ kR f xNo (.inr E) m' := fun _ _ h => h
theorem xTI {n : Nat} {f : Int32 → XM → Prop} {g : String → XM → Prop} (h : ∀ v m', f v m' → WW l G M n L (vI v :: st) m' bc bs Q) : ∀ (r : Option XV) (m' : XM), kI f (kE g) (.inl r) m' → WW l G M n L (r.toList ++ st) m' bc bs Q := by
  intro r m' hq
  rcases r with _ | (v | v | v)
  · exact hq.elim
  · exact h v m' hq
  · exact hq.elim
  · exact hq.elim
theorem xTV {n : Nat} {f : XM → Prop} {g : String → XM → Prop} (h : ∀ m', f m' → WW l G M n L st m' bc bs Q) : ∀ (r : Option XV) (m' : XM), kV f (kE g) (.inl r) m' → WW l G M n L (r.toList ++ st) m' bc bs Q := by
  intro r m' hq
  rcases r with _ | (v | v | v)
  · exact h m' hq
  · exact hq.elim
  · exact hq.elim
  · exact hq.elim
end XG
theorem sw3 (x : Int32) : x = 0 ∨ x = 1 ∨ x = 2 ∨ (x.toInt < 0 ∨ 2 < x.toInt) := by
  by_cases h : x.toInt < 0 ∨ 2 < x.toInt
  · exact Or.inr (Or.inr (Or.inr h))
  · have : x.toInt = 0 ∨ x.toInt = 1 ∨ x.toInt = 2 := by omega
    rcases this with h | h | h
    · exact Or.inl (Int32.toInt_inj.mp h)
    · exact Or.inr (Or.inl (Int32.toInt_inj.mp h))
    · exact Or.inr (Or.inr (Or.inl (Int32.toInt_inj.mp h)))
theorem sw12 (x : Int32) : x = 0 ∨ x = 1 ∨ x = 2 ∨ x = 3 ∨ x = 4 ∨ x = 5 ∨ x = 6 ∨ x = 7 ∨ x = 8 ∨ x = 9 ∨ x = 10 ∨ x = 11 ∨ (x.toInt < 0 ∨ 11 < x.toInt) := by
  by_cases h : x.toInt < 0 ∨ 11 < x.toInt
  · simp only [h, or_true]
  · have : x.toInt = 0 ∨ x.toInt = 1 ∨ x.toInt = 2 ∨ x.toInt = 3 ∨ x.toInt = 4 ∨ x.toInt = 5 ∨ x.toInt = 6 ∨ x.toInt = 7 ∨ x.toInt = 8 ∨ x.toInt = 9 ∨ x.toInt = 10 ∨ x.toInt = 11 := by omega
    rcases this with h | h | h | h | h | h | h | h | h | h | h | h
    · have : x = 0 := Int32.toInt_inj.mp h
      simp [this]
    · have : x = 1 := Int32.toInt_inj.mp h
      simp [this]
    · have : x = 2 := Int32.toInt_inj.mp h
      simp [this]
    · have : x = 3 := Int32.toInt_inj.mp h
      simp [this]
    · have : x = 4 := Int32.toInt_inj.mp h
      simp [this]
    · have : x = 5 := Int32.toInt_inj.mp h
      simp [this]
    · have : x = 6 := Int32.toInt_inj.mp h
      simp [this]
    · have : x = 7 := Int32.toInt_inj.mp h
      simp [this]
    · have : x = 8 := Int32.toInt_inj.mp h
      simp [this]
    · have : x = 9 := Int32.toInt_inj.mp h
      simp [this]
    · have : x = 10 := Int32.toInt_inj.mp h
      simp [this]
    · have : x = 11 := Int32.toInt_inj.mp h
      simp [this]
