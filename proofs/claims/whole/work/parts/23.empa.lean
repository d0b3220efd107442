/-! emptying a segment, set by set -/
def yF (A : AS) (s : Nat) : List Ent := A.Y.filter (fun x => !isK A.Y (A.w - 28) x && !(decide (sN x.k < s) && due A.Y (A.w - 28) (sN x.k)))
def Bs (A : AS) (s : Nat) : AS := mA (swp A.Y (A.w - 28) (A.Z, A.c) s).1 (yF A s) A.w (swp A.Y (A.w - 28) (A.Z, A.c) s).2 A.t
section L2B
variable {A : AS} {Y xs ys g : List Ent} {a x y : Ent} {s e : Nat} {zc : (Nat → List Ent) × (Nat → Int32)}
theorem due_iff : due Y e s = true ↔ ∃ x ∈ Y, x.p < e ∧ sN x.k = s := by
  unfold due
  rw [List.any_eq_true]
  simp
theorem isK_one (h : isK Y e x = true) (hx : x ∈ Y) : gS Y (sN x.k) = [x] ∧ x.g ≠ 0 ∧ x.p < e := by
  unfold isK at h
  simp at h
  obtain ⟨h1, h2, h3⟩ := h
  refine ⟨?_, h1, h2⟩
  obtain ⟨z, hz⟩ := List.length_eq_one_iff.mp h3
  have : x ∈ gS Y (sN x.k) := gS_mem.mpr ⟨hx, rfl⟩
  rw [hz] at this
  simp at this
  rw [hz, this]
theorem isK_due (h : isK Y e x = true) (hx : x ∈ Y) : due Y e (sN x.k) = true := due_of hx (isK_one h hx).2.2
theorem yF_mem : x ∈ yF A s ↔ x ∈ A.Y ∧ isK A.Y (A.w - 28) x = false ∧ ¬ (sN x.k < s ∧ due A.Y (A.w - 28) (sN x.k) = true) := by
  unfold yF
  rw [List.mem_filter]
  constructor
  · rintro ⟨h1, h2⟩
    refine ⟨h1, ?_⟩
    cases q : isK A.Y (A.w - 28) x <;> cases r : due A.Y (A.w - 28) (sN x.k) <;> simp_all
  · rintro ⟨h1, h2, h3⟩
    refine ⟨h1, ?_⟩
    cases r : due A.Y (A.w - 28) (sN x.k) <;> simp_all
theorem noK (ht : due (yF A 0) (A.w - 28) s = true) : ∀ y ∈ A.Y, sN y.k = s → isK A.Y (A.w - 28) y = false := by
  obtain ⟨x, hx, -, hxs⟩ := due_iff.mp ht
  obtain ⟨h1, h2, -⟩ := yF_mem.mp hx
  intro y hy hs
  cases q : isK A.Y (A.w - 28) y with
  | false => rfl
  | true =>
    have := (isK_one q hy).1
    have hx' : x ∈ gS A.Y (sN y.k) := gS_mem.mpr ⟨h1, by rw [hs]; exact hxs⟩
    rw [this] at hx'
    simp at hx'
    rw [hx', q] at h2
    cases h2
theorem touch1 (ht : due (yF A 0) (A.w - 28) s = true) : gS (yF A s) s = gS A.Y s ∧ due A.Y (A.w - 28) s = true ∧ ((gS A.Y s).length = 1 → ∀ x ∈ gS A.Y s, x.g = 0) ∧ yF A (s + 1) = (yF A s).filter (fun x => !(sN x.k == s)) := by
  have hK := noK ht
  have hd : due A.Y (A.w - 28) s = true := by
    obtain ⟨x, hx, h1, h2⟩ := due_iff.mp ht
    exact due_iff.mpr ⟨x, (yF_mem.mp hx).1, h1, h2⟩
  refine ⟨?_, hd, fun hl x hx => ?_, ?_⟩
  · unfold gS yF
    rw [List.filter_filter]
    apply List.filter_congr
    intro x hx
    by_cases q : sN x.k = s
    · rw [hK x hx q]
      simp [q]
    · simp [q]
  · obtain ⟨x0, hx0, h1, h2⟩ := due_iff.mp ht
    have hm0 : x0 ∈ gS A.Y s := gS_mem.mpr ⟨(yF_mem.mp hx0).1, h2⟩
    obtain ⟨z, hz⟩ := List.length_eq_one_iff.mp hl
    have e1 : x = x0 := by
      rw [hz] at hx hm0
      simp at hx hm0
      rw [hx, hm0]
    subst e1
    have hk := (yF_mem.mp hx0).2.1
    unfold isK at hk
    rw [h2, hl] at hk
    simp [h1] at hk
    exact hk
  · unfold yF
    rw [List.filter_filter]
    apply List.filter_congr
    intro x hx
    by_cases q : sN x.k = s
    · rw [q, hd]
      simp
    · have : decide (sN x.k < s + 1) = decide (sN x.k < s) := by
        by_cases r : sN x.k < s
        · simp [r, Nat.lt_succ_of_lt r]
        · have : ¬ sN x.k < s + 1 := by omega
          simp [r, this]
      rw [this]
      simp [q]
theorem touch0 (ht : due (yF A 0) (A.w - 28) s = false) : yF A (s + 1) = yF A s ∧ stp A.Y (A.w - 28) s zc = zc := by
  have hno : ∀ x ∈ A.Y, sN x.k = s → x.p < A.w - 28 → isK A.Y (A.w - 28) x = true := by
    intro x hx hs hp
    cases q : isK A.Y (A.w - 28) x with
    | true => rfl
    | false =>
      rw [due_iff.mpr ⟨x, yF_mem.mpr ⟨hx, q, fun r => absurd r.1 (Nat.not_lt_zero _)⟩, hp, hs⟩] at ht
      cases ht
  by_cases hd : due A.Y (A.w - 28) s = true
  · obtain ⟨x, hx, h1, h2⟩ := due_iff.mp hd
    have hk := hno x hx h2 h1
    obtain ⟨h3, h4, -⟩ := isK_one hk hx
    rw [h2] at h3
    constructor
    · unfold yF
      apply List.filter_congr
      intro y hy
      by_cases q : sN y.k = s
      · have : y ∈ gS A.Y s := gS_mem.mpr ⟨hy, q⟩
        rw [h3] at this
        simp at this
        rw [this, hk]
        simp
      · have : decide (sN y.k < s + 1) = decide (sN y.k < s) := by
          by_cases r : sN y.k < s
          · simp [r, Nat.lt_succ_of_lt r]
          · have : ¬ sN y.k < s + 1 := by omega
            simp [r, this]
        rw [this]
    · unfold stp
      rw [if_pos hd, h3]
      simp [h4]
  · have hd' : due A.Y (A.w - 28) s = false := by simpa using hd
    constructor
    · unfold yF
      apply List.filter_congr
      intro y hy
      by_cases q : sN y.k = s
      · rw [q, hd']
        simp
      · have : decide (sN y.k < s + 1) = decide (sN y.k < s) := by
          by_cases r : sN y.k < s
          · simp [r, Nat.lt_succ_of_lt r]
          · have : ¬ sN y.k < s + 1 := by omega
            simp [r, this]
        rw [this]
    · unfold stp
      rw [if_neg hd]
theorem Bs_end : Bs A 64 = emp A := by
  unfold Bs emp
  congr 1
  unfold yF
  apply List.filter_congr
  intro x hx
  cases q : isK A.Y (A.w - 28) x with
  | true =>
    rw [isK_due q hx]
    rfl
  | false =>
    simp [sN_lt]
theorem stp_move (hd : due Y e s = true) (hl : (gS Y s).length ≠ 1) : stp Y e s zc = (up zc.1 s (aMP (zc.1 s) (gS Y s)), aMC (zc.1 s) (gS Y s) zc.2) := by
  unfold stp
  rw [if_pos hd, if_neg hl]
theorem stp_alone (hd : due Y e s = true) (hl : gS Y s = [x]) (hg : x.g = 0) : stp Y e s zc = (aRmZ x.k zc.1, aRmC x.k 2 zc.1 (cA zc.2 8 1)) := by
  unfold stp
  rw [if_pos hd, hl]
  simp [hg]
theorem aRmZ_congr {key : Int64} {Z Z' : Nat → List Ent} {p : Nat} (h1 : Z (sN key) = Z' (sN key)) (h2 : Z p = Z' p) : aRmZ key Z p = aRmZ key Z' p := by
  unfold aRmZ
  rw [h1]
  split
  · exact h2
  · unfold up
    split
    · rfl
    · exact h2
theorem aRmC_congr {key : Int64} {Z Z' : Nat → List Ent} {k : Nat} {c : Nat → Int32} (h1 : Z (sN key) = Z' (sN key)) : aRmC key k Z c = aRmC key k Z' c := by
  unfold aRmC
  rw [h1]
end L2B
