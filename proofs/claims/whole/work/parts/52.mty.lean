/-! the reference empties a segment: what is thought of it -/
def fl {α : Type} (f : α → Nat) (d : Nat → Bool) (s : Nat) (xs : List α) : List α := xs.filter (fun x => !(decide (f x < s) && d (f x)))
def Cs (A : AS) (s : Nat) : AS := mA (swp A.Y (A.w - 28) (A.Z, A.c) s).1 (fl (fun x => sN x.k) (due A.Y (A.w - 28)) s A.Y) A.w (swp A.Y (A.w - 28) (A.Z, A.c) s).2 A.t
def tri (S : RS) (n : Nat) : Nat × Int64 × List Int32 := (S.cm n, S.k n, vlS S n)
section L3E
variable {α : Type} {f : α → Nat} {d : Nat → Bool} {s : Nat} {xs ys : List α} {A : AS}
theorem fl_0 : fl f d 0 xs = xs := List.filter_eq_self.mpr (fun x _ => by simp)
theorem fl_no (h : d s = false) : fl f d (s + 1) xs = fl f d s xs := by
  unfold fl
  apply List.filter_congr
  intro x _
  generalize f x = t
  by_cases q : t = s
  · subst q
    simp [h]
  · have : (t < s + 1) ↔ (t < s) := by omega
    simp only [this]
theorem fl_yes (h : d s = true) : fl f d (s + 1) xs = (fl f d s xs).filter (fun x => !(f x == s)) := by
  unfold fl
  rw [List.filter_filter]
  apply List.filter_congr
  intro x _
  generalize f x = t
  by_cases q : t = s
  · subst q
    simp [h]
  · have h1 : (t < s + 1) ↔ (t < s) := by omega
    have h2 : (t == s) = false := by simpa using q
    simp only [h1, h2, Bool.not_false, Bool.true_and]
theorem fl_at : (fl f d s xs).filter (fun x => f x == s) = xs.filter (fun x => f x == s) := by
  unfold fl
  rw [List.filter_filter]
  apply List.filter_congr
  intro x _
  generalize f x = t
  by_cases q : t = s
  · subst q
    simp
  · have h2 : (t == s) = false := by simpa using q
    simp only [h2, Bool.false_and]
theorem fl_end (h : ∀ x ∈ xs, f x < s) : fl f d s xs = xs.filter (fun x => !d (f x)) := by
  unfold fl
  apply List.filter_congr
  intro x hx
  have := h x hx
  simp only [this, decide_true, Bool.true_and]
theorem fl_sub : (fl f d s xs).Sublist xs := List.filter_sublist
/-- what is in order and has the same members is the same -/
theorem srt_eq (g : α → Nat) : ∀ (xs ys : List α), xs.Pairwise (fun a b => g a < g b) → ys.Pairwise (fun a b => g a < g b) → (∀ n, n ∈ xs ↔ n ∈ ys) → xs = ys
  | [], [], _, _, _ => rfl
  | [], y :: ys, _, _, h => absurd ((h y).mpr List.mem_cons_self) (fun r => nomatch r)
  | x :: xs, [], _, _, h => absurd ((h x).mp List.mem_cons_self) (fun r => nomatch r)
  | x :: xs, y :: ys, hx, hy, h => by
    rw [List.pairwise_cons] at hx hy
    have e : x = y := by
      rcases List.mem_cons.mp ((h x).mp List.mem_cons_self) with r | r
      · exact r
      · rcases List.mem_cons.mp ((h y).mpr List.mem_cons_self) with t | t
        · exact t.symm
        · have := hx.1 y t
          have := hy.1 x r
          omega
    subst e
    have hnx : x ∉ xs := fun r => Nat.lt_irrefl _ (hx.1 x r)
    have hny : x ∉ ys := fun r => Nat.lt_irrefl _ (hy.1 x r)
    rw [srt_eq g xs ys hx.2 hy.2 (fun n => by
      constructor
      · intro r
        rcases List.mem_cons.mp ((h n).mp (List.mem_cons_of_mem _ r)) with t | t
        · subst t
          exact absurd r hnx
        · exact t
      · intro r
        rcases List.mem_cons.mp ((h n).mpr (List.mem_cons_of_mem _ r)) with t | t
        · subst t
          exact absurd r hny
        · exact t)]
theorem Cs_Z : (Cs A s).Z = (swp A.Y (A.w - 28) (A.Z, A.c) s).1 := rfl
theorem Cs_Y : (Cs A s).Y = fl (fun x => sN x.k) (due A.Y (A.w - 28)) s A.Y := rfl
theorem Cs_w : (Cs A s).w = A.w := rfl
theorem Cs_c : (Cs A s).c = (swp A.Y (A.w - 28) (A.Z, A.c) s).2 := rfl
theorem Cs_t : (Cs A s).t = A.t := rfl
theorem Cs_0 : Cs A 0 = mA A.Z A.Y A.w A.c A.t := by
  unfold Cs
  rw [fl_0]
  rfl
theorem Cs_end : Cs A 64 = emp A := by
  unfold Cs emp
  rw [fl_end (fun x _ => sN_lt x.k)]
theorem Cs_g : gS (Cs A s).Y s = gS A.Y s := by
  unfold gS
  rw [Cs_Y]
  exact fl_at (f := fun x : Ent => sN x.k)
theorem Cs_no (h : due A.Y (A.w - 28) s = false) : Cs A (s + 1) = Cs A s := by
  unfold Cs
  rw [fl_no h]
  have : swp A.Y (A.w - 28) (A.Z, A.c) (s + 1) = swp A.Y (A.w - 28) (A.Z, A.c) s := by
    show stp A.Y (A.w - 28) s (swp A.Y (A.w - 28) (A.Z, A.c) s) = _
    unfold stp
    rw [h]
    rfl
  rw [this]
/-- a set's turn: the index loses it, the rest is stp -/
theorem Cs_yes (h : due A.Y (A.w - 28) s = true) {zc : (Nat → List Ent) × (Nat → Int32)} (hz : stp A.Y (A.w - 28) s (swp A.Y (A.w - 28) (A.Z, A.c) s) = zc) : Cs A (s + 1) = mA zc.1 ((Cs A s).Y.filter (fun x => !(sN x.k == s))) A.w zc.2 A.t := by
  rw [← hz, Cs_Y]
  unfold Cs
  rw [fl_yes h]
  rfl
theorem stp_kept {x : Ent} {zc : (Nat → List Ent) × (Nat → Int32)} (hd : due A.Y (A.w - 28) s = true) (hl : gS A.Y s = [x]) (hg : x.g ≠ 0) : stp A.Y (A.w - 28) s zc = zc := by
  unfold stp
  rw [hd, hl]
  simp [hg]
end L3E
