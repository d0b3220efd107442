/-! the cache without memory: entries (key, value, mark, log page), the 97 pages, the index, the pages written, the counts, how many came -/
def Ent : Type := Int64 × List Int32 × Int32 × Nat
def Ent.k (e : Ent) : Int64 := e.1
def Ent.v (e : Ent) : List Int32 := e.2.1
def Ent.g (e : Ent) : Int32 := e.2.2.1
def Ent.p (e : Ent) : Nat := e.2.2.2
def mE (k : Int64) (v : List Int32) (g : Int32) (p : Nat) : Ent := (k, v, g, p)
def AS : Type := (Nat → List Ent) × List Ent × Nat × (Nat → Int32) × Nat
def AS.Z (A : AS) : Nat → List Ent := A.1
def AS.Y (A : AS) : List Ent := A.2.1
def AS.w (A : AS) : Nat := A.2.2.1
def AS.c (A : AS) : Nat → Int32 := A.2.2.2.1
def AS.t (A : AS) : Nat := A.2.2.2.2
def mA (Z : Nat → List Ent) (Y : List Ent) (w : Nat) (c : Nat → Int32) (t : Nat) : AS := (Z, Y, w, c, t)
def ew (e : Ent) : Nat := 3 + e.v.length
def eS (xs : List Ent) : Nat := (xs.map ew).sum
def e0 (e : Ent) : Ent := mE e.k e.v 0 0
def aEra (key : Int64) (xs : List Ent) : List Ent := xs.eraseP (fun e => e.k == key)
def aHas (key : Int64) (xs : List Ent) : Bool := xs.any (fun e => e.k == key)
def aBor (xs : List Ent) : Int64 := xs.foldl (fun f e => f ||| bitF e.k) 0
def aDr (need : Nat) (mk : Int32) : List Ent → List Ent → List Ent
  | ys, [] => ys
  | ys, z :: zs => if eS (ys ++ z :: zs) + need ≤ 32 then ys ++ z :: zs else if z.g = mk then aDr need mk ys zs else aDr need mk (ys ++ [z]) zs
def aAd : List Ent → List Ent → List Ent
  | xs, [] => xs
  | xs, a :: g => if eS xs + eS (a :: g) ≤ 32 then aAd (xs ++ [a]) g else aAd xs g
def aAdC : List Ent → List Ent → Nat
  | _, [] => 0
  | xs, a :: g => if eS xs + eS (a :: g) ≤ 32 then aAdC (xs ++ [a]) g else aAdC xs g + 1
def aM1 (xs g : List Ent) : List Ent := g.foldl (fun xs e => aEra e.k xs) xs
def aM2 (xs g : List Ent) : List Ent := aDr (eS g) 0 [] (aM1 xs g)
def aM3 (xs g : List Ent) : List Ent := aDr (eS g) 1 [] (aM2 xs g)
def aMP (xs g : List Ent) : List Ent := aAd ((aM3 xs g).map e0) (g.map e0)
def aMC (xs g : List Ent) (c : Nat → Int32) : Nat → Int32 :=
  cA (cA (cA (cA (cA (cA c 9 1) 4 (nI g.length)) 5 (nI (aM1 xs g).length - nI (aM2 xs g).length)) 6 (nI (aM2 xs g).length - nI (aM3 xs g).length)) 7 (nI (aAdC ((aM3 xs g).map e0) (g.map e0)))) 1 1
def aRmZ (key : Int64) (Z : Nat → List Ent) : Nat → List Ent := if (aBor (Z (sN key)) &&& bitF key) = 0 then Z else up Z (sN key) (aEra key (Z (sN key)))
def aRmC (key : Int64) (k : Nat) (Z : Nat → List Ent) (c : Nat → Int32) : Nat → Int32 := if (aBor (Z (sN key)) &&& bitF key) = 0 then c else if aHas key (Z (sN key)) then cA (cA c 9 1) k 1 else cA c 9 1
def aRmA (key : Int64) (Z : Nat → List Ent) : Int32 := if (aBor (Z (sN key)) &&& bitF key) = 0 then 0 else if aHas key (Z (sN key)) then 1 else 0
/-- those of a set -/
def gS (Y : List Ent) (s : Nat) : List Ent := Y.filter (fun e => sN e.k == s)
def due (Y : List Ent) (e s : Nat) : Bool := Y.any (fun x => decide (x.p < e) && sN x.k == s)
def isK (Y : List Ent) (e : Nat) (x : Ent) : Bool := (x.g != 0) && (decide (x.p < e) && ((gS Y (sN x.k)).length == 1))
def stp (Y : List Ent) (e s : Nat) (zc : (Nat → List Ent) × (Nat → Int32)) : (Nat → List Ent) × (Nat → Int32) :=
  if due Y e s then
    if (gS Y s).length = 1 then
      match gS Y s with
      | x :: _ => if x.g ≠ 0 then zc else (aRmZ x.k zc.1, aRmC x.k 2 zc.1 (cA zc.2 8 1))
      | [] => zc
    else (up zc.1 s (aMP (zc.1 s) (gS Y s)), aMC (zc.1 s) (gS Y s) zc.2)
  else zc
def swp (Y : List Ent) (e : Nat) (zc : (Nat → List Ent) × (Nat → Int32)) : Nat → (Nat → List Ent) × (Nat → Int32)
  | 0 => zc
  | s + 1 => stp Y e s (swp Y e zc s)
def emp (A : AS) : AS := mA (swp A.Y (A.w - 28) (A.Z, A.c) 64).1 (A.Y.filter (fun x => !due A.Y (A.w - 28) (sN x.k))) A.w (swp A.Y (A.w - 28) (A.Z, A.c) 64).2 A.t
def anw (A : AS) : List Ent := A.Y.filter (isK A.Y (A.w - 28))
/-- the open page is written out -/
def wro (A : AS) : AS := mA (up (up A.Z (64 + A.w % 32) (A.Z 96)) 96 []) A.Y (A.w + 1) A.c A.t
/-- one comes into the open page -/
def ent (x : Ent) (A : AS) : AS := mA (up A.Z 96 (A.Z 96 ++ [e0 x])) (A.Y.filter (fun y => y.k != x.k) ++ [mE x.k x.v 0 A.w]) A.w A.c (A.t + 1)
def anx (A : AS) (x : Ent) : AS := ent x (if eS (A.Z 96) + ew x ≤ 32 then A else wro A)
abbrev isE (A : AS) : Prop := 32 ≤ A.w ∧ A.w % 4 = 0
def anl (A : AS) : List Ent := if isE A then anw A else []
def wo1 (A : AS) : AS := (anl A).foldl anx (wro (if isE A then emp A else A))
def wop (A : AS) : AS := mA (wo1 A).Z (wo1 A).Y (wo1 A).w (cA (wo1 A).c 10 (nI (anl A).length)) (wo1 A).t
def roo (n : Nat) : Nat → AS → AS
  | 0, A => A
  | f + 1, A => if eS (A.Z 96) + n ≤ 32 then A else roo n f (wop A)
def aPut (key : Int64) (v : List Int32) (A : AS) : AS := ent (mE key v 0 0) (roo (3 + v.length) 32 A)
/-- the page of the number n, where w pages were written -/
def pl (w n : Nat) : Nat := if n = w then 96 else 64 + n % 32
def AI (A : AS) : Prop := (A.Y.map Ent.k).Nodup ∧ (∀ s, s < 64 → ((A.Z s).map Ent.k).Nodup ∧ ∀ e ∈ A.Z s, sN e.k = s) ∧ (∀ p, p < 97 → eS (A.Z p) ≤ 32 ∧ ∀ e ∈ A.Z p, 1 ≤ e.v.length ∧ e.v.length ≤ 8) ∧
  (∀ e ∈ A.Y, e0 e ∈ A.Z (pl A.w e.p) ∧ e.p ≤ A.w ∧ 4 * ((A.w + 3) / 4) ≤ e.p + 32) ∧ A.Y.Pairwise (fun a b => a.p ≤ b.p)
theorem AI.ky {A : AS} (h : AI A) : (A.Y.map Ent.k).Nodup := h.1
theorem AI.kz {A : AS} (h : AI A) : ∀ s, s < 64 → ((A.Z s).map Ent.k).Nodup ∧ ∀ e ∈ A.Z s, sN e.k = s := h.2.1
theorem AI.wz {A : AS} (h : AI A) : ∀ p, p < 97 → eS (A.Z p) ≤ 32 ∧ ∀ e ∈ A.Z p, 1 ≤ e.v.length ∧ e.v.length ≤ 8 := h.2.2.1
theorem AI.iy {A : AS} (h : AI A) : ∀ e ∈ A.Y, e0 e ∈ A.Z (pl A.w e.p) ∧ e.p ≤ A.w ∧ 4 * ((A.w + 3) / 4) ≤ e.p + 32 := h.2.2.2.1
theorem AI.so {A : AS} (h : AI A) : A.Y.Pairwise (fun a b => a.p ≤ b.p) := h.2.2.2.2
section L2w
variable {xs ys g : List Ent} {a : Ent} {key : Int64} {s e : Nat}
theorem eS_nil : eS [] = 0 := rfl
theorem eS_cons : eS (a :: xs) = ew a + eS xs := by simp [eS]
theorem eS_app : eS (xs ++ ys) = eS xs + eS ys := by simp [eS]
theorem eS_e0 : eS (xs.map e0) = eS xs := by
  unfold eS
  rw [List.map_map]
  rfl
theorem eS_len (h : ∀ e ∈ xs, 1 ≤ e.v.length) : 4 * xs.length ≤ eS xs := by
  induction xs with
  | nil => simp [eS]
  | cons x xs ih =>
    rw [eS_cons, List.length_cons]
    have := ih (fun e he => h e (List.mem_cons_of_mem _ he))
    have := h x List.mem_cons_self
    unfold ew
    omega
/-- a part of it, none twice, is no more -/
theorem sum_sub {α : Type} (f : α → Nat) : ∀ (xs ys : List α), xs.Nodup → (∀ x ∈ xs, x ∈ ys) → (xs.map f).sum ≤ (ys.map f).sum
  | [], _, _, _ => by simp
  | x :: xs, ys, hn, hs => by
    obtain ⟨y1, y2, e⟩ := List.append_of_mem (hs x List.mem_cons_self)
    subst e
    rw [List.nodup_cons] at hn
    have := sum_sub f xs (y1 ++ y2) hn.2 (fun z hz => by
      have := hs z (List.mem_cons_of_mem _ hz)
      rw [List.mem_append, List.mem_cons] at this
      rw [List.mem_append]
      rcases this with q | q | q
      · exact Or.inl q
      · subst q
        exact absurd hz hn.1
      · exact Or.inr q)
    simp only [List.map_append, List.sum_append, List.map_cons, List.sum_cons] at *
    omega
theorem len_sub {α : Type} {xs ys : List α} (h1 : xs.Nodup) (h2 : ∀ x ∈ xs, x ∈ ys) : xs.length ≤ ys.length := by
  have h1' : ∀ zs : List α, (zs.map (fun _ => 1)).sum = zs.length := by
    intro zs
    induction zs with
    | nil => rfl
    | cons z zs ih => rw [List.map_cons, List.sum_cons, List.length_cons, ih, Nat.add_comm]
  have := sum_sub (fun _ => 1) xs ys h1 h2
  rwa [h1', h1'] at this
theorem nd_of_map {α β : Type} {f : α → β} : ∀ {xs : List α}, (xs.map f).Nodup → xs.Nodup
  | [], _ => List.nodup_nil
  | x :: xs, h => by
    rw [List.map_cons, List.nodup_cons] at h
    rw [List.nodup_cons]
    exact ⟨fun q => h.1 (List.mem_map_of_mem q), nd_of_map h.2⟩
theorem nd_inj {α β : Type} {f : α → β} : ∀ {xs : List α}, (xs.map f).Nodup → ∀ a ∈ xs, ∀ b ∈ xs, f a = f b → a = b
  | [], _, a, ha, _, _, _ => nomatch ha
  | x :: xs, h, a, ha, b, hb, e => by
    rw [List.map_cons, List.nodup_cons] at h
    rcases List.mem_cons.mp ha with q | q <;> rcases List.mem_cons.mp hb with r | r
    · rw [q, r]
    · subst q
      exact absurd (e ▸ List.mem_map_of_mem r) h.1
    · subst r
      exact absurd (e ▸ List.mem_map_of_mem q) h.1
    · exact nd_inj h.2 a q b r e
theorem nd_sub {α β : Type} {f : α → β} {xs ys : List α} (h : xs.Sublist ys) (hn : (ys.map f).Nodup) : (xs.map f).Nodup := List.Nodup.sublist (h.map f) hn
end L2w
