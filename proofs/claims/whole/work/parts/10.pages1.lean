/-! items and pages of the class: what the memory holds, by lists of addresses -/
theorem lgc0 {x y : Int64} : lg_cmp x y = 0 ↔ x = y := by
  unfold lg_cmp
  by_cases h1 : x > y
  · rw [if_pos h1]
    constructor
    · intro h; exact absurd h (by decide)
    · intro h
      subst h
      exact absurd h1 (Int64.lt_irrefl)
  · rw [if_neg h1]
    by_cases h2 : x = y
    · simp [h2]
    · rw [if_neg h2]
      constructor
      · intro h; exact absurd h (by decide)
      · intro h; exact absurd h h2
def vlen (m : XM) (a : Nat) : Nat := match m.2.2.2 a 1 with
  | some v => match m.1 v with
    | some (.inr (_, n)) => n
    | _ => 0
  | none => 0
def iw (m : XM) (a : Nat) : Nat := 3 + vlen m a
def mixF (x0 : Int64) : Int64 := ((((x0 ^^^ (jushr x0 (30 : Int32))) * (-4658895280553007687 : Int64)) ^^^ (jushr ((x0 ^^^ (jushr x0 (30 : Int32))) * (-4658895280553007687 : Int64)) (27 : Int32))) * (-7723592293110705685 : Int64)) ^^^ (jushr ((((x0 ^^^ (jushr x0 (30 : Int32))) * (-4658895280553007687 : Int64)) ^^^ (jushr ((x0 ^^^ (jushr x0 (30 : Int32))) * (-4658895280553007687 : Int64)) (27 : Int32))) * (-7723592293110705685 : Int64)) (31 : Int32))
def setF (x : Int64) : Int32 := (jushr (mixF x) (58 : Int32)).toInt32
def bitF (x : Int64) : Int64 := jshl (1 : Int64) ((mixF x &&& (63 : Int64)).toInt32)
def Itm (m : XM) (a : Nat) : Prop := kd m a = some (oB 1) ∧ (∃ v n, gR m a 1 = some v ∧ kd m v = some (aR 0 n) ∧ 1 ≤ n ∧ n ≤ 8) ∧ gI m a 2 = setF (gL m a 0) ∧ gL m a 3 = bitF (gL m a 0)
/-- nothing but the cells F has changed, nothing is new -/
def Fr (F : Nat → Prop) (m m' : XM) : Prop := m'.1 = m.1 ∧ ∀ a, ¬ F a → m'.2.1 a = m.2.1 a ∧ m'.2.2.1 a = m.2.2.1 a ∧ m'.2.2.2 a = m.2.2.2 a
section L2a
variable {m m' m'' : XM} {F F' : Nat → Prop} {a p pa : Nat} {xs ys zs : List Nat}
theorem Fr.rf : Fr F m m := ⟨rfl, fun _ _ => ⟨rfl, rfl, rfl⟩⟩
theorem Fr.tr (h : Fr F m m') (h' : Fr F m' m'') : Fr F m m'' := ⟨h'.1.trans h.1, fun a ha => ⟨(h'.2 a ha).1.trans (h.2 a ha).1, (h'.2 a ha).2.1.trans (h.2 a ha).2.1, (h'.2 a ha).2.2.trans (h.2 a ha).2.2⟩⟩
theorem Fr.mono (h : Fr F m m') (hF : ∀ a, F a → F' a) : Fr F' m m' := ⟨h.1, fun a ha => h.2 a (fun q => ha (hF a q))⟩
theorem frI (k : Nat) (v : Int32) (ha : F a) : Fr F m (mI m a k v) := ⟨rfl, fun b hb => ⟨funext fun j => by
  have : b ≠ a := fun e => hb (e ▸ ha)
  simp [gI, gL, gR, mI, this], rfl, rfl⟩⟩
theorem frL (k : Nat) (v : Int64) (ha : F a) : Fr F m (mL m a k v) := ⟨rfl, fun b hb => ⟨rfl, funext fun j => by
  have : b ≠ a := fun e => hb (e ▸ ha)
  simp [gI, gL, gR, mL, this], rfl⟩⟩
theorem frR (k : Nat) (v : Option Nat) (ha : F a) : Fr F m (mR m a k v) := ⟨rfl, fun b hb => ⟨rfl, rfl, funext fun j => by
  have : b ≠ a := fun e => hb (e ▸ ha)
  simp [gI, gL, gR, mR, this]⟩⟩
theorem Fr.kd (h : Fr F m m') (a : Nat) : m'.1 a = m.1 a := by rw [h.1]
theorem Fr.gI (h : Fr F m m') (ha : ¬ F a) (k : Nat) : m'.2.1 a k = m.2.1 a k := by rw [(h.2 a ha).1]
theorem Fr.gL (h : Fr F m m') (ha : ¬ F a) (k : Nat) : m'.2.2.1 a k = m.2.2.1 a k := by rw [(h.2 a ha).2.1]
theorem Fr.gR (h : Fr F m m') (ha : ¬ F a) (k : Nat) : m'.2.2.2 a k = m.2.2.2 a k := by rw [(h.2 a ha).2.2]
theorem Itm.vl (h : Itm m a) : ∃ v, m.2.2.2 a 1 = some v ∧ m.1 v = some (aR 0 (vlen m a)) ∧ 1 ≤ vlen m a ∧ vlen m a ≤ 8 := by
  obtain ⟨-, ⟨v, n, h1, h2, h3, h4⟩, -⟩ := h
  have e : vlen m a = n := by
    have h1' : m.2.2.2 a 1 = some v := h1
    have h2' : m.1 v = some (aR 0 n) := h2
    simp only [vlen, h1', h2']
  rw [e]
  exact ⟨v, h1, h2, h3, h4⟩
theorem vlen_fr (h : Fr F m m') (ha : ¬ F a) : vlen m' a = vlen m a := by
  unfold vlen
  simp only [h.gR ha, h.1]
theorem iw_fr (h : Fr F m m') (ha : ¬ F a) : iw m' a = iw m a := by unfold iw; rw [vlen_fr h ha]
theorem Itm.fr (h : Itm m a) (hf : Fr F m m') (ha : ¬ F a) : Itm m' a := by
  obtain ⟨h1, ⟨v, n, h2, h3, h4⟩, h5, h6⟩ := h
  refine ⟨(hf.kd a).trans h1, ⟨v, n, (hf.gR ha 1).trans h2, (hf.kd v).trans h3, h4⟩, ?_, ?_⟩
  · show m'.2.1 a 2 = setF (m'.2.2.1 a 0)
    rw [hf.gI ha, hf.gL ha]
    exact h5
  · show m'.2.2.1 a 3 = bitF (m'.2.2.1 a 0)
    rw [hf.gL ha, hf.gL ha]
    exact h6
def wsum (m : XM) (xs : List Nat) : Nat := (xs.map (iw m)).sum
def bors (m : XM) (xs : List Nat) : Int64 := xs.foldl (fun f a => f ||| gL m a 3) 0
theorem wsum_nil : wsum m [] = 0 := rfl
theorem wsum_app : wsum m (xs ++ ys) = wsum m xs + wsum m ys := by simp [wsum]
theorem wsum_cons : wsum m (a :: xs) = iw m a + wsum m xs := by simp [wsum]
theorem wsum_fr (h : Fr F m m') (hx : ∀ a ∈ xs, ¬ F a) : wsum m' xs = wsum m xs := by
  unfold wsum
  rw [List.map_congr_left (fun a ha => iw_fr h (hx a ha))]
theorem bors_snoc : bors m (xs ++ [a]) = bors m xs ||| m.2.2.1 a 3 := by simp [bors]
theorem foldl_fr (h : Fr F m m') : ∀ (xs : List Nat) (b : Int64), (∀ a ∈ xs, ¬ F a) → xs.foldl (fun f a => f ||| gL m' a 3) b = xs.foldl (fun f a => f ||| gL m a 3) b
  | [], b, _ => rfl
  | x :: xs, b, hx => by
    simp only [List.foldl_cons]
    have e := h.gL (hx x List.mem_cons_self) 3
    rw [show (b ||| gL m' x 3) = (b ||| gL m x 3) from by rw [show gL m' x 3 = gL m x 3 from e]]
    exact foldl_fr h xs _ (fun a ha => hx a (List.mem_cons_of_mem _ ha))
theorem bors_fr (h : Fr F m m') (hx : ∀ a ∈ xs, ¬ F a) : bors m' xs = bors m xs := foldl_fr h xs 0 hx
theorem wsum_len (hx : ∀ a ∈ xs, Itm m a) : 4 * xs.length ≤ wsum m xs := by
  induction xs with
  | nil => simp [wsum]
  | cons x xs ih =>
    rw [wsum_cons, List.length_cons]
    obtain ⟨v, -, -, h1, -⟩ := (hx x List.mem_cons_self).vl
    have := ih (fun a ha => hx a (List.mem_cons_of_mem _ ha))
    unfold iw
    omega
/-- a page at p, its array at pa, the items xs -/
def PgOK (m : XM) (p pa : Nat) (xs : List Nat) : Prop := kd m p = some (oB 3) ∧ gR m p 0 = some pa ∧ kd m pa = some (aR 3 8) ∧ gI m p 1 = nI xs.length ∧ (∀ i, i < xs.length → gR m pa i = xs[i]?) ∧ (∀ a ∈ xs, Itm m a) ∧ gI m p 2 = nI (wsum m xs) ∧ wsum m xs ≤ 32 ∧ gL m p 3 = bors m xs
def PF (p pa : Nat) : Nat → Prop := fun b => b = p ∨ b = pa
theorem PgOK.len (h : PgOK m p pa xs) : xs.length ≤ 8 := by
  have h1 := wsum_len h.2.2.2.2.2.1
  have h2 := h.2.2.2.2.2.2.2.1
  omega
theorem PgOK.at {z : Nat} (h : PgOK m p pa (ys ++ z :: zs)) : m.2.2.2 pa ys.length = some z := by
  have := h.2.2.2.2.1 ys.length (by simp)
  rw [show m.2.2.2 pa ys.length = _ from this]
  simp
theorem PgOK.ne (h : PgOK m p pa xs) : p ≠ pa := by
  intro e
  have h1 := h.1
  have h3 := h.2.2.1
  rw [e, h3] at h1
  cases h1
theorem Itm.nPF (h : Itm m a) (hp : PgOK m p pa xs) : ¬ PF p pa a := by
  rintro (rfl | rfl)
  · have := h.1.symm.trans hp.1
    cases this
  · have := h.1.symm.trans hp.2.2.1
    cases this
theorem PgOK.nPF (hp : PgOK m p pa xs) : ∀ a ∈ xs, ¬ PF p pa a := fun a ha => (hp.2.2.2.2.2.1 a ha).nPF hp
/-- a page that the change doesn't touch -/
theorem PgOK.fr (h : PgOK m p pa xs) (hf : Fr F m m') (h1 : ¬ F p) (h2 : ¬ F pa) (hx : ∀ a ∈ xs, ¬ F a) : PgOK m' p pa xs := by
  obtain ⟨g1, g2, g3, g4, g5, g6, g7, g8, g9⟩ := h
  refine ⟨(hf.kd p).trans g1, (hf.gR h1 0).trans g2, (hf.kd pa).trans g3, (hf.gI h1 1).trans g4, fun i hi => (hf.gR h2 i).trans (g5 i hi), fun a ha => (g6 a ha).fr hf (hx a ha), ?_, ?_, ?_⟩
  · rw [wsum_fr hf hx]; exact (hf.gI h1 2).trans g7
  · rw [wsum_fr hf hx]; exact g8
  · rw [bors_fr hf hx]; exact (hf.gL h1 3).trans g9
end L2a
section L2b
variable {l : Launch} {G : xG} {m : XM} {Q : XR → XM → Prop} {a p pa : Nat} {xs ys zs : List Nat} {key : Int64}
theorem c_mix (hst : l.stackTraces = false) (hq : Q (.inl (some (vL (mixF key)))) m) : CC l G xC_mix [vL key] m Q := bC_mix hst hq
theorem c_setNumber (hst : l.stackTraces = false) (hq : Q (.inl (some (vI (jushr key (58 : Int32)).toInt32))) m) : CC l G xC_setNumber [vL key] m Q := bC_setNumber hst hq
theorem c_filterBit (hst : l.stackTraces = false) (hq : Q (.inl (some (vL (jshl (1 : Int64) ((key &&& (63 : Int64)).toInt32))))) m) : CC l G xC_filterBit [vL key] m Q := bC_filterBit hst hq
theorem c_words (hst : l.stackTraces = false) (h : Itm m a) (hq : Q (.inl (some (vI (nI (iw m a))))) m) : CC l G xT_words [vR (some a)] m Q := by
  obtain ⟨v, h1, h2, h3, h4⟩ := h.vl
  refine bT_words hst ⟨h.1, v, h1, _, h2, ?_⟩
  have : (3 : Int32) + Int32.ofNat (vlen m a) = nI (iw m a) := by
    show nI 3 + nI (vlen m a) = nI (3 + vlen m a)
    exact nI_add 3 _
  rw [this]
  exact hq
theorem c_hasRoomFor {k : Nat} (hst : l.stackTraces = false) (hp : PgOK m p pa xs) (hk : k < 2 ^ 30) (h1 : wsum m xs + k ≤ 32 → Q (.inl (some (vI 1))) m) (h0 : 32 < wsum m xs + k → Q (.inl (some (vI 0))) m) : CC l G xP_hasRoomFor [vR (some p), vI (nI k)] m Q := by
  have hw := hp.2.2.2.2.2.2.2.1
  have e : m.2.1 p 2 + nI k = nI (wsum m xs + k) := by
    rw [show m.2.1 p 2 = _ from hp.2.2.2.2.2.2.1, nI_add]
  refine bP_hasRoomFor hst ⟨hp.1, fun h => ?_, fun h => ?_⟩
  · rw [show (32 : Int32) = nI 32 from rfl, show gI m p 2 + nI k = _ from e, nI_ltI (by omega) (by omega)] at h
    exact h0 h
  · rw [show (32 : Int32) = nI 32 from rfl, show gI m p 2 + nI k = _ from e, nI_ltI (by omega) (by omega)] at h
    exact h1 (by omega)
theorem c_placeOf (hst : l.stackTraces = false) (hp : PgOK m p pa xs) (hn : (∀ a ∈ xs, gL m a 0 ≠ key) → Q (.inl (some (vI (-1)))) m)
    (hs : ∀ ys z zs, xs = ys ++ z :: zs → (∀ a ∈ ys, gL m a 0 ≠ key) → gL m z 0 = key → Q (.inl (some (vI (nI ys.length)))) m) : CC l G xP_placeOf [vR (some p), vL key] m Q := by
  have hl := hp.len
  refine bP_placeOf hst ?_
  have loop : ∀ zs ys, ys ++ zs = xs → (∀ a ∈ ys, gL m a 0 ≠ key) → WW l G xP_placeOf 2 [some (vR (some p)), some (vL key), none, some (vI (nI ys.length))] [] m 0 0 Q := by
    intro zs
    induction zs with
    | nil =>
      intro ys e hno
      rw [List.append_nil] at e
      subst e
      refine bP_placeOf_2 ⟨hp.1, fun _ => hn hno, fun h => ?_⟩
      rw [show gI m p 1 = _ from hp.2.2.2.1] at h
      exact absurd (nI_le (Nat.le_refl _) (by omega)) h
    | cons z zs ih =>
      intro ys e hno
      have hlen : ys.length < xs.length := by rw [← e]; simp
      refine bP_placeOf_2 ⟨hp.1, fun h => ?_, fun _ => ?_⟩
      · rw [show gI m p 1 = _ from hp.2.2.2.1] at h
        exact absurd h (nI_ge hlen (by omega))
      · have hz : m.2.2.2 pa ys.length = some z := by
          rw [← e] at hp
          exact hp.at
        have hcl : (nI ys.length).toNatClampNeg = ys.length := nI_clamp (by omega)
        refine ⟨pa, hp.2.1, 8, hp.2.2.1, vp_in_nI (by omega) (by omega), z, by rw [hcl]; exact hz, (hp.2.2.2.2.2.1 z (by rw [← e]; simp)).1, fun h => ?_, fun h => ?_⟩
        · rw [nI_1]
          have := ih (ys ++ [z]) (by rw [List.append_assoc]; exact e) (fun a ha => by
            rcases List.mem_append.mp ha with h1 | h1
            · exact hno a h1
            · rw [List.mem_singleton.mp h1]
              exact fun q => h (lgc0.mpr q))
          simpa using this
        · exact hs ys z zs e.symm hno (lgc0.mp h)
  exact loop xs [] rfl (fun a ha => nomatch ha)
theorem c_Pfind (hst : l.stackTraces = false) (hp : PgOK m p pa xs) (hn : (∀ a ∈ xs, gL m a 0 ≠ key) → Q (.inl (some (vR none))) m)
    (hs : ∀ ys z zs, xs = ys ++ z :: zs → (∀ a ∈ ys, gL m a 0 ≠ key) → gL m z 0 = key → Q (.inl (some (vR (some z)))) m) : CC l G xP_find [vR (some p), vL key] m Q := by
  have hl := hp.len
  refine bP_find hst ⟨hp.1, c_placeOf hst hp (fun hno => ⟨fun h => absurd rfl h, fun _ => hn hno⟩) (fun ys z zs e hno hz => ⟨fun _ => ?_, fun h => ?_⟩)⟩
  · have hlen : ys.length < xs.length := by rw [e]; simp
    have hcl : (nI ys.length).toNatClampNeg = ys.length := nI_clamp (by omega)
    refine ⟨hp.1, pa, hp.2.1, 8, hp.2.2.1, vp_in_nI (by omega) (by omega), ?_⟩
    rw [hcl, show gR m pa ys.length = some z from (e ▸ hp).at]
    exact hs ys z zs e hno hz
  · have hlen : ys.length < xs.length := by rw [e]; simp
    have : (nI ys.length).toInt = -1 := by rw [h]; rfl
    rw [nI_toInt (by omega)] at this
    omega
end L2b
