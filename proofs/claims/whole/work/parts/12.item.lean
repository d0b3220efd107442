/-! an item's words on flash; a page's; making an item -/
def vals (m : XM) (a : Nat) (i : Nat) : Int32 := match m.2.2.2 a 1 with
  | some v => m.2.1 v i
  | none => 0
/-- word i of an item -/
def iword (m : XM) (a i : Nat) : Int32 := if i = 0 then nI (vlen m a) else if i = 1 then (jushr (m.2.2.1 a 0) (32 : Int32)).toInt32 else if i = 2 then (m.2.2.1 a 0).toInt32 else vals m a (i - 3)
/-- word i of the items of a page, one behind the other -/
def pword (m : XM) : List Nat → Nat → Int32
  | [], _ => 0
  | a :: xs, i => if i < iw m a then iword m a i else pword m xs (i - iw m a)
section L2r
variable {l : Launch} {G : xG} {m : XM} {Q : XR → XM → Prop} {a p pa : Nat} {xs ys zs : List Nat} {key : Int64}
theorem c_TwordAt {i : Nat} (hst : l.stackTraces = false) (hi : Itm m a) (hlt : i < iw m a) (hq : Q (.inl (some (vI (iword m a i)))) m) : CC l G xT_wordAt [vR (some a), vI (nI i)] m Q := by
  obtain ⟨v, h1, h2, h3, h4⟩ := hi.vl
  have hiw : iw m a = 3 + vlen m a := rfl
  have e : ∀ j, j < 2 ^ 30 → (nI i = nI j ↔ i = j) := fun j hj => nI_eq (by omega) (by omega)
  refine bT_wordAt hst ⟨fun h => ⟨hi.1, v, h1, vlen m a, h2, ?_⟩, fun h => ⟨hi.1, ?_⟩, fun h => ⟨hi.1, ?_⟩, fun h => ⟨hi.1, v, h1, vlen m a, h2, ?_⟩⟩
  · have : i = 0 := (e 0 (by omega)).mp h
    simp only [iword, if_pos this] at hq
    exact hq
  · have : i = 1 := (e 1 (by omega)).mp h
    subst this
    exact hq
  · have : i = 2 := (e 2 (by omega)).mp h
    subst this
    exact hq
  · rw [nI_toInt (by omega)] at h
    have h3' : 3 ≤ i := by omega
    rw [show (3 : Int32) = nI 3 from rfl, pk_sub h3', nI_clamp (by omega)]
    refine ⟨vp_in_nI (by omega) (by omega), ?_⟩
    have : iword m a i = m.2.1 v (i - 3) := by
      unfold iword vals
      rw [if_neg (by omega), if_neg (by omega), if_neg (by omega), h1]
    rw [this] at hq
    exact hq
theorem pword_app {i : Nat} : ∀ ys : List Nat, wsum m ys ≤ i → pword m (ys ++ zs) i = pword m zs (i - wsum m ys)
  | [], _ => by simp [wsum]
  | y :: ys, h => by
    rw [wsum_cons] at h
    rw [List.cons_append, pword, if_neg (by omega), pword_app ys (by omega), wsum_cons]
    congr 1
    omega
theorem c_PwordAt {i : Nat} (hst : l.stackTraces = false) (hp : PgOK m p pa xs) (hi : i < 2 ^ 30) (hq : Q (.inl (some (vI (pword m xs i)))) m) : CC l G xP_wordAt [vR (some p), vI (nI i)] m Q := by
  have hl := hp.len
  have hw := hp.2.2.2.2.2.2.2.1
  have hsz : gI m p 1 = nI xs.length := hp.2.2.2.1
  refine bP_wordAt hst ?_
  have loop : ∀ zs ys, ys ++ zs = xs → wsum m ys ≤ i → WW l G xP_wordAt 4 [some (vR (some p)), some (vI (nI i)), some (vI (nI (wsum m ys))), some (vI (nI ys.length)), none] [] m 0 0 Q := by
    intro zs
    induction zs with
    | nil =>
      intro ys e hle
      rw [List.append_nil] at e
      subst e
      refine bP_wordAt_4 ⟨hp.1, fun _ => ?_, fun h => ?_⟩
      · have := pword_app (zs := []) ys hle
        rw [List.append_nil] at this
        rw [this] at hq
        exact hq
      · rw [hsz] at h
        exact absurd (nI_le (Nat.le_refl _) (by omega)) h
    | cons z zs ih =>
      intro ys e hle
      have hlt : ys.length < xs.length := by rw [← e]; simp
      have hz : Itm m z := hp.2.2.2.2.2.1 z (by rw [← e]; simp)
      have hat : m.2.2.2 pa ys.length = some z := (e ▸ hp).at
      have hcl : (nI ys.length).toNatClampNeg = ys.length := nI_clamp (by omega)
      have hws : wsum m xs = wsum m ys + (iw m z + wsum m zs) := by rw [← e, wsum_app, wsum_cons]
      have hpw : pword m xs i = if i - wsum m ys < iw m z then iword m z (i - wsum m ys) else pword m zs (i - wsum m ys - iw m z) := by
        rw [← e, pword_app ys hle, pword]
      refine bP_wordAt_4 ⟨hp.1, fun h => ?_, fun _ => ⟨pa, hp.2.1, 8, hp.2.2.1, vp_in_nI (by omega) (by omega), z, by rw [hcl]; exact hat, hz.1, c_words hst hz ⟨fun h => ?_, fun h => ⟨hp.1, pa, hp.2.1, 8, hp.2.2.1, vp_in_nI (by omega) (by omega), z, by rw [hcl]; exact hat, hz.1, ?_⟩⟩⟩⟩
      · rw [hsz] at h
        exact absurd h (nI_ge hlt (by omega))
      · rw [nI_add, nI_leI (by omega) (by omega)] at h
        rw [nI_1, nI_add]
        have := ih (ys ++ [z]) (by rw [List.append_assoc]; exact e) (by rw [wsum_app, wsum_cons, wsum_nil]; omega)
        rw [wsum_app, wsum_cons, wsum_nil, Nat.add_zero, List.length_append] at this
        exact this
      · rw [nI_add, nI_leI (by omega) (by omega)] at h
        rw [pk_sub hle]
        refine c_TwordAt hst hz (by omega) ?_
        rw [hpw, if_pos (by omega)] at hq
        exact hq
  have := loop xs [] rfl (by simp [wsum])
  exact this
/-- a new item: its cell is there, blank; v its words -/
theorem c_Tinit {v n : Nat} (hst : l.stackTraces = false) (ha : kd m a = some (oB 1)) (hv : kd m v = some (aR 0 n)) (hn1 : 1 ≤ n) (hn8 : n ≤ 8)
    (hq : ∀ m', Fr (fun b => b = a) m m' → Itm m' a → gL m' a 0 = key → gR m' a 1 = some v → gI m' a 4 = 0 → gI m' a 5 = 0 → Q (.inl none) m') : CC l G xT_init [vR (some a), vL key, vR (some v)] m Q := by
  refine bT_init hst ⟨ha, ?_⟩
  rintro m2 rfl m3 rfl
  refine c_mix hst ⟨ha, ?_⟩
  rintro m7 rfl m8 rfl
  refine c_setNumber hst ⟨ha, ?_⟩
  rintro m12 rfl
  refine c_filterBit hst ⟨ha, ?_⟩
  rintro m16 rfl
  have f : Fr (fun b => b = a) m (mL (mI (mR (mL (mI (mI m a 4 0) a 5 0) a 0 key) a 1 (some v)) a 2 (jushr (mixF key) (58 : Int32)).toInt32) a 3 (jshl (1 : Int64) ((mixF key &&& (63 : Int64)).toInt32))) := by
    refine Fr.tr (F := fun b => b = a) (Fr.tr (F := fun b => b = a) (Fr.tr (F := fun b => b = a) (Fr.tr (F := fun b => b = a) (Fr.tr (F := fun b => b = a) (frI (F := fun b => b = a) 4 0 rfl) (frI (F := fun b => b = a) 5 0 rfl)) (frL (F := fun b => b = a) 0 key rfl)) (frR (F := fun b => b = a) 1 (some v) rfl)) (frI (F := fun b => b = a) 2 _ rfl)) (frL (F := fun b => b = a) 3 _ rfl)
  refine hq _ f ⟨ha, ⟨v, n, ?_, hv, hn1, hn8⟩, ?_, ?_⟩ ?_ ?_ ?_ ?_
  · simp [gR, mR, mI, mL]
  · simp [gI, gL, mR, mI, mL, setF]
  · simp [gI, gL, mR, mI, mL, bitF]
  · simp [gL, mR, mI, mL]
  · simp [gR, mR, mI, mL]
  · simp [gI, mR, mI, mL]
  · simp [gI, mR, mI, mL]
end L2r
