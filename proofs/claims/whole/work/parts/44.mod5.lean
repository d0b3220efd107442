/-! the reference: free numbers, copies, telling -/
section L2W
variable {l : Launch} {G : xG} {Q : XR → XM → Prop} {R : Nat → Nat} {m0 m m' : XM} {S S' : RS} {X X' : RX} {i j n p : Nat} {v : Int32} {key : Int64}
theorem pgs_mem {P : Nat → List Nat} {n : Nat} : ∀ (k p : Nat), n ∈ pgs P p k ↔ ∃ q, p ≤ q ∧ q < p + k ∧ n ∈ P q
  | 0, p => by simp [pgs]; intro q h1 h2; omega
  | k + 1, p => by
    rw [pgs, List.mem_append, pgs_mem k (p + 1)]
    constructor
    · rintro (h | ⟨q, h1, h2, h3⟩)
      · exact ⟨p, Nat.le_refl _, by omega, h⟩
      · exact ⟨q, by omega, by omega, h3⟩
    · rintro ⟨q, h1, h2, h3⟩
      by_cases e : q = p
      · subst e
        exact Or.inl h3
      · exact Or.inr ⟨q, by omega, by omega, h3⟩
theorem pgs_len {P : Nat → List Nat} (h : ∀ p, p < 97 → (P p).length ≤ 8) : ∀ (k p : Nat), p + k ≤ 97 → (pgs P p k).length ≤ 8 * k
  | 0, p, _ => by simp [pgs]
  | k + 1, p, e => by
    rw [pgs, List.length_append]
    have := pgs_len h k (p + 1) (by omega)
    have := h p (by omega)
    omega
def uM (R : Nat → Nat) (mm : XM) (dn : List Nat) : Prop := ∀ t, t < 4096 → (gI mm (R 17) t = 0 ↔ t ∉ dn)
theorem uM.put {mm : XM} {dn : List Nat} (h : uM R mm dn) (hn : n < 4096) : uM R (mI mm (R 17) n 1) (dn ++ [n]) := by
  intro t ht
  by_cases q : t = n
  · subst q
    simp [gI, mI]
  · have := h t ht
    simp [gI, mI, q]
    exact this
theorem c_MfreeNumber (hst : l.stackTraces = false) (h : MR R m0 S X m) (hq : ∀ n m', n < 4096 → (∀ p, p < 97 → n ∉ S.P p) → n ∉ S.g → n ∉ S.h → MR R m0 S X m' → Q (.inl (some (vI (nI n)))) m') : CC l G xM_freeNumber [vR (some (R 0))] m Q := by
  refine bM_freeNumber hst ?_
  obtain ⟨g1, g2, g3, g4⟩ := h.gg
  obtain ⟨k1, k2, k3, k4⟩ := h.hh
  -- the search
  have l129 : ∀ k i mm, i + k = 4096 → MR R m0 S X mm → uM R mm (pgs S.P 0 97 ++ S.g ++ S.h) → (∀ t, t < i → t ∈ pgs S.P 0 97 ++ S.g ++ S.h) → WW l G xM_freeNumber 129 [some (vR (some (R 0))), some (vI (nI i)), none] [] mm 0 0 Q := by
    intro k
    induction k with
    | zero =>
      intro i mm e hR hu hb
      exfalso
      have e' : i = 4096 := by omega
      subst e'
      have := len_sub (xs := List.range 4096) List.nodup_range (fun t ht => hb t (List.mem_range.mp ht))
      have hp := pgs_len (P := S.P) (fun p hp => (h.sz hp).2) 97 0 (by omega)
      rw [List.length_range, List.length_append, List.length_append] at this
      omega
    | succ k ih =>
      intro i mm e hR hu hb
      refine bM_freeNumber_129 ⟨hR.w.k0, R 17, hR.w.r17, 4096, hR.w.k17, vp_in_nI (by omega) (by omega), fun q => ?_, fun q => ?_⟩
      · rw [nI_clamp (by omega), hu i (by omega)] at q
        simp only [List.mem_append, not_or] at q
        refine hq i mm (by omega) (fun p hp r => q.1.1 ((pgs_mem 97 0).mpr ⟨p, by omega, by omega, r⟩)) q.1.2 q.2 hR
      · rw [nI_clamp (by omega)] at q
        rw [nI_1]
        refine ih (i + 1) mm (by omega) hR hu (fun t ht => ?_)
        by_cases r : t < i
        · exact hb t r
        · have : t = i := by omega
          subst this
          exact Classical.byContradiction fun s => q ((hu t (by omega)).mpr s)
  have l101 : ∀ zs ys mm, ys ++ zs = S.h → MR R m0 S X mm → uM R mm (pgs S.P 0 97 ++ S.g ++ ys) → WW l G xM_freeNumber 101 [some (vR (some (R 0))), some (vI (nI ys.length)), none] [] mm 0 0 Q := by
    intro zs
    induction zs with
    | nil =>
      intro ys mm e hR hu
      rw [List.append_nil] at e
      subst e
      obtain ⟨k1', -⟩ := hR.hh
      refine bM_freeNumber_101 ⟨hR.w.k0, fun _ => l129 4096 0 mm rfl hR hu (fun t ht => absurd ht (by omega)), fun q => ?_⟩
      rw [k1'] at q
      exact absurd Int32.le_rfl q
    | cons z zs ih =>
      intro ys mm e hR hu
      obtain ⟨k1', k2', k3', k4'⟩ := hR.hh
      have hlt : ys.length < S.h.length := by rw [← e]; simp
      have hz4 := k4 z (by rw [← e]; simp)
      have hat : gI mm (R 21) ys.length = nI z := k3' _ z (at_mid e)
      refine bM_freeNumber_101 ⟨hR.w.k0, fun q => ?_, fun _ => ⟨R 21, hR.w.r21, 300, hR.w.k21, vp_in_nI (by omega) (by omega), R 17, hR.w.r17, 4096, hR.w.k17, ?_, fun m12 hm12 => ?_⟩⟩
      · rw [k1', nI_leI (by omega) (by omega)] at q
        omega
      · rw [nI_clamp (by omega), hat]
        exact vp_in_nI hz4 (by omega)
      · rw [nI_clamp (by omega), hat, nI_clamp (by omega)] at hm12
        have := ih (ys ++ [z]) m12 (by rw [List.append_assoc]; exact e) (by rw [hm12]; exact hR.s17 1) (by rw [hm12, ← List.append_assoc]; exact hu.put hz4)
        rw [List.length_append] at this
        rw [nI_1]
        exact this
  have l73 : ∀ zs ys mm, ys ++ zs = S.g → MR R m0 S X mm → uM R mm (pgs S.P 0 97 ++ ys) → WW l G xM_freeNumber 73 [some (vR (some (R 0))), some (vI (nI ys.length)), none] [] mm 0 0 Q := by
    intro zs
    induction zs with
    | nil =>
      intro ys mm e hR hu
      rw [List.append_nil] at e
      subst e
      obtain ⟨k1', -⟩ := hR.gg
      refine bM_freeNumber_73 ⟨hR.w.k0, fun _ => l101 S.h [] mm rfl hR (by rw [List.append_nil]; exact hu), fun q => ?_⟩
      rw [k1'] at q
      exact absurd Int32.le_rfl q
    | cons z zs ih =>
      intro ys mm e hR hu
      obtain ⟨k1', k2', k3', k4'⟩ := hR.gg
      have hlt : ys.length < S.g.length := by rw [← e]; simp
      have hz4 := g4 z (by rw [← e]; simp)
      have hat : gI mm (R 19) ys.length = nI z := k3' _ z (at_mid e)
      refine bM_freeNumber_73 ⟨hR.w.k0, fun q => ?_, fun _ => ⟨R 19, hR.w.r19, 300, hR.w.k19, vp_in_nI (by omega) (by omega), R 17, hR.w.r17, 4096, hR.w.k17, ?_, fun m12 hm12 => ?_⟩⟩
      · rw [k1', nI_leI (by omega) (by omega)] at q
        omega
      · rw [nI_clamp (by omega), hat]
        exact vp_in_nI hz4 (by omega)
      · rw [nI_clamp (by omega), hat, nI_clamp (by omega)] at hm12
        have := ih (ys ++ [z]) m12 (by rw [List.append_assoc]; exact e) (by rw [hm12]; exact hR.s17 1) (by rw [hm12, ← List.append_assoc]; exact hu.put hz4)
        rw [List.length_append] at this
        rw [nI_1]
        exact this
  have out : ∀ k p mm dn, p + k = 97 → MR R m0 S X mm → uM R mm dn → dn ++ pgs S.P p k = pgs S.P 0 97 → WW l G xM_freeNumber 24 [some (vR (some (R 0))), some (vI (nI p)), none] [] mm 0 0 Q := by
    intro k
    induction k with
    | zero =>
      intro p mm dn e hR hu hd
      have : p = 97 := by omega
      subst this
      rw [pgs, List.append_nil] at hd
      subst hd
      exact bM_freeNumber_24 ⟨fun _ => l73 S.g [] mm rfl hR (by rw [List.append_nil]; exact hu), fun q => absurd Int32.le_rfl q⟩
    | succ k ih =>
      intro p mm dn e hR hu hd
      have hp : p < 97 := by omega
      refine bM_freeNumber_24 ⟨fun q => ?_, fun _ => ?_⟩
      · rw [show (97 : Int32) = nI 97 from rfl, nI_leI (by omega) (by omega)] at q
        omega
      have inn : ∀ zs ys mm dn, ys ++ zs = S.P p → MR R m0 S X mm → uM R mm dn → dn ++ (zs ++ pgs S.P (p + 1) k) = pgs S.P 0 97 → WW l G xM_freeNumber 32 [some (vR (some (R 0))), some (vI (nI p)), some (vI (nI ys.length))] [] mm 0 0 Q := by
        intro zs
        induction zs with
        | nil =>
          intro ys mm dn e hR hu hd
          obtain ⟨hs1, hs2⟩ := hR.sz hp
          rw [List.append_nil] at e
          refine bM_freeNumber_32 ⟨hR.w.k0, R 14, hR.w.r14, 97, hR.w.k14, vp_in_nI hp (by omega), fun _ => ?_, fun q => ?_⟩
          · rw [nI_1]
            exact ih (p + 1) mm dn (by omega) hR hu hd
          · rw [nI_clamp (by omega), hs1, e] at q
            exact absurd Int32.le_rfl q
        | cons z zs ih2 =>
          intro ys mm dn e hR hu hd
          obtain ⟨hs1, hs2⟩ := hR.sz hp
          have hlt : ys.length < (S.P p).length := by rw [← e]; simp
          obtain ⟨ha, hz⟩ := hR.at hp (at_mid e)
          refine bM_freeNumber_32 ⟨hR.w.k0, R 14, hR.w.r14, 97, hR.w.k14, vp_in_nI hp (by omega), fun q => ?_, fun _ => ⟨R 15, hR.w.r15, 776, hR.w.k15, ?_, R 17, hR.w.r17, 4096, hR.w.k17, ?_, fun m17 hm17 => ?_⟩⟩
          · rw [nI_clamp (by omega), hs1, nI_leI (by omega) (by omega)] at q
            omega
          · rw [n8]
            exact vp_in_nI (by omega) (by omega)
          · rw [n8, nI_clamp (by omega), ha]
            exact vp_in_nI hz (by omega)
          · rw [n8, nI_clamp (by omega), ha, nI_clamp (by omega)] at hm17
            have := ih2 (ys ++ [z]) m17 (dn ++ [z]) (by rw [List.append_assoc]; exact e) (by rw [hm17]; exact hR.s17 1) (by rw [hm17]; exact hu.put hz) (by rw [List.append_assoc]; exact hd)
            rw [List.length_append] at this
            rw [nI_1]
            exact this
      exact inn (S.P p) [] mm dn rfl hR hu hd
  have l2 : ∀ k i mm, i + k = 4096 → MR R m0 S X mm → (∀ t, t < i → gI mm (R 17) t = 0) → WW l G xM_freeNumber 2 [some (vR (some (R 0))), some (vI (nI i)), none] [] mm 0 0 Q := by
    intro k
    induction k with
    | zero =>
      intro i mm e hR hu
      have e' : i = 4096 := by omega
      subst e'
      exact bM_freeNumber_2 ⟨fun _ => out 97 0 mm [] rfl hR (fun t ht => by simp; exact hu t ht) rfl, fun q => absurd Int32.le_rfl q⟩
    | succ k ih =>
      intro i mm e hR hu
      refine bM_freeNumber_2 ⟨fun q => ?_, fun _ => ⟨hR.w.k0, R 17, hR.w.r17, 4096, hR.w.k17, vp_in_nI (by omega) (by omega), fun m7 hm7 => ?_⟩⟩
      · rw [show (4096 : Int32) = nI 4096 from rfl, nI_leI (by omega) (by omega)] at q
        omega
      · rw [nI_clamp (by omega)] at hm7
        rw [nI_1]
        refine ih (i + 1) m7 (by omega) (by rw [hm7]; exact hR.s17 0) (fun t ht => ?_)
        rw [hm7]
        by_cases r : t = i
        · simp [gI, mI, r]
        · simp [gI, mI, r]
          exact hu t (by omega)
  exact l2 4096 0 m rfl h (fun t ht => absurd ht (by omega))
theorem MR.sv_eq (h : MR R m0 S X m) {f : Nat → Nat → Int32} (hf : ∀ n, n < 4096 → ∀ i, i < 8 → f n i = S.v n i) : MR R m0 (S.sv f) X m := by
  obtain ⟨w, b, h1, h2, h3, h4, hr⟩ := h
  exact ⟨w, b, h1, h2, h3, fun n hn i hi => (h4 n hn i hi).trans (hf n hn i hi).symm, hr⟩
theorem c_Mcopy (hst : l.stackTraces = false) (h : MR R m0 S X m) (hn : n < 4096) (hq : ∀ v m', v < 4096 → (∀ p, p < 97 → v ∉ S.P p) → v ∉ S.g → v ∉ S.h → MR R m0 (cpS S n v) X m' → Q (.inl (some (vI (nI v)))) m') : CC l G xM_copy [vR (some (R 0)), vI (nI n)] m Q := by
  refine bM_copy hst ⟨h.w.k0, c_MfreeNumber hst h (fun v m2 hv f1 f2 f3 h2 => ?_)⟩
  have hcn : (nI n).toNatClampNeg = n := nI_clamp (by omega)
  have hcv : (nI v).toNatClampNeg = v := nI_clamp (by omega)
  refine ⟨h2.w.k0, R 6, h2.w.r6, 4096, h2.w.k6, vp_in_nI hn (by omega), vp_in_nI hv (by omega), fun m11 hm11 => ⟨R 7, h2.w.r7, 4096, h2.w.k7, vp_in_nI hn (by omega), vp_in_nI hv (by omega), fun m18 hm18 => ?_⟩⟩
  rw [hcn, hcv, h2.key hn] at hm11
  rw [hcn, hcv, (h2.len hn).1] at hm18
  have h11 := h2.sKey hv (S.k n)
  rw [← hm11] at h11
  have h18 := h11.sLen hv (h2.len hn).2
  rw [← hm18] at h18
  generalize hS1 : (S.sk (up S.k v (S.k n))).sl (up (S.sk (up S.k v (S.k n))).l v (S.l n)) = S1 at h18
  have hv1 : S1.v = S.v := by rw [← hS1]; rfl
  have hin1 : ∀ x j, j < 8 → x < 4096 → vp_in (nI (8 * x + j)) 32768 := fun x j hj hx => vp_in_nI (by omega) (by omega)
  have loop : ∀ k j mm, j + k = 8 → MR R m0 (S1.sv (up S.v v (fun t => if t < j then S.v n t else S.v v t))) X mm → WW l G xM_copy 31 [some (vR (some (R 0))), some (vI (nI n)), some (vI (nI v)), some (vI (nI j))] [] mm 0 0 Q := by
    intro k
    induction k with
    | zero =>
      intro j mm e hR
      have e' : j = 8 := by omega
      subst e'
      refine bM_copy_31 ⟨fun _ => ⟨hR.w.k0, R 9, hR.w.r9, 4096, hR.w.k9, vp_in_nI hv (by omega), fun m7 hm7 => ⟨R 10, hR.w.r10, 4096, hR.w.k10, vp_in_nI hv (by omega), fun m13 hm13 => ⟨R 12, hR.w.r12, 4096, hR.w.k12, vp_in_nI hv (by omega), fun m19 hm19 => ?_⟩⟩⟩, fun q => absurd Int32.le_rfl q⟩
      rw [hcv] at hm7 hm13 hm19
      have hR' : MR R m0 (S1.sv (up S.v v (S.v n))) X mm := by
        have := hR.sv_eq (f := up S.v v (S.v n)) (fun x hx i hi => by
          show up S.v v (S.v n) x i = up S.v v (fun t => if t < 8 then S.v n t else S.v v t) x i
          by_cases r : x = v
          · simp [up, r, hi]
          · simp [up, r])
        exact this
      have h7 := hR'.sNw hv 0
      rw [← hm7] at h7
      have h13 := h7.sGt hv 0
      rw [← hm13] at h13
      have h19 := h13.sMk hv 0
      rw [← hm19] at h19
      refine hq v m19 hv f1 f2 f3 ?_
      rw [← hS1] at h19
      exact h19
    | succ k ih =>
      intro j mm e hR
      refine bM_copy_31 ⟨fun q => ?_, fun _ => ⟨hR.w.k0, R 8, hR.w.r8, 32768, hR.w.k8, ?_, ?_, fun m27 hm27 => ?_⟩⟩
      · rw [show (8 : Int32) = nI 8 from rfl, nI_leI (by omega) (by omega)] at q
        omega
      · rw [n8]
        exact hin1 n j (by omega) hn
      · rw [n8]
        exact hin1 v j (by omega) hv
      · rw [n8, n8, nI_clamp (by omega), nI_clamp (by omega), hR.val hn (by omega)] at hm27
        have hvj : (S1.sv (up S.v v (fun t => if t < j then S.v n t else S.v v t))).v n j = S.v n j := by
          show up S.v v (fun t => if t < j then S.v n t else S.v v t) n j = _
          by_cases r : n = v
          · subst r
            simp [up]
          · simp [up, r]
        rw [hvj] at hm27
        have h27 := hR.sVal hv (i := j) (by omega) (S.v n j)
        rw [← hm27] at h27
        rw [nI_1]
        refine ih (j + 1) m27 (by omega) ?_
        have := h27.sv_eq (f := up S.v v (fun t => if t < j + 1 then S.v n t else S.v v t)) (fun x hx i hi => by
          show up S.v v (fun t => if t < j + 1 then S.v n t else S.v v t) x i = up (up S.v v (fun t => if t < j then S.v n t else S.v v t)) v (up (up S.v v (fun t => if t < j then S.v n t else S.v v t) v) j (S.v n j)) x i
          by_cases r : x = v
          · subst r
            by_cases s : i = j
            · simp [up, s]
            · by_cases s2 : i < j
              · have : i < j + 1 := by omega
                simp [up, s, s2, this]
              · have : ¬ i < j + 1 := by omega
                simp [up, s, s2, this]
          · simp [up, r])
        exact this
  refine loop 8 0 m18 rfl ?_
  have := h18.sv_eq (f := up S.v v (fun t => if t < 0 then S.v n t else S.v v t)) (fun x hx i hi => by
    rw [hv1]
    by_cases r : x = v
    · simp [up, r]
    · simp [up, r])
  exact this
end L2W
