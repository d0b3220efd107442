/-! what a change of one field leaves -/
section L3p
variable {S S' : RS} {pn : Nat → Nat}
theorem vlS_of (h1 : S'.l = S.l) (h2 : S'.v = S.v) : vlS S' = vlS S := by
  funext n
  unfold vlS
  rw [h1, h2]
theorem eZ_of (h1 : S'.l = S.l) (h2 : S'.v = S.v) (h3 : S'.k = S.k) (h4 : S'.mk = S.mk) : eZ S' = eZ S := by
  funext n
  unfold eZ
  rw [vlS_of h1 h2, h3, h4]
theorem eL_of (h1 : S'.l = S.l) (h2 : S'.v = S.v) (h3 : S'.k = S.k) : eL S' = eL S := by
  funext n
  unfold eL
  rw [vlS_of h1 h2, h3]
theorem eY_of (h1 : S'.l = S.l) (h2 : S'.v = S.v) (h3 : S'.k = S.k) (h4 : S'.gt = S.gt) : eY S' pn = eY S pn := by
  funext n
  unfold eY
  rw [vlS_of h1 h2, h3, h4]
theorem Hk.of (h0 : S'.h = S.h) (h1 : S'.k = S.k) (h2 : S'.l = S.l) (h3 : S'.v = S.v) (h4 : S'.cm = S.cm) : Hk S S' := ⟨h0, fun n _ => by rw [h1, h2, h3, h4]; exact ⟨rfl, rfl, rfl, rfl⟩⟩
theorem pgs_cg {P P' : Nat → List Nat} : ∀ (k p : Nat), (∀ q, p ≤ q → q < p + k → P' q = P q) → pgs P' p k = pgs P p k
  | 0, p, _ => rfl
  | k + 1, p, h => by
    rw [pgs, pgs, h p (Nat.le_refl _) (by omega), pgs_cg k (p + 1) (fun q hq hq' => h q (by omega) (by omega))]
theorem Lk.of (hP : ∀ q, 64 ≤ q → q < 97 → S'.P q = S.P q) (h1 : S'.k = S.k) (h2 : S'.l = S.l) (h3 : S'.v = S.v) (h4 : S'.cm = S.cm) (h5 : S'.gt = S.gt) : Lk S S' := by
  refine ⟨?_, fun n _ => ?_⟩
  · unfold lgs
    exact pgs_cg 33 64 (fun q hq hq' => hP q hq (by omega))
  · rw [h1, h2, h3, h4, h5]
    exact ⟨rfl, rfl, rfl, rfl, rfl⟩
def Dk (S S' : RS) : Prop := S'.k = S.k ∧ S'.l = S.l ∧ S'.v = S.v ∧ S'.cm = S.cm ∧ S'.gt = S.gt ∧ S'.h = S.h
theorem Dk.tr {S1 : RS} (h : Dk S S1) (h' : Dk S1 S') : Dk S S' := ⟨h'.1.trans h.1, h'.2.1.trans h.2.1, h'.2.2.1.trans h.2.2.1, h'.2.2.2.1.trans h.2.2.2.1, h'.2.2.2.2.1.trans h.2.2.2.2.1, h'.2.2.2.2.2.trans h.2.2.2.2.2⟩
theorem Dk.sP {x : Nat → List Nat} : Dk S (S.sP x) := ⟨rfl, rfl, rfl, rfl, rfl, rfl⟩
theorem Dk.snw {x : Nat → Int32} : Dk S (S.snw x) := ⟨rfl, rfl, rfl, rfl, rfl, rfl⟩
theorem Dk.smk {x : Nat → Int32} : Dk S (S.smk x) := ⟨rfl, rfl, rfl, rfl, rfl, rfl⟩
theorem Dk.sc {x : Nat → Int32} : Dk S (S.sc x) := ⟨rfl, rfl, rfl, rfl, rfl, rfl⟩
theorem Dk.sg {x : List Nat} : Dk S (S.sg x) := ⟨rfl, rfl, rfl, rfl, rfl, rfl⟩
theorem Dk.hk (h : Dk S S') : Hk S S' := Hk.of h.2.2.2.2.2 h.1 h.2.1 h.2.2.1 h.2.2.2.1
theorem Dk.lk (h : Dk S S') (hP : ∀ q, 64 ≤ q → q < 97 → S'.P q = S.P q) : Lk S S' := Lk.of hP h.1 h.2.1 h.2.2.1 h.2.2.2.1 h.2.2.2.2.1
theorem Dk.vl (h : Dk S S') : vlS S' = vlS S := vlS_of h.2.1 h.2.2.1
theorem Dk.eZ (h : Dk S S') (hm : S'.mk = S.mk) : eZ S' = eZ S := eZ_of h.2.1 h.2.2.1 h.1 hm
theorem Dk.eL (h : Dk S S') : eL S' = eL S := eL_of h.2.1 h.2.2.1 h.1
theorem Dk.eY (h : Dk S S') : eY S' pn = eY S pn := eY_of h.2.1 h.2.2.1 h.1 h.2.2.2.2.1
end L3p
