/-! the law's steps -/
def LawSt (K R : Nat → Nat) (o i : Nat) (m : XM) : Prop := ∃ A b fo op S du ix pn th, LM K R o A b fo op S (mX th op b (fo.getD []) du) m ∧ RA S A ix pn ∧ (op = 0 ∨ op = 1) ∧ A.w ≤ 128 * i ∧ A.t ≤ 1025 * i
section L3U
variable {l : Launch} {G : xG} {Q : XR → XM → Prop} {K R : Nat → Nat} {m0 m m' m'' : XM} {S S' : RS} {X X' : RX} {A A' B : AS} {ix : List Nat} {pn : Nat → Nat} {o i j t : Nat} {b b' : Nat → Int32} {fo fo' : Option (List Int32)} {op op' x y : Int32} {key : Int64}
theorem c_Wput (hst : l.stackTraces = false) (h : LM K R o A b fo op S X m) (hw : A.w + 200 < 2 ^ 29) (h0 : op = 0 → Q (.inl (some (vI 1))) m) (h2 : ¬ op = 0 → (x < 1 ∨ ¬ x ≤ 8) → Q (.inl (some (vI 2))) m) (h1 : ¬ op = 0 → ¬ x < 1 → x ≤ 8 → ∀ m', LM K R o (aPut key (bl b x.toNatClampNeg) A) b fo op S X m' → Q (.inl (some (vI 0))) m') : CC l G xW_put [vR (some (K 0)), vL key, vI x] m Q :=
  bW_put hst ⟨K 0, rfl, h.k, 0, 0, rfl, rfl, c_Cput hst h.1 hw (fun q => Or.inl ⟨rfl, fun _ => bW_put_9 (h0 q)⟩) (fun q q2 => Or.inr ⟨rfl, fun _ => bW_put_13 (h2 q q2)⟩) (fun q q1 q2 m' hc hq => h1 q q1 q2 m' (h.ce hc hq))⟩
theorem c_Mthrown (hst : l.stackTraces = false) (h : MR R m0 S X m) (hq : Q (.inl (some (vI X.th))) m) : CC l G xM_thrown [vR (some (R 0))] m Q := by
  refine bM_thrown hst ⟨h.w.k0, ?_⟩
  rw [show gI m (R 0) 0 = X.th from h.xx.1]
  exact hq
/-- put on both sides -/
theorem c_Lput {P : Int32 → Int32 → XM → Prop} {Q' : XR → XM → Prop} (hst : l.stackTraces = false) (h : LawSt K R o i m) (hi : i < 600) (hq : ∀ m' v, LawSt K R o (i + 1) m' → P v v m') {C : Int32 → XM → Prop} (hC : ∀ v m1, (kd m1 (R 0) = some (oB 5) ∧ CC l G xM_put [vR (some (R 0)), vL key, vI x] m1 (kV (fun m2 => kd m2 (R 0) = some (oB 5) ∧ CC l G xM_thrown [vR (some (R 0))] m2 (kI (fun v2 m3 => P v2 v m3) Q')) Q')) → C v m1) :
    CC l G xW_put [vR (some (K 0)), vL key, vI x] m (kI C Q') := by
  obtain ⟨A, b, fo, op, S, du, ix, pn, th, h1, h2, h3, h4, h5⟩ := h
  have hAI := h1.1.2.1
  have next : ∀ {A' : AS} {m1 m2 : XM} {S' : RS} {ix' : List Nat} {pn' : Nat → Nat} {du' : Nat → Int32} {v : Int32}, LM K R o A' b fo op S (mX th op b (fo.getD []) du) m1 → MR R m1 S' (mX v op b (fo.getD []) du') m2 → RA S' A' ix' pn' → A'.w ≤ 128 * (i + 1) → A'.t ≤ 1025 * (i + 1) → kd m2 (R 0) = some (oB 5) ∧ CC l G xM_thrown [vR (some (R 0))] m2 (kI (fun v2 m3 => P v2 v m3) Q') := by
    intro A' m1 m2 S' ix' pn' du' v hm hr hA hw ht
    refine ⟨hr.w.k0, c_Mthrown hst hr (hq m2 v ⟨A', b, fo, op, S', du', ix', pn', v, (hm.md hr).1, hA, h3, hw, ht⟩)⟩
  refine c_Wput hst h1 (by omega) (fun q => hC _ _ ⟨h1.2.1.w.k0, c_Mput hst h1.2.1 h2 hAI h3 (by omega) (by omega) (fun _ m' h' => next h1 h' h2 (by omega) (by omega)) (fun r => ?_) (fun r => ?_)⟩) (fun q q2 => hC _ _ ⟨h1.2.1.w.k0, c_Mput hst h1.2.1 h2 hAI h3 (by omega) (by omega) (fun r => ?_) (fun _ _ m' h' => next h1 h' h2 (by omega) (by omega)) (fun _ r1 r2 => ?_)⟩) (fun q q1 q2 m' hm => hC _ _ ⟨hm.2.1.w.k0, c_Mput (A := A) hst hm.2.1 h2 hAI h3 (by omega) (by omega) (fun r => ?_) (fun _ r => ?_) (fun _ _ _ S' du' ix' pn' m2 h' hA' => next hm h' hA' ?_ ?_)⟩)
  · have r' : op = 1 := r
    rw [q] at r'
    cases r'
  · have r' : op = 1 := r
    rw [q] at r'
    cases r'
  · exact absurd r q
  · rcases q2 with t | t
    · exact absurd t r1
    · exact absurd r2 t
  · exact absurd r q
  · rcases r with t | t
    · exact absurd t q1
    · exact absurd q2 t
  all_goals
    obtain ⟨n, hn, e⟩ := nI_of (x := x) (fun r => q1 (Int32.lt_trans r (by decide)))
    have hcl : x.toNatClampNeg = n := by rw [e]; exact nI_clamp hn
    have n1 : 1 ≤ n := by
      rw [e, show (1 : Int32) = nI 1 from rfl, nI_ltI hn (by omega)] at q1
      omega
    have n8' : n ≤ 8 := by
      rw [e, show (8 : Int32) = nI 8 from rfl, nI_leI hn (by omega)] at q2
      exact q2
    have hbl : (bl b n).length = n := by unfold bl; simp
    have := aPut_AI (key := key) (v := bl b n) hAI (by omega)
    rw [hcl]
    omega
end L3U
