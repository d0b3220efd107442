/-! the reference empties a segment, set by set -/
def HI (S0 S : RS) (A : AS) (ix : List Nat) (pn : Nat → Nat) (s : Nat) : Prop := S.h.length ≤ s ∧ S.h.Nodup ∧ (∀ n ∈ S.h, ∀ p, p < 97 → n ∉ S.P p) ∧ (∀ tr, tr ∈ S.h.map (tri S) ↔ ∃ n ∈ ix, isK A.Y (A.w - 28) (eY S0 pn n) = true ∧ sN (S0.k n) < s ∧ tr = tri S0 n) ∧ ((S.h.map (tri S)).map (fun t => t.1)).Nodup
section L3F
variable {l : Launch} {G : xG} {Q : XR → XM → Prop} {R : Nat → Nat} {m0 m m' : XM} {S S' S1 S2 : RS} {X X' : RX} {A B : AS} {ix g xs ys zs : List Nat} {pn : Nat → Nat} {n p s i x v : Nat} {key : Int64} {c : Nat → Int32}
theorem tri_of (h1 : S'.k n = S.k n) (h2 : S'.l n = S.l n) (h3 : S'.v n = S.v n) (h4 : S'.cm n = S.cm n) : tri S' n = tri S n := by
  unfold tri
  rw [h1, h4, vlS_eq h2 h3]
theorem HI.keep (h : HI S S1 A ix pn s) (hk : Hk S1 S2) (hp : Hp S1 S2) : HI S S2 A ix pn s := by
  obtain ⟨h1, h2, h3, h4, h5⟩ := h
  have e : S2.h.map (tri S2) = S1.h.map (tri S1) := by
    rw [hk.1]
    apply List.map_congr_left
    intro n hn
    obtain ⟨a1, a2, a3, a4⟩ := hk.2 n hn
    exact tri_of a1 a2 a3 a4
  refine ⟨by rw [hk.1]; exact h1, by rw [hk.1]; exact h2, fun n hn => ?_, by rw [e]; exact h4, by rw [e]; exact h5⟩
  rw [hk.1] at hn
  exact hp n hn (h3 n hn)
theorem HI.next (h : HI S S1 A ix pn s) (hno : ∀ n ∈ ix, isK A.Y (A.w - 28) (eY S pn n) = true → sN (S.k n) ≠ s) : HI S S1 A ix pn (s + 1) := by
  obtain ⟨h1, h2, h3, h4, h5⟩ := h
  refine ⟨by omega, h2, h3, fun tr => ?_, h5⟩
  rw [h4 tr]
  constructor
  · rintro ⟨n, a1, a2, a3, a4⟩
    exact ⟨n, a1, a2, by omega, a4⟩
  · rintro ⟨n, a1, a2, a3, a4⟩
    have := hno n a1 a2
    exact ⟨n, a1, a2, by omega, a4⟩
theorem HI.add (h : HI S S1 A ix pn s) (hcm : ∀ a ∈ ix, ∀ b ∈ ix, S.cm a = S.cm b → a = b) (hx : x ∈ ix) (hk : isK A.Y (A.w - 28) (eY S pn x) = true) (hs : sN (S.k x) = s) (hu : ∀ n ∈ ix, sN (S.k n) = s → n = x)
    (hh : S2.h = S1.h ++ [v]) (hd : ∀ n ∈ S1.h, S2.k n = S1.k n ∧ S2.l n = S1.l n ∧ S2.v n = S1.v n ∧ S2.cm n = S1.cm n) (hv : v ∉ S1.h) (hP : S2.P = S1.P) (hf : ∀ p, p < 97 → v ∉ S1.P p) (ht : tri S2 v = tri S x) : HI S S2 A ix pn (s + 1) := by
  obtain ⟨h1, h2, h3, h4, h5⟩ := h
  have e : S2.h.map (tri S2) = S1.h.map (tri S1) ++ [tri S x] := by
    rw [hh, List.map_append, List.map_singleton, ht]
    congr 1
    apply List.map_congr_left
    intro n hn
    obtain ⟨a1, a2, a3, a4⟩ := hd n hn
    exact tri_of a1 a2 a3 a4
  refine ⟨by rw [hh, List.length_append]; simp; omega, ?_, fun n hn p hp => ?_, fun tr => ?_, ?_⟩
  · rw [hh, List.nodup_append]
    exact ⟨h2, by simp, fun a ha b hb r => hv (by simp at hb; rw [← hb, ← r]; exact ha)⟩
  · rw [hP]
    rw [hh] at hn
    rcases List.mem_append.mp hn with r | r
    · exact h3 n r p hp
    · simp at r
      rw [r]
      exact hf p hp
  · rw [e, List.mem_append, h4 tr, List.mem_singleton]
    constructor
    · rintro (⟨n, a1, a2, a3, a4⟩ | r)
      · exact ⟨n, a1, a2, by omega, a4⟩
      · exact ⟨x, hx, hk, by omega, r⟩
    · rintro ⟨n, a1, a2, a3, a4⟩
      by_cases q : sN (S.k n) = s
      · right
        rw [a4, hu n a1 q]
      · exact Or.inl ⟨n, a1, a2, by omega, a4⟩
  · rw [e, List.map_append, List.nodup_append]
    refine ⟨h5, by simp, fun a ha b hb r => ?_⟩
    obtain ⟨tr, htr, rfl⟩ := List.mem_map.mp ha
    obtain ⟨n, a1, a2, a3, rfl⟩ := (h4 tr).mp htr
    simp at hb
    rw [hb] at r
    have : n = x := hcm n a1 x hx r
    rw [this] at a3
    omega
theorem c_mt100 {x1 : Int32} (hst : l.stackTraces = false) (hA : RA S A ix pn) (hAI : AI A) (hdu : ∀ t, t < 64 → (X.du t ≠ 0 ↔ due A.Y (A.w - 28) t = true))
    (hq : ∀ S' m', MR R m0 S' X m' → RA S' (emp A) (fl (fun n => sN (S.k n)) (due A.Y (A.w - 28)) 64 ix) pn → Lk S S' → HI S S' A ix pn 64 → S'.g = [] → Q (.inl none) m') :
    ∀ k s S1 mm, s + k = 64 → MR R m0 S1 X mm → RA S1 (Cs A s) (fl (fun n => sN (S.k n)) (due A.Y (A.w - 28)) s ix) pn → Lk S S1 → HI S S1 A ix pn s → WW l G xM_empty 100 [some (vR (some (R 0))), some (vI x1), some (vI (nI s)), none] [] mm 0 0 Q := by
  have hY := hA.2.2.2.1
  have hixl : ∀ n ∈ ix, n ∈ lgs S := fun n hn => ((hA.2.2.2.2.1 n).mp hn).1
  have hcmi : ∀ a ∈ ix, ∀ b ∈ ix, S.cm a = S.cm b → a = b := fun a ha b hb e => hA.cmi a (hixl a ha) b (hixl b hb) ((hA.2.2.2.2.1 a).mp ha).2 ((hA.2.2.2.2.1 b).mp hb).2 e
  have hPZ : ∀ s n, s < 64 → PZ s ((Cs A n).Z s) := fun s n hs => swp_PZ (e := A.w - 28) (zc := (A.Z, A.c)) hAI.ky hAI.ly (fun s hs => hAI.pz hs) n s hs
  intro k
  induction k with
  | zero =>
    intro s S1 mm e hR hA1 hL hH
    have : s = 64 := by omega
    subst this
    refine bM_empty_100 ⟨fun _ => ⟨hR.w.k0, fun m2 hm2 => ?_⟩, fun q => absurd Int32.le_rfl q⟩
    have h2 := hR.g0
    rw [← hm2] at h2
    have K2 : Dk S1 (S1.sg []) := Dk.sg
    rw [Cs_end] at hA1
    exact hq _ m2 h2 hA1.sgS (hL.tr (K2.lk (fun q _ _ => by rw [RS.P_sg]))) (hH.keep K2.hk (Hp.sub (fun q n _ hn => by rw [RS.P_sg] at hn; exact hn))) RS.g_sg
  | succ k ih =>
    intro s S1 mm e hR hA1 hL hH
    have hs : s < 64 := by omega
    have hdus : gI mm (R 22) s = X.du s := hR.xx.2.2.2.2.2.2 s hs
    have nx := fun S2 m' => ih (s + 1) S2 m' (by omega)
    generalize hixs : fl (fun n => sN (S.k n)) (due A.Y (A.w - 28)) s ix = ixs at hA1
    have hsub : ∀ n ∈ ixs, n ∈ ix := fun n hn => by rw [← hixs] at hn; exact fl_sub.subset hn
    refine bM_empty_100 ⟨fun q => ?_, fun _ => ⟨hR.w.k0, R 22, hR.w.r22, 64, hR.w.k22, vp_in_nI hs (by omega), fun q => ?_, fun q => ?_⟩⟩
    · rw [show (64 : Int32) = nI 64 from rfl, nI_leI (by omega) (by omega)] at q
      omega
    · -- not due
      rw [nI_clamp (by omega), hdus] at q
      have hd : due A.Y (A.w - 28) s = false := by
        cases r : due A.Y (A.w - 28) s with
        | false => rfl
        | true => exact absurd q ((hdu s hs).mpr r)
      rw [nI_1]
      refine nx S1 mm hR ?_ hL (hH.next (fun n hn hk r => ?_))
      · rw [fl_no hd, Cs_no hd, hixs]
        exact hA1
      · have hm : eY S pn n ∈ A.Y := by rw [hY]; exact List.mem_map_of_mem hn
        have := isK_due hk hm
        rw [eY_k, r, hd] at this
        cases this
    · rw [nI_clamp (by omega), hdus] at q
      have hd : due A.Y (A.w - 28) s = true := (hdu s hs).mp q
      refine c_MgatherAll hst hs hR hA1.nd hA1.cmi (fun g m9 hso hme h9 => ?_)
      have hkk : ∀ n ∈ ixs, S1.k n = S.k n := fun n hn => (hL.2 n (hixl n (hsub n hn))).1
      have hgx : g = ixs.filter (fun n => sN (S1.k n) == s) := by
        refine srt_eq S1.cm g _ hso (hA1.2.2.2.2.2.1.sublist List.filter_sublist) (fun n => ?_)
        rw [hme n, List.mem_filter, hA1.2.2.2.2.1 n]
        constructor
        · rintro ⟨a1, a2, a3⟩
          exact ⟨⟨a1, a2⟩, by rw [a3]; simp⟩
        · rintro ⟨⟨a1, a2⟩, a3⟩
          exact ⟨a1, a2, by simpa using a3⟩
      have hgx0 : g = ix.filter (fun n => sN (S.k n) == s) := by
        rw [hgx, ← fl_at (f := fun n => sN (S.k n)) (d := due A.Y (A.w - 28)), hixs]
        apply List.filter_congr
        intro n hn
        rw [hkk n hn]
      have hgS : gS A.Y s = g.map (eY S pn) := by rw [gS_ix hY, hgx0]
      have hfil : ixs.filter (fun n => !(sN ((S1.sg g).k n) == s)) = fl (fun n => sN (S.k n)) (due A.Y (A.w - 28)) (s + 1) ix := by
        rw [fl_yes hd, hixs]
        apply List.filter_congr
        intro n hn
        rw [RS.k_sg, hkk n hn]
      have hA2 := hA1.sgS (x := g)
      have K2 : Dk S1 (S1.sg g) := Dk.sg
      have L2 : Lk S (S1.sg g) := hL.tr (K2.lk (fun q _ _ => by rw [RS.P_sg]))
      have H2 : HI S (S1.sg g) A ix pn s := hH.keep K2.hk (Hp.sub (fun q n _ hn => by rw [RS.P_sg] at hn; exact hn))
      have eg2 : (S1.sg g).g = g := RS.g_sg
      have ek2 : (S1.sg g).k = S1.k := RS.k_sg
      generalize hS2 : S1.sg g = S2 at h9 hA2 L2 H2 eg2 ek2 hfil
      have hgg := h9.gg
      rw [eg2] at hgg
      obtain ⟨b1, b2, b3, b4⟩ := hgg
      refine ⟨h9.w.k0, fun q2 => ?_, fun q2 => ?_⟩
      · -- one alone
        rw [b1, show (1 : Int32) = nI 1 from rfl, nI_leI (by omega) (by omega)] at q2
        obtain ⟨y, hy, hyp, hys⟩ := due_iff.mp hd
        have hyg : y ∈ gS A.Y s := gS_mem.mpr ⟨hy, hys⟩
        rw [hgS] at hyg
        obtain ⟨x, hxg, hxy⟩ := List.mem_map.mp hyg
        have hg1 : g = [x] := by
          cases g with
          | nil => cases hxg
          | cons a t =>
            have : t = [] := by
              cases t with
              | nil => rfl
              | cons b t => simp at q2
            subst this
            simp at hxg
            rw [hxg]
        rw [hg1] at b3
        have hx0 : gI m9 (R 19) 0 = nI x := b3 0 x rfl
        have hx4 : x < 4096 := b4 x hxg
        have hxix : x ∈ ix := by rw [hgx0] at hxg; exact (List.mem_filter.mp hxg).1
        have hxs : sN (S.k x) = s := by
          rw [hgx0] at hxg
          have := (List.mem_filter.mp hxg).2
          simpa using this
        obtain ⟨d1, d2, d3, d4, d5⟩ := L2.2 x (hixl x hxix)
        have hgS1 : gS A.Y s = [eY S pn x] := by rw [hgS, hg1]; rfl
        have hu : ∀ n ∈ ix, sN (S.k n) = s → n = x := fun n hn hns => by
          have : n ∈ g := by rw [hgx0, List.mem_filter]; exact ⟨hn, by rw [hns]; simp⟩
          rw [hg1] at this
          simpa using this
        refine ⟨R 19, h9.w.r19, 300, h9.w.k19, vp_in_nI (n := 0) (by omega) (by omega), ?_⟩
        rw [show (0 : Int32).toNatClampNeg = 0 from rfl, hx0]
        refine c_Malone (S := S2) (x := x) hst h9 hA2 hs (by rw [ek2, ← hgx, hg1]) (hPZ s s hs).1 (by have := H2.1; omega) (by rw [eg2, hg1]) (fun q3 S' m' h' hA' hH' hL' hp' => ?_) (fun q3 S' v m' h' hA' e1 e2 e3 e4 e5 e6 e7 e8 e9 hL' => ?_)
        · -- it goes
          show WW _ _ _ _ _ _ _ _ _ _
          rw [nI_1]
          have hg0 : (eY S pn x).g = 0 := by
            show S.gt x = 0
            rw [← d5]
            exact q3
          have hstp := stp_alone (zc := swp A.Y (A.w - 28) (A.Z, A.c) s) hd hgS1 hg0
          have hC := Cs_yes hd hstp
          refine nx S' m' h' ?_ (L2.tr hL') ((H2.keep hH' hp').next (fun n hn hk r => ?_))
          · rw [hC, ← hfil]
            rw [d1, Cs_Z, Cs_w, Cs_c, Cs_t] at hA'
            exact hA'
          · have hnx := hu n hn r
            have hm : eY S pn n ∈ A.Y := by rw [hY]; exact List.mem_map_of_mem hn
            have := (isK_one hk hm).2.1
            rw [hnx] at this
            exact this hg0
        · -- it will be put anew
          show WW _ _ _ _ _ _ _ _ _ _
          rw [nI_1]
          have hg0 : (eY S pn x).g ≠ 0 := by
            show S.gt x ≠ 0
            rw [← d5]
            exact q3
          have hstp := stp_kept (zc := swp A.Y (A.w - 28) (A.Z, A.c) s) hd hgS1 hg0
          have hC := Cs_yes hd hstp
          have hK : isK A.Y (A.w - 28) (eY S pn x) = true := by
            unfold isK
            rw [eY_k, hxs, hgS1]
            have h1 : (eY S pn x).p < A.w - 28 := by rw [hxy]; exact hyp
            have h2 : ((eY S pn x).g != 0) = true := by simpa using hg0
            rw [h2]
            simp [h1]
          refine nx S' m' h' ?_ (L2.tr hL') (H2.add hcmi hxix hK hxs hu e1 e2 e3 e4 e5 ?_)
          · rw [hC, ← hfil]
            rw [Cs_Z, Cs_w, Cs_c, Cs_t] at hA'
            exact hA'
          · unfold tri vlS
            rw [e6, e7, e8, e9, d1, d2, d3, d4]
      · -- two or more
        rw [b1, show (1 : Int32) = nI 1 from rfl, nI_leI (by omega) (by omega)] at q2
        refine c_MmoveAll (S := S2) hst h9 hA2 hs (hPZ s s hs) (by rw [eg2, ek2]; exact hgx) (fun e he => hAI.ly e (fl_sub.subset he)) (fun S' m' h' hA' hH' hL' hp' => ?_)
        show WW _ _ _ _ _ _ _ _ _ _
        rw [nI_1]
        have hlen : (gS A.Y s).length ≠ 1 := by
          rw [hgS, List.length_map]
          omega
        have hstp := stp_move (zc := swp A.Y (A.w - 28) (A.Z, A.c) s) hd hlen
        have hC := Cs_yes hd hstp
        refine nx S' m' h' ?_ (L2.tr hL') ((H2.keep hH' hp').next (fun n hn hk r => ?_))
        · rw [hC, ← hfil]
          rw [Cs_g, Cs_Z, Cs_w, Cs_c, Cs_t] at hA'
          exact hA'
        · have hm : eY S pn n ∈ A.Y := by rw [hY]; exact List.mem_map_of_mem hn
          have := (isK_one hk hm).1
          rw [eY_k, r] at this
          rw [this] at hlen
          exact hlen rfl
end L3F
