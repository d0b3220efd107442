section XMem
variable {l : Launch} {G : xG} {M : xMt} {pc : Nat} {L : List (Option XV)} {st : List XV} {m : XM} {bc bs : Nat} {Q : XR → XM → Prop}
/-- a field that the method links at idx: field k of class ci, of kind t -/
def xFd (own : String) (idx ci k t : Nat) : Prop := ∃ (C : String) (T : u_T) (N : Nat), vwCl[ci]? = some (C, T, N) ∧ (∀ w ∈ u_ws C T N, w ∈ WS) ∧ k < N ∧ Cond.fieldLink own idx (T k).1 (T k).2.1 (T k).2.2.1 ∈ WS ∧ (xF ci)[k]? = some t
theorem xw_get {idx ci k t a n : Nat} {p : Program} {e : Env} {s : State} {mid : MethodId} {args : Array Value} {below : List Frame} {meth : Method} {c : Code} {H : Heap} {locs : List Loc} {cells slots : Nat} {ls : Array Slot} {QQ : State → Prop} {rest : List Value} (hC : xC l G M p s mid args meth c) (hW : Wd G m H) (hd : decode M.2.1 pc = .ok (.getfield idx, 3)) (hf : xFd M.1.cls idx ci k t) (hk : m.1 a = some (oB ci)) (hn : pc + 3 = n)
    (kk : W p l e M.2.2.2.2.1 s mid args below meth c H locs cells slots QQ (F0 mid n ls (fval m a k t :: rest))) : W p l e M.2.2.2.2.1 s mid args below meth c H locs cells slots QQ (F0 mid pc ls (.ref a :: rest)) := by
  subst hn
  obtain ⟨C, T, N, f1, f2, f3, f4, f5⟩ := hf
  have hP : va_P G.1 vwCl [(a, .inr (ci, fvals m a 0 (xF ci)))] H := by
    intro j q hq
    cases j with
    | zero => cases hq; exact (hW a _ hk).1
    | succ j => cases hq
  exact va_get hC.1 hC.2.1 hC.2.2.2.2.1 f2 hC.2.2.2.1 hC.2.2.2.2.2.2.2.2.2.1.1 hP 0 rfl f1 k f3 (hC.2.2.2.2.1 _ f4) (fun _ h => h) (by rw [fvals_get, f5]; simp) hd kk
theorem x_getI {idx ci k a : Nat} {o : Option Nat} (ho : o = some a) (hd : decode M.2.1 pc = .ok (.getfield idx, 3)) (hf : xFd M.1.cls idx ci k 0) (hk : m.1 a = some (oB ci)) {n : Nat} (hn : pc + 3 = n) (kk : WW l G M n L (vI (m.2.1 a k) :: st) m bc bs Q) : WW l G M pc L (vR o :: st) m bc bs Q := by
  subst ho
  intro p e s mid args below meth c hC H locs cells slots ls hW hS hL h1 h2
  exact xw_get hC hW hd hf hk hn (kk p e s mid args below meth c hC H locs cells slots ls hW hS hL h1 h2)
theorem x_getL {idx ci k a : Nat} {o : Option Nat} (ho : o = some a) (hd : decode M.2.1 pc = .ok (.getfield idx, 3)) (hf : xFd M.1.cls idx ci k 1) (hk : m.1 a = some (oB ci)) {n : Nat} (hn : pc + 3 = n) (kk : WW l G M n L (vL (m.2.2.1 a k) :: st) m bc bs Q) : WW l G M pc L (vR o :: st) m bc bs Q := by
  subst ho
  intro p e s mid args below meth c hC H locs cells slots ls hW hS hL h1 h2
  exact xw_get hC hW hd hf hk hn (kk p e s mid args below meth c hC H locs cells slots ls hW hS hL h1 h2)
theorem x_getR {idx ci k a : Nat} {o : Option Nat} (ho : o = some a) (hd : decode M.2.1 pc = .ok (.getfield idx, 3)) (hf : xFd M.1.cls idx ci k 2) (hk : m.1 a = some (oB ci)) {n : Nat} (hn : pc + 3 = n) (kk : WW l G M n L (vR (m.2.2.2 a k) :: st) m bc bs Q) : WW l G M pc L (vR o :: st) m bc bs Q := by
  subst ho
  intro p e s mid args below meth c hC H locs cells slots ls hW hS hL h1 h2
  exact xw_get hC hW hd hf hk hn (kk p e s mid args below meth c hC H locs cells slots ls hW hS hL h1 h2)
/-- .. and may write: its type, whether it is final -/
def xFp (own nam : String) (idx ci k t : Nat) (ty : FieldType) (fin : Bool) : Prop := ∃ (C : String) (T : u_T) (N : Nat) (ty0 : Nat → FieldType), vwCl[ci]? = some (C, T, N) ∧ (∀ w ∈ u_ws C T N, w ∈ WS) ∧ k < N ∧ Cond.fieldLink own idx (T k).1 (T k).2.1 (T k).2.2.1 ∈ WS ∧ (xF ci)[k]? = some t ∧
  (∀ k, k < N → parseFieldDescriptor (T k).2.2.1 = some (ty0 k)) ∧ (∀ a, a < N → ∀ b, b < N → a ≠ b → (T a).2.1 ≠ (T b).2.1) ∧ (T k).2.2.2 = fin ∧ parseFieldDescriptor (T k).2.2.1 = some ty ∧ (fin = true → nam = "<init>" ∧ (T k).1 = own)
theorem xw_put {idx ci k t a n : Nat} {ty : FieldType} {fin : Bool} {m' : XM} {v : Value} {p : Program} {e : Env} {s : State} {mid : MethodId} {args : Array Value} {below : List Frame} {meth : Method} {c : Code} {H : Heap} {locs : List Loc} {cells slots : Nat} {ls : Array Slot} {QQ : State → Prop} {rest : List Value} (hC : xC l G M p s mid args meth c) (hW : Wd G m H) (hS : va_S (xA G) s.heap H locs) (hd : decode M.2.1 pc = .ok (.putfield idx, 3)) (hf : xFp M.1.cls M.1.name idx ci k t ty fin) (hk : m.1 a = some (oB ci)) (hn : pc + 3 = n)
    (hnr : narrow ty v = v) (hfit : fits ty v = true) (g0 : m'.1 = m.1) (g1 : ∀ b j, b ≠ a → m'.2.1 b j = m.2.1 b j) (g2 : ∀ b j, b ≠ a → m'.2.2.1 b j = m.2.2.1 b j) (g3 : ∀ b j, b ≠ a → m'.2.2.2 b j = m.2.2.2 b j) (gv : fval m' a k t = v) (go : ∀ i t', i ≠ k → fval m' a i t' = fval m a i t')
    (kk : ∀ (H1 : Heap) (locs1 : List Loc), Wd G m' H1 → va_S (xA G) s.heap H1 locs1 → W p l e M.2.2.2.2.1 s mid args below meth c H1 locs1 cells slots QQ (F0 mid n ls rest)) : W p l e M.2.2.2.2.1 s mid args below meth c H locs cells slots QQ (F0 mid pc ls (v :: .ref a :: rest)) := by
  subst hn
  obtain ⟨C, T, N, ty0, f1, f2, f3, f4, f5, f6, f7, f8, f9, f10⟩ := hf
  have hts := hC.2.2.2.2.1
  have hown := hC.2.2.2.1
  have hK := hC.2.2.2.2.2.2.2.2.2.1.1
  have hap := va_apart (own := M.1.cls) hts f2 ty0 f6 f7 hK f1
  obtain ⟨r, r1, cell, q1, q2, q3, q4⟩ := (hW a _ hk).1
  have hr : r = (C, T, N) := Option.some.inj (r1.symm.trans f1)
  subst hr
  obtain ⟨hSl, hfc, kC, hkC, hkind⟩ := hK.1 ci _ f1
  obtain ⟨cf, kf, fi, f, hi, hsl⟩ := hSl k f3
  have hlay := hts _ (f2 _ (u_in_lay f3))
  unfold u_lay at hlay
  have hst := (u_facts hfc hkC (u_lays hts f2 f3) hi).1
  have fin' : ∀ H' : Heap, H'[a]? = some (cell.setSlot f.slot v) → H'.size = H.size → (∀ q, q ≠ a → H'[q]? = H[q]?) → W p l e M.2.2.2.2.1 s mid args below meth c H' (locs ++ [⟨a, f.slot⟩]) cells slots QQ (F0 mid (pc + 3) ls rest) := by
    intro H' e1 e2 e3
    rw [hsl] at e1 ⊢
    refine kk H' _ (hW.put (a := a) g0 g1 g2 g3 (fun k' hk' => ?_) e3) (hS.put e2 e3 (hW a _ hk).2)
    cases Option.some.inj (hk.symm.trans hk')
    show va_at G.1 vwCl (a, .inr (ci, fvals m' a 0 (xF ci))) H'
    rw [← fvals_put f5 gv go]
    exact ⟨_, f1, t_OB.to (V := updV (vp_V (fvals m a 0 (xF ci))) k v) ⟨_, e1, q2, q3, t_set q4 hap f3 v⟩ (fun j _ => vp_updV_set (by rw [fvals_len]; exact (List.getElem?_eq_some_iff.mp f5).1) v j)⟩
  cases fin with
  | false =>
    rw [if_neg (by rw [f8]; decide)] at hlay
    have h6 := u_store hfc hkC hkind hlay hi f9 hnr hfit
    exact W.putK hC.1 hC.2.1 (f := f) ⟨hown, hts _ f4, ⟨_, _, _, hi⟩, hst⟩ (by rw [q2]; exact h6) q1 q3 (by rw [hsl]; exact k2_hasslot (q4 k f3)) rfl rfl hd fin'
  | true =>
    rw [if_pos f8] at hlay
    obtain ⟨n1, n2⟩ := f10 rfl
    have hcf : mid.cls = cf := by
      obtain ⟨_, _, c', _, _, _, -, -, hf', -, -, -, hown2, -⟩ := Cond.laysFinal_spec hlay
      have e1 : c' = cf := by have := hi.symm.trans hf'; simp at this; exact this.1.symm
      rw [n2] at hown2
      rw [← e1]; exact Option.some.inj (hown.symm.trans hown2)
    have h6 := u_fits hfc hkC hkind (Or.inr hlay) hi f9 hnr hfit
    exact W.putFinK hC.1 hC.2.1 hown (hts _ f4) hi hst hcf (hC.2.2.2.2.2.2.2.1.trans n1) (by rw [q2]; exact h6) q1 q3 (by rw [hsl]; exact k2_hasslot (q4 k f3)) rfl rfl hd fin'
theorem x_putI {idx ci k a : Nat} {ty : FieldType} {fin : Bool} {v : Int32} {o : Option Nat} (ho : o = some a) (hd : decode M.2.1 pc = .ok (.putfield idx, 3)) (hf : xFp M.1.cls M.1.name idx ci k 0 ty fin) (hk : m.1 a = some (oB ci)) (hnr : narrow ty (.int v) = .int v) (hfit : fits ty (.int v) = true) {n : Nat} (hn : pc + 3 = n) (kk : WW l G M n L st (mI m a k v) bc bs Q) : WW l G M pc L (vI v :: vR o :: st) m bc bs Q := by
  subst ho
  intro p e s mid args below meth c hC H locs cells slots ls hW hS hL h1 h2
  refine xw_put (m' := mI m a k v) hC hW hS hd hf hk hn hnr hfit rfl (fun b j h => by simp [mI, h]) (fun b j h => rfl) (fun b j h => rfl) (by simp [mI, fval, toV]) (fun i t' h => ?_) fun H1 locs1 w1 w2 => kk p e s mid args below meth c hC H1 locs1 cells slots ls w1 w2 hL h1 h2
  match t' with
  | 0 => simp [mI, fval, h]
  | 1 => rfl
  | n + 2 => rfl
theorem x_putL {idx ci k a : Nat} {ty : FieldType} {fin : Bool} {v : Int64} {o : Option Nat} (ho : o = some a) (hd : decode M.2.1 pc = .ok (.putfield idx, 3)) (hf : xFp M.1.cls M.1.name idx ci k 1 ty fin) (hk : m.1 a = some (oB ci)) (hnr : narrow ty (.long v) = .long v) (hfit : fits ty (.long v) = true) {n : Nat} (hn : pc + 3 = n) (kk : WW l G M n L st (mL m a k v) bc bs Q) : WW l G M pc L (vL v :: vR o :: st) m bc bs Q := by
  subst ho
  intro p e s mid args below meth c hC H locs cells slots ls hW hS hL h1 h2
  refine xw_put (m' := mL m a k v) hC hW hS hd hf hk hn hnr hfit rfl (fun b j h => rfl) (fun b j h => by simp [mL, h]) (fun b j h => rfl) (by simp [mL, fval, toV]) (fun i t' h => ?_) fun H1 locs1 w1 w2 => kk p e s mid args below meth c hC H1 locs1 cells slots ls w1 w2 hL h1 h2
  match t' with
  | 0 => rfl
  | 1 => simp [mL, fval, h]
  | n + 2 => rfl
theorem x_putR {idx ci k a : Nat} {ty : FieldType} {fin : Bool} {v : Option Nat} {o : Option Nat} (ho : o = some a) (hd : decode M.2.1 pc = .ok (.putfield idx, 3)) (hf : xFp M.1.cls M.1.name idx ci k 2 ty fin) (hk : m.1 a = some (oB ci)) (hnr : ∀ o, narrow ty (va_rf o) = va_rf o) (hfit : ∀ o, fits ty (va_rf o) = true) {n : Nat} (hn : pc + 3 = n) (kk : WW l G M n L st (mR m a k v) bc bs Q) : WW l G M pc L (vR v :: vR o :: st) m bc bs Q := by
  subst ho
  intro p e s mid args below meth c hC H locs cells slots ls hW hS hL h1 h2
  refine xw_put (m' := mR m a k v) hC hW hS hd hf hk hn (hnr v) (hfit v) rfl (fun b j h => rfl) (fun b j h => rfl) (fun b j h => by simp [mR, h]) (by simp [mR, fval, toV]) (fun i t' h => ?_) fun H1 locs1 w1 w2 => kk p e s mid args below meth c hC H1 locs1 cells slots ls w1 w2 hL h1 h2
  match t' with
  | 0 => rfl
  | 1 => rfl
  | n + 2 => simp [mR, fval, h]
/-! arrays -/
theorem xP1 {a : Nat} {k : XKd} {H : Heap} (hW : Wd G m H) (hk : m.1 a = some k) : va_P G.1 vwCl [(a, xE G m a k)] H := by
  intro j q hq
  cases j with
  | zero => cases hq; exact (hW a _ hk).1
  | succ j => cases hq
theorem x_iald {a len : Nat} {i : Int32} {o : Option Nat} (ho : o = some a) (hd : decode M.2.1 pc = .ok (.iaload, 1)) (hk : m.1 a = some (aR 0 len)) (hin : vp_in i len) {n : Nat} (hn : pc + 1 = n) (kk : WW l G M n L (vI (m.2.1 a i.toNatClampNeg) :: st) m bc bs Q) : WW l G M pc L (vI i :: vR o :: st) m bc bs Q := by
  subst ho
  subst hn
  intro p e s mid args below meth c hC H locs cells slots ls hW hS hL h1 h2
  exact va_iald hC.1 hC.2.1 hC.2.2.2.2.2.2.2.2.2.1.1 (xP1 hW hk) 0 0 rfl rfl hin hd (kk p e s mid args below meth c hC H locs cells slots ls hW hS hL h1 h2)
theorem x_zald {a len : Nat} {i : Int32} {o : Option Nat} (ho : o = some a) (hd : decode M.2.1 pc = .ok (.baload, 1)) (hk : m.1 a = some (aR 1 len)) (hin : vp_in i len) {n : Nat} (hn : pc + 1 = n) (kk : WW l G M n L (vI (m.2.1 a i.toNatClampNeg) :: st) m bc bs Q) : WW l G M pc L (vI i :: vR o :: st) m bc bs Q := by
  subst ho
  subst hn
  intro p e s mid args below meth c hC H locs cells slots ls hW hS hL h1 h2
  exact va_zald hC.1 hC.2.1 hC.2.2.2.2.2.2.2.2.2.1.1 (xP1 hW hk) 0 1 rfl rfl hin hd (kk p e s mid args below meth c hC H locs cells slots ls hW hS hL h1 h2)
theorem x_lald {a len : Nat} {i : Int32} {o : Option Nat} (ho : o = some a) (hd : decode M.2.1 pc = .ok (.laload, 1)) (hk : m.1 a = some (aR 2 len)) (hin : vp_in i len) {n : Nat} (hn : pc + 1 = n) (kk : WW l G M n L (vL (m.2.2.1 a i.toNatClampNeg) :: st) m bc bs Q) : WW l G M pc L (vI i :: vR o :: st) m bc bs Q := by
  subst ho
  subst hn
  intro p e s mid args below meth c hC H locs cells slots ls hW hS hL h1 h2
  exact va_lald hC.1 hC.2.1 hC.2.2.2.2.2.2.2.2.2.1.1 (xP1 hW hk) 0 2 rfl rfl hin hd (kk p e s mid args below meth c hC H locs cells slots ls hW hS hL h1 h2)
theorem x_aald {a len t : Nat} {i : Int32} {o : Option Nat} (ho : o = some a) (hd : decode M.2.1 pc = .ok (.aaload, 1)) (hk : m.1 a = some (aR t len)) (ht : t = 3 ∨ t = 4) (hin : vp_in i len) {n : Nat} (hn : pc + 1 = n) (kk : WW l G M n L (vR (m.2.2.2 a i.toNatClampNeg) :: st) m bc bs Q) : WW l G M pc L (vI i :: vR o :: st) m bc bs Q := by
  subst ho
  subst hn
  intro p e s mid args below meth c hC H locs cells slots ls hW hS hL h1 h2
  rcases ht with rfl | rfl
  · exact va_aldq hC.1 hC.2.1 hC.2.2.2.2.2.2.2.2.2.1.1 (xP1 hW hk) 0 3 rfl rfl hin hd (kk p e s mid args below meth c hC H locs cells slots ls hW hS hL h1 h2)
  · exact va_aldq hC.1 hC.2.1 hC.2.2.2.2.2.2.2.2.2.1.1 (xP1 hW hk) 0 4 rfl rfl hin hd (kk p e s mid args below meth c hC H locs cells slots ls hW hS hL h1 h2)
theorem x_alen {a len t : Nat} {o : Option Nat} (ho : o = some a) (hd : decode M.2.1 pc = .ok (.arraylength, 1)) (hk : m.1 a = some (aR t len)) (ht : t < 5) {n : Nat} (hn : pc + 1 = n) (kk : WW l G M n L (vI (Int32.ofNat len) :: st) m bc bs Q) : WW l G M pc L (vR o :: st) m bc bs Q := by
  subst ho
  subst hn
  intro p e s mid args below meth c hC H locs cells slots ls hW hS hL h1 h2
  match t, ht with
  | 0, _ => exact va_alen hC.1 hC.2.1 hC.2.2.2.2.2.2.2.2.2.1.1 (xP1 hW hk) 0 0 rfl rfl rfl hd (kk p e s mid args below meth c hC H locs cells slots ls hW hS hL h1 h2)
  | 1, _ => exact va_alen hC.1 hC.2.1 hC.2.2.2.2.2.2.2.2.2.1.1 (xP1 hW hk) 0 1 rfl rfl rfl hd (kk p e s mid args below meth c hC H locs cells slots ls hW hS hL h1 h2)
  | 2, _ => exact va_alen hC.1 hC.2.1 hC.2.2.2.2.2.2.2.2.2.1.1 (xP1 hW hk) 0 2 rfl rfl rfl hd (kk p e s mid args below meth c hC H locs cells slots ls hW hS hL h1 h2)
  | 3, _ => exact va_alen hC.1 hC.2.1 hC.2.2.2.2.2.2.2.2.2.1.1 (xP1 hW hk) 0 3 rfl rfl rfl hd (kk p e s mid args below meth c hC H locs cells slots ls hW hS hL h1 h2)
  | 4, _ => exact va_alen hC.1 hC.2.1 hC.2.2.2.2.2.2.2.2.2.1.1 (xP1 hW hk) 0 4 rfl rfl rfl hd (kk p e s mid args below meth c hC H locs cells slots ls hW hS hL h1 h2)
/-- the law's script -/
theorem x_sald {i : Int32} {o : Option Nat} (ho : o = some G.2.2.2.1) (hd : decode M.2.1 pc = .ok (.iaload, 1)) (hin : vp_in i G.2.2.2.2.1) {n : Nat} (hn : pc + 1 = n) (kk : WW l G M n L (vI (G.2.2.2.2.2 i.toNatClampNeg) :: st) m bc bs Q) : WW l G M pc L (vI i :: vR o :: st) m bc bs Q := by
  subst ho
  subst hn
  intro p e s mid args below meth c hC H locs cells slots ls hW hS hL h1 h2
  obtain ⟨-, -, -, hb1, hX, hb2, -⟩ := hC.2.2.2.2.2.2.2.2.2.1
  exact va_sld hC.1 hC.2.1 hX (Nat.lt_of_lt_of_le hb2 hb1) (Nat.not_le.mpr hb2) hS hin hd (kk p e s mid args below meth c hC H locs cells slots ls hW hS hL h1 h2)
theorem x_slen {o : Option Nat} (ho : o = some G.2.2.2.1) (hd : decode M.2.1 pc = .ok (.arraylength, 1)) {n : Nat} (hn : pc + 1 = n) (kk : WW l G M n L (vI (Int32.ofNat G.2.2.2.2.1) :: st) m bc bs Q) : WW l G M pc L (vR o :: st) m bc bs Q := by
  subst ho
  subst hn
  intro p e s mid args below meth c hC H locs cells slots ls hW hS hL h1 h2
  obtain ⟨-, -, -, hb1, hX, hb2, -⟩ := hC.2.2.2.2.2.2.2.2.2.1
  exact va_slen hC.1 hC.2.1 hX (Nat.lt_of_lt_of_le hb2 hb1) (Nat.not_le.mpr hb2) hS hd (kk p e s mid args below meth c hC H locs cells slots ls hW hS hL h1 h2)
theorem x_iast {a len : Nat} {i x : Int32} {o : Option Nat} (ho : o = some a) (hd : decode M.2.1 pc = .ok (.iastore, 1)) (hk : m.1 a = some (aR 0 len)) (hin : vp_in i len) {n : Nat} (hn : pc + 1 = n) (kk : WW l G M n L st (mI m a i.toNatClampNeg x) bc bs Q) : WW l G M pc L (vI x :: vI i :: vR o :: st) m bc bs Q := by
  subst ho
  subst hn
  intro p e s mid args below meth c hC H locs cells slots ls hW hS hL h1 h2
  have hK := hC.2.2.2.2.2.2.2.2.2.1.1
  refine W.iast hC.1 hC.2.1 (hW a _ hk).1 ((hK.2 0 _ rfl).1 len (fun j => .int (m.2.1 a j))) (fun q => by cases q) (by show ¬ (i < 0 ∨ (arrV _ _ _).slots.size ≤ _); rw [arrV_size]; exact hin) rfl rfl hd fun H1 e1 z oq => ?_
  refine kk p e s mid args below meth c hC H1 _ cells slots ls (hW.put (a := a) rfl (fun b j h => by simp [mI, h]) (fun b j h => rfl) (fun b j h => rfl) (fun k' hk' => ?_) oq) (hS.put z oq (hW a _ hk).2) hL h1 h2
  cases Option.some.inj (hk.symm.trans hk')
  show H1[a]? = some (vp_cell _ _)
  rw [e1]
  show some (Cell.setSlot (vp_cell (G.2.1 0) (len, .inl (m.2.1 a))) _ _) = some (vp_cell (G.2.1 0) (len, .inl ((mI m a i.toNatClampNeg x).2.1 a)))
  rw [vp_cell_i, vp_cell_i, arrV_store]
  congr 2
  funext q
  by_cases hq : q = i.toNatClampNeg
  · subst hq
    simp [updV, mI]
  · simp [updV, mI, hq]
theorem x_zast {a len : Nat} {i x : Int32} {o : Option Nat} (ho : o = some a) (hd : decode M.2.1 pc = .ok (.bastore, 1)) (hk : m.1 a = some (aR 1 len)) (hin : vp_in i len) (hx : narrow .boolean (.int x) = .int x) {n : Nat} (hn : pc + 1 = n) (kk : WW l G M n L st (mI m a i.toNatClampNeg x) bc bs Q) : WW l G M pc L (vI x :: vI i :: vR o :: st) m bc bs Q := by
  subst ho
  subst hn
  intro p e s mid args below meth c hC H locs cells slots ls hW hS hL h1 h2
  have hK := hC.2.2.2.2.2.2.2.2.2.1.1
  refine W.zast hC.1 hC.2.1 (hW a _ hk).1 ((hK.2 1 _ rfl).1 len (fun j => .int (m.2.1 a j))) (fun q => by cases q) (by show ¬ (i < 0 ∨ (arrV _ _ _).slots.size ≤ _); rw [arrV_size]; exact hin) rfl rfl hd fun H1 e1 z oq => ?_
  refine kk p e s mid args below meth c hC H1 _ cells slots ls (hW.put (a := a) rfl (fun b j h => by simp [mI, h]) (fun b j h => rfl) (fun b j h => rfl) (fun k' hk' => ?_) oq) (hS.put z oq (hW a _ hk).2) hL h1 h2
  cases Option.some.inj (hk.symm.trans hk')
  show H1[a]? = some (vp_cell _ _)
  rw [e1]
  show some (Cell.setSlot (vp_cell (G.2.1 1) (len, .inl (m.2.1 a))) _ _) = some (vp_cell (G.2.1 1) (len, .inl ((mI m a i.toNatClampNeg x).2.1 a)))
  rw [vp_cell_i, vp_cell_i, arrV_store]
  congr 2
  funext q
  by_cases hq : q = i.toNatClampNeg
  · subst hq
    simp [updV, mI, hx]
  · simp [updV, mI, hq]
theorem x_last {a len : Nat} {i : Int32} {x : Int64} {o : Option Nat} (ho : o = some a) (hd : decode M.2.1 pc = .ok (.lastore, 1)) (hk : m.1 a = some (aR 2 len)) (hin : vp_in i len) {n : Nat} (hn : pc + 1 = n) (kk : WW l G M n L st (mL m a i.toNatClampNeg x) bc bs Q) : WW l G M pc L (vL x :: vI i :: vR o :: st) m bc bs Q := by
  subst ho
  subst hn
  intro p e s mid args below meth c hC H locs cells slots ls hW hS hL h1 h2
  have hK := hC.2.2.2.2.2.2.2.2.2.1.1
  refine W.last hC.1 hC.2.1 (hW a _ hk).1 ((hK.2 2 _ rfl).1 len (fun j => .long (m.2.2.1 a j))) (fun q => by cases q) (by show ¬ (i < 0 ∨ (arrV _ _ _).slots.size ≤ _); rw [arrV_size]; exact hin) rfl rfl hd fun H1 e1 z oq => ?_
  refine kk p e s mid args below meth c hC H1 _ cells slots ls (hW.put (a := a) rfl (fun b j h => rfl) (fun b j h => by simp [mL, h]) (fun b j h => rfl) (fun k' hk' => ?_) oq) (hS.put z oq (hW a _ hk).2) hL h1 h2
  cases Option.some.inj (hk.symm.trans hk')
  show H1[a]? = some (vp_cell _ _)
  rw [e1]
  show some (Cell.setSlot (vp_cell (G.2.1 2) (len, .inr (.inl (m.2.2.1 a)))) _ _) = some (vp_cell (G.2.1 2) (len, .inr (.inl ((mL m a i.toNatClampNeg x).2.2.1 a))))
  rw [vp_cell_l, vp_cell_l, arrV_store]
  congr 2
  funext q
  by_cases hq : q = i.toNatClampNeg
  · subst hq
    simp [updV, mL]
  · simp [updV, mL, hq]
/-- into an array of Items (t = 3, class 1) or of Pages (t = 4, class 3) -/
theorem x_aast {a len t ci v : Nat} {i : Int32} {o : Option Nat} (ho : o = some a) {ov : Option Nat} (hov : ov = some v) (hd : decode M.2.1 pc = .ok (.aastore, 1)) (hk : m.1 a = some (aR t len)) (ht : (t = 3 ∧ ci = 1) ∨ (t = 4 ∧ ci = 3)) (hv : m.1 v = some (oB ci)) (hin : vp_in i len) {n : Nat} (hn : pc + 1 = n) (kk : WW l G M n L st (mR m a i.toNatClampNeg (some v)) bc bs Q) : WW l G M pc L (vR ov :: vI i :: vR o :: st) m bc bs Q := by
  subst ho; subst hov
  subst hn
  intro p e s mid args below meth c hC H locs cells slots ls hW hS hL h1 h2
  have hK := hC.2.2.2.2.2.2.2.2.2.1.1
  have hlt : i.toNatClampNeg < len := Nat.not_le.mp fun q => hin (Or.inr q)
  have h0 : ¬ i < 0 := fun q => hin (Or.inl q)
  have main : ∀ (r : vw_C) (t0 : Nat), xcont m a t = .inr (.inr (.inr (.inr (m.2.2.2 a)))) → (∀ m2 : XM, xcont m2 a t = .inr (.inr (.inr (.inr (m2.2.2.2 a))))) → vwCl[ci]? = some r → (xtys G)[t0]? = some (G.2.1 t, .object r.1) → W p l e M.2.2.2.2.1 s mid args below meth c H locs cells slots (vx_MQ below (xQc G Q) (xXC G Q) args s M.2.2.2.2.1.cells M.2.2.2.2.1.slots (xA G)) (F0 mid pc ls (.ref v :: .int i :: .ref a :: st.map toV)) := by
    intro r t0 hx hx2 hc ht0
    obtain ⟨r', hr', cellV, g1, g2, g3, -⟩ := (hW v _ hv).1
    have hcls := (hK.1 ci r hc).2
    obtain ⟨kA, comp, k1, k2, k3, -⟩ := (hK.2 t0 _ ht0).2
    have hcomp : comp = G.1.1 ci := Option.some.inj (k3.symm.trans hcls.1)
    subst hcomp
    obtain ⟨kC, hkC, -⟩ := hcls.2
    have hat : H[a]? = some (vp_cell (G.2.1 t) (len, xcont m a t)) := (hW a _ hk).1
    rw [hx, vp_cell_q] at hat
    refine W.aast hC.1 hC.2.1 hat (fun q h => by cases h) (fun h => by cases h) k1 k2 rfl hkC ⟨h0, by show _ < (arrV _ _ _).slots.size; rw [arrV_size]; exact hlt⟩ g1 (fun q h => by rw [g3] at h; cases h) (by rw [g2]; exact hkC) (by rw [g2]; exact va_assign hcls) rfl rfl hd fun H1 e1 z oq => ?_
    refine kk p e s mid args below meth c hC H1 _ cells slots ls (hW.put (a := a) rfl (fun b j h => rfl) (fun b j h => rfl) (fun b j h => by simp [mR, h]) (fun k' hk' => ?_) oq) (hS.put z oq (hW a _ hk).2) hL h1 h2
    cases Option.some.inj (hk.symm.trans hk')
    show H1[a]? = some (vp_cell (G.2.1 t) (len, xcont _ a t))
    rw [e1, hx2, vp_cell_q, arrV_store]
    congr 2
    funext q
    by_cases hq : q = i.toNatClampNeg
    · subst hq
      simp [updV, mR, va_rf]
    · simp [updV, mR, hq]
  rcases ht with ⟨rfl, rfl⟩ | ⟨rfl, rfl⟩
  · exact main _ 3 rfl (fun _ => rfl) rfl rfl
  · exact main _ 4 rfl (fun _ => rfl) rfl rfl
theorem x_aastN {a len t : Nat} {i : Int32} {o : Option Nat} (ho : o = some a) (hd : decode M.2.1 pc = .ok (.aastore, 1)) (hk : m.1 a = some (aR t len)) (ht : t = 3 ∨ t = 4) (hin : vp_in i len) {n : Nat} (hn : pc + 1 = n) (kk : WW l G M n L st (mR m a i.toNatClampNeg none) bc bs Q) : WW l G M pc L (vR none :: vI i :: vR o :: st) m bc bs Q := by
  subst ho
  subst hn
  intro p e s mid args below meth c hC H locs cells slots ls hW hS hL h1 h2
  have hK := hC.2.2.2.2.2.2.2.2.2.1.1
  have main : ∀ (C : String) (t0 : Nat), xcont m a t = .inr (.inr (.inr (.inr (m.2.2.2 a)))) → (∀ m2 : XM, xcont m2 a t = .inr (.inr (.inr (.inr (m2.2.2.2 a))))) → (xtys G)[t0]? = some (G.2.1 t, .object C) → W p l e M.2.2.2.2.1 s mid args below meth c H locs cells slots (vx_MQ below (xQc G Q) (xXC G Q) args s M.2.2.2.2.1.cells M.2.2.2.2.1.slots (xA G)) (F0 mid pc ls (.null :: .int i :: .ref a :: st.map toV)) := by
    intro C t0 hx hx2 ht0
    have hat : H[a]? = some (vp_cell (G.2.1 t) (len, xcont m a t)) := (hW a _ hk).1
    rw [hx, vp_cell_q] at hat
    refine va_WaastN (C := C) hC.1 hC.2.1 hat ((hK.2 t0 _ ht0).1 len _) (fun h => by cases h) (by show ¬ (i < 0 ∨ (arrV _ _ _).slots.size ≤ _); rw [arrV_size]; exact hin) rfl rfl hd fun H1 e1 z oq => ?_
    refine kk p e s mid args below meth c hC H1 _ cells slots ls (hW.put (a := a) rfl (fun b j h => rfl) (fun b j h => rfl) (fun b j h => by simp [mR, h]) (fun k' hk' => ?_) oq) (hS.put z oq (hW a _ hk).2) hL h1 h2
    cases Option.some.inj (hk.symm.trans hk')
    show H1[a]? = some (vp_cell (G.2.1 t) (len, xcont _ a t))
    rw [e1, hx2, vp_cell_q, arrV_store]
    congr 2
    funext q
    by_cases hq : q = i.toNatClampNeg
    · subst hq
      simp [updV, mR, va_rf]
    · simp [updV, mR, hq]
  rcases ht with rfl | rfl
  · exact main _ 3 rfl (fun _ => rfl) rfl
  · exact main _ 4 rfl (fun _ => rfl) rfl
end XMem
