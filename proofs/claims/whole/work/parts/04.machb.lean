def jushr (x : Int64) (y : Int32) : Int64 := (x.toUInt64 >>> (y.toInt64.toUInt64 &&& Int64.toUInt64 63)).toInt64
def jshl (x : Int64) (y : Int32) : Int64 := x <<< (y.toInt64 &&& 63)
def jshr (x : Int64) (y : Int32) : Int64 := x >>> (y.toInt64 &&& 63)
theorem nar_b {x : Int32} (h : x = 0 ∨ x = 1) : narrow .boolean (.int x) = .int x := by rcases h with rfl | rfl <;> decide
theorem fit_b {x : Int32} (h : x = 0 ∨ x = 1) : fits .boolean (.int x) = true := by rcases h with rfl | rfl <;> decide
theorem kdN {m : XM} {a b : Nat} {k k' : XKd} (ha : m.1 a = none) (hb : m.1 b = some k') : (mN m a k).1 b = some k' := by
  have : b ≠ a := fun e => by rw [e, ha] at hb; cases hb
  simp [mN, this, hb]
theorem kdNs (m : XM) (a : Nat) (k : XKd) : (mN m a k).1 a = some k := by simp [mN]
def wkL : List Bool → List (Option XV) → List (Option XV)
  | true :: b, v :: L => v :: wkL b L
  | false :: b, _ :: L => none :: wkL b L
  | _, _ => []
theorem wkL_at : ∀ (b : List Bool) (L : List (Option XV)) (j : Nat) (w : XV), (wkL b L)[j]? = some (some w) → L[j]? = some (some w)
  | [], L, j, w, h => by simp [wkL] at h
  | b :: bs, [], j, w, h => by cases b <;> simp [wkL] at h
  | true :: bs, v :: L, 0, w, h => by simpa [wkL] using h
  | true :: bs, v :: L, j + 1, w, h => by
    simp only [wkL, List.getElem?_cons_succ] at h ⊢
    exact wkL_at bs L j w h
  | false :: bs, v :: L, 0, w, h => by simp [wkL] at h
  | false :: bs, v :: L, j + 1, w, h => by
    simp only [wkL, List.getElem?_cons_succ] at h ⊢
    exact wkL_at bs L j w h
section XRows
variable {l : Launch} {G : xG} {M : xMt} {pc : Nat} {L : List (Option XV)} {st : List XV} {m : XM} {bc bs : Nat} {Q : XR → XM → Prop}
theorem x_iconst {i : Int} {v : Int32} (hd : decode M.2.1 pc = .ok (.iconst i, 1)) (hv : Int32.ofInt i = v) {n : Nat} (hn : pc + 1 = n) (k : WW l G M n L (vI v :: st) m bc bs Q) : WW l G M pc L (st) m bc bs Q := by
  subst hn
  intro p e s mid args below meth c hC H locs cells slots ls hW hS hL h1 h2
  exact lv_iconst hC.1 hC.2.1 hd hv (k p e s mid args below meth c hC H locs cells slots ls hW hS hL h1 h2)
theorem x_bipush {i : Int} {v : Int32} (hd : decode M.2.1 pc = .ok (.bipush i, 2)) (hv : (Int8.ofInt i).toInt32 = v) {n : Nat} (hn : pc + 2 = n) (k : WW l G M n L (vI v :: st) m bc bs Q) : WW l G M pc L (st) m bc bs Q := by
  subst hn
  intro p e s mid args below meth c hC H locs cells slots ls hW hS hL h1 h2
  exact lv_bipush hC.1 hC.2.1 hd hv (k p e s mid args below meth c hC H locs cells slots ls hW hS hL h1 h2)
theorem x_sipush {i : Int} {v : Int32} (hd : decode M.2.1 pc = .ok (.sipush i, 3)) (hv : (Int16.ofInt i).toInt32 = v) {n : Nat} (hn : pc + 3 = n) (k : WW l G M n L (vI v :: st) m bc bs Q) : WW l G M pc L (st) m bc bs Q := by
  subst hn
  intro p e s mid args below meth c hC H locs cells slots ls hW hS hL h1 h2
  exact lv_sipush hC.1 hC.2.1 hd hv (k p e s mid args below meth c hC H locs cells slots ls hW hS hL h1 h2)
theorem x_lconst {i : Fin 2} {v : Int64} (hd : decode M.2.1 pc = .ok (.lconst i, 1)) (hv : Int64.ofNat (i : Nat) = v) {n : Nat} (hn : pc + 1 = n) (k : WW l G M n L (vL v :: st) m bc bs Q) : WW l G M pc L (st) m bc bs Q := by
  subst hn
  intro p e s mid args below meth c hC H locs cells slots ls hW hS hL h1 h2
  exact lv_lconst hC.1 hC.2.1 hd hv (k p e s mid args below meth c hC H locs cells slots ls hW hS hL h1 h2)
theorem x_iload_n {i : Fin 4} {x : Int32} (hd : decode M.2.1 pc = .ok (.iload_n i, 1)) (hl : L[(i : Nat)]? = some (some (vI x))) {n : Nat} (hn : pc + 1 = n) (k : WW l G M n L (vI x :: st) m bc bs Q) : WW l G M pc L (st) m bc bs Q := by
  subst hn
  intro p e s mid args below meth c hC H locs cells slots ls hW hS hL h1 h2
  exact lv_iload_n hC.1 hC.2.1 hd rfl (hL.2.2 _ _ hl) (k p e s mid args below meth c hC H locs cells slots ls hW hS hL h1 h2)
theorem x_iload {i : Nat} {x : Int32} (hd : decode M.2.1 pc = .ok (.iload i, 2)) (hl : L[i]? = some (some (vI x))) {n : Nat} (hn : pc + 2 = n) (k : WW l G M n L (vI x :: st) m bc bs Q) : WW l G M pc L (st) m bc bs Q := by
  subst hn
  intro p e s mid args below meth c hC H locs cells slots ls hW hS hL h1 h2
  exact lv_iload hC.1 hC.2.1 hd (hL.2.2 _ _ hl) (k p e s mid args below meth c hC H locs cells slots ls hW hS hL h1 h2)
theorem x_lload_n {i : Fin 4} {x : Int64} (hd : decode M.2.1 pc = .ok (.lload_n i, 1)) (hl : L[(i : Nat)]? = some (some (vL x))) {n : Nat} (hn : pc + 1 = n) (k : WW l G M n L (vL x :: st) m bc bs Q) : WW l G M pc L (st) m bc bs Q := by
  subst hn
  intro p e s mid args below meth c hC H locs cells slots ls hW hS hL h1 h2
  exact lv_lload_n hC.1 hC.2.1 hd rfl (hL.2.2 _ _ hl) (k p e s mid args below meth c hC H locs cells slots ls hW hS hL h1 h2)
theorem x_lload {i : Nat} {x : Int64} (hd : decode M.2.1 pc = .ok (.lload i, 2)) (hl : L[i]? = some (some (vL x))) {n : Nat} (hn : pc + 2 = n) (k : WW l G M n L (vL x :: st) m bc bs Q) : WW l G M pc L (st) m bc bs Q := by
  subst hn
  intro p e s mid args below meth c hC H locs cells slots ls hW hS hL h1 h2
  exact lv_lload hC.1 hC.2.1 hd (hL.2.2 _ _ hl) (k p e s mid args below meth c hC H locs cells slots ls hW hS hL h1 h2)
theorem x_aload_n {i : Fin 4} {o : Option Nat} (hd : decode M.2.1 pc = .ok (.aload_n i, 1)) (hl : L[(i : Nat)]? = some (some (vR o))) {n : Nat} (hn : pc + 1 = n) (k : WW l G M n L (vR o :: st) m bc bs Q) : WW l G M pc L st m bc bs Q := by
  subst hn
  intro p e s mid args below meth c hC H locs cells slots ls hW hS hL h1 h2
  have hh := hL.2.2 _ _ hl
  cases o with
  | none => exact lv_aload_nN hC.1 hC.2.1 hd rfl hh (k p e s mid args below meth c hC H locs cells slots ls hW hS hL h1 h2)
  | some a => exact lv_aload_n hC.1 hC.2.1 hd rfl hh (k p e s mid args below meth c hC H locs cells slots ls hW hS hL h1 h2)
theorem x_aload {i : Nat} {o : Option Nat} (hd : decode M.2.1 pc = .ok (.aload i, 2)) (hl : L[(i : Nat)]? = some (some (vR o))) {n : Nat} (hn : pc + 2 = n) (k : WW l G M n L (vR o :: st) m bc bs Q) : WW l G M pc L st m bc bs Q := by
  subst hn
  intro p e s mid args below meth c hC H locs cells slots ls hW hS hL h1 h2
  have hh := hL.2.2 _ _ hl
  cases o with
  | none => exact lv_aloadN hC.1 hC.2.1 hd hh (k p e s mid args below meth c hC H locs cells slots ls hW hS hL h1 h2)
  | some a => exact lv_aload hC.1 hC.2.1 hd hh (k p e s mid args below meth c hC H locs cells slots ls hW hS hL h1 h2)
theorem x_istore_n {i : Fin 4} {x : Int32} (hd : decode M.2.1 pc = .ok (.istore_n i, 1)) {L' : List (Option XV)} (hi : (i : Nat) < M.2.2.1) (hl : xst1 L (i : Nat) (vI x) = L') {n : Nat} (hn : pc + 1 = n) (k : WW l G M n L' st m bc bs Q) : WW l G M pc L (vI x :: st) m bc bs Q := by
  subst hn; subst hl
  intro p e s mid args below meth c hC H locs cells slots ls hW hS hL h1 h2
  exact lv_istore_n hC.1 hC.2.1 hd rfl (lh_has hL) hi rfl fun ls' h' => k p e s mid args below meth c hC H locs cells slots ls' hW hS (lh_of1 (v := vI x) h') h1 h2
theorem x_lstore_n {i : Fin 4} {x : Int64} (hd : decode M.2.1 pc = .ok (.lstore_n i, 1)) {L' : List (Option XV)} (hi : (i : Nat) + 1 < M.2.2.1) (hl : xst2 L (i : Nat) (vL x) = L') {n : Nat} (hn : pc + 1 = n) (k : WW l G M n L' st m bc bs Q) : WW l G M pc L (vL x :: st) m bc bs Q := by
  subst hn; subst hl
  intro p e s mid args below meth c hC H locs cells slots ls hW hS hL h1 h2
  exact lv_lstore_n hC.1 hC.2.1 hd rfl (lh_has hL) hi rfl fun ls' h' => k p e s mid args below meth c hC H locs cells slots ls' hW hS (lh_of2 (v := vL x) h') h1 h2
theorem x_astore_n {i : Fin 4} {o : Option Nat} (hd : decode M.2.1 pc = .ok (.astore_n i, 1)) {L' : List (Option XV)} (hi : (i : Nat) < M.2.2.1) (hl : xst1 L (i : Nat) (vR o) = L') {n : Nat} (hn : pc + 1 = n) (k : WW l G M n L' st m bc bs Q) : WW l G M pc L (vR o :: st) m bc bs Q := by
  subst hn; subst hl
  intro p e s mid args below meth c hC H locs cells slots ls hW hS hL h1 h2
  cases o with
  | none => exact lv_astore_nN hC.1 hC.2.1 hd rfl (lh_has hL) hi rfl fun ls' h' => k p e s mid args below meth c hC H locs cells slots ls' hW hS (lh_of1 (v := vR none) h') h1 h2
  | some a => exact lv_astore_n hC.1 hC.2.1 hd rfl (lh_has hL) hi rfl fun ls' h' => k p e s mid args below meth c hC H locs cells slots ls' hW hS (lh_of1 (v := vR (some a)) h') h1 h2
theorem x_istore {i : Nat} {x : Int32} (hd : decode M.2.1 pc = .ok (.istore i, 2)) {L' : List (Option XV)} (hi : (i : Nat) < M.2.2.1) (hl : xst1 L (i : Nat) (vI x) = L') {n : Nat} (hn : pc + 2 = n) (k : WW l G M n L' st m bc bs Q) : WW l G M pc L (vI x :: st) m bc bs Q := by
  subst hn; subst hl
  intro p e s mid args below meth c hC H locs cells slots ls hW hS hL h1 h2
  exact lv_istore hC.1 hC.2.1 hd (lh_has hL) hi rfl fun ls' h' => k p e s mid args below meth c hC H locs cells slots ls' hW hS (lh_of1 (v := vI x) h') h1 h2
theorem x_lstore {i : Nat} {x : Int64} (hd : decode M.2.1 pc = .ok (.lstore i, 2)) {L' : List (Option XV)} (hi : (i : Nat) + 1 < M.2.2.1) (hl : xst2 L (i : Nat) (vL x) = L') {n : Nat} (hn : pc + 2 = n) (k : WW l G M n L' st m bc bs Q) : WW l G M pc L (vL x :: st) m bc bs Q := by
  subst hn; subst hl
  intro p e s mid args below meth c hC H locs cells slots ls hW hS hL h1 h2
  exact lv_lstore hC.1 hC.2.1 hd (lh_has hL) hi rfl fun ls' h' => k p e s mid args below meth c hC H locs cells slots ls' hW hS (lh_of2 (v := vL x) h') h1 h2
theorem x_astore {i : Nat} {o : Option Nat} (hd : decode M.2.1 pc = .ok (.astore i, 2)) {L' : List (Option XV)} (hi : (i : Nat) < M.2.2.1) (hl : xst1 L (i : Nat) (vR o) = L') {n : Nat} (hn : pc + 2 = n) (k : WW l G M n L' st m bc bs Q) : WW l G M pc L (vR o :: st) m bc bs Q := by
  subst hn; subst hl
  intro p e s mid args below meth c hC H locs cells slots ls hW hS hL h1 h2
  cases o with
  | none => exact lv_astoreN hC.1 hC.2.1 hd (lh_has hL) hi rfl fun ls' h' => k p e s mid args below meth c hC H locs cells slots ls' hW hS (lh_of1 (v := vR none) h') h1 h2
  | some a => exact lv_astore hC.1 hC.2.1 hd (lh_has hL) hi rfl fun ls' h' => k p e s mid args below meth c hC H locs cells slots ls' hW hS (lh_of1 (v := vR (some a)) h') h1 h2
theorem x_iinc {i : Nat} {j : Int} {x v : Int32} (hd : decode M.2.1 pc = .ok (.iinc i j, 3)) (hx : L[i]? = some (some (vI x))) (hv : x + Int32.ofInt j = v) {L' : List (Option XV)} (hi : i < M.2.2.1) (hl : xst1 L i (vI v) = L') {n : Nat} (hn : pc + 3 = n) (k : WW l G M n L' st m bc bs Q) : WW l G M pc L st m bc bs Q := by
  subst hn; subst hl
  intro p e s mid args below meth c hC H locs cells slots ls hW hS hL h1 h2
  obtain ⟨q, hq⟩ := List.getElem?_of_mem (asl_mem.mpr ⟨vI x, hx, rfl⟩)
  exact lv_iinc (k := q) hC.1 hC.2.1 hd (lh_has hL) hq hv hi rfl fun ls' h' => k p e s mid args below meth c hC H locs cells slots ls' hW hS (lh_of1 (v := vI v) h') h1 h2
theorem x_iadd {x y : Int32} (hd : decode M.2.1 pc = .ok (.iadd, 1)) {n : Nat} (hn : pc + 1 = n) (k : WW l G M n L (vI (x + y) :: st) m bc bs Q) : WW l G M pc L (vI y :: vI x :: st) m bc bs Q := by
  subst hn
  intro p e s mid args below meth c hC H locs cells slots ls hW hS hL h1 h2
  exact lv_iadd hC.1 hC.2.1 hd  (k p e s mid args below meth c hC H locs cells slots ls hW hS hL h1 h2)
theorem x_isub {x y : Int32} (hd : decode M.2.1 pc = .ok (.isub, 1)) {n : Nat} (hn : pc + 1 = n) (k : WW l G M n L (vI (x - y) :: st) m bc bs Q) : WW l G M pc L (vI y :: vI x :: st) m bc bs Q := by
  subst hn
  intro p e s mid args below meth c hC H locs cells slots ls hW hS hL h1 h2
  exact lv_isub hC.1 hC.2.1 hd  (k p e s mid args below meth c hC H locs cells slots ls hW hS hL h1 h2)
theorem x_imul {x y : Int32} (hd : decode M.2.1 pc = .ok (.imul, 1)) {n : Nat} (hn : pc + 1 = n) (k : WW l G M n L (vI (x * y) :: st) m bc bs Q) : WW l G M pc L (vI y :: vI x :: st) m bc bs Q := by
  subst hn
  intro p e s mid args below meth c hC H locs cells slots ls hW hS hL h1 h2
  exact lv_imul hC.1 hC.2.1 hd  (k p e s mid args below meth c hC H locs cells slots ls hW hS hL h1 h2)
theorem x_iand {x y : Int32} (hd : decode M.2.1 pc = .ok (.iand, 1)) {n : Nat} (hn : pc + 1 = n) (k : WW l G M n L (vI (x &&& y) :: st) m bc bs Q) : WW l G M pc L (vI y :: vI x :: st) m bc bs Q := by
  subst hn
  intro p e s mid args below meth c hC H locs cells slots ls hW hS hL h1 h2
  exact lv_iand hC.1 hC.2.1 hd  (k p e s mid args below meth c hC H locs cells slots ls hW hS hL h1 h2)
theorem x_idiv {x y : Int32} (hd : decode M.2.1 pc = .ok (.idiv, 1)) (hy : ¬ y = 0) {n : Nat} (hn : pc + 1 = n) (k : WW l G M n L (vI (x / y) :: st) m bc bs Q) : WW l G M pc L (vI y :: vI x :: st) m bc bs Q := by
  subst hn
  intro p e s mid args below meth c hC H locs cells slots ls hW hS hL h1 h2
  exact lv_idiv hC.1 hC.2.1 hd hy (k p e s mid args below meth c hC H locs cells slots ls hW hS hL h1 h2)
theorem x_irem {x y : Int32} (hd : decode M.2.1 pc = .ok (.irem, 1)) (hy : ¬ y = 0) {n : Nat} (hn : pc + 1 = n) (k : WW l G M n L (vI (x - x / y * y) :: st) m bc bs Q) : WW l G M pc L (vI y :: vI x :: st) m bc bs Q := by
  subst hn
  intro p e s mid args below meth c hC H locs cells slots ls hW hS hL h1 h2
  exact lv_irem hC.1 hC.2.1 hd hy (k p e s mid args below meth c hC H locs cells slots ls hW hS hL h1 h2)
theorem x_lmul {x y : Int64} (hd : decode M.2.1 pc = .ok (.lmul, 1)) {n : Nat} (hn : pc + 1 = n) (k : WW l G M n L (vL (x * y) :: st) m bc bs Q) : WW l G M pc L (vL y :: vL x :: st) m bc bs Q := by
  subst hn
  intro p e s mid args below meth c hC H locs cells slots ls hW hS hL h1 h2
  exact lv_lmul hC.1 hC.2.1 hd  (k p e s mid args below meth c hC H locs cells slots ls hW hS hL h1 h2)
theorem x_land {x y : Int64} (hd : decode M.2.1 pc = .ok (.land, 1)) {n : Nat} (hn : pc + 1 = n) (k : WW l G M n L (vL (x &&& y) :: st) m bc bs Q) : WW l G M pc L (vL y :: vL x :: st) m bc bs Q := by
  subst hn
  intro p e s mid args below meth c hC H locs cells slots ls hW hS hL h1 h2
  exact lv_land hC.1 hC.2.1 hd  (k p e s mid args below meth c hC H locs cells slots ls hW hS hL h1 h2)
theorem x_lor {x y : Int64} (hd : decode M.2.1 pc = .ok (.lor, 1)) {n : Nat} (hn : pc + 1 = n) (k : WW l G M n L (vL (x ||| y) :: st) m bc bs Q) : WW l G M pc L (vL y :: vL x :: st) m bc bs Q := by
  subst hn
  intro p e s mid args below meth c hC H locs cells slots ls hW hS hL h1 h2
  exact lv_lor hC.1 hC.2.1 hd  (k p e s mid args below meth c hC H locs cells slots ls hW hS hL h1 h2)
theorem x_lxor {x y : Int64} (hd : decode M.2.1 pc = .ok (.lxor, 1)) {n : Nat} (hn : pc + 1 = n) (k : WW l G M n L (vL (x ^^^ y) :: st) m bc bs Q) : WW l G M pc L (vL y :: vL x :: st) m bc bs Q := by
  subst hn
  intro p e s mid args below meth c hC H locs cells slots ls hW hS hL h1 h2
  exact lv_lxor hC.1 hC.2.1 hd  (k p e s mid args below meth c hC H locs cells slots ls hW hS hL h1 h2)
theorem x_lushr {x : Int64} {y : Int32} (hd : decode M.2.1 pc = .ok (.lushr, 1)) {n : Nat} (hn : pc + 1 = n) (k : WW l G M n L (vL (jushr x y) :: st) m bc bs Q) : WW l G M pc L (vI y :: vL x :: st) m bc bs Q := by
  subst hn
  intro p e s mid args below meth c hC H locs cells slots ls hW hS hL h1 h2
  exact lv_lushr hC.1 hC.2.1 hd rfl (k p e s mid args below meth c hC H locs cells slots ls hW hS hL h1 h2)
theorem x_lshl {x : Int64} {y : Int32} (hd : decode M.2.1 pc = .ok (.lshl, 1)) {n : Nat} (hn : pc + 1 = n) (k : WW l G M n L (vL (jshl x y) :: st) m bc bs Q) : WW l G M pc L (vI y :: vL x :: st) m bc bs Q := by
  subst hn
  intro p e s mid args below meth c hC H locs cells slots ls hW hS hL h1 h2
  exact lv_lshl hC.1 hC.2.1 hd rfl (k p e s mid args below meth c hC H locs cells slots ls hW hS hL h1 h2)
theorem x_lshr {x : Int64} {y : Int32} (hd : decode M.2.1 pc = .ok (.lshr, 1)) {n : Nat} (hn : pc + 1 = n) (k : WW l G M n L (vL (jshr x y) :: st) m bc bs Q) : WW l G M pc L (vI y :: vL x :: st) m bc bs Q := by
  subst hn
  intro p e s mid args below meth c hC H locs cells slots ls hW hS hL h1 h2
  exact lv_lshr hC.1 hC.2.1 hd rfl (k p e s mid args below meth c hC H locs cells slots ls hW hS hL h1 h2)
theorem x_i2l {x : Int32} (hd : decode M.2.1 pc = .ok (.i2l, 1)) {n : Nat} (hn : pc + 1 = n) (k : WW l G M n L (vL x.toInt64 :: st) m bc bs Q) : WW l G M pc L (vI x :: st) m bc bs Q := by
  subst hn
  intro p e s mid args below meth c hC H locs cells slots ls hW hS hL h1 h2
  exact lv_i2l hC.1 hC.2.1 hd rfl (k p e s mid args below meth c hC H locs cells slots ls hW hS hL h1 h2)
theorem x_l2i {x : Int64} (hd : decode M.2.1 pc = .ok (.l2i, 1)) {n : Nat} (hn : pc + 1 = n) (k : WW l G M n L (vI x.toInt32 :: st) m bc bs Q) : WW l G M pc L (vL x :: st) m bc bs Q := by
  subst hn
  intro p e s mid args below meth c hC H locs cells slots ls hW hS hL h1 h2
  exact lv_l2i hC.1 hC.2.1 hd rfl (k p e s mid args below meth c hC H locs cells slots ls hW hS hL h1 h2)
theorem x_lcmp {x y : Int64} (hd : decode M.2.1 pc = .ok (.lcmp, 1)) {n : Nat} (hn : pc + 1 = n) (k : WW l G M n L (vI (lg_cmp x y) :: st) m bc bs Q) : WW l G M pc L (vL y :: vL x :: st) m bc bs Q := by
  subst hn
  intro p e s mid args below meth c hC H locs cells slots ls hW hS hL h1 h2
  exact W.lcmp hC.1 hC.2.1 hd  (k p e s mid args below meth c hC H locs cells slots ls hW hS hL h1 h2)
theorem x_pop {x : XV} (hd : decode M.2.1 pc = .ok (.pop, 1)) (hx : isL x = false) {n : Nat} (hn : pc + 1 = n) (k : WW l G M n L (st) m bc bs Q) : WW l G M pc L (x :: st) m bc bs Q := by
  subst hn
  intro p e s mid args below meth c hC H locs cells slots ls hW hS hL h1 h2
  exact lv_pop hC.1 hC.2.1 hd (by rw [toV_cat, hx]; rfl) (k p e s mid args below meth c hC H locs cells slots ls hW hS hL h1 h2)
theorem x_dup {x : XV} (hd : decode M.2.1 pc = .ok (.dup, 1)) (hx : isL x = false) {n : Nat} (hn : pc + 1 = n) (k : WW l G M n L (x :: x :: st) m bc bs Q) : WW l G M pc L (x :: st) m bc bs Q := by
  subst hn
  intro p e s mid args below meth c hC H locs cells slots ls hW hS hL h1 h2
  exact lv_dup hC.1 hC.2.1 hd (by rw [toV_cat, hx]; rfl) (k p e s mid args below meth c hC H locs cells slots ls hW hS hL h1 h2)
theorem x_dup2 {x y : XV} (hd : decode M.2.1 pc = .ok (.dup2, 1)) (hx : isL x = false) (hy : isL y = false) {n : Nat} (hn : pc + 1 = n) (k : WW l G M n L (x :: y :: x :: y :: st) m bc bs Q) : WW l G M pc L (x :: y :: st) m bc bs Q := by
  subst hn
  intro p e s mid args below meth c hC H locs cells slots ls hW hS hL h1 h2
  exact lv_dup2_11 hC.1 hC.2.1 hd (by rw [toV_cat, hx]; rfl) (by rw [toV_cat, hy]; rfl) (k p e s mid args below meth c hC H locs cells slots ls hW hS hL h1 h2)
theorem x_dup_x1 {x y : XV} (hd : decode M.2.1 pc = .ok (.dup_x1, 1)) (hx : isL x = false) (hy : isL y = false) {n : Nat} (hn : pc + 1 = n) (k : WW l G M n L (x :: y :: x :: st) m bc bs Q) : WW l G M pc L (x :: y :: st) m bc bs Q := by
  subst hn
  intro p e s mid args below meth c hC H locs cells slots ls hW hS hL h1 h2
  exact lv_dup_x1 hC.1 hC.2.1 hd (by rw [toV_cat, hx]; rfl) (by rw [toV_cat, hy]; rfl) (k p e s mid args below meth c hC H locs cells slots ls hW hS hL h1 h2)
theorem x_null (hd : decode M.2.1 pc = .ok (.aconst_null, 1)) {n : Nat} (hn : pc + 1 = n) (k : WW l G M n L (vR none :: st) m bc bs Q) : WW l G M pc L (st) m bc bs Q := by
  subst hn
  intro p e s mid args below meth c hC H locs cells slots ls hW hS hL h1 h2
  exact lv_null hC.1 hC.2.1 hd  (k p e s mid args below meth c hC H locs cells slots ls hW hS hL h1 h2)
theorem x_ldc {i : Nat} {v : Int32} (hd : decode M.2.1 pc = .ok (.ldc i, 2)) (hw : Cond.constant M.1.cls i v ∈ WS) {n : Nat} (hn : pc + 2 = n) (k : WW l G M n L (vI v :: st) m bc bs Q) : WW l G M pc L (st) m bc bs Q := by
  subst hn
  intro p e s mid args below meth c hC H locs cells slots ls hW hS hL h1 h2
  exact (fun h1 h2 h3 h4 => lv_ldc (own := M.1.cls) h1 h2 hC.2.2.2.1 (hC.2.2.2.2.1 _ hw) h3 h4) hC.1 hC.2.1 hd  (k p e s mid args below meth c hC H locs cells slots ls hW hS hL h1 h2)
theorem x_ldc2 {i : Nat} {v : Int64} (hd : decode M.2.1 pc = .ok (.ldc2_w i, 3)) (hw : Cond.constantLong M.1.cls i v ∈ WS) {n : Nat} (hn : pc + 3 = n) (k : WW l G M n L (vL v :: st) m bc bs Q) : WW l G M pc L (st) m bc bs Q := by
  subst hn
  intro p e s mid args below meth c hC H locs cells slots ls hW hS hL h1 h2
  exact (fun h1 h2 h3 h4 => lv_ldc2 (own := M.1.cls) h1 h2 hC.2.2.2.1 (hC.2.2.2.2.1 _ hw) h3 h4) hC.1 hC.2.1 hd  (k p e s mid args below meth c hC H locs cells slots ls hW hS hL h1 h2)
theorem x_if_eq {x : Int32} {off : Int} {tgt : Nat} (hd : decode M.2.1 pc = .ok (.ifCond .eq off, 3)) (ht : (pc : Int) + off = (tgt : Int)) {n : Nat} (hn : pc + 3 = n) (kt : x = 0 → WW l G M tgt L st m bc bs Q) (kf : ¬ x = 0 → WW l G M n L st m bc bs Q) : WW l G M pc L (vI x :: st) m bc bs Q := by
  subst hn
  intro p e s mid args below meth c hC H locs cells slots ls hW hS hL h1 h2
  exact lv_if_eq hC.1 hC.2.1 hd ht (fun hp => kt hp p e s mid args below meth c hC H locs cells slots ls hW hS hL h1 h2) (fun hp => kf hp p e s mid args below meth c hC H locs cells slots ls hW hS hL h1 h2)
theorem x_icmp_eq {x y : Int32} {off : Int} {tgt : Nat} (hd : decode M.2.1 pc = .ok (.if_icmp .eq off, 3)) (ht : (pc : Int) + off = (tgt : Int)) {n : Nat} (hn : pc + 3 = n) (kt : x = y → WW l G M tgt L st m bc bs Q) (kf : ¬ x = y → WW l G M n L st m bc bs Q) : WW l G M pc L (vI y :: vI x :: st) m bc bs Q := by
  subst hn
  intro p e s mid args below meth c hC H locs cells slots ls hW hS hL h1 h2
  exact lv_icmp_eq hC.1 hC.2.1 hd ht (fun hp => kt hp p e s mid args below meth c hC H locs cells slots ls hW hS hL h1 h2) (fun hp => kf hp p e s mid args below meth c hC H locs cells slots ls hW hS hL h1 h2)
theorem x_if_ne {x : Int32} {off : Int} {tgt : Nat} (hd : decode M.2.1 pc = .ok (.ifCond .ne off, 3)) (ht : (pc : Int) + off = (tgt : Int)) {n : Nat} (hn : pc + 3 = n) (kt : ¬ x = 0 → WW l G M tgt L st m bc bs Q) (kf : x = 0 → WW l G M n L st m bc bs Q) : WW l G M pc L (vI x :: st) m bc bs Q := by
  subst hn
  intro p e s mid args below meth c hC H locs cells slots ls hW hS hL h1 h2
  exact lv_if_ne hC.1 hC.2.1 hd ht (fun hp => kt hp p e s mid args below meth c hC H locs cells slots ls hW hS hL h1 h2) (fun hp => kf hp p e s mid args below meth c hC H locs cells slots ls hW hS hL h1 h2)
theorem x_icmp_ne {x y : Int32} {off : Int} {tgt : Nat} (hd : decode M.2.1 pc = .ok (.if_icmp .ne off, 3)) (ht : (pc : Int) + off = (tgt : Int)) {n : Nat} (hn : pc + 3 = n) (kt : ¬ x = y → WW l G M tgt L st m bc bs Q) (kf : x = y → WW l G M n L st m bc bs Q) : WW l G M pc L (vI y :: vI x :: st) m bc bs Q := by
  subst hn
  intro p e s mid args below meth c hC H locs cells slots ls hW hS hL h1 h2
  exact lv_icmp_ne hC.1 hC.2.1 hd ht (fun hp => kt hp p e s mid args below meth c hC H locs cells slots ls hW hS hL h1 h2) (fun hp => kf hp p e s mid args below meth c hC H locs cells slots ls hW hS hL h1 h2)
theorem x_if_lt {x : Int32} {off : Int} {tgt : Nat} (hd : decode M.2.1 pc = .ok (.ifCond .lt off, 3)) (ht : (pc : Int) + off = (tgt : Int)) {n : Nat} (hn : pc + 3 = n) (kt : x < 0 → WW l G M tgt L st m bc bs Q) (kf : ¬ x < 0 → WW l G M n L st m bc bs Q) : WW l G M pc L (vI x :: st) m bc bs Q := by
  subst hn
  intro p e s mid args below meth c hC H locs cells slots ls hW hS hL h1 h2
  exact lv_if_lt hC.1 hC.2.1 hd ht (fun hp => kt hp p e s mid args below meth c hC H locs cells slots ls hW hS hL h1 h2) (fun hp => kf hp p e s mid args below meth c hC H locs cells slots ls hW hS hL h1 h2)
theorem x_icmp_lt {x y : Int32} {off : Int} {tgt : Nat} (hd : decode M.2.1 pc = .ok (.if_icmp .lt off, 3)) (ht : (pc : Int) + off = (tgt : Int)) {n : Nat} (hn : pc + 3 = n) (kt : x < y → WW l G M tgt L st m bc bs Q) (kf : ¬ x < y → WW l G M n L st m bc bs Q) : WW l G M pc L (vI y :: vI x :: st) m bc bs Q := by
  subst hn
  intro p e s mid args below meth c hC H locs cells slots ls hW hS hL h1 h2
  exact lv_icmp_lt hC.1 hC.2.1 hd ht (fun hp => kt hp p e s mid args below meth c hC H locs cells slots ls hW hS hL h1 h2) (fun hp => kf hp p e s mid args below meth c hC H locs cells slots ls hW hS hL h1 h2)
theorem x_if_ge {x : Int32} {off : Int} {tgt : Nat} (hd : decode M.2.1 pc = .ok (.ifCond .ge off, 3)) (ht : (pc : Int) + off = (tgt : Int)) {n : Nat} (hn : pc + 3 = n) (kt : 0 ≤ x → WW l G M tgt L st m bc bs Q) (kf : ¬ 0 ≤ x → WW l G M n L st m bc bs Q) : WW l G M pc L (vI x :: st) m bc bs Q := by
  subst hn
  intro p e s mid args below meth c hC H locs cells slots ls hW hS hL h1 h2
  exact lv_if_ge hC.1 hC.2.1 hd ht (fun hp => kt hp p e s mid args below meth c hC H locs cells slots ls hW hS hL h1 h2) (fun hp => kf hp p e s mid args below meth c hC H locs cells slots ls hW hS hL h1 h2)
theorem x_icmp_ge {x y : Int32} {off : Int} {tgt : Nat} (hd : decode M.2.1 pc = .ok (.if_icmp .ge off, 3)) (ht : (pc : Int) + off = (tgt : Int)) {n : Nat} (hn : pc + 3 = n) (kt : y ≤ x → WW l G M tgt L st m bc bs Q) (kf : ¬ y ≤ x → WW l G M n L st m bc bs Q) : WW l G M pc L (vI y :: vI x :: st) m bc bs Q := by
  subst hn
  intro p e s mid args below meth c hC H locs cells slots ls hW hS hL h1 h2
  exact lv_icmp_ge hC.1 hC.2.1 hd ht (fun hp => kt hp p e s mid args below meth c hC H locs cells slots ls hW hS hL h1 h2) (fun hp => kf hp p e s mid args below meth c hC H locs cells slots ls hW hS hL h1 h2)
theorem x_if_gt {x : Int32} {off : Int} {tgt : Nat} (hd : decode M.2.1 pc = .ok (.ifCond .gt off, 3)) (ht : (pc : Int) + off = (tgt : Int)) {n : Nat} (hn : pc + 3 = n) (kt : 0 < x → WW l G M tgt L st m bc bs Q) (kf : ¬ 0 < x → WW l G M n L st m bc bs Q) : WW l G M pc L (vI x :: st) m bc bs Q := by
  subst hn
  intro p e s mid args below meth c hC H locs cells slots ls hW hS hL h1 h2
  exact lv_if_gt hC.1 hC.2.1 hd ht (fun hp => kt hp p e s mid args below meth c hC H locs cells slots ls hW hS hL h1 h2) (fun hp => kf hp p e s mid args below meth c hC H locs cells slots ls hW hS hL h1 h2)
theorem x_icmp_gt {x y : Int32} {off : Int} {tgt : Nat} (hd : decode M.2.1 pc = .ok (.if_icmp .gt off, 3)) (ht : (pc : Int) + off = (tgt : Int)) {n : Nat} (hn : pc + 3 = n) (kt : y < x → WW l G M tgt L st m bc bs Q) (kf : ¬ y < x → WW l G M n L st m bc bs Q) : WW l G M pc L (vI y :: vI x :: st) m bc bs Q := by
  subst hn
  intro p e s mid args below meth c hC H locs cells slots ls hW hS hL h1 h2
  exact lv_icmp_gt hC.1 hC.2.1 hd ht (fun hp => kt hp p e s mid args below meth c hC H locs cells slots ls hW hS hL h1 h2) (fun hp => kf hp p e s mid args below meth c hC H locs cells slots ls hW hS hL h1 h2)
theorem x_if_le {x : Int32} {off : Int} {tgt : Nat} (hd : decode M.2.1 pc = .ok (.ifCond .le off, 3)) (ht : (pc : Int) + off = (tgt : Int)) {n : Nat} (hn : pc + 3 = n) (kt : x ≤ 0 → WW l G M tgt L st m bc bs Q) (kf : ¬ x ≤ 0 → WW l G M n L st m bc bs Q) : WW l G M pc L (vI x :: st) m bc bs Q := by
  subst hn
  intro p e s mid args below meth c hC H locs cells slots ls hW hS hL h1 h2
  exact lv_if_le hC.1 hC.2.1 hd ht (fun hp => kt hp p e s mid args below meth c hC H locs cells slots ls hW hS hL h1 h2) (fun hp => kf hp p e s mid args below meth c hC H locs cells slots ls hW hS hL h1 h2)
theorem x_icmp_le {x y : Int32} {off : Int} {tgt : Nat} (hd : decode M.2.1 pc = .ok (.if_icmp .le off, 3)) (ht : (pc : Int) + off = (tgt : Int)) {n : Nat} (hn : pc + 3 = n) (kt : x ≤ y → WW l G M tgt L st m bc bs Q) (kf : ¬ x ≤ y → WW l G M n L st m bc bs Q) : WW l G M pc L (vI y :: vI x :: st) m bc bs Q := by
  subst hn
  intro p e s mid args below meth c hC H locs cells slots ls hW hS hL h1 h2
  exact lv_icmp_le hC.1 hC.2.1 hd ht (fun hp => kt hp p e s mid args below meth c hC H locs cells slots ls hW hS hL h1 h2) (fun hp => kf hp p e s mid args below meth c hC H locs cells slots ls hW hS hL h1 h2)
theorem x_weak {b : List Bool} {L' : List (Option XV)} (hb : wkL b L = L') (k : WW l G M pc L' st m bc bs Q) : WW l G M pc L st m bc bs Q := by
  subst hb
  intro p e s mid args below meth c hC H locs cells slots ls hW hS hL h1 h2
  exact k p e s mid args below meth c hC H locs cells slots ls hW hS ⟨hL.1, hL.2.1, fun j w hw => hL.2.2 j w (wkL_at b L j w hw)⟩ h1 h2
theorem x_goto {off : Int} {tgt : Nat} (hd : decode M.2.1 pc = .ok (.goto off, 3)) (ht : (pc : Int) + off = (tgt : Int)) (k : WW l G M tgt L st m bc bs Q) : WW l G M pc L st m bc bs Q := by
  intro p e s mid args below meth c hC H locs cells slots ls hW hS hL h1 h2
  exact lv_goto hC.1 hC.2.1 hd ht (k p e s mid args below meth c hC H locs cells slots ls hW hS hL h1 h2)
theorem x_ifnull {o : Option Nat} {off : Int} {tgt : Nat} (hd : decode M.2.1 pc = .ok (.ifnull off, 3)) (ht : (pc : Int) + off = (tgt : Int)) {n : Nat} (hn : pc + 3 = n) (kt : o = none → WW l G M tgt L st m bc bs Q) (kf : ∀ a, o = some a → WW l G M n L st m bc bs Q) : WW l G M pc L (vR o :: st) m bc bs Q := by
  subst hn
  intro p e s mid args below meth c hC H locs cells slots ls hW hS hL h1 h2
  cases o with
  | none => exact lv_ifnullN hC.1 hC.2.1 hd ht (kt rfl p e s mid args below meth c hC H locs cells slots ls hW hS hL h1 h2)
  | some a => exact lv_ifnull hC.1 hC.2.1 hd (kf a rfl p e s mid args below meth c hC H locs cells slots ls hW hS hL h1 h2)
theorem x_ifnonnull {o : Option Nat} {off : Int} {tgt : Nat} (hd : decode M.2.1 pc = .ok (.ifnonnull off, 3)) (ht : (pc : Int) + off = (tgt : Int)) {n : Nat} (hn : pc + 3 = n) (kt : ∀ a, o = some a → WW l G M tgt L st m bc bs Q) (kf : o = none → WW l G M n L st m bc bs Q) : WW l G M pc L (vR o :: st) m bc bs Q := by
  subst hn
  intro p e s mid args below meth c hC H locs cells slots ls hW hS hL h1 h2
  cases o with
  | none => exact lv_ifnonnullN hC.1 hC.2.1 hd (kf rfl p e s mid args below meth c hC H locs cells slots ls hW hS hL h1 h2)
  | some a => exact lv_ifnonnull hC.1 hC.2.1 hd ht (kt a rfl p e s mid args below meth c hC H locs cells slots ls hW hS hL h1 h2)
theorem x_tableOut {dflt lo hi : Int} {offs : Array Int} {len : Nat} {x : Int32} {tgt : Nat} (hd : decode M.2.1 pc = .ok (.tableswitch dflt lo hi offs, len)) (h : x.toInt < lo ∨ hi < x.toInt) (ht : (pc : Int) + dflt = (tgt : Int)) (k : WW l G M tgt L st m bc bs Q) : WW l G M pc L (vI x :: st) m bc bs Q := by
  intro p e s mid args below meth c hC H locs cells slots ls hW hS hL h1 h2
  exact lv_tableOut hC.1 hC.2.1 hd h ht (k p e s mid args below meth c hC H locs cells slots ls hW hS hL h1 h2)
theorem x_tableIn {dflt lo hi : Int} {offs : Array Int} {len : Nat} {x : Int32} {off : Int} {tgt : Nat} (hd : decode M.2.1 pc = .ok (.tableswitch dflt lo hi offs, len)) (g1 : ¬ x.toInt < lo) (g2 : ¬ hi < x.toInt) (ho : offs[(x.toInt - lo).toNat]? = some off) (ht : (pc : Int) + off = (tgt : Int)) (k : WW l G M tgt L st m bc bs Q) : WW l G M pc L (vI x :: st) m bc bs Q := by
  intro p e s mid args below meth c hC H locs cells slots ls hW hS hL h1 h2
  exact lv_tableIn hC.1 hC.2.1 hd g1 g2 ho ht (k p e s mid args below meth c hC H locs cells slots ls hW hS hL h1 h2)
end XRows
