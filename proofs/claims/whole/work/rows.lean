section
-- ===== PART A: goes FIRST, ahead of the names: the tables' words, and 'selects' of the private methods out of them =====
/-- a private method of a class that the tables say can be made, by its rows of tables_1 -/
def lw_okq (q : MethodName × Nat) : Prop := (q.1.cls ≠ "java/lang/invoke/MethodHandle" ∧ q.1.cls ≠ "java/lang/invoke/VarHandle") ∧ Cond.instantiable q.1.cls q.2 ∈ tables_1 ∧ Cond.privateMethod q.1 ∈ tables_1 ∧ Cond.instanceMethod q.1 ∈ tables_1
theorem lw_p0 : lw_okq (⟨"java/lang/Throwable", "fillInStackTrace", "(I)Ljava/lang/Throwable;"⟩, 6) := ⟨⟨by decide +kernel, by decide +kernel⟩, List.mem_of_getElem? (i := 188) (by decide +kernel), List.mem_of_getElem? (i := 186) (by decide +kernel), List.mem_of_getElem? (i := 187) (by decide +kernel)⟩
theorem lw_p1 : lw_okq (⟨"TinyCache", "refuseWhenClosed", "()V"⟩, 8) := ⟨⟨by decide +kernel, by decide +kernel⟩, List.mem_of_getElem? (i := 17) (by decide +kernel), List.mem_of_getElem? (i := 222) (by decide +kernel), List.mem_of_getElem? (i := 223) (by decide +kernel)⟩
theorem lw_p2 : lw_okq (⟨"TinyCache", "writeOpenPage", "()V"⟩, 8) := ⟨⟨by decide +kernel, by decide +kernel⟩, List.mem_of_getElem? (i := 17) (by decide +kernel), List.mem_of_getElem? (i := 326) (by decide +kernel), List.mem_of_getElem? (i := 327) (by decide +kernel)⟩
theorem lw_p3 : lw_okq (⟨"TinyCache", "emptySegment", "()I"⟩, 8) := ⟨⟨by decide +kernel, by decide +kernel⟩, List.mem_of_getElem? (i := 17) (by decide +kernel), List.mem_of_getElem? (i := 334) (by decide +kernel), List.mem_of_getElem? (i := 335) (by decide +kernel)⟩
theorem lw_p4 : lw_okq (⟨"TinyCache$Index", "shrinkTo", "(I)V"⟩, 3) := ⟨⟨by decide +kernel, by decide +kernel⟩, List.mem_of_getElem? (i := 60) (by decide +kernel), List.mem_of_getElem? (i := 346) (by decide +kernel), List.mem_of_getElem? (i := 347) (by decide +kernel)⟩
theorem lw_p5 : lw_okq (⟨"TinyCache", "removeFromSet", "(JI)Z"⟩, 8) := ⟨⟨by decide +kernel, by decide +kernel⟩, List.mem_of_getElem? (i := 17) (by decide +kernel), List.mem_of_getElem? (i := 358) (by decide +kernel), List.mem_of_getElem? (i := 359) (by decide +kernel)⟩
theorem lw_p6 : lw_okq (⟨"TinyCache", "readFromSet", "(J)LTinyCache$Item;"⟩, 8) := ⟨⟨by decide +kernel, by decide +kernel⟩, List.mem_of_getElem? (i := 17) (by decide +kernel), List.mem_of_getElem? (i := 362) (by decide +kernel), List.mem_of_getElem? (i := 363) (by decide +kernel)⟩
theorem lw_p7 : lw_okq (⟨"TinyCache$Page", "placeOf", "(J)I"⟩, 4) := ⟨⟨by decide +kernel, by decide +kernel⟩, List.mem_of_getElem? (i := 29) (by decide +kernel), List.mem_of_getElem? (i := 371) (by decide +kernel), List.mem_of_getElem? (i := 372) (by decide +kernel)⟩
theorem lw_p8 : lw_okq (⟨"TinyCache$Page", "removeAt", "(I)V"⟩, 4) := ⟨⟨by decide +kernel, by decide +kernel⟩, List.mem_of_getElem? (i := 29) (by decide +kernel), List.mem_of_getElem? (i := 379) (by decide +kernel), List.mem_of_getElem? (i := 380) (by decide +kernel)⟩
theorem lw_p9 : lw_okq (⟨"TinyCache", "moveGathered", "(LTinyCache$Page;I)V"⟩, 8) := ⟨⟨by decide +kernel, by decide +kernel⟩, List.mem_of_getElem? (i := 17) (by decide +kernel), List.mem_of_getElem? (i := 384) (by decide +kernel), List.mem_of_getElem? (i := 385) (by decide +kernel)⟩
theorem lw_p10 : lw_okq (⟨"TinyCacheModel", "fail", "(I)I"⟩, 24) := ⟨⟨by decide +kernel, by decide +kernel⟩, List.mem_of_getElem? (i := 510) (by decide +kernel), List.mem_of_getElem? (i := 602) (by decide +kernel), List.mem_of_getElem? (i := 603) (by decide +kernel)⟩
theorem lw_p11 : lw_okq (⟨"TinyCacheModel", "works", "()Z"⟩, 24) := ⟨⟨by decide +kernel, by decide +kernel⟩, List.mem_of_getElem? (i := 510) (by decide +kernel), List.mem_of_getElem? (i := 610) (by decide +kernel), List.mem_of_getElem? (i := 611) (by decide +kernel)⟩
theorem lw_p12 : lw_okq (⟨"TinyCacheModel", "wordsOf", "(I)I"⟩, 24) := ⟨⟨by decide +kernel, by decide +kernel⟩, List.mem_of_getElem? (i := 510) (by decide +kernel), List.mem_of_getElem? (i := 614) (by decide +kernel), List.mem_of_getElem? (i := 615) (by decide +kernel)⟩
theorem lw_p13 : lw_okq (⟨"TinyCacheModel", "need", "(I)I"⟩, 24) := ⟨⟨by decide +kernel, by decide +kernel⟩, List.mem_of_getElem? (i := 510) (by decide +kernel), List.mem_of_getElem? (i := 618) (by decide +kernel), List.mem_of_getElem? (i := 619) (by decide +kernel)⟩
theorem lw_p14 : lw_okq (⟨"TinyCacheModel", "makeRoom", "()V"⟩, 24) := ⟨⟨by decide +kernel, by decide +kernel⟩, List.mem_of_getElem? (i := 510) (by decide +kernel), List.mem_of_getElem? (i := 622) (by decide +kernel), List.mem_of_getElem? (i := 623) (by decide +kernel)⟩
theorem lw_p15 : lw_okq (⟨"TinyCacheModel", "empty", "(I)V"⟩, 24) := ⟨⟨by decide +kernel, by decide +kernel⟩, List.mem_of_getElem? (i := 510) (by decide +kernel), List.mem_of_getElem? (i := 626) (by decide +kernel), List.mem_of_getElem? (i := 627) (by decide +kernel)⟩
def lw_privs_1 : List (MethodName × Nat) := [(⟨"java/lang/Throwable", "fillInStackTrace", "(I)Ljava/lang/Throwable;"⟩, 6), (⟨"TinyCache", "refuseWhenClosed", "()V"⟩, 8), (⟨"TinyCache", "writeOpenPage", "()V"⟩, 8), (⟨"TinyCache", "emptySegment", "()I"⟩, 8), (⟨"TinyCache$Index", "shrinkTo", "(I)V"⟩, 3), (⟨"TinyCache", "removeFromSet", "(JI)Z"⟩, 8), (⟨"TinyCache", "readFromSet", "(J)LTinyCache$Item;"⟩, 8), (⟨"TinyCache$Page", "placeOf", "(J)I"⟩, 4), (⟨"TinyCache$Page", "removeAt", "(I)V"⟩, 4), (⟨"TinyCache", "moveGathered", "(LTinyCache$Page;I)V"⟩, 8), (⟨"TinyCacheModel", "fail", "(I)I"⟩, 24), (⟨"TinyCacheModel", "works", "()Z"⟩, 24), (⟨"TinyCacheModel", "wordsOf", "(I)I"⟩, 24), (⟨"TinyCacheModel", "need", "(I)I"⟩, 24), (⟨"TinyCacheModel", "makeRoom", "()V"⟩, 24), (⟨"TinyCacheModel", "empty", "(I)V"⟩, 24)]
theorem lw_r1 : ∀ q ∈ lw_privs_1, lw_okq q := List.forall_mem_cons.mpr ⟨lw_p0, List.forall_mem_cons.mpr ⟨lw_p1, List.forall_mem_cons.mpr ⟨lw_p2, List.forall_mem_cons.mpr ⟨lw_p3, List.forall_mem_cons.mpr ⟨lw_p4, List.forall_mem_cons.mpr ⟨lw_p5, List.forall_mem_cons.mpr ⟨lw_p6, List.forall_mem_cons.mpr ⟨lw_p7, List.forall_mem_cons.mpr ⟨lw_p8, List.forall_mem_cons.mpr ⟨lw_p9, List.forall_mem_cons.mpr ⟨lw_p10, List.forall_mem_cons.mpr ⟨lw_p11, List.forall_mem_cons.mpr ⟨lw_p12, List.forall_mem_cons.mpr ⟨lw_p13, List.forall_mem_cons.mpr ⟨lw_p14, List.forall_mem_cons.mpr ⟨lw_p15, fun _ h => absurd h List.not_mem_nil⟩⟩⟩⟩⟩⟩⟩⟩⟩⟩⟩⟩⟩⟩⟩⟩
theorem lw_p16 : lw_okq (⟨"TinyCacheModel", "gatherAll", "(I)V"⟩, 24) := ⟨⟨by decide +kernel, by decide +kernel⟩, List.mem_of_getElem? (i := 510) (by decide +kernel), List.mem_of_getElem? (i := 638) (by decide +kernel), List.mem_of_getElem? (i := 639) (by decide +kernel)⟩
theorem lw_p17 : lw_okq (⟨"TinyCacheModel", "moveAll", "(I)V"⟩, 24) := ⟨⟨by decide +kernel, by decide +kernel⟩, List.mem_of_getElem? (i := 510) (by decide +kernel), List.mem_of_getElem? (i := 642) (by decide +kernel), List.mem_of_getElem? (i := 643) (by decide +kernel)⟩
theorem lw_p18 : lw_okq (⟨"TinyCacheModel", "inSet", "(J)I"⟩, 24) := ⟨⟨by decide +kernel, by decide +kernel⟩, List.mem_of_getElem? (i := 510) (by decide +kernel), List.mem_of_getElem? (i := 646) (by decide +kernel), List.mem_of_getElem? (i := 647) (by decide +kernel)⟩
theorem lw_p19 : lw_okq (⟨"TinyCacheModel", "takeOut", "(II)V"⟩, 24) := ⟨⟨by decide +kernel, by decide +kernel⟩, List.mem_of_getElem? (i := 510) (by decide +kernel), List.mem_of_getElem? (i := 650) (by decide +kernel), List.mem_of_getElem? (i := 651) (by decide +kernel)⟩
theorem lw_p20 : lw_okq (⟨"TinyCacheModel", "dropFirst", "(IZI)V"⟩, 24) := ⟨⟨by decide +kernel, by decide +kernel⟩, List.mem_of_getElem? (i := 510) (by decide +kernel), List.mem_of_getElem? (i := 654) (by decide +kernel), List.mem_of_getElem? (i := 655) (by decide +kernel)⟩
theorem lw_p21 : lw_okq (⟨"TinyCacheModel", "needAll", "(I)I"⟩, 24) := ⟨⟨by decide +kernel, by decide +kernel⟩, List.mem_of_getElem? (i := 510) (by decide +kernel), List.mem_of_getElem? (i := 658) (by decide +kernel), List.mem_of_getElem? (i := 659) (by decide +kernel)⟩
theorem lw_p22 : lw_okq (⟨"TinyCacheModel", "copy", "(I)I"⟩, 24) := ⟨⟨by decide +kernel, by decide +kernel⟩, List.mem_of_getElem? (i := 510) (by decide +kernel), List.mem_of_getElem? (i := 662) (by decide +kernel), List.mem_of_getElem? (i := 663) (by decide +kernel)⟩
theorem lw_p23 : lw_okq (⟨"TinyCacheModel", "freeNumber", "()I"⟩, 24) := ⟨⟨by decide +kernel, by decide +kernel⟩, List.mem_of_getElem? (i := 510) (by decide +kernel), List.mem_of_getElem? (i := 666) (by decide +kernel), List.mem_of_getElem? (i := 667) (by decide +kernel)⟩
theorem lw_p24 : lw_okq (⟨"TinyCacheModel", "append", "(II)V"⟩, 24) := ⟨⟨by decide +kernel, by decide +kernel⟩, List.mem_of_getElem? (i := 510) (by decide +kernel), List.mem_of_getElem? (i := 670) (by decide +kernel), List.mem_of_getElem? (i := 671) (by decide +kernel)⟩
theorem lw_p25 : lw_okq (⟨"TinyCacheModel", "alone", "(II)V"⟩, 24) := ⟨⟨by decide +kernel, by decide +kernel⟩, List.mem_of_getElem? (i := 510) (by decide +kernel), List.mem_of_getElem? (i := 674) (by decide +kernel), List.mem_of_getElem? (i := 675) (by decide +kernel)⟩
theorem lw_p26 : lw_okq (⟨"TinyCacheModel", "removeOld", "(JI)Z"⟩, 24) := ⟨⟨by decide +kernel, by decide +kernel⟩, List.mem_of_getElem? (i := 510) (by decide +kernel), List.mem_of_getElem? (i := 678) (by decide +kernel), List.mem_of_getElem? (i := 679) (by decide +kernel)⟩
theorem lw_p27 : lw_okq (⟨"TinyCacheModel", "reads", "(J)Z"⟩, 24) := ⟨⟨by decide +kernel, by decide +kernel⟩, List.mem_of_getElem? (i := 510) (by decide +kernel), List.mem_of_getElem? (i := 682) (by decide +kernel), List.mem_of_getElem? (i := 683) (by decide +kernel)⟩
theorem lw_p28 : lw_okq (⟨"TinyCacheModel", "writeOpen", "()V"⟩, 24) := ⟨⟨by decide +kernel, by decide +kernel⟩, List.mem_of_getElem? (i := 510) (by decide +kernel), List.mem_of_getElem? (i := 690) (by decide +kernel), List.mem_of_getElem? (i := 691) (by decide +kernel)⟩
theorem lw_p29 : lw_okq (⟨"TinyCacheModel", "sortAgain", "()V"⟩, 24) := ⟨⟨by decide +kernel, by decide +kernel⟩, List.mem_of_getElem? (i := 510) (by decide +kernel), List.mem_of_getElem? (i := 694) (by decide +kernel), List.mem_of_getElem? (i := 695) (by decide +kernel)⟩
theorem lw_p30 : lw_okq (⟨"TinyCacheModel", "putAnew", "(I)V"⟩, 24) := ⟨⟨by decide +kernel, by decide +kernel⟩, List.mem_of_getElem? (i := 510) (by decide +kernel), List.mem_of_getElem? (i := 698) (by decide +kernel), List.mem_of_getElem? (i := 699) (by decide +kernel)⟩
theorem lw_p31 : lw_okq (⟨"TinyCacheModel", "enter", "(I)V"⟩, 24) := ⟨⟨by decide +kernel, by decide +kernel⟩, List.mem_of_getElem? (i := 510) (by decide +kernel), List.mem_of_getElem? (i := 702) (by decide +kernel), List.mem_of_getElem? (i := 703) (by decide +kernel)⟩
def lw_privs_2 : List (MethodName × Nat) := [(⟨"TinyCacheModel", "gatherAll", "(I)V"⟩, 24), (⟨"TinyCacheModel", "moveAll", "(I)V"⟩, 24), (⟨"TinyCacheModel", "inSet", "(J)I"⟩, 24), (⟨"TinyCacheModel", "takeOut", "(II)V"⟩, 24), (⟨"TinyCacheModel", "dropFirst", "(IZI)V"⟩, 24), (⟨"TinyCacheModel", "needAll", "(I)I"⟩, 24), (⟨"TinyCacheModel", "copy", "(I)I"⟩, 24), (⟨"TinyCacheModel", "freeNumber", "()I"⟩, 24), (⟨"TinyCacheModel", "append", "(II)V"⟩, 24), (⟨"TinyCacheModel", "alone", "(II)V"⟩, 24), (⟨"TinyCacheModel", "removeOld", "(JI)Z"⟩, 24), (⟨"TinyCacheModel", "reads", "(J)Z"⟩, 24), (⟨"TinyCacheModel", "writeOpen", "()V"⟩, 24), (⟨"TinyCacheModel", "sortAgain", "()V"⟩, 24), (⟨"TinyCacheModel", "putAnew", "(I)V"⟩, 24), (⟨"TinyCacheModel", "enter", "(I)V"⟩, 24)]
theorem lw_r2 : ∀ q ∈ lw_privs_2, lw_okq q := List.forall_mem_cons.mpr ⟨lw_p16, List.forall_mem_cons.mpr ⟨lw_p17, List.forall_mem_cons.mpr ⟨lw_p18, List.forall_mem_cons.mpr ⟨lw_p19, List.forall_mem_cons.mpr ⟨lw_p20, List.forall_mem_cons.mpr ⟨lw_p21, List.forall_mem_cons.mpr ⟨lw_p22, List.forall_mem_cons.mpr ⟨lw_p23, List.forall_mem_cons.mpr ⟨lw_p24, List.forall_mem_cons.mpr ⟨lw_p25, List.forall_mem_cons.mpr ⟨lw_p26, List.forall_mem_cons.mpr ⟨lw_p27, List.forall_mem_cons.mpr ⟨lw_p28, List.forall_mem_cons.mpr ⟨lw_p29, List.forall_mem_cons.mpr ⟨lw_p30, List.forall_mem_cons.mpr ⟨lw_p31, fun _ h => absurd h List.not_mem_nil⟩⟩⟩⟩⟩⟩⟩⟩⟩⟩⟩⟩⟩⟩⟩⟩
theorem lw_p32 : lw_okq (⟨"TinyCacheModel", "newest", "(J)I"⟩, 24) := ⟨⟨by decide +kernel, by decide +kernel⟩, List.mem_of_getElem? (i := 510) (by decide +kernel), List.mem_of_getElem? (i := 706) (by decide +kernel), List.mem_of_getElem? (i := 707) (by decide +kernel)⟩
theorem lw_p33 : lw_okq (⟨"TinyCacheModel", "pageOf", "(I)I"⟩, 24) := ⟨⟨by decide +kernel, by decide +kernel⟩, List.mem_of_getElem? (i := 510) (by decide +kernel), List.mem_of_getElem? (i := 714) (by decide +kernel), List.mem_of_getElem? (i := 715) (by decide +kernel)⟩
theorem lw_p34 : lw_okq (⟨"TinyCacheModel", "tell", "(I)V"⟩, 24) := ⟨⟨by decide +kernel, by decide +kernel⟩, List.mem_of_getElem? (i := 510) (by decide +kernel), List.mem_of_getElem? (i := 718) (by decide +kernel), List.mem_of_getElem? (i := 719) (by decide +kernel)⟩
theorem lw_p35 : lw_okq (⟨"TinyCacheModel", "indexed", "()I"⟩, 24) := ⟨⟨by decide +kernel, by decide +kernel⟩, List.mem_of_getElem? (i := 510) (by decide +kernel), List.mem_of_getElem? (i := 754) (by decide +kernel), List.mem_of_getElem? (i := 755) (by decide +kernel)⟩
def lw_privs_3 : List (MethodName × Nat) := [(⟨"TinyCacheModel", "newest", "(J)I"⟩, 24), (⟨"TinyCacheModel", "pageOf", "(I)I"⟩, 24), (⟨"TinyCacheModel", "tell", "(I)V"⟩, 24), (⟨"TinyCacheModel", "indexed", "()I"⟩, 24)]
theorem lw_r3 : ∀ q ∈ lw_privs_3, lw_okq q := List.forall_mem_cons.mpr ⟨lw_p32, List.forall_mem_cons.mpr ⟨lw_p33, List.forall_mem_cons.mpr ⟨lw_p34, List.forall_mem_cons.mpr ⟨lw_p35, fun _ h => absurd h List.not_mem_nil⟩⟩⟩⟩
def lw_privs : List (MethodName × Nat) := lw_privs_1 ++ (lw_privs_2 ++ (lw_privs_3))
def lw_tbl : List Cond := k2_sels lw_privs ++ tables_1
theorem lw_privs_ok : ∀ q ∈ lw_privs, lw_okq q := by
  show ∀ q ∈ lw_privs_1 ++ (lw_privs_2 ++ (lw_privs_3)), lw_okq q
  exact List.forall_mem_append.mpr ⟨lw_r1, List.forall_mem_append.mpr ⟨lw_r2, lw_r3⟩⟩
-- ===== end of PART A; then your names; then what follows =====
end
section
/-! ===== BEGIN words of one list among another's, by their places ===== -/
theorem goodIn_r {big : List Cond} (ws : List Cond) (ps : List Nat) (hp : ws = ps.filterMap (fun i => big[i]?)) (h : ws.all goodWord = true) : GoodIn big ws := by
  intro w hw
  have h1 := List.all_eq_true.mp h w hw
  rw [hp] at hw
  obtain ⟨i, -, hi⟩ := List.mem_filterMap.mp hw
  have hm : w ∈ big := by first | exact List.mem_of_getElem? hi | exact List.getElem?_mem hi
  exact ⟨hm, good_of_word h1⟩
theorem goodIn_app {big a b : List Cond} (ha : GoodIn big a) (hb : GoodIn big b) : GoodIn big (a ++ b) := fun w h => (List.mem_append.mp h).elim (ha w) (hb w)
theorem goodIn_ca {big a b : List Cond} {c : Cond} (ha : GoodIn big (c :: a)) (hb : GoodIn big b) : GoodIn big (c :: (a ++ b)) := fun w h => (List.mem_cons.mp h).elim (fun e => ha w (List.mem_cons.mpr (Or.inl e))) (fun h => (List.mem_append.mp h).elim (fun h => ha w (List.mem_cons.mpr (Or.inr h))) (hb w))
theorem goodIn_sub {big ws : List Cond} (hm : ∀ w ∈ ws, w ∈ big) (h : ws.all goodWord = true) : GoodIn big ws := fun w hw => ⟨hm w hw, good_of_word (List.all_eq_true.mp h w hw)⟩
/-! ===== END ===== -/

/-! ===== BEGIN exceptions that leave a method, and their catching by the caller (launches without stack traces) ===== -/
section VXA
/-! The laws vx_back, vx_callV, vx_callS, vx_callSW, vx_throw0, vx_throwS follow proofs of the library, with one case more: JvmDerived/Free/Laws.lean (Back.of_free), Shelf42/LK1.lean (callV, callS), Shelf/KitTraced.lean (throwNew0V, throwNewS). -/
/-- where a method has thrown q: the class by its name, the cell, what was written, the world -/
def vx_T (XC : String → State → State → Prop) (st : State) (q : Addr) (t : State) (mc ms : Nat) (free : Addr → Prop) : Prop :=
  ∃ (E : String) (ce : Cell) (L : List Loc), XC E st t ∧ t.heap[q]? = some ce ∧ ce.vm = .none ∧ st.vm.findClass E = some ce.cls ∧ st.WarmedH t.vm ∧ st.sameButNew ({ t with vm := st.vm } : State) L mc ms ∧ ∀ z ∈ L, free z.base
def vx_Q (Qc : Array Value → State → Outcome → State → Prop) (XC : String → State → State → Prop) (mc ms : Nat) (free : Addr → Prop) : Array Value → State → Outcome → State → Prop := fun a st o t =>
  (Qc a st o t ∧ ∃ L, FrameEnd st o t L mc ms ∧ ∀ q ∈ L, free q.base) ∨ ∃ q, o = .threw q ∧ vx_T XC st q t mc ms free
/-- a callee that returns or throws -/
def vx_Met (l : Launch) (y : MethodName) (ws : List Cond) (rm : Room) (Pc : Array Value → State → Prop) (Qc : Array Value → State → Outcome → State → Prop) (XC : String → State → State → Prop) (mc ms : Nat) (free : Addr → Prop) : Prop :=
  MetFree l y (headSpec ws rm) Pc (fun _ _ _ _ _ => True) (vx_Q Qc XC mc ms free)
def vx_Post (XC : String → State → State → Prop) (mc ms : Nat) (free : Addr → Prop) : Pt → Array Value → Addr → Pt → Prop := fun A a q B =>
  ∃ (g : JFrame) (mk : MethodId) (t : State) (L : List Loc) (E : String) (ce : Cell), B.U.heap = t.heap ∧ B.U.vm = t.vm ∧ XC E (A.U.calling g mk a) t ∧ t.heap[q]? = some ce ∧ ce.vm = .none ∧ A.U.vm.findClass E = some ce.cls ∧ B.locs = A.locs ++ L ∧ (∀ z ∈ L, free z.base) ∧ B.cells = A.cells + mc ∧ B.slots = A.slots + ms
def vx_Back (l : Launch) (R : Room) (p : Program) (e : Env) (below : List Frame) (s : State) (sargs : Array Value) (y : MethodName) (len W9 : Nat)
    (Pre : Pt → Array Value → Prop) (Post : Pt → Array Value → Option Value → Pt → Prop) (PostX : Pt → Array Value → Addr → Pt → Prop) : Prop :=
  ∀ (m : MethodId) (meth : Method) (c : Code) (A : Pt) (g : JFrame) (ig : Instr) (mk : MethodId) (a : Array Value),
    Stand p l e R s m sargs below meth c A.U A.locs A.cells A.slots → g.method = m → g.locals.size = c.maxLocals → decode c.code g.pc = .ok (ig, len) →
    2 * g.monitorRoom + (g.stack.map fun v => v.category).sum ≤ W9 → A.U.methodNamed? y = some mk → Pre A a →
    (∃ (v : Option Value) (B : Pt), Stand p l e R s m sargs below meth c B.U B.locs B.cells B.slots ∧ Post A a v B ∧
      Steps p.tables e below (doInvoke e (A.U.setTop g) [] mk a).1 (B.U.setTop { g with pc := g.pc + len, stack := v.toList ++ g.stack })) ∨
    (∃ (q : Addr) (B : Pt), Stand p l e R s m sargs below meth c B.U B.locs B.cells B.slots ∧ PostX A a q B ∧
      Steps p.tables e below (doInvoke e (A.U.setTop g) [] mk a).1 ((B.U.setTop g).pushFrame (.throwing q)))
section Payer
variable {l : Launch} {R : Room} {p : Program} {e : Env} {below : List Frame} {s : State} {sargs : Array Value} {y : MethodName} {len W9 : Nat}
theorem vx_back {ws : List Cond} {rm : Room} {Pc : Array Value → State → Prop} {Qc : Array Value → State → Outcome → State → Prop} {XC : String → State → State → Prop} {mc ms : Nat} {free : Addr → Prop} {bytes : ByteArray} {maxL : Nat} {ret : Option FieldType}
    (hM : vx_Met l y ws rm Pc Qc XC mc ms free) (hblind : FrameBlind Pc) (hrc : rm.cells = mc) (hrs : rm.slots = ms)
    (hframes : rm.frames + 1 ≤ R.frames) (hlocals : W9 + (maxL + 11) + rm.locals ≤ R.locals)
    (hws : ∀ w ∈ ws, ∀ a' U, s.WarmedH U.vm → w.before a' U = true) (hcode : Cond.code y bytes maxL ret ∈ ws) (hinit : ∀ a' U, s.WarmedH U.vm → (Cond.initialized y.cls).before a' U = true) :
    vx_Back l R p e below s sargs y len W9 (PreOf R mc ms Pc) (PostOf Qc mc ms free) (vx_Post XC mc ms free) := by
  intro m meth c A g ig mk a X hg hsize hdg hW hn hp
  have h1 : (headSpec ws rm).pre.before a A.U = true := atoms_intro fun w hw => hws w hw _ _ X.warmed
  have h2 : (Cond.code y bytes maxL ret).before a A.U = true := hws _ hcode _ _ X.warmed
  have h3 : (Cond.initialized y.cls).before a A.U = true := hinit _ _ X.warmed
  have h4 : A.cells + (headSpec ws rm).room.cells ≤ R.cells := by rw [show (headSpec ws rm).room.cells = mc from hrc]; exact hp.1
  have h5 : A.slots + (headSpec ws rm).room.slots ≤ R.slots := by rw [show (headSpec ws rm).room.slots = ms from hrs]; exact hp.2.1
  have hPc : Pc a (A.U.calling g mk a) := hblind _ _ _ _ hp.2.2
  obtain ⟨U, Ls, c0, s0⟩ := A
  dsimp only [Pt.U, Pt.locs, Pt.cells, Pt.slots] at h1 h2 h3 h4 h5 X hn hPc ⊢
  obtain ⟨methY, cY, hmY, hcY, -, hlY, -, -, -, -⟩ := Cond.code_spec hn h2
  obtain ⟨kY, hkY, -⟩ := className_of_methodNamed hn
  have hinitY : kY.init = .initialized := Cond.initialized_spec (findClass_of_methodNamed hn) hkY h3
  have h : At U g.method c below := by rw [hg]; exact X.here
  have hlocals9 : W9 + (maxL + 11) + (headSpec ws rm).room.locals ≤ R.locals := hlocals
  have happ : (headSpec ws rm).appliesLoose y e.platform (U.calling g mk a) = true :=
    Spec.appliesLoose_calling (g := g) h hdg hn hkY hinitY
      (X.room_calling (g := g) (R' := (headSpec ws rm).room) hsize hmY hcY hframes (by rw [hlY]; omega) h4 h5) h1
  obtain ⟨mid, hmid⟩ := h.above
  have hfr : (U.setTop g).frames = (.java g :: mid) ++ below := by rw [State.frames_setTop' g h.top, hmid]; rfl
  obtain ⟨o, s₂, hsteps, -, hend, hq⟩ := Steps.callFree hM p X.admits X.cas X.clock (acts := []) hfr happ hPc trivial
  have hq' : vx_Q Qc XC mc ms free a (U.calling g mk a) o s₂ := hq
  rw [State.frames_setTop' g h.top] at hend
  obtain ⟨g₀, hg0⟩ := Option.isSome_iff_exists.mp h.top
  obtain ⟨r, hr⟩ := State.topJava?_eq_some.mp hg0
  have hr' : (({ U with heap := s₂.heap, slotsUsed := s₂.slotsUsed } : State).setVm s₂.vm).frames = .java g₀ :: r := hr
  rcases hq' with ⟨hqc, L, hfe, hL⟩ | ⟨q, rfl, E, ce, L, hx, hce, hcv, hcl, hW₂, hsm, hL⟩
  · obtain ⟨⟨v, rfl⟩, hW₂, e2, q2, q3, q4, q5, q6⟩ := id hfe
    have e3 : s₂ = ({ (U.calling g mk a).setFrames s₂.frames with heap := s₂.heap, slotsUsed := s₂.slotsUsed } : State).setVm s₂.vm := by
      have : s₂ = ({ s₂ with vm := (U.calling g mk a).vm } : State).setVm s₂.vm := rfl
      rw [e2] at this
      exact this
    obtain ⟨c₂, i₂, len₂, hc₂, hd₂, hf₂⟩ := hend
    have hW' : U.WarmedH s₂.vm := hW₂
    have hcc : c₂ = c := by
      have h1 : s₂.code? g.method = U.code? g.method := by
        rw [State.code?_eq, State.code?_eq, hW'.alike.method?]
      exact Option.some.inj (hc₂.symm.trans (h1.trans h.code))
    subst hcc
    have hlen : len₂ = len := by rw [hdg] at hd₂; cases hd₂; rfl
    subst hlen
    have hs₂ : s₂ = (({ U with heap := s₂.heap, slotsUsed := s₂.slotsUsed } : State).setVm s₂.vm).setTop { g with pc := g.pc + len₂, stack := v.toList ++ g.stack } := by
      refine e3.trans ?_
      rw [hf₂, State.calling_eq h.top, State.setFrames_setFrames, State.setTop_of_frames _ hr', hr]
      rfl
    have hsame : U.sameButNew ({ U with heap := s₂.heap, slotsUsed := s₂.slotsUsed } : State) L mc ms := by
      refine ⟨?_, q2, q3, q4, q5, q6⟩
      obtain ⟨t, ht, -⟩ := State.frames_cons hr
      show ({ U with heap := s₂.heap, slotsUsed := s₂.slotsUsed } : State) = { U.setFrames U.frames with heap := s₂.heap, slotsUsed := s₂.slotsUsed }
      rw [State.setFrames_self ht]
    subst hg
    refine Or.inl ⟨v, ⟨(({ U with heap := s₂.heap, slotsUsed := s₂.slotsUsed } : State).setVm s₂.vm), Ls ++ L, c0 + mc, s0 + ms⟩,
      ⟨X.admits, X.cas, X.clock, X.frames, X.room, X.hears, X.method, X.code, (X.here.setHeapUsed s₂.heap s₂.slotsUsed).setVm hW'.alike, X.tail, State.WarmedH.trans X.warmed hW', X.limits, X.bytes, X.same.trans (hsame.setVm s.vm)⟩,
      ⟨g, mk, s₂, L, rfl, rfl, hqc, rfl, hL, rfl, rfl⟩, ?_⟩
    show Steps p.tables e below _ ((({ U with heap := s₂.heap, slotsUsed := s₂.slotsUsed } : State).setVm s₂.vm).setTop { g with pc := g.pc + len₂, stack := v.toList ++ g.stack })
    rw [← hs₂]
    exact hsteps
  · obtain ⟨e2, q2, q3, q4, q5, q6⟩ := id hsm
    have e3 : s₂ = ({ (U.calling g mk a).setFrames s₂.frames with heap := s₂.heap, slotsUsed := s₂.slotsUsed } : State).setVm s₂.vm := by
      have : s₂ = ({ s₂ with vm := (U.calling g mk a).vm } : State).setVm s₂.vm := rfl
      rw [e2] at this
      exact this
    have hf₂ : s₂.frames = .throwing q :: .java g :: U.frames.tail := hend
    have hW' : U.WarmedH s₂.vm := hW₂
    have hs₂ : s₂ = ((({ U with heap := s₂.heap, slotsUsed := s₂.slotsUsed } : State).setVm s₂.vm).setTop g).pushFrame (.throwing q) := by
      refine e3.trans ?_
      rw [hf₂, State.calling_eq h.top, State.setFrames_setFrames, State.pushFrame, State.frames_setTop _ hr', State.setTop_of_frames _ hr', State.setFrames_setFrames, hr]
      rfl
    have hsame : U.sameButNew ({ U with heap := s₂.heap, slotsUsed := s₂.slotsUsed } : State) L mc ms := by
      refine ⟨?_, q2, q3, q4, q5, q6⟩
      obtain ⟨t, ht, -⟩ := State.frames_cons hr
      show ({ U with heap := s₂.heap, slotsUsed := s₂.slotsUsed } : State) = { U.setFrames U.frames with heap := s₂.heap, slotsUsed := s₂.slotsUsed }
      rw [State.setFrames_self ht]
    subst hg
    refine Or.inr ⟨q, ⟨(({ U with heap := s₂.heap, slotsUsed := s₂.slotsUsed } : State).setVm s₂.vm), Ls ++ L, c0 + mc, s0 + ms⟩,
      ⟨X.admits, X.cas, X.clock, X.frames, X.room, X.hears, X.method, X.code, (X.here.setHeapUsed s₂.heap s₂.slotsUsed).setVm hW'.alike, X.tail, State.WarmedH.trans X.warmed hW', X.limits, X.bytes, X.same.trans (hsame.setVm s.vm)⟩,
      ⟨g, mk, s₂, L, E, ce, rfl, rfl, hx, hce, hcv, hcl, rfl, hL, rfl, rfl⟩, ?_⟩
    show Steps p.tables e below _ (((({ U with heap := s₂.heap, slotsUsed := s₂.slotsUsed } : State).setVm s₂.vm).setTop g).pushFrame (.throwing q))
    rw [← hs₂]
    exact hsteps
end Payer
section Calls
variable {p : Program} {l : Launch} {e : Env} {R : Room} {s : State} {m : MethodId} {args : Array Value} {below : List Frame} {meth : Method} {c : Code} {T : State} {locs : List Loc} {cells slots : Nat}
theorem vx_callV (X : Stand p l e R s m args below meth c T locs cells slots) (hexec : p.tables.exec = Jvm.exec) {own C : String} {index : Nat} {y : MethodName} {bytes : ByteArray} {maxL : Nat} {ret : Option FieldType}
    (hown : s.vm.findClass own = some m.cls) (hlink : (Cond.methodLink own index y).before args s = true) (hinst : (Cond.instanceMethod y).before args s = true) (hsel : (Cond.selects C y y).before args s = true)
    (hcode : (Cond.code y bytes maxL ret).before args s = true) (hy : y.cls ≠ "java/lang/invoke/MethodHandle" ∧ y.cls ≠ "java/lang/invoke/VarHandle")
    {W9 : Nat} {Pre : Pt → Array Value → Prop} {Post : Pt → Array Value → Option Value → Pt → Prop} {PostX : Pt → Array Value → Addr → Pt → Prop} (hK : vx_Back l R p e below s args y 3 W9 Pre Post PostX)
    {b : Addr} {cellB : Cell} (hcell : T.heap[b]? = some cellB) (hobj : cellB.vm.isStatics = false) (hcls : s.vm.findClass C = some cellB.cls)
    {g : JFrame} (hg : g.method = m) (hsize : g.locals.size = c.maxLocals) {argsL rest : List Value} (hlen : ∀ sig, parseMethodDescriptor y.desc = some sig → argsL.length = sig.parameters.length)
    (hstack : g.stack = argsL.reverse ++ .ref b :: rest) (hW : 2 * g.monitorRoom + (rest.map fun v => v.category).sum ≤ W9) (hdg : decode c.code g.pc = .ok (.invokevirtual index, 3))
    (hpre : ∀ vm₁, s.WarmedH vm₁ → Pre ⟨T.setVm vm₁, locs, cells, slots⟩ (Value.ref b :: argsL).toArray) :
    (∃ (v : Option Value) (vm₁ : Vm) (B : Pt), s.WarmedH vm₁ ∧ Stand p l e R s m args below meth c B.U B.locs B.cells B.slots ∧ Post ⟨T.setVm vm₁, locs, cells, slots⟩ (Value.ref b :: argsL).toArray v B ∧
      ∀ target, Steps p.tables e below (B.U.setTop { g with pc := g.pc + 3, stack := v.toList ++ rest }) target → Steps p.tables e below (T.setTop g) target) ∨
    (∃ (q : Addr) (vm₁ : Vm) (B : Pt), s.WarmedH vm₁ ∧ Stand p l e R s m args below meth c B.U B.locs B.cells B.slots ∧ PostX ⟨T.setVm vm₁, locs, cells, slots⟩ (Value.ref b :: argsL).toArray q B ∧
      Steps p.tables e below (T.setTop g) ((B.U.setTop { g with stack := rest }).pushFrame (.throwing q))) := by
  obtain ⟨mk, methM, hnamed, hmethM, hstM, habM⟩ := Cond.instanceMethod_spec hinst
  obtain ⟨methM', cM, hmethM', -, -, -, -, -, -, hsigM⟩ := Cond.code_spec hnamed hcode
  cases hmethM.symm.trans hmethM'
  obtain ⟨c2, r2, m2, q1, q2, q3, q4, kP, hkP, hkPi⟩ := Cond.selects_spec hsel
  cases hcls.symm.trans q1
  cases (State.methodFound?_of_named hnamed hy).symm.trans q2
  cases hnamed.symm.trans q3
  have hselP : selectMethod e.platform s.vm cellB.cls mk = .method mk := by rw [Launch.admits_selectMethod X.admits]; exact q4
  obtain ⟨vm₁, X₁, hstep₁⟩ := X.invokevirtual hexec hown hlink hnamed hmethM hstM hkP hkPi hy (a := b) (cell := cellB) hcell
    (fun z h => by rw [h] at hobj; cases hobj) hselP hmethM habM hkP hkPi (g := g) hg (argsL := argsL) (rest := rest) (hlen _ hsigM) hstack hdg
  rcases hK m meth c ⟨T.setVm vm₁, locs, cells, slots⟩ { g with stack := rest } (.invokevirtual index) mk (Value.ref b :: argsL).toArray X₁ hg hsize hdg hW (X₁.named hnamed) (hpre vm₁ X₁.warmed) with ⟨v, B, X', hpost, hsteps⟩ | ⟨q, B, X', hpost, hsteps⟩
  · exact Or.inl ⟨v, vm₁, B, X₁.warmed, X', hpost, fun target h => hstep₁ _ fun acts => by rw [doInvoke_state]; exact hsteps.trans h⟩
  · exact Or.inr ⟨q, vm₁, B, X₁.warmed, X', hpost, hstep₁ _ fun acts => by rw [doInvoke_state]; exact hsteps⟩
theorem vx_callS (X : Stand p l e R s m args below meth c T locs cells slots) (hexec : p.tables.exec = Jvm.exec) {own : String} {index : Nat} {y : MethodName} {bytes : ByteArray} {maxL : Nat} {ret : Option FieldType}
    (hown : s.vm.findClass own = some m.cls) (hlink : (Cond.methodLink own index y).before args s = true) (hstat : (Cond.static y).before args s = true) (hinit : (Cond.initialized y.cls).before args s = true)
    (hcode : (Cond.code y bytes maxL ret).before args s = true) (hy : y.cls ≠ "java/lang/invoke/MethodHandle" ∧ y.cls ≠ "java/lang/invoke/VarHandle")
    {W9 : Nat} {Pre : Pt → Array Value → Prop} {Post : Pt → Array Value → Option Value → Pt → Prop} {PostX : Pt → Array Value → Addr → Pt → Prop} (hK : vx_Back l R p e below s args y 3 W9 Pre Post PostX)
    {g : JFrame} (hg : g.method = m) (hsize : g.locals.size = c.maxLocals) {argsL rest : List Value} (hlen : ∀ sig, parseMethodDescriptor y.desc = some sig → argsL.length = sig.parameters.length)
    (hstack : g.stack = argsL.reverse ++ rest) (hW : 2 * g.monitorRoom + (rest.map fun v => v.category).sum ≤ W9) (hdg : decode c.code g.pc = .ok (.invokestatic index, 3))
    (hpre : ∀ vm₁, s.WarmedH vm₁ → Pre ⟨T.setVm vm₁, locs, cells, slots⟩ argsL.toArray) :
    (∃ (v : Option Value) (vm₁ : Vm) (B : Pt), s.WarmedH vm₁ ∧ Stand p l e R s m args below meth c B.U B.locs B.cells B.slots ∧ Post ⟨T.setVm vm₁, locs, cells, slots⟩ argsL.toArray v B ∧
      ∀ target, Steps p.tables e below (B.U.setTop { g with pc := g.pc + 3, stack := v.toList ++ rest }) target → Steps p.tables e below (T.setTop g) target) ∨
    (∃ (q : Addr) (vm₁ : Vm) (B : Pt), s.WarmedH vm₁ ∧ Stand p l e R s m args below meth c B.U B.locs B.cells B.slots ∧ PostX ⟨T.setVm vm₁, locs, cells, slots⟩ argsL.toArray q B ∧
      Steps p.tables e below (T.setTop g) ((B.U.setTop { g with stack := rest }).pushFrame (.throwing q))) := by
  obtain ⟨mk, hnamed⟩ := Cond.code_named hcode
  obtain ⟨methM, cM, hmethM, -, -, -, -, -, -, hsigM⟩ := Cond.code_spec hnamed hcode
  have hstatic : methM.isStatic = true := Cond.static_spec hnamed hmethM hstat
  obtain ⟨kP, hkP, -⟩ := className_of_methodNamed hnamed
  have hinitP : kP.init = .initialized := Cond.initialized_spec (findClass_of_methodNamed hnamed) hkP hinit
  obtain ⟨vm₁, X₁, hstep₁⟩ := X.invokestatic hexec hown hlink hnamed hmethM hstatic hkP hinitP hy (g := g) hg (argsL := argsL) (rest := rest) (hlen _ hsigM) hstack hdg
  rcases hK m meth c ⟨T.setVm vm₁, locs, cells, slots⟩ { g with stack := rest } (.invokestatic index) mk argsL.toArray X₁ hg hsize hdg hW (X₁.named hnamed) (hpre vm₁ X₁.warmed) with ⟨v, B, X', hpost, hsteps⟩ | ⟨q, B, X', hpost, hsteps⟩
  · exact Or.inl ⟨v, vm₁, B, X₁.warmed, X', hpost, fun target h => hstep₁ _ fun acts => by rw [doInvoke_state]; exact hsteps.trans h⟩
  · exact Or.inr ⟨q, vm₁, B, X₁.warmed, X', hpost, hstep₁ _ fun acts => by rw [doInvoke_state]; exact hsteps⟩
end Calls
theorem vx_cls {s : State} {T : State} {vm₁ : Vm} {E : String} {k : ClassId} (hW : s.WarmedH vm₁) (h : (T.setVm vm₁).vm.findClass E = some k) : s.vm.findClass E = some k := by
  have h1 : vm₁.findClass E = some k := h
  rw [hW.alike.findClass] at h1
  exact h1
/-- the method's frame g, with q thrown over it -/
def vx_W (p : Program) (l : Launch) (e : Env) (R : Room) (s : State) (m : MethodId) (args : Array Value) (below : List Frame) (meth : Method) (c : Code) (H : Heap) (locs : List Loc) (cells slots : Nat) (Q : State → Prop) (g : JFrame) (q : Addr) : Prop :=
  ∀ T : State, T.heap = H → Stand p l e R s m args below meth c T locs cells slots → ∃ t, Steps p.tables e below ((T.setTop g).pushFrame (.throwing q)) t ∧ Q t
def vx_Run (p : Program) (l : Launch) (e : Env) (R : Room) (s : State) (m : MethodId) (args : Array Value) (below : List Frame) (meth : Method) (c : Code) (H : Heap) (locs : List Loc) (cells slots mc ms : Nat) (g : JFrame) (rest : List Value) (Qa : State → Outcome → State → Prop) (XC : String → State → State → Prop) (free : Addr → Prop) : Prop :=
  ∀ T : State, T.heap = H → Stand p l e R s m args below meth c T locs cells slots →
    (∃ (v : Option Value) (st₀ t T' : State) (L : List Loc), st₀.heap = H ∧ Stand p l e R s m args below meth c T' (locs ++ L) (cells + mc) (slots + ms) ∧ (∀ q ∈ L, free q.base) ∧ T'.heap = t.heap ∧ T'.vm = t.vm ∧ Qa st₀ (.returned v) t ∧
      Goes p e below T g T' { g with pc := g.pc + 3, stack := v.toList ++ rest }) ∨
    (∃ (q : Addr) (st₀ t T' : State) (L : List Loc) (E : String) (ce : Cell), st₀.heap = H ∧ Stand p l e R s m args below meth c T' (locs ++ L) (cells + mc) (slots + ms) ∧ (∀ z ∈ L, free z.base) ∧ T'.heap = t.heap ∧ T'.vm = t.vm ∧ XC E st₀ t ∧ t.heap[q]? = some ce ∧ ce.vm = .none ∧ s.vm.findClass E = some ce.cls ∧
      Steps p.tables e below (T.setTop g) ((T'.setTop { g with stack := rest }).pushFrame (.throwing q)))
def vx_X {S : Type} (px : S → Prop) (B : String → S → State → Prop) (A : Nat → Prop) : String → State → State → Prop := fun E st t => ∃ u : S, px u ∧ B E u t ∧ va_F A st t
section Runs
variable {p : Program} {l : Launch} {e : Env} {R : Room} {s : State} {m : MethodId} {args : Array Value} {below : List Frame} {meth : Method} {c : Code} {H : Heap} {locs : List Loc} {cells slots : Nat}
variable {y : MethodName} {bytes cc : ByteArray} {maxL nL mc ms n index : Nat} {ret : Option FieldType} {ws : List Cond} {rm : Room} {Pc : Array Value → State → Prop} {Qc : Array Value → State → Outcome → State → Prop} {XC : String → State → State → Prop} {free : Addr → Prop} {Ts : List Cond} {own C : String} {b : Addr} {As rest : List Value} {g : JFrame}
theorem vx_callBack (cb : CallB R s args own index y bytes maxL ret ws rm mc ms n) (hM : vx_Met l y ws rm Pc Qc XC mc ms free) (hbl : FrameBlind Pc) : vx_Back l R p e below s args y 3 8 (PreOf R mc ms Pc) (PostOf Qc mc ms free) (vx_Post XC mc ms free) := by
  obtain ⟨hrc, hrs, hfr, hlo, hws, hcw, -, hini, -⟩ := cb
  exact vx_back (bytes := bytes) (maxL := maxL) (ret := ret) hM hbl hrc hrs hfr hlo hws hcw (fun a' U hW => word_at hW (Or.inl (by first | rfl | simp [Cond.onTables, Cond.keeps, Cond.steady])) hini)
theorem vx_runV (S : CallFix p m c cc nL s args Ts own) (hM : vx_Met l y ws rm Pc Qc XC mc ms free) (cw : CallW R s args own C index y bytes maxL ret ws rm mc ms n) (hp : PreV s H C b Pc As)
    (hg : g.method = m) (hn : As.length = n) (hsize : g.locals.size = nL) (hstack : g.stack = As.reverse ++ .ref b :: rest) (hW : 2 * g.monitorRoom + (rest.map fun v => v.category).sum ≤ 8) (hdg : decode cc g.pc = .ok (.invokevirtual index, 3)) (hf : cells + mc ≤ R.cells ∧ slots + ms ≤ R.slots) :
    vx_Run p l e R s m args below meth c H locs cells slots mc ms g rest (Qc (Value.ref b :: As).toArray) XC free := by
  have hK : vx_Back l R p e below s args y 3 8 (PreOf R mc ms Pc) (PostOf Qc mc ms free) (vx_Post XC mc ms free) := vx_callBack cw.1 hM hp.1
  obtain ⟨⟨-, -, -, -, -, -, hcode, -, hy, hlen, hl⟩, hin, hse⟩ := cw
  obtain ⟨hx, hb, hml, ho, -⟩ := S
  obtain ⟨-, ⟨cellB, hcB, hoB, hclB⟩, hPc⟩ := hp
  intro T hT X
  rcases vx_callV X hx (C := C) (bytes := bytes) (maxL := maxL) (ret := ret) ho hl hin hse hcode hy hK (by rw [hT]; exact hcB) hoB hclB hg (hsize.trans hml.symm) (argsL := As) (rest := rest) (fun sig h => hn.trans (hlen sig h)) hstack hW (by rw [hb]; exact hdg)
    (fun vm₁ hW₁ => ⟨hf.1, hf.2, hPc (T.setVm vm₁) hT hW₁⟩) with ⟨v, vm₁, ⟨U', l2, c2, s2⟩, hW₁, X', ⟨g', mk, t, L, e1, e2, hq, h1, hL, h2, h3⟩, st⟩ | ⟨q, vm₁, ⟨U', l2, c2, s2⟩, hW₁, X', ⟨g', mk, t, L, E, ce, e1, e2, hq, hce, hcv, hcl, h1, hL, h2, h3⟩, st⟩
  · dsimp only [Pt.U, Pt.locs, Pt.cells, Pt.slots] at X' e1 e2 h1 h2 h3 st
    subst h1; subst h2; subst h3
    exact Or.inl ⟨v, (T.setVm vm₁).calling g' mk (Value.ref b :: As).toArray, t, U', L, hT, X', hL, e1, e2, hq, st⟩
  · dsimp only [Pt.U, Pt.locs, Pt.cells, Pt.slots] at X' e1 e2 h1 h2 h3 st hcl
    subst h1; subst h2; subst h3
    exact Or.inr ⟨q, (T.setVm vm₁).calling g' mk (Value.ref b :: As).toArray, t, U', L, E, ce, hT, X', hL, e1, e2, hq, hce, hcv, vx_cls hW₁ hcl, st⟩
theorem vx_runS (S : CallFix p m c cc nL s args Ts own) (hM : vx_Met l y ws rm Pc Qc XC mc ms free) (cw : CallB R s args own index y bytes maxL ret ws rm mc ms n ∧ (Cond.static y).before args s = true) (hp : PreS s H Pc As)
    (hg : g.method = m) (hn : As.length = n) (hsize : g.locals.size = nL) (hstack : g.stack = As.reverse ++ rest) (hW : 2 * g.monitorRoom + (rest.map fun v => v.category).sum ≤ 8) (hdg : decode cc g.pc = .ok (.invokestatic index, 3)) (hf : cells + mc ≤ R.cells ∧ slots + ms ≤ R.slots) :
    vx_Run p l e R s m args below meth c H locs cells slots mc ms g rest (Qc As.toArray) XC free := by
  have hK : vx_Back l R p e below s args y 3 8 (PreOf R mc ms Pc) (PostOf Qc mc ms free) (vx_Post XC mc ms free) := vx_callBack cw.1 hM hp.1
  obtain ⟨⟨-, -, -, -, -, -, hcode, hini, hy, hlen, hl⟩, hstt⟩ := cw
  obtain ⟨hx, hb, hml, ho, -⟩ := S
  intro T hT X
  rcases vx_callS X hx (bytes := bytes) (maxL := maxL) (ret := ret) ho hl hstt hini hcode hy hK hg (hsize.trans hml.symm) (argsL := As) (rest := rest) (fun sig h => hn.trans (hlen sig h)) hstack hW (by rw [hb]; exact hdg)
    (fun vm₁ hW₁ => ⟨hf.1, hf.2, hp.2 (T.setVm vm₁) hT hW₁⟩) with ⟨v, vm₁, ⟨U', l2, c2, s2⟩, hW₁, X', ⟨g', mk, t, L, e1, e2, hq, h1, hL, h2, h3⟩, st⟩ | ⟨q, vm₁, ⟨U', l2, c2, s2⟩, hW₁, X', ⟨g', mk, t, L, E, ce, e1, e2, hq, hce, hcv, hcl, h1, hL, h2, h3⟩, st⟩
  · dsimp only [Pt.U, Pt.locs, Pt.cells, Pt.slots] at X' e1 e2 h1 h2 h3 st
    subst h1; subst h2; subst h3
    exact Or.inl ⟨v, (T.setVm vm₁).calling g' mk As.toArray, t, U', L, hT, X', hL, e1, e2, hq, st⟩
  · dsimp only [Pt.U, Pt.locs, Pt.cells, Pt.slots] at X' e1 e2 h1 h2 h3 st hcl
    subst h1; subst h2; subst h3
    exact Or.inr ⟨q, (T.setVm vm₁).calling g' mk As.toArray, t, U', L, E, ce, hT, X', hL, e1, e2, hq, hce, hcv, vx_cls hW₁ hcl, st⟩
end Runs
section Rows
variable {p : Program} {l : Launch} {e : Env} {R : Room} {s : State} {m : MethodId} {args : Array Value} {below : List Frame} {meth : Method} {c : Code} {H : Heap} {locs : List Loc} {cells slots : Nat} {Q : State → Prop}
variable {mc ms : Nat} {free : Addr → Prop} {A0 A1 : Nat → Prop} {H0 : Heap} {a : Array Value} {pc : Nat} {ls : Array Slot} {st0 rest : List Value}
theorem vx_keep {st₀ t T' : State} {L : List Loc} (h0 : st₀.heap = H) (e1 : T'.heap = t.heap) (hS : va_S A0 H0 H locs) (hA : ∀ q, q < H.size → A1 q → A0 q) (hf : ∀ q, free q → A0 q) (hL : ∀ q ∈ L, free q.base) (hF : va_F A1 st₀ t) :
    H.size ≤ T'.heap.size ∧ (∀ q : Nat, q < H.size → ¬ A1 q → T'.heap[q]? = H[q]?) ∧ va_S A0 H0 T'.heap (locs ++ L) := by
  obtain ⟨hz, hk⟩ := hF
  rw [h0] at hz hk
  exact ⟨by rw [e1]; exact hz, fun q h1 h2 => by rw [e1]; exact hk q h1 h2,
    ⟨Nat.le_trans hS.1 (by rw [e1]; exact hz), fun q h1 h2 => by rw [e1, hk q (Nat.lt_of_lt_of_le h1 hS.1) (fun z => h2 (hA q (Nat.lt_of_lt_of_le h1 hS.1) z))]; exact hS.2.1 q h1 h2, fun q hq => by
      rcases List.mem_append.mp hq with h | h
      · exact hS.2.2 q h
      · exact hf _ (hL q h)⟩⟩
theorem vx_calli {S SX : Type} {post : Int32 → S → Prop} {px : SX → Prop} {B : S → State → Prop} {BX : String → SX → State → Prop} {AX : Nat → Prop} (hr : vx_Run p l e R s m args below meth c H locs cells slots mc ms (F0 m pc ls st0) rest (va_Qi post B A1 a) (vx_X px BX AX) free) (hS : va_S A0 H0 H locs) (hA : ∀ q, q < H.size → A1 q → A0 q) (hf : ∀ q, free q → A0 q) (hAX : ∀ q, q < H.size → AX q → A0 q)
    (kx : ∀ (E : String) (ce : Cell) (q9 : Addr) (u : SX) (t : State) (H1 : Heap) (locs1 : List Loc), t.heap = H1 → s.vm.Alike t.vm → px u → BX E u t → H.size ≤ H1.size → (∀ q : Nat, q < H.size → ¬ AX q → H1[q]? = H[q]?) → va_S A0 H0 H1 locs1 → H1[q9]? = some ce → ce.vm = .none → s.vm.findClass E = some ce.cls → vx_W p l e R s m args below meth c H1 locs1 (cells + mc) (slots + ms) Q (F0 m pc ls rest) q9)
    (kk : ∀ (r : Int32) (u : S) (t : State) (H1 : Heap) (locs1 : List Loc), t.heap = H1 → s.vm.Alike t.vm → post r u → B u t → H.size ≤ H1.size → (∀ q : Nat, q < H.size → ¬ A1 q → H1[q]? = H[q]?) → va_S A0 H0 H1 locs1 → W p l e R s m args below meth c H1 locs1 (cells + mc) (slots + ms) Q (F0 m (pc + 3) ls (.int r :: rest))) : W p l e R s m args below meth c H locs cells slots Q (F0 m pc ls st0) := by
  intro T hT X
  rcases hr T hT X with ⟨v, st₀, t, T', L, h0, X', hL, e1, e2, ⟨⟨r, u, hv, hp, hb⟩, hF⟩, st⟩ | ⟨q, st₀, t, T', L, E, ce, h0, X', hL, e1, e2, ⟨u, hp, hb, hF⟩, hce, hcv, hcl, st⟩
  · cases hv
    obtain ⟨k1, k2, k3⟩ := vx_keep h0 e1 hS hA hf hL hF
    obtain ⟨t2, a1, b1⟩ := kk r u t T'.heap (locs ++ L) e1.symm (by rw [← e2]; exact X'.warmed.alike) hp hb k1 k2 k3 T' rfl X'
    exact ⟨t2, st t2 a1, b1⟩
  · obtain ⟨k1, k2, k3⟩ := vx_keep h0 e1 hS hAX hf hL hF
    obtain ⟨t2, a1, b1⟩ := kx E ce q u t T'.heap (locs ++ L) e1.symm (by rw [← e2]; exact X'.warmed.alike) hp hb k1 k2 k3 (by rw [e1]; exact hce) hcv hcl T' rfl X'
    exact ⟨t2, st.trans a1, b1⟩
theorem vx_calll {S SX : Type} {post : Int64 → S → Prop} {px : SX → Prop} {B : S → State → Prop} {BX : String → SX → State → Prop} {AX : Nat → Prop} (hr : vx_Run p l e R s m args below meth c H locs cells slots mc ms (F0 m pc ls st0) rest (va_Ql post B A1 a) (vx_X px BX AX) free) (hS : va_S A0 H0 H locs) (hA : ∀ q, q < H.size → A1 q → A0 q) (hf : ∀ q, free q → A0 q) (hAX : ∀ q, q < H.size → AX q → A0 q)
    (kx : ∀ (E : String) (ce : Cell) (q9 : Addr) (u : SX) (t : State) (H1 : Heap) (locs1 : List Loc), t.heap = H1 → s.vm.Alike t.vm → px u → BX E u t → H.size ≤ H1.size → (∀ q : Nat, q < H.size → ¬ AX q → H1[q]? = H[q]?) → va_S A0 H0 H1 locs1 → H1[q9]? = some ce → ce.vm = .none → s.vm.findClass E = some ce.cls → vx_W p l e R s m args below meth c H1 locs1 (cells + mc) (slots + ms) Q (F0 m pc ls rest) q9)
    (kk : ∀ (r : Int64) (u : S) (t : State) (H1 : Heap) (locs1 : List Loc), t.heap = H1 → s.vm.Alike t.vm → post r u → B u t → H.size ≤ H1.size → (∀ q : Nat, q < H.size → ¬ A1 q → H1[q]? = H[q]?) → va_S A0 H0 H1 locs1 → W p l e R s m args below meth c H1 locs1 (cells + mc) (slots + ms) Q (F0 m (pc + 3) ls (.long r :: rest))) : W p l e R s m args below meth c H locs cells slots Q (F0 m pc ls st0) := by
  intro T hT X
  rcases hr T hT X with ⟨v, st₀, t, T', L, h0, X', hL, e1, e2, ⟨⟨r, u, hv, hp, hb⟩, hF⟩, st⟩ | ⟨q, st₀, t, T', L, E, ce, h0, X', hL, e1, e2, ⟨u, hp, hb, hF⟩, hce, hcv, hcl, st⟩
  · cases hv
    obtain ⟨k1, k2, k3⟩ := vx_keep h0 e1 hS hA hf hL hF
    obtain ⟨t2, a1, b1⟩ := kk r u t T'.heap (locs ++ L) e1.symm (by rw [← e2]; exact X'.warmed.alike) hp hb k1 k2 k3 T' rfl X'
    exact ⟨t2, st t2 a1, b1⟩
  · obtain ⟨k1, k2, k3⟩ := vx_keep h0 e1 hS hAX hf hL hF
    obtain ⟨t2, a1, b1⟩ := kx E ce q u t T'.heap (locs ++ L) e1.symm (by rw [← e2]; exact X'.warmed.alike) hp hb k1 k2 k3 (by rw [e1]; exact hce) hcv hcl T' rfl X'
    exact ⟨t2, st.trans a1, b1⟩
theorem vx_callf {S SX : Type} {post : UInt32 → S → Prop} {px : SX → Prop} {B : S → State → Prop} {BX : String → SX → State → Prop} {AX : Nat → Prop} (hr : vx_Run p l e R s m args below meth c H locs cells slots mc ms (F0 m pc ls st0) rest (va_Qf post B A1 a) (vx_X px BX AX) free) (hS : va_S A0 H0 H locs) (hA : ∀ q, q < H.size → A1 q → A0 q) (hf : ∀ q, free q → A0 q) (hAX : ∀ q, q < H.size → AX q → A0 q)
    (kx : ∀ (E : String) (ce : Cell) (q9 : Addr) (u : SX) (t : State) (H1 : Heap) (locs1 : List Loc), t.heap = H1 → s.vm.Alike t.vm → px u → BX E u t → H.size ≤ H1.size → (∀ q : Nat, q < H.size → ¬ AX q → H1[q]? = H[q]?) → va_S A0 H0 H1 locs1 → H1[q9]? = some ce → ce.vm = .none → s.vm.findClass E = some ce.cls → vx_W p l e R s m args below meth c H1 locs1 (cells + mc) (slots + ms) Q (F0 m pc ls rest) q9)
    (kk : ∀ (r : UInt32) (u : S) (t : State) (H1 : Heap) (locs1 : List Loc), t.heap = H1 → s.vm.Alike t.vm → post r u → B u t → H.size ≤ H1.size → (∀ q : Nat, q < H.size → ¬ A1 q → H1[q]? = H[q]?) → va_S A0 H0 H1 locs1 → W p l e R s m args below meth c H1 locs1 (cells + mc) (slots + ms) Q (F0 m (pc + 3) ls (.float r :: rest))) : W p l e R s m args below meth c H locs cells slots Q (F0 m pc ls st0) := by
  intro T hT X
  rcases hr T hT X with ⟨v, st₀, t, T', L, h0, X', hL, e1, e2, ⟨⟨r, u, hv, hp, hb⟩, hF⟩, st⟩ | ⟨q, st₀, t, T', L, E, ce, h0, X', hL, e1, e2, ⟨u, hp, hb, hF⟩, hce, hcv, hcl, st⟩
  · cases hv
    obtain ⟨k1, k2, k3⟩ := vx_keep h0 e1 hS hA hf hL hF
    obtain ⟨t2, a1, b1⟩ := kk r u t T'.heap (locs ++ L) e1.symm (by rw [← e2]; exact X'.warmed.alike) hp hb k1 k2 k3 T' rfl X'
    exact ⟨t2, st t2 a1, b1⟩
  · obtain ⟨k1, k2, k3⟩ := vx_keep h0 e1 hS hAX hf hL hF
    obtain ⟨t2, a1, b1⟩ := kx E ce q u t T'.heap (locs ++ L) e1.symm (by rw [← e2]; exact X'.warmed.alike) hp hb k1 k2 k3 (by rw [e1]; exact hce) hcv hcl T' rfl X'
    exact ⟨t2, st.trans a1, b1⟩
theorem vx_calld {S SX : Type} {post : UInt64 → S → Prop} {px : SX → Prop} {B : S → State → Prop} {BX : String → SX → State → Prop} {AX : Nat → Prop} (hr : vx_Run p l e R s m args below meth c H locs cells slots mc ms (F0 m pc ls st0) rest (va_Qd post B A1 a) (vx_X px BX AX) free) (hS : va_S A0 H0 H locs) (hA : ∀ q, q < H.size → A1 q → A0 q) (hf : ∀ q, free q → A0 q) (hAX : ∀ q, q < H.size → AX q → A0 q)
    (kx : ∀ (E : String) (ce : Cell) (q9 : Addr) (u : SX) (t : State) (H1 : Heap) (locs1 : List Loc), t.heap = H1 → s.vm.Alike t.vm → px u → BX E u t → H.size ≤ H1.size → (∀ q : Nat, q < H.size → ¬ AX q → H1[q]? = H[q]?) → va_S A0 H0 H1 locs1 → H1[q9]? = some ce → ce.vm = .none → s.vm.findClass E = some ce.cls → vx_W p l e R s m args below meth c H1 locs1 (cells + mc) (slots + ms) Q (F0 m pc ls rest) q9)
    (kk : ∀ (r : UInt64) (u : S) (t : State) (H1 : Heap) (locs1 : List Loc), t.heap = H1 → s.vm.Alike t.vm → post r u → B u t → H.size ≤ H1.size → (∀ q : Nat, q < H.size → ¬ A1 q → H1[q]? = H[q]?) → va_S A0 H0 H1 locs1 → W p l e R s m args below meth c H1 locs1 (cells + mc) (slots + ms) Q (F0 m (pc + 3) ls (.double r :: rest))) : W p l e R s m args below meth c H locs cells slots Q (F0 m pc ls st0) := by
  intro T hT X
  rcases hr T hT X with ⟨v, st₀, t, T', L, h0, X', hL, e1, e2, ⟨⟨r, u, hv, hp, hb⟩, hF⟩, st⟩ | ⟨q, st₀, t, T', L, E, ce, h0, X', hL, e1, e2, ⟨u, hp, hb, hF⟩, hce, hcv, hcl, st⟩
  · cases hv
    obtain ⟨k1, k2, k3⟩ := vx_keep h0 e1 hS hA hf hL hF
    obtain ⟨t2, a1, b1⟩ := kk r u t T'.heap (locs ++ L) e1.symm (by rw [← e2]; exact X'.warmed.alike) hp hb k1 k2 k3 T' rfl X'
    exact ⟨t2, st t2 a1, b1⟩
  · obtain ⟨k1, k2, k3⟩ := vx_keep h0 e1 hS hAX hf hL hF
    obtain ⟨t2, a1, b1⟩ := kx E ce q u t T'.heap (locs ++ L) e1.symm (by rw [← e2]; exact X'.warmed.alike) hp hb k1 k2 k3 (by rw [e1]; exact hce) hcv hcl T' rfl X'
    exact ⟨t2, st.trans a1, b1⟩
theorem vx_callv {S SX : Type} {post : S → Prop} {px : SX → Prop} {B : S → State → Prop} {BX : String → SX → State → Prop} {AX : Nat → Prop} (hr : vx_Run p l e R s m args below meth c H locs cells slots mc ms (F0 m pc ls st0) rest (va_Qv post B A1 a) (vx_X px BX AX) free) (hS : va_S A0 H0 H locs) (hA : ∀ q, q < H.size → A1 q → A0 q) (hf : ∀ q, free q → A0 q) (hAX : ∀ q, q < H.size → AX q → A0 q)
    (kx : ∀ (E : String) (ce : Cell) (q9 : Addr) (u : SX) (t : State) (H1 : Heap) (locs1 : List Loc), t.heap = H1 → s.vm.Alike t.vm → px u → BX E u t → H.size ≤ H1.size → (∀ q : Nat, q < H.size → ¬ AX q → H1[q]? = H[q]?) → va_S A0 H0 H1 locs1 → H1[q9]? = some ce → ce.vm = .none → s.vm.findClass E = some ce.cls → vx_W p l e R s m args below meth c H1 locs1 (cells + mc) (slots + ms) Q (F0 m pc ls rest) q9)
    (kk : ∀ (u : S) (t : State) (H1 : Heap) (locs1 : List Loc), t.heap = H1 → s.vm.Alike t.vm → post u → B u t → H.size ≤ H1.size → (∀ q : Nat, q < H.size → ¬ A1 q → H1[q]? = H[q]?) → va_S A0 H0 H1 locs1 → W p l e R s m args below meth c H1 locs1 (cells + mc) (slots + ms) Q (F0 m (pc + 3) ls (rest))) : W p l e R s m args below meth c H locs cells slots Q (F0 m pc ls st0) := by
  intro T hT X
  rcases hr T hT X with ⟨v, st₀, t, T', L, h0, X', hL, e1, e2, ⟨⟨u, hv, hp, hb⟩, hF⟩, st⟩ | ⟨q, st₀, t, T', L, E, ce, h0, X', hL, e1, e2, ⟨u, hp, hb, hF⟩, hce, hcv, hcl, st⟩
  · cases hv
    obtain ⟨k1, k2, k3⟩ := vx_keep h0 e1 hS hA hf hL hF
    obtain ⟨t2, a1, b1⟩ := kk u t T'.heap (locs ++ L) e1.symm (by rw [← e2]; exact X'.warmed.alike) hp hb k1 k2 k3 T' rfl X'
    exact ⟨t2, st t2 a1, b1⟩
  · obtain ⟨k1, k2, k3⟩ := vx_keep h0 e1 hS hAX hf hL hF
    obtain ⟨t2, a1, b1⟩ := kx E ce q u t T'.heap (locs ++ L) e1.symm (by rw [← e2]; exact X'.warmed.alike) hp hb k1 k2 k3 (by rw [e1]; exact hce) hcv hcl T' rfl X'
    exact ⟨t2, st.trans a1, b1⟩
/-- caught by the row x of this method's table; the rows ahead don't take it -/
theorem vx_catch {own name : String} {E : String} {ce : Cell} {q : Addr} (hown : s.vm.findClass own = some m.cls) (pre : List ExceptionTableEntry) (x : ExceptionTableEntry) (suf : List ExceptionTableEntry) (hsplit : c.exceptionTable.toList = pre ++ x :: suf)
    (hpass : ∀ z ∈ pre, covers z pc = false ∨ (z.catchType ≠ 0 ∧ ∃ nm : String, (Cond.classLink own z.catchType nm).before args s = true ∧ va_Nc E nm s)) (hx : covers x pc = true) (h0 : x.catchType ≠ 0)
    (hlink : (Cond.classLink own x.catchType name).before args s = true) (hcast : (Cond.castable E name).before args s = true) (hcell : H[q]? = some ce) (hv : ce.vm = .none) (hcl : s.vm.findClass E = some ce.cls)
    (kk : W p l e R s m args below meth c H locs cells slots Q (F0 m x.handlerPc ls [.ref q])) : vx_W p l e R s m args below meth c H locs cells slots Q (F0 m pc ls rest) q := by
  intro T hT X
  have hpl : e.platform.magicAccessors = ({} : Platform).magicAccessors := by rw [X.admits.platform]
  obtain ⟨c3, c4, hc3, hc4, hasg⟩ := Cond.castable_spec hcast
  cases Option.some.inj (hc3.symm.trans hcl)
  obtain ⟨c5, hc5, hcl5⟩ := Cond.classLink_spec hown hlink e.platform hpl
  cases Option.some.inj (hc4.symm.trans hc5)
  obtain ⟨vm', X', st⟩ := X.thenCaughtThrough q (g := F0 m pc ls rest) rfl (Steps.refl _) (by rw [hT]; exact hcell) (by rw [hv]; rfl) (by obtain ⟨k9, h9, -⟩ := Vm.findClass_spec hcl; exact ⟨k9, h9⟩) pre x suf hsplit
    (fun z hz => by
      rcases hpass z hz with h | ⟨hz0, nm, hl1, hn1⟩
      · exact Or.inl h
      · obtain ⟨c6, hc6, hcl6⟩ := Cond.classLink_spec hown hl1 e.platform hpl
        obtain ⟨a8, b8, h1, h2, h3⟩ := hn1
        cases Option.some.inj (h1.symm.trans hcl)
        cases Option.some.inj (h2.symm.trans hc6)
        exact Or.inr ⟨hz0, _, hcl6, h3⟩) hx (Or.inr ⟨h0, c4, hcl5, hasg⟩)
  obtain ⟨t, a1, b1⟩ := kk (T.setVm vm') hT X'
  exact ⟨t, st.trans a1, b1⟩
end Rows
section Ends
variable {p : Program} {l : Launch} {e : Env} {R : Room} {s : State} {m : MethodId} {args : Array Value} {below : List Frame} {meth : Method} {c : Code} {H : Heap} {locs : List Loc} {cells slots : Nat} {Q : State → Prop}
variable {mc ms : Nat} {free : Addr → Prop} {A0 A1 : Nat → Prop} {H0 : Heap} {a : Array Value} {ls : Array Slot} {st0 rest : List Value}
variable {Qc : Array Value → State → Outcome → State → Prop} {XC : String → State → State → Prop}
/-- what a body that may throw owes at its end -/
def vx_MQ (below : List Frame) (Qc : Array Value → State → Outcome → State → Prop) (XC : String → State → State → Prop) (a : Array Value) (s : State) (mc ms : Nat) (free : Addr → Prop) : State → Prop := fun t =>
  ∃ o, t.status = .running ∧ Ended t below o ∧ vx_Q Qc XC mc ms free a s o t
theorem vx_ret {g : JFrame} {mc ms : Nat} (k : W p l e R s m args below meth c H locs cells slots (MQ below Qc args s mc ms free) g) : W p l e R s m args below meth c H locs cells slots (vx_MQ below Qc XC args s mc ms free) g := by
  intro T hT X
  obtain ⟨t, a1, o, b1, b2, b3, b4⟩ := k T hT X
  exact ⟨t, a1, o, b1, b2, Or.inl ⟨b3, b4⟩⟩
/-- not caught here: it goes on to the caller -/
theorem vx_widen {g : JFrame} {q : Addr} {k n : Nat} (h1 : cells ≤ k) (h2 : slots ≤ n) (kk : vx_W p l e R s m args below meth c H locs k n Q g q) : vx_W p l e R s m args below meth c H locs cells slots Q g q := fun T hT X => kk T hT (stand_widen X h1 h2)
theorem vx_out {pc : Nat} {E : String} {ce : Cell} {q : Addr} {mc ms : Nat} (hout : ∀ x ∈ c.exceptionTable.toList, covers x pc = false) (hlocks : meth.locks = false) (hcell : H[q]? = some ce) (hv : ce.vm = .none) (hcl : s.vm.findClass E = some ce.cls)
    (hx : ∀ t : State, t.heap = H → s.vm.Alike t.vm → XC E s t) (hf : ∀ z ∈ locs, free z.base) (hc : cells ≤ mc) (hs : slots ≤ ms) :
    vx_W p l e R s m args below meth c H locs cells slots (vx_MQ below Qc XC args s mc ms free) (F0 m pc ls rest) q := by
  intro T hT X
  obtain ⟨st1, hrun, hend, hW, hsm⟩ := X.leaveThrown q (g := F0 m pc ls rest) rfl rfl rfl hout hlocks
  have hcell9 : (T.setFrames (.throwing q :: below)).heap[q]? = some ce := by
    show T.heap[q]? = some ce
    rw [hT]; exact hcell
  exact ⟨_, st1, .threw q, hrun, hend, Or.inr ⟨q, rfl, E, ce, locs, hx _ hT hW.alike, hcell9, hv, hcl, hW, hsm.mono hc hs, hf⟩⟩
theorem vx_frame {U : State} {k n : Nat} (h : s.sameButNew ({ U with vm := s.vm } : State) locs k n) : s.heap.size ≤ U.heap.size ∧ ∀ q : Nat, q < s.heap.size → (∀ z ∈ locs, z.base ≠ q) → U.heap[q]? = s.heap[q]? := by
  obtain ⟨-, h2, -, -, -, h6⟩ := h
  refine ⟨h2, fun q hq hz => ?_⟩
  obtain ⟨c9, e1, e2, e3, e4⟩ := h6 q _ (Array.getElem?_eq_getElem hq)
  have hs : c9.slots = (s.heap[q]).slots := Array.ext_getElem? fun i => e4 i fun hm => hz _ hm rfl
  have h9 : c9 = s.heap[q] := by
    rw [hs] at e2
    exact e2
  have e5 : U.heap[q]? = some c9 := e1
  rw [e5, h9, Array.getElem?_eq_getElem hq]
/-- the words of a throw but the four that speak of the heap -/
def vx_no (w : Cond) : Bool := decide (w ≠ .isRef (.static Bundle.tN "UNASSIGNED_STACK" Bundle.steD)) && decide (w ≠ .isRef (.static Bundle.tN "SUPPRESSED_SENTINEL" Bundle.listD)) && decide (w ≠ .laysStatic Bundle.tN "UNASSIGNED_STACK" Bundle.steD) && decide (w ≠ .laysStatic Bundle.tN "SUPPRESSED_SENTINEL" Bundle.listD)
def vx_at0 (own : String) (ic : Nat) (X : String) (names : List String) : List Cond := (Bundle.ownAtoms0 own ic X names).filter vx_no
def vx_atS (own : String) (ic : Nat) (X : String) (names : List String) : List Cond := (Bundle.ownAtoms own ic X names).filter vx_no
/-- a word that the tables alone decide, or a good one -/
def vx_ot (w : Cond) : Bool := w.onTables || goodWord w
theorem vx_ot_at {args a' : Array Value} {s U : State} {w : Cond} (hW : s.WarmedH U.vm) (hvm : s.vm = U.vm) (hg : vx_ot w = true) (h : w.before args s = true) : w.before a' U = true := by
  simp only [vx_ot, Bool.or_eq_true] at hg
  rcases hg with hg | hg
  · exact va_tabs hg hvm h
  · exact word_at hW (good_of_word hg) h
/-- a list's words: the good ones out of the method's own list, the others by premises of their own -/
theorem vx_hat {args : Array Value} {s : State} {L B : List Cond} (h1 : ∀ w ∈ L.filter goodWord, w.before args s = true) (h2 : ∀ w ∈ L.filter (fun w => !goodWord w), w ∈ B) (h3 : ∀ w ∈ B, w.before args s = true) : ∀ w ∈ L, w.before args s = true := by
  intro w hw
  by_cases g : goodWord w = true
  · exact h1 w (List.mem_filter.mpr ⟨hw, g⟩)
  · refine h3 w (h2 w (List.mem_filter.mpr ⟨hw, ?_⟩))
    show (!goodWord w) = true
    cases hgw : goodWord w
    · rfl
    · exact absurd hgw g
theorem vx_c {args : Array Value} {s : State} {w : Cond} {B : List Cond} (h : w.before args s = true) (t : ∀ w ∈ B, w.before args s = true) : ∀ w' ∈ w :: B, w'.before args s = true := fun w' h' => (List.mem_cons.mp h').elim (fun e => by rw [e]; exact h) (t w')
theorem vx_n {args : Array Value} {s : State} : ∀ w ∈ ([] : List Cond), w.before args s = true := fun _ h => nomatch h
theorem vx_own {args : Array Value} {s : State} {L : List Cond} (h1 : ∀ w ∈ L.filter vx_no, w.before args s = true)
    (hU : (Cond.isRef (.static Bundle.tN "UNASSIGNED_STACK" Bundle.steD)).before args s = true) (hN : (Cond.isRef (.static Bundle.tN "SUPPRESSED_SENTINEL" Bundle.listD)).before args s = true)
    (lU : (Cond.laysStatic Bundle.tN "UNASSIGNED_STACK" Bundle.steD).before args s = true) (lN : (Cond.laysStatic Bundle.tN "SUPPRESSED_SENTINEL" Bundle.listD).before args s = true) : ∀ w ∈ L, w.before args s = true := by
  intro w hw
  by_cases e1 : w = .isRef (.static Bundle.tN "UNASSIGNED_STACK" Bundle.steD)
  · rw [e1]; exact hU
  · by_cases e2 : w = .isRef (.static Bundle.tN "SUPPRESSED_SENTINEL" Bundle.listD)
    · rw [e2]; exact hN
    · by_cases e3 : w = .laysStatic Bundle.tN "UNASSIGNED_STACK" Bundle.steD
      · rw [e3]; exact lU
      · by_cases e4 : w = .laysStatic Bundle.tN "SUPPRESSED_SENTINEL" Bundle.listD
        · rw [e4]; exact lN
        · exact h1 w (List.mem_filter.mpr ⟨hw, by unfold vx_no; rw [decide_eq_true e1, decide_eq_true e2, decide_eq_true e3, decide_eq_true e4]; rfl⟩)
/-- where a static field lies, its class's statics cell in H -/
def vx_L (C n d : String) (A : Nat → Prop) (U : State) (H : Heap) : Prop := ∃ (c : ClassId) (k : Class) (i : Nat) (f : Field) (a : Nat) (cell : Cell), U.vm.findClass C = some c ∧ U.fieldFound? C n d = some (c, k, i, f) ∧ f.isStatic = true ∧ k.statics = some a ∧ H[a]? = some cell ∧ cell.vm.isStatics = true ∧ cell.cls = c ∧ f.slot < cell.slots.size ∧ k.staticTypes[f.slot]? = some f.type ∧ ¬ A a
theorem vx_L.moved {C n d : String} {A : Nat → Prop} {u U : State} {H : Heap} (hvm : u.vm.Alike U.vm) (h : vx_L C n d A u H) : vx_L C n d A U H := by
  obtain ⟨c, k, i, f, a, cell, h1, h2, h3, h4, h5, h6, h7, h8, h9, h10⟩ := h
  obtain ⟨k', hi', he⟩ := State.fieldFound?_setVm hvm h2
  exact ⟨c, k', i, f, a, cell, by rw [hvm.findClass]; exact h1, hi', h3, by rw [he]; exact h4, h5, h6, h7, h8, by rw [he]; exact h9, h10⟩
theorem vx_L.kept {C n d : String} {A : Nat → Prop} {U : State} {H H1 : Heap} (h : vx_L C n d A U H) (hq : ∀ a : Nat, a < H.size → ¬ A a → H1[a]? = H[a]?) : vx_L C n d A U H1 := by
  obtain ⟨c, k, i, f, a, cell, h1, h2, h3, h4, h5, h6, h7, h8, h9, h10⟩ := h
  exact ⟨c, k, i, f, a, cell, h1, h2, h3, h4, by rw [hq a (Array.getElem?_eq_some_iff.mp h5).1 h10]; exact h5, h6, h7, h8, h9, h10⟩
theorem vx_L.narrow {C n d : String} {A B : Nat → Prop} {U : State} {H : Heap} (h : vx_L C n d A U H) (hAB : ∀ q, B q → A q) : vx_L C n d B U H := by
  obtain ⟨c, k, i, f, a, cell, h1, h2, h3, h4, h5, h6, h7, h8, h9, h10⟩ := h
  exact ⟨c, k, i, f, a, cell, h1, h2, h3, h4, h5, h6, h7, h8, h9, fun z => h10 (hAB _ z)⟩
theorem vx_L.word {C n d : String} {A : Nat → Prop} {s : State} {args : Array Value} (h : vx_L C n d A s s.heap) : (Cond.laysStatic C n d).before args s = true := by
  obtain ⟨c, k, i, f, a, cell, h1, h2, h3, h4, h5, h6, h7, h8, h9, -⟩ := h
  show (Cond.laysStatic C n d).holds args s none s [] = true
  exact Cond.laysStatic_of h1 h2 h3 h4 h5 h6 h7 h8 h9
/-- .. and what it holds: null or some reference -/
def vx_Zq (C n d : String) (A : Nat → Prop) (U : State) (H : Heap) : Prop := va_Zq C n d A U H ∧ vx_L C n d A U H
theorem vx_Zq.moved {C n d : String} {A : Nat → Prop} {u U : State} {H : Heap} (hvm : u.vm.Alike U.vm) (h : vx_Zq C n d A u H) : vx_Zq C n d A U H := ⟨va_Zq.moved hvm h.1, vx_L.moved hvm h.2⟩
theorem vx_Zq.kept {C n d : String} {A : Nat → Prop} {U : State} {H H1 : Heap} (h : vx_Zq C n d A U H) (hq : ∀ a : Nat, a < H.size → ¬ A a → H1[a]? = H[a]?) : vx_Zq C n d A U H1 := ⟨va_Zq.kept h.1 hq, vx_L.kept h.2 hq⟩
theorem vx_Zq.narrow {C n d : String} {A B : Nat → Prop} {U : State} {H : Heap} (h : vx_Zq C n d A U H) (hAB : ∀ q, B q → A q) : vx_Zq C n d B U H := ⟨va_Zq.narrow h.1 hAB, vx_L.narrow h.2 hAB⟩
theorem vx_Zqof {args : Array Value} {s : State} {C n d : String} {A : Nat → Prop} (hl : (Cond.laysStatic C n d).before args s = true) (hini : (Cond.initialized C).before args s = true) (h : (Cond.isRef (.static C n d)).before args s = true) (hA : ∀ a : Nat, a < s.heap.size → ¬ A a) : vx_Zq C n d A s s.heap := by
  refine ⟨va_Zqof hl hini h hA, ?_⟩
  obtain ⟨c, k, i, f, a, cell, h1, h2, h3, h4, h5, h6, h7, h8, h9⟩ := Cond.laysStatic_spec hl
  exact ⟨c, k, i, f, a, cell, h1, h2, h3, h4, h5, h6, h7, h8, h9, hA a (Array.getElem?_eq_some_iff.mp h5).1⟩
theorem vx_isRef {C n d : String} {v : Value} {A : Nat → Prop} {s : State} {args : Array Value} (h : va_Z C n d v A s s.heap) (hv : v.isRef = true) : (Cond.isRef (.static C n d)).before args s = true := by
  obtain ⟨cf, kf, fi, f, a, cell, h1, h2, h3, h4, h5, h6, h7, -⟩ := h
  have he : (Term.static C n d).eval args s none [] s = some v := by
    simp [Term.eval, State.fieldNamed?, h1, h2, h4, h5, h6, h7]
  simp only [Cond.before, Cond.holds, Cond.value, he]
  cases v <;> simp_all [Value.isRef]
theorem vx_isRefq {C n d : String} {A : Nat → Prop} {s : State} {args : Array Value} (h : va_Zq C n d A s s.heap) : (Cond.isRef (.static C n d)).before args s = true := by
  rcases h with h | ⟨t, h⟩
  · exact vx_isRef h rfl
  · exact vx_isRef h rfl
/-- the same frame, seen from here: as if the method were called anew in this heap -/
theorem vx_rebase {T : State} (X : Stand p l e R s m args below meth c T locs cells slots) {R' : Room} (hf : R'.frames ≤ R.frames) (hl : R'.locals ≤ R.locals) (hc : cells + R'.cells ≤ R.cells) (hs : slots + R'.slots ≤ R.slots) :
    Stand p l e R' ((T.setVm s.vm).setFrames (.invoking m args :: below)) m args below meth c T [] 0 0 := by
  have htop : (T.setVm s.vm).topJava?.isSome := X.here.top
  have hF : ((T.setVm s.vm).setFrames (.invoking m args :: below)).frames = .invoking m args :: below := State.frames_setFrames _ (State.cur_lt_of_top htop)
  obtain ⟨g₀, hg0⟩ := Option.isSome_iff_exists.mp htop
  obtain ⟨r, hr⟩ := State.topJava?_eq_some.mp hg0
  have hl9 : e.platform.stackLimits (T.setVm s.vm).me = e.platform.stackLimits s.me := X.limits
  have hb9 : (T.setVm s.vm).me.stackBytes = s.me.stackBytes := X.bytes
  refine ⟨X.admits, X.cas, X.clock, hF, ?_, X.hears, X.method, X.code, X.here, X.tail, X.warmed, ?_, ?_, ?_⟩
  · have h := X.room
    have hU : ((T.setVm s.vm).setFrames (.invoking m args :: below)).localsInUse = s.localsInUse := by
      rw [State.localsInUse_invoking hF (meth := meth) (c := c) X.method X.code, State.localsInUse_invoking X.frames X.method X.code]
    simp only [State.hasRoom, Bool.and_eq_true, decide_eq_true_eq] at h ⊢
    obtain ⟨⟨⟨⟨h1, h2, h3, h4, h5, h6⟩, h7⟩, h8⟩, h9⟩ := h
    rw [X.frames, List.length_cons] at h2 h3
    have q1 := X.heapSize
    have q2 := X.used
    simp only [hF, hU, List.length_cons, State.stackLimits_setFrames, State.stackBytes_setFrames, hl9, hb9]
    refine ⟨⟨⟨⟨by omega, by omega, by omega, by omega, by omega, h6⟩, ?_⟩, ?_⟩, X.book⟩
    · show T.heap.size + R'.cells ≤ e.platform.maxCells
      omega
    · show T.slotsUsed + R'.slots ≤ e.platform.maxSlots
      omega
  · rw [State.stackLimits_setFrames]; rfl
  · rw [State.stackBytes_setFrames]; rfl
  · refine ⟨?_, Nat.le_refl _, Nat.le_refl _, ?_, ?_, fun a c9 h9 => ⟨c9, h9, rfl, rfl, fun _ _ => rfl⟩⟩
    · obtain ⟨t, ht, -⟩ := State.frames_cons hr
      show T.setVm s.vm = { ((T.setVm s.vm).setFrames (.invoking m args :: below)).setFrames (T.setVm s.vm).frames with heap := T.heap, slotsUsed := T.slotsUsed }
      rw [State.setFrames_setFrames, State.setFrames_self ht]
      rfl
    · show T.slotsUsed = T.slotsUsed + ((T.heap.toList.drop T.heap.size).map (·.slots.size)).sum
      rw [List.drop_eq_nil_of_le (Nat.le_of_eq Array.length_toList)]
      rfl
    · show ((T.heap.toList.drop T.heap.size).map (·.slots.size)).sum ≤ 0
      rw [List.drop_eq_nil_of_le (Nat.le_of_eq Array.length_toList)]
      exact Nat.le_refl _
/-- 'throw new E()': new; dup; invokespecial; athrow -/
theorem vx_throw0 {cc : ByteArray} {pc : Nat} (hexec : p.tables.exec = Jvm.exec) (hb : c.code = cc) (hl : l.stackTraces = false) {own cls : String} {names : List String} {ik ic mc ms : Nat} {A : Nat → Prop}
    (hown : s.vm.findClass own = some m.cls) (hcls : Bundle.fit cls = true) (hnames : ∀ n ∈ names, Bundle.fit n = true)
    (hk : (Cond.classLink own ik cls).before args s = true) (hini : (Cond.initialized cls).before args s = true) (hat : ∀ w ∈ vx_at0 own ic cls names, w.before args s = true)
    (hgood : ∀ w ∈ Cond.classLink own ik cls :: Cond.initialized cls :: vx_at0 own ic cls names, vx_ot w = true)
    (hU : vx_Zq Bundle.tN "UNASSIGNED_STACK" Bundle.steD A s s.heap) (hN : vx_Zq Bundle.tN "SUPPRESSED_SENTINEL" Bundle.listD A s s.heap) (hS : va_S A s.heap H locs) (hsize : ls.size = c.maxLocals)
    (d0 : decode cc pc = .ok (.new ik, 3)) (d3 : decode cc (pc + 3) = .ok (.dup, 1)) (d4 : decode cc (pc + 4) = .ok (.invokespecial ic, 3)) (d7 : decode cc (pc + 7) = .ok (.athrow, 1))
    (hout : ∀ x ∈ c.exceptionTable.toList, covers x (pc + 7) = false)
    (hRframes : names.length + 3 < R.frames) (hRlocals : (rest.map fun v => v.category).sum + (13 * (names.length + 1) + 42) ≤ R.locals) (hRcells : cells + 1 ≤ R.cells) (hRslots : slots + 6 ≤ R.slots) (hlocks : meth.locks = false)
    (hx : ∀ t : State, s.vm.Alike t.vm → H.size ≤ t.heap.size → (∀ q : Nat, q < H.size → t.heap[q]? = H[q]?) → XC cls s t)
    (hf : ∀ z ∈ locs, free z.base) (hc : cells + 1 ≤ mc) (hs : slots + 6 ≤ ms) :
    W p l e R s m args below meth c H locs cells slots (vx_MQ below Qc XC args s mc ms free) (F0 m pc ls rest) := by
  intro T hT X
  have htr : e.platform.stackTraces = false := (show e.platform.stackTraces = l.stackTraces by rw [X.admits.platform]).trans hl
  have Y := vx_rebase X (R' := { frames := R.frames, locals := R.locals, cells := 1, slots := 6 }) (Nat.le_refl _) (Nat.le_refl _) hRcells hRslots
  obtain ⟨s', hA⟩ : ∃ z, z = (T.setVm s.vm).setFrames (.invoking m args :: below) := ⟨_, rfl⟩
  rw [← hA] at Y
  have hvm : s'.vm = s.vm := by rw [hA]; rfl
  have hhp : s'.heap = H := by rw [hA]; exact hT
  have hW0 : s.WarmedH s'.vm := by rw [hvm]; exact State.WarmedH.refl s
  have hat' : ∀ w ∈ vx_at0 own ic cls names, w.before args s' = true := fun w hw => vx_ot_at hW0 hvm.symm (hgood w (List.mem_cons_of_mem _ (List.mem_cons_of_mem _ hw))) (hat w hw)
  have hk' : (Cond.classLink own ik cls).before args s' = true := vx_ot_at hW0 hvm.symm (hgood _ List.mem_cons_self) hk
  have hini' : (Cond.initialized cls).before args s' = true := vx_ot_at hW0 hvm.symm (hgood _ (List.mem_cons_of_mem _ List.mem_cons_self)) hini
  have hU' : vx_Zq Bundle.tN "UNASSIGNED_STACK" Bundle.steD A s' s'.heap := by rw [hhp]; exact vx_Zq.moved hW0.alike (hU.kept hS.2.1)
  have hN' : vx_Zq Bundle.tN "SUPPRESSED_SENTINEL" Bundle.listD A s' s'.heap := by rw [hhp]; exact vx_Zq.moved hW0.alike (hN.kept hS.2.1)
  have h : ∀ w ∈ Bundle.ownAtoms0 own ic cls names, w.before args s' = true := vx_own hat' (vx_isRefq hU'.1) (vx_isRefq hN'.1) hU'.2.word hN'.2.word
  have hown' : s'.vm.findClass own = some m.cls := by rw [hvm]; exact hown
  have hins : (Cond.instantiable cls 6).before args s' = true := h _ (by simp [Bundle.ownAtoms0])
  obtain ⟨vm₁, cX, kX, hfX, hkX, -, -, X₁, st1⟩ := Y.newCold hexec (own := own) (C := cls) (index := ik) (n := 6) hown' hk' hins hini'
    (g := F0 m pc ls rest) rfl (by rw [hb]; exact d0) (Nat.le_refl _) (Nat.le_refl _)
  generalize hT1 : (T.setVm vm₁).pushCell { cls := cX, slots := kX.instanceTypes.map defaultValue, vm := .none } = T1 at X₁ st1
  have hcat : (Value.ref T.heap.size).category = 1 := rfl
  have hcellA : T1.heap[T.heap.size]? = some (freshCell cX kX) := by rw [← hT1]; exact State.heap_pushCell_size _ _
  have d3' : decode c.code (pc + 3) = .ok (.dup, 1) := by rw [hb]; exact d3
  obtain ⟨U, hsteps, hrun, hend, hW, hsame, ce, hce, hO⟩ := X₁.ctorThrow0 hexec htr (own := own) (cls := cls) (names := names) (ic := ic) hown' hcls hnames h (fun x hx => nomatch hx) hfX hkX hcellA (by rw [hhp, hT]; exact Nat.le_refl _)
    (g := { method := m, pc := pc + 4, locals := ls, stack := .ref T.heap.size :: .ref T.heap.size :: rest, locked := none }) rfl hsize rfl rfl (rest := rest) rfl
    (by rw [hb]; exact d4) (by rw [hb]; exact d7) hout hRframes (by simp only [List.map_cons, List.sum_cons, hcat]; omega) hlocks
  obtain ⟨f1, f2⟩ := vx_frame hsame
  rw [hhp] at f1 f2
  have hWs : s.WarmedH U.vm := State.WarmedH.trans hW0 hW
  have hcl : s.vm.findClass cls = some ce.cls := by
    have h9 := hO.cls
    rw [hvm] at h9
    exact h9
  have hall : s.sameButNew ({ U with vm := s.vm } : State) locs mc ms := by
    subst hA
    obtain ⟨e1, e2⟩ := hsame
    rw [State.setFrames_setFrames] at e1
    have h2 : (T.setVm s.vm).sameButNew ({ U with vm := s.vm } : State) [] (0 + 1) (0 + 6) := ⟨e1, e2⟩
    have h3 := X.same.trans h2
    rw [List.append_nil] at h3
    exact h3.mono hc hs
  refine ⟨U, ?_, .threw T.heap.size, hrun, hend, Or.inr ⟨T.heap.size, rfl, cls, ce, locs, hx U hWs.alike f1 (fun q hq => f2 q hq (fun z hz => nomatch hz)), hce, hO.vm, hcl, hWs, hall, hf⟩⟩
  refine st1 _ ?_
  show Steps p.tables e below (T1.setTop { method := m, pc := pc + 3, locals := ls, stack := .ref T.heap.size :: rest, locked := none }) _
  jvm_step X₁.here [X₁.here.top, hexec, d3', Value.category]
  exact hsteps
/-- 'throw new E("text")': new; dup; ldc; invokespecial; athrow -/
theorem vx_throwS {cc : ByteArray} {pc : Nat} (hexec : p.tables.exec = Jvm.exec) (hb : c.code = cc) (hl : l.stackTraces = false) {own cls text : String} {names : List String} {ik is ic mc ms sa : Nat} {A : Nat → Prop}
    (hown : s.vm.findClass own = some m.cls) (hcls : Bundle.fit cls = true) (hnames : ∀ n ∈ names, Bundle.fit n = true)
    (hk : (Cond.classLink own ik cls).before args s = true) (hini : (Cond.initialized cls).before args s = true) (hstr : vk_R own is text sa s) (hat : ∀ w ∈ vx_atS own ic cls names, w.before args s = true)
    (hgood : ∀ w ∈ Cond.classLink own ik cls :: Cond.initialized cls :: vx_atS own ic cls names, vx_ot w = true)
    (hU : vx_Zq Bundle.tN "UNASSIGNED_STACK" Bundle.steD A s s.heap) (hN : vx_Zq Bundle.tN "SUPPRESSED_SENTINEL" Bundle.listD A s s.heap) (hS : va_S A s.heap H locs) (hsize : ls.size = c.maxLocals)
    (d0 : decode cc pc = .ok (.new ik, 3)) (d3 : decode cc (pc + 3) = .ok (.dup, 1)) (d4 : decode cc (pc + 4) = .ok (.ldc is, 2)) (d6 : decode cc (pc + 6) = .ok (.invokespecial ic, 3)) (d9 : decode cc (pc + 9) = .ok (.athrow, 1))
    (hout : ∀ x ∈ c.exceptionTable.toList, covers x (pc + 9) = false)
    (hRframes : names.length + 3 < R.frames) (hRlocals : (rest.map fun v => v.category).sum + (13 * (names.length + 1) + 43) ≤ R.locals) (hRcells : cells + 1 ≤ R.cells) (hRslots : slots + 6 ≤ R.slots) (hlocks : meth.locks = false)
    (hx : ∀ t : State, s.vm.Alike t.vm → H.size ≤ t.heap.size → (∀ q : Nat, q < H.size → t.heap[q]? = H[q]?) → XC cls s t)
    (hf : ∀ z ∈ locs, free z.base) (hc : cells + 1 ≤ mc) (hs : slots + 6 ≤ ms) :
    W p l e R s m args below meth c H locs cells slots (vx_MQ below Qc XC args s mc ms free) (F0 m pc ls rest) := by
  intro T hT X
  have htr : e.platform.stackTraces = false := (show e.platform.stackTraces = l.stackTraces by rw [X.admits.platform]).trans hl
  have Y := vx_rebase X (R' := { frames := R.frames, locals := R.locals, cells := 1, slots := 6 }) (Nat.le_refl _) (Nat.le_refl _) hRcells hRslots
  obtain ⟨s', hA⟩ : ∃ z, z = (T.setVm s.vm).setFrames (.invoking m args :: below) := ⟨_, rfl⟩
  rw [← hA] at Y
  have hvm : s'.vm = s.vm := by rw [hA]; rfl
  have hhp : s'.heap = H := by rw [hA]; exact hT
  have hW0 : s.WarmedH s'.vm := by rw [hvm]; exact State.WarmedH.refl s
  have hat' : ∀ w ∈ vx_atS own ic cls names, w.before args s' = true := fun w hw => vx_ot_at hW0 hvm.symm (hgood w (List.mem_cons_of_mem _ (List.mem_cons_of_mem _ hw))) (hat w hw)
  have hk' : (Cond.classLink own ik cls).before args s' = true := vx_ot_at hW0 hvm.symm (hgood _ List.mem_cons_self) hk
  have hini' : (Cond.initialized cls).before args s' = true := vx_ot_at hW0 hvm.symm (hgood _ (List.mem_cons_of_mem _ List.mem_cons_self)) hini
  have hU' : vx_Zq Bundle.tN "UNASSIGNED_STACK" Bundle.steD A s' s'.heap := by rw [hhp]; exact vx_Zq.moved hW0.alike (hU.kept hS.2.1)
  have hN' : vx_Zq Bundle.tN "SUPPRESSED_SENTINEL" Bundle.listD A s' s'.heap := by rw [hhp]; exact vx_Zq.moved hW0.alike (hN.kept hS.2.1)
  have h : ∀ w ∈ Bundle.ownAtoms own ic cls names, w.before args s' = true := vx_own hat' (vx_isRefq hU'.1) (vx_isRefq hN'.1) hU'.2.word hN'.2.word
  have hown' : s'.vm.findClass own = some m.cls := by rw [hvm]; exact hown
  have hins : (Cond.instantiable cls 6).before args s' = true := h _ (by simp [Bundle.ownAtoms])
  obtain ⟨vm₁, cX, kX, hfX, hkX, -, -, X₁, st1⟩ := Y.newCold hexec (own := own) (C := cls) (index := ik) (n := 6) hown' hk' hins hini'
    (g := F0 m pc ls rest) rfl (by rw [hb]; exact d0) (Nat.le_refl _) (Nat.le_refl _)
  generalize hT1 : (T.setVm vm₁).pushCell { cls := cX, slots := kX.instanceTypes.map defaultValue, vm := .none } = T1 at X₁ st1
  have hcat : (Value.ref T.heap.size).category = 1 := rfl
  have hcellA : T1.heap[T.heap.size]? = some (freshCell cX kX) := by rw [← hT1]; exact State.heap_pushCell_size _ _
  have d3' : decode c.code (pc + 3) = .ok (.dup, 1) := by rw [hb]; exact d3
  have d4' : decode c.code (pc + 4) = .ok (.ldc is, 2) := by rw [hb]; exact d4
  have hstr' : vk_R own is text sa s' := vk_R.warm hW0 hstr
  obtain ⟨U, hsteps, hrun, hend, hW, hsame, ce, hce, hO⟩ := X₁.ctorThrowS hexec htr (own := own) (cls := cls) (names := names) (ic := ic) hown' hcls hnames h (fun x hx => nomatch hx) hfX hkX hcellA (by rw [hhp, hT]; exact Nat.le_refl _) (msg := .ref sa) rfl
    (g := { method := m, pc := pc + 6, locals := ls, stack := .ref sa :: .ref T.heap.size :: .ref T.heap.size :: rest, locked := none }) rfl hsize rfl rfl (rest := rest) rfl
    (by rw [hb]; exact d6) (by rw [hb]; exact d9) hout hRframes (by simp only [List.map_cons, List.sum_cons, hcat]; omega) hlocks
  obtain ⟨f1, f2⟩ := vx_frame hsame
  rw [hhp] at f1 f2
  have hWs : s.WarmedH U.vm := State.WarmedH.trans hW0 hW
  have hcl : s.vm.findClass cls = some ce.cls := by
    have h9 := hO.cls
    rw [hvm] at h9
    exact h9
  have hall : s.sameButNew ({ U with vm := s.vm } : State) locs mc ms := by
    subst hA
    obtain ⟨e1, e2⟩ := hsame
    rw [State.setFrames_setFrames] at e1
    have h2 : (T.setVm s.vm).sameButNew ({ U with vm := s.vm } : State) [] (0 + 1) (0 + 6) := ⟨e1, e2⟩
    have h3 := X.same.trans h2
    rw [List.append_nil] at h3
    exact h3.mono hc hs
  refine ⟨U, ?_, .threw T.heap.size, hrun, hend, Or.inr ⟨T.heap.size, rfl, cls, ce, locs, hx U hWs.alike f1 (fun q hq => f2 q hq (fun z hz => nomatch hz)), hce, hO.vm, hcl, hWs, hall, hf⟩⟩
  refine st1 _ ?_
  show Steps p.tables e below (T1.setTop { method := m, pc := pc + 3, locals := ls, stack := .ref T.heap.size :: rest, locked := none }) _
  jvm_step X₁.here [X₁.here.top, hexec, d3', Value.category]
  exact X₁.ldcString hexec (own := own) (text := text) (index := is) (a := sa) hown' hstr'.1 hstr'.2
    (g := { method := m, pc := pc + 4, locals := ls, stack := .ref T.heap.size :: .ref T.heap.size :: rest, locked := none }) rfl d4' _ hsteps
/-- 'throw new E("text")', the text by a wide index -/
theorem vx_throwSW {cc : ByteArray} {pc : Nat} (hexec : p.tables.exec = Jvm.exec) (hb : c.code = cc) (hl : l.stackTraces = false) {own cls text : String} {names : List String} {ik is ic mc ms sa : Nat} {A : Nat → Prop}
    (hown : s.vm.findClass own = some m.cls) (hcls : Bundle.fit cls = true) (hnames : ∀ n ∈ names, Bundle.fit n = true)
    (hk : (Cond.classLink own ik cls).before args s = true) (hini : (Cond.initialized cls).before args s = true) (hstr : vk_R own is text sa s) (hat : ∀ w ∈ vx_atS own ic cls names, w.before args s = true)
    (hgood : ∀ w ∈ Cond.classLink own ik cls :: Cond.initialized cls :: vx_atS own ic cls names, vx_ot w = true)
    (hU : vx_Zq Bundle.tN "UNASSIGNED_STACK" Bundle.steD A s s.heap) (hN : vx_Zq Bundle.tN "SUPPRESSED_SENTINEL" Bundle.listD A s s.heap) (hS : va_S A s.heap H locs) (hsize : ls.size = c.maxLocals)
    (d0 : decode cc pc = .ok (.new ik, 3)) (d3 : decode cc (pc + 3) = .ok (.dup, 1)) (d4 : decode cc (pc + 4) = .ok (.ldc_w is, 3)) (d7 : decode cc (pc + 7) = .ok (.invokespecial ic, 3)) (d10 : decode cc (pc + 10) = .ok (.athrow, 1))
    (hout : ∀ x ∈ c.exceptionTable.toList, covers x (pc + 10) = false)
    (hRframes : names.length + 3 < R.frames) (hRlocals : (rest.map fun v => v.category).sum + (13 * (names.length + 1) + 43) ≤ R.locals) (hRcells : cells + 1 ≤ R.cells) (hRslots : slots + 6 ≤ R.slots) (hlocks : meth.locks = false)
    (hx : ∀ t : State, s.vm.Alike t.vm → H.size ≤ t.heap.size → (∀ q : Nat, q < H.size → t.heap[q]? = H[q]?) → XC cls s t)
    (hf : ∀ z ∈ locs, free z.base) (hc : cells + 1 ≤ mc) (hs : slots + 6 ≤ ms) :
    W p l e R s m args below meth c H locs cells slots (vx_MQ below Qc XC args s mc ms free) (F0 m pc ls rest) := by
  intro T hT X
  have htr : e.platform.stackTraces = false := (show e.platform.stackTraces = l.stackTraces by rw [X.admits.platform]).trans hl
  have Y := vx_rebase X (R' := { frames := R.frames, locals := R.locals, cells := 1, slots := 6 }) (Nat.le_refl _) (Nat.le_refl _) hRcells hRslots
  obtain ⟨s', hA⟩ : ∃ z, z = (T.setVm s.vm).setFrames (.invoking m args :: below) := ⟨_, rfl⟩
  rw [← hA] at Y
  have hvm : s'.vm = s.vm := by rw [hA]; rfl
  have hhp : s'.heap = H := by rw [hA]; exact hT
  have hW0 : s.WarmedH s'.vm := by rw [hvm]; exact State.WarmedH.refl s
  have hat' : ∀ w ∈ vx_atS own ic cls names, w.before args s' = true := fun w hw => vx_ot_at hW0 hvm.symm (hgood w (List.mem_cons_of_mem _ (List.mem_cons_of_mem _ hw))) (hat w hw)
  have hk' : (Cond.classLink own ik cls).before args s' = true := vx_ot_at hW0 hvm.symm (hgood _ List.mem_cons_self) hk
  have hini' : (Cond.initialized cls).before args s' = true := vx_ot_at hW0 hvm.symm (hgood _ (List.mem_cons_of_mem _ List.mem_cons_self)) hini
  have hU' : vx_Zq Bundle.tN "UNASSIGNED_STACK" Bundle.steD A s' s'.heap := by rw [hhp]; exact vx_Zq.moved hW0.alike (hU.kept hS.2.1)
  have hN' : vx_Zq Bundle.tN "SUPPRESSED_SENTINEL" Bundle.listD A s' s'.heap := by rw [hhp]; exact vx_Zq.moved hW0.alike (hN.kept hS.2.1)
  have h : ∀ w ∈ Bundle.ownAtoms own ic cls names, w.before args s' = true := vx_own hat' (vx_isRefq hU'.1) (vx_isRefq hN'.1) hU'.2.word hN'.2.word
  have hown' : s'.vm.findClass own = some m.cls := by rw [hvm]; exact hown
  have hins : (Cond.instantiable cls 6).before args s' = true := h _ (by simp [Bundle.ownAtoms])
  obtain ⟨vm₁, cX, kX, hfX, hkX, -, -, X₁, st1⟩ := Y.newCold hexec (own := own) (C := cls) (index := ik) (n := 6) hown' hk' hins hini'
    (g := F0 m pc ls rest) rfl (by rw [hb]; exact d0) (Nat.le_refl _) (Nat.le_refl _)
  generalize hT1 : (T.setVm vm₁).pushCell { cls := cX, slots := kX.instanceTypes.map defaultValue, vm := .none } = T1 at X₁ st1
  have hcat : (Value.ref T.heap.size).category = 1 := rfl
  have hcellA : T1.heap[T.heap.size]? = some (freshCell cX kX) := by rw [← hT1]; exact State.heap_pushCell_size _ _
  have d3' : decode c.code (pc + 3) = .ok (.dup, 1) := by rw [hb]; exact d3
  have d4' : decode c.code (pc + 4) = .ok (.ldc_w is, 3) := by rw [hb]; exact d4
  have hstr' : vk_R own is text sa s' := vk_R.warm hW0 hstr
  obtain ⟨U, hsteps, hrun, hend, hW, hsame, ce, hce, hO⟩ := X₁.ctorThrowS hexec htr (own := own) (cls := cls) (names := names) (ic := ic) hown' hcls hnames h (fun x hx => nomatch hx) hfX hkX hcellA (by rw [hhp, hT]; exact Nat.le_refl _) (msg := .ref sa) rfl
    (g := { method := m, pc := pc + 7, locals := ls, stack := .ref sa :: .ref T.heap.size :: .ref T.heap.size :: rest, locked := none }) rfl hsize rfl rfl (rest := rest) rfl
    (by rw [hb]; exact d7) (by rw [hb]; exact d10) hout hRframes (by simp only [List.map_cons, List.sum_cons, hcat]; omega) hlocks
  obtain ⟨f1, f2⟩ := vx_frame hsame
  rw [hhp] at f1 f2
  have hWs : s.WarmedH U.vm := State.WarmedH.trans hW0 hW
  have hcl : s.vm.findClass cls = some ce.cls := by
    have h9 := hO.cls
    rw [hvm] at h9
    exact h9
  have hall : s.sameButNew ({ U with vm := s.vm } : State) locs mc ms := by
    subst hA
    obtain ⟨e1, e2⟩ := hsame
    rw [State.setFrames_setFrames] at e1
    have h2 : (T.setVm s.vm).sameButNew ({ U with vm := s.vm } : State) [] (0 + 1) (0 + 6) := ⟨e1, e2⟩
    have h3 := X.same.trans h2
    rw [List.append_nil] at h3
    exact h3.mono hc hs
  refine ⟨U, ?_, .threw T.heap.size, hrun, hend, Or.inr ⟨T.heap.size, rfl, cls, ce, locs, hx U hWs.alike f1 (fun q hq => f2 q hq (fun z hz => nomatch hz)), hce, hO.vm, hcl, hWs, hall, hf⟩⟩
  refine st1 _ ?_
  show Steps p.tables e below (T1.setTop { method := m, pc := pc + 3, locals := ls, stack := .ref T.heap.size :: rest, locked := none }) _
  jvm_step X₁.here [X₁.here.top, hexec, d3', Value.category]
  exact X₁.ldcStringW hexec (own := own) (text := text) (index := is) (a := sa) hown' hstr'.1 hstr'.2
    (g := { method := m, pc := pc + 4, locals := ls, stack := .ref T.heap.size :: .ref T.heap.size :: rest, locked := none }) rfl d4' _ hsteps
end Ends
section Bodies
variable {l : Launch}
theorem vx_ofW {y : MethodName} {ws ws' : List Cond} {rm : Room} {Pc : Array Value → State → Prop} {Qc : Array Value → State → Outcome → State → Prop} {XC : String → State → State → Prop} {mc ms : Nat} {free : Addr → Prop} {cc : ByteArray} {maxL : Nat} {ret : Option FieldType}
    (hy : plainName y.cls = true) (hw : ws = Cond.code y cc maxL ret :: ws')
    (body : ∀ p e s m args below meth c s₁, BodyLoose p l y (headSpec ws rm) cc maxL ret e s m args below meth c s₁ → c.maxLocals = maxL → (∀ x ∈ c.exceptionTable.toList, False) → Pc args s →
      W p l e (headSpec ws rm).room s m args below meth c s.heap [] 0 0 (vx_MQ below Qc XC args s mc ms free) (entryFrame m args maxL)) : vx_Met l y ws rm Pc Qc XC mc ms free := by
  refine MetFree.of_bodyS (code := cc) (maxLocals := maxL) (ret := ret) hy ?_ ?_
  · intro args s m h hn
    obtain ⟨meth, c, h1, h2, h3, h4, h5, h6, -, -⟩ := Cond.code_spec hn (atoms_spec (ws := ws) h _ (by rw [hw]; exact List.mem_cons_self))
    exact ⟨meth, c, h1, h2, h3, h4, h5, h6⟩
  · intro p e s m args below meth c s₁ B hml hP _
    have hh0 : s₁.heap = s.heap := by rw [B.state]; rfl
    have ht : ∀ x ∈ c.exceptionTable.toList, False := by
      obtain ⟨meth9, c9, h1, h2, -, -, -, -, h7, -⟩ := Cond.code_spec B.named (atoms_spec (ws := ws) B.pre _ (by rw [hw]; exact List.mem_cons_self))
      cases Option.some.inj (h1.symm.trans B.method)
      cases Option.some.inj (h2.symm.trans (Stand.of_body B).code)
      intro x hx
      rw [Array.isEmpty_iff.mp h7] at hx
      cases hx
    obtain ⟨t, a1, o, b1, b2, b3⟩ := body p e s m args below meth c s₁ B hml ht hP s₁ hh0 (Stand.of_body B)
    exact ⟨t, o, a1, b1, b2, b3⟩
/-- the table of a body with handlers -/
theorem vx_table {p : Program} {x y : MethodName} {S : Spec} {cc bytes : ByteArray} {maxL maxL' : Nat} {ret ret' : Option FieldType} {e : Env} {s s₁ : State} {m : MethodId} {args : Array Value} {below : List Frame} {meth : Method} {c : Code} {hh : List (Nat × Nat × Nat × Nat)}
    (B : BodyLoose p l y S cc maxL ret e s m args below meth c s₁) (h : (Cond.codeWith y bytes maxL' ret' hh).before args s = true) : c.exceptionTable.toList = tableOf hh := by
  obtain ⟨m9, meth9, c9, hn9, h1, h2, -, -, h6, -⟩ := Cond.codeWith_spec h
  cases Option.some.inj (hn9.symm.trans B.named)
  cases Option.some.inj (h1.symm.trans B.method)
  cases Option.some.inj (h2.symm.trans (Stand.of_body B).code)
  rw [← h6, table_eq]
end Bodies
end VXA
/-! ===== END ===== -/
/-! ===== BEGIN a static call of a method with an exception table ===== -/
section VXS
variable {p : Program} {l : Launch} {e : Env} {R : Room} {s : State} {m : MethodId} {args : Array Value} {below : List Frame} {meth : Method} {c : Code} {T : State} {H : Heap} {locs : List Loc} {cells slots : Nat}
abbrev vx_CSW (R : Room) (s : State) (args : Array Value) (own : String) (index : Nat) (y : MethodName) (bytes : ByteArray) (maxL : Nat) (ret : Option FieldType) (hh : List (Nat × Nat × Nat × Nat)) (ws : List Cond) (rm : Room) (mc ms n : Nat) : Prop :=
  (rm.cells = mc ∧ rm.slots = ms ∧ rm.frames + 1 ≤ R.frames ∧ 8 + (maxL + 11) + rm.locals ≤ R.locals ∧ (∀ w ∈ ws, ∀ (a' : Array Value) (U : State), s.WarmedH U.vm → w.before a' U = true) ∧ Cond.codeWith y bytes maxL ret hh ∈ ws) ∧
  (Cond.codeWith y bytes maxL ret hh).before args s = true ∧ (Cond.initialized y.cls).before args s = true ∧ (y.cls ≠ "java/lang/invoke/MethodHandle" ∧ y.cls ≠ "java/lang/invoke/VarHandle") ∧
  (∀ sig, parseMethodDescriptor y.desc = some sig → n = sig.parameters.length) ∧ (Cond.methodLink own index y).before args s = true ∧ (Cond.static y).before args s = true
theorem vx_cwSW {own : String} {index maxL mc ms : Nat} {y : MethodName} {bytes : ByteArray} {ret : Option FieldType} {hh : List (Nat × Nat × Nat × Nat)} {Ts ws ws' : List Cond} {rm : Room} (n : Nat) (ht : ∀ w ∈ Ts, w.before args s = true) (hT : GoodIn Ts (va_wsS own index y ws)) (hw : ws = Cond.codeWith y bytes maxL ret hh :: ws') (hrc : rm.cells = mc) (hrs : rm.slots = ms)
    (hd : y.cls ≠ "java/lang/invoke/MethodHandle" ∧ y.cls ≠ "java/lang/invoke/VarHandle" ∧ (parseMethodDescriptor y.desc).map (fun d => d.parameters.length) = some n) (hR : rm.frames + 1 ≤ R.frames ∧ 8 + (maxL + 11) + rm.locals ≤ R.locals) :
    vx_CSW R s args own index y bytes maxL ret hh ws rm mc ms n := by
  have ok : ∀ w ∈ va_wsS own index y ws, w.before args s = true := fun w h => ht w (hT w h).1
  have hG : GoodIn Ts ws := fun w h => hT w (by unfold va_wsS; exact List.mem_append_right _ h)
  have hc : Cond.codeWith y bytes maxL ret hh ∈ ws := by rw [hw]; exact List.mem_cons_self
  refine ⟨⟨hrc, hrs, hR.1, hR.2, pay_in ht hG, hc⟩, ht _ (hG _ hc).1, ok _ (by simp [va_wsS]), ⟨hd.1, hd.2.1⟩, fun sig h => ?_, ok _ (by simp [va_wsS]), ok _ (by simp [va_wsS])⟩
  have h2 := hd.2.2
  rw [h] at h2
  exact (Option.some.inj h2).symm
theorem vx_callSW (X : Stand p l e R s m args below meth c T locs cells slots) (hexec : p.tables.exec = Jvm.exec) {own : String} {index : Nat} {y : MethodName} {bytes : ByteArray} {maxL : Nat} {ret : Option FieldType} {hh : List (Nat × Nat × Nat × Nat)}
    (hown : s.vm.findClass own = some m.cls) (hlink : (Cond.methodLink own index y).before args s = true) (hstat : (Cond.static y).before args s = true) (hinit : (Cond.initialized y.cls).before args s = true)
    (hcode : (Cond.codeWith y bytes maxL ret hh).before args s = true) (hy : y.cls ≠ "java/lang/invoke/MethodHandle" ∧ y.cls ≠ "java/lang/invoke/VarHandle")
    {W9 : Nat} {Pre : Pt → Array Value → Prop} {Post : Pt → Array Value → Option Value → Pt → Prop} (hK : Back l R p e below s args y 3 W9 Pre Post)
    {g : JFrame} (hg : g.method = m) (hsize : g.locals.size = c.maxLocals) {argsL rest : List Value} (hlen : ∀ sig, parseMethodDescriptor y.desc = some sig → argsL.length = sig.parameters.length)
    (hstack : g.stack = argsL.reverse ++ rest) (hW : 2 * g.monitorRoom + (rest.map fun v => v.category).sum ≤ W9) (hdg : decode c.code g.pc = .ok (.invokestatic index, 3))
    (hpre : ∀ vm₁, s.WarmedH vm₁ → Pre ⟨T.setVm vm₁, locs, cells, slots⟩ argsL.toArray) :
    ∃ (v : Option Value) (vm₁ : Vm) (B : Pt), s.WarmedH vm₁ ∧ Stand p l e R s m args below meth c B.U B.locs B.cells B.slots ∧ Post ⟨T.setVm vm₁, locs, cells, slots⟩ argsL.toArray v B ∧
      ∀ target, Steps p.tables e below (B.U.setTop { g with pc := g.pc + 3, stack := v.toList ++ rest }) target → Steps p.tables e below (T.setTop g) target := by
  obtain ⟨mk, methM, cM, hnamed, hmethM, -, -, -, -, -, -, hsigM⟩ := Cond.codeWith_spec hcode
  have hstatic : methM.isStatic = true := Cond.static_spec hnamed hmethM hstat
  obtain ⟨kP, hkP, -⟩ := className_of_methodNamed hnamed
  have hinitP : kP.init = .initialized := Cond.initialized_spec (findClass_of_methodNamed hnamed) hkP hinit
  obtain ⟨vm₁, X₁, hstep₁⟩ := X.invokestatic hexec hown hlink hnamed hmethM hstatic hkP hinitP hy (g := g) hg (argsL := argsL) (rest := rest) (hlen _ hsigM) hstack hdg
  obtain ⟨v, B, X', hpost, hsteps⟩ := hK m meth c ⟨T.setVm vm₁, locs, cells, slots⟩ { g with stack := rest } (.invokestatic index) mk argsL.toArray X₁ hg hsize hdg hW (X₁.named hnamed) (hpre vm₁ X₁.warmed)
  exact ⟨v, vm₁, B, X₁.warmed, X', hpost, fun target h => hstep₁ _ fun acts => by rw [doInvoke_state]; exact hsteps.trans h⟩
theorem vx_runSW {y : MethodName} {bytes cc : ByteArray} {maxL nL mc ms n index : Nat} {ret : Option FieldType} {hh : List (Nat × Nat × Nat × Nat)} {ws : List Cond} {rm : Room} {Pc : Array Value → State → Prop} {Qc : Array Value → State → Outcome → State → Prop} {free : Addr → Prop} {Ts : List Cond} {own : String} {As rest : List Value} {g : JFrame}
    (S : CallFix p m c cc nL s args Ts own) (hM : Met l y ws rm Pc Qc mc ms free) (cw : vx_CSW R s args own index y bytes maxL ret hh ws rm mc ms n) (hp : PreS s H Pc As)
    (hg : g.method = m) (hn : As.length = n) (hsize : g.locals.size = nL) (hstack : g.stack = As.reverse ++ rest) (hW : 2 * g.monitorRoom + (rest.map fun v => v.category).sum ≤ 8) (hdg : decode cc g.pc = .ok (.invokestatic index, 3)) (hf : cells + mc ≤ R.cells ∧ slots + ms ≤ R.slots) :
    va_Run p l e R s m args below meth c H locs cells slots mc ms g rest (Qc As.toArray) (free) := by
  obtain ⟨⟨hrc, hrs, hfr, hlo, hws, hcw⟩, hcode, hini, hy, hlen, hl, hstt⟩ := cw
  have hK : Back l R p e below s args y 3 8 (PreOf R mc ms Pc) (PostOf Qc mc ms free) := va_backW (hh := hh) (bytes := bytes) (maxL := maxL) (ret := ret) hM hp.1 hrc hrs hfr hlo hws hcw (fun a' U hW => word_at hW (Or.inl (by first | rfl | simp [Cond.onTables, Cond.keeps, Cond.steady])) hini)
  obtain ⟨hx, hb, hml, ho, -⟩ := S
  intro T hT X
  obtain ⟨v, vm₁, ⟨U', l2, c2, s2⟩, hW₁, X', ⟨g', mk, t, L, e1, e2, hq, h1, hL, h2, h3⟩, st⟩ := vx_callSW X hx (hh := hh) (bytes := bytes) (maxL := maxL) (ret := ret) ho hl hstt hini hcode hy hK hg (hsize.trans hml.symm) (argsL := As) (rest := rest) (fun sig h => hn.trans (hlen sig h)) hstack hW (by rw [hb]; exact hdg)
    (fun vm₁ hW₁ => ⟨hf.1, hf.2, hp.2 (T.setVm vm₁) hT hW₁⟩)
  dsimp only [Pt.U, Pt.locs, Pt.cells, Pt.slots] at X' e1 e2 h1 h2 h3 st
  subst h1; subst h2; subst h3
  exact ⟨v, (T.setVm vm₁).calling g' mk As.toArray, t, U', L, hT, X', hL, e1, e2, hq, st⟩
/-- not caught here, past rows that name other classes: it goes on to the caller -/
theorem vx_outP {p : Program} {l : Launch} {e : Env} {R : Room} {s : State} {m : MethodId} {args : Array Value} {below : List Frame} {meth : Method} {c : Code} {H : Heap} {locs : List Loc} {cells slots : Nat} {free : Addr → Prop} {ls : Array Slot} {rest : List Value} {Qc : Array Value → State → Outcome → State → Prop} {XC : String → State → State → Prop}
    {pc : Nat} {own E : String} {ce : Cell} {q : Addr} {mc ms : Nat} (hown : s.vm.findClass own = some m.cls) (hlocks : meth.locks = false)
    (hpass : ∀ z ∈ c.exceptionTable.toList, covers z pc = false ∨ (z.catchType ≠ 0 ∧ ∃ nm : String, (Cond.classLink own z.catchType nm).before args s = true ∧ va_Nc E nm s)) (hcell : H[q]? = some ce) (hv : ce.vm = .none) (hcl : s.vm.findClass E = some ce.cls)
    (hx : ∀ t : State, t.heap = H → s.vm.Alike t.vm → XC E s t) (hf : ∀ z ∈ locs, free z.base) (hc : cells ≤ mc) (hs : slots ≤ ms) :
    vx_W p l e R s m args below meth c H locs cells slots (vx_MQ below Qc XC args s mc ms free) (F0 m pc ls rest) q := by
  intro T hT X
  have hpl : e.platform.magicAccessors = ({} : Platform).magicAccessors := by rw [X.admits.platform]
  obtain ⟨vm', hW', X', st⟩ := X.outThrough hlocks q (g := F0 m pc ls rest) rfl rfl rfl (cell := ce) (by rw [hT]; exact hcell) (by rw [hv]; rfl)
    (by obtain ⟨k9, h9, -⟩ := Vm.findClass_spec hcl; exact ⟨k9, h9⟩) (fun z hz => by
      rcases hpass z hz with h | ⟨hz0, nm, hl1, hn1⟩
      · exact Or.inl h
      · obtain ⟨c6, hc6, hcl6⟩ := Cond.classLink_spec hown hl1 e.platform hpl
        obtain ⟨a8, b8, h1, h2, h3⟩ := hn1
        cases Option.some.inj (h1.symm.trans hcl)
        cases Option.some.inj (h2.symm.trans hc6)
        exact Or.inr ⟨hz0, _, hcl6, h3⟩)
  obtain ⟨g₀, hfr⟩ := X'.frames_eq
  have hcell9 : ((T.setVm vm').setFrames (.throwing q :: below)).heap[q]? = some ce := by
    show T.heap[q]? = some ce
    rw [hT]; exact hcell
  have hend : Ended ((T.setVm vm').setFrames (.throwing q :: below)) below (.threw q) := State.frames_setFrames _ (State.cur_lt_of_frames hfr)
  refine ⟨(T.setVm vm').setFrames (.throwing q :: below), ?_, .threw q, X'.here.running, hend, Or.inr ⟨q, rfl, E, ce, locs, hx _ hT (X'.ends _).1.alike, hcell9, hv, hcl, (X'.ends _).1, (X'.ends _).2.mono hc hs, hf⟩⟩
  rw [X.pushThrowing_eq]
  exact st
/-- a thing of a world lies in the heap -/
theorem vx_lt {D : va_G} {cl : List vw_C} {ws : va_W} {H1 : Heap} (h : va_P D cl ws H1) {k : Nat} {q : Nat × va_E} (hk : ws[k]? = some q) : q.1 < H1.size := (h k q hk).lt
end VXS
/-! ===== END ===== -/
/-! ===== BEGIN methods with a table of their own: called by a name, returning or throwing ===== -/
section VXH
/-! vx_backW, vx_callVX, vx_callSX, vx_callVW, vx_runVW, vx_runVX, vx_runSX, vx_ofWH follow the same proofs as their sisters above (Free/Laws.lean, Shelf42/LK1.lean); vx_outP calls Shelf42/NT130.lean (outThrough). -/
section
variable {l : Launch} {R : Room} {p : Program} {e : Env} {below : List Frame} {s : State} {sargs : Array Value} {y : MethodName} {len W9 : Nat}
theorem vx_backW {ws : List Cond} {rm : Room} {Pc : Array Value → State → Prop} {Qc : Array Value → State → Outcome → State → Prop} {XC : String → State → State → Prop} {mc ms : Nat} {free : Addr → Prop} {bytes : ByteArray} {maxL : Nat} {ret : Option FieldType} {hh : List (Nat × Nat × Nat × Nat)}
    (hM : vx_Met l y ws rm Pc Qc XC mc ms free) (hblind : FrameBlind Pc) (hrc : rm.cells = mc) (hrs : rm.slots = ms)
    (hframes : rm.frames + 1 ≤ R.frames) (hlocals : W9 + (maxL + 11) + rm.locals ≤ R.locals)
    (hws : ∀ w ∈ ws, ∀ a' U, s.WarmedH U.vm → w.before a' U = true) (hcode : Cond.codeWith y bytes maxL ret hh ∈ ws) (hinit : ∀ a' U, s.WarmedH U.vm → (Cond.initialized y.cls).before a' U = true) :
    vx_Back l R p e below s sargs y len W9 (PreOf R mc ms Pc) (PostOf Qc mc ms free) (vx_Post XC mc ms free) := by
  intro m meth c A g ig mk a X hg hsize hdg hW hn hp
  have h1 : (headSpec ws rm).pre.before a A.U = true := atoms_intro fun w hw => hws w hw _ _ X.warmed
  have h2 : (Cond.codeWith y bytes maxL ret hh).before a A.U = true := hws _ hcode _ _ X.warmed
  have h3 : (Cond.initialized y.cls).before a A.U = true := hinit _ _ X.warmed
  have h4 : A.cells + (headSpec ws rm).room.cells ≤ R.cells := by rw [show (headSpec ws rm).room.cells = mc from hrc]; exact hp.1
  have h5 : A.slots + (headSpec ws rm).room.slots ≤ R.slots := by rw [show (headSpec ws rm).room.slots = ms from hrs]; exact hp.2.1
  have hPc : Pc a (A.U.calling g mk a) := hblind _ _ _ _ hp.2.2
  obtain ⟨U, Ls, c0, s0⟩ := A
  dsimp only [Pt.U, Pt.locs, Pt.cells, Pt.slots] at h1 h2 h3 h4 h5 X hn hPc ⊢
  obtain ⟨m9, methY, cY, hn9, hmY, hcY, -, hlY, -⟩ := Cond.codeWith_spec h2
  cases Option.some.inj (hn9.symm.trans hn)
  obtain ⟨kY, hkY, -⟩ := className_of_methodNamed hn
  have hinitY : kY.init = .initialized := Cond.initialized_spec (findClass_of_methodNamed hn) hkY h3
  have h : At U g.method c below := by rw [hg]; exact X.here
  have hlocals9 : W9 + (maxL + 11) + (headSpec ws rm).room.locals ≤ R.locals := hlocals
  have happ : (headSpec ws rm).appliesLoose y e.platform (U.calling g mk a) = true :=
    Spec.appliesLoose_calling (g := g) h hdg hn hkY hinitY
      (X.room_calling (g := g) (R' := (headSpec ws rm).room) hsize hmY hcY hframes (by rw [hlY]; omega) h4 h5) h1
  obtain ⟨mid, hmid⟩ := h.above
  have hfr : (U.setTop g).frames = (.java g :: mid) ++ below := by rw [State.frames_setTop' g h.top, hmid]; rfl
  obtain ⟨o, s₂, hsteps, -, hend, hq⟩ := Steps.callFree hM p X.admits X.cas X.clock (acts := []) hfr happ hPc trivial
  have hq' : vx_Q Qc XC mc ms free a (U.calling g mk a) o s₂ := hq
  rw [State.frames_setTop' g h.top] at hend
  obtain ⟨g₀, hg0⟩ := Option.isSome_iff_exists.mp h.top
  obtain ⟨r, hr⟩ := State.topJava?_eq_some.mp hg0
  have hr' : (({ U with heap := s₂.heap, slotsUsed := s₂.slotsUsed } : State).setVm s₂.vm).frames = .java g₀ :: r := hr
  rcases hq' with ⟨hqc, L, hfe, hL⟩ | ⟨q, rfl, E, ce, L, hx, hce, hcv, hcl, hW₂, hsm, hL⟩
  · obtain ⟨⟨v, rfl⟩, hW₂, e2, q2, q3, q4, q5, q6⟩ := id hfe
    have e3 : s₂ = ({ (U.calling g mk a).setFrames s₂.frames with heap := s₂.heap, slotsUsed := s₂.slotsUsed } : State).setVm s₂.vm := by
      have : s₂ = ({ s₂ with vm := (U.calling g mk a).vm } : State).setVm s₂.vm := rfl
      rw [e2] at this
      exact this
    obtain ⟨c₂, i₂, len₂, hc₂, hd₂, hf₂⟩ := hend
    have hW' : U.WarmedH s₂.vm := hW₂
    have hcc : c₂ = c := by
      have h1 : s₂.code? g.method = U.code? g.method := by
        rw [State.code?_eq, State.code?_eq, hW'.alike.method?]
      exact Option.some.inj (hc₂.symm.trans (h1.trans h.code))
    subst hcc
    have hlen : len₂ = len := by rw [hdg] at hd₂; cases hd₂; rfl
    subst hlen
    have hs₂ : s₂ = (({ U with heap := s₂.heap, slotsUsed := s₂.slotsUsed } : State).setVm s₂.vm).setTop { g with pc := g.pc + len₂, stack := v.toList ++ g.stack } := by
      refine e3.trans ?_
      rw [hf₂, State.calling_eq h.top, State.setFrames_setFrames, State.setTop_of_frames _ hr', hr]
      rfl
    have hsame : U.sameButNew ({ U with heap := s₂.heap, slotsUsed := s₂.slotsUsed } : State) L mc ms := by
      refine ⟨?_, q2, q3, q4, q5, q6⟩
      obtain ⟨t, ht, -⟩ := State.frames_cons hr
      show ({ U with heap := s₂.heap, slotsUsed := s₂.slotsUsed } : State) = { U.setFrames U.frames with heap := s₂.heap, slotsUsed := s₂.slotsUsed }
      rw [State.setFrames_self ht]
    subst hg
    refine Or.inl ⟨v, ⟨(({ U with heap := s₂.heap, slotsUsed := s₂.slotsUsed } : State).setVm s₂.vm), Ls ++ L, c0 + mc, s0 + ms⟩,
      ⟨X.admits, X.cas, X.clock, X.frames, X.room, X.hears, X.method, X.code, (X.here.setHeapUsed s₂.heap s₂.slotsUsed).setVm hW'.alike, X.tail, State.WarmedH.trans X.warmed hW', X.limits, X.bytes, X.same.trans (hsame.setVm s.vm)⟩,
      ⟨g, mk, s₂, L, rfl, rfl, hqc, rfl, hL, rfl, rfl⟩, ?_⟩
    show Steps p.tables e below _ ((({ U with heap := s₂.heap, slotsUsed := s₂.slotsUsed } : State).setVm s₂.vm).setTop { g with pc := g.pc + len₂, stack := v.toList ++ g.stack })
    rw [← hs₂]
    exact hsteps
  · obtain ⟨e2, q2, q3, q4, q5, q6⟩ := id hsm
    have e3 : s₂ = ({ (U.calling g mk a).setFrames s₂.frames with heap := s₂.heap, slotsUsed := s₂.slotsUsed } : State).setVm s₂.vm := by
      have : s₂ = ({ s₂ with vm := (U.calling g mk a).vm } : State).setVm s₂.vm := rfl
      rw [e2] at this
      exact this
    have hf₂ : s₂.frames = .throwing q :: .java g :: U.frames.tail := hend
    have hW' : U.WarmedH s₂.vm := hW₂
    have hs₂ : s₂ = ((({ U with heap := s₂.heap, slotsUsed := s₂.slotsUsed } : State).setVm s₂.vm).setTop g).pushFrame (.throwing q) := by
      refine e3.trans ?_
      rw [hf₂, State.calling_eq h.top, State.setFrames_setFrames, State.pushFrame, State.frames_setTop _ hr', State.setTop_of_frames _ hr', State.setFrames_setFrames, hr]
      rfl
    have hsame : U.sameButNew ({ U with heap := s₂.heap, slotsUsed := s₂.slotsUsed } : State) L mc ms := by
      refine ⟨?_, q2, q3, q4, q5, q6⟩
      obtain ⟨t, ht, -⟩ := State.frames_cons hr
      show ({ U with heap := s₂.heap, slotsUsed := s₂.slotsUsed } : State) = { U.setFrames U.frames with heap := s₂.heap, slotsUsed := s₂.slotsUsed }
      rw [State.setFrames_self ht]
    subst hg
    refine Or.inr ⟨q, ⟨(({ U with heap := s₂.heap, slotsUsed := s₂.slotsUsed } : State).setVm s₂.vm), Ls ++ L, c0 + mc, s0 + ms⟩,
      ⟨X.admits, X.cas, X.clock, X.frames, X.room, X.hears, X.method, X.code, (X.here.setHeapUsed s₂.heap s₂.slotsUsed).setVm hW'.alike, X.tail, State.WarmedH.trans X.warmed hW', X.limits, X.bytes, X.same.trans (hsame.setVm s.vm)⟩,
      ⟨g, mk, s₂, L, E, ce, rfl, rfl, hx, hce, hcv, hcl, rfl, hL, rfl, rfl⟩, ?_⟩
    show Steps p.tables e below _ (((({ U with heap := s₂.heap, slotsUsed := s₂.slotsUsed } : State).setVm s₂.vm).setTop g).pushFrame (.throwing q))
    rw [← hs₂]
    exact hsteps
end
variable {p : Program} {l : Launch} {e : Env} {R : Room} {s : State} {m : MethodId} {args : Array Value} {below : List Frame} {meth : Method} {c : Code} {T : State} {H : Heap} {locs : List Loc} {cells slots : Nat}
theorem vx_callVX (X : Stand p l e R s m args below meth c T locs cells slots) (hexec : p.tables.exec = Jvm.exec) {own C : String} {index : Nat} {y : MethodName} {bytes : ByteArray} {maxL : Nat} {ret : Option FieldType} {hh : List (Nat × Nat × Nat × Nat)}
    (hown : s.vm.findClass own = some m.cls) (hlink : (Cond.methodLink own index y).before args s = true) (hinst : (Cond.instanceMethod y).before args s = true) (hsel : (Cond.selects C y y).before args s = true)
    (hcode : (Cond.codeWith y bytes maxL ret hh).before args s = true) (hy : y.cls ≠ "java/lang/invoke/MethodHandle" ∧ y.cls ≠ "java/lang/invoke/VarHandle")
    {W9 : Nat} {Pre : Pt → Array Value → Prop} {Post : Pt → Array Value → Option Value → Pt → Prop} {PostX : Pt → Array Value → Addr → Pt → Prop} (hK : vx_Back l R p e below s args y 3 W9 Pre Post PostX)
    {b : Addr} {cellB : Cell} (hcell : T.heap[b]? = some cellB) (hobj : cellB.vm.isStatics = false) (hcls : s.vm.findClass C = some cellB.cls)
    {g : JFrame} (hg : g.method = m) (hsize : g.locals.size = c.maxLocals) {argsL rest : List Value} (hlen : ∀ sig, parseMethodDescriptor y.desc = some sig → argsL.length = sig.parameters.length)
    (hstack : g.stack = argsL.reverse ++ .ref b :: rest) (hW : 2 * g.monitorRoom + (rest.map fun v => v.category).sum ≤ W9) (hdg : decode c.code g.pc = .ok (.invokevirtual index, 3))
    (hpre : ∀ vm₁, s.WarmedH vm₁ → Pre ⟨T.setVm vm₁, locs, cells, slots⟩ (Value.ref b :: argsL).toArray) :
    (∃ (v : Option Value) (vm₁ : Vm) (B : Pt), s.WarmedH vm₁ ∧ Stand p l e R s m args below meth c B.U B.locs B.cells B.slots ∧ Post ⟨T.setVm vm₁, locs, cells, slots⟩ (Value.ref b :: argsL).toArray v B ∧
      ∀ target, Steps p.tables e below (B.U.setTop { g with pc := g.pc + 3, stack := v.toList ++ rest }) target → Steps p.tables e below (T.setTop g) target) ∨
    (∃ (q : Addr) (vm₁ : Vm) (B : Pt), s.WarmedH vm₁ ∧ Stand p l e R s m args below meth c B.U B.locs B.cells B.slots ∧ PostX ⟨T.setVm vm₁, locs, cells, slots⟩ (Value.ref b :: argsL).toArray q B ∧
      Steps p.tables e below (T.setTop g) ((B.U.setTop { g with stack := rest }).pushFrame (.throwing q))) := by
  obtain ⟨mk, methM, hnamed, hmethM, hstM, habM⟩ := Cond.instanceMethod_spec hinst
  obtain ⟨m8, methM', cM, hn8, hmethM', -, -, -, -, -, -, hsigM⟩ := Cond.codeWith_spec hcode
  cases Option.some.inj (hn8.symm.trans hnamed)
  cases hmethM.symm.trans hmethM'
  obtain ⟨c2, r2, m2, q1, q2, q3, q4, kP, hkP, hkPi⟩ := Cond.selects_spec hsel
  cases hcls.symm.trans q1
  cases (State.methodFound?_of_named hnamed hy).symm.trans q2
  cases hnamed.symm.trans q3
  have hselP : selectMethod e.platform s.vm cellB.cls mk = .method mk := by rw [Launch.admits_selectMethod X.admits]; exact q4
  obtain ⟨vm₁, X₁, hstep₁⟩ := X.invokevirtual hexec hown hlink hnamed hmethM hstM hkP hkPi hy (a := b) (cell := cellB) hcell
    (fun z h => by rw [h] at hobj; cases hobj) hselP hmethM habM hkP hkPi (g := g) hg (argsL := argsL) (rest := rest) (hlen _ hsigM) hstack hdg
  rcases hK m meth c ⟨T.setVm vm₁, locs, cells, slots⟩ { g with stack := rest } (.invokevirtual index) mk (Value.ref b :: argsL).toArray X₁ hg hsize hdg hW (X₁.named hnamed) (hpre vm₁ X₁.warmed) with ⟨v, B, X', hpost, hsteps⟩ | ⟨q, B, X', hpost, hsteps⟩
  · exact Or.inl ⟨v, vm₁, B, X₁.warmed, X', hpost, fun target h => hstep₁ _ fun acts => by rw [doInvoke_state]; exact hsteps.trans h⟩
  · exact Or.inr ⟨q, vm₁, B, X₁.warmed, X', hpost, hstep₁ _ fun acts => by rw [doInvoke_state]; exact hsteps⟩
theorem vx_callSX (X : Stand p l e R s m args below meth c T locs cells slots) (hexec : p.tables.exec = Jvm.exec) {own : String} {index : Nat} {y : MethodName} {bytes : ByteArray} {maxL : Nat} {ret : Option FieldType} {hh : List (Nat × Nat × Nat × Nat)}
    (hown : s.vm.findClass own = some m.cls) (hlink : (Cond.methodLink own index y).before args s = true) (hstat : (Cond.static y).before args s = true) (hinit : (Cond.initialized y.cls).before args s = true)
    (hcode : (Cond.codeWith y bytes maxL ret hh).before args s = true) (hy : y.cls ≠ "java/lang/invoke/MethodHandle" ∧ y.cls ≠ "java/lang/invoke/VarHandle")
    {W9 : Nat} {Pre : Pt → Array Value → Prop} {Post : Pt → Array Value → Option Value → Pt → Prop} {PostX : Pt → Array Value → Addr → Pt → Prop} (hK : vx_Back l R p e below s args y 3 W9 Pre Post PostX)
    {g : JFrame} (hg : g.method = m) (hsize : g.locals.size = c.maxLocals) {argsL rest : List Value} (hlen : ∀ sig, parseMethodDescriptor y.desc = some sig → argsL.length = sig.parameters.length)
    (hstack : g.stack = argsL.reverse ++ rest) (hW : 2 * g.monitorRoom + (rest.map fun v => v.category).sum ≤ W9) (hdg : decode c.code g.pc = .ok (.invokestatic index, 3))
    (hpre : ∀ vm₁, s.WarmedH vm₁ → Pre ⟨T.setVm vm₁, locs, cells, slots⟩ argsL.toArray) :
    (∃ (v : Option Value) (vm₁ : Vm) (B : Pt), s.WarmedH vm₁ ∧ Stand p l e R s m args below meth c B.U B.locs B.cells B.slots ∧ Post ⟨T.setVm vm₁, locs, cells, slots⟩ argsL.toArray v B ∧
      ∀ target, Steps p.tables e below (B.U.setTop { g with pc := g.pc + 3, stack := v.toList ++ rest }) target → Steps p.tables e below (T.setTop g) target) ∨
    (∃ (q : Addr) (vm₁ : Vm) (B : Pt), s.WarmedH vm₁ ∧ Stand p l e R s m args below meth c B.U B.locs B.cells B.slots ∧ PostX ⟨T.setVm vm₁, locs, cells, slots⟩ argsL.toArray q B ∧
      Steps p.tables e below (T.setTop g) ((B.U.setTop { g with stack := rest }).pushFrame (.throwing q))) := by
  obtain ⟨mk, methM, cM, hnamed, hmethM, -, -, -, -, -, -, hsigM⟩ := Cond.codeWith_spec hcode
  have hstatic : methM.isStatic = true := Cond.static_spec hnamed hmethM hstat
  obtain ⟨kP, hkP, -⟩ := className_of_methodNamed hnamed
  have hinitP : kP.init = .initialized := Cond.initialized_spec (findClass_of_methodNamed hnamed) hkP hinit
  obtain ⟨vm₁, X₁, hstep₁⟩ := X.invokestatic hexec hown hlink hnamed hmethM hstatic hkP hinitP hy (g := g) hg (argsL := argsL) (rest := rest) (hlen _ hsigM) hstack hdg
  rcases hK m meth c ⟨T.setVm vm₁, locs, cells, slots⟩ { g with stack := rest } (.invokestatic index) mk argsL.toArray X₁ hg hsize hdg hW (X₁.named hnamed) (hpre vm₁ X₁.warmed) with ⟨v, B, X', hpost, hsteps⟩ | ⟨q, B, X', hpost, hsteps⟩
  · exact Or.inl ⟨v, vm₁, B, X₁.warmed, X', hpost, fun target h => hstep₁ _ fun acts => by rw [doInvoke_state]; exact hsteps.trans h⟩
  · exact Or.inr ⟨q, vm₁, B, X₁.warmed, X', hpost, hstep₁ _ fun acts => by rw [doInvoke_state]; exact hsteps⟩
theorem vx_callVW (X : Stand p l e R s m args below meth c T locs cells slots) (hexec : p.tables.exec = Jvm.exec) {own C : String} {index : Nat} {y : MethodName} {bytes : ByteArray} {maxL : Nat} {ret : Option FieldType} {hh : List (Nat × Nat × Nat × Nat)}
    (hown : s.vm.findClass own = some m.cls) (hlink : (Cond.methodLink own index y).before args s = true) (hinst : (Cond.instanceMethod y).before args s = true) (hsel : (Cond.selects C y y).before args s = true)
    (hcode : (Cond.codeWith y bytes maxL ret hh).before args s = true) (hy : y.cls ≠ "java/lang/invoke/MethodHandle" ∧ y.cls ≠ "java/lang/invoke/VarHandle")
    {W9 : Nat} {Pre : Pt → Array Value → Prop} {Post : Pt → Array Value → Option Value → Pt → Prop} (hK : Back l R p e below s args y 3 W9 Pre Post)
    {b : Addr} {cellB : Cell} (hcell : T.heap[b]? = some cellB) (hobj : cellB.vm.isStatics = false) (hcls : s.vm.findClass C = some cellB.cls)
    {g : JFrame} (hg : g.method = m) (hsize : g.locals.size = c.maxLocals) {argsL rest : List Value} (hlen : ∀ sig, parseMethodDescriptor y.desc = some sig → argsL.length = sig.parameters.length)
    (hstack : g.stack = argsL.reverse ++ .ref b :: rest) (hW : 2 * g.monitorRoom + (rest.map fun v => v.category).sum ≤ W9) (hdg : decode c.code g.pc = .ok (.invokevirtual index, 3))
    (hpre : ∀ vm₁, s.WarmedH vm₁ → Pre ⟨T.setVm vm₁, locs, cells, slots⟩ (Value.ref b :: argsL).toArray) :
    ∃ (v : Option Value) (vm₁ : Vm) (B : Pt), s.WarmedH vm₁ ∧ Stand p l e R s m args below meth c B.U B.locs B.cells B.slots ∧ Post ⟨T.setVm vm₁, locs, cells, slots⟩ (Value.ref b :: argsL).toArray v B ∧
      ∀ target, Steps p.tables e below (B.U.setTop { g with pc := g.pc + 3, stack := v.toList ++ rest }) target → Steps p.tables e below (T.setTop g) target := by
  obtain ⟨mk, methM, hnamed, hmethM, hstM, habM⟩ := Cond.instanceMethod_spec hinst
  obtain ⟨m8, methM', cM, hn8, hmethM', -, -, -, -, -, -, hsigM⟩ := Cond.codeWith_spec hcode
  cases Option.some.inj (hn8.symm.trans hnamed)
  cases hmethM.symm.trans hmethM'
  obtain ⟨c2, r2, m2, q1, q2, q3, q4, kP, hkP, hkPi⟩ := Cond.selects_spec hsel
  cases hcls.symm.trans q1
  cases (State.methodFound?_of_named hnamed hy).symm.trans q2
  cases hnamed.symm.trans q3
  have hselP : selectMethod e.platform s.vm cellB.cls mk = .method mk := by rw [Launch.admits_selectMethod X.admits]; exact q4
  obtain ⟨vm₁, X₁, hstep₁⟩ := X.invokevirtual hexec hown hlink hnamed hmethM hstM hkP hkPi hy (a := b) (cell := cellB) hcell
    (fun z h => by rw [h] at hobj; cases hobj) hselP hmethM habM hkP hkPi (g := g) hg (argsL := argsL) (rest := rest) (hlen _ hsigM) hstack hdg
  obtain ⟨v, B, X', hpost, hsteps⟩ := hK m meth c ⟨T.setVm vm₁, locs, cells, slots⟩ { g with stack := rest } (.invokevirtual index) mk (Value.ref b :: argsL).toArray X₁ hg hsize hdg hW (X₁.named hnamed) (hpre vm₁ X₁.warmed)
  exact ⟨v, vm₁, B, X₁.warmed, X', hpost, fun target h => hstep₁ _ fun acts => by rw [doInvoke_state]; exact hsteps.trans h⟩
abbrev vx_CVW (R : Room) (s : State) (args : Array Value) (own C : String) (index : Nat) (y : MethodName) (bytes : ByteArray) (maxL : Nat) (ret : Option FieldType) (hh : List (Nat × Nat × Nat × Nat)) (ws : List Cond) (rm : Room) (mc ms n : Nat) : Prop :=
  (rm.cells = mc ∧ rm.slots = ms ∧ rm.frames + 1 ≤ R.frames ∧ 8 + (maxL + 11) + rm.locals ≤ R.locals ∧ (∀ w ∈ ws, ∀ (a' : Array Value) (U : State), s.WarmedH U.vm → w.before a' U = true) ∧ Cond.codeWith y bytes maxL ret hh ∈ ws) ∧
  (Cond.codeWith y bytes maxL ret hh).before args s = true ∧ (Cond.initialized y.cls).before args s = true ∧ (y.cls ≠ "java/lang/invoke/MethodHandle" ∧ y.cls ≠ "java/lang/invoke/VarHandle") ∧
  (∀ sig, parseMethodDescriptor y.desc = some sig → n = sig.parameters.length) ∧ (Cond.methodLink own index y).before args s = true ∧ (Cond.instanceMethod y).before args s = true ∧ (Cond.selects C y y).before args s = true
theorem vx_cwVW {own C : String} {index maxL mc ms : Nat} {y : MethodName} {bytes : ByteArray} {ret : Option FieldType} {hh : List (Nat × Nat × Nat × Nat)} {Ts ws ws' : List Cond} {rm : Room} (n : Nat) (ht : ∀ w ∈ Ts, w.before args s = true) (hT : GoodIn Ts (wsV own index C y ws)) (hw : ws = Cond.codeWith y bytes maxL ret hh :: ws') (hrc : rm.cells = mc) (hrs : rm.slots = ms)
    (hd : y.cls = C ∧ y.cls ≠ "java/lang/invoke/MethodHandle" ∧ y.cls ≠ "java/lang/invoke/VarHandle" ∧ (parseMethodDescriptor y.desc).map (fun d => d.parameters.length) = some n) (hR : rm.frames + 1 ≤ R.frames ∧ 8 + (maxL + 11) + rm.locals ≤ R.locals) :
    vx_CVW R s args own C index y bytes maxL ret hh ws rm mc ms n := by
  obtain ⟨hC, hd⟩ := hd
  subst hC
  have ok : ∀ w ∈ wsV own index y.cls y ws, w.before args s = true := fun w h => ht w (hT w h).1
  have hG : GoodIn Ts ws := fun w h => hT w (by unfold wsV; exact List.mem_append_right _ h)
  have hc : Cond.codeWith y bytes maxL ret hh ∈ ws := by rw [hw]; exact List.mem_cons_self
  refine ⟨⟨hrc, hrs, hR.1, hR.2, pay_in ht hG, hc⟩, ht _ (hG _ hc).1, ok _ (by simp [wsV]), ⟨hd.1, hd.2.1⟩, fun sig h => ?_, ok _ (by simp [wsV]), ok _ (by simp [wsV]), ok _ (by simp [wsV])⟩
  have h2 := hd.2.2
  rw [h] at h2
  exact (Option.some.inj h2).symm
theorem vx_runVW {y : MethodName} {bytes cc : ByteArray} {maxL nL mc ms n index : Nat} {ret : Option FieldType} {hh : List (Nat × Nat × Nat × Nat)} {ws : List Cond} {rm : Room} {Pc : Array Value → State → Prop} {Qc : Array Value → State → Outcome → State → Prop} {free : Addr → Prop} {Ts : List Cond} {own C : String} {b : Addr} {As rest : List Value} {g : JFrame}
    (S : CallFix p m c cc nL s args Ts own) (hM : Met l y ws rm Pc Qc mc ms free) (cw : vx_CVW R s args own C index y bytes maxL ret hh ws rm mc ms n) (hp : PreV s H C b Pc As)
    (hg : g.method = m) (hn : As.length = n) (hsize : g.locals.size = nL) (hstack : g.stack = As.reverse ++ .ref b :: rest) (hW : 2 * g.monitorRoom + (rest.map fun v => v.category).sum ≤ 8) (hdg : decode cc g.pc = .ok (.invokevirtual index, 3)) (hf : cells + mc ≤ R.cells ∧ slots + ms ≤ R.slots) :
    va_Run p l e R s m args below meth c H locs cells slots mc ms g rest (Qc (Value.ref b :: As).toArray) free := by
  obtain ⟨⟨hrc, hrs, hfr, hlo, hws, hcw⟩, hcode, hini, hy, hlen, hl, hin, hse⟩ := cw
  have hK : Back l R p e below s args y 3 8 (PreOf R mc ms Pc) (PostOf Qc mc ms free) := va_backW (hh := hh) (bytes := bytes) (maxL := maxL) (ret := ret) hM hp.1 hrc hrs hfr hlo hws hcw (fun a' U hW => word_at hW (Or.inl (by first | rfl | simp [Cond.onTables, Cond.keeps, Cond.steady])) hini)
  obtain ⟨hx, hb, hml, ho, -⟩ := S
  obtain ⟨-, ⟨cellB, hcB, hoB, hclB⟩, hPc⟩ := hp
  intro T hT X
  obtain ⟨v, vm₁, ⟨U', l2, c2, s2⟩, hW₁, X', ⟨g', mk, t, L, e1, e2, hq, h1, hL, h2, h3⟩, st⟩ := vx_callVW X hx (C := C) (hh := hh) (bytes := bytes) (maxL := maxL) (ret := ret) ho hl hin hse hcode hy hK (by rw [hT]; exact hcB) hoB hclB hg (hsize.trans hml.symm) (argsL := As) (rest := rest) (fun sig h => hn.trans (hlen sig h)) hstack hW (by rw [hb]; exact hdg)
    (fun vm₁ hW₁ => ⟨hf.1, hf.2, hPc (T.setVm vm₁) hT hW₁⟩)
  dsimp only [Pt.U, Pt.locs, Pt.cells, Pt.slots] at X' e1 e2 h1 h2 h3 st
  subst h1; subst h2; subst h3
  exact ⟨v, (T.setVm vm₁).calling g' mk (Value.ref b :: As).toArray, t, U', L, hT, X', hL, e1, e2, hq, st⟩
section
variable {y : MethodName} {bytes cc : ByteArray} {maxL nL mc ms n index : Nat} {ret : Option FieldType} {ws : List Cond} {rm : Room} {Pc : Array Value → State → Prop} {Qc : Array Value → State → Outcome → State → Prop} {XC : String → State → State → Prop} {free : Addr → Prop} {Ts : List Cond} {own C : String} {b : Addr} {As rest : List Value} {g : JFrame}
theorem vx_runVX {hh : List (Nat × Nat × Nat × Nat)} (S : CallFix p m c cc nL s args Ts own) (hM : vx_Met l y ws rm Pc Qc XC mc ms free) (cw : vx_CVW R s args own C index y bytes maxL ret hh ws rm mc ms n) (hp : PreV s H C b Pc As)
    (hg : g.method = m) (hn : As.length = n) (hsize : g.locals.size = nL) (hstack : g.stack = As.reverse ++ .ref b :: rest) (hW : 2 * g.monitorRoom + (rest.map fun v => v.category).sum ≤ 8) (hdg : decode cc g.pc = .ok (.invokevirtual index, 3)) (hf : cells + mc ≤ R.cells ∧ slots + ms ≤ R.slots) :
    vx_Run p l e R s m args below meth c H locs cells slots mc ms g rest (Qc (Value.ref b :: As).toArray) XC free := by
  obtain ⟨⟨hrc, hrs, hfr, hlo, hws, hcw⟩, hcode, hini, hy, hlen, hl, hin, hse⟩ := cw
  have hK : vx_Back l R p e below s args y 3 8 (PreOf R mc ms Pc) (PostOf Qc mc ms free) (vx_Post XC mc ms free) := vx_backW (hh := hh) (bytes := bytes) (maxL := maxL) (ret := ret) hM hp.1 hrc hrs hfr hlo hws hcw (fun a' U hW => word_at hW (Or.inl (by first | rfl | simp [Cond.onTables, Cond.keeps, Cond.steady])) hini)
  obtain ⟨hx, hb, hml, ho, -⟩ := S
  obtain ⟨-, ⟨cellB, hcB, hoB, hclB⟩, hPc⟩ := hp
  intro T hT X
  rcases vx_callVX X hx (C := C) (hh := hh) (bytes := bytes) (maxL := maxL) (ret := ret) ho hl hin hse hcode hy hK (by rw [hT]; exact hcB) hoB hclB hg (hsize.trans hml.symm) (argsL := As) (rest := rest) (fun sig h => hn.trans (hlen sig h)) hstack hW (by rw [hb]; exact hdg)
    (fun vm₁ hW₁ => ⟨hf.1, hf.2, hPc (T.setVm vm₁) hT hW₁⟩) with ⟨v, vm₁, ⟨U', l2, c2, s2⟩, hW₁, X', ⟨g', mk, t, L, e1, e2, hq, h1, hL, h2, h3⟩, st⟩ | ⟨q, vm₁, ⟨U', l2, c2, s2⟩, hW₁, X', ⟨g', mk, t, L, E, ce, e1, e2, hq, hce, hcv, hcl, h1, hL, h2, h3⟩, st⟩
  · dsimp only [Pt.U, Pt.locs, Pt.cells, Pt.slots] at X' e1 e2 h1 h2 h3 st
    subst h1; subst h2; subst h3
    exact Or.inl ⟨v, (T.setVm vm₁).calling g' mk (Value.ref b :: As).toArray, t, U', L, hT, X', hL, e1, e2, hq, st⟩
  · dsimp only [Pt.U, Pt.locs, Pt.cells, Pt.slots] at X' e1 e2 h1 h2 h3 st hcl
    subst h1; subst h2; subst h3
    exact Or.inr ⟨q, (T.setVm vm₁).calling g' mk (Value.ref b :: As).toArray, t, U', L, E, ce, hT, X', hL, e1, e2, hq, hce, hcv, vx_cls hW₁ hcl, st⟩
theorem vx_runSX {hh : List (Nat × Nat × Nat × Nat)} (S : CallFix p m c cc nL s args Ts own) (hM : vx_Met l y ws rm Pc Qc XC mc ms free) (cw : vx_CSW R s args own index y bytes maxL ret hh ws rm mc ms n) (hp : PreS s H Pc As)
    (hg : g.method = m) (hn : As.length = n) (hsize : g.locals.size = nL) (hstack : g.stack = As.reverse ++ rest) (hW : 2 * g.monitorRoom + (rest.map fun v => v.category).sum ≤ 8) (hdg : decode cc g.pc = .ok (.invokestatic index, 3)) (hf : cells + mc ≤ R.cells ∧ slots + ms ≤ R.slots) :
    vx_Run p l e R s m args below meth c H locs cells slots mc ms g rest (Qc As.toArray) XC free := by
  obtain ⟨⟨hrc, hrs, hfr, hlo, hws, hcw⟩, hcode, hini, hy, hlen, hl, hstt⟩ := cw
  have hK : vx_Back l R p e below s args y 3 8 (PreOf R mc ms Pc) (PostOf Qc mc ms free) (vx_Post XC mc ms free) := vx_backW (hh := hh) (bytes := bytes) (maxL := maxL) (ret := ret) hM hp.1 hrc hrs hfr hlo hws hcw (fun a' U hW => word_at hW (Or.inl (by first | rfl | simp [Cond.onTables, Cond.keeps, Cond.steady])) hini)
  obtain ⟨hx, hb, hml, ho, -⟩ := S
  intro T hT X
  rcases vx_callSX X hx (hh := hh) (bytes := bytes) (maxL := maxL) (ret := ret) ho hl hstt hini hcode hy hK hg (hsize.trans hml.symm) (argsL := As) (rest := rest) (fun sig h => hn.trans (hlen sig h)) hstack hW (by rw [hb]; exact hdg)
    (fun vm₁ hW₁ => ⟨hf.1, hf.2, hp.2 (T.setVm vm₁) hT hW₁⟩) with ⟨v, vm₁, ⟨U', l2, c2, s2⟩, hW₁, X', ⟨g', mk, t, L, e1, e2, hq, h1, hL, h2, h3⟩, st⟩ | ⟨q, vm₁, ⟨U', l2, c2, s2⟩, hW₁, X', ⟨g', mk, t, L, E, ce, e1, e2, hq, hce, hcv, hcl, h1, hL, h2, h3⟩, st⟩
  · dsimp only [Pt.U, Pt.locs, Pt.cells, Pt.slots] at X' e1 e2 h1 h2 h3 st
    subst h1; subst h2; subst h3
    exact Or.inl ⟨v, (T.setVm vm₁).calling g' mk As.toArray, t, U', L, hT, X', hL, e1, e2, hq, st⟩
  · dsimp only [Pt.U, Pt.locs, Pt.cells, Pt.slots] at X' e1 e2 h1 h2 h3 st hcl
    subst h1; subst h2; subst h3
    exact Or.inr ⟨q, (T.setVm vm₁).calling g' mk As.toArray, t, U', L, E, ce, hT, X', hL, e1, e2, hq, hce, hcv, vx_cls hW₁ hcl, st⟩
end
end VXH
theorem vx_ofWH {l : Launch} {y : MethodName} {ws ws' : List Cond} {rm : Room} {Pc : Array Value → State → Prop} {Qc : Array Value → State → Outcome → State → Prop} {XC : String → State → State → Prop} {mc ms : Nat} {free : Addr → Prop} {cc : ByteArray} {maxL : Nat} {ret : Option FieldType} {hh : List (Nat × Nat × Nat × Nat)}
    (hy : plainName y.cls = true) (hw : ws = Cond.codeWith y cc maxL ret hh :: ws')
    (body : ∀ p e s m args below meth c s₁, BodyLoose p l y (headSpec ws rm) cc maxL ret e s m args below meth c s₁ → c.maxLocals = maxL → Pc args s →
      W p l e (headSpec ws rm).room s m args below meth c s.heap [] 0 0 (vx_MQ below Qc XC args s mc ms free) (entryFrame m args maxL)) : vx_Met l y ws rm Pc Qc XC mc ms free := by
  refine MetFree.of_bodyS (code := cc) (maxLocals := maxL) (ret := ret) hy ?_ ?_
  · intro args s m h hn
    obtain ⟨m9, meth, c, hn9, h1, h2, h3, h4, -, h5, h6, -⟩ := Cond.codeWith_spec (atoms_spec (ws := ws) h _ (by rw [hw]; exact List.mem_cons_self))
    cases hn.symm.trans hn9
    exact ⟨meth, c, h1, h2, h3, h4, h5, h6⟩
  · intro p e s m args below meth c s₁ B hml hP _
    have hh0 : s₁.heap = s.heap := by rw [B.state]; rfl
    obtain ⟨t, a1, o, b1, b2, b3⟩ := body p e s m args below meth c s₁ B hml hP s₁ hh0 (Stand.of_body B)
    exact ⟨t, o, a1, b1, b2, b3⟩
/-! ===== END ===== -/
end
section
/-! names: written by wip/whole/names.py out of javap's listing and the Statement's words -/
def RX0 : String := "TinyCache$Index"
def RX1 : String := "TinyCache$Item"
def RX2 : String := "TinyCache$Log"
def RX3 : String := "TinyCache$Page"
def RX4 : String := "TinyCache"
def RX5 : String := "TinyCacheModel"
def TX0 : u_T := fun k => match k with
  | 0 => ("TinyCache$Index", "items", "[LTinyCache$Item;", true)
  | 1 => ("TinyCache$Index", "perSet", "[I", true)
  | _ => ("TinyCache$Index", "size", "I", false)
def tyX0 : Nat → FieldType := fun k => match k with
  | 0 => .array (.object "TinyCache$Item")
  | 1 => .array .int
  | _ => .int
def TX1 : u_T := fun k => match k with
  | 0 => ("TinyCache$Item", "key", "J", true)
  | 1 => ("TinyCache$Item", "value", "[I", true)
  | 2 => ("TinyCache$Item", "set", "I", true)
  | 3 => ("TinyCache$Item", "bit", "J", true)
  | 4 => ("TinyCache$Item", "logPage", "I", false)
  | _ => ("TinyCache$Item", "got", "Z", false)
def tyX1 : Nat → FieldType := fun k => match k with
  | 0 => .long
  | 1 => .array .int
  | 2 => .int
  | 3 => .long
  | 4 => .int
  | _ => .boolean
def TX2 : u_T := fun k => match k with
  | 0 => ("TinyCache$Log", "pages", "[LTinyCache$Page;", true)
  | 1 => ("TinyCache$Log", "index", "LTinyCache$Index;", true)
  | 2 => ("TinyCache$Log", "openPage", "LTinyCache$Page;", false)
  | _ => ("TinyCache$Log", "written", "I", false)
def tyX2 : Nat → FieldType := fun k => match k with
  | 0 => .array (.object "TinyCache$Page")
  | 1 => .object "TinyCache$Index"
  | 2 => .object "TinyCache$Page"
  | _ => .int
def TX3 : u_T := fun k => match k with
  | 0 => ("TinyCache$Page", "items", "[LTinyCache$Item;", true)
  | 1 => ("TinyCache$Page", "size", "I", false)
  | 2 => ("TinyCache$Page", "words", "I", false)
  | _ => ("TinyCache$Page", "filter", "J", false)
def tyX3 : Nat → FieldType := fun k => match k with
  | 0 => .array (.object "TinyCache$Item")
  | 1 => .int
  | 2 => .int
  | _ => .long
def TX4 : u_T := fun k => match k with
  | 0 => ("TinyCache", "buffer", "[I", true)
  | 1 => ("TinyCache", "sets", "[LTinyCache$Page;", true)
  | 2 => ("TinyCache", "log", "LTinyCache$Log;", true)
  | 3 => ("TinyCache", "counts", "[I", true)
  | 4 => ("TinyCache", "gathered", "[LTinyCache$Item;", true)
  | 5 => ("TinyCache", "anew", "[LTinyCache$Item;", true)
  | 6 => ("TinyCache", "found", "LTinyCache$Item;", false)
  | _ => ("TinyCache", "isOpen", "Z", false)
def tyX4 : Nat → FieldType := fun k => match k with
  | 0 => .array .int
  | 1 => .array (.object "TinyCache$Page")
  | 2 => .object "TinyCache$Log"
  | 3 => .array .int
  | 4 => .array (.object "TinyCache$Item")
  | 5 => .array (.object "TinyCache$Item")
  | 6 => .object "TinyCache$Item"
  | _ => .boolean
def TX5 : u_T := fun k => match k with
  | 0 => ("TinyCacheModel", "thrown", "I", false)
  | 1 => ("TinyCacheModel", "isOpen", "Z", false)
  | 2 => ("TinyCacheModel", "buffer", "[I", true)
  | 3 => ("TinyCacheModel", "gotLength", "I", false)
  | 4 => ("TinyCacheModel", "gotWords", "[I", true)
  | 5 => ("TinyCacheModel", "objects", "I", false)
  | 6 => ("TinyCacheModel", "keys", "[J", true)
  | 7 => ("TinyCacheModel", "lengths", "[I", true)
  | 8 => ("TinyCacheModel", "words", "[I", true)
  | 9 => ("TinyCacheModel", "isNewest", "[Z", true)
  | 10 => ("TinyCacheModel", "wasGot", "[Z", true)
  | 11 => ("TinyCacheModel", "came", "[I", true)
  | 12 => ("TinyCacheModel", "isMarked", "[Z", true)
  | 13 => ("TinyCacheModel", "turn", "I", false)
  | 14 => ("TinyCacheModel", "many", "[I", true)
  | 15 => ("TinyCacheModel", "page", "[I", true)
  | 16 => ("TinyCacheModel", "written", "I", false)
  | 17 => ("TinyCacheModel", "inUse", "[Z", true)
  | 18 => ("TinyCacheModel", "gathered", "I", false)
  | 19 => ("TinyCacheModel", "gather", "[I", true)
  | 20 => ("TinyCacheModel", "again", "I", false)
  | 21 => ("TinyCacheModel", "anew", "[I", true)
  | 22 => ("TinyCacheModel", "isDue", "[Z", true)
  | _ => ("TinyCacheModel", "counts", "[I", true)
def tyX5 : Nat → FieldType := fun k => match k with
  | 0 => .int
  | 1 => .boolean
  | 2 => .array .int
  | 3 => .int
  | 4 => .array .int
  | 5 => .int
  | 6 => .array .long
  | 7 => .array .int
  | 8 => .array .int
  | 9 => .array .boolean
  | 10 => .array .boolean
  | 11 => .array .int
  | 12 => .array .boolean
  | 13 => .int
  | 14 => .array .int
  | 15 => .array .int
  | 16 => .int
  | 17 => .array .boolean
  | 18 => .int
  | 19 => .array .int
  | 20 => .int
  | 21 => .array .int
  | 22 => .array .boolean
  | _ => .array .int
abbrev vwCl : List vw_C := [(RX0, TX0, 3), (RX1, TX1, 6), (RX2, TX2, 4), (RX3, TX3, 4), (RX4, TX4, 8), (RX5, TX5, 24)]
/-- the kinds of a class's fields: 0 an int or boolean, 1 a long, 2 a reference -/
def xF (ci : Nat) : List Nat := match ci with
  | 0 => [2, 2, 0]
  | 1 => [1, 2, 0, 1, 0, 0]
  | 2 => [2, 2, 2, 0]
  | 3 => [2, 0, 0, 1]
  | 4 => [2, 2, 2, 2, 2, 2, 2, 0]
  | 5 => [0, 0, 2, 0, 2, 0, 2, 2, 2, 2, 2, 2, 2, 0, 2, 2, 0, 2, 0, 2, 0, 2, 2, 2]
  | _ => []
abbrev cC_init : ByteArray := prog_1_method_1_code
def yC_init : MethodName := ⟨"TinyCache", "<init>", "()V"⟩
abbrev cC_newPages : ByteArray := prog_1_method_23_code
def yC_newPages : MethodName := ⟨"TinyCache", "newPages", "(I)[LTinyCache$Page;"⟩
abbrev cP_init : ByteArray := prog_5_method_1_code
def yP_init : MethodName := ⟨"TinyCache$Page", "<init>", "()V"⟩
abbrev cG_init : ByteArray := prog_4_method_1_code
def yG_init : MethodName := ⟨"TinyCache$Log", "<init>", "()V"⟩
abbrev cI_init : ByteArray := prog_2_method_1_code
def yI_init : MethodName := ⟨"TinyCache$Index", "<init>", "()V"⟩
abbrev cC_setOf : ByteArray := prog_1_method_7_code
def yC_setOf : MethodName := ⟨"TinyCache", "setOf", "(J)I"⟩
abbrev cC_mix : ByteArray := prog_1_method_20_code
def yC_mix : MethodName := ⟨"TinyCache", "mix", "(J)J"⟩
abbrev cC_setNumber : ByteArray := prog_1_method_21_code
def yC_setNumber : MethodName := ⟨"TinyCache", "setNumber", "(J)I"⟩
abbrev cC_count : ByteArray := prog_1_method_13_code
def yC_count : MethodName := ⟨"TinyCache", "count", "(I)I"⟩
abbrev cG_fullSegments : ByteArray := prog_4_method_7_code
def yG_fullSegments : MethodName := ⟨"TinyCache$Log", "fullSegments", "()I"⟩
abbrev cW_word : ByteArray := method_3_code
def yW_word : MethodName := ⟨"TinyCacheLaw", "word", "(LTinyCache;II[J)I"⟩
abbrev cC_word : ByteArray := prog_1_method_2_code
def yC_word : MethodName := ⟨"TinyCache", "word", "(II)I"⟩
abbrev cW_put : ByteArray := method_4_code
def yW_put : MethodName := ⟨"TinyCacheLaw", "put", "(LTinyCache;JI)I"⟩
abbrev cC_put : ByteArray := prog_1_method_3_code
def yC_put : MethodName := ⟨"TinyCache", "put", "(JI)V"⟩
abbrev cC_refuseWhenClosed : ByteArray := prog_1_method_14_code
def yC_refuseWhenClosed : MethodName := ⟨"TinyCache", "refuseWhenClosed", "()V"⟩
abbrev cJ_copyOf : ByteArray := prog_17_method_123_code
def yJ_copyOf : MethodName := ⟨"java/util/Arrays", "copyOf", "([II)[I"⟩
abbrev cJ_min : ByteArray := prog_13_method_69_code
def yJ_min : MethodName := ⟨"java/lang/Math", "min", "(II)I"⟩
abbrev cT_init : ByteArray := prog_3_method_1_code
def yT_init : MethodName := ⟨"TinyCache$Item", "<init>", "(J[I)V"⟩
abbrev cC_filterBit : ByteArray := prog_1_method_22_code
def yC_filterBit : MethodName := ⟨"TinyCache", "filterBit", "(J)J"⟩
abbrev cG_hasRoomFor : ByteArray := prog_4_method_2_code
def yG_hasRoomFor : MethodName := ⟨"TinyCache$Log", "hasRoomFor", "(LTinyCache$Item;)Z"⟩
abbrev cT_words : ByteArray := prog_3_method_2_code
def yT_words : MethodName := ⟨"TinyCache$Item", "words", "()I"⟩
abbrev cP_hasRoomFor : ByteArray := prog_5_method_2_code
def yP_hasRoomFor : MethodName := ⟨"TinyCache$Page", "hasRoomFor", "(I)Z"⟩
abbrev cC_writeOpenPage : ByteArray := prog_1_method_15_code
def yC_writeOpenPage : MethodName := ⟨"TinyCache", "writeOpenPage", "()V"⟩
abbrev cG_isBeforeWrittenSegment : ByteArray := prog_4_method_5_code
def yG_isBeforeWrittenSegment : MethodName := ⟨"TinyCache$Log", "isBeforeWrittenSegment", "()Z"⟩
abbrev cC_emptySegment : ByteArray := prog_1_method_16_code
def yC_emptySegment : MethodName := ⟨"TinyCache", "emptySegment", "()I"⟩
abbrev cG_oldestSegmentEnd : ByteArray := prog_4_method_6_code
def yG_oldestSegmentEnd : MethodName := ⟨"TinyCache$Log", "oldestSegmentEnd", "()I"⟩
abbrev cI_takeGotAlone : ByteArray := prog_2_method_5_code
def yI_takeGotAlone : MethodName := ⟨"TinyCache$Index", "takeGotAlone", "(I[LTinyCache$Item;)I"⟩
abbrev cI_shrinkTo : ByteArray := prog_2_method_9_code
def yI_shrinkTo : MethodName := ⟨"TinyCache$Index", "shrinkTo", "(I)V"⟩
abbrev cI_setsBefore : ByteArray := prog_2_method_7_code
def yI_setsBefore : MethodName := ⟨"TinyCache$Index", "setsBefore", "(I)J"⟩
abbrev cI_takeSet : ByteArray := prog_2_method_6_code
def yI_takeSet : MethodName := ⟨"TinyCache$Index", "takeSet", "(I[LTinyCache$Item;)I"⟩
abbrev cC_removeFromSet : ByteArray := prog_1_method_19_code
def yC_removeFromSet : MethodName := ⟨"TinyCache", "removeFromSet", "(JI)Z"⟩
abbrev cC_readFromSet : ByteArray := prog_1_method_18_code
def yC_readFromSet : MethodName := ⟨"TinyCache", "readFromSet", "(J)LTinyCache$Item;"⟩
abbrev cP_find : ByteArray := prog_5_method_4_code
def yP_find : MethodName := ⟨"TinyCache$Page", "find", "(J)LTinyCache$Item;"⟩
abbrev cP_placeOf : ByteArray := prog_5_method_10_code
def yP_placeOf : MethodName := ⟨"TinyCache$Page", "placeOf", "(J)I"⟩
abbrev cP_remove : ByteArray := prog_5_method_5_code
def yP_remove : MethodName := ⟨"TinyCache$Page", "remove", "(J)V"⟩
abbrev cP_removeAt : ByteArray := prog_5_method_11_code
def yP_removeAt : MethodName := ⟨"TinyCache$Page", "removeAt", "(I)V"⟩
abbrev cC_moveGathered : ByteArray := prog_1_method_17_code
def yC_moveGathered : MethodName := ⟨"TinyCache", "moveGathered", "(LTinyCache$Page;I)V"⟩
abbrev cP_dropFor : ByteArray := prog_5_method_6_code
def yP_dropFor : MethodName := ⟨"TinyCache$Page", "dropFor", "(IZ)I"⟩
abbrev cP_add : ByteArray := prog_5_method_3_code
def yP_add : MethodName := ⟨"TinyCache$Page", "add", "(LTinyCache$Item;)V"⟩
abbrev cP_clearMarks : ByteArray := prog_5_method_7_code
def yP_clearMarks : MethodName := ⟨"TinyCache$Page", "clearMarks", "()V"⟩
abbrev cG_writeOut : ByteArray := prog_4_method_8_code
def yG_writeOut : MethodName := ⟨"TinyCache$Log", "writeOut", "()V"⟩
abbrev cP_wipe : ByteArray := prog_5_method_8_code
def yP_wipe : MethodName := ⟨"TinyCache$Page", "wipe", "()V"⟩
abbrev cG_append : ByteArray := prog_4_method_4_code
def yG_append : MethodName := ⟨"TinyCache$Log", "append", "(LTinyCache$Item;)V"⟩
abbrev cI_add : ByteArray := prog_2_method_3_code
def yI_add : MethodName := ⟨"TinyCache$Index", "add", "(LTinyCache$Item;)V"⟩
abbrev cI_remove : ByteArray := prog_2_method_4_code
def yI_remove : MethodName := ⟨"TinyCache$Index", "remove", "(J)Z"⟩
abbrev cW_get : ByteArray := method_5_code
def yW_get : MethodName := ⟨"TinyCacheLaw", "get", "(LTinyCache;J[J)I"⟩
abbrev cC_get : ByteArray := prog_1_method_4_code
def yC_get : MethodName := ⟨"TinyCache", "get", "(J)I"⟩
abbrev cI_find : ByteArray := prog_2_method_2_code
def yI_find : MethodName := ⟨"TinyCache$Index", "find", "(J)LTinyCache$Item;"⟩
abbrev cG_hasInOpenPage : ByteArray := prog_4_method_3_code
def yG_hasInOpenPage : MethodName := ⟨"TinyCache$Log", "hasInOpenPage", "(LTinyCache$Item;)Z"⟩
abbrev cW_got : ByteArray := method_6_code
def yW_got : MethodName := ⟨"TinyCacheLaw", "got", "(LTinyCache;I[J)I"⟩
abbrev cC_got : ByteArray := prog_1_method_5_code
def yC_got : MethodName := ⟨"TinyCache", "got", "(I)I"⟩
abbrev cW_delete : ByteArray := method_7_code
def yW_delete : MethodName := ⟨"TinyCacheLaw", "delete", "(LTinyCache;J[J)I"⟩
abbrev cC_delete : ByteArray := prog_1_method_6_code
def yC_delete : MethodName := ⟨"TinyCache", "delete", "(J)Z"⟩
abbrev cW_where : ByteArray := method_8_code
def yW_where : MethodName := ⟨"TinyCacheLaw", "where", "(LTinyCache;J[J)I"⟩
abbrev cC_where : ByteArray := prog_1_method_8_code
def yC_where : MethodName := ⟨"TinyCache", "where", "(J)I"⟩
abbrev cW_flash : ByteArray := method_9_code
def yW_flash : MethodName := ⟨"TinyCacheLaw", "flash", "(LTinyCache;II[J)I"⟩
abbrev cC_flash : ByteArray := prog_1_method_9_code
def yC_flash : MethodName := ⟨"TinyCache", "flash", "(II)I"⟩
abbrev cP_wordAt : ByteArray := prog_5_method_9_code
def yP_wordAt : MethodName := ⟨"TinyCache$Page", "wordAt", "(I)I"⟩
abbrev cT_wordAt : ByteArray := prog_3_method_3_code
def yT_wordAt : MethodName := ⟨"TinyCache$Item", "wordAt", "(I)I"⟩
abbrev cW_close : ByteArray := method_10_code
def yW_close : MethodName := ⟨"TinyCacheLaw", "close", "(LTinyCache;)I"⟩
abbrev cC_close : ByteArray := prog_1_method_10_code
def yC_close : MethodName := ⟨"TinyCache", "close", "()V"⟩
abbrev cW_crash : ByteArray := method_11_code
def yW_crash : MethodName := ⟨"TinyCacheLaw", "crash", "(LTinyCache;)I"⟩
abbrev cC_crash : ByteArray := prog_1_method_11_code
def yC_crash : MethodName := ⟨"TinyCache", "crash", "()V"⟩
abbrev cG_wipe : ByteArray := prog_4_method_9_code
def yG_wipe : MethodName := ⟨"TinyCache$Log", "wipe", "()V"⟩
abbrev cI_wipe : ByteArray := prog_2_method_8_code
def yI_wipe : MethodName := ⟨"TinyCache$Index", "wipe", "()V"⟩
abbrev cJ_fill : ByteArray := prog_17_method_103_code
def yJ_fill : MethodName := ⟨"java/util/Arrays", "fill", "([II)V"⟩
abbrev cW_open : ByteArray := method_12_code
def yW_open : MethodName := ⟨"TinyCacheLaw", "open", "(LTinyCache;[J)I"⟩
abbrev cC_open : ByteArray := prog_1_method_12_code
def yC_open : MethodName := ⟨"TinyCache", "open", "()I"⟩
abbrev cM_init : ByteArray := prog_7_method_1_code
def yM_init : MethodName := ⟨"TinyCacheModel", "<init>", "()V"⟩
abbrev cM_thrown : ByteArray := prog_7_method_2_code
def yM_thrown : MethodName := ⟨"TinyCacheModel", "thrown", "()I"⟩
abbrev cM_word : ByteArray := prog_7_method_32_code
def yM_word : MethodName := ⟨"TinyCacheModel", "word", "(II)I"⟩
abbrev cM_within : ByteArray := prog_7_method_4_code
def yM_within : MethodName := ⟨"TinyCacheModel", "within", "(III)Z"⟩
abbrev cM_fail : ByteArray := prog_7_method_3_code
def yM_fail : MethodName := ⟨"TinyCacheModel", "fail", "(I)I"⟩
abbrev cM_put : ByteArray := prog_7_method_33_code
def yM_put : MethodName := ⟨"TinyCacheModel", "put", "(JI)V"⟩
abbrev cM_works : ByteArray := prog_7_method_5_code
def yM_works : MethodName := ⟨"TinyCacheModel", "works", "()Z"⟩
abbrev cM_wordsOf : ByteArray := prog_7_method_10_code
def yM_wordsOf : MethodName := ⟨"TinyCacheModel", "wordsOf", "(I)I"⟩
abbrev cM_need : ByteArray := prog_7_method_9_code
def yM_need : MethodName := ⟨"TinyCacheModel", "need", "(I)I"⟩
abbrev cM_makeRoom : ByteArray := prog_7_method_21_code
def yM_makeRoom : MethodName := ⟨"TinyCacheModel", "makeRoom", "()V"⟩
abbrev cM_empty : ByteArray := prog_7_method_24_code
def yM_empty : MethodName := ⟨"TinyCacheModel", "empty", "(I)V"⟩
abbrev cM_setOfKey : ByteArray := prog_7_method_7_code
def yM_setOfKey : MethodName := ⟨"TinyCacheModel", "setOfKey", "(J)I"⟩
abbrev cM_mixed : ByteArray := prog_7_method_6_code
def yM_mixed : MethodName := ⟨"TinyCacheModel", "mixed", "(J)J"⟩
abbrev cM_gatherAll : ByteArray := prog_7_method_25_code
def yM_gatherAll : MethodName := ⟨"TinyCacheModel", "gatherAll", "(I)V"⟩
abbrev cM_moveAll : ByteArray := prog_7_method_28_code
def yM_moveAll : MethodName := ⟨"TinyCacheModel", "moveAll", "(I)V"⟩
abbrev cM_inSet : ByteArray := prog_7_method_16_code
def yM_inSet : MethodName := ⟨"TinyCacheModel", "inSet", "(J)I"⟩
abbrev cM_takeOut : ByteArray := prog_7_method_13_code
def yM_takeOut : MethodName := ⟨"TinyCacheModel", "takeOut", "(II)V"⟩
abbrev cM_dropFirst : ByteArray := prog_7_method_27_code
def yM_dropFirst : MethodName := ⟨"TinyCacheModel", "dropFirst", "(IZI)V"⟩
abbrev cM_needAll : ByteArray := prog_7_method_26_code
def yM_needAll : MethodName := ⟨"TinyCacheModel", "needAll", "(I)I"⟩
abbrev cM_copy : ByteArray := prog_7_method_29_code
def yM_copy : MethodName := ⟨"TinyCacheModel", "copy", "(I)I"⟩
abbrev cM_freeNumber : ByteArray := prog_7_method_11_code
def yM_freeNumber : MethodName := ⟨"TinyCacheModel", "freeNumber", "()I"⟩
abbrev cM_append : ByteArray := prog_7_method_12_code
def yM_append : MethodName := ⟨"TinyCacheModel", "append", "(II)V"⟩
abbrev cM_alone : ByteArray := prog_7_method_30_code
def yM_alone : MethodName := ⟨"TinyCacheModel", "alone", "(II)V"⟩
abbrev cM_removeOld : ByteArray := prog_7_method_31_code
def yM_removeOld : MethodName := ⟨"TinyCacheModel", "removeOld", "(JI)Z"⟩
abbrev cM_reads : ByteArray := prog_7_method_17_code
def yM_reads : MethodName := ⟨"TinyCacheModel", "reads", "(J)Z"⟩
abbrev cM_bitOf : ByteArray := prog_7_method_8_code
def yM_bitOf : MethodName := ⟨"TinyCacheModel", "bitOf", "(J)I"⟩
abbrev cM_writeOpen : ByteArray := prog_7_method_19_code
def yM_writeOpen : MethodName := ⟨"TinyCacheModel", "writeOpen", "()V"⟩
abbrev cM_sortAgain : ByteArray := prog_7_method_22_code
def yM_sortAgain : MethodName := ⟨"TinyCacheModel", "sortAgain", "()V"⟩
abbrev cM_putAnew : ByteArray := prog_7_method_23_code
def yM_putAnew : MethodName := ⟨"TinyCacheModel", "putAnew", "(I)V"⟩
abbrev cM_enter : ByteArray := prog_7_method_20_code
def yM_enter : MethodName := ⟨"TinyCacheModel", "enter", "(I)V"⟩
abbrev cM_newest : ByteArray := prog_7_method_14_code
def yM_newest : MethodName := ⟨"TinyCacheModel", "newest", "(J)I"⟩
abbrev cM_get : ByteArray := prog_7_method_35_code
def yM_get : MethodName := ⟨"TinyCacheModel", "get", "(J)I"⟩
abbrev cM_pageOf : ByteArray := prog_7_method_15_code
def yM_pageOf : MethodName := ⟨"TinyCacheModel", "pageOf", "(I)I"⟩
abbrev cM_tell : ByteArray := prog_7_method_34_code
def yM_tell : MethodName := ⟨"TinyCacheModel", "tell", "(I)V"⟩
abbrev cM_got : ByteArray := prog_7_method_36_code
def yM_got : MethodName := ⟨"TinyCacheModel", "got", "(I)I"⟩
abbrev cM_delete : ByteArray := prog_7_method_37_code
def yM_delete : MethodName := ⟨"TinyCacheModel", "delete", "(J)Z"⟩
abbrev cM_setOf : ByteArray := prog_7_method_38_code
def yM_setOf : MethodName := ⟨"TinyCacheModel", "setOf", "(J)I"⟩
abbrev cM_where : ByteArray := prog_7_method_39_code
def yM_where : MethodName := ⟨"TinyCacheModel", "where", "(J)I"⟩
abbrev cM_flash : ByteArray := prog_7_method_40_code
def yM_flash : MethodName := ⟨"TinyCacheModel", "flash", "(II)I"⟩
abbrev cM_close : ByteArray := prog_7_method_41_code
def yM_close : MethodName := ⟨"TinyCacheModel", "close", "()V"⟩
abbrev cM_crash : ByteArray := prog_7_method_42_code
def yM_crash : MethodName := ⟨"TinyCacheModel", "crash", "()V"⟩
abbrev cM_open : ByteArray := prog_7_method_43_code
def yM_open : MethodName := ⟨"TinyCacheModel", "open", "()I"⟩
abbrev cM_indexed : ByteArray := prog_7_method_18_code
def yM_indexed : MethodName := ⟨"TinyCacheModel", "indexed", "()I"⟩
abbrev cM_count : ByteArray := prog_7_method_44_code
def yM_count : MethodName := ⟨"TinyCacheModel", "count", "(I)I"⟩
abbrev cW_law : ByteArray := code
def yW_law : MethodName := ⟨"TinyCacheLaw", "law", "([I)Z"⟩
def WS : List Cond := lw_tbl.filter goodWord
theorem WS_good : ∀ w ∈ WS, (w.onTables && w.keeps) = true ∨ ∃ ty, w = .arrayClass ty := fun w h => good_of_word (List.mem_filter.mp h).2
theorem inWS {w : Cond} (n : Nat) (h : lw_tbl[n]? = some w) (g : goodWord w = true) : w ∈ WS := List.mem_filter.mpr ⟨List.mem_of_getElem? h, g⟩
def xNest : List (String × Nat × MethodName × String) := [("TinyCache", 213, yP_init, "TinyCache"), ("TinyCache", 23, yG_init, "TinyCache"), ("TinyCache$Log", 9, yC_newPages, "TinyCache"), ("TinyCache$Log", 21, yI_init, "TinyCache"), ("TinyCache$Log", 28, yP_init, "TinyCache"), ("TinyCache$Item", 19, yC_mix, "TinyCache"), ("TinyCache$Item", 31, yC_setNumber, "TinyCache"), ("TinyCache$Item", 38, yC_filterBit, "TinyCache")]
def xCast : List (String × String) := [("java/lang/IndexOutOfBoundsException", "java/lang/IndexOutOfBoundsException"), ("java/lang/IllegalStateException", "java/lang/IllegalStateException"), ("java/lang/IllegalArgumentException", "java/lang/IllegalArgumentException")]
def xDecl : List MethodName := [⟨"java/lang/RuntimeException", "<init>", "()V"⟩, ⟨"java/lang/RuntimeException", "<init>", "(Ljava/lang/String;)V"⟩, ⟨"java/lang/Exception", "<init>", "()V"⟩, ⟨"java/lang/Exception", "<init>", "(Ljava/lang/String;)V"⟩, ⟨"java/lang/Throwable", "<init>", "()V"⟩, ⟨"java/lang/Throwable", "<init>", "(Ljava/lang/String;)V"⟩]
def xNoc : List (String × String) := [("java/lang/IllegalArgumentException", "java/lang/IllegalStateException")]
theorem uwX0 : ∀ w ∈ u_ws RX0 TX0 3, w ∈ WS := by decide +kernel
theorem nmX0 : ∀ a, a < 3 → ∀ b, b < 3 → a ≠ b → (TX0 a).2.1 ≠ (TX0 b).2.1 := by decide +kernel
theorem okX0 : ∀ k, k < 3 → parseFieldDescriptor (TX0 k).2.2.1 = some (tyX0 k) := by decide +kernel
theorem uwX1 : ∀ w ∈ u_ws RX1 TX1 6, w ∈ WS := by decide +kernel
theorem nmX1 : ∀ a, a < 6 → ∀ b, b < 6 → a ≠ b → (TX1 a).2.1 ≠ (TX1 b).2.1 := by decide +kernel
theorem okX1 : ∀ k, k < 6 → parseFieldDescriptor (TX1 k).2.2.1 = some (tyX1 k) := by decide +kernel
theorem uwX2 : ∀ w ∈ u_ws RX2 TX2 4, w ∈ WS := by decide +kernel
theorem nmX2 : ∀ a, a < 4 → ∀ b, b < 4 → a ≠ b → (TX2 a).2.1 ≠ (TX2 b).2.1 := by decide +kernel
theorem okX2 : ∀ k, k < 4 → parseFieldDescriptor (TX2 k).2.2.1 = some (tyX2 k) := by decide +kernel
theorem uwX3 : ∀ w ∈ u_ws RX3 TX3 4, w ∈ WS := by decide +kernel
theorem nmX3 : ∀ a, a < 4 → ∀ b, b < 4 → a ≠ b → (TX3 a).2.1 ≠ (TX3 b).2.1 := by decide +kernel
theorem okX3 : ∀ k, k < 4 → parseFieldDescriptor (TX3 k).2.2.1 = some (tyX3 k) := by decide +kernel
theorem uwX4 : ∀ w ∈ u_ws RX4 TX4 8, w ∈ WS := by decide +kernel
theorem nmX4 : ∀ a, a < 8 → ∀ b, b < 8 → a ≠ b → (TX4 a).2.1 ≠ (TX4 b).2.1 := by decide +kernel
theorem okX4 : ∀ k, k < 8 → parseFieldDescriptor (TX4 k).2.2.1 = some (tyX4 k) := by decide +kernel
theorem uwX5 : ∀ w ∈ u_ws RX5 TX5 24, w ∈ WS := by decide +kernel
theorem nmX5 : ∀ a, a < 24 → ∀ b, b < 24 → a ≠ b → (TX5 a).2.1 ≠ (TX5 b).2.1 := by decide +kernel
theorem okX5 : ∀ k, k < 24 → parseFieldDescriptor (TX5 k).2.2.1 = some (tyX5 k) := by decide +kernel
end
section
/-! The machine seen through plain data: values, locals, memory, the world, the judgements WW (a point of a method) and CC (a call). -/
abbrev XV : Type := Int32 ⊕ Int64 ⊕ Option Nat
abbrev vI (x : Int32) : XV := .inl x
abbrev vL (x : Int64) : XV := .inr (.inl x)
abbrev vR (o : Option Nat) : XV := .inr (.inr o)
def toV : XV → Value
  | .inl x => .int x
  | .inr (.inl x) => .long x
  | .inr (.inr o) => va_rf o
theorem va_rf_cat (o : Option Nat) : (va_rf o).category = 1 := by cases o <;> rfl
def isL : XV → Bool
  | .inr (.inl _) => true
  | _ => false
theorem toV_cat (v : XV) : (toV v).category = if isL v then 2 else 1 := by
  rcases v with x | x | o
  · rfl
  · rfl
  · exact va_rf_cat o
/-! locals -/
def xclr (L : List (Option XV)) : Nat → List (Option XV)
  | 0 => L
  | k + 1 => match L[k]? with
    | some (some (.inr (.inl _))) => L.set k none
    | _ => L
def xst1 (L : List (Option XV)) (i : Nat) (v : XV) : List (Option XV) := (xclr L i).set i (some v)
def xst2 (L : List (Option XV)) (i : Nat) (v : XV) : List (Option XV) := ((xclr L i).set i (some v)).set (i + 1) none
def lh (ls : Array Slot) (nL : Nat) (L : List (Option XV)) : Prop := ls.size = nL ∧ lv_wf ls ∧ ∀ (j : Nat) (w : XV), L[j]? = some (some w) → ls[j]? = some (.val (toV w))
def asl (L : List (Option XV)) : List (Nat × Value) := (List.range L.length).filterMap fun j => match L[j]? with
  | some (some w) => some (j, toV w)
  | _ => none
theorem asl_mem {L : List (Option XV)} {j : Nat} {v : Value} : (j, v) ∈ asl L ↔ ∃ w, L[j]? = some (some w) ∧ v = toV w := by
  unfold asl
  rw [List.mem_filterMap]
  constructor
  · rintro ⟨i, -, h⟩
    split at h
    · next w hw =>
      simp only [Option.some.injEq, Prod.mk.injEq] at h
      obtain ⟨rfl, rfl⟩ := h
      exact ⟨w, hw, rfl⟩
    · cases h
  · rintro ⟨w, hw, rfl⟩
    refine ⟨j, List.mem_range.mpr (List.getElem?_eq_some_iff.mp hw).1, ?_⟩
    rw [hw]
theorem lh_has {ls : Array Slot} {nL : Nat} {L : List (Option XV)} (h : lh ls nL L) : lv_has ls nL (asl L) := by
  refine ⟨h.1, h.2.1, fun q hq => ?_⟩
  obtain ⟨j, v⟩ := q
  obtain ⟨w, hw, rfl⟩ := asl_mem.mp hq
  exact h.2.2 j w hw
theorem xclr_at {L : List (Option XV)} {i j : Nat} {w : XV} (h : (xclr L i)[j]? = some (some w)) : L[j]? = some (some w) ∧ ¬ (j + 1 = i ∧ isL w = true) := by
  cases i with
  | zero => exact ⟨h, fun q => by omega⟩
  | succ k =>
    simp only [xclr] at h
    split at h
    · next x hx =>
      rw [List.getElem?_set] at h
      split at h
      · split at h <;> cases h
      · next hne => exact ⟨h, fun q => hne (by omega)⟩
    · next hx =>
      refine ⟨h, fun q => ?_⟩
      have hj : j = k := by omega
      subst hj
      rcases w with x | x | o
      · cases q.2
      · exact hx x h
      · cases q.2
theorem lh_of1 {ls : Array Slot} {nL : Nat} {L : List (Option XV)} {i : Nat} {v : XV} (h : lv_has ls nL ((i, toV v) :: (asl L).filter (fun q => !(q.1 == i) && !(q.1 + 1 == i && q.2.category == 2)))) : lh ls nL (xst1 L i v) := by
  refine ⟨h.1, h.2.1, fun j w hw => ?_⟩
  unfold xst1 at hw
  rw [List.getElem?_set] at hw
  split at hw
  · next he =>
    subst he
    split at hw
    · cases hw
      exact h.2.2 (i, toV v) List.mem_cons_self
    · cases hw
  · next hne =>
    obtain ⟨h1, h2⟩ := xclr_at hw
    refine h.2.2 (j, toV w) (List.mem_cons_of_mem _ (List.mem_filter.mpr ⟨asl_mem.mpr ⟨w, h1, rfl⟩, ?_⟩))
    have e1 : (j == i) = false := by simp; exact fun q => hne q.symm
    show (!(j == i) && !(j + 1 == i && (toV w).category == 2)) = true
    rw [e1, toV_cat]
    by_cases hl : isL w = true
    · have : (j + 1 == i) = false := by simp; exact fun q => h2 ⟨q, hl⟩
      simp [this]
    · simp [hl]
theorem lh_of2 {ls : Array Slot} {nL : Nat} {L : List (Option XV)} {i : Nat} {v : XV} (h : lv_has ls nL ((i, toV v) :: (asl L).filter (fun q => !(q.1 == i) && (!(q.1 == i + 1) && !(q.1 + 1 == i && q.2.category == 2))))) : lh ls nL (xst2 L i v) := by
  refine ⟨h.1, h.2.1, fun j w hw => ?_⟩
  unfold xst2 at hw
  rw [List.getElem?_set] at hw
  split at hw
  · split at hw <;> cases hw
  · next hne2 =>
    rw [List.getElem?_set] at hw
    split at hw
    · next he =>
      subst he
      split at hw
      · cases hw
        exact h.2.2 (i, toV v) List.mem_cons_self
      · cases hw
    · next hne =>
      obtain ⟨h1, h2⟩ := xclr_at hw
      refine h.2.2 (j, toV w) (List.mem_cons_of_mem _ (List.mem_filter.mpr ⟨asl_mem.mpr ⟨w, h1, rfl⟩, ?_⟩))
      have e1 : (j == i) = false := by simp; exact fun q => hne q.symm
      have e2 : (j == i + 1) = false := by simp; exact fun q => hne2 q.symm
      show (!(j == i) && (!(j == i + 1) && !(j + 1 == i && (toV w).category == 2))) = true
      rw [e1, e2, toV_cat]
      by_cases hl : isL w = true
      · have : (j + 1 == i) = false := by simp; exact fun q => h2 ⟨q, hl⟩
        simp [this]
      · simp [hl]
/-! memory -/
abbrev XKd : Type := Nat ⊕ (Nat × Nat)
abbrev XM : Type := (Nat → Option XKd) × (Nat → Nat → Int32) × (Nat → Nat → Int64) × (Nat → Nat → Option Nat)
abbrev kd (m : XM) (a : Nat) : Option XKd := m.1 a
abbrev gI (m : XM) (a k : Nat) : Int32 := m.2.1 a k
abbrev gL (m : XM) (a k : Nat) : Int64 := m.2.2.1 a k
abbrev gR (m : XM) (a k : Nat) : Option Nat := m.2.2.2 a k
def mI (m : XM) (a k : Nat) (v : Int32) : XM := (m.1, (fun b j => if b = a ∧ j = k then v else m.2.1 b j), m.2.2.1, m.2.2.2)
def mL (m : XM) (a k : Nat) (v : Int64) : XM := (m.1, m.2.1, (fun b j => if b = a ∧ j = k then v else m.2.2.1 b j), m.2.2.2)
def mR (m : XM) (a k : Nat) (v : Option Nat) : XM := (m.1, m.2.1, m.2.2.1, (fun b j => if b = a ∧ j = k then v else m.2.2.2 b j))
def mN (m : XM) (a : Nat) (k : XKd) : XM := ((fun b => if b = a then some k else m.1 b), (fun b j => if b = a then 0 else m.2.1 b j), (fun b j => if b = a then 0 else m.2.2.1 b j), (fun b j => if b = a then none else m.2.2.2 b j))
abbrev oB (c : Nat) : XKd := .inl c
abbrev aR (t n : Nat) : XKd := .inr (t, n)
def fval (m : XM) (a k : Nat) : Nat → Value
  | 0 => .int (m.2.1 a k)
  | 1 => .long (m.2.2.1 a k)
  | _ => va_rf (m.2.2.2 a k)
def fvals (m : XM) (a : Nat) : Nat → List Nat → List Value
  | _, [] => []
  | k, t :: ts => fval m a k t :: fvals m a (k + 1) ts
theorem fvals_get (m : XM) (a : Nat) : ∀ (ts : List Nat) (j k : Nat), (fvals m a j ts)[k]? = (ts[k]?).map (fval m a (j + k))
  | [], j, k => by simp [fvals]
  | t :: ts, j, 0 => by simp [fvals]
  | t :: ts, j, k + 1 => by
    simp only [fvals, List.getElem?_cons_succ]
    rw [fvals_get m a ts (j + 1) k]
    rw [show j + 1 + k = j + (k + 1) by omega]
theorem fvals_len (m : XM) (a : Nat) : ∀ (ts : List Nat) (j : Nat), (fvals m a j ts).length = ts.length
  | [], j => rfl
  | t :: ts, j => by simp [fvals, fvals_len m a ts (j + 1)]
theorem fvals_put {m m' : XM} {a k t : Nat} {ts : List Nat} {v : Value} (hk : ts[k]? = some t) (hv : fval m' a k t = v) (ho : ∀ i t', i ≠ k → fval m' a i t' = fval m a i t') : (fvals m a 0 ts).set k v = fvals m' a 0 ts := by
  apply List.ext_getElem?
  intro i
  rw [List.getElem?_set, fvals_get, fvals_get, fvals_len]
  have hl := (List.getElem?_eq_some_iff.mp hk).1
  by_cases h : k = i
  · subst h
    rw [if_pos rfl, if_pos hl, hk, Nat.zero_add, Option.map_some, hv]
  · rw [if_neg h]
    simp only [Nat.zero_add]
    cases ts[i]? with
    | none => rfl
    | some t' => simp [ho i t' (fun q => h q.symm)]
theorem fvals_eq {m m' : XM} {a : Nat} (ho : ∀ i t', fval m' a i t' = fval m a i t') : ∀ (ts : List Nat) (j : Nat), fvals m' a j ts = fvals m a j ts
  | [], j => rfl
  | t :: ts, j => by simp only [fvals, ho, fvals_eq ho ts (j + 1)]
def xcont (m : XM) (a : Nat) : Nat → (Nat → Int32) ⊕ (Nat → Int64) ⊕ (Nat → UInt32) ⊕ (Nat → UInt64) ⊕ (Nat → Option Nat)
  | 0 => .inl (m.2.1 a)
  | 1 => .inl (m.2.1 a)
  | 2 => .inr (.inl (m.2.2.1 a))
  | _ => .inr (.inr (.inr (.inr (m.2.2.2 a))))
abbrev xG : Type := va_G × (Nat → ClassId) × Nat × Nat × Nat × (Nat → Int32)
abbrev gBase (G : xG) : Nat := G.2.2.1
def xA (G : xG) : Nat → Prop := fun q => gBase G ≤ q
def xtys (G : xG) : List (ClassId × FieldType) := [(G.2.1 0, .int), (G.2.1 1, .boolean), (G.2.1 2, .long), (G.2.1 3, .object RX1), (G.2.1 4, .object RX3)]
def xE (G : xG) (m : XM) (a : Nat) : XKd → va_E
  | .inl ci => .inr (ci, fvals m a 0 (xF ci))
  | .inr (t, n) => .inl (G.2.1 t, n, xcont m a t)
def Wd (G : xG) (m : XM) (H : Heap) : Prop := ∀ (a : Nat) (k : XKd), m.1 a = some k → va_at G.1 vwCl (a, xE G m a k) H ∧ gBase G ≤ a
theorem xE_off {G : xG} {m m' : XM} {a : Nat} (h1 : ∀ j, m'.2.1 a j = m.2.1 a j) (h2 : ∀ j, m'.2.2.1 a j = m.2.2.1 a j) (h3 : ∀ j, m'.2.2.2 a j = m.2.2.2 a j) (k : XKd) : xE G m' a k = xE G m a k := by
  have e1 : m'.2.1 a = m.2.1 a := funext h1
  have e2 : m'.2.2.1 a = m.2.2.1 a := funext h2
  have e3 : m'.2.2.2 a = m.2.2.2 a := funext h3
  rcases k with ci | ⟨t, n⟩
  · have : fvals m' a 0 (xF ci) = fvals m a 0 (xF ci) := fvals_eq (fun i t' => by
      match t' with
      | 0 => simp only [fval, e1]
      | 1 => simp only [fval, e2]
      | n + 2 => simp only [fval, e3]) _ _
    simp only [xE, this]
  · have : xcont m' a t = xcont m a t := by
      match t with
      | 0 => simp only [xcont, e1]
      | 1 => simp only [xcont, e1]
      | 2 => simp only [xcont, e2]
      | n + 3 => simp only [xcont, e3]
    simp only [xE, this]
theorem Wd.put {G : xG} {m m' : XM} {H H1 : Heap} (h : Wd G m H) {a : Nat} (hk : m'.1 = m.1) (h1 : ∀ b j, b ≠ a → m'.2.1 b j = m.2.1 b j) (h2 : ∀ b j, b ≠ a → m'.2.2.1 b j = m.2.2.1 b j) (h3 : ∀ b j, b ≠ a → m'.2.2.2 b j = m.2.2.2 b j)
    (ha : ∀ k, m.1 a = some k → va_at G.1 vwCl (a, xE G m' a k) H1) (ho : ∀ q : Nat, q ≠ a → H1[q]? = H[q]?) : Wd G m' H1 := by
  intro b k hb
  rw [hk] at hb
  by_cases hba : b = a
  · subst hba
    exact ⟨ha k hb, (h b k hb).2⟩
  · refine ⟨?_, (h b k hb).2⟩
    rw [xE_off (fun j => h1 b j hba) (fun j => h2 b j hba) (fun j => h3 b j hba)]
    exact (h b k hb).1.kept (ho b hba)
theorem Wd.fresh {G : xG} {m : XM} {H : Heap} (h : Wd G m H) : m.1 H.size = none := by
  cases hk : m.1 H.size with
  | none => rfl
  | some k => exact absurd ((h _ k hk).1).lt (Nat.lt_irrefl _)
theorem Wd.new {G : xG} {m : XM} {H H1 : Heap} (h : Wd G m H) (k : XKd) (hb : gBase G ≤ H.size) (ho : ∀ q : Nat, q < H.size → H1[q]? = H[q]?) (ha : va_at G.1 vwCl (H.size, xE G (mN m H.size k) H.size k) H1) : Wd G (mN m H.size k) H1 := by
  intro b k' hk
  by_cases hbs : b = H.size
  · subst hbs
    have hk2 : some k = some k' := by simpa [mN] using hk
    cases hk2
    exact ⟨ha, hb⟩
  · have hk2 : m.1 b = some k' := by simpa [mN, hbs] using hk
    obtain ⟨g1, g2⟩ := h b k' hk2
    refine ⟨?_, g2⟩
    rw [xE_off (m := m) (fun j => by simp [mN, hbs]) (fun j => by simp [mN, hbs]) (fun j => by simp [mN, hbs])]
    exact g1.kept (ho b g1.lt)
/-! the judgements -/
abbrev XR : Type := Option XV ⊕ String
/-- a method: its name, bytes, locals, answer's type, room, handlers -/
abbrev xMt : Type := MethodName × ByteArray × Nat × Option FieldType × Room × List (Nat × Nat × Nat × Nat)
def xcw (M : xMt) : Cond := match M.2.2.2.2.2 with
  | [] => .code M.1 M.2.1 M.2.2.1 M.2.2.2.1
  | hh => .codeWith M.1 M.2.1 M.2.2.1 M.2.2.2.1 hh
def xws (M : xMt) : List Cond := xcw M :: WS
def xQc (G : xG) (Q : XR → XM → Prop) : Array Value → State → Outcome → State → Prop := fun _ st oc t => (∃ (r : Option XV) (m' : XM), oc = .returned (r.map toV) ∧ Q (.inl r) m' ∧ Wd G m' t.heap) ∧ va_F (xA G) st t
def xXC (G : xG) (Q : XR → XM → Prop) : String → State → State → Prop := fun E st t => ∃ m' : XM, Q (.inr E) m' ∧ Wd G m' t.heap ∧ va_F (xA G) st t
/-- words that a call doesn't carry by the list: links of nest mates, castable, declares, not castable -/
def xNt (U : State) : Prop := (∀ q ∈ xNest, va_Nw (.methodLinkNest q.1 q.2.1 q.2.2.1 q.2.2.2) U) ∧ (∀ q ∈ xCast, va_Nw (.castable q.1 q.2) U) ∧ (∀ q ∈ xDecl, va_Nw (.declares q) U) ∧ ∀ q ∈ xNoc, va_Nc q.1 q.2 U
theorem xNt.moved {s U : State} (hW : s.WarmedH U.vm) (h : xNt s) : xNt U := ⟨fun q hq => (h.1 q hq).warmM hW, fun q hq => (h.2.1 q hq).warmC hW, fun q hq => (h.2.2.1 q hq).warmD hW, fun q hq => (h.2.2.2 q hq).moved hW.alike⟩
def xSt (G : xG) (U : State) (H : Heap) : Prop := va_K G.1 vwCl (xtys G) U ∧ vx_Zq Bundle.tN "UNASSIGNED_STACK" Bundle.steD (xA G) U H ∧ vx_Zq Bundle.tN "SUPPRESSED_SENTINEL" Bundle.listD (xA G) U H ∧ gBase G ≤ H.size ∧ va_X G.2.2.2.1 G.2.2.2.2.1 G.2.2.2.2.2 U H ∧ G.2.2.2.1 < gBase G ∧ xNt U
def xPc (G : xG) (a : List XV) (m : XM) : Array Value → State → Prop := fun v U => v = (a.map toV).toArray ∧ Wd G m U.heap ∧ xSt G U U.heap
def CC (l : Launch) (G : xG) (M : xMt) (a : List XV) (m : XM) (Q : XR → XM → Prop) : Prop :=
  vx_Met l M.1 (xws M) M.2.2.2.2.1 (xPc G a m) (xQc G Q) (xXC G Q) M.2.2.2.2.1.cells M.2.2.2.2.1.slots (xA G)
def xC (l : Launch) (G : xG) (M : xMt) (p : Program) (s : State) (mid : MethodId) (args : Array Value) (meth : Method) (c : Code) : Prop :=
  p.tables.exec = Jvm.exec ∧ c.code = M.2.1 ∧ c.maxLocals = M.2.2.1 ∧ s.vm.findClass M.1.cls = some mid.cls ∧ (∀ w ∈ WS, w.before args s = true) ∧ meth.locks = false ∧ meth.sig.returnType = M.2.2.2.1 ∧ meth.name = M.1.name ∧ c.exceptionTable.toList = tableOf M.2.2.2.2.2 ∧ xSt G s s.heap ∧ l.stackTraces = false
def WW (l : Launch) (G : xG) (M : xMt) (pc : Nat) (L : List (Option XV)) (st : List XV) (m : XM) (bc bs : Nat) (Q : XR → XM → Prop) : Prop :=
  ∀ (p : Program) (e : Env) (s : State) (mid : MethodId) (args : Array Value) (below : List Frame) (meth : Method) (c : Code), xC l G M p s mid args meth c → ∀ (H : Heap) (locs : List Loc) (cells slots : Nat) (ls : Array Slot), Wd G m H → va_S (xA G) s.heap H locs → lh ls M.2.2.1 L → cells + bc ≤ M.2.2.2.2.1.cells → slots + bs ≤ M.2.2.2.2.1.slots →
    W p l e M.2.2.2.2.1 s mid args below meth c H locs cells slots (vx_MQ below (xQc G Q) (xXC G Q) args s M.2.2.2.2.1.cells M.2.2.2.2.1.slots (xA G)) (F0 mid pc ls (st.map toV))
end
section
def jushr (x : Int64) (y : Int32) : Int64 := (x.toUInt64 >>> (y.toInt64.toUInt64 &&& Int64.toUInt64 63)).toInt64
def jshl (x : Int64) (y : Int32) : Int64 := x <<< (y.toInt64 &&& 63)
def jshr (x : Int64) (y : Int32) : Int64 := x >>> (y.toInt64 &&& 63)
theorem nar_b {x : Int32} (h : x = 0 ∨ x = 1) : narrow .boolean (.int x) = .int x := by rcases h with rfl | rfl <;> decide
theorem fit_b {x : Int32} (h : x = 0 ∨ x = 1) : fits .boolean (.int x) = true := by rcases h with rfl | rfl <;> decide
theorem kdN {m : XM} {a b : Nat} {k k' : XKd} (ha : m.1 a = none) (hb : m.1 b = some k') : (mN m a k).1 b = some k' := by
  have : b ≠ a := fun e => by rw [e, ha] at hb; cases hb
  simp [mN, this, hb]
theorem kdNs (m : XM) (a : Nat) (k : XKd) : (mN m a k).1 a = some k := by simp [mN]
def wkL : List Bool → List (Option XV) → List (Option XV)
  | true :: b, v :: L => v :: wkL b L
  | false :: b, _ :: L => none :: wkL b L
  | _, _ => []
theorem wkL_at : ∀ (b : List Bool) (L : List (Option XV)) (j : Nat) (w : XV), (wkL b L)[j]? = some (some w) → L[j]? = some (some w)
  | [], L, j, w, h => by simp [wkL] at h
  | b :: bs, [], j, w, h => by cases b <;> simp [wkL] at h
  | true :: bs, v :: L, 0, w, h => by simpa [wkL] using h
  | true :: bs, v :: L, j + 1, w, h => by
    simp only [wkL, List.getElem?_cons_succ] at h ⊢
    exact wkL_at bs L j w h
  | false :: bs, v :: L, 0, w, h => by simp [wkL] at h
  | false :: bs, v :: L, j + 1, w, h => by
    simp only [wkL, List.getElem?_cons_succ] at h ⊢
    exact wkL_at bs L j w h
section XRows
variable {l : Launch} {G : xG} {M : xMt} {pc : Nat} {L : List (Option XV)} {st : List XV} {m : XM} {bc bs : Nat} {Q : XR → XM → Prop}
theorem x_iconst {i : Int} {v : Int32} (hd : decode M.2.1 pc = .ok (.iconst i, 1)) (hv : Int32.ofInt i = v) {n : Nat} (hn : pc + 1 = n) (k : WW l G M n L (vI v :: st) m bc bs Q) : WW l G M pc L (st) m bc bs Q := by
  subst hn
  intro p e s mid args below meth c hC H locs cells slots ls hW hS hL h1 h2
  exact lv_iconst hC.1 hC.2.1 hd hv (k p e s mid args below meth c hC H locs cells slots ls hW hS hL h1 h2)
theorem x_bipush {i : Int} {v : Int32} (hd : decode M.2.1 pc = .ok (.bipush i, 2)) (hv : (Int8.ofInt i).toInt32 = v) {n : Nat} (hn : pc + 2 = n) (k : WW l G M n L (vI v :: st) m bc bs Q) : WW l G M pc L (st) m bc bs Q := by
  subst hn
  intro p e s mid args below meth c hC H locs cells slots ls hW hS hL h1 h2
  exact lv_bipush hC.1 hC.2.1 hd hv (k p e s mid args below meth c hC H locs cells slots ls hW hS hL h1 h2)
theorem x_sipush {i : Int} {v : Int32} (hd : decode M.2.1 pc = .ok (.sipush i, 3)) (hv : (Int16.ofInt i).toInt32 = v) {n : Nat} (hn : pc + 3 = n) (k : WW l G M n L (vI v :: st) m bc bs Q) : WW l G M pc L (st) m bc bs Q := by
  subst hn
  intro p e s mid args below meth c hC H locs cells slots ls hW hS hL h1 h2
  exact lv_sipush hC.1 hC.2.1 hd hv (k p e s mid args below meth c hC H locs cells slots ls hW hS hL h1 h2)
theorem x_lconst {i : Fin 2} {v : Int64} (hd : decode M.2.1 pc = .ok (.lconst i, 1)) (hv : Int64.ofNat (i : Nat) = v) {n : Nat} (hn : pc + 1 = n) (k : WW l G M n L (vL v :: st) m bc bs Q) : WW l G M pc L (st) m bc bs Q := by
  subst hn
  intro p e s mid args below meth c hC H locs cells slots ls hW hS hL h1 h2
  exact lv_lconst hC.1 hC.2.1 hd hv (k p e s mid args below meth c hC H locs cells slots ls hW hS hL h1 h2)
theorem x_iload_n {i : Fin 4} {x : Int32} (hd : decode M.2.1 pc = .ok (.iload_n i, 1)) (hl : L[(i : Nat)]? = some (some (vI x))) {n : Nat} (hn : pc + 1 = n) (k : WW l G M n L (vI x :: st) m bc bs Q) : WW l G M pc L (st) m bc bs Q := by
  subst hn
  intro p e s mid args below meth c hC H locs cells slots ls hW hS hL h1 h2
  exact lv_iload_n hC.1 hC.2.1 hd rfl (hL.2.2 _ _ hl) (k p e s mid args below meth c hC H locs cells slots ls hW hS hL h1 h2)
theorem x_iload {i : Nat} {x : Int32} (hd : decode M.2.1 pc = .ok (.iload i, 2)) (hl : L[i]? = some (some (vI x))) {n : Nat} (hn : pc + 2 = n) (k : WW l G M n L (vI x :: st) m bc bs Q) : WW l G M pc L (st) m bc bs Q := by
  subst hn
  intro p e s mid args below meth c hC H locs cells slots ls hW hS hL h1 h2
  exact lv_iload hC.1 hC.2.1 hd (hL.2.2 _ _ hl) (k p e s mid args below meth c hC H locs cells slots ls hW hS hL h1 h2)
theorem x_lload_n {i : Fin 4} {x : Int64} (hd : decode M.2.1 pc = .ok (.lload_n i, 1)) (hl : L[(i : Nat)]? = some (some (vL x))) {n : Nat} (hn : pc + 1 = n) (k : WW l G M n L (vL x :: st) m bc bs Q) : WW l G M pc L (st) m bc bs Q := by
  subst hn
  intro p e s mid args below meth c hC H locs cells slots ls hW hS hL h1 h2
  exact lv_lload_n hC.1 hC.2.1 hd rfl (hL.2.2 _ _ hl) (k p e s mid args below meth c hC H locs cells slots ls hW hS hL h1 h2)
theorem x_lload {i : Nat} {x : Int64} (hd : decode M.2.1 pc = .ok (.lload i, 2)) (hl : L[i]? = some (some (vL x))) {n : Nat} (hn : pc + 2 = n) (k : WW l G M n L (vL x :: st) m bc bs Q) : WW l G M pc L (st) m bc bs Q := by
  subst hn
  intro p e s mid args below meth c hC H locs cells slots ls hW hS hL h1 h2
  exact lv_lload hC.1 hC.2.1 hd (hL.2.2 _ _ hl) (k p e s mid args below meth c hC H locs cells slots ls hW hS hL h1 h2)
theorem x_aload_n {i : Fin 4} {o : Option Nat} (hd : decode M.2.1 pc = .ok (.aload_n i, 1)) (hl : L[(i : Nat)]? = some (some (vR o))) {n : Nat} (hn : pc + 1 = n) (k : WW l G M n L (vR o :: st) m bc bs Q) : WW l G M pc L st m bc bs Q := by
  subst hn
  intro p e s mid args below meth c hC H locs cells slots ls hW hS hL h1 h2
  have hh := hL.2.2 _ _ hl
  cases o with
  | none => exact lv_aload_nN hC.1 hC.2.1 hd rfl hh (k p e s mid args below meth c hC H locs cells slots ls hW hS hL h1 h2)
  | some a => exact lv_aload_n hC.1 hC.2.1 hd rfl hh (k p e s mid args below meth c hC H locs cells slots ls hW hS hL h1 h2)
theorem x_aload {i : Nat} {o : Option Nat} (hd : decode M.2.1 pc = .ok (.aload i, 2)) (hl : L[(i : Nat)]? = some (some (vR o))) {n : Nat} (hn : pc + 2 = n) (k : WW l G M n L (vR o :: st) m bc bs Q) : WW l G M pc L st m bc bs Q := by
  subst hn
  intro p e s mid args below meth c hC H locs cells slots ls hW hS hL h1 h2
  have hh := hL.2.2 _ _ hl
  cases o with
  | none => exact lv_aloadN hC.1 hC.2.1 hd hh (k p e s mid args below meth c hC H locs cells slots ls hW hS hL h1 h2)
  | some a => exact lv_aload hC.1 hC.2.1 hd hh (k p e s mid args below meth c hC H locs cells slots ls hW hS hL h1 h2)
theorem x_istore_n {i : Fin 4} {x : Int32} (hd : decode M.2.1 pc = .ok (.istore_n i, 1)) {L' : List (Option XV)} (hi : (i : Nat) < M.2.2.1) (hl : xst1 L (i : Nat) (vI x) = L') {n : Nat} (hn : pc + 1 = n) (k : WW l G M n L' st m bc bs Q) : WW l G M pc L (vI x :: st) m bc bs Q := by
  subst hn; subst hl
  intro p e s mid args below meth c hC H locs cells slots ls hW hS hL h1 h2
  exact lv_istore_n hC.1 hC.2.1 hd rfl (lh_has hL) hi rfl fun ls' h' => k p e s mid args below meth c hC H locs cells slots ls' hW hS (lh_of1 (v := vI x) h') h1 h2
theorem x_lstore_n {i : Fin 4} {x : Int64} (hd : decode M.2.1 pc = .ok (.lstore_n i, 1)) {L' : List (Option XV)} (hi : (i : Nat) + 1 < M.2.2.1) (hl : xst2 L (i : Nat) (vL x) = L') {n : Nat} (hn : pc + 1 = n) (k : WW l G M n L' st m bc bs Q) : WW l G M pc L (vL x :: st) m bc bs Q := by
  subst hn; subst hl
  intro p e s mid args below meth c hC H locs cells slots ls hW hS hL h1 h2
  exact lv_lstore_n hC.1 hC.2.1 hd rfl (lh_has hL) hi rfl fun ls' h' => k p e s mid args below meth c hC H locs cells slots ls' hW hS (lh_of2 (v := vL x) h') h1 h2
theorem x_astore_n {i : Fin 4} {o : Option Nat} (hd : decode M.2.1 pc = .ok (.astore_n i, 1)) {L' : List (Option XV)} (hi : (i : Nat) < M.2.2.1) (hl : xst1 L (i : Nat) (vR o) = L') {n : Nat} (hn : pc + 1 = n) (k : WW l G M n L' st m bc bs Q) : WW l G M pc L (vR o :: st) m bc bs Q := by
  subst hn; subst hl
  intro p e s mid args below meth c hC H locs cells slots ls hW hS hL h1 h2
  cases o with
  | none => exact lv_astore_nN hC.1 hC.2.1 hd rfl (lh_has hL) hi rfl fun ls' h' => k p e s mid args below meth c hC H locs cells slots ls' hW hS (lh_of1 (v := vR none) h') h1 h2
  | some a => exact lv_astore_n hC.1 hC.2.1 hd rfl (lh_has hL) hi rfl fun ls' h' => k p e s mid args below meth c hC H locs cells slots ls' hW hS (lh_of1 (v := vR (some a)) h') h1 h2
theorem x_istore {i : Nat} {x : Int32} (hd : decode M.2.1 pc = .ok (.istore i, 2)) {L' : List (Option XV)} (hi : (i : Nat) < M.2.2.1) (hl : xst1 L (i : Nat) (vI x) = L') {n : Nat} (hn : pc + 2 = n) (k : WW l G M n L' st m bc bs Q) : WW l G M pc L (vI x :: st) m bc bs Q := by
  subst hn; subst hl
  intro p e s mid args below meth c hC H locs cells slots ls hW hS hL h1 h2
  exact lv_istore hC.1 hC.2.1 hd (lh_has hL) hi rfl fun ls' h' => k p e s mid args below meth c hC H locs cells slots ls' hW hS (lh_of1 (v := vI x) h') h1 h2
theorem x_lstore {i : Nat} {x : Int64} (hd : decode M.2.1 pc = .ok (.lstore i, 2)) {L' : List (Option XV)} (hi : (i : Nat) + 1 < M.2.2.1) (hl : xst2 L (i : Nat) (vL x) = L') {n : Nat} (hn : pc + 2 = n) (k : WW l G M n L' st m bc bs Q) : WW l G M pc L (vL x :: st) m bc bs Q := by
  subst hn; subst hl
  intro p e s mid args below meth c hC H locs cells slots ls hW hS hL h1 h2
  exact lv_lstore hC.1 hC.2.1 hd (lh_has hL) hi rfl fun ls' h' => k p e s mid args below meth c hC H locs cells slots ls' hW hS (lh_of2 (v := vL x) h') h1 h2
theorem x_astore {i : Nat} {o : Option Nat} (hd : decode M.2.1 pc = .ok (.astore i, 2)) {L' : List (Option XV)} (hi : (i : Nat) < M.2.2.1) (hl : xst1 L (i : Nat) (vR o) = L') {n : Nat} (hn : pc + 2 = n) (k : WW l G M n L' st m bc bs Q) : WW l G M pc L (vR o :: st) m bc bs Q := by
  subst hn; subst hl
  intro p e s mid args below meth c hC H locs cells slots ls hW hS hL h1 h2
  cases o with
  | none => exact lv_astoreN hC.1 hC.2.1 hd (lh_has hL) hi rfl fun ls' h' => k p e s mid args below meth c hC H locs cells slots ls' hW hS (lh_of1 (v := vR none) h') h1 h2
  | some a => exact lv_astore hC.1 hC.2.1 hd (lh_has hL) hi rfl fun ls' h' => k p e s mid args below meth c hC H locs cells slots ls' hW hS (lh_of1 (v := vR (some a)) h') h1 h2
theorem x_iinc {i : Nat} {j : Int} {x v : Int32} (hd : decode M.2.1 pc = .ok (.iinc i j, 3)) (hx : L[i]? = some (some (vI x))) (hv : x + Int32.ofInt j = v) {L' : List (Option XV)} (hi : i < M.2.2.1) (hl : xst1 L i (vI v) = L') {n : Nat} (hn : pc + 3 = n) (k : WW l G M n L' st m bc bs Q) : WW l G M pc L st m bc bs Q := by
  subst hn; subst hl
  intro p e s mid args below meth c hC H locs cells slots ls hW hS hL h1 h2
  obtain ⟨q, hq⟩ := List.getElem?_of_mem (asl_mem.mpr ⟨vI x, hx, rfl⟩)
  exact lv_iinc (k := q) hC.1 hC.2.1 hd (lh_has hL) hq hv hi rfl fun ls' h' => k p e s mid args below meth c hC H locs cells slots ls' hW hS (lh_of1 (v := vI v) h') h1 h2
theorem x_iadd {x y : Int32} (hd : decode M.2.1 pc = .ok (.iadd, 1)) {n : Nat} (hn : pc + 1 = n) (k : WW l G M n L (vI (x + y) :: st) m bc bs Q) : WW l G M pc L (vI y :: vI x :: st) m bc bs Q := by
  subst hn
  intro p e s mid args below meth c hC H locs cells slots ls hW hS hL h1 h2
  exact lv_iadd hC.1 hC.2.1 hd  (k p e s mid args below meth c hC H locs cells slots ls hW hS hL h1 h2)
theorem x_isub {x y : Int32} (hd : decode M.2.1 pc = .ok (.isub, 1)) {n : Nat} (hn : pc + 1 = n) (k : WW l G M n L (vI (x - y) :: st) m bc bs Q) : WW l G M pc L (vI y :: vI x :: st) m bc bs Q := by
  subst hn
  intro p e s mid args below meth c hC H locs cells slots ls hW hS hL h1 h2
  exact lv_isub hC.1 hC.2.1 hd  (k p e s mid args below meth c hC H locs cells slots ls hW hS hL h1 h2)
theorem x_imul {x y : Int32} (hd : decode M.2.1 pc = .ok (.imul, 1)) {n : Nat} (hn : pc + 1 = n) (k : WW l G M n L (vI (x * y) :: st) m bc bs Q) : WW l G M pc L (vI y :: vI x :: st) m bc bs Q := by
  subst hn
  intro p e s mid args below meth c hC H locs cells slots ls hW hS hL h1 h2
  exact lv_imul hC.1 hC.2.1 hd  (k p e s mid args below meth c hC H locs cells slots ls hW hS hL h1 h2)
theorem x_iand {x y : Int32} (hd : decode M.2.1 pc = .ok (.iand, 1)) {n : Nat} (hn : pc + 1 = n) (k : WW l G M n L (vI (x &&& y) :: st) m bc bs Q) : WW l G M pc L (vI y :: vI x :: st) m bc bs Q := by
  subst hn
  intro p e s mid args below meth c hC H locs cells slots ls hW hS hL h1 h2
  exact lv_iand hC.1 hC.2.1 hd  (k p e s mid args below meth c hC H locs cells slots ls hW hS hL h1 h2)
theorem x_idiv {x y : Int32} (hd : decode M.2.1 pc = .ok (.idiv, 1)) (hy : ¬ y = 0) {n : Nat} (hn : pc + 1 = n) (k : WW l G M n L (vI (x / y) :: st) m bc bs Q) : WW l G M pc L (vI y :: vI x :: st) m bc bs Q := by
  subst hn
  intro p e s mid args below meth c hC H locs cells slots ls hW hS hL h1 h2
  exact lv_idiv hC.1 hC.2.1 hd hy (k p e s mid args below meth c hC H locs cells slots ls hW hS hL h1 h2)
theorem x_irem {x y : Int32} (hd : decode M.2.1 pc = .ok (.irem, 1)) (hy : ¬ y = 0) {n : Nat} (hn : pc + 1 = n) (k : WW l G M n L (vI (x - x / y * y) :: st) m bc bs Q) : WW l G M pc L (vI y :: vI x :: st) m bc bs Q := by
  subst hn
  intro p e s mid args below meth c hC H locs cells slots ls hW hS hL h1 h2
  exact lv_irem hC.1 hC.2.1 hd hy (k p e s mid args below meth c hC H locs cells slots ls hW hS hL h1 h2)
theorem x_lmul {x y : Int64} (hd : decode M.2.1 pc = .ok (.lmul, 1)) {n : Nat} (hn : pc + 1 = n) (k : WW l G M n L (vL (x * y) :: st) m bc bs Q) : WW l G M pc L (vL y :: vL x :: st) m bc bs Q := by
  subst hn
  intro p e s mid args below meth c hC H locs cells slots ls hW hS hL h1 h2
  exact lv_lmul hC.1 hC.2.1 hd  (k p e s mid args below meth c hC H locs cells slots ls hW hS hL h1 h2)
theorem x_land {x y : Int64} (hd : decode M.2.1 pc = .ok (.land, 1)) {n : Nat} (hn : pc + 1 = n) (k : WW l G M n L (vL (x &&& y) :: st) m bc bs Q) : WW l G M pc L (vL y :: vL x :: st) m bc bs Q := by
  subst hn
  intro p e s mid args below meth c hC H locs cells slots ls hW hS hL h1 h2
  exact lv_land hC.1 hC.2.1 hd  (k p e s mid args below meth c hC H locs cells slots ls hW hS hL h1 h2)
theorem x_lor {x y : Int64} (hd : decode M.2.1 pc = .ok (.lor, 1)) {n : Nat} (hn : pc + 1 = n) (k : WW l G M n L (vL (x ||| y) :: st) m bc bs Q) : WW l G M pc L (vL y :: vL x :: st) m bc bs Q := by
  subst hn
  intro p e s mid args below meth c hC H locs cells slots ls hW hS hL h1 h2
  exact lv_lor hC.1 hC.2.1 hd  (k p e s mid args below meth c hC H locs cells slots ls hW hS hL h1 h2)
theorem x_lxor {x y : Int64} (hd : decode M.2.1 pc = .ok (.lxor, 1)) {n : Nat} (hn : pc + 1 = n) (k : WW l G M n L (vL (x ^^^ y) :: st) m bc bs Q) : WW l G M pc L (vL y :: vL x :: st) m bc bs Q := by
  subst hn
  intro p e s mid args below meth c hC H locs cells slots ls hW hS hL h1 h2
  exact lv_lxor hC.1 hC.2.1 hd  (k p e s mid args below meth c hC H locs cells slots ls hW hS hL h1 h2)
theorem x_lushr {x : Int64} {y : Int32} (hd : decode M.2.1 pc = .ok (.lushr, 1)) {n : Nat} (hn : pc + 1 = n) (k : WW l G M n L (vL (jushr x y) :: st) m bc bs Q) : WW l G M pc L (vI y :: vL x :: st) m bc bs Q := by
  subst hn
  intro p e s mid args below meth c hC H locs cells slots ls hW hS hL h1 h2
  exact lv_lushr hC.1 hC.2.1 hd rfl (k p e s mid args below meth c hC H locs cells slots ls hW hS hL h1 h2)
theorem x_lshl {x : Int64} {y : Int32} (hd : decode M.2.1 pc = .ok (.lshl, 1)) {n : Nat} (hn : pc + 1 = n) (k : WW l G M n L (vL (jshl x y) :: st) m bc bs Q) : WW l G M pc L (vI y :: vL x :: st) m bc bs Q := by
  subst hn
  intro p e s mid args below meth c hC H locs cells slots ls hW hS hL h1 h2
  exact lv_lshl hC.1 hC.2.1 hd rfl (k p e s mid args below meth c hC H locs cells slots ls hW hS hL h1 h2)
theorem x_lshr {x : Int64} {y : Int32} (hd : decode M.2.1 pc = .ok (.lshr, 1)) {n : Nat} (hn : pc + 1 = n) (k : WW l G M n L (vL (jshr x y) :: st) m bc bs Q) : WW l G M pc L (vI y :: vL x :: st) m bc bs Q := by
  subst hn
  intro p e s mid args below meth c hC H locs cells slots ls hW hS hL h1 h2
  exact lv_lshr hC.1 hC.2.1 hd rfl (k p e s mid args below meth c hC H locs cells slots ls hW hS hL h1 h2)
theorem x_i2l {x : Int32} (hd : decode M.2.1 pc = .ok (.i2l, 1)) {n : Nat} (hn : pc + 1 = n) (k : WW l G M n L (vL x.toInt64 :: st) m bc bs Q) : WW l G M pc L (vI x :: st) m bc bs Q := by
  subst hn
  intro p e s mid args below meth c hC H locs cells slots ls hW hS hL h1 h2
  exact lv_i2l hC.1 hC.2.1 hd rfl (k p e s mid args below meth c hC H locs cells slots ls hW hS hL h1 h2)
theorem x_l2i {x : Int64} (hd : decode M.2.1 pc = .ok (.l2i, 1)) {n : Nat} (hn : pc + 1 = n) (k : WW l G M n L (vI x.toInt32 :: st) m bc bs Q) : WW l G M pc L (vL x :: st) m bc bs Q := by
  subst hn
  intro p e s mid args below meth c hC H locs cells slots ls hW hS hL h1 h2
  exact lv_l2i hC.1 hC.2.1 hd rfl (k p e s mid args below meth c hC H locs cells slots ls hW hS hL h1 h2)
theorem x_lcmp {x y : Int64} (hd : decode M.2.1 pc = .ok (.lcmp, 1)) {n : Nat} (hn : pc + 1 = n) (k : WW l G M n L (vI (lg_cmp x y) :: st) m bc bs Q) : WW l G M pc L (vL y :: vL x :: st) m bc bs Q := by
  subst hn
  intro p e s mid args below meth c hC H locs cells slots ls hW hS hL h1 h2
  exact W.lcmp hC.1 hC.2.1 hd  (k p e s mid args below meth c hC H locs cells slots ls hW hS hL h1 h2)
theorem x_pop {x : XV} (hd : decode M.2.1 pc = .ok (.pop, 1)) (hx : isL x = false) {n : Nat} (hn : pc + 1 = n) (k : WW l G M n L (st) m bc bs Q) : WW l G M pc L (x :: st) m bc bs Q := by
  subst hn
  intro p e s mid args below meth c hC H locs cells slots ls hW hS hL h1 h2
  exact lv_pop hC.1 hC.2.1 hd (by rw [toV_cat, hx]; rfl) (k p e s mid args below meth c hC H locs cells slots ls hW hS hL h1 h2)
theorem x_dup {x : XV} (hd : decode M.2.1 pc = .ok (.dup, 1)) (hx : isL x = false) {n : Nat} (hn : pc + 1 = n) (k : WW l G M n L (x :: x :: st) m bc bs Q) : WW l G M pc L (x :: st) m bc bs Q := by
  subst hn
  intro p e s mid args below meth c hC H locs cells slots ls hW hS hL h1 h2
  exact lv_dup hC.1 hC.2.1 hd (by rw [toV_cat, hx]; rfl) (k p e s mid args below meth c hC H locs cells slots ls hW hS hL h1 h2)
theorem x_dup2 {x y : XV} (hd : decode M.2.1 pc = .ok (.dup2, 1)) (hx : isL x = false) (hy : isL y = false) {n : Nat} (hn : pc + 1 = n) (k : WW l G M n L (x :: y :: x :: y :: st) m bc bs Q) : WW l G M pc L (x :: y :: st) m bc bs Q := by
  subst hn
  intro p e s mid args below meth c hC H locs cells slots ls hW hS hL h1 h2
  exact lv_dup2_11 hC.1 hC.2.1 hd (by rw [toV_cat, hx]; rfl) (by rw [toV_cat, hy]; rfl) (k p e s mid args below meth c hC H locs cells slots ls hW hS hL h1 h2)
theorem x_dup_x1 {x y : XV} (hd : decode M.2.1 pc = .ok (.dup_x1, 1)) (hx : isL x = false) (hy : isL y = false) {n : Nat} (hn : pc + 1 = n) (k : WW l G M n L (x :: y :: x :: st) m bc bs Q) : WW l G M pc L (x :: y :: st) m bc bs Q := by
  subst hn
  intro p e s mid args below meth c hC H locs cells slots ls hW hS hL h1 h2
  exact lv_dup_x1 hC.1 hC.2.1 hd (by rw [toV_cat, hx]; rfl) (by rw [toV_cat, hy]; rfl) (k p e s mid args below meth c hC H locs cells slots ls hW hS hL h1 h2)
theorem x_null (hd : decode M.2.1 pc = .ok (.aconst_null, 1)) {n : Nat} (hn : pc + 1 = n) (k : WW l G M n L (vR none :: st) m bc bs Q) : WW l G M pc L (st) m bc bs Q := by
  subst hn
  intro p e s mid args below meth c hC H locs cells slots ls hW hS hL h1 h2
  exact lv_null hC.1 hC.2.1 hd  (k p e s mid args below meth c hC H locs cells slots ls hW hS hL h1 h2)
theorem x_ldc {i : Nat} {v : Int32} (hd : decode M.2.1 pc = .ok (.ldc i, 2)) (hw : Cond.constant M.1.cls i v ∈ WS) {n : Nat} (hn : pc + 2 = n) (k : WW l G M n L (vI v :: st) m bc bs Q) : WW l G M pc L (st) m bc bs Q := by
  subst hn
  intro p e s mid args below meth c hC H locs cells slots ls hW hS hL h1 h2
  exact (fun h1 h2 h3 h4 => lv_ldc (own := M.1.cls) h1 h2 hC.2.2.2.1 (hC.2.2.2.2.1 _ hw) h3 h4) hC.1 hC.2.1 hd  (k p e s mid args below meth c hC H locs cells slots ls hW hS hL h1 h2)
theorem x_ldc2 {i : Nat} {v : Int64} (hd : decode M.2.1 pc = .ok (.ldc2_w i, 3)) (hw : Cond.constantLong M.1.cls i v ∈ WS) {n : Nat} (hn : pc + 3 = n) (k : WW l G M n L (vL v :: st) m bc bs Q) : WW l G M pc L (st) m bc bs Q := by
  subst hn
  intro p e s mid args below meth c hC H locs cells slots ls hW hS hL h1 h2
  exact (fun h1 h2 h3 h4 => lv_ldc2 (own := M.1.cls) h1 h2 hC.2.2.2.1 (hC.2.2.2.2.1 _ hw) h3 h4) hC.1 hC.2.1 hd  (k p e s mid args below meth c hC H locs cells slots ls hW hS hL h1 h2)
theorem x_if_eq {x : Int32} {off : Int} {tgt : Nat} (hd : decode M.2.1 pc = .ok (.ifCond .eq off, 3)) (ht : (pc : Int) + off = (tgt : Int)) {n : Nat} (hn : pc + 3 = n) (kt : x = 0 → WW l G M tgt L st m bc bs Q) (kf : ¬ x = 0 → WW l G M n L st m bc bs Q) : WW l G M pc L (vI x :: st) m bc bs Q := by
  subst hn
  intro p e s mid args below meth c hC H locs cells slots ls hW hS hL h1 h2
  exact lv_if_eq hC.1 hC.2.1 hd ht (fun hp => kt hp p e s mid args below meth c hC H locs cells slots ls hW hS hL h1 h2) (fun hp => kf hp p e s mid args below meth c hC H locs cells slots ls hW hS hL h1 h2)
theorem x_icmp_eq {x y : Int32} {off : Int} {tgt : Nat} (hd : decode M.2.1 pc = .ok (.if_icmp .eq off, 3)) (ht : (pc : Int) + off = (tgt : Int)) {n : Nat} (hn : pc + 3 = n) (kt : x = y → WW l G M tgt L st m bc bs Q) (kf : ¬ x = y → WW l G M n L st m bc bs Q) : WW l G M pc L (vI y :: vI x :: st) m bc bs Q := by
  subst hn
  intro p e s mid args below meth c hC H locs cells slots ls hW hS hL h1 h2
  exact lv_icmp_eq hC.1 hC.2.1 hd ht (fun hp => kt hp p e s mid args below meth c hC H locs cells slots ls hW hS hL h1 h2) (fun hp => kf hp p e s mid args below meth c hC H locs cells slots ls hW hS hL h1 h2)
theorem x_if_ne {x : Int32} {off : Int} {tgt : Nat} (hd : decode M.2.1 pc = .ok (.ifCond .ne off, 3)) (ht : (pc : Int) + off = (tgt : Int)) {n : Nat} (hn : pc + 3 = n) (kt : ¬ x = 0 → WW l G M tgt L st m bc bs Q) (kf : x = 0 → WW l G M n L st m bc bs Q) : WW l G M pc L (vI x :: st) m bc bs Q := by
  subst hn
  intro p e s mid args below meth c hC H locs cells slots ls hW hS hL h1 h2
  exact lv_if_ne hC.1 hC.2.1 hd ht (fun hp => kt hp p e s mid args below meth c hC H locs cells slots ls hW hS hL h1 h2) (fun hp => kf hp p e s mid args below meth c hC H locs cells slots ls hW hS hL h1 h2)
theorem x_icmp_ne {x y : Int32} {off : Int} {tgt : Nat} (hd : decode M.2.1 pc = .ok (.if_icmp .ne off, 3)) (ht : (pc : Int) + off = (tgt : Int)) {n : Nat} (hn : pc + 3 = n) (kt : ¬ x = y → WW l G M tgt L st m bc bs Q) (kf : x = y → WW l G M n L st m bc bs Q) : WW l G M pc L (vI y :: vI x :: st) m bc bs Q := by
  subst hn
  intro p e s mid args below meth c hC H locs cells slots ls hW hS hL h1 h2
  exact lv_icmp_ne hC.1 hC.2.1 hd ht (fun hp => kt hp p e s mid args below meth c hC H locs cells slots ls hW hS hL h1 h2) (fun hp => kf hp p e s mid args below meth c hC H locs cells slots ls hW hS hL h1 h2)
theorem x_if_lt {x : Int32} {off : Int} {tgt : Nat} (hd : decode M.2.1 pc = .ok (.ifCond .lt off, 3)) (ht : (pc : Int) + off = (tgt : Int)) {n : Nat} (hn : pc + 3 = n) (kt : x < 0 → WW l G M tgt L st m bc bs Q) (kf : ¬ x < 0 → WW l G M n L st m bc bs Q) : WW l G M pc L (vI x :: st) m bc bs Q := by
  subst hn
  intro p e s mid args below meth c hC H locs cells slots ls hW hS hL h1 h2
  exact lv_if_lt hC.1 hC.2.1 hd ht (fun hp => kt hp p e s mid args below meth c hC H locs cells slots ls hW hS hL h1 h2) (fun hp => kf hp p e s mid args below meth c hC H locs cells slots ls hW hS hL h1 h2)
theorem x_icmp_lt {x y : Int32} {off : Int} {tgt : Nat} (hd : decode M.2.1 pc = .ok (.if_icmp .lt off, 3)) (ht : (pc : Int) + off = (tgt : Int)) {n : Nat} (hn : pc + 3 = n) (kt : x < y → WW l G M tgt L st m bc bs Q) (kf : ¬ x < y → WW l G M n L st m bc bs Q) : WW l G M pc L (vI y :: vI x :: st) m bc bs Q := by
  subst hn
  intro p e s mid args below meth c hC H locs cells slots ls hW hS hL h1 h2
  exact lv_icmp_lt hC.1 hC.2.1 hd ht (fun hp => kt hp p e s mid args below meth c hC H locs cells slots ls hW hS hL h1 h2) (fun hp => kf hp p e s mid args below meth c hC H locs cells slots ls hW hS hL h1 h2)
theorem x_if_ge {x : Int32} {off : Int} {tgt : Nat} (hd : decode M.2.1 pc = .ok (.ifCond .ge off, 3)) (ht : (pc : Int) + off = (tgt : Int)) {n : Nat} (hn : pc + 3 = n) (kt : 0 ≤ x → WW l G M tgt L st m bc bs Q) (kf : ¬ 0 ≤ x → WW l G M n L st m bc bs Q) : WW l G M pc L (vI x :: st) m bc bs Q := by
  subst hn
  intro p e s mid args below meth c hC H locs cells slots ls hW hS hL h1 h2
  exact lv_if_ge hC.1 hC.2.1 hd ht (fun hp => kt hp p e s mid args below meth c hC H locs cells slots ls hW hS hL h1 h2) (fun hp => kf hp p e s mid args below meth c hC H locs cells slots ls hW hS hL h1 h2)
theorem x_icmp_ge {x y : Int32} {off : Int} {tgt : Nat} (hd : decode M.2.1 pc = .ok (.if_icmp .ge off, 3)) (ht : (pc : Int) + off = (tgt : Int)) {n : Nat} (hn : pc + 3 = n) (kt : y ≤ x → WW l G M tgt L st m bc bs Q) (kf : ¬ y ≤ x → WW l G M n L st m bc bs Q) : WW l G M pc L (vI y :: vI x :: st) m bc bs Q := by
  subst hn
  intro p e s mid args below meth c hC H locs cells slots ls hW hS hL h1 h2
  exact lv_icmp_ge hC.1 hC.2.1 hd ht (fun hp => kt hp p e s mid args below meth c hC H locs cells slots ls hW hS hL h1 h2) (fun hp => kf hp p e s mid args below meth c hC H locs cells slots ls hW hS hL h1 h2)
theorem x_if_gt {x : Int32} {off : Int} {tgt : Nat} (hd : decode M.2.1 pc = .ok (.ifCond .gt off, 3)) (ht : (pc : Int) + off = (tgt : Int)) {n : Nat} (hn : pc + 3 = n) (kt : 0 < x → WW l G M tgt L st m bc bs Q) (kf : ¬ 0 < x → WW l G M n L st m bc bs Q) : WW l G M pc L (vI x :: st) m bc bs Q := by
  subst hn
  intro p e s mid args below meth c hC H locs cells slots ls hW hS hL h1 h2
  exact lv_if_gt hC.1 hC.2.1 hd ht (fun hp => kt hp p e s mid args below meth c hC H locs cells slots ls hW hS hL h1 h2) (fun hp => kf hp p e s mid args below meth c hC H locs cells slots ls hW hS hL h1 h2)
theorem x_icmp_gt {x y : Int32} {off : Int} {tgt : Nat} (hd : decode M.2.1 pc = .ok (.if_icmp .gt off, 3)) (ht : (pc : Int) + off = (tgt : Int)) {n : Nat} (hn : pc + 3 = n) (kt : y < x → WW l G M tgt L st m bc bs Q) (kf : ¬ y < x → WW l G M n L st m bc bs Q) : WW l G M pc L (vI y :: vI x :: st) m bc bs Q := by
  subst hn
  intro p e s mid args below meth c hC H locs cells slots ls hW hS hL h1 h2
  exact lv_icmp_gt hC.1 hC.2.1 hd ht (fun hp => kt hp p e s mid args below meth c hC H locs cells slots ls hW hS hL h1 h2) (fun hp => kf hp p e s mid args below meth c hC H locs cells slots ls hW hS hL h1 h2)
theorem x_if_le {x : Int32} {off : Int} {tgt : Nat} (hd : decode M.2.1 pc = .ok (.ifCond .le off, 3)) (ht : (pc : Int) + off = (tgt : Int)) {n : Nat} (hn : pc + 3 = n) (kt : x ≤ 0 → WW l G M tgt L st m bc bs Q) (kf : ¬ x ≤ 0 → WW l G M n L st m bc bs Q) : WW l G M pc L (vI x :: st) m bc bs Q := by
  subst hn
  intro p e s mid args below meth c hC H locs cells slots ls hW hS hL h1 h2
  exact lv_if_le hC.1 hC.2.1 hd ht (fun hp => kt hp p e s mid args below meth c hC H locs cells slots ls hW hS hL h1 h2) (fun hp => kf hp p e s mid args below meth c hC H locs cells slots ls hW hS hL h1 h2)
theorem x_icmp_le {x y : Int32} {off : Int} {tgt : Nat} (hd : decode M.2.1 pc = .ok (.if_icmp .le off, 3)) (ht : (pc : Int) + off = (tgt : Int)) {n : Nat} (hn : pc + 3 = n) (kt : x ≤ y → WW l G M tgt L st m bc bs Q) (kf : ¬ x ≤ y → WW l G M n L st m bc bs Q) : WW l G M pc L (vI y :: vI x :: st) m bc bs Q := by
  subst hn
  intro p e s mid args below meth c hC H locs cells slots ls hW hS hL h1 h2
  exact lv_icmp_le hC.1 hC.2.1 hd ht (fun hp => kt hp p e s mid args below meth c hC H locs cells slots ls hW hS hL h1 h2) (fun hp => kf hp p e s mid args below meth c hC H locs cells slots ls hW hS hL h1 h2)
theorem x_weak {b : List Bool} {L' : List (Option XV)} (hb : wkL b L = L') (k : WW l G M pc L' st m bc bs Q) : WW l G M pc L st m bc bs Q := by
  subst hb
  intro p e s mid args below meth c hC H locs cells slots ls hW hS hL h1 h2
  exact k p e s mid args below meth c hC H locs cells slots ls hW hS ⟨hL.1, hL.2.1, fun j w hw => hL.2.2 j w (wkL_at b L j w hw)⟩ h1 h2
theorem x_goto {off : Int} {tgt : Nat} (hd : decode M.2.1 pc = .ok (.goto off, 3)) (ht : (pc : Int) + off = (tgt : Int)) (k : WW l G M tgt L st m bc bs Q) : WW l G M pc L st m bc bs Q := by
  intro p e s mid args below meth c hC H locs cells slots ls hW hS hL h1 h2
  exact lv_goto hC.1 hC.2.1 hd ht (k p e s mid args below meth c hC H locs cells slots ls hW hS hL h1 h2)
theorem x_ifnull {o : Option Nat} {off : Int} {tgt : Nat} (hd : decode M.2.1 pc = .ok (.ifnull off, 3)) (ht : (pc : Int) + off = (tgt : Int)) {n : Nat} (hn : pc + 3 = n) (kt : o = none → WW l G M tgt L st m bc bs Q) (kf : ∀ a, o = some a → WW l G M n L st m bc bs Q) : WW l G M pc L (vR o :: st) m bc bs Q := by
  subst hn
  intro p e s mid args below meth c hC H locs cells slots ls hW hS hL h1 h2
  cases o with
  | none => exact lv_ifnullN hC.1 hC.2.1 hd ht (kt rfl p e s mid args below meth c hC H locs cells slots ls hW hS hL h1 h2)
  | some a => exact lv_ifnull hC.1 hC.2.1 hd (kf a rfl p e s mid args below meth c hC H locs cells slots ls hW hS hL h1 h2)
theorem x_ifnonnull {o : Option Nat} {off : Int} {tgt : Nat} (hd : decode M.2.1 pc = .ok (.ifnonnull off, 3)) (ht : (pc : Int) + off = (tgt : Int)) {n : Nat} (hn : pc + 3 = n) (kt : ∀ a, o = some a → WW l G M tgt L st m bc bs Q) (kf : o = none → WW l G M n L st m bc bs Q) : WW l G M pc L (vR o :: st) m bc bs Q := by
  subst hn
  intro p e s mid args below meth c hC H locs cells slots ls hW hS hL h1 h2
  cases o with
  | none => exact lv_ifnonnullN hC.1 hC.2.1 hd (kf rfl p e s mid args below meth c hC H locs cells slots ls hW hS hL h1 h2)
  | some a => exact lv_ifnonnull hC.1 hC.2.1 hd ht (kt a rfl p e s mid args below meth c hC H locs cells slots ls hW hS hL h1 h2)
theorem x_tableOut {dflt lo hi : Int} {offs : Array Int} {len : Nat} {x : Int32} {tgt : Nat} (hd : decode M.2.1 pc = .ok (.tableswitch dflt lo hi offs, len)) (h : x.toInt < lo ∨ hi < x.toInt) (ht : (pc : Int) + dflt = (tgt : Int)) (k : WW l G M tgt L st m bc bs Q) : WW l G M pc L (vI x :: st) m bc bs Q := by
  intro p e s mid args below meth c hC H locs cells slots ls hW hS hL h1 h2
  exact lv_tableOut hC.1 hC.2.1 hd h ht (k p e s mid args below meth c hC H locs cells slots ls hW hS hL h1 h2)
theorem x_tableIn {dflt lo hi : Int} {offs : Array Int} {len : Nat} {x : Int32} {off : Int} {tgt : Nat} (hd : decode M.2.1 pc = .ok (.tableswitch dflt lo hi offs, len)) (g1 : ¬ x.toInt < lo) (g2 : ¬ hi < x.toInt) (ho : offs[(x.toInt - lo).toNat]? = some off) (ht : (pc : Int) + off = (tgt : Int)) (k : WW l G M tgt L st m bc bs Q) : WW l G M pc L (vI x :: st) m bc bs Q := by
  intro p e s mid args below meth c hC H locs cells slots ls hW hS hL h1 h2
  exact lv_tableIn hC.1 hC.2.1 hd g1 g2 ho ht (k p e s mid args below meth c hC H locs cells slots ls hW hS hL h1 h2)
end XRows
end
section
section XMem
variable {l : Launch} {G : xG} {M : xMt} {pc : Nat} {L : List (Option XV)} {st : List XV} {m : XM} {bc bs : Nat} {Q : XR → XM → Prop}
/-- a field that the method links at idx: field k of class ci, of kind t -/
def xFd (own : String) (idx ci k t : Nat) : Prop := ∃ (C : String) (T : u_T) (N : Nat), vwCl[ci]? = some (C, T, N) ∧ (∀ w ∈ u_ws C T N, w ∈ WS) ∧ k < N ∧ Cond.fieldLink own idx (T k).1 (T k).2.1 (T k).2.2.1 ∈ WS ∧ (xF ci)[k]? = some t
theorem xw_get {idx ci k t a n : Nat} {p : Program} {e : Env} {s : State} {mid : MethodId} {args : Array Value} {below : List Frame} {meth : Method} {c : Code} {H : Heap} {locs : List Loc} {cells slots : Nat} {ls : Array Slot} {QQ : State → Prop} {rest : List Value} (hC : xC l G M p s mid args meth c) (hW : Wd G m H) (hd : decode M.2.1 pc = .ok (.getfield idx, 3)) (hf : xFd M.1.cls idx ci k t) (hk : m.1 a = some (oB ci)) (hn : pc + 3 = n)
    (kk : W p l e M.2.2.2.2.1 s mid args below meth c H locs cells slots QQ (F0 mid n ls (fval m a k t :: rest))) : W p l e M.2.2.2.2.1 s mid args below meth c H locs cells slots QQ (F0 mid pc ls (.ref a :: rest)) := by
  subst hn
  obtain ⟨C, T, N, f1, f2, f3, f4, f5⟩ := hf
  have hP : va_P G.1 vwCl [(a, .inr (ci, fvals m a 0 (xF ci)))] H := by
    intro j q hq
    cases j with
    | zero => cases hq; exact (hW a _ hk).1
    | succ j => cases hq
  exact va_get hC.1 hC.2.1 hC.2.2.2.2.1 f2 hC.2.2.2.1 hC.2.2.2.2.2.2.2.2.2.1.1 hP 0 rfl f1 k f3 (hC.2.2.2.2.1 _ f4) (fun _ h => h) (by rw [fvals_get, f5]; simp) hd kk
theorem x_getI {idx ci k a : Nat} {o : Option Nat} (ho : o = some a) (hd : decode M.2.1 pc = .ok (.getfield idx, 3)) (hf : xFd M.1.cls idx ci k 0) (hk : m.1 a = some (oB ci)) {n : Nat} (hn : pc + 3 = n) (kk : WW l G M n L (vI (m.2.1 a k) :: st) m bc bs Q) : WW l G M pc L (vR o :: st) m bc bs Q := by
  subst ho
  intro p e s mid args below meth c hC H locs cells slots ls hW hS hL h1 h2
  exact xw_get hC hW hd hf hk hn (kk p e s mid args below meth c hC H locs cells slots ls hW hS hL h1 h2)
theorem x_getL {idx ci k a : Nat} {o : Option Nat} (ho : o = some a) (hd : decode M.2.1 pc = .ok (.getfield idx, 3)) (hf : xFd M.1.cls idx ci k 1) (hk : m.1 a = some (oB ci)) {n : Nat} (hn : pc + 3 = n) (kk : WW l G M n L (vL (m.2.2.1 a k) :: st) m bc bs Q) : WW l G M pc L (vR o :: st) m bc bs Q := by
  subst ho
  intro p e s mid args below meth c hC H locs cells slots ls hW hS hL h1 h2
  exact xw_get hC hW hd hf hk hn (kk p e s mid args below meth c hC H locs cells slots ls hW hS hL h1 h2)
theorem x_getR {idx ci k a : Nat} {o : Option Nat} (ho : o = some a) (hd : decode M.2.1 pc = .ok (.getfield idx, 3)) (hf : xFd M.1.cls idx ci k 2) (hk : m.1 a = some (oB ci)) {n : Nat} (hn : pc + 3 = n) (kk : WW l G M n L (vR (m.2.2.2 a k) :: st) m bc bs Q) : WW l G M pc L (vR o :: st) m bc bs Q := by
  subst ho
  intro p e s mid args below meth c hC H locs cells slots ls hW hS hL h1 h2
  exact xw_get hC hW hd hf hk hn (kk p e s mid args below meth c hC H locs cells slots ls hW hS hL h1 h2)
/-- .. and may write: its type, whether it is final -/
def xFp (own nam : String) (idx ci k t : Nat) (ty : FieldType) (fin : Bool) : Prop := ∃ (C : String) (T : u_T) (N : Nat) (ty0 : Nat → FieldType), vwCl[ci]? = some (C, T, N) ∧ (∀ w ∈ u_ws C T N, w ∈ WS) ∧ k < N ∧ Cond.fieldLink own idx (T k).1 (T k).2.1 (T k).2.2.1 ∈ WS ∧ (xF ci)[k]? = some t ∧
  (∀ k, k < N → parseFieldDescriptor (T k).2.2.1 = some (ty0 k)) ∧ (∀ a, a < N → ∀ b, b < N → a ≠ b → (T a).2.1 ≠ (T b).2.1) ∧ (T k).2.2.2 = fin ∧ parseFieldDescriptor (T k).2.2.1 = some ty ∧ (fin = true → nam = "<init>" ∧ (T k).1 = own)
theorem xw_put {idx ci k t a n : Nat} {ty : FieldType} {fin : Bool} {m' : XM} {v : Value} {p : Program} {e : Env} {s : State} {mid : MethodId} {args : Array Value} {below : List Frame} {meth : Method} {c : Code} {H : Heap} {locs : List Loc} {cells slots : Nat} {ls : Array Slot} {QQ : State → Prop} {rest : List Value} (hC : xC l G M p s mid args meth c) (hW : Wd G m H) (hS : va_S (xA G) s.heap H locs) (hd : decode M.2.1 pc = .ok (.putfield idx, 3)) (hf : xFp M.1.cls M.1.name idx ci k t ty fin) (hk : m.1 a = some (oB ci)) (hn : pc + 3 = n)
    (hnr : narrow ty v = v) (hfit : fits ty v = true) (g0 : m'.1 = m.1) (g1 : ∀ b j, b ≠ a → m'.2.1 b j = m.2.1 b j) (g2 : ∀ b j, b ≠ a → m'.2.2.1 b j = m.2.2.1 b j) (g3 : ∀ b j, b ≠ a → m'.2.2.2 b j = m.2.2.2 b j) (gv : fval m' a k t = v) (go : ∀ i t', i ≠ k → fval m' a i t' = fval m a i t')
    (kk : ∀ (H1 : Heap) (locs1 : List Loc), Wd G m' H1 → va_S (xA G) s.heap H1 locs1 → W p l e M.2.2.2.2.1 s mid args below meth c H1 locs1 cells slots QQ (F0 mid n ls rest)) : W p l e M.2.2.2.2.1 s mid args below meth c H locs cells slots QQ (F0 mid pc ls (v :: .ref a :: rest)) := by
  subst hn
  obtain ⟨C, T, N, ty0, f1, f2, f3, f4, f5, f6, f7, f8, f9, f10⟩ := hf
  have hts := hC.2.2.2.2.1
  have hown := hC.2.2.2.1
  have hK := hC.2.2.2.2.2.2.2.2.2.1.1
  have hap := va_apart (own := M.1.cls) hts f2 ty0 f6 f7 hK f1
  obtain ⟨r, r1, cell, q1, q2, q3, q4⟩ := (hW a _ hk).1
  have hr : r = (C, T, N) := Option.some.inj (r1.symm.trans f1)
  subst hr
  obtain ⟨hSl, hfc, kC, hkC, hkind⟩ := hK.1 ci _ f1
  obtain ⟨cf, kf, fi, f, hi, hsl⟩ := hSl k f3
  have hlay := hts _ (f2 _ (u_in_lay f3))
  unfold u_lay at hlay
  have hst := (u_facts hfc hkC (u_lays hts f2 f3) hi).1
  have fin' : ∀ H' : Heap, H'[a]? = some (cell.setSlot f.slot v) → H'.size = H.size → (∀ q, q ≠ a → H'[q]? = H[q]?) → W p l e M.2.2.2.2.1 s mid args below meth c H' (locs ++ [⟨a, f.slot⟩]) cells slots QQ (F0 mid (pc + 3) ls rest) := by
    intro H' e1 e2 e3
    rw [hsl] at e1 ⊢
    refine kk H' _ (hW.put (a := a) g0 g1 g2 g3 (fun k' hk' => ?_) e3) (hS.put e2 e3 (hW a _ hk).2)
    cases Option.some.inj (hk.symm.trans hk')
    show va_at G.1 vwCl (a, .inr (ci, fvals m' a 0 (xF ci))) H'
    rw [← fvals_put f5 gv go]
    exact ⟨_, f1, t_OB.to (V := updV (vp_V (fvals m a 0 (xF ci))) k v) ⟨_, e1, q2, q3, t_set q4 hap f3 v⟩ (fun j _ => vp_updV_set (by rw [fvals_len]; exact (List.getElem?_eq_some_iff.mp f5).1) v j)⟩
  cases fin with
  | false =>
    rw [if_neg (by rw [f8]; decide)] at hlay
    have h6 := u_store hfc hkC hkind hlay hi f9 hnr hfit
    exact W.putK hC.1 hC.2.1 (f := f) ⟨hown, hts _ f4, ⟨_, _, _, hi⟩, hst⟩ (by rw [q2]; exact h6) q1 q3 (by rw [hsl]; exact k2_hasslot (q4 k f3)) rfl rfl hd fin'
  | true =>
    rw [if_pos f8] at hlay
    obtain ⟨n1, n2⟩ := f10 rfl
    have hcf : mid.cls = cf := by
      obtain ⟨_, _, c', _, _, _, -, -, hf', -, -, -, hown2, -⟩ := Cond.laysFinal_spec hlay
      have e1 : c' = cf := by have := hi.symm.trans hf'; simp at this; exact this.1.symm
      rw [n2] at hown2
      rw [← e1]; exact Option.some.inj (hown.symm.trans hown2)
    have h6 := u_fits hfc hkC hkind (Or.inr hlay) hi f9 hnr hfit
    exact W.putFinK hC.1 hC.2.1 hown (hts _ f4) hi hst hcf (hC.2.2.2.2.2.2.2.1.trans n1) (by rw [q2]; exact h6) q1 q3 (by rw [hsl]; exact k2_hasslot (q4 k f3)) rfl rfl hd fin'
theorem x_putI {idx ci k a : Nat} {ty : FieldType} {fin : Bool} {v : Int32} {o : Option Nat} (ho : o = some a) (hd : decode M.2.1 pc = .ok (.putfield idx, 3)) (hf : xFp M.1.cls M.1.name idx ci k 0 ty fin) (hk : m.1 a = some (oB ci)) (hnr : narrow ty (.int v) = .int v) (hfit : fits ty (.int v) = true) {n : Nat} (hn : pc + 3 = n) (kk : WW l G M n L st (mI m a k v) bc bs Q) : WW l G M pc L (vI v :: vR o :: st) m bc bs Q := by
  subst ho
  intro p e s mid args below meth c hC H locs cells slots ls hW hS hL h1 h2
  refine xw_put (m' := mI m a k v) hC hW hS hd hf hk hn hnr hfit rfl (fun b j h => by simp [mI, h]) (fun b j h => rfl) (fun b j h => rfl) (by simp [mI, fval, toV]) (fun i t' h => ?_) fun H1 locs1 w1 w2 => kk p e s mid args below meth c hC H1 locs1 cells slots ls w1 w2 hL h1 h2
  match t' with
  | 0 => simp [mI, fval, h]
  | 1 => rfl
  | n + 2 => rfl
theorem x_putL {idx ci k a : Nat} {ty : FieldType} {fin : Bool} {v : Int64} {o : Option Nat} (ho : o = some a) (hd : decode M.2.1 pc = .ok (.putfield idx, 3)) (hf : xFp M.1.cls M.1.name idx ci k 1 ty fin) (hk : m.1 a = some (oB ci)) (hnr : narrow ty (.long v) = .long v) (hfit : fits ty (.long v) = true) {n : Nat} (hn : pc + 3 = n) (kk : WW l G M n L st (mL m a k v) bc bs Q) : WW l G M pc L (vL v :: vR o :: st) m bc bs Q := by
  subst ho
  intro p e s mid args below meth c hC H locs cells slots ls hW hS hL h1 h2
  refine xw_put (m' := mL m a k v) hC hW hS hd hf hk hn hnr hfit rfl (fun b j h => rfl) (fun b j h => by simp [mL, h]) (fun b j h => rfl) (by simp [mL, fval, toV]) (fun i t' h => ?_) fun H1 locs1 w1 w2 => kk p e s mid args below meth c hC H1 locs1 cells slots ls w1 w2 hL h1 h2
  match t' with
  | 0 => rfl
  | 1 => simp [mL, fval, h]
  | n + 2 => rfl
theorem x_putR {idx ci k a : Nat} {ty : FieldType} {fin : Bool} {v : Option Nat} {o : Option Nat} (ho : o = some a) (hd : decode M.2.1 pc = .ok (.putfield idx, 3)) (hf : xFp M.1.cls M.1.name idx ci k 2 ty fin) (hk : m.1 a = some (oB ci)) (hnr : ∀ o, narrow ty (va_rf o) = va_rf o) (hfit : ∀ o, fits ty (va_rf o) = true) {n : Nat} (hn : pc + 3 = n) (kk : WW l G M n L st (mR m a k v) bc bs Q) : WW l G M pc L (vR v :: vR o :: st) m bc bs Q := by
  subst ho
  intro p e s mid args below meth c hC H locs cells slots ls hW hS hL h1 h2
  refine xw_put (m' := mR m a k v) hC hW hS hd hf hk hn (hnr v) (hfit v) rfl (fun b j h => rfl) (fun b j h => rfl) (fun b j h => by simp [mR, h]) (by simp [mR, fval, toV]) (fun i t' h => ?_) fun H1 locs1 w1 w2 => kk p e s mid args below meth c hC H1 locs1 cells slots ls w1 w2 hL h1 h2
  match t' with
  | 0 => rfl
  | 1 => rfl
  | n + 2 => simp [mR, fval, h]
/-! arrays -/
theorem xP1 {a : Nat} {k : XKd} {H : Heap} (hW : Wd G m H) (hk : m.1 a = some k) : va_P G.1 vwCl [(a, xE G m a k)] H := by
  intro j q hq
  cases j with
  | zero => cases hq; exact (hW a _ hk).1
  | succ j => cases hq
theorem x_iald {a len : Nat} {i : Int32} {o : Option Nat} (ho : o = some a) (hd : decode M.2.1 pc = .ok (.iaload, 1)) (hk : m.1 a = some (aR 0 len)) (hin : vp_in i len) {n : Nat} (hn : pc + 1 = n) (kk : WW l G M n L (vI (m.2.1 a i.toNatClampNeg) :: st) m bc bs Q) : WW l G M pc L (vI i :: vR o :: st) m bc bs Q := by
  subst ho
  subst hn
  intro p e s mid args below meth c hC H locs cells slots ls hW hS hL h1 h2
  exact va_iald hC.1 hC.2.1 hC.2.2.2.2.2.2.2.2.2.1.1 (xP1 hW hk) 0 0 rfl rfl hin hd (kk p e s mid args below meth c hC H locs cells slots ls hW hS hL h1 h2)
theorem x_zald {a len : Nat} {i : Int32} {o : Option Nat} (ho : o = some a) (hd : decode M.2.1 pc = .ok (.baload, 1)) (hk : m.1 a = some (aR 1 len)) (hin : vp_in i len) {n : Nat} (hn : pc + 1 = n) (kk : WW l G M n L (vI (m.2.1 a i.toNatClampNeg) :: st) m bc bs Q) : WW l G M pc L (vI i :: vR o :: st) m bc bs Q := by
  subst ho
  subst hn
  intro p e s mid args below meth c hC H locs cells slots ls hW hS hL h1 h2
  exact va_zald hC.1 hC.2.1 hC.2.2.2.2.2.2.2.2.2.1.1 (xP1 hW hk) 0 1 rfl rfl hin hd (kk p e s mid args below meth c hC H locs cells slots ls hW hS hL h1 h2)
theorem x_lald {a len : Nat} {i : Int32} {o : Option Nat} (ho : o = some a) (hd : decode M.2.1 pc = .ok (.laload, 1)) (hk : m.1 a = some (aR 2 len)) (hin : vp_in i len) {n : Nat} (hn : pc + 1 = n) (kk : WW l G M n L (vL (m.2.2.1 a i.toNatClampNeg) :: st) m bc bs Q) : WW l G M pc L (vI i :: vR o :: st) m bc bs Q := by
  subst ho
  subst hn
  intro p e s mid args below meth c hC H locs cells slots ls hW hS hL h1 h2
  exact va_lald hC.1 hC.2.1 hC.2.2.2.2.2.2.2.2.2.1.1 (xP1 hW hk) 0 2 rfl rfl hin hd (kk p e s mid args below meth c hC H locs cells slots ls hW hS hL h1 h2)
theorem x_aald {a len t : Nat} {i : Int32} {o : Option Nat} (ho : o = some a) (hd : decode M.2.1 pc = .ok (.aaload, 1)) (hk : m.1 a = some (aR t len)) (ht : t = 3 ∨ t = 4) (hin : vp_in i len) {n : Nat} (hn : pc + 1 = n) (kk : WW l G M n L (vR (m.2.2.2 a i.toNatClampNeg) :: st) m bc bs Q) : WW l G M pc L (vI i :: vR o :: st) m bc bs Q := by
  subst ho
  subst hn
  intro p e s mid args below meth c hC H locs cells slots ls hW hS hL h1 h2
  rcases ht with rfl | rfl
  · exact va_aldq hC.1 hC.2.1 hC.2.2.2.2.2.2.2.2.2.1.1 (xP1 hW hk) 0 3 rfl rfl hin hd (kk p e s mid args below meth c hC H locs cells slots ls hW hS hL h1 h2)
  · exact va_aldq hC.1 hC.2.1 hC.2.2.2.2.2.2.2.2.2.1.1 (xP1 hW hk) 0 4 rfl rfl hin hd (kk p e s mid args below meth c hC H locs cells slots ls hW hS hL h1 h2)
theorem x_alen {a len t : Nat} {o : Option Nat} (ho : o = some a) (hd : decode M.2.1 pc = .ok (.arraylength, 1)) (hk : m.1 a = some (aR t len)) (ht : t < 5) {n : Nat} (hn : pc + 1 = n) (kk : WW l G M n L (vI (Int32.ofNat len) :: st) m bc bs Q) : WW l G M pc L (vR o :: st) m bc bs Q := by
  subst ho
  subst hn
  intro p e s mid args below meth c hC H locs cells slots ls hW hS hL h1 h2
  match t, ht with
  | 0, _ => exact va_alen hC.1 hC.2.1 hC.2.2.2.2.2.2.2.2.2.1.1 (xP1 hW hk) 0 0 rfl rfl rfl hd (kk p e s mid args below meth c hC H locs cells slots ls hW hS hL h1 h2)
  | 1, _ => exact va_alen hC.1 hC.2.1 hC.2.2.2.2.2.2.2.2.2.1.1 (xP1 hW hk) 0 1 rfl rfl rfl hd (kk p e s mid args below meth c hC H locs cells slots ls hW hS hL h1 h2)
  | 2, _ => exact va_alen hC.1 hC.2.1 hC.2.2.2.2.2.2.2.2.2.1.1 (xP1 hW hk) 0 2 rfl rfl rfl hd (kk p e s mid args below meth c hC H locs cells slots ls hW hS hL h1 h2)
  | 3, _ => exact va_alen hC.1 hC.2.1 hC.2.2.2.2.2.2.2.2.2.1.1 (xP1 hW hk) 0 3 rfl rfl rfl hd (kk p e s mid args below meth c hC H locs cells slots ls hW hS hL h1 h2)
  | 4, _ => exact va_alen hC.1 hC.2.1 hC.2.2.2.2.2.2.2.2.2.1.1 (xP1 hW hk) 0 4 rfl rfl rfl hd (kk p e s mid args below meth c hC H locs cells slots ls hW hS hL h1 h2)
/-- the law's script -/
theorem x_sald {i : Int32} {o : Option Nat} (ho : o = some G.2.2.2.1) (hd : decode M.2.1 pc = .ok (.iaload, 1)) (hin : vp_in i G.2.2.2.2.1) {n : Nat} (hn : pc + 1 = n) (kk : WW l G M n L (vI (G.2.2.2.2.2 i.toNatClampNeg) :: st) m bc bs Q) : WW l G M pc L (vI i :: vR o :: st) m bc bs Q := by
  subst ho
  subst hn
  intro p e s mid args below meth c hC H locs cells slots ls hW hS hL h1 h2
  obtain ⟨-, -, -, hb1, hX, hb2, -⟩ := hC.2.2.2.2.2.2.2.2.2.1
  exact va_sld hC.1 hC.2.1 hX (Nat.lt_of_lt_of_le hb2 hb1) (Nat.not_le.mpr hb2) hS hin hd (kk p e s mid args below meth c hC H locs cells slots ls hW hS hL h1 h2)
theorem x_slen {o : Option Nat} (ho : o = some G.2.2.2.1) (hd : decode M.2.1 pc = .ok (.arraylength, 1)) {n : Nat} (hn : pc + 1 = n) (kk : WW l G M n L (vI (Int32.ofNat G.2.2.2.2.1) :: st) m bc bs Q) : WW l G M pc L (vR o :: st) m bc bs Q := by
  subst ho
  subst hn
  intro p e s mid args below meth c hC H locs cells slots ls hW hS hL h1 h2
  obtain ⟨-, -, -, hb1, hX, hb2, -⟩ := hC.2.2.2.2.2.2.2.2.2.1
  exact va_slen hC.1 hC.2.1 hX (Nat.lt_of_lt_of_le hb2 hb1) (Nat.not_le.mpr hb2) hS hd (kk p e s mid args below meth c hC H locs cells slots ls hW hS hL h1 h2)
theorem x_iast {a len : Nat} {i x : Int32} {o : Option Nat} (ho : o = some a) (hd : decode M.2.1 pc = .ok (.iastore, 1)) (hk : m.1 a = some (aR 0 len)) (hin : vp_in i len) {n : Nat} (hn : pc + 1 = n) (kk : WW l G M n L st (mI m a i.toNatClampNeg x) bc bs Q) : WW l G M pc L (vI x :: vI i :: vR o :: st) m bc bs Q := by
  subst ho
  subst hn
  intro p e s mid args below meth c hC H locs cells slots ls hW hS hL h1 h2
  have hK := hC.2.2.2.2.2.2.2.2.2.1.1
  refine W.iast hC.1 hC.2.1 (hW a _ hk).1 ((hK.2 0 _ rfl).1 len (fun j => .int (m.2.1 a j))) (fun q => by cases q) (by show ¬ (i < 0 ∨ (arrV _ _ _).slots.size ≤ _); rw [arrV_size]; exact hin) rfl rfl hd fun H1 e1 z oq => ?_
  refine kk p e s mid args below meth c hC H1 _ cells slots ls (hW.put (a := a) rfl (fun b j h => by simp [mI, h]) (fun b j h => rfl) (fun b j h => rfl) (fun k' hk' => ?_) oq) (hS.put z oq (hW a _ hk).2) hL h1 h2
  cases Option.some.inj (hk.symm.trans hk')
  show H1[a]? = some (vp_cell _ _)
  rw [e1]
  show some (Cell.setSlot (vp_cell (G.2.1 0) (len, .inl (m.2.1 a))) _ _) = some (vp_cell (G.2.1 0) (len, .inl ((mI m a i.toNatClampNeg x).2.1 a)))
  rw [vp_cell_i, vp_cell_i, arrV_store]
  congr 2
  funext q
  by_cases hq : q = i.toNatClampNeg
  · subst hq
    simp [updV, mI]
  · simp [updV, mI, hq]
theorem x_zast {a len : Nat} {i x : Int32} {o : Option Nat} (ho : o = some a) (hd : decode M.2.1 pc = .ok (.bastore, 1)) (hk : m.1 a = some (aR 1 len)) (hin : vp_in i len) (hx : narrow .boolean (.int x) = .int x) {n : Nat} (hn : pc + 1 = n) (kk : WW l G M n L st (mI m a i.toNatClampNeg x) bc bs Q) : WW l G M pc L (vI x :: vI i :: vR o :: st) m bc bs Q := by
  subst ho
  subst hn
  intro p e s mid args below meth c hC H locs cells slots ls hW hS hL h1 h2
  have hK := hC.2.2.2.2.2.2.2.2.2.1.1
  refine W.zast hC.1 hC.2.1 (hW a _ hk).1 ((hK.2 1 _ rfl).1 len (fun j => .int (m.2.1 a j))) (fun q => by cases q) (by show ¬ (i < 0 ∨ (arrV _ _ _).slots.size ≤ _); rw [arrV_size]; exact hin) rfl rfl hd fun H1 e1 z oq => ?_
  refine kk p e s mid args below meth c hC H1 _ cells slots ls (hW.put (a := a) rfl (fun b j h => by simp [mI, h]) (fun b j h => rfl) (fun b j h => rfl) (fun k' hk' => ?_) oq) (hS.put z oq (hW a _ hk).2) hL h1 h2
  cases Option.some.inj (hk.symm.trans hk')
  show H1[a]? = some (vp_cell _ _)
  rw [e1]
  show some (Cell.setSlot (vp_cell (G.2.1 1) (len, .inl (m.2.1 a))) _ _) = some (vp_cell (G.2.1 1) (len, .inl ((mI m a i.toNatClampNeg x).2.1 a)))
  rw [vp_cell_i, vp_cell_i, arrV_store]
  congr 2
  funext q
  by_cases hq : q = i.toNatClampNeg
  · subst hq
    simp [updV, mI, hx]
  · simp [updV, mI, hq]
theorem x_last {a len : Nat} {i : Int32} {x : Int64} {o : Option Nat} (ho : o = some a) (hd : decode M.2.1 pc = .ok (.lastore, 1)) (hk : m.1 a = some (aR 2 len)) (hin : vp_in i len) {n : Nat} (hn : pc + 1 = n) (kk : WW l G M n L st (mL m a i.toNatClampNeg x) bc bs Q) : WW l G M pc L (vL x :: vI i :: vR o :: st) m bc bs Q := by
  subst ho
  subst hn
  intro p e s mid args below meth c hC H locs cells slots ls hW hS hL h1 h2
  have hK := hC.2.2.2.2.2.2.2.2.2.1.1
  refine W.last hC.1 hC.2.1 (hW a _ hk).1 ((hK.2 2 _ rfl).1 len (fun j => .long (m.2.2.1 a j))) (fun q => by cases q) (by show ¬ (i < 0 ∨ (arrV _ _ _).slots.size ≤ _); rw [arrV_size]; exact hin) rfl rfl hd fun H1 e1 z oq => ?_
  refine kk p e s mid args below meth c hC H1 _ cells slots ls (hW.put (a := a) rfl (fun b j h => rfl) (fun b j h => by simp [mL, h]) (fun b j h => rfl) (fun k' hk' => ?_) oq) (hS.put z oq (hW a _ hk).2) hL h1 h2
  cases Option.some.inj (hk.symm.trans hk')
  show H1[a]? = some (vp_cell _ _)
  rw [e1]
  show some (Cell.setSlot (vp_cell (G.2.1 2) (len, .inr (.inl (m.2.2.1 a)))) _ _) = some (vp_cell (G.2.1 2) (len, .inr (.inl ((mL m a i.toNatClampNeg x).2.2.1 a))))
  rw [vp_cell_l, vp_cell_l, arrV_store]
  congr 2
  funext q
  by_cases hq : q = i.toNatClampNeg
  · subst hq
    simp [updV, mL]
  · simp [updV, mL, hq]
/-- into an array of Items (t = 3, class 1) or of Pages (t = 4, class 3) -/
theorem x_aast {a len t ci v : Nat} {i : Int32} {o : Option Nat} (ho : o = some a) {ov : Option Nat} (hov : ov = some v) (hd : decode M.2.1 pc = .ok (.aastore, 1)) (hk : m.1 a = some (aR t len)) (ht : (t = 3 ∧ ci = 1) ∨ (t = 4 ∧ ci = 3)) (hv : m.1 v = some (oB ci)) (hin : vp_in i len) {n : Nat} (hn : pc + 1 = n) (kk : WW l G M n L st (mR m a i.toNatClampNeg (some v)) bc bs Q) : WW l G M pc L (vR ov :: vI i :: vR o :: st) m bc bs Q := by
  subst ho; subst hov
  subst hn
  intro p e s mid args below meth c hC H locs cells slots ls hW hS hL h1 h2
  have hK := hC.2.2.2.2.2.2.2.2.2.1.1
  have hlt : i.toNatClampNeg < len := Nat.not_le.mp fun q => hin (Or.inr q)
  have h0 : ¬ i < 0 := fun q => hin (Or.inl q)
  have main : ∀ (r : vw_C) (t0 : Nat), xcont m a t = .inr (.inr (.inr (.inr (m.2.2.2 a)))) → (∀ m2 : XM, xcont m2 a t = .inr (.inr (.inr (.inr (m2.2.2.2 a))))) → vwCl[ci]? = some r → (xtys G)[t0]? = some (G.2.1 t, .object r.1) → W p l e M.2.2.2.2.1 s mid args below meth c H locs cells slots (vx_MQ below (xQc G Q) (xXC G Q) args s M.2.2.2.2.1.cells M.2.2.2.2.1.slots (xA G)) (F0 mid pc ls (.ref v :: .int i :: .ref a :: st.map toV)) := by
    intro r t0 hx hx2 hc ht0
    obtain ⟨r', hr', cellV, g1, g2, g3, -⟩ := (hW v _ hv).1
    have hcls := (hK.1 ci r hc).2
    obtain ⟨kA, comp, k1, k2, k3, -⟩ := (hK.2 t0 _ ht0).2
    have hcomp : comp = G.1.1 ci := Option.some.inj (k3.symm.trans hcls.1)
    subst hcomp
    obtain ⟨kC, hkC, -⟩ := hcls.2
    have hat : H[a]? = some (vp_cell (G.2.1 t) (len, xcont m a t)) := (hW a _ hk).1
    rw [hx, vp_cell_q] at hat
    refine W.aast hC.1 hC.2.1 hat (fun q h => by cases h) (fun h => by cases h) k1 k2 rfl hkC ⟨h0, by show _ < (arrV _ _ _).slots.size; rw [arrV_size]; exact hlt⟩ g1 (fun q h => by rw [g3] at h; cases h) (by rw [g2]; exact hkC) (by rw [g2]; exact va_assign hcls) rfl rfl hd fun H1 e1 z oq => ?_
    refine kk p e s mid args below meth c hC H1 _ cells slots ls (hW.put (a := a) rfl (fun b j h => rfl) (fun b j h => rfl) (fun b j h => by simp [mR, h]) (fun k' hk' => ?_) oq) (hS.put z oq (hW a _ hk).2) hL h1 h2
    cases Option.some.inj (hk.symm.trans hk')
    show H1[a]? = some (vp_cell (G.2.1 t) (len, xcont _ a t))
    rw [e1, hx2, vp_cell_q, arrV_store]
    congr 2
    funext q
    by_cases hq : q = i.toNatClampNeg
    · subst hq
      simp [updV, mR, va_rf]
    · simp [updV, mR, hq]
  rcases ht with ⟨rfl, rfl⟩ | ⟨rfl, rfl⟩
  · exact main _ 3 rfl (fun _ => rfl) rfl rfl
  · exact main _ 4 rfl (fun _ => rfl) rfl rfl
theorem x_aastN {a len t : Nat} {i : Int32} {o : Option Nat} (ho : o = some a) (hd : decode M.2.1 pc = .ok (.aastore, 1)) (hk : m.1 a = some (aR t len)) (ht : t = 3 ∨ t = 4) (hin : vp_in i len) {n : Nat} (hn : pc + 1 = n) (kk : WW l G M n L st (mR m a i.toNatClampNeg none) bc bs Q) : WW l G M pc L (vR none :: vI i :: vR o :: st) m bc bs Q := by
  subst ho
  subst hn
  intro p e s mid args below meth c hC H locs cells slots ls hW hS hL h1 h2
  have hK := hC.2.2.2.2.2.2.2.2.2.1.1
  have main : ∀ (C : String) (t0 : Nat), xcont m a t = .inr (.inr (.inr (.inr (m.2.2.2 a)))) → (∀ m2 : XM, xcont m2 a t = .inr (.inr (.inr (.inr (m2.2.2.2 a))))) → (xtys G)[t0]? = some (G.2.1 t, .object C) → W p l e M.2.2.2.2.1 s mid args below meth c H locs cells slots (vx_MQ below (xQc G Q) (xXC G Q) args s M.2.2.2.2.1.cells M.2.2.2.2.1.slots (xA G)) (F0 mid pc ls (.null :: .int i :: .ref a :: st.map toV)) := by
    intro C t0 hx hx2 ht0
    have hat : H[a]? = some (vp_cell (G.2.1 t) (len, xcont m a t)) := (hW a _ hk).1
    rw [hx, vp_cell_q] at hat
    refine va_WaastN (C := C) hC.1 hC.2.1 hat ((hK.2 t0 _ ht0).1 len _) (fun h => by cases h) (by show ¬ (i < 0 ∨ (arrV _ _ _).slots.size ≤ _); rw [arrV_size]; exact hin) rfl rfl hd fun H1 e1 z oq => ?_
    refine kk p e s mid args below meth c hC H1 _ cells slots ls (hW.put (a := a) rfl (fun b j h => rfl) (fun b j h => rfl) (fun b j h => by simp [mR, h]) (fun k' hk' => ?_) oq) (hS.put z oq (hW a _ hk).2) hL h1 h2
    cases Option.some.inj (hk.symm.trans hk')
    show H1[a]? = some (vp_cell (G.2.1 t) (len, xcont _ a t))
    rw [e1, hx2, vp_cell_q, arrV_store]
    congr 2
    funext q
    by_cases hq : q = i.toNatClampNeg
    · subst hq
      simp [updV, mR, va_rf]
    · simp [updV, mR, hq]
  rcases ht with rfl | rfl
  · exact main _ 3 rfl (fun _ => rfl) rfl
  · exact main _ 4 rfl (fun _ => rfl) rfl
end XMem
end
section
section XEnd
variable {l : Launch} {G : xG} {M : xMt} {pc : Nat} {L : List (Option XV)} {st : List XV} {m : XM} {bc bs : Nat} {Q : XR → XM → Prop}
/-! ends -/
theorem x_iret {v : Int32} (hd : decode M.2.1 pc = .ok (.ireturn, 1)) (hr : M.2.2.2.1 = some .int) (k : Q (.inl (some (vI v))) m) : WW l G M pc L [vI v] m bc bs Q := by
  intro p e s mid args below meth c hC H locs cells slots ls hW hS hL h1 h2
  exact vx_ret (W.widen (by omega) (by omega) (W.iret hC.1 hC.2.1 (hC.2.2.2.2.2.2.1.trans hr) (fun t ht _ => ⟨⟨some (vI v), m, rfl, k, by rw [ht]; exact hW⟩, hS.F ht⟩) hS.2.2 hd hC.2.2.2.2.2.1))
theorem x_zret {v : Int32} (hd : decode M.2.1 pc = .ok (.ireturn, 1)) (hr : M.2.2.2.1 = some .boolean) (hv : narrow .boolean (.int v) = .int v) (k : Q (.inl (some (vI v))) m) : WW l G M pc L [vI v] m bc bs Q := by
  intro p e s mid args below meth c hC H locs cells slots ls hW hS hL h1 h2
  exact vx_ret (W.widen (by omega) (by omega) (W.zret hC.1 hC.2.1 (hC.2.2.2.2.2.2.1.trans hr) hv (fun t ht _ => ⟨⟨some (vI v), m, rfl, k, by rw [ht]; exact hW⟩, hS.F ht⟩) hS.2.2 hd hC.2.2.2.2.2.1))
theorem x_lret {v : Int64} (hd : decode M.2.1 pc = .ok (.lreturn, 1)) (hr : M.2.2.2.1 = some .long) (k : Q (.inl (some (vL v))) m) : WW l G M pc L [vL v] m bc bs Q := by
  intro p e s mid args below meth c hC H locs cells slots ls hW hS hL h1 h2
  exact vx_ret (W.widen (by omega) (by omega) (W.lret hC.1 hC.2.1 (hC.2.2.2.2.2.2.1.trans hr) (fun t ht _ => ⟨⟨some (vL v), m, rfl, k, by rw [ht]; exact hW⟩, hS.F ht⟩) hS.2.2 hd hC.2.2.2.2.2.1))
theorem x_aret {v : Option Nat} {rt : FieldType} (hd : decode M.2.1 pc = .ok (.areturn, 1)) (hr : M.2.2.2.1 = some rt) (hrt : (∃ n, rt = .object n) ∨ ∃ t, rt = .array t) (k : Q (.inl (some (vR v))) m) : WW l G M pc L [vR v] m bc bs Q := by
  intro p e s mid args below meth c hC H locs cells slots ls hW hS hL h1 h2
  exact vx_ret (W.widen (by omega) (by omega) (W.aret hC.1 hC.2.1 (hC.2.2.2.2.2.2.1.trans hr) hrt (va_rf_or v) (fun t ht _ => ⟨⟨some (vR v), m, rfl, k, by rw [ht]; exact hW⟩, hS.F ht⟩) hS.2.2 hd hC.2.2.2.2.2.1))
theorem x_vret (hd : decode M.2.1 pc = .ok (.return_, 1)) (hr : M.2.2.2.1 = none) (k : Q (.inl none) m) : WW l G M pc L [] m bc bs Q := by
  intro p e s mid args below meth c hC H locs cells slots ls hW hS hL h1 h2
  exact vx_ret (W.widen (by omega) (by omega) (W.vret hC.1 hC.2.1 (hC.2.2.2.2.2.2.1.trans hr) (fun t ht _ => ⟨⟨none, m, rfl, k, by rw [ht]; exact hW⟩, hS.F ht⟩) hS.2.2 hd hC.2.2.2.2.2.1))
/-- 'new Object's own part of a constructor -/
theorem x_objInit {idx a : Nat} (hd : decode M.2.1 pc = .ok (.invokespecial idx, 3)) (w1 : Cond.methodLink M.1.cls idx Lib.objectInit ∈ WS) (w2 : Cond.instanceMethod Lib.objectInit ∈ WS) (w3 : Cond.code Lib.objectInit ⟨#[0xb1]⟩ 1 none ∈ WS)
    (hf : 1 ≤ M.2.2.2.2.1.frames) (hl : 12 ≤ M.2.2.2.2.1.locals) {n : Nat} (hn : pc + 3 = n) (k : WW l G M n L [] m bc bs Q) : WW l G M pc L [vR (some a)] m bc bs Q := by
  subst hn
  intro p e s mid args below meth c hC H locs cells slots ls hW hS hL h1 h2
  have hts := hC.2.2.2.2.1
  exact W.objInit hC.1 hC.2.1 hC.2.2.2.1 (hts _ w1) (hts _ w2) (hts _ w3) rfl (hL.1.trans hC.2.2.1.symm) (rest := []) rfl hd hf (by show 2 * 0 + _ ≤ _; simpa using hl) (k p e s mid args below meth c hC H locs cells slots ls hW hS hL h1 h2)
/-! making -/
def dflt (t : Nat) : Value := match t with
  | 0 => .int 0
  | 1 => .long 0
  | _ => .null
theorem fval_new (m : XM) (a : Nat) (k : XKd) (j t : Nat) : fval (mN m a k) a j t = dflt t := by
  match t with
  | 0 => simp [fval, mN, dflt]
  | 1 => simp [fval, mN, dflt]
  | t + 2 => simp [fval, mN, dflt, va_rf]
def xNw (own : String) (idx ci N : Nat) : Prop := ∃ (C : String) (T : u_T) (ty : Nat → FieldType), vwCl[ci]? = some (C, T, N) ∧ (∀ w ∈ u_ws C T N, w ∈ WS) ∧ (∀ k, k < N → parseFieldDescriptor (T k).2.2.1 = some (ty k)) ∧ Cond.classLink own idx C ∈ WS ∧ Cond.instantiable C N ∈ WS ∧ Cond.initialized C ∈ WS ∧ (xF ci).length = N ∧ ∀ j, j < N → defaultValue (ty j) = dflt ((xF ci).getD j 0)
theorem x_new {idx ci N : Nat} (hd : decode M.2.1 pc = .ok (.new idx, 3)) (hf : xNw M.1.cls idx ci N) {n bc0 bs0 : Nat} (hn : pc + 3 = n) (hb1 : bc0 = bc + 1) (hb2 : bs0 = bs + N) (k : ∀ a, m.1 a = none → WW l G M n L (vR (some a) :: st) (mN m a (oB ci)) bc bs Q) : WW l G M pc L st m bc0 bs0 Q := by
  subst hn; subst hb1; subst hb2
  intro p e s mid args below meth c hC H locs cells slots ls hW hS hL h1 h2
  obtain ⟨C, T, ty, f1, f2, f3, f4, f5, f6, f7, f8⟩ := hf
  have hts := hC.2.2.2.2.1
  have hSt := hC.2.2.2.2.2.2.2.2.2.1
  have hKn := hSt.1.1 ci _ f1
  refine W.newcK hC.1 hC.2.1 hC.2.2.2.1 (hts _ f4) (hts _ f5) (hts _ f6) rfl hd (by omega) (by omega) hKn.2.1 rfl fun H1 kC hkC e1 z1 o1 => ?_
  have hbase : gBase G ≤ H.size := Nat.le_trans hSt.2.2.2.1 hS.1
  refine k H.size hW.fresh p e s mid args below meth c hC H1 locs (cells + 1) (slots + N) ls (hW.new (oB ci) hbase o1 ?_) ⟨Nat.le_trans hS.1 (by omega), fun x g1 g2 => (o1 x (Nat.lt_of_lt_of_le g1 hS.1)).trans (hS.2.1 x g1 g2), hS.2.2⟩ hL (by omega) (by omega)
  refine ⟨_, f1, (u_born ty hts f2 hKn hkC e1 f3).to (fun j hj => ?_)⟩
  rw [f8 j hj]
  show _ = (fvals _ _ 0 (xF ci)).getD j .null
  have hj' : j < (xF ci).length := by rw [f7]; exact hj
  rw [List.getD_eq_getElem?_getD (l := fvals _ _ 0 (xF ci)), fvals_get, List.getElem?_eq_getElem hj']
  simp [fval_new, List.getD_eq_getElem?_getD, List.getElem?_eq_getElem hj']
theorem x_newa {t : Nat} {atype : ArrayType} {i : Int32} (hd : decode M.2.1 pc = .ok (.newarray atype, 2)) (hw : Cond.arrayClass (newarray.typeOf atype) ∈ WS) (ht : (atype = .int ∧ t = 0) ∨ (atype = .boolean ∧ t = 1) ∨ (atype = .long ∧ t = 2)) (hi : ¬ i < 0) (hb : i.toNatClampNeg ≤ 1000000) {n N bc0 bs0 : Nat} (hn : pc + 2 = n) (hN : i.toNatClampNeg = N) (hb1 : bc0 = bc + 1) (hb2 : bs0 = bs + N)
    (k : ∀ a, m.1 a = none → WW l G M n L (vR (some a) :: st) (mN m a (aR t N)) bc bs Q) : WW l G M pc L (vI i :: st) m bc0 bs0 Q := by
  subst hn; subst hb1; subst hb2; subst hN
  intro p e s mid args below meth c hC H locs cells slots ls hW hS hL h1 h2
  have hts := hC.2.2.2.2.1
  have hSt := hC.2.2.2.2.2.2.2.2.2.1
  have hbase : gBase G ≤ H.size := Nat.le_trans hSt.2.2.2.1 hS.1
  refine va_newaK hC.1 hC.2.1 (hts _ hw) rfl hd rfl hi rfl ?_ (by omega) (by omega) rfl fun H1 cA e1 z1 o1 hAr hNm => ?_
  · rcases ht with ⟨rfl, -⟩ | ⟨rfl, -⟩ | ⟨rfl, -⟩ <;> simp [newarray.typeOf, componentBytes] <;> omega
  refine k H.size hW.fresh p e s mid args below meth c hC H1 locs (cells + 1) (slots + i.toNatClampNeg) ls (hW.new (aR t i.toNatClampNeg) hbase o1 ?_) ⟨Nat.le_trans hS.1 (by omega), fun x g1 g2 => (o1 x (Nat.lt_of_lt_of_le g1 hS.1)).trans (hS.2.1 x g1 g2), hS.2.2⟩ hL (by omega) (by omega)
  rcases ht with ⟨rfl, rfl⟩ | ⟨rfl, rfl⟩ | ⟨rfl, rfl⟩
  · have hcA : cA = G.2.1 0 := Option.some.inj (hNm.symm.trans (hSt.1.2 0 _ rfl).2)
    subst hcA
    show H1[H.size]? = some (vp_cell _ (_, .inl ((mN m H.size (aR 0 i.toNatClampNeg)).2.1 H.size)))
    rw [e1, vp_cell_i]
    congr 2
    funext j
    simp [mN, newarray.typeOf, defaultValue]
  · have hcA : cA = G.2.1 1 := Option.some.inj (hNm.symm.trans (hSt.1.2 1 _ rfl).2)
    subst hcA
    show H1[H.size]? = some (vp_cell _ (_, .inl ((mN m H.size (aR 1 i.toNatClampNeg)).2.1 H.size)))
    rw [e1, vp_cell_i]
    congr 2
    funext j
    simp [mN, newarray.typeOf, defaultValue]
  · have hcA : cA = G.2.1 2 := Option.some.inj (hNm.symm.trans (hSt.1.2 2 _ rfl).2)
    subst hcA
    show H1[H.size]? = some (vp_cell _ (_, .inr (.inl ((mN m H.size (aR 2 i.toNatClampNeg)).2.2.1 H.size))))
    rw [e1, vp_cell_l]
    congr 2
    funext j
    simp [mN, newarray.typeOf, defaultValue]
theorem x_anew {t idx : Nat} {C : String} {i : Int32} (hd : decode M.2.1 pc = .ok (.anewarray idx, 3)) (hw : Cond.classLink M.1.cls idx C ∈ WS) (hw2 : Cond.arrayOver (.object C) ∈ WS) (ht : (C = RX1 ∧ t = 3) ∨ (C = RX3 ∧ t = 4)) (hi : ¬ i < 0) (hb : i.toNatClampNeg ≤ 1000000) {n N bc0 bs0 : Nat} (hn : pc + 3 = n) (hN : i.toNatClampNeg = N) (hb1 : bc0 = bc + 1) (hb2 : bs0 = bs + N)
    (k : ∀ a, m.1 a = none → WW l G M n L (vR (some a) :: st) (mN m a (aR t N)) bc bs Q) : WW l G M pc L (vI i :: st) m bc0 bs0 Q := by
  subst hn; subst hb1; subst hb2; subst hN
  intro p e s mid args below meth c hC H locs cells slots ls hW hS hL h1 h2
  have hts := hC.2.2.2.2.1
  have hSt := hC.2.2.2.2.2.2.2.2.2.1
  have hbase : gBase G ≤ H.size := Nat.le_trans hSt.2.2.2.1 hS.1
  refine W.anew hC.1 hC.2.1 hC.2.2.2.1 (hts _ hw) (hts _ hw2) rfl hd rfl hi (by omega) (by omega) (by omega) fun cA kA comp f1 f2 f3 f4 => ?_
  generalize hH1 : H.push ({ cls := cA, slots := Array.replicate i.toNatClampNeg .null, vm := .none } : Cell) = H1
  have z1 : H1.size = H.size + 1 := by rw [← hH1, Array.size_push]
  have e1 : H1[H.size]? = some (arrV cA i.toNatClampNeg (fun _ => .null)) := by rw [← hH1, Array.getElem?_push_size, ← arrV_new]
  have o1 : ∀ q : Nat, q < H.size → H1[q]? = H[q]? := fun q hq => by rw [← hH1, Array.getElem?_push, if_neg (Nat.ne_of_lt hq)]
  refine k H.size hW.fresh p e s mid args below meth c hC H1 locs (cells + 1) (slots + i.toNatClampNeg) ls (hW.new (aR t i.toNatClampNeg) hbase o1 ?_) ⟨Nat.le_trans hS.1 (by omega), fun x g1 g2 => (o1 x (Nat.lt_of_lt_of_le g1 hS.1)).trans (hS.2.1 x g1 g2), hS.2.2⟩ hL (by omega) (by omega)
  rcases ht with ⟨rfl, rfl⟩ | ⟨rfl, rfl⟩
  · obtain ⟨kA', comp', -, -, -, hfc⟩ := (hSt.1.2 3 _ rfl).2
    have hcA : cA = G.2.1 3 := Option.some.inj (f1.symm.trans hfc)
    subst hcA
    show H1[H.size]? = some (vp_cell _ (_, .inr (.inr (.inr (.inr ((mN m H.size (aR 3 i.toNatClampNeg)).2.2.2 H.size))))))
    rw [e1, vp_cell_q]
    congr 2
    funext j
    simp [mN, va_rf]
  · obtain ⟨kA', comp', -, -, -, hfc⟩ := (hSt.1.2 4 _ rfl).2
    have hcA : cA = G.2.1 4 := Option.some.inj (f1.symm.trans hfc)
    subst hcA
    show H1[H.size]? = some (vp_cell _ (_, .inr (.inr (.inr (.inr ((mN m H.size (aR 4 i.toNatClampNeg)).2.2.2 H.size))))))
    rw [e1, vp_cell_q]
    congr 2
    funext j
    simp [mN, va_rf]
/-! the entry -/
def inL : List XV → List (Option XV)
  | [] => []
  | .inr (.inl x) :: r => some (vL x) :: none :: inL r
  | v :: r => some v :: inL r
theorem inL_args : ∀ (a : List XV) (i j : Nat) (w : XV), (inL a)[j]? = some (some w) → (i + j, toV w) ∈ lv_args i (a.map toV)
  | [], i, j, w, h => by simp [inL] at h
  | v :: r, i, j, w, h => by
    rcases v with x | x | o
    · cases j with
      | zero =>
        simp only [inL, List.getElem?_cons_zero, Option.some.injEq] at h
        subst h
        exact List.mem_cons_self
      | succ j =>
        simp only [inL, List.getElem?_cons_succ] at h
        have := inL_args r (i + 1) j w h
        refine List.mem_cons_of_mem _ ?_
        show (i + (j + 1), toV w) ∈ lv_args (i + 1) (r.map toV)
        rw [show i + (j + 1) = i + 1 + j by omega]
        exact this
    · cases j with
      | zero =>
        simp only [inL, List.getElem?_cons_zero, Option.some.injEq] at h
        subst h
        exact List.mem_cons_self
      | succ j =>
        cases j with
        | zero => simp [inL] at h
        | succ j =>
          simp only [inL, List.getElem?_cons_succ] at h
          have := inL_args r (i + 2) j w h
          refine List.mem_cons_of_mem _ ?_
          show (i + (j + 1 + 1), toV w) ∈ lv_args (i + 2) (r.map toV)
          rw [show i + (j + 1 + 1) = i + 2 + j by omega]
          exact this
    · cases j with
      | zero =>
        simp only [inL, List.getElem?_cons_zero, Option.some.injEq] at h
        subst h
        exact List.mem_cons_self
      | succ j =>
        simp only [inL, List.getElem?_cons_succ] at h
        have := inL_args r (i + 1) j w h
        refine List.mem_cons_of_mem _ ?_
        show (i + (j + 1), toV w) ∈ lv_args (if (toV (.inr (.inr o))).category = 2 then i + 2 else i + 1) (r.map toV)
        rw [show (toV (.inr (.inr o))).category = 1 from va_rf_cat o, if_neg (by decide), show i + (j + 1) = i + 1 + j by omega]
        exact this
theorem lg_sl_cons (v : Value) (vs : List Value) : lg_sl (v :: vs) = (if v.category = 2 then [Slot.val v, Slot.second] else [Slot.val v]) ++ lg_sl vs := by simp [lg_sl]
theorem inL_len : ∀ a : List XV, (lg_sl (a.map toV)).length = (inL a).length
  | [] => rfl
  | .inl x :: r => by
    rw [List.map_cons, lg_sl_cons, List.length_append, inL_len r, toV_cat]
    simp [inL, isL]; omega
  | .inr (.inl x) :: r => by
    rw [List.map_cons, lg_sl_cons, List.length_append, inL_len r, toV_cat]
    simp [inL, isL]; omega
  | .inr (.inr o) :: r => by
    rw [List.map_cons, lg_sl_cons, List.length_append, inL_len r, toV_cat]
    simp [inL, isL]; omega
theorem lh_entry {a : List XV} {n : Nat} (h : (inL a).length ≤ n) : lh ((lg_sl (a.map toV) ++ List.replicate (n - (lg_sl (a.map toV)).length) Slot.unset).toArray) n (inL a ++ List.replicate (n - (inL a).length) none) := by
  obtain ⟨h1, h2, h3⟩ := lv_entry (a.map toV) (n := n) (by rw [inL_len]; exact h)
  refine ⟨h1, h2, fun j w hw => ?_⟩
  have hj : (inL a)[j]? = some (some w) := by
    by_cases hl : j < (inL a).length
    · rw [List.getElem?_append_left hl] at hw
      exact hw
    · rw [List.getElem?_append_right (by omega), List.getElem?_replicate] at hw
      split at hw <;> cases hw
  have := h3 _ (inL_args a 0 j w hj)
  rw [Nat.zero_add] at this
  exact this
end XEnd
end
section
section XCall
variable {l : Launch} {G : xG} {M : xMt} {pc : Nat} {L : List (Option XV)} {st : List XV} {m : XM} {bc bs : Nat} {Q : XR → XM → Prop}
theorem xws_code (hh : M.2.2.2.2.2 = []) : xws M = Cond.code M.1 M.2.1 M.2.2.1 M.2.2.2.1 :: WS := by unfold xws xcw; rw [hh]
theorem x_entry {a : List XV} (hy : plainName M.1.cls = true) (hh : M.2.2.2.2.2 = []) (hst : l.stackTraces = false) (hlen : (inL a).length ≤ M.2.2.1) {L0 : List (Option XV)} (hL0 : inL a ++ List.replicate (M.2.2.1 - (inL a).length) none = L0)
    (k : WW l G M 0 L0 [] m M.2.2.2.2.1.cells M.2.2.2.2.1.slots Q) : CC l G M a m Q := by
  subst hL0
  have hw : xws M = Cond.code M.1 M.2.1 M.2.2.1 M.2.2.2.1 :: WS := by unfold xws xcw; rw [hh]
  refine vx_ofW (cc := M.2.1) (maxL := M.2.2.1) (ret := M.2.2.2.1) hy hw ?_
  intro p e s mid args below meth c s₁ B hml hx hv
  obtain ⟨rfl, hWd, hSt⟩ := hv
  have hts0 := atoms_spec (ws := xws M) B.pre
  have hts : ∀ w ∈ WS, w.before _ s = true := fun w h => hts0 w (List.mem_cons_of_mem _ h)
  have hown : s.vm.findClass M.1.cls = some mid.cls := findClass_of_methodNamed B.named
  have htab : c.exceptionTable.toList = tableOf M.2.2.2.2.2 := by
    rw [hh]
    exact List.eq_nil_iff_forall_not_mem.mpr fun x h => hx x h
  rw [lg_entry_eq]
  exact k p e s mid _ below meth c ⟨B.exec, B.bytes, hml, hown, hts, B.notSynchronized, B.returns, (name_of_methodNamed B.named B.method).1, htab, hSt, hst⟩ s.heap [] 0 0 _ hWd va_S.rf (lh_entry hlen) (by omega) (by omega)
theorem x_entryH {a : List XV} (hy : plainName M.1.cls = true) (hh : M.2.2.2.2.2 ≠ []) (hst : l.stackTraces = false) (hlen : (inL a).length ≤ M.2.2.1) {L0 : List (Option XV)} (hL0 : inL a ++ List.replicate (M.2.2.1 - (inL a).length) none = L0)
    (k : WW l G M 0 L0 [] m M.2.2.2.2.1.cells M.2.2.2.2.1.slots Q) : CC l G M a m Q := by
  subst hL0
  have hw : xws M = Cond.codeWith M.1 M.2.1 M.2.2.1 M.2.2.2.1 M.2.2.2.2.2 :: WS := by
    unfold xws xcw
    split
    · next h => exact absurd h hh
    · rfl
  refine vx_ofWH (cc := M.2.1) (maxL := M.2.2.1) (ret := M.2.2.2.1) (hh := M.2.2.2.2.2) hy hw ?_
  intro p e s mid args below meth c s₁ B hml hv
  obtain ⟨rfl, hWd, hSt⟩ := hv
  have hts0 := atoms_spec (ws := xws M) B.pre
  have hts : ∀ w ∈ WS, w.before _ s = true := fun w h => hts0 w (List.mem_cons_of_mem _ h)
  have hown : s.vm.findClass M.1.cls = some mid.cls := findClass_of_methodNamed B.named
  have htab : c.exceptionTable.toList = tableOf M.2.2.2.2.2 := vx_table (x := M.1) B (hts0 _ (by rw [hw]; exact List.mem_cons_self))
  rw [lg_entry_eq]
  exact k p e s mid _ below meth c ⟨B.exec, B.bytes, hml, hown, hts, B.notSynchronized, B.returns, (name_of_methodNamed B.named B.method).1, htab, hSt, hst⟩ s.heap [] 0 0 _ hWd va_S.rf (lh_entry hlen) (by omega) (by omega)
theorem xSt.moved {s U : State} {H : Heap} {locs : List Loc} (h : xSt G s s.heap) (hS : va_S (xA G) s.heap H locs) (hU : U.heap = H) (hW : s.WarmedH U.vm) : xSt G U U.heap := by
  obtain ⟨h1, h2, h3, h4, h5, h6, h7⟩ := h
  subst hU
  have hb : G.2.2.2.1 < s.heap.size := Nat.lt_of_lt_of_le h6 h4
  exact ⟨h1.moved hW.alike, vx_Zq.moved hW.alike (h2.kept hS.2.1), vx_Zq.moved hW.alike (h3.kept hS.2.1), Nat.le_trans h4 hS.1, (h5.kept (hS.2.1 _ hb (Nat.not_le.mpr h6))).moved hW.alike, h6, h7.moved hW⟩
theorem xPc.blind {a : List XV} : FrameBlind (xPc G a m) := by
  intro v U g mk h
  obtain ⟨h1, h2, h3, h4, h5, h6, h7, h8, h9⟩ := h
  exact ⟨h1, h2, va_K.moved (u := U) (U := U.calling g mk v) (Vm.Alike.refl U.vm) h3, vx_Zq.moved (u := U) (U := U.calling g mk v) (Vm.Alike.refl U.vm) h4, vx_Zq.moved (u := U) (U := U.calling g mk v) (Vm.Alike.refl U.vm) h5, h6, va_X.moved (u := U) (U := U.calling g mk v) (Vm.Alike.refl U.vm) h7, h8, xNt.moved (s := U) (U := U.calling g mk v) (State.WarmedH.refl U) h9⟩
theorem xPre {a : List XV} {s : State} {H : Heap} {locs : List Loc} (hW : Wd G m H) (hSt : xSt G s s.heap) (hS : va_S (xA G) s.heap H locs) : PreS s H (xPc G a m) (a.map toV) :=
  ⟨xPc.blind, fun U hU hWm => ⟨rfl, by rw [hU]; exact hW, hSt.moved hS hU hWm⟩⟩
/-- the answer of a call, by its kind; what is thrown goes on -/
def kI (f : Int32 → XM → Prop) (Q : XR → XM → Prop) : XR → XM → Prop
  | .inl (some (.inl v)), m => f v m
  | .inr E, m => Q (.inr E) m
  | _, _ => False
def kL (f : Int64 → XM → Prop) (Q : XR → XM → Prop) : XR → XM → Prop
  | .inl (some (.inr (.inl v))), m => f v m
  | .inr E, m => Q (.inr E) m
  | _, _ => False
def kR (f : Option Nat → XM → Prop) (Q : XR → XM → Prop) : XR → XM → Prop
  | .inl (some (.inr (.inr v))), m => f v m
  | .inr E, m => Q (.inr E) m
  | _, _ => False
def kV (f : XM → Prop) (Q : XR → XM → Prop) : XR → XM → Prop
  | .inl none, m => f m
  | .inr E, m => Q (.inr E) m
  | _, _ => False
def kN (f : XM → Prop) : XR → XM → Prop
  | .inl none, m => f m
  | _, _ => False
/-- where a call comes back -/
def xBk (l : Launch) (G : xG) (M : xMt) (n : Nat) (L : List (Option XV)) (st : List XV) (bc bs : Nat) (Q Q' : XR → XM → Prop) : Prop :=
  (∀ (r : Option XV) (m' : XM), Q' (.inl r) m' → WW l G M n L (r.toList ++ st) m' bc bs Q) ∧ ∀ (E : String) (m' : XM), Q' (.inr E) m' → Q (.inr E) m'
theorem xBk.I {n : Nat} {f : Int32 → XM → Prop} (h : ∀ v m', f v m' → WW l G M n L (vI v :: st) m' bc bs Q) : xBk l G M n L st bc bs Q (kI f Q) := by
  refine ⟨fun r m' hq => ?_, fun E m' hq => hq⟩
  rcases r with _ | (v | v | v)
  · exact hq.elim
  · exact h v m' hq
  · exact hq.elim
  · exact hq.elim
theorem xBk.J {n : Nat} {f : Int64 → XM → Prop} (h : ∀ v m', f v m' → WW l G M n L (vL v :: st) m' bc bs Q) : xBk l G M n L st bc bs Q (kL f Q) := by
  refine ⟨fun r m' hq => ?_, fun E m' hq => hq⟩
  rcases r with _ | (v | v | v)
  · exact hq.elim
  · exact hq.elim
  · exact h v m' hq
  · exact hq.elim
theorem xBk.R {n : Nat} {f : Option Nat → XM → Prop} (h : ∀ v m', f v m' → WW l G M n L (vR v :: st) m' bc bs Q) : xBk l G M n L st bc bs Q (kR f Q) := by
  refine ⟨fun r m' hq => ?_, fun E m' hq => hq⟩
  rcases r with _ | (v | v | v)
  · exact hq.elim
  · exact hq.elim
  · exact hq.elim
  · exact h v m' hq
theorem xBk.V {n : Nat} {f : XM → Prop} (h : ∀ m', f m' → WW l G M n L st m' bc bs Q) : xBk l G M n L st bc bs Q (kV f Q) := by
  refine ⟨fun r m' hq => ?_, fun E m' hq => hq⟩
  rcases r with _ | (v | v | v)
  · exact h m' hq
  · exact hq.elim
  · exact hq.elim
  · exact hq.elim
theorem xBk.N {n : Nat} {f : XM → Prop} (h : ∀ m', f m' → WW l G M n L st m' bc bs Q) : xBk l G M n L st bc bs Q (kN f) := by
  refine ⟨fun r m' hq => ?_, fun E m' hq => hq.elim⟩
  rcases r with _ | (v | v | v)
  · exact h m' hq
  · exact hq.elim
  · exact hq.elim
  · exact hq.elim
theorem kN.no {f : XM → Prop} : ∀ E m', ¬ kN f (.inr E) m' := fun _ _ h => h
theorem xw_after {Q' : XR → XM → Prop} {mc ms : Nat} {a0 : Array Value} {p : Program} {e : Env} {s : State} {mid : MethodId} {args : Array Value} {below : List Frame} {meth : Method} {c : Code} {H : Heap} {locs : List Loc} {cells slots : Nat} {ls : Array Slot} {st0 : List Value}
    (hC : xC l G M p s mid args meth c) (hS : va_S (xA G) s.heap H locs) (hL : lh ls M.2.2.1 L) (h1 : cells + (bc + mc) ≤ M.2.2.2.2.1.cells) (h2 : slots + (bs + ms) ≤ M.2.2.2.2.1.slots) (hno : M.2.2.2.2.2 = []) {n : Nat} (hn : pc + 3 = n)
    (hr : vx_Run p l e M.2.2.2.2.1 s mid args below meth c H locs cells slots mc ms (F0 mid pc ls st0) (st.map toV) (xQc G Q' a0) (xXC G Q') (xA G))
    (hB : xBk l G M n L st bc bs Q Q') : W p l e M.2.2.2.2.1 s mid args below meth c H locs cells slots (vx_MQ below (xQc G Q) (xXC G Q) args s M.2.2.2.2.1.cells M.2.2.2.2.1.slots (xA G)) (F0 mid pc ls st0) := by
  subst hn
  intro T hT X
  rcases hr T hT X with ⟨v, st₀, t, T', L1, h0, X', hL1, e1, e2, ⟨⟨r, m', hv, hq, hw⟩, hF⟩, go⟩ | ⟨q, st₀, t, T', L1, E, ce, h0, X', hL1, e1, e2, ⟨m', hq, hw, hF⟩, hce, hcv, hcl, go⟩
  · cases hv
    obtain ⟨-, -, hS1⟩ := vx_keep (A1 := xA G) (free := xA G) h0 e1 hS (fun _ _ h => h) (fun _ h => h) hL1 hF
    obtain ⟨t2, a1, b1⟩ := hB.1 r m' hq p e s mid args below meth c hC T'.heap (locs ++ L1) (cells + mc) (slots + ms) ls (by rw [e1]; exact hw) hS1 hL (by omega) (by omega) T' rfl X'
    refine ⟨t2, go t2 ?_, b1⟩
    have : (r.toList ++ st).map toV = (r.map toV).toList ++ st.map toV := by cases r <;> rfl
    rw [this] at a1
    exact a1
  · obtain ⟨-, -, hS1⟩ := vx_keep (A1 := xA G) (free := xA G) h0 e1 hS (fun _ _ h => h) (fun _ h => h) hL1 hF
    have hout : ∀ x ∈ c.exceptionTable.toList, covers x pc = false := by
      intro x hx
      rw [hC.2.2.2.2.2.2.2.2.1, hno] at hx
      cases hx
    have := vx_out (p := p) (l := l) (e := e) (R := M.2.2.2.2.1) (below := below) (ls := ls) (rest := st.map toV) (locs := locs ++ L1) (cells := cells + mc) (slots := slots + ms) (mc := M.2.2.2.2.1.cells) (ms := M.2.2.2.2.1.slots) (free := xA G) (Qc := xQc G Q) (XC := xXC G Q) (m := mid) (args := args) hout hC.2.2.2.2.2.1 (by rw [e1]; exact hce) hcv hcl
      (fun t' ht' _ => ⟨m', hB.2 E m' hq, by rw [ht', e1]; exact hw, hS1.F ht'⟩) hS1.2.2 (by omega) (by omega) T' rfl X'
    obtain ⟨t2, a1, b1⟩ := this
    exact ⟨t2, go.trans a1, b1⟩
/-- an object call: the words that link it, what it needs of the room -/
def xCV (M M' : xMt) (idx n : Nat) : Prop := GoodIn WS (wsV M.1.cls idx M'.1.cls M'.1 (xws M')) ∧ M'.2.2.2.2.2 = [] ∧ (M'.1.cls ≠ "java/lang/invoke/MethodHandle" ∧ M'.1.cls ≠ "java/lang/invoke/VarHandle" ∧ (parseMethodDescriptor M'.1.desc).map (fun d => d.parameters.length) = some n) ∧
  (M'.2.2.2.2.1.frames + 1 ≤ M.2.2.2.2.1.frames ∧ 8 + (M'.2.2.1 + 11) + M'.2.2.2.2.1.locals ≤ M.2.2.2.2.1.locals) ∧ M.2.2.2.2.2 = []
def xCat (st : List XV) : Nat := (st.map fun v => if isL v then 2 else 1).sum
theorem xCat_eq (st : List XV) : ((st.map toV).map fun v => v.category).sum = xCat st := by
  unfold xCat
  rw [List.map_map]
  congr 2
  funext v
  exact toV_cat v
theorem x_invV {M' : xMt} {idx ci b n0 : Nat} {o : Option Nat} (ho : o = some b) {as st0 : List XV} {r : vw_C} {Q' : XR → XM → Prop} (hd : decode M.2.1 pc = .ok (.invokevirtual idx, 3)) (hcw : xCV M M' idx n0) (hst0 : st0 = as.reverse ++ vR o :: st) (hn0 : as.length = n0) (hk : m.1 b = some (oB ci)) (hci : vwCl[ci]? = some r) (hr : r.1 = M'.1.cls) (hcat : xCat st ≤ 8) {n bc0 bs0 : Nat} (hn : pc + 3 = n) (hb1 : bc0 = bc + M'.2.2.2.2.1.cells) (hb2 : bs0 = bs + M'.2.2.2.2.1.slots)
    (hcc : CC l G M' (vR (some b) :: as) m Q') (hB : xBk l G M n L st bc bs Q Q') : WW l G M pc L st0 m bc0 bs0 Q := by
  subst ho; subst hst0; subst hb1; subst hb2
  intro p e s mid args below meth c hC H locs cells slots ls hW hS hL h1 h2
  obtain ⟨g1, g2, g3, g4, g5⟩ := hcw
  have g2 := xws_code g2
  have hSt := hC.2.2.2.2.2.2.2.2.2.1
  have hrecv : ∃ cellB : Cell, H[b]? = some cellB ∧ cellB.vm.isStatics = false ∧ s.vm.findClass M'.1.cls = some cellB.cls := by
    rw [← hr]
    exact va_recv hSt.1 (xP1 hW hk) hci (q0 := 0) rfl
  have hpre := xPre (a := vR (some b) :: as) hW hSt hS
  have hrun := vx_runV (p := p) (e := e) (below := below) (meth := meth) (locs := locs) (cells := cells) (slots := slots) (g := F0 mid pc ls ((as.map toV).reverse ++ .ref b :: st.map toV)) (As := as.map toV) (rest := st.map toV) (cc := M.2.1) (nL := M.2.2.1) (Ts := WS) (own := M.1.cls) (index := idx)
    ⟨hC.1, hC.2.1, hC.2.2.1, hC.2.2.2.1, hC.2.2.2.2.1⟩ hcc (cwV (R := M.2.2.2.2.1) n0 hC.2.2.2.2.1 g1 g2 rfl rfl ⟨rfl, g3⟩ g4) ⟨hpre.1, hrecv, hpre.2⟩ rfl (by rw [List.length_map]; exact hn0) hL.1 rfl (lv_room (by rw [xCat_eq]; exact hcat)) hd ⟨by omega, by omega⟩
  have e0 : (as.reverse ++ vR (some b) :: st).map toV = (as.map toV).reverse ++ .ref b :: st.map toV := by simp [toV, va_rf]
  rw [e0]
  exact xw_after hC hS hL h1 h2 g5 hn hrun hB
/-- a static call within the class, or of any class -/
def xCS (M M' : xMt) (idx n : Nat) : Prop := GoodIn WS (va_wsS M.1.cls idx M'.1 (xws M')) ∧ M'.2.2.2.2.2 = [] ∧ (M'.1.cls ≠ "java/lang/invoke/MethodHandle" ∧ M'.1.cls ≠ "java/lang/invoke/VarHandle" ∧ (parseMethodDescriptor M'.1.desc).map (fun d => d.parameters.length) = some n) ∧
  (M'.2.2.2.2.1.frames + 1 ≤ M.2.2.2.2.1.frames ∧ 8 + (M'.2.2.1 + 11) + M'.2.2.2.2.1.locals ≤ M.2.2.2.2.1.locals) ∧ M.2.2.2.2.2 = []
theorem x_invS {M' : xMt} {idx n0 : Nat} {as st0 : List XV} {Q' : XR → XM → Prop} (hd : decode M.2.1 pc = .ok (.invokestatic idx, 3)) (hcw : xCS M M' idx n0) (hst0 : st0 = as.reverse ++ st) (hn0 : as.length = n0) (hcat : xCat st ≤ 8) {n bc0 bs0 : Nat} (hn : pc + 3 = n) (hb1 : bc0 = bc + M'.2.2.2.2.1.cells) (hb2 : bs0 = bs + M'.2.2.2.2.1.slots)
    (hcc : CC l G M' as m Q') (hB : xBk l G M n L st bc bs Q Q') : WW l G M pc L st0 m bc0 bs0 Q := by
  subst hst0; subst hb1; subst hb2
  intro p e s mid args below meth c hC H locs cells slots ls hW hS hL h1 h2
  obtain ⟨g1, g2, g3, g4, g5⟩ := hcw
  have g2 := xws_code g2
  have hSt := hC.2.2.2.2.2.2.2.2.2.1
  have hrun := vx_runS (p := p) (e := e) (below := below) (meth := meth) (locs := locs) (cells := cells) (slots := slots) (g := F0 mid pc ls ((as.map toV).reverse ++ st.map toV)) (As := as.map toV) (rest := st.map toV) (cc := M.2.1) (nL := M.2.2.1) (Ts := WS) (own := M.1.cls) (index := idx)
    ⟨hC.1, hC.2.1, hC.2.2.1, hC.2.2.2.1, hC.2.2.2.2.1⟩ hcc (va_cwS (R := M.2.2.2.2.1) n0 hC.2.2.2.2.1 g1 g2 rfl rfl g3 g4) (xPre (a := as) hW hSt hS) rfl (by rw [List.length_map]; exact hn0) hL.1 rfl (lv_room (by rw [xCat_eq]; exact hcat)) hd ⟨by omega, by omega⟩
  have e0 : (as.reverse ++ st).map toV = (as.map toV).reverse ++ st.map toV := by simp
  rw [e0]
  exact xw_after hC hS hL h1 h2 g5 hn hrun hB
theorem CC.met {a : List XV} (h : CC l G M a m Q) (hno : ∀ E m', ¬ Q (.inr E) m') : Met l M.1 (xws M) M.2.2.2.2.1 (xPc G a m) (xQc G Q) M.2.2.2.2.1.cells M.2.2.2.2.1.slots (xA G) := by
  refine MetFree.mono h (fun _ _ h => h) (fun _ _ _ _ _ _ => trivial) (fun a st o t _ hq => ?_)
  rcases hq with hq | ⟨q, -, E, ce, L, ⟨m', hx, -⟩, -⟩
  · exact hq
  · exact absurd hx (hno E m')
theorem xw_afterM {Q' : XR → XM → Prop} {mc ms : Nat} {a0 : Array Value} {p : Program} {e : Env} {s : State} {mid : MethodId} {args : Array Value} {below : List Frame} {meth : Method} {c : Code} {H : Heap} {locs : List Loc} {cells slots : Nat} {ls : Array Slot} {st0 : List Value}
    (hC : xC l G M p s mid args meth c) (hS : va_S (xA G) s.heap H locs) (hL : lh ls M.2.2.1 L) (h1 : cells + (bc + mc) ≤ M.2.2.2.2.1.cells) (h2 : slots + (bs + ms) ≤ M.2.2.2.2.1.slots) {n : Nat} (hn : pc + 3 = n)
    (hr : va_Run p l e M.2.2.2.2.1 s mid args below meth c H locs cells slots mc ms (F0 mid pc ls st0) (st.map toV) (xQc G Q' a0) (xA G))
    (hB : xBk l G M n L st bc bs Q Q') : W p l e M.2.2.2.2.1 s mid args below meth c H locs cells slots (vx_MQ below (xQc G Q) (xXC G Q) args s M.2.2.2.2.1.cells M.2.2.2.2.1.slots (xA G)) (F0 mid pc ls st0) := by
  subst hn
  intro T hT X
  obtain ⟨v, st₀, t, T', L1, h0, X', hL1, e1, e2, ⟨⟨r, m', hv, hq, hw⟩, hF⟩, go⟩ := hr T hT X
  cases hv
  obtain ⟨-, -, hS1⟩ := vx_keep (A1 := xA G) (free := xA G) h0 e1 hS (fun _ _ h => h) (fun _ h => h) hL1 hF
  obtain ⟨t2, a1, b1⟩ := hB.1 r m' hq p e s mid args below meth c hC T'.heap (locs ++ L1) (cells + mc) (slots + ms) ls (by rw [e1]; exact hw) hS1 hL (by omega) (by omega) T' rfl X'
  refine ⟨t2, go t2 ?_, b1⟩
  have : (r.toList ++ st).map toV = (r.map toV).toList ++ st.map toV := by cases r <;> rfl
  rw [this] at a1
  exact a1
/-- a constructor's call -/
def xCI (M M' : xMt) (idx n : Nat) : Prop := GoodIn WS (xws M') ∧ (M'.2.2.2.2.2 = [] ∧ M'.2.2.2.1 = none) ∧ Cond.initialized M'.1.cls ∈ WS ∧ Cond.methodLink M.1.cls idx M'.1 ∈ WS ∧ Cond.instanceMethod M'.1 ∈ WS ∧ M'.1.name = "<init>" ∧ (M'.1.cls ≠ "java/lang/invoke/MethodHandle" ∧ M'.1.cls ≠ "java/lang/invoke/VarHandle" ∧ (parseMethodDescriptor M'.1.desc).map (fun d => d.parameters.length) = some n) ∧
  (M'.2.2.2.2.1.frames + 1 ≤ M.2.2.2.2.1.frames ∧ 8 + (M'.2.2.1 + 11) + M'.2.2.2.2.1.locals ≤ M.2.2.2.2.1.locals)
theorem x_invI {M' : xMt} {idx b n0 : Nat} {as st0 : List XV} {Q' : XR → XM → Prop} (hd : decode M.2.1 pc = .ok (.invokespecial idx, 3)) (hcw : xCI M M' idx n0) (hst0 : st0 = as.reverse ++ vR (some b) :: st) (hn0 : as.length = n0) (hcat : xCat st ≤ 8) {n bc0 bs0 : Nat} (hn : pc + 3 = n) (hb1 : bc0 = bc + M'.2.2.2.2.1.cells) (hb2 : bs0 = bs + M'.2.2.2.2.1.slots)
    (hcc : CC l G M' (vR (some b) :: as) m Q') (hno : ∀ E m', ¬ Q' (.inr E) m') (hB : xBk l G M n L st bc bs Q Q') : WW l G M pc L st0 m bc0 bs0 Q := by
  subst hst0; subst hb1; subst hb2
  intro p e s mid args below meth c hC H locs cells slots ls hW hS hL h1 h2
  obtain ⟨g1, ⟨g2, g2'⟩, g3, g4, g5, g6, g7, g8⟩ := hcw
  have g2 := xws_code g2
  rw [g2'] at g2
  have hSt := hC.2.2.2.2.2.2.2.2.2.1
  have hts := hC.2.2.2.2.1
  have hrun := va_runI (p := p) (e := e) (below := below) (meth := meth) (locs := locs) (cells := cells) (slots := slots) (g := F0 mid pc ls ((as.map toV).reverse ++ .ref b :: st.map toV)) (As := as.map toV) (rest := st.map toV) (cc := M.2.1) (nL := M.2.2.1) (Ts := WS) (own := M.1.cls) (index := idx)
    ⟨hC.1, hC.2.1, hC.2.2.1, hC.2.2.2.1, hts⟩ (hcc.met hno) (cwI (R := M.2.2.2.2.1) n0 hts g1 g2 rfl rfl (hts _ g3) (hts _ g4) (hts _ g5) g6 g7 g8) (xPre (a := vR (some b) :: as) hW hSt hS) rfl (by rw [List.length_map]; exact hn0) hL.1 rfl (lv_room (by rw [xCat_eq]; exact hcat)) hd ⟨by omega, by omega⟩
  have e0 : (as.reverse ++ vR (some b) :: st).map toV = (as.map toV).reverse ++ .ref b :: st.map toV := by simp [toV, va_rf]
  rw [e0]
  exact xw_afterM hC hS hL h1 h2 hn hrun hB
/-- a static call of a nest mate's private method -/
def xSN (M M' : xMt) (idx n : Nat) (host : String) : Prop := GoodIn WS (xws M') ∧ M'.2.2.2.2.2 = [] ∧ (M.1.cls, idx, M'.1, host) ∈ xNest ∧ Cond.initialized M'.1.cls ∈ WS ∧ Cond.static M'.1 ∈ WS ∧ (M'.1.cls ≠ "java/lang/invoke/MethodHandle" ∧ M'.1.cls ≠ "java/lang/invoke/VarHandle" ∧ (parseMethodDescriptor M'.1.desc).map (fun d => d.parameters.length) = some n) ∧
  (M'.2.2.2.2.1.frames + 1 ≤ M.2.2.2.2.1.frames ∧ 8 + (M'.2.2.1 + 11) + M'.2.2.2.2.1.locals ≤ M.2.2.2.2.1.locals)
theorem x_invSN {M' : xMt} {idx n0 : Nat} {host : String} {as st0 : List XV} {Q' : XR → XM → Prop} (hd : decode M.2.1 pc = .ok (.invokestatic idx, 3)) (hcw : xSN M M' idx n0 host) (hst0 : st0 = as.reverse ++ st) (hn0 : as.length = n0) (hcat : xCat st ≤ 8) {n bc0 bs0 : Nat} (hn : pc + 3 = n) (hb1 : bc0 = bc + M'.2.2.2.2.1.cells) (hb2 : bs0 = bs + M'.2.2.2.2.1.slots)
    (hcc : CC l G M' as m Q') (hno : ∀ E m', ¬ Q' (.inr E) m') (hB : xBk l G M n L st bc bs Q Q') : WW l G M pc L st0 m bc0 bs0 Q := by
  subst hst0; subst hb1; subst hb2
  intro p e s mid args below meth c hC H locs cells slots ls hW hS hL h1 h2
  obtain ⟨g1, g2, g3, g4, g5, g7, g8⟩ := hcw
  have g2 := xws_code g2
  have hSt := hC.2.2.2.2.2.2.2.2.2.1
  have hts := hC.2.2.2.2.1
  have hrun := va_runSN (p := p) (e := e) (below := below) (meth := meth) (locs := locs) (cells := cells) (slots := slots) (g := F0 mid pc ls ((as.map toV).reverse ++ st.map toV)) (As := as.map toV) (rest := st.map toV) (cc := M.2.1) (nL := M.2.2.1) (Ts := WS) (own := M.1.cls) (index := idx) (host := host)
    ⟨hC.1, hC.2.1, hC.2.2.1, hC.2.2.2.1, hts⟩ (hcc.met hno) ⟨va_cnB (R := M.2.2.2.2.1) n0 hts g1 g2 rfl rfl (hSt.2.2.2.2.2.2.1 _ g3) (hts _ g4) g7 g8, hts _ g5, trivial⟩ (xPre (a := as) hW hSt hS) rfl (by rw [List.length_map]; exact hn0) hL.1 rfl (lv_room (by rw [xCat_eq]; exact hcat)) hd ⟨by omega, by omega⟩
  have e0 : (as.reverse ++ st).map toV = (as.map toV).reverse ++ st.map toV := by simp
  rw [e0]
  exact xw_afterM hC hS hL h1 h2 hn hrun hB
/-- a nest mate's constructor -/
def xIN (M M' : xMt) (idx n : Nat) (host : String) : Prop := GoodIn WS (xws M') ∧ (M'.2.2.2.2.2 = [] ∧ M'.2.2.2.1 = none) ∧ (M.1.cls, idx, M'.1, host) ∈ xNest ∧ Cond.initialized M'.1.cls ∈ WS ∧ Cond.instanceMethod M'.1 ∈ WS ∧ M'.1.name = "<init>" ∧ (M'.1.cls ≠ "java/lang/invoke/MethodHandle" ∧ M'.1.cls ≠ "java/lang/invoke/VarHandle" ∧ (parseMethodDescriptor M'.1.desc).map (fun d => d.parameters.length) = some n) ∧
  (M'.2.2.2.2.1.frames + 1 ≤ M.2.2.2.2.1.frames ∧ 8 + (M'.2.2.1 + 11) + M'.2.2.2.2.1.locals ≤ M.2.2.2.2.1.locals)
theorem x_invIN {M' : xMt} {idx b n0 : Nat} {host : String} {as st0 : List XV} {Q' : XR → XM → Prop} (hd : decode M.2.1 pc = .ok (.invokespecial idx, 3)) (hcw : xIN M M' idx n0 host) (hst0 : st0 = as.reverse ++ vR (some b) :: st) (hn0 : as.length = n0) (hcat : xCat st ≤ 8) {n bc0 bs0 : Nat} (hn : pc + 3 = n) (hb1 : bc0 = bc + M'.2.2.2.2.1.cells) (hb2 : bs0 = bs + M'.2.2.2.2.1.slots)
    (hcc : CC l G M' (vR (some b) :: as) m Q') (hno : ∀ E m', ¬ Q' (.inr E) m') (hB : xBk l G M n L st bc bs Q Q') : WW l G M pc L st0 m bc0 bs0 Q := by
  subst hst0; subst hb1; subst hb2
  intro p e s mid args below meth c hC H locs cells slots ls hW hS hL h1 h2
  obtain ⟨g1, ⟨g2, g2'⟩, g3, g4, g5, g6, g7, g8⟩ := hcw
  have g2 := xws_code g2
  rw [g2'] at g2
  have hSt := hC.2.2.2.2.2.2.2.2.2.1
  have hts := hC.2.2.2.2.1
  have hrun := va_runIN (p := p) (e := e) (below := below) (meth := meth) (locs := locs) (cells := cells) (slots := slots) (g := F0 mid pc ls ((as.map toV).reverse ++ .ref b :: st.map toV)) (As := as.map toV) (rest := st.map toV) (cc := M.2.1) (nL := M.2.2.1) (Ts := WS) (own := M.1.cls) (index := idx) (host := host)
    ⟨hC.1, hC.2.1, hC.2.2.1, hC.2.2.2.1, hts⟩ (hcc.met hno) ⟨va_cnB (R := M.2.2.2.2.1) n0 hts g1 g2 rfl rfl (hSt.2.2.2.2.2.2.1 _ g3) (hts _ g4) g7 g8, g6, hts _ g5⟩ (xPre (a := vR (some b) :: as) hW hSt hS) rfl (by rw [List.length_map]; exact hn0) hL.1 rfl (lv_room (by rw [xCat_eq]; exact hcat)) hd ⟨by omega, by omega⟩
  have e0 : (as.reverse ++ vR (some b) :: st).map toV = (as.map toV).reverse ++ .ref b :: st.map toV := by simp [toV, va_rf]
  rw [e0]
  exact xw_afterM hC hS hL h1 h2 hn hrun hB
end XCall
end
section
section XTry
variable {l : Launch} {G : xG} {M : xMt} {pc : Nat} {L : List (Option XV)} {st : List XV} {m : XM} {bc bs : Nat} {Q : XR → XM → Prop}
theorem xgV {own C : String} {idx : Nat} {y : MethodName} {M' : xMt} (h1 : Cond.methodLink own idx y ∈ WS) (h2 : Cond.instanceMethod y ∈ WS) (h3 : Cond.selects C y y ∈ WS) (h4 : Cond.initialized C ∈ WS) (h5 : xcw M' ∈ WS) : GoodIn WS (wsV own idx C y (xws M')) := by
  intro w hw
  have : w ∈ WS := by
    simp only [wsV, xws, List.mem_append, List.mem_cons, List.not_mem_nil, or_false] at hw
    rcases hw with (rfl | rfl | rfl | rfl) | rfl | h
    · exact h1
    · exact h2
    · exact h3
    · exact h4
    · exact h5
    · exact h
  exact ⟨this, WS_good w this⟩
theorem xgS {own : String} {idx : Nat} {y : MethodName} {M' : xMt} (h1 : Cond.methodLink own idx y ∈ WS) (h2 : Cond.static y ∈ WS) (h4 : Cond.initialized y.cls ∈ WS) (h5 : xcw M' ∈ WS) : GoodIn WS (va_wsS own idx y (xws M')) := by
  intro w hw
  have : w ∈ WS := by
    simp only [va_wsS, xws, List.mem_append, List.mem_cons, List.not_mem_nil, or_false] at hw
    rcases hw with (rfl | rfl | rfl) | rfl | h
    · exact h1
    · exact h2
    · exact h4
    · exact h5
    · exact h
  exact ⟨this, WS_good w this⟩
theorem xgI {M' : xMt} (h5 : xcw M' ∈ WS) : GoodIn WS (xws M') := by
  intro w hw
  have : w ∈ WS := by
    simp only [xws, List.mem_cons] at hw
    rcases hw with rfl | h
    · exact h5
    · exact h
  exact ⟨this, WS_good w this⟩
/-- 'throw new E()' in a method without handlers -/
def xTh (M : xMt) (ik ic : Nat) (cls : String) (names : List String) : Prop := Bundle.fit cls = true ∧ (∀ n ∈ names, Bundle.fit n = true) ∧ Cond.classLink M.1.cls ik cls ∈ WS ∧ Cond.initialized cls ∈ WS ∧ (∀ w ∈ vx_at0 M.1.cls ic cls names, w ∈ WS ∨ ∃ y ∈ xDecl, w = .declares y) ∧ (∀ w ∈ Cond.classLink M.1.cls ik cls :: Cond.initialized cls :: vx_at0 M.1.cls ic cls names, vx_ot w = true) ∧
  names.length + 3 < M.2.2.2.2.1.frames ∧ 13 * (names.length + 1) + 42 ≤ M.2.2.2.2.1.locals ∧ M.2.2.2.2.2 = []
theorem x_throw0 {ik ic : Nat} {cls : String} {names : List String} (hT : xTh M ik ic cls names) (d0 : decode M.2.1 pc = .ok (.new ik, 3)) (d3 : decode M.2.1 (pc + 3) = .ok (.dup, 1)) (d4 : decode M.2.1 (pc + 4) = .ok (.invokespecial ic, 3)) (d7 : decode M.2.1 (pc + 7) = .ok (.athrow, 1))
    (hb1 : 1 ≤ bc) (hb2 : 6 ≤ bs) (k : Q (.inr cls) m) : WW l G M pc L [] m bc bs Q := by
  intro p e s mid args below meth c hC H locs cells slots ls hW hS hL h1 h2
  obtain ⟨t1, t2, t3, t4, t5, t6, t7, t8, t9⟩ := hT
  have hts := hC.2.2.2.2.1
  have hSt := hC.2.2.2.2.2.2.2.2.2.1
  have hat : ∀ w ∈ vx_at0 M.1.cls ic cls names, w.before args s = true := by
    intro w hw
    rcases t5 w hw with h | ⟨y, hy, rfl⟩
    · exact hts w h
    · exact va_Nw.use rfl (hSt.2.2.2.2.2.2.2.2.1 y hy)
  refine vx_throw0 (A := xA G) (names := names) hC.1 hC.2.1 hC.2.2.2.2.2.2.2.2.2.2 hC.2.2.2.1 t1 t2 (hts _ t3) (hts _ t4) hat t6 hSt.2.1 hSt.2.2.1 hS (hL.1.trans hC.2.2.1.symm) d0 d3 d4 d7 ?_ t7 (by simpa using t8) (by omega) (by omega) hC.2.2.2.2.2.1 ?_ hS.2.2 (by omega) (by omega)
  · intro x hx
    rw [hC.2.2.2.2.2.2.2.2.1, t9] at hx
    cases hx
  · intro t _ hz hq
    refine ⟨m, k, fun a kd h => ⟨(hW a kd h).1.kept (hq a (hW a kd h).1.lt), (hW a kd h).2⟩, Nat.le_trans hS.1 hz, fun q g1 g2 => (hq q (Nat.lt_of_lt_of_le g1 hS.1)).trans (hS.2.1 q g1 g2)⟩
/-- a static call of a method that has handlers -/
def xCH (M M' : xMt) (idx n : Nat) : Prop := GoodIn WS (va_wsS M.1.cls idx M'.1 (xws M')) ∧ M'.2.2.2.2.2 ≠ [] ∧ (M'.1.cls ≠ "java/lang/invoke/MethodHandle" ∧ M'.1.cls ≠ "java/lang/invoke/VarHandle" ∧ (parseMethodDescriptor M'.1.desc).map (fun d => d.parameters.length) = some n) ∧
  (M'.2.2.2.2.1.frames + 1 ≤ M.2.2.2.2.1.frames ∧ 8 + (M'.2.2.1 + 11) + M'.2.2.2.2.1.locals ≤ M.2.2.2.2.1.locals) ∧ M.2.2.2.2.2 = []
theorem x_invSH {M' : xMt} {idx n0 : Nat} {as st0 : List XV} {Q' : XR → XM → Prop} (hd : decode M.2.1 pc = .ok (.invokestatic idx, 3)) (hcw : xCH M M' idx n0) (hst0 : st0 = as.reverse ++ st) (hn0 : as.length = n0) (hcat : xCat st ≤ 8) {n bc0 bs0 : Nat} (hn : pc + 3 = n) (hb1 : bc0 = bc + M'.2.2.2.2.1.cells) (hb2 : bs0 = bs + M'.2.2.2.2.1.slots)
    (hcc : CC l G M' as m Q') (hB : xBk l G M n L st bc bs Q Q') : WW l G M pc L st0 m bc0 bs0 Q := by
  subst hst0; subst hb1; subst hb2
  intro p e s mid args below meth c hC H locs cells slots ls hW hS hL h1 h2
  obtain ⟨g1, g2, g3, g4, g5⟩ := hcw
  have hSt := hC.2.2.2.2.2.2.2.2.2.1
  have g2 : xws M' = Cond.codeWith M'.1 M'.2.1 M'.2.2.1 M'.2.2.2.1 M'.2.2.2.2.2 :: WS := by
    unfold xws xcw
    split
    · next h => exact absurd h g2
    · rfl
  have hrun := vx_runSX (p := p) (e := e) (below := below) (meth := meth) (locs := locs) (cells := cells) (slots := slots) (g := F0 mid pc ls ((as.map toV).reverse ++ st.map toV)) (As := as.map toV) (rest := st.map toV) (cc := M.2.1) (nL := M.2.2.1) (Ts := WS) (own := M.1.cls) (index := idx)
    ⟨hC.1, hC.2.1, hC.2.2.1, hC.2.2.2.1, hC.2.2.2.2.1⟩ hcc (vx_cwSW (R := M.2.2.2.2.1) n0 hC.2.2.2.2.1 g1 g2 rfl rfl g3 g4) (xPre (a := as) hW hSt hS) rfl (by rw [List.length_map]; exact hn0) hL.1 rfl (lv_room (by rw [xCat_eq]; exact hcat)) hd ⟨by omega, by omega⟩
  have e0 : (as.reverse ++ st).map toV = (as.map toV).reverse ++ st.map toV := by simp
  rw [e0]
  exact xw_after hC hS hL h1 h2 g5 hn hrun hB
/-- which handler takes E at pc -/
def xCatch (M : xMt) (pc : Nat) (E : String) (hpc : Nat) : Prop := ∃ (pre : List ExceptionTableEntry) (x : ExceptionTableEntry) (suf : List ExceptionTableEntry) (name : String), tableOf M.2.2.2.2.2 = pre ++ x :: suf ∧ (∀ z ∈ pre, covers z pc = false ∨ (z.catchType ≠ 0 ∧ ∃ nm : String, Cond.classLink M.1.cls z.catchType nm ∈ WS ∧ (E, nm) ∈ xNoc)) ∧ covers x pc = true ∧ x.catchType ≠ 0 ∧ Cond.classLink M.1.cls x.catchType name ∈ WS ∧ (E, name) ∈ xCast ∧ x.handlerPc = hpc
def xCT (M M' : xMt) (idx n : Nat) : Prop := GoodIn WS (wsV M.1.cls idx M'.1.cls M'.1 (xws M')) ∧ M'.2.2.2.2.2 = [] ∧ (M'.1.cls ≠ "java/lang/invoke/MethodHandle" ∧ M'.1.cls ≠ "java/lang/invoke/VarHandle" ∧ (parseMethodDescriptor M'.1.desc).map (fun d => d.parameters.length) = some n) ∧
  (M'.2.2.2.2.1.frames + 1 ≤ M.2.2.2.2.1.frames ∧ 8 + (M'.2.2.1 + 11) + M'.2.2.2.2.1.locals ≤ M.2.2.2.2.1.locals)
/-- a call within a try: what is thrown is caught here -/
theorem x_invVT {M' : xMt} {idx ci b n0 : Nat} {o : Option Nat} (ho : o = some b) {as st0 : List XV} {r : vw_C} {Q' : XR → XM → Prop} (hd : decode M.2.1 pc = .ok (.invokevirtual idx, 3)) (hcw : xCT M M' idx n0) (hst0 : st0 = as.reverse ++ vR o :: st) (hn0 : as.length = n0) (hk : m.1 b = some (oB ci)) (hci : vwCl[ci]? = some r) (hr : r.1 = M'.1.cls) (hcat : xCat st ≤ 8) {n bc0 bs0 : Nat} (hn : pc + 3 = n) (hb1 : bc0 = bc + M'.2.2.2.2.1.cells) (hb2 : bs0 = bs + M'.2.2.2.2.1.slots)
    (hcc : CC l G M' (vR (some b) :: as) m Q') (hB : ∀ (r : Option XV) (m' : XM), Q' (.inl r) m' → WW l G M n L (r.toList ++ st) m' bc bs Q) (hX : ∀ (E : String) (m' : XM), Q' (.inr E) m' → ∃ hpc, xCatch M pc E hpc ∧ ∀ q, WW l G M hpc L [vR (some q)] m' bc bs Q) : WW l G M pc L st0 m bc0 bs0 Q := by
  subst ho; subst hst0; subst hb1; subst hb2; subst hn
  intro p e s mid args below meth c hC H locs cells slots ls hW hS hL h1 h2
  obtain ⟨g1, g2, g3, g4⟩ := hcw
  have g2 := xws_code g2
  have hSt := hC.2.2.2.2.2.2.2.2.2.1
  have hts := hC.2.2.2.2.1
  have hrecv : ∃ cellB : Cell, H[b]? = some cellB ∧ cellB.vm.isStatics = false ∧ s.vm.findClass M'.1.cls = some cellB.cls := by
    rw [← hr]
    exact va_recv hSt.1 (xP1 hW hk) hci (q0 := 0) rfl
  have hpre := xPre (a := vR (some b) :: as) hW hSt hS
  have hrun := vx_runV (p := p) (e := e) (below := below) (meth := meth) (locs := locs) (cells := cells) (slots := slots) (g := F0 mid pc ls ((as.map toV).reverse ++ .ref b :: st.map toV)) (As := as.map toV) (rest := st.map toV) (cc := M.2.1) (nL := M.2.2.1) (Ts := WS) (own := M.1.cls) (index := idx)
    ⟨hC.1, hC.2.1, hC.2.2.1, hC.2.2.2.1, hC.2.2.2.2.1⟩ hcc (cwV (R := M.2.2.2.2.1) n0 hC.2.2.2.2.1 g1 g2 rfl rfl ⟨rfl, g3⟩ g4) ⟨hpre.1, hrecv, hpre.2⟩ rfl (by rw [List.length_map]; exact hn0) hL.1 rfl (lv_room (by rw [xCat_eq]; exact hcat)) hd ⟨by omega, by omega⟩
  have e0 : (as.reverse ++ vR (some b) :: st).map toV = (as.map toV).reverse ++ .ref b :: st.map toV := by simp [toV, va_rf]
  rw [e0]
  intro T hT X
  rcases hrun T hT X with ⟨v, st₀, t, T', L1, h0, X', hL1, e1, e2, ⟨⟨r, m', hv, hq, hw⟩, hF⟩, go⟩ | ⟨q, st₀, t, T', L1, E, ce, h0, X', hL1, e1, e2, ⟨m', hq, hw, hF⟩, hce, hcv, hcl, go⟩
  · cases hv
    obtain ⟨-, -, hS1⟩ := vx_keep (A1 := xA G) (free := xA G) h0 e1 hS (fun _ _ h => h) (fun _ h => h) hL1 hF
    obtain ⟨t2, a1, b1⟩ := hB r m' hq p e s mid args below meth c hC T'.heap (locs ++ L1) _ _ ls (by rw [e1]; exact hw) hS1 hL (by omega) (by omega) T' rfl X'
    refine ⟨t2, go t2 ?_, b1⟩
    have : (r.toList ++ st).map toV = (r.map toV).toList ++ st.map toV := by cases r <;> rfl
    rw [this] at a1
    exact a1
  · obtain ⟨-, -, hS1⟩ := vx_keep (A1 := xA G) (free := xA G) h0 e1 hS (fun _ _ h => h) (fun _ h => h) hL1 hF
    obtain ⟨hpc, ⟨pre, x, suf, name, c1, c2, c3, c4, c5, c6, rfl⟩, kk⟩ := hX E m' hq
    have := vx_catch (p := p) (l := l) (e := e) (R := M.2.2.2.2.1) (below := below) (ls := ls) (rest := st.map toV) (locs := locs ++ L1) (pc := pc) (E := E) (H := T'.heap) (q := q) hC.2.2.2.1 pre x suf (by rw [hC.2.2.2.2.2.2.2.2.1]; exact c1)
      (fun z hz => (c2 z hz).imp id fun ⟨z1, nm, z2, z3⟩ => ⟨z1, nm, hts _ z2, hSt.2.2.2.2.2.2.2.2.2 _ z3⟩) c3 c4 (hts _ c5) (va_Nw.use rfl (hSt.2.2.2.2.2.2.2.1 _ c6)) (by rw [e1]; exact hce) hcv hcl
      (kk q p e s mid args below meth c hC T'.heap (locs ++ L1) _ _ ls (by rw [e1]; exact hw) hS1 hL (by omega) (by omega)) T' rfl X'
    obtain ⟨t2, a1, b1⟩ := this
    exact ⟨t2, go.trans a1, b1⟩
end XTry
end
