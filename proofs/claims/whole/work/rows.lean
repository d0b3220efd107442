section
-- ===== PART A: goes FIRST, ahead of the names: the tables' words, and 'selects' of the private methods out of them =====
/-- a private method of a class that the tables say can be made, by its rows of tables_1 -/
def lw_okq (q : MethodName × Nat) : Prop := (q.1.cls ≠ "java/lang/invoke/MethodHandle" ∧ q.1.cls ≠ "java/lang/invoke/VarHandle") ∧ Cond.instantiable q.1.cls q.2 ∈ tables_1 ∧ Cond.privateMethod q.1 ∈ tables_1 ∧ Cond.instanceMethod q.1 ∈ tables_1
theorem lw_p0 : lw_okq (⟨"java/lang/Throwable", "fillInStackTrace", "(I)Ljava/lang/Throwable;"⟩, 6) := ⟨⟨by decide +kernel, by decide +kernel⟩, List.mem_of_getElem? (i := 188) (by decide +kernel), List.mem_of_getElem? (i := 186) (by decide +kernel), List.mem_of_getElem? (i := 187) (by decide +kernel)⟩
theorem lw_p1 : lw_okq (⟨"TinyCache", "refuseWhenClosed", "()V"⟩, 8) := ⟨⟨by decide +kernel, by decide +kernel⟩, List.mem_of_getElem? (i := 17) (by decide +kernel), List.mem_of_getElem? (i := 222) (by decide +kernel), List.mem_of_getElem? (i := 223) (by decide +kernel)⟩
theorem lw_p2 : lw_okq (⟨"TinyCache", "writeOpenPage", "()V"⟩, 8) := ⟨⟨by decide +kernel, by decide +kernel⟩, List.mem_of_getElem? (i := 17) (by decide +kernel), List.mem_of_getElem? (i := 326) (by decide +kernel), List.mem_of_getElem? (i := 327) (by decide +kernel)⟩
theorem lw_p3 : lw_okq (⟨"TinyCache", "emptySegment", "()I"⟩, 8) := ⟨⟨by decide +kernel, by decide +kernel⟩, List.mem_of_getElem? (i := 17) (by decide +kernel), List.mem_of_getElem? (i := 334) (by decide +kernel), List.mem_of_getElem? (i := 335) (by decide +kernel)⟩
theorem lw_p4 : lw_okq (⟨"TinyCache$Index", "shrinkTo", "(I)V"⟩, 3) := ⟨⟨by decide +kernel, by decide +kernel⟩, List.mem_of_getElem? (i := 60) (by decide +kernel), List.mem_of_getElem? (i := 346) (by decide +kernel), List.mem_of_getElem? (i := 347) (by decide +kernel)⟩
theorem lw_p5 : lw_okq (⟨"TinyCache", "removeFromSet", "(JI)Z"⟩, 8) := ⟨⟨by decide +kernel, by decide +kernel⟩, List.mem_of_getElem? (i := 17) (by decide +kernel), List.mem_of_getElem? (i := 358) (by decide +kernel), List.mem_of_getElem? (i := 359) (by decide +kernel)⟩
theorem lw_p6 : lw_okq (⟨"TinyCache", "readFromSet", "(J)LTinyCache$Item;"⟩, 8) := ⟨⟨by decide +kernel, by decide +kernel⟩, List.mem_of_getElem? (i := 17) (by decide +kernel), List.mem_of_getElem? (i := 362) (by decide +kernel), List.mem_of_getElem? (i := 363) (by decide +kernel)⟩
theorem lw_p7 : lw_okq (⟨"TinyCache$Page", "placeOf", "(J)I"⟩, 4) := ⟨⟨by decide +kernel, by decide +kernel⟩, List.mem_of_getElem? (i := 29) (by decide +kernel), List.mem_of_getElem? (i := 371) (by decide +kernel), List.mem_of_getElem? (i := 372) (by decide +kernel)⟩
theorem lw_p8 : lw_okq (⟨"TinyCache$Page", "removeAt", "(I)V"⟩, 4) := ⟨⟨by decide +kernel, by decide +kernel⟩, List.mem_of_getElem? (i := 29) (by decide +kernel), List.mem_of_getElem? (i := 379) (by decide +kernel), List.mem_of_getElem? (i := 380) (by decide +kernel)⟩
theorem lw_p9 : lw_okq (⟨"TinyCache", "moveGathered", "(LTinyCache$Page;I)V"⟩, 8) := ⟨⟨by decide +kernel, by decide +kernel⟩, List.mem_of_getElem? (i := 17) (by decide +kernel), List.mem_of_getElem? (i := 384) (by decide +kernel), List.mem_of_getElem? (i := 385) (by decide +kernel)⟩
theorem lw_p10 : lw_okq (⟨"TinyCacheModel", "fail", "(I)I"⟩, 24) := ⟨⟨by decide +kernel, by decide +kernel⟩, List.mem_of_getElem? (i := 510) (by decide +kernel), List.mem_of_getElem? (i := 602) (by decide +kernel), List.mem_of_getElem? (i := 603) (by decide +kernel)⟩
theorem lw_p11 : lw_okq (⟨"TinyCacheModel", "works", "()Z"⟩, 24) := ⟨⟨by decide +kernel, by decide +kernel⟩, List.mem_of_getElem? (i := 510) (by decide +kernel), List.mem_of_getElem? (i := 610) (by decide +kernel), List.mem_of_getElem? (i := 611) (by decide +kernel)⟩
theorem lw_p12 : lw_okq (⟨"TinyCacheModel", "wordsOf", "(I)I"⟩, 24) := ⟨⟨by decide +kernel, by decide +kernel⟩, List.mem_of_getElem? (i := 510) (by decide +kernel), List.mem_of_getElem? (i := 614) (by decide +kernel), List.mem_of_getElem? (i := 615) (by decide +kernel)⟩
theorem lw_p13 : lw_okq (⟨"TinyCacheModel", "need", "(I)I"⟩, 24) := ⟨⟨by decide +kernel, by decide +kernel⟩, List.mem_of_getElem? (i := 510) (by decide +kernel), List.mem_of_getElem? (i := 618) (by decide +kernel), List.mem_of_getElem? (i := 619) (by decide +kernel)⟩
theorem lw_p14 : lw_okq (⟨"TinyCacheModel", "makeRoom", "()V"⟩, 24) := ⟨⟨by decide +kernel, by decide +kernel⟩, List.mem_of_getElem? (i := 510) (by decide +kernel), List.mem_of_getElem? (i := 622) (by decide +kernel), List.mem_of_getElem? (i := 623) (by decide +kernel)⟩
theorem lw_p15 : lw_okq (⟨"TinyCacheModel", "empty", "(I)V"⟩, 24) := ⟨⟨by decide +kernel, by decide +kernel⟩, List.mem_of_getElem? (i := 510) (by decide +kernel), List.mem_of_getElem? (i := 626) (by decide +kernel), List.mem_of_getElem? (i := 627) (by decide +kernel)⟩
def lw_privs_1 : List (MethodName × Nat) := [(⟨"java/lang/Throwable", "fillInStackTrace", "(I)Ljava/lang/Throwable;"⟩, 6), (⟨"TinyCache", "refuseWhenClosed", "()V"⟩, 8), (⟨"TinyCache", "writeOpenPage", "()V"⟩, 8), (⟨"TinyCache", "emptySegment", "()I"⟩, 8), (⟨"TinyCache$Index", "shrinkTo", "(I)V"⟩, 3), (⟨"TinyCache", "removeFromSet", "(JI)Z"⟩, 8), (⟨"TinyCache", "readFromSet", "(J)LTinyCache$Item;"⟩, 8), (⟨"TinyCache$Page", "placeOf", "(J)I"⟩, 4), (⟨"TinyCache$Page", "removeAt", "(I)V"⟩, 4), (⟨"TinyCache", "moveGathered", "(LTinyCache$Page;I)V"⟩, 8), (⟨"TinyCacheModel", "fail", "(I)I"⟩, 24), (⟨"TinyCacheModel", "works", "()Z"⟩, 24), (⟨"TinyCacheModel", "wordsOf", "(I)I"⟩, 24), (⟨"TinyCacheModel", "need", "(I)I"⟩, 24), (⟨"TinyCacheModel", "makeRoom", "()V"⟩, 24), (⟨"TinyCacheModel", "empty", "(I)V"⟩, 24)]
theorem lw_r1 : ∀ q ∈ lw_privs_1, lw_okq q := List.forall_mem_cons.mpr ⟨lw_p0, List.forall_mem_cons.mpr ⟨lw_p1, List.forall_mem_cons.mpr ⟨lw_p2, List.forall_mem_cons.mpr ⟨lw_p3, List.forall_mem_cons.mpr ⟨lw_p4, List.forall_mem_cons.mpr ⟨lw_p5, List.forall_mem_cons.mpr ⟨lw_p6, List.forall_mem_cons.mpr ⟨lw_p7, List.forall_mem_cons.mpr ⟨lw_p8, List.forall_mem_cons.mpr ⟨lw_p9, List.forall_mem_cons.mpr ⟨lw_p10, List.forall_mem_cons.mpr ⟨lw_p11, List.forall_mem_cons.mpr ⟨lw_p12, List.forall_mem_cons.mpr ⟨lw_p13, List.forall_mem_cons.mpr ⟨lw_p14, List.forall_mem_cons.mpr ⟨lw_p15, fun _ h => absurd h List.not_mem_nil⟩⟩⟩⟩⟩⟩⟩⟩⟩⟩⟩⟩⟩⟩⟩⟩
theorem lw_p16 : lw_okq (⟨"TinyCacheModel", "gatherAll", "(I)V"⟩, 24) := ⟨⟨by decide +kernel, by decide +kernel⟩, List.mem_of_getElem? (i := 510) (by decide +kernel), List.mem_of_getElem? (i := 638) (by decide +kernel), List.mem_of_getElem? (i := 639) (by decide +kernel)⟩
theorem lw_p17 : lw_okq (⟨"TinyCacheModel", "moveAll", "(I)V"⟩, 24) := ⟨⟨by decide +kernel, by decide +kernel⟩, List.mem_of_getElem? (i := 510) (by decide +kernel), List.mem_of_getElem? (i := 642) (by decide +kernel), List.mem_of_getElem? (i := 643) (by decide +kernel)⟩
theorem lw_p18 : lw_okq (⟨"TinyCacheModel", "inSet", "(J)I"⟩, 24) := ⟨⟨by decide +kernel, by decide +kernel⟩, List.mem_of_getElem? (i := 510) (by decide +kernel), List.mem_of_getElem? (i := 646) (by decide +kernel), List.mem_of_getElem? (i := 647) (by decide +kernel)⟩
theorem lw_p19 : lw_okq (⟨"TinyCacheModel", "takeOut", "(II)V"⟩, 24) := ⟨⟨by decide +kernel, by decide +kernel⟩, List.mem_of_getElem? (i := 510) (by decide +kernel), List.mem_of_getElem? (i := 650) (by decide +kernel), List.mem_of_getElem? (i := 651) (by decide +kernel)⟩
theorem lw_p20 : lw_okq (⟨"TinyCacheModel", "dropFirst", "(IZI)V"⟩, 24) := ⟨⟨by decide +kernel, by decide +kernel⟩, List.mem_of_getElem? (i := 510) (by decide +kernel), List.mem_of_getElem? (i := 654) (by decide +kernel), List.mem_of_getElem? (i := 655) (by decide +kernel)⟩
theorem lw_p21 : lw_okq (⟨"TinyCacheModel", "needAll", "(I)I"⟩, 24) := ⟨⟨by decide +kernel, by decide +kernel⟩, List.mem_of_getElem? (i := 510) (by decide +kernel), List.mem_of_getElem? (i := 658) (by decide +kernel), List.mem_of_getElem? (i := 659) (by decide +kernel)⟩
theorem lw_p22 : lw_okq (⟨"TinyCacheModel", "copy", "(I)I"⟩, 24) := ⟨⟨by decide +kernel, by decide +kernel⟩, List.mem_of_getElem? (i := 510) (by decide +kernel), List.mem_of_getElem? (i := 662) (by decide +kernel), List.mem_of_getElem? (i := 663) (by decide +kernel)⟩
theorem lw_p23 : lw_okq (⟨"TinyCacheModel", "freeNumber", "()I"⟩, 24) := ⟨⟨by decide +kernel, by decide +kernel⟩, List.mem_of_getElem? (i := 510) (by decide +kernel), List.mem_of_getElem? (i := 666) (by decide +kernel), List.mem_of_getElem? (i := 667) (by decide +kernel)⟩
theorem lw_p24 : lw_okq (⟨"TinyCacheModel", "append", "(II)V"⟩, 24) := ⟨⟨by decide +kernel, by decide +kernel⟩, List.mem_of_getElem? (i := 510) (by decide +kernel), List.mem_of_getElem? (i := 670) (by decide +kernel), List.mem_of_getElem? (i := 671) (by decide +kernel)⟩
theorem lw_p25 : lw_okq (⟨"TinyCacheModel", "alone", "(II)V"⟩, 24) := ⟨⟨by decide +kernel, by decide +kernel⟩, List.mem_of_getElem? (i := 510) (by decide +kernel), List.mem_of_getElem? (i := 674) (by decide +kernel), List.mem_of_getElem? (i := 675) (by decide +kernel)⟩
theorem lw_p26 : lw_okq (⟨"TinyCacheModel", "removeOld", "(JI)Z"⟩, 24) := ⟨⟨by decide +kernel, by decide +kernel⟩, List.mem_of_getElem? (i := 510) (by decide +kernel), List.mem_of_getElem? (i := 678) (by decide +kernel), List.mem_of_getElem? (i := 679) (by decide +kernel)⟩
theorem lw_p27 : lw_okq (⟨"TinyCacheModel", "reads", "(J)Z"⟩, 24) := ⟨⟨by decide +kernel, by decide +kernel⟩, List.mem_of_getElem? (i := 510) (by decide +kernel), List.mem_of_getElem? (i := 682) (by decide +kernel), List.mem_of_getElem? (i := 683) (by decide +kernel)⟩
theorem lw_p28 : lw_okq (⟨"TinyCacheModel", "writeOpen", "()V"⟩, 24) := ⟨⟨by decide +kernel, by decide +kernel⟩, List.mem_of_getElem? (i := 510) (by decide +kernel), List.mem_of_getElem? (i := 690) (by decide +kernel), List.mem_of_getElem? (i := 691) (by decide +kernel)⟩
theorem lw_p29 : lw_okq (⟨"TinyCacheModel", "sortAgain", "()V"⟩, 24) := ⟨⟨by decide +kernel, by decide +kernel⟩, List.mem_of_getElem? (i := 510) (by decide +kernel), List.mem_of_getElem? (i := 694) (by decide +kernel), List.mem_of_getElem? (i := 695) (by decide +kernel)⟩
theorem lw_p30 : lw_okq (⟨"TinyCacheModel", "putAnew", "(I)V"⟩, 24) := ⟨⟨by decide +kernel, by decide +kernel⟩, List.mem_of_getElem? (i := 510) (by decide +kernel), List.mem_of_getElem? (i := 698) (by decide +kernel), List.mem_of_getElem? (i := 699) (by decide +kernel)⟩
theorem lw_p31 : lw_okq (⟨"TinyCacheModel", "enter", "(I)V"⟩, 24) := ⟨⟨by decide +kernel, by decide +kernel⟩, List.mem_of_getElem? (i := 510) (by decide +kernel), List.mem_of_getElem? (i := 702) (by decide +kernel), List.mem_of_getElem? (i := 703) (by decide +kernel)⟩
def lw_privs_2 : List (MethodName × Nat) := [(⟨"TinyCacheModel", "gatherAll", "(I)V"⟩, 24), (⟨"TinyCacheModel", "moveAll", "(I)V"⟩, 24), (⟨"TinyCacheModel", "inSet", "(J)I"⟩, 24), (⟨"TinyCacheModel", "takeOut", "(II)V"⟩, 24), (⟨"TinyCacheModel", "dropFirst", "(IZI)V"⟩, 24), (⟨"TinyCacheModel", "needAll", "(I)I"⟩, 24), (⟨"TinyCacheModel", "copy", "(I)I"⟩, 24), (⟨"TinyCacheModel", "freeNumber", "()I"⟩, 24), (⟨"TinyCacheModel", "append", "(II)V"⟩, 24), (⟨"TinyCacheModel", "alone", "(II)V"⟩, 24), (⟨"TinyCacheModel", "removeOld", "(JI)Z"⟩, 24), (⟨"TinyCacheModel", "reads", "(J)Z"⟩, 24), (⟨"TinyCacheModel", "writeOpen", "()V"⟩, 24), (⟨"TinyCacheModel", "sortAgain", "()V"⟩, 24), (⟨"TinyCacheModel", "putAnew", "(I)V"⟩, 24), (⟨"TinyCacheModel", "enter", "(I)V"⟩, 24)]
theorem lw_r2 : ∀ q ∈ lw_privs_2, lw_okq q := List.forall_mem_cons.mpr ⟨lw_p16, List.forall_mem_cons.mpr ⟨lw_p17, List.forall_mem_cons.mpr ⟨lw_p18, List.forall_mem_cons.mpr ⟨lw_p19, List.forall_mem_cons.mpr ⟨lw_p20, List.forall_mem_cons.mpr ⟨lw_p21, List.forall_mem_cons.mpr ⟨lw_p22, List.forall_mem_cons.mpr ⟨lw_p23, List.forall_mem_cons.mpr ⟨lw_p24, List.forall_mem_cons.mpr ⟨lw_p25, List.forall_mem_cons.mpr ⟨lw_p26, List.forall_mem_cons.mpr ⟨lw_p27, List.forall_mem_cons.mpr ⟨lw_p28, List.forall_mem_cons.mpr ⟨lw_p29, List.forall_mem_cons.mpr ⟨lw_p30, List.forall_mem_cons.mpr ⟨lw_p31, fun _ h => absurd h List.not_mem_nil⟩⟩⟩⟩⟩⟩⟩⟩⟩⟩⟩⟩⟩⟩⟩⟩
theorem lw_p32 : lw_okq (⟨"TinyCacheModel", "newest", "(J)I"⟩, 24) := ⟨⟨by decide +kernel, by decide +kernel⟩, List.mem_of_getElem? (i := 510) (by decide +kernel), List.mem_of_getElem? (i := 706) (by decide +kernel), List.mem_of_getElem? (i := 707) (by decide +kernel)⟩
theorem lw_p33 : lw_okq (⟨"TinyCacheModel", "pageOf", "(I)I"⟩, 24) := ⟨⟨by decide +kernel, by decide +kernel⟩, List.mem_of_getElem? (i := 510) (by decide +kernel), List.mem_of_getElem? (i := 714) (by decide +kernel), List.mem_of_getElem? (i := 715) (by decide +kernel)⟩
theorem lw_p34 : lw_okq (⟨"TinyCacheModel", "tell", "(I)V"⟩, 24) := ⟨⟨by decide +kernel, by decide +kernel⟩, List.mem_of_getElem? (i := 510) (by decide +kernel), List.mem_of_getElem? (i := 718) (by decide +kernel), List.mem_of_getElem? (i := 719) (by decide +kernel)⟩
theorem lw_p35 : lw_okq (⟨"TinyCacheModel", "indexed", "()I"⟩, 24) := ⟨⟨by decide +kernel, by decide +kernel⟩, List.mem_of_getElem? (i := 510) (by decide +kernel), List.mem_of_getElem? (i := 754) (by decide +kernel), List.mem_of_getElem? (i := 755) (by decide +kernel)⟩
def lw_privs_3 : List (MethodName × Nat) := [(⟨"TinyCacheModel", "newest", "(J)I"⟩, 24), (⟨"TinyCacheModel", "pageOf", "(I)I"⟩, 24), (⟨"TinyCacheModel", "tell", "(I)V"⟩, 24), (⟨"TinyCacheModel", "indexed", "()I"⟩, 24)]
theorem lw_r3 : ∀ q ∈ lw_privs_3, lw_okq q := List.forall_mem_cons.mpr ⟨lw_p32, List.forall_mem_cons.mpr ⟨lw_p33, List.forall_mem_cons.mpr ⟨lw_p34, List.forall_mem_cons.mpr ⟨lw_p35, fun _ h => absurd h List.not_mem_nil⟩⟩⟩⟩
def lw_privs : List (MethodName × Nat) := lw_privs_1 ++ (lw_privs_2 ++ (lw_privs_3))
def lw_tbl : List Cond := k2_sels lw_privs ++ tables_1
theorem lw_privs_ok : ∀ q ∈ lw_privs, lw_okq q := by
  show ∀ q ∈ lw_privs_1 ++ (lw_privs_2 ++ (lw_privs_3)), lw_okq q
  exact List.forall_mem_append.mpr ⟨lw_r1, List.forall_mem_append.mpr ⟨lw_r2, lw_r3⟩⟩
-- ===== end of PART A; then your names; then what follows =====
end
section
/-! ===== BEGIN words of one list among another's, by their places ===== -/
theorem goodIn_r {big : List Cond} (ws : List Cond) (ps : List Nat) (hp : ws = ps.filterMap (fun i => big[i]?)) (h : ws.all goodWord = true) : GoodIn big ws := by
  intro w hw
  have h1 := List.all_eq_true.mp h w hw
  rw [hp] at hw
  obtain ⟨i, -, hi⟩ := List.mem_filterMap.mp hw
  have hm : w ∈ big := by first | exact List.mem_of_getElem? hi | exact List.getElem?_mem hi
  exact ⟨hm, good_of_word h1⟩
theorem goodIn_app {big a b : List Cond} (ha : GoodIn big a) (hb : GoodIn big b) : GoodIn big (a ++ b) := fun w h => (List.mem_append.mp h).elim (ha w) (hb w)
theorem goodIn_ca {big a b : List Cond} {c : Cond} (ha : GoodIn big (c :: a)) (hb : GoodIn big b) : GoodIn big (c :: (a ++ b)) := fun w h => (List.mem_cons.mp h).elim (fun e => ha w (List.mem_cons.mpr (Or.inl e))) (fun h => (List.mem_append.mp h).elim (fun h => ha w (List.mem_cons.mpr (Or.inr h))) (hb w))
theorem goodIn_sub {big ws : List Cond} (hm : ∀ w ∈ ws, w ∈ big) (h : ws.all goodWord = true) : GoodIn big ws := fun w hw => ⟨hm w hw, good_of_word (List.all_eq_true.mp h w hw)⟩
/-! ===== END ===== -/

/-! ===== BEGIN exceptions that leave a method, and their catching by the caller (launches without stack traces) ===== -/
section VXA
/-! The laws vx_back, vx_callV, vx_callS, vx_callSW, vx_throw0, vx_throwS follow proofs of the library, with one case more: JvmDerived/Free/Laws.lean (Back.of_free), Shelf42/LK1.lean (callV, callS), Shelf/KitTraced.lean (throwNew0V, throwNewS). -/
/-- where a method has thrown q: the class by its name, the cell, what was written, the world -/
def vx_T (XC : String → State → State → Prop) (st : State) (q : Addr) (t : State) (mc ms : Nat) (free : Addr → Prop) : Prop :=
  ∃ (E : String) (ce : Cell) (L : List Loc), XC E st t ∧ t.heap[q]? = some ce ∧ ce.vm = .none ∧ st.vm.findClass E = some ce.cls ∧ st.WarmedH t.vm ∧ st.sameButNew ({ t with vm := st.vm } : State) L mc ms ∧ ∀ z ∈ L, free z.base
def vx_Q (Qc : Array Value → State → Outcome → State → Prop) (XC : String → State → State → Prop) (mc ms : Nat) (free : Addr → Prop) : Array Value → State → Outcome → State → Prop := fun a st o t =>
  (Qc a st o t ∧ ∃ L, FrameEnd st o t L mc ms ∧ ∀ q ∈ L, free q.base) ∨ ∃ q, o = .threw q ∧ vx_T XC st q t mc ms free
/-- a callee that returns or throws -/
def vx_Met (l : Launch) (y : MethodName) (ws : List Cond) (rm : Room) (Pc : Array Value → State → Prop) (Qc : Array Value → State → Outcome → State → Prop) (XC : String → State → State → Prop) (mc ms : Nat) (free : Addr → Prop) : Prop :=
  MetFree l y (headSpec ws rm) Pc (fun _ _ _ _ _ => True) (vx_Q Qc XC mc ms free)
def vx_Post (XC : String → State → State → Prop) (mc ms : Nat) (free : Addr → Prop) : Pt → Array Value → Addr → Pt → Prop := fun A a q B =>
  ∃ (g : JFrame) (mk : MethodId) (t : State) (L : List Loc) (E : String) (ce : Cell), B.U.heap = t.heap ∧ B.U.vm = t.vm ∧ XC E (A.U.calling g mk a) t ∧ t.heap[q]? = some ce ∧ ce.vm = .none ∧ A.U.vm.findClass E = some ce.cls ∧ B.locs = A.locs ++ L ∧ (∀ z ∈ L, free z.base) ∧ B.cells = A.cells + mc ∧ B.slots = A.slots + ms
def vx_Back (l : Launch) (R : Room) (p : Program) (e : Env) (below : List Frame) (s : State) (sargs : Array Value) (y : MethodName) (len W9 : Nat)
    (Pre : Pt → Array Value → Prop) (Post : Pt → Array Value → Option Value → Pt → Prop) (PostX : Pt → Array Value → Addr → Pt → Prop) : Prop :=
  ∀ (m : MethodId) (meth : Method) (c : Code) (A : Pt) (g : JFrame) (ig : Instr) (mk : MethodId) (a : Array Value),
    Stand p l e R s m sargs below meth c A.U A.locs A.cells A.slots → g.method = m → g.locals.size = c.maxLocals → decode c.code g.pc = .ok (ig, len) →
    2 * g.monitorRoom + (g.stack.map fun v => v.category).sum ≤ W9 → A.U.methodNamed? y = some mk → Pre A a →
    (∃ (v : Option Value) (B : Pt), Stand p l e R s m sargs below meth c B.U B.locs B.cells B.slots ∧ Post A a v B ∧
      Steps p.tables e below (doInvoke e (A.U.setTop g) [] mk a).1 (B.U.setTop { g with pc := g.pc + len, stack := v.toList ++ g.stack })) ∨
    (∃ (q : Addr) (B : Pt), Stand p l e R s m sargs below meth c B.U B.locs B.cells B.slots ∧ PostX A a q B ∧
      Steps p.tables e below (doInvoke e (A.U.setTop g) [] mk a).1 ((B.U.setTop g).pushFrame (.throwing q)))
section Payer
variable {l : Launch} {R : Room} {p : Program} {e : Env} {below : List Frame} {s : State} {sargs : Array Value} {y : MethodName} {len W9 : Nat}
theorem vx_back {ws : List Cond} {rm : Room} {Pc : Array Value → State → Prop} {Qc : Array Value → State → Outcome → State → Prop} {XC : String → State → State → Prop} {mc ms : Nat} {free : Addr → Prop} {bytes : ByteArray} {maxL : Nat} {ret : Option FieldType}
    (hM : vx_Met l y ws rm Pc Qc XC mc ms free) (hblind : FrameBlind Pc) (hrc : rm.cells = mc) (hrs : rm.slots = ms)
    (hframes : rm.frames + 1 ≤ R.frames) (hlocals : W9 + (maxL + 11) + rm.locals ≤ R.locals)
    (hws : ∀ w ∈ ws, ∀ a' U, s.WarmedH U.vm → w.before a' U = true) (hcode : Cond.code y bytes maxL ret ∈ ws) (hinit : ∀ a' U, s.WarmedH U.vm → (Cond.initialized y.cls).before a' U = true) :
    vx_Back l R p e below s sargs y len W9 (PreOf R mc ms Pc) (PostOf Qc mc ms free) (vx_Post XC mc ms free) := by
  intro m meth c A g ig mk a X hg hsize hdg hW hn hp
  have h1 : (headSpec ws rm).pre.before a A.U = true := atoms_intro fun w hw => hws w hw _ _ X.warmed
  have h2 : (Cond.code y bytes maxL ret).before a A.U = true := hws _ hcode _ _ X.warmed
  have h3 : (Cond.initialized y.cls).before a A.U = true := hinit _ _ X.warmed
  have h4 : A.cells + (headSpec ws rm).room.cells ≤ R.cells := by rw [show (headSpec ws rm).room.cells = mc from hrc]; exact hp.1
  have h5 : A.slots + (headSpec ws rm).room.slots ≤ R.slots := by rw [show (headSpec ws rm).room.slots = ms from hrs]; exact hp.2.1
  have hPc : Pc a (A.U.calling g mk a) := hblind _ _ _ _ hp.2.2
  obtain ⟨U, Ls, c0, s0⟩ := A
  dsimp only [Pt.U, Pt.locs, Pt.cells, Pt.slots] at h1 h2 h3 h4 h5 X hn hPc ⊢
  obtain ⟨methY, cY, hmY, hcY, -, hlY, -, -, -, -⟩ := Cond.code_spec hn h2
  obtain ⟨kY, hkY, -⟩ := className_of_methodNamed hn
  have hinitY : kY.init = .initialized := Cond.initialized_spec (findClass_of_methodNamed hn) hkY h3
  have h : At U g.method c below := by rw [hg]; exact X.here
  have hlocals9 : W9 + (maxL + 11) + (headSpec ws rm).room.locals ≤ R.locals := hlocals
  have happ : (headSpec ws rm).appliesLoose y e.platform (U.calling g mk a) = true :=
    Spec.appliesLoose_calling (g := g) h hdg hn hkY hinitY
      (X.room_calling (g := g) (R' := (headSpec ws rm).room) hsize hmY hcY hframes (by rw [hlY]; omega) h4 h5) h1
  obtain ⟨mid, hmid⟩ := h.above
  have hfr : (U.setTop g).frames = (.java g :: mid) ++ below := by rw [State.frames_setTop' g h.top, hmid]; rfl
  obtain ⟨o, s₂, hsteps, -, hend, hq⟩ := Steps.callFree hM p X.admits X.cas X.clock (acts := []) hfr happ hPc trivial
  have hq' : vx_Q Qc XC mc ms free a (U.calling g mk a) o s₂ := hq
  rw [State.frames_setTop' g h.top] at hend
  obtain ⟨g₀, hg0⟩ := Option.isSome_iff_exists.mp h.top
  obtain ⟨r, hr⟩ := State.topJava?_eq_some.mp hg0
  have hr' : (({ U with heap := s₂.heap, slotsUsed := s₂.slotsUsed } : State).setVm s₂.vm).frames = .java g₀ :: r := hr
  rcases hq' with ⟨hqc, L, hfe, hL⟩ | ⟨q, rfl, E, ce, L, hx, hce, hcv, hcl, hW₂, hsm, hL⟩
  · obtain ⟨⟨v, rfl⟩, hW₂, e2, q2, q3, q4, q5, q6⟩ := id hfe
    have e3 : s₂ = ({ (U.calling g mk a).setFrames s₂.frames with heap := s₂.heap, slotsUsed := s₂.slotsUsed } : State).setVm s₂.vm := by
      have : s₂ = ({ s₂ with vm := (U.calling g mk a).vm } : State).setVm s₂.vm := rfl
      rw [e2] at this
      exact this
    obtain ⟨c₂, i₂, len₂, hc₂, hd₂, hf₂⟩ := hend
    have hW' : U.WarmedH s₂.vm := hW₂
    have hcc : c₂ = c := by
      have h1 : s₂.code? g.method = U.code? g.method := by
        rw [State.code?_eq, State.code?_eq, hW'.alike.method?]
      exact Option.some.inj (hc₂.symm.trans (h1.trans h.code))
    subst hcc
    have hlen : len₂ = len := by rw [hdg] at hd₂; cases hd₂; rfl
    subst hlen
    have hs₂ : s₂ = (({ U with heap := s₂.heap, slotsUsed := s₂.slotsUsed } : State).setVm s₂.vm).setTop { g with pc := g.pc + len₂, stack := v.toList ++ g.stack } := by
      refine e3.trans ?_
      rw [hf₂, State.calling_eq h.top, State.setFrames_setFrames, State.setTop_of_frames _ hr', hr]
      rfl
    have hsame : U.sameButNew ({ U with heap := s₂.heap, slotsUsed := s₂.slotsUsed } : State) L mc ms := by
      refine ⟨?_, q2, q3, q4, q5, q6⟩
      obtain ⟨t, ht, -⟩ := State.frames_cons hr
      show ({ U with heap := s₂.heap, slotsUsed := s₂.slotsUsed } : State) = { U.setFrames U.frames with heap := s₂.heap, slotsUsed := s₂.slotsUsed }
      rw [State.setFrames_self ht]
    subst hg
    refine Or.inl ⟨v, ⟨(({ U with heap := s₂.heap, slotsUsed := s₂.slotsUsed } : State).setVm s₂.vm), Ls ++ L, c0 + mc, s0 + ms⟩,
      ⟨X.admits, X.cas, X.clock, X.frames, X.room, X.hears, X.method, X.code, (X.here.setHeapUsed s₂.heap s₂.slotsUsed).setVm hW'.alike, X.tail, State.WarmedH.trans X.warmed hW', X.limits, X.bytes, X.same.trans (hsame.setVm s.vm)⟩,
      ⟨g, mk, s₂, L, rfl, rfl, hqc, rfl, hL, rfl, rfl⟩, ?_⟩
    show Steps p.tables e below _ ((({ U with heap := s₂.heap, slotsUsed := s₂.slotsUsed } : State).setVm s₂.vm).setTop { g with pc := g.pc + len₂, stack := v.toList ++ g.stack })
    rw [← hs₂]
    exact hsteps
  · obtain ⟨e2, q2, q3, q4, q5, q6⟩ := id hsm
    have e3 : s₂ = ({ (U.calling g mk a).setFrames s₂.frames with heap := s₂.heap, slotsUsed := s₂.slotsUsed } : State).setVm s₂.vm := by
      have : s₂ = ({ s₂ with vm := (U.calling g mk a).vm } : State).setVm s₂.vm := rfl
      rw [e2] at this
      exact this
    have hf₂ : s₂.frames = .throwing q :: .java g :: U.frames.tail := hend
    have hW' : U.WarmedH s₂.vm := hW₂
    have hs₂ : s₂ = ((({ U with heap := s₂.heap, slotsUsed := s₂.slotsUsed } : State).setVm s₂.vm).setTop g).pushFrame (.throwing q) := by
      refine e3.trans ?_
      rw [hf₂, State.calling_eq h.top, State.setFrames_setFrames, State.pushFrame, State.frames_setTop _ hr', State.setTop_of_frames _ hr', State.setFrames_setFrames, hr]
      rfl
    have hsame : U.sameButNew ({ U with heap := s₂.heap, slotsUsed := s₂.slotsUsed } : State) L mc ms := by
      refine ⟨?_, q2, q3, q4, q5, q6⟩
      obtain ⟨t, ht, -⟩ := State.frames_cons hr
      show ({ U with heap := s₂.heap, slotsUsed := s₂.slotsUsed } : State) = { U.setFrames U.frames with heap := s₂.heap, slotsUsed := s₂.slotsUsed }
      rw [State.setFrames_self ht]
    subst hg
    refine Or.inr ⟨q, ⟨(({ U with heap := s₂.heap, slotsUsed := s₂.slotsUsed } : State).setVm s₂.vm), Ls ++ L, c0 + mc, s0 + ms⟩,
      ⟨X.admits, X.cas, X.clock, X.frames, X.room, X.hears, X.method, X.code, (X.here.setHeapUsed s₂.heap s₂.slotsUsed).setVm hW'.alike, X.tail, State.WarmedH.trans X.warmed hW', X.limits, X.bytes, X.same.trans (hsame.setVm s.vm)⟩,
      ⟨g, mk, s₂, L, E, ce, rfl, rfl, hx, hce, hcv, hcl, rfl, hL, rfl, rfl⟩, ?_⟩
    show Steps p.tables e below _ (((({ U with heap := s₂.heap, slotsUsed := s₂.slotsUsed } : State).setVm s₂.vm).setTop g).pushFrame (.throwing q))
    rw [← hs₂]
    exact hsteps
end Payer
section Calls
variable {p : Program} {l : Launch} {e : Env} {R : Room} {s : State} {m : MethodId} {args : Array Value} {below : List Frame} {meth : Method} {c : Code} {T : State} {locs : List Loc} {cells slots : Nat}
theorem vx_callV (X : Stand p l e R s m args below meth c T locs cells slots) (hexec : p.tables.exec = Jvm.exec) {own C : String} {index : Nat} {y : MethodName} {bytes : ByteArray} {maxL : Nat} {ret : Option FieldType}
    (hown : s.vm.findClass own = some m.cls) (hlink : (Cond.methodLink own index y).before args s = true) (hinst : (Cond.instanceMethod y).before args s = true) (hsel : (Cond.selects C y y).before args s = true)
    (hcode : (Cond.code y bytes maxL ret).before args s = true) (hy : y.cls ≠ "java/lang/invoke/MethodHandle" ∧ y.cls ≠ "java/lang/invoke/VarHandle")
    {W9 : Nat} {Pre : Pt → Array Value → Prop} {Post : Pt → Array Value → Option Value → Pt → Prop} {PostX : Pt → Array Value → Addr → Pt → Prop} (hK : vx_Back l R p e below s args y 3 W9 Pre Post PostX)
    {b : Addr} {cellB : Cell} (hcell : T.heap[b]? = some cellB) (hobj : cellB.vm.isStatics = false) (hcls : s.vm.findClass C = some cellB.cls)
    {g : JFrame} (hg : g.method = m) (hsize : g.locals.size = c.maxLocals) {argsL rest : List Value} (hlen : ∀ sig, parseMethodDescriptor y.desc = some sig → argsL.length = sig.parameters.length)
    (hstack : g.stack = argsL.reverse ++ .ref b :: rest) (hW : 2 * g.monitorRoom + (rest.map fun v => v.category).sum ≤ W9) (hdg : decode c.code g.pc = .ok (.invokevirtual index, 3))
    (hpre : ∀ vm₁, s.WarmedH vm₁ → Pre ⟨T.setVm vm₁, locs, cells, slots⟩ (Value.ref b :: argsL).toArray) :
    (∃ (v : Option Value) (vm₁ : Vm) (B : Pt), s.WarmedH vm₁ ∧ Stand p l e R s m args below meth c B.U B.locs B.cells B.slots ∧ Post ⟨T.setVm vm₁, locs, cells, slots⟩ (Value.ref b :: argsL).toArray v B ∧
      ∀ target, Steps p.tables e below (B.U.setTop { g with pc := g.pc + 3, stack := v.toList ++ rest }) target → Steps p.tables e below (T.setTop g) target) ∨
    (∃ (q : Addr) (vm₁ : Vm) (B : Pt), s.WarmedH vm₁ ∧ Stand p l e R s m args below meth c B.U B.locs B.cells B.slots ∧ PostX ⟨T.setVm vm₁, locs, cells, slots⟩ (Value.ref b :: argsL).toArray q B ∧
      Steps p.tables e below (T.setTop g) ((B.U.setTop { g with stack := rest }).pushFrame (.throwing q))) := by
  obtain ⟨mk, methM, hnamed, hmethM, hstM, habM⟩ := Cond.instanceMethod_spec hinst
  obtain ⟨methM', cM, hmethM', -, -, -, -, -, -, hsigM⟩ := Cond.code_spec hnamed hcode
  cases hmethM.symm.trans hmethM'
  obtain ⟨c2, r2, m2, q1, q2, q3, q4, kP, hkP, hkPi⟩ := Cond.selects_spec hsel
  cases hcls.symm.trans q1
  cases (State.methodFound?_of_named hnamed hy).symm.trans q2
  cases hnamed.symm.trans q3
  have hselP : selectMethod e.platform s.vm cellB.cls mk = .method mk := by rw [Launch.admits_selectMethod X.admits]; exact q4
  obtain ⟨vm₁, X₁, hstep₁⟩ := X.invokevirtual hexec hown hlink hnamed hmethM hstM hkP hkPi hy (a := b) (cell := cellB) hcell
    (fun z h => by rw [h] at hobj; cases hobj) hselP hmethM habM hkP hkPi (g := g) hg (argsL := argsL) (rest := rest) (hlen _ hsigM) hstack hdg
  rcases hK m meth c ⟨T.setVm vm₁, locs, cells, slots⟩ { g with stack := rest } (.invokevirtual index) mk (Value.ref b :: argsL).toArray X₁ hg hsize hdg hW (X₁.named hnamed) (hpre vm₁ X₁.warmed) with ⟨v, B, X', hpost, hsteps⟩ | ⟨q, B, X', hpost, hsteps⟩
  · exact Or.inl ⟨v, vm₁, B, X₁.warmed, X', hpost, fun target h => hstep₁ _ fun acts => by rw [doInvoke_state]; exact hsteps.trans h⟩
  · exact Or.inr ⟨q, vm₁, B, X₁.warmed, X', hpost, hstep₁ _ fun acts => by rw [doInvoke_state]; exact hsteps⟩
theorem vx_callS (X : Stand p l e R s m args below meth c T locs cells slots) (hexec : p.tables.exec = Jvm.exec) {own : String} {index : Nat} {y : MethodName} {bytes : ByteArray} {maxL : Nat} {ret : Option FieldType}
    (hown : s.vm.findClass own = some m.cls) (hlink : (Cond.methodLink own index y).before args s = true) (hstat : (Cond.static y).before args s = true) (hinit : (Cond.initialized y.cls).before args s = true)
    (hcode : (Cond.code y bytes maxL ret).before args s = true) (hy : y.cls ≠ "java/lang/invoke/MethodHandle" ∧ y.cls ≠ "java/lang/invoke/VarHandle")
    {W9 : Nat} {Pre : Pt → Array Value → Prop} {Post : Pt → Array Value → Option Value → Pt → Prop} {PostX : Pt → Array Value → Addr → Pt → Prop} (hK : vx_Back l R p e below s args y 3 W9 Pre Post PostX)
    {g : JFrame} (hg : g.method = m) (hsize : g.locals.size = c.maxLocals) {argsL rest : List Value} (hlen : ∀ sig, parseMethodDescriptor y.desc = some sig → argsL.length = sig.parameters.length)
    (hstack : g.stack = argsL.reverse ++ rest) (hW : 2 * g.monitorRoom + (rest.map fun v => v.category).sum ≤ W9) (hdg : decode c.code g.pc = .ok (.invokestatic index, 3))
    (hpre : ∀ vm₁, s.WarmedH vm₁ → Pre ⟨T.setVm vm₁, locs, cells, slots⟩ argsL.toArray) :
    (∃ (v : Option Value) (vm₁ : Vm) (B : Pt), s.WarmedH vm₁ ∧ Stand p l e R s m args below meth c B.U B.locs B.cells B.slots ∧ Post ⟨T.setVm vm₁, locs, cells, slots⟩ argsL.toArray v B ∧
      ∀ target, Steps p.tables e below (B.U.setTop { g with pc := g.pc + 3, stack := v.toList ++ rest }) target → Steps p.tables e below (T.setTop g) target) ∨
    (∃ (q : Addr) (vm₁ : Vm) (B : Pt), s.WarmedH vm₁ ∧ Stand p l e R s m args below meth c B.U B.locs B.cells B.slots ∧ PostX ⟨T.setVm vm₁, locs, cells, slots⟩ argsL.toArray q B ∧
      Steps p.tables e below (T.setTop g) ((B.U.setTop { g with stack := rest }).pushFrame (.throwing q))) := by
  obtain ⟨mk, hnamed⟩ := Cond.code_named hcode
  obtain ⟨methM, cM, hmethM, -, -, -, -, -, -, hsigM⟩ := Cond.code_spec hnamed hcode
  have hstatic : methM.isStatic = true := Cond.static_spec hnamed hmethM hstat
  obtain ⟨kP, hkP, -⟩ := className_of_methodNamed hnamed
  have hinitP : kP.init = .initialized := Cond.initialized_spec (findClass_of_methodNamed hnamed) hkP hinit
  obtain ⟨vm₁, X₁, hstep₁⟩ := X.invokestatic hexec hown hlink hnamed hmethM hstatic hkP hinitP hy (g := g) hg (argsL := argsL) (rest := rest) (hlen _ hsigM) hstack hdg
  rcases hK m meth c ⟨T.setVm vm₁, locs, cells, slots⟩ { g with stack := rest } (.invokestatic index) mk argsL.toArray X₁ hg hsize hdg hW (X₁.named hnamed) (hpre vm₁ X₁.warmed) with ⟨v, B, X', hpost, hsteps⟩ | ⟨q, B, X', hpost, hsteps⟩
  · exact Or.inl ⟨v, vm₁, B, X₁.warmed, X', hpost, fun target h => hstep₁ _ fun acts => by rw [doInvoke_state]; exact hsteps.trans h⟩
  · exact Or.inr ⟨q, vm₁, B, X₁.warmed, X', hpost, hstep₁ _ fun acts => by rw [doInvoke_state]; exact hsteps⟩
end Calls
theorem vx_cls {s : State} {T : State} {vm₁ : Vm} {E : String} {k : ClassId} (hW : s.WarmedH vm₁) (h : (T.setVm vm₁).vm.findClass E = some k) : s.vm.findClass E = some k := by
  have h1 : vm₁.findClass E = some k := h
  rw [hW.alike.findClass] at h1
  exact h1
/-- the method's frame g, with q thrown over it -/
def vx_W (p : Program) (l : Launch) (e : Env) (R : Room) (s : State) (m : MethodId) (args : Array Value) (below : List Frame) (meth : Method) (c : Code) (H : Heap) (locs : List Loc) (cells slots : Nat) (Q : State → Prop) (g : JFrame) (q : Addr) : Prop :=
  ∀ T : State, T.heap = H → Stand p l e R s m args below meth c T locs cells slots → ∃ t, Steps p.tables e below ((T.setTop g).pushFrame (.throwing q)) t ∧ Q t
def vx_Run (p : Program) (l : Launch) (e : Env) (R : Room) (s : State) (m : MethodId) (args : Array Value) (below : List Frame) (meth : Method) (c : Code) (H : Heap) (locs : List Loc) (cells slots mc ms : Nat) (g : JFrame) (rest : List Value) (Qa : State → Outcome → State → Prop) (XC : String → State → State → Prop) (free : Addr → Prop) : Prop :=
  ∀ T : State, T.heap = H → Stand p l e R s m args below meth c T locs cells slots →
    (∃ (v : Option Value) (st₀ t T' : State) (L : List Loc), st₀.heap = H ∧ Stand p l e R s m args below meth c T' (locs ++ L) (cells + mc) (slots + ms) ∧ (∀ q ∈ L, free q.base) ∧ T'.heap = t.heap ∧ T'.vm = t.vm ∧ Qa st₀ (.returned v) t ∧
      Goes p e below T g T' { g with pc := g.pc + 3, stack := v.toList ++ rest }) ∨
    (∃ (q : Addr) (st₀ t T' : State) (L : List Loc) (E : String) (ce : Cell), st₀.heap = H ∧ Stand p l e R s m args below meth c T' (locs ++ L) (cells + mc) (slots + ms) ∧ (∀ z ∈ L, free z.base) ∧ T'.heap = t.heap ∧ T'.vm = t.vm ∧ XC E st₀ t ∧ t.heap[q]? = some ce ∧ ce.vm = .none ∧ s.vm.findClass E = some ce.cls ∧
      Steps p.tables e below (T.setTop g) ((T'.setTop { g with stack := rest }).pushFrame (.throwing q)))
def vx_X {S : Type} (px : S → Prop) (B : String → S → State → Prop) (A : Nat → Prop) : String → State → State → Prop := fun E st t => ∃ u : S, px u ∧ B E u t ∧ va_F A st t
section Runs
variable {p : Program} {l : Launch} {e : Env} {R : Room} {s : State} {m : MethodId} {args : Array Value} {below : List Frame} {meth : Method} {c : Code} {H : Heap} {locs : List Loc} {cells slots : Nat}
variable {y : MethodName} {bytes cc : ByteArray} {maxL nL mc ms n index : Nat} {ret : Option FieldType} {ws : List Cond} {rm : Room} {Pc : Array Value → State → Prop} {Qc : Array Value → State → Outcome → State → Prop} {XC : String → State → State → Prop} {free : Addr → Prop} {Ts : List Cond} {own C : String} {b : Addr} {As rest : List Value} {g : JFrame}
theorem vx_callBack (cb : CallB R s args own index y bytes maxL ret ws rm mc ms n) (hM : vx_Met l y ws rm Pc Qc XC mc ms free) (hbl : FrameBlind Pc) : vx_Back l R p e below s args y 3 8 (PreOf R mc ms Pc) (PostOf Qc mc ms free) (vx_Post XC mc ms free) := by
  obtain ⟨hrc, hrs, hfr, hlo, hws, hcw, -, hini, -⟩ := cb
  exact vx_back (bytes := bytes) (maxL := maxL) (ret := ret) hM hbl hrc hrs hfr hlo hws hcw (fun a' U hW => word_at hW (Or.inl (by first | rfl | simp [Cond.onTables, Cond.keeps, Cond.steady])) hini)
theorem vx_runV (S : CallFix p m c cc nL s args Ts own) (hM : vx_Met l y ws rm Pc Qc XC mc ms free) (cw : CallW R s args own C index y bytes maxL ret ws rm mc ms n) (hp : PreV s H C b Pc As)
    (hg : g.method = m) (hn : As.length = n) (hsize : g.locals.size = nL) (hstack : g.stack = As.reverse ++ .ref b :: rest) (hW : 2 * g.monitorRoom + (rest.map fun v => v.category).sum ≤ 8) (hdg : decode cc g.pc = .ok (.invokevirtual index, 3)) (hf : cells + mc ≤ R.cells ∧ slots + ms ≤ R.slots) :
    vx_Run p l e R s m args below meth c H locs cells slots mc ms g rest (Qc (Value.ref b :: As).toArray) XC free := by
  have hK : vx_Back l R p e below s args y 3 8 (PreOf R mc ms Pc) (PostOf Qc mc ms free) (vx_Post XC mc ms free) := vx_callBack cw.1 hM hp.1
  obtain ⟨⟨-, -, -, -, -, -, hcode, -, hy, hlen, hl⟩, hin, hse⟩ := cw
  obtain ⟨hx, hb, hml, ho, -⟩ := S
  obtain ⟨-, ⟨cellB, hcB, hoB, hclB⟩, hPc⟩ := hp
  intro T hT X
  rcases vx_callV X hx (C := C) (bytes := bytes) (maxL := maxL) (ret := ret) ho hl hin hse hcode hy hK (by rw [hT]; exact hcB) hoB hclB hg (hsize.trans hml.symm) (argsL := As) (rest := rest) (fun sig h => hn.trans (hlen sig h)) hstack hW (by rw [hb]; exact hdg)
    (fun vm₁ hW₁ => ⟨hf.1, hf.2, hPc (T.setVm vm₁) hT hW₁⟩) with ⟨v, vm₁, ⟨U', l2, c2, s2⟩, hW₁, X', ⟨g', mk, t, L, e1, e2, hq, h1, hL, h2, h3⟩, st⟩ | ⟨q, vm₁, ⟨U', l2, c2, s2⟩, hW₁, X', ⟨g', mk, t, L, E, ce, e1, e2, hq, hce, hcv, hcl, h1, hL, h2, h3⟩, st⟩
  · dsimp only [Pt.U, Pt.locs, Pt.cells, Pt.slots] at X' e1 e2 h1 h2 h3 st
    subst h1; subst h2; subst h3
    exact Or.inl ⟨v, (T.setVm vm₁).calling g' mk (Value.ref b :: As).toArray, t, U', L, hT, X', hL, e1, e2, hq, st⟩
  · dsimp only [Pt.U, Pt.locs, Pt.cells, Pt.slots] at X' e1 e2 h1 h2 h3 st hcl
    subst h1; subst h2; subst h3
    exact Or.inr ⟨q, (T.setVm vm₁).calling g' mk (Value.ref b :: As).toArray, t, U', L, E, ce, hT, X', hL, e1, e2, hq, hce, hcv, vx_cls hW₁ hcl, st⟩
theorem vx_runS (S : CallFix p m c cc nL s args Ts own) (hM : vx_Met l y ws rm Pc Qc XC mc ms free) (cw : CallB R s args own index y bytes maxL ret ws rm mc ms n ∧ (Cond.static y).before args s = true) (hp : PreS s H Pc As)
    (hg : g.method = m) (hn : As.length = n) (hsize : g.locals.size = nL) (hstack : g.stack = As.reverse ++ rest) (hW : 2 * g.monitorRoom + (rest.map fun v => v.category).sum ≤ 8) (hdg : decode cc g.pc = .ok (.invokestatic index, 3)) (hf : cells + mc ≤ R.cells ∧ slots + ms ≤ R.slots) :
    vx_Run p l e R s m args below meth c H locs cells slots mc ms g rest (Qc As.toArray) XC free := by
  have hK : vx_Back l R p e below s args y 3 8 (PreOf R mc ms Pc) (PostOf Qc mc ms free) (vx_Post XC mc ms free) := vx_callBack cw.1 hM hp.1
  obtain ⟨⟨-, -, -, -, -, -, hcode, hini, hy, hlen, hl⟩, hstt⟩ := cw
  obtain ⟨hx, hb, hml, ho, -⟩ := S
  intro T hT X
  rcases vx_callS X hx (bytes := bytes) (maxL := maxL) (ret := ret) ho hl hstt hini hcode hy hK hg (hsize.trans hml.symm) (argsL := As) (rest := rest) (fun sig h => hn.trans (hlen sig h)) hstack hW (by rw [hb]; exact hdg)
    (fun vm₁ hW₁ => ⟨hf.1, hf.2, hp.2 (T.setVm vm₁) hT hW₁⟩) with ⟨v, vm₁, ⟨U', l2, c2, s2⟩, hW₁, X', ⟨g', mk, t, L, e1, e2, hq, h1, hL, h2, h3⟩, st⟩ | ⟨q, vm₁, ⟨U', l2, c2, s2⟩, hW₁, X', ⟨g', mk, t, L, E, ce, e1, e2, hq, hce, hcv, hcl, h1, hL, h2, h3⟩, st⟩
  · dsimp only [Pt.U, Pt.locs, Pt.cells, Pt.slots] at X' e1 e2 h1 h2 h3 st
    subst h1; subst h2; subst h3
    exact Or.inl ⟨v, (T.setVm vm₁).calling g' mk As.toArray, t, U', L, hT, X', hL, e1, e2, hq, st⟩
  · dsimp only [Pt.U, Pt.locs, Pt.cells, Pt.slots] at X' e1 e2 h1 h2 h3 st hcl
    subst h1; subst h2; subst h3
    exact Or.inr ⟨q, (T.setVm vm₁).calling g' mk As.toArray, t, U', L, E, ce, hT, X', hL, e1, e2, hq, hce, hcv, vx_cls hW₁ hcl, st⟩
end Runs
section Rows
variable {p : Program} {l : Launch} {e : Env} {R : Room} {s : State} {m : MethodId} {args : Array Value} {below : List Frame} {meth : Method} {c : Code} {H : Heap} {locs : List Loc} {cells slots : Nat} {Q : State → Prop}
variable {mc ms : Nat} {free : Addr → Prop} {A0 A1 : Nat → Prop} {H0 : Heap} {a : Array Value} {pc : Nat} {ls : Array Slot} {st0 rest : List Value}
theorem vx_keep {st₀ t T' : State} {L : List Loc} (h0 : st₀.heap = H) (e1 : T'.heap = t.heap) (hS : va_S A0 H0 H locs) (hA : ∀ q, q < H.size → A1 q → A0 q) (hf : ∀ q, free q → A0 q) (hL : ∀ q ∈ L, free q.base) (hF : va_F A1 st₀ t) :
    H.size ≤ T'.heap.size ∧ (∀ q : Nat, q < H.size → ¬ A1 q → T'.heap[q]? = H[q]?) ∧ va_S A0 H0 T'.heap (locs ++ L) := by
  obtain ⟨hz, hk⟩ := hF
  rw [h0] at hz hk
  exact ⟨by rw [e1]; exact hz, fun q h1 h2 => by rw [e1]; exact hk q h1 h2,
    ⟨Nat.le_trans hS.1 (by rw [e1]; exact hz), fun q h1 h2 => by rw [e1, hk q (Nat.lt_of_lt_of_le h1 hS.1) (fun z => h2 (hA q (Nat.lt_of_lt_of_le h1 hS.1) z))]; exact hS.2.1 q h1 h2, fun q hq => by
      rcases List.mem_append.mp hq with h | h
      · exact hS.2.2 q h
      · exact hf _ (hL q h)⟩⟩
theorem vx_calli {S SX : Type} {post : Int32 → S → Prop} {px : SX → Prop} {B : S → State → Prop} {BX : String → SX → State → Prop} {AX : Nat → Prop} (hr : vx_Run p l e R s m args below meth c H locs cells slots mc ms (F0 m pc ls st0) rest (va_Qi post B A1 a) (vx_X px BX AX) free) (hS : va_S A0 H0 H locs) (hA : ∀ q, q < H.size → A1 q → A0 q) (hf : ∀ q, free q → A0 q) (hAX : ∀ q, q < H.size → AX q → A0 q)
    (kx : ∀ (E : String) (ce : Cell) (q9 : Addr) (u : SX) (t : State) (H1 : Heap) (locs1 : List Loc), t.heap = H1 → s.vm.Alike t.vm → px u → BX E u t → H.size ≤ H1.size → (∀ q : Nat, q < H.size → ¬ AX q → H1[q]? = H[q]?) → va_S A0 H0 H1 locs1 → H1[q9]? = some ce → ce.vm = .none → s.vm.findClass E = some ce.cls → vx_W p l e R s m args below meth c H1 locs1 (cells + mc) (slots + ms) Q (F0 m pc ls rest) q9)
    (kk : ∀ (r : Int32) (u : S) (t : State) (H1 : Heap) (locs1 : List Loc), t.heap = H1 → s.vm.Alike t.vm → post r u → B u t → H.size ≤ H1.size → (∀ q : Nat, q < H.size → ¬ A1 q → H1[q]? = H[q]?) → va_S A0 H0 H1 locs1 → W p l e R s m args below meth c H1 locs1 (cells + mc) (slots + ms) Q (F0 m (pc + 3) ls (.int r :: rest))) : W p l e R s m args below meth c H locs cells slots Q (F0 m pc ls st0) := by
  intro T hT X
  rcases hr T hT X with ⟨v, st₀, t, T', L, h0, X', hL, e1, e2, ⟨⟨r, u, hv, hp, hb⟩, hF⟩, st⟩ | ⟨q, st₀, t, T', L, E, ce, h0, X', hL, e1, e2, ⟨u, hp, hb, hF⟩, hce, hcv, hcl, st⟩
  · cases hv
    obtain ⟨k1, k2, k3⟩ := vx_keep h0 e1 hS hA hf hL hF
    obtain ⟨t2, a1, b1⟩ := kk r u t T'.heap (locs ++ L) e1.symm (by rw [← e2]; exact X'.warmed.alike) hp hb k1 k2 k3 T' rfl X'
    exact ⟨t2, st t2 a1, b1⟩
  · obtain ⟨k1, k2, k3⟩ := vx_keep h0 e1 hS hAX hf hL hF
    obtain ⟨t2, a1, b1⟩ := kx E ce q u t T'.heap (locs ++ L) e1.symm (by rw [← e2]; exact X'.warmed.alike) hp hb k1 k2 k3 (by rw [e1]; exact hce) hcv hcl T' rfl X'
    exact ⟨t2, st.trans a1, b1⟩
theorem vx_calll {S SX : Type} {post : Int64 → S → Prop} {px : SX → Prop} {B : S → State → Prop} {BX : String → SX → State → Prop} {AX : Nat → Prop} (hr : vx_Run p l e R s m args below meth c H locs cells slots mc ms (F0 m pc ls st0) rest (va_Ql post B A1 a) (vx_X px BX AX) free) (hS : va_S A0 H0 H locs) (hA : ∀ q, q < H.size → A1 q → A0 q) (hf : ∀ q, free q → A0 q) (hAX : ∀ q, q < H.size → AX q → A0 q)
    (kx : ∀ (E : String) (ce : Cell) (q9 : Addr) (u : SX) (t : State) (H1 : Heap) (locs1 : List Loc), t.heap = H1 → s.vm.Alike t.vm → px u → BX E u t → H.size ≤ H1.size → (∀ q : Nat, q < H.size → ¬ AX q → H1[q]? = H[q]?) → va_S A0 H0 H1 locs1 → H1[q9]? = some ce → ce.vm = .none → s.vm.findClass E = some ce.cls → vx_W p l e R s m args below meth c H1 locs1 (cells + mc) (slots + ms) Q (F0 m pc ls rest) q9)
    (kk : ∀ (r : Int64) (u : S) (t : State) (H1 : Heap) (locs1 : List Loc), t.heap = H1 → s.vm.Alike t.vm → post r u → B u t → H.size ≤ H1.size → (∀ q : Nat, q < H.size → ¬ A1 q → H1[q]? = H[q]?) → va_S A0 H0 H1 locs1 → W p l e R s m args below meth c H1 locs1 (cells + mc) (slots + ms) Q (F0 m (pc + 3) ls (.long r :: rest))) : W p l e R s m args below meth c H locs cells slots Q (F0 m pc ls st0) := by
  intro T hT X
  rcases hr T hT X with ⟨v, st₀, t, T', L, h0, X', hL, e1, e2, ⟨⟨r, u, hv, hp, hb⟩, hF⟩, st⟩ | ⟨q, st₀, t, T', L, E, ce, h0, X', hL, e1, e2, ⟨u, hp, hb, hF⟩, hce, hcv, hcl, st⟩
  · cases hv
    obtain ⟨k1, k2, k3⟩ := vx_keep h0 e1 hS hA hf hL hF
    obtain ⟨t2, a1, b1⟩ := kk r u t T'.heap (locs ++ L) e1.symm (by rw [← e2]; exact X'.warmed.alike) hp hb k1 k2 k3 T' rfl X'
    exact ⟨t2, st t2 a1, b1⟩
  · obtain ⟨k1, k2, k3⟩ := vx_keep h0 e1 hS hAX hf hL hF
    obtain ⟨t2, a1, b1⟩ := kx E ce q u t T'.heap (locs ++ L) e1.symm (by rw [← e2]; exact X'.warmed.alike) hp hb k1 k2 k3 (by rw [e1]; exact hce) hcv hcl T' rfl X'
    exact ⟨t2, st.trans a1, b1⟩
theorem vx_callf {S SX : Type} {post : UInt32 → S → Prop} {px : SX → Prop} {B : S → State → Prop} {BX : String → SX → State → Prop} {AX : Nat → Prop} (hr : vx_Run p l e R s m args below meth c H locs cells slots mc ms (F0 m pc ls st0) rest (va_Qf post B A1 a) (vx_X px BX AX) free) (hS : va_S A0 H0 H locs) (hA : ∀ q, q < H.size → A1 q → A0 q) (hf : ∀ q, free q → A0 q) (hAX : ∀ q, q < H.size → AX q → A0 q)
    (kx : ∀ (E : String) (ce : Cell) (q9 : Addr) (u : SX) (t : State) (H1 : Heap) (locs1 : List Loc), t.heap = H1 → s.vm.Alike t.vm → px u → BX E u t → H.size ≤ H1.size → (∀ q : Nat, q < H.size → ¬ AX q → H1[q]? = H[q]?) → va_S A0 H0 H1 locs1 → H1[q9]? = some ce → ce.vm = .none → s.vm.findClass E = some ce.cls → vx_W p l e R s m args below meth c H1 locs1 (cells + mc) (slots + ms) Q (F0 m pc ls rest) q9)
    (kk : ∀ (r : UInt32) (u : S) (t : State) (H1 : Heap) (locs1 : List Loc), t.heap = H1 → s.vm.Alike t.vm → post r u → B u t → H.size ≤ H1.size → (∀ q : Nat, q < H.size → ¬ A1 q → H1[q]? = H[q]?) → va_S A0 H0 H1 locs1 → W p l e R s m args below meth c H1 locs1 (cells + mc) (slots + ms) Q (F0 m (pc + 3) ls (.float r :: rest))) : W p l e R s m args below meth c H locs cells slots Q (F0 m pc ls st0) := by
  intro T hT X
  rcases hr T hT X with ⟨v, st₀, t, T', L, h0, X', hL, e1, e2, ⟨⟨r, u, hv, hp, hb⟩, hF⟩, st⟩ | ⟨q, st₀, t, T', L, E, ce, h0, X', hL, e1, e2, ⟨u, hp, hb, hF⟩, hce, hcv, hcl, st⟩
  · cases hv
    obtain ⟨k1, k2, k3⟩ := vx_keep h0 e1 hS hA hf hL hF
    obtain ⟨t2, a1, b1⟩ := kk r u t T'.heap (locs ++ L) e1.symm (by rw [← e2]; exact X'.warmed.alike) hp hb k1 k2 k3 T' rfl X'
    exact ⟨t2, st t2 a1, b1⟩
  · obtain ⟨k1, k2, k3⟩ := vx_keep h0 e1 hS hAX hf hL hF
    obtain ⟨t2, a1, b1⟩ := kx E ce q u t T'.heap (locs ++ L) e1.symm (by rw [← e2]; exact X'.warmed.alike) hp hb k1 k2 k3 (by rw [e1]; exact hce) hcv hcl T' rfl X'
    exact ⟨t2, st.trans a1, b1⟩
theorem vx_calld {S SX : Type} {post : UInt64 → S → Prop} {px : SX → Prop} {B : S → State → Prop} {BX : String → SX → State → Prop} {AX : Nat → Prop} (hr : vx_Run p l e R s m args below meth c H locs cells slots mc ms (F0 m pc ls st0) rest (va_Qd post B A1 a) (vx_X px BX AX) free) (hS : va_S A0 H0 H locs) (hA : ∀ q, q < H.size → A1 q → A0 q) (hf : ∀ q, free q → A0 q) (hAX : ∀ q, q < H.size → AX q → A0 q)
    (kx : ∀ (E : String) (ce : Cell) (q9 : Addr) (u : SX) (t : State) (H1 : Heap) (locs1 : List Loc), t.heap = H1 → s.vm.Alike t.vm → px u → BX E u t → H.size ≤ H1.size → (∀ q : Nat, q < H.size → ¬ AX q → H1[q]? = H[q]?) → va_S A0 H0 H1 locs1 → H1[q9]? = some ce → ce.vm = .none → s.vm.findClass E = some ce.cls → vx_W p l e R s m args below meth c H1 locs1 (cells + mc) (slots + ms) Q (F0 m pc ls rest) q9)
    (kk : ∀ (r : UInt64) (u : S) (t : State) (H1 : Heap) (locs1 : List Loc), t.heap = H1 → s.vm.Alike t.vm → post r u → B u t → H.size ≤ H1.size → (∀ q : Nat, q < H.size → ¬ A1 q → H1[q]? = H[q]?) → va_S A0 H0 H1 locs1 → W p l e R s m args below meth c H1 locs1 (cells + mc) (slots + ms) Q (F0 m (pc + 3) ls (.double r :: rest))) : W p l e R s m args below meth c H locs cells slots Q (F0 m pc ls st0) := by
  intro T hT X
  rcases hr T hT X with ⟨v, st₀, t, T', L, h0, X', hL, e1, e2, ⟨⟨r, u, hv, hp, hb⟩, hF⟩, st⟩ | ⟨q, st₀, t, T', L, E, ce, h0, X', hL, e1, e2, ⟨u, hp, hb, hF⟩, hce, hcv, hcl, st⟩
  · cases hv
    obtain ⟨k1, k2, k3⟩ := vx_keep h0 e1 hS hA hf hL hF
    obtain ⟨t2, a1, b1⟩ := kk r u t T'.heap (locs ++ L) e1.symm (by rw [← e2]; exact X'.warmed.alike) hp hb k1 k2 k3 T' rfl X'
    exact ⟨t2, st t2 a1, b1⟩
  · obtain ⟨k1, k2, k3⟩ := vx_keep h0 e1 hS hAX hf hL hF
    obtain ⟨t2, a1, b1⟩ := kx E ce q u t T'.heap (locs ++ L) e1.symm (by rw [← e2]; exact X'.warmed.alike) hp hb k1 k2 k3 (by rw [e1]; exact hce) hcv hcl T' rfl X'
    exact ⟨t2, st.trans a1, b1⟩
theorem vx_callv {S SX : Type} {post : S → Prop} {px : SX → Prop} {B : S → State → Prop} {BX : String → SX → State → Prop} {AX : Nat → Prop} (hr : vx_Run p l e R s m args below meth c H locs cells slots mc ms (F0 m pc ls st0) rest (va_Qv post B A1 a) (vx_X px BX AX) free) (hS : va_S A0 H0 H locs) (hA : ∀ q, q < H.size → A1 q → A0 q) (hf : ∀ q, free q → A0 q) (hAX : ∀ q, q < H.size → AX q → A0 q)
    (kx : ∀ (E : String) (ce : Cell) (q9 : Addr) (u : SX) (t : State) (H1 : Heap) (locs1 : List Loc), t.heap = H1 → s.vm.Alike t.vm → px u → BX E u t → H.size ≤ H1.size → (∀ q : Nat, q < H.size → ¬ AX q → H1[q]? = H[q]?) → va_S A0 H0 H1 locs1 → H1[q9]? = some ce → ce.vm = .none → s.vm.findClass E = some ce.cls → vx_W p l e R s m args below meth c H1 locs1 (cells + mc) (slots + ms) Q (F0 m pc ls rest) q9)
    (kk : ∀ (u : S) (t : State) (H1 : Heap) (locs1 : List Loc), t.heap = H1 → s.vm.Alike t.vm → post u → B u t → H.size ≤ H1.size → (∀ q : Nat, q < H.size → ¬ A1 q → H1[q]? = H[q]?) → va_S A0 H0 H1 locs1 → W p l e R s m args below meth c H1 locs1 (cells + mc) (slots + ms) Q (F0 m (pc + 3) ls (rest))) : W p l e R s m args below meth c H locs cells slots Q (F0 m pc ls st0) := by
  intro T hT X
  rcases hr T hT X with ⟨v, st₀, t, T', L, h0, X', hL, e1, e2, ⟨⟨u, hv, hp, hb⟩, hF⟩, st⟩ | ⟨q, st₀, t, T', L, E, ce, h0, X', hL, e1, e2, ⟨u, hp, hb, hF⟩, hce, hcv, hcl, st⟩
  · cases hv
    obtain ⟨k1, k2, k3⟩ := vx_keep h0 e1 hS hA hf hL hF
    obtain ⟨t2, a1, b1⟩ := kk u t T'.heap (locs ++ L) e1.symm (by rw [← e2]; exact X'.warmed.alike) hp hb k1 k2 k3 T' rfl X'
    exact ⟨t2, st t2 a1, b1⟩
  · obtain ⟨k1, k2, k3⟩ := vx_keep h0 e1 hS hAX hf hL hF
    obtain ⟨t2, a1, b1⟩ := kx E ce q u t T'.heap (locs ++ L) e1.symm (by rw [← e2]; exact X'.warmed.alike) hp hb k1 k2 k3 (by rw [e1]; exact hce) hcv hcl T' rfl X'
    exact ⟨t2, st.trans a1, b1⟩
/-- caught by the row x of this method's table; the rows ahead don't take it -/
theorem vx_catch {own name : String} {E : String} {ce : Cell} {q : Addr} (hown : s.vm.findClass own = some m.cls) (pre : List ExceptionTableEntry) (x : ExceptionTableEntry) (suf : List ExceptionTableEntry) (hsplit : c.exceptionTable.toList = pre ++ x :: suf)
    (hpass : ∀ z ∈ pre, covers z pc = false ∨ (z.catchType ≠ 0 ∧ ∃ nm : String, (Cond.classLink own z.catchType nm).before args s = true ∧ va_Nc E nm s)) (hx : covers x pc = true) (h0 : x.catchType ≠ 0)
    (hlink : (Cond.classLink own x.catchType name).before args s = true) (hcast : (Cond.castable E name).before args s = true) (hcell : H[q]? = some ce) (hv : ce.vm = .none) (hcl : s.vm.findClass E = some ce.cls)
    (kk : W p l e R s m args below meth c H locs cells slots Q (F0 m x.handlerPc ls [.ref q])) : vx_W p l e R s m args below meth c H locs cells slots Q (F0 m pc ls rest) q := by
  intro T hT X
  have hpl : e.platform.magicAccessors = ({} : Platform).magicAccessors := by rw [X.admits.platform]
  obtain ⟨c3, c4, hc3, hc4, hasg⟩ := Cond.castable_spec hcast
  cases Option.some.inj (hc3.symm.trans hcl)
  obtain ⟨c5, hc5, hcl5⟩ := Cond.classLink_spec hown hlink e.platform hpl
  cases Option.some.inj (hc4.symm.trans hc5)
  obtain ⟨vm', X', st⟩ := X.thenCaughtThrough q (g := F0 m pc ls rest) rfl (Steps.refl _) (by rw [hT]; exact hcell) (by rw [hv]; rfl) (by obtain ⟨k9, h9, -⟩ := Vm.findClass_spec hcl; exact ⟨k9, h9⟩) pre x suf hsplit
    (fun z hz => by
      rcases hpass z hz with h | ⟨hz0, nm, hl1, hn1⟩
      · exact Or.inl h
      · obtain ⟨c6, hc6, hcl6⟩ := Cond.classLink_spec hown hl1 e.platform hpl
        obtain ⟨a8, b8, h1, h2, h3⟩ := hn1
        cases Option.some.inj (h1.symm.trans hcl)
        cases Option.some.inj (h2.symm.trans hc6)
        exact Or.inr ⟨hz0, _, hcl6, h3⟩) hx (Or.inr ⟨h0, c4, hcl5, hasg⟩)
  obtain ⟨t, a1, b1⟩ := kk (T.setVm vm') hT X'
  exact ⟨t, st.trans a1, b1⟩
end Rows
section Ends
variable {p : Program} {l : Launch} {e : Env} {R : Room} {s : State} {m : MethodId} {args : Array Value} {below : List Frame} {meth : Method} {c : Code} {H : Heap} {locs : List Loc} {cells slots : Nat} {Q : State → Prop}
variable {mc ms : Nat} {free : Addr → Prop} {A0 A1 : Nat → Prop} {H0 : Heap} {a : Array Value} {ls : Array Slot} {st0 rest : List Value}
variable {Qc : Array Value → State → Outcome → State → Prop} {XC : String → State → State → Prop}
/-- what a body that may throw owes at its end -/
def vx_MQ (below : List Frame) (Qc : Array Value → State → Outcome → State → Prop) (XC : String → State → State → Prop) (a : Array Value) (s : State) (mc ms : Nat) (free : Addr → Prop) : State → Prop := fun t =>
  ∃ o, t.status = .running ∧ Ended t below o ∧ vx_Q Qc XC mc ms free a s o t
theorem vx_ret {g : JFrame} {mc ms : Nat} (k : W p l e R s m args below meth c H locs cells slots (MQ below Qc args s mc ms free) g) : W p l e R s m args below meth c H locs cells slots (vx_MQ below Qc XC args s mc ms free) g := by
  intro T hT X
  obtain ⟨t, a1, o, b1, b2, b3, b4⟩ := k T hT X
  exact ⟨t, a1, o, b1, b2, Or.inl ⟨b3, b4⟩⟩
/-- not caught here: it goes on to the caller -/
theorem vx_widen {g : JFrame} {q : Addr} {k n : Nat} (h1 : cells ≤ k) (h2 : slots ≤ n) (kk : vx_W p l e R s m args below meth c H locs k n Q g q) : vx_W p l e R s m args below meth c H locs cells slots Q g q := fun T hT X => kk T hT (stand_widen X h1 h2)
theorem vx_out {pc : Nat} {E : String} {ce : Cell} {q : Addr} {mc ms : Nat} (hout : ∀ x ∈ c.exceptionTable.toList, covers x pc = false) (hlocks : meth.locks = false) (hcell : H[q]? = some ce) (hv : ce.vm = .none) (hcl : s.vm.findClass E = some ce.cls)
    (hx : ∀ t : State, t.heap = H → s.vm.Alike t.vm → XC E s t) (hf : ∀ z ∈ locs, free z.base) (hc : cells ≤ mc) (hs : slots ≤ ms) :
    vx_W p l e R s m args below meth c H locs cells slots (vx_MQ below Qc XC args s mc ms free) (F0 m pc ls rest) q := by
  intro T hT X
  obtain ⟨st1, hrun, hend, hW, hsm⟩ := X.leaveThrown q (g := F0 m pc ls rest) rfl rfl rfl hout hlocks
  have hcell9 : (T.setFrames (.throwing q :: below)).heap[q]? = some ce := by
    show T.heap[q]? = some ce
    rw [hT]; exact hcell
  exact ⟨_, st1, .threw q, hrun, hend, Or.inr ⟨q, rfl, E, ce, locs, hx _ hT hW.alike, hcell9, hv, hcl, hW, hsm.mono hc hs, hf⟩⟩
theorem vx_frame {U : State} {k n : Nat} (h : s.sameButNew ({ U with vm := s.vm } : State) locs k n) : s.heap.size ≤ U.heap.size ∧ ∀ q : Nat, q < s.heap.size → (∀ z ∈ locs, z.base ≠ q) → U.heap[q]? = s.heap[q]? := by
  obtain ⟨-, h2, -, -, -, h6⟩ := h
  refine ⟨h2, fun q hq hz => ?_⟩
  obtain ⟨c9, e1, e2, e3, e4⟩ := h6 q _ (Array.getElem?_eq_getElem hq)
  have hs : c9.slots = (s.heap[q]).slots := Array.ext_getElem? fun i => e4 i fun hm => hz _ hm rfl
  have h9 : c9 = s.heap[q] := by
    rw [hs] at e2
    exact e2
  have e5 : U.heap[q]? = some c9 := e1
  rw [e5, h9, Array.getElem?_eq_getElem hq]
/-- the words of a throw but the four that speak of the heap -/
def vx_no (w : Cond) : Bool := decide (w ≠ .isRef (.static Bundle.tN "UNASSIGNED_STACK" Bundle.steD)) && decide (w ≠ .isRef (.static Bundle.tN "SUPPRESSED_SENTINEL" Bundle.listD)) && decide (w ≠ .laysStatic Bundle.tN "UNASSIGNED_STACK" Bundle.steD) && decide (w ≠ .laysStatic Bundle.tN "SUPPRESSED_SENTINEL" Bundle.listD)
def vx_at0 (own : String) (ic : Nat) (X : String) (names : List String) : List Cond := (Bundle.ownAtoms0 own ic X names).filter vx_no
def vx_atS (own : String) (ic : Nat) (X : String) (names : List String) : List Cond := (Bundle.ownAtoms own ic X names).filter vx_no
/-- a word that the tables alone decide, or a good one -/
def vx_ot (w : Cond) : Bool := w.onTables || goodWord w
theorem vx_ot_at {args a' : Array Value} {s U : State} {w : Cond} (hW : s.WarmedH U.vm) (hvm : s.vm = U.vm) (hg : vx_ot w = true) (h : w.before args s = true) : w.before a' U = true := by
  simp only [vx_ot, Bool.or_eq_true] at hg
  rcases hg with hg | hg
  · exact va_tabs hg hvm h
  · exact word_at hW (good_of_word hg) h
/-- a list's words: the good ones out of the method's own list, the others by premises of their own -/
theorem vx_hat {args : Array Value} {s : State} {L B : List Cond} (h1 : ∀ w ∈ L.filter goodWord, w.before args s = true) (h2 : ∀ w ∈ L.filter (fun w => !goodWord w), w ∈ B) (h3 : ∀ w ∈ B, w.before args s = true) : ∀ w ∈ L, w.before args s = true := by
  intro w hw
  by_cases g : goodWord w = true
  · exact h1 w (List.mem_filter.mpr ⟨hw, g⟩)
  · refine h3 w (h2 w (List.mem_filter.mpr ⟨hw, ?_⟩))
    show (!goodWord w) = true
    cases hgw : goodWord w
    · rfl
    · exact absurd hgw g
theorem vx_c {args : Array Value} {s : State} {w : Cond} {B : List Cond} (h : w.before args s = true) (t : ∀ w ∈ B, w.before args s = true) : ∀ w' ∈ w :: B, w'.before args s = true := fun w' h' => (List.mem_cons.mp h').elim (fun e => by rw [e]; exact h) (t w')
theorem vx_n {args : Array Value} {s : State} : ∀ w ∈ ([] : List Cond), w.before args s = true := fun _ h => nomatch h
theorem vx_own {args : Array Value} {s : State} {L : List Cond} (h1 : ∀ w ∈ L.filter vx_no, w.before args s = true)
    (hU : (Cond.isRef (.static Bundle.tN "UNASSIGNED_STACK" Bundle.steD)).before args s = true) (hN : (Cond.isRef (.static Bundle.tN "SUPPRESSED_SENTINEL" Bundle.listD)).before args s = true)
    (lU : (Cond.laysStatic Bundle.tN "UNASSIGNED_STACK" Bundle.steD).before args s = true) (lN : (Cond.laysStatic Bundle.tN "SUPPRESSED_SENTINEL" Bundle.listD).before args s = true) : ∀ w ∈ L, w.before args s = true := by
  intro w hw
  by_cases e1 : w = .isRef (.static Bundle.tN "UNASSIGNED_STACK" Bundle.steD)
  · rw [e1]; exact hU
  · by_cases e2 : w = .isRef (.static Bundle.tN "SUPPRESSED_SENTINEL" Bundle.listD)
    · rw [e2]; exact hN
    · by_cases e3 : w = .laysStatic Bundle.tN "UNASSIGNED_STACK" Bundle.steD
      · rw [e3]; exact lU
      · by_cases e4 : w = .laysStatic Bundle.tN "SUPPRESSED_SENTINEL" Bundle.listD
        · rw [e4]; exact lN
        · exact h1 w (List.mem_filter.mpr ⟨hw, by unfold vx_no; rw [decide_eq_true e1, decide_eq_true e2, decide_eq_true e3, decide_eq_true e4]; rfl⟩)
/-- where a static field lies, its class's statics cell in H -/
def vx_L (C n d : String) (A : Nat → Prop) (U : State) (H : Heap) : Prop := ∃ (c : ClassId) (k : Class) (i : Nat) (f : Field) (a : Nat) (cell : Cell), U.vm.findClass C = some c ∧ U.fieldFound? C n d = some (c, k, i, f) ∧ f.isStatic = true ∧ k.statics = some a ∧ H[a]? = some cell ∧ cell.vm.isStatics = true ∧ cell.cls = c ∧ f.slot < cell.slots.size ∧ k.staticTypes[f.slot]? = some f.type ∧ ¬ A a
theorem vx_L.moved {C n d : String} {A : Nat → Prop} {u U : State} {H : Heap} (hvm : u.vm.Alike U.vm) (h : vx_L C n d A u H) : vx_L C n d A U H := by
  obtain ⟨c, k, i, f, a, cell, h1, h2, h3, h4, h5, h6, h7, h8, h9, h10⟩ := h
  obtain ⟨k', hi', he⟩ := State.fieldFound?_setVm hvm h2
  exact ⟨c, k', i, f, a, cell, by rw [hvm.findClass]; exact h1, hi', h3, by rw [he]; exact h4, h5, h6, h7, h8, by rw [he]; exact h9, h10⟩
theorem vx_L.kept {C n d : String} {A : Nat → Prop} {U : State} {H H1 : Heap} (h : vx_L C n d A U H) (hq : ∀ a : Nat, a < H.size → ¬ A a → H1[a]? = H[a]?) : vx_L C n d A U H1 := by
  obtain ⟨c, k, i, f, a, cell, h1, h2, h3, h4, h5, h6, h7, h8, h9, h10⟩ := h
  exact ⟨c, k, i, f, a, cell, h1, h2, h3, h4, by rw [hq a (Array.getElem?_eq_some_iff.mp h5).1 h10]; exact h5, h6, h7, h8, h9, h10⟩
theorem vx_L.narrow {C n d : String} {A B : Nat → Prop} {U : State} {H : Heap} (h : vx_L C n d A U H) (hAB : ∀ q, B q → A q) : vx_L C n d B U H := by
  obtain ⟨c, k, i, f, a, cell, h1, h2, h3, h4, h5, h6, h7, h8, h9, h10⟩ := h
  exact ⟨c, k, i, f, a, cell, h1, h2, h3, h4, h5, h6, h7, h8, h9, fun z => h10 (hAB _ z)⟩
theorem vx_L.word {C n d : String} {A : Nat → Prop} {s : State} {args : Array Value} (h : vx_L C n d A s s.heap) : (Cond.laysStatic C n d).before args s = true := by
  obtain ⟨c, k, i, f, a, cell, h1, h2, h3, h4, h5, h6, h7, h8, h9, -⟩ := h
  show (Cond.laysStatic C n d).holds args s none s [] = true
  exact Cond.laysStatic_of h1 h2 h3 h4 h5 h6 h7 h8 h9
/-- .. and what it holds: null or some reference -/
def vx_Zq (C n d : String) (A : Nat → Prop) (U : State) (H : Heap) : Prop := va_Zq C n d A U H ∧ vx_L C n d A U H
theorem vx_Zq.moved {C n d : String} {A : Nat → Prop} {u U : State} {H : Heap} (hvm : u.vm.Alike U.vm) (h : vx_Zq C n d A u H) : vx_Zq C n d A U H := ⟨va_Zq.moved hvm h.1, vx_L.moved hvm h.2⟩
theorem vx_Zq.kept {C n d : String} {A : Nat → Prop} {U : State} {H H1 : Heap} (h : vx_Zq C n d A U H) (hq : ∀ a : Nat, a < H.size → ¬ A a → H1[a]? = H[a]?) : vx_Zq C n d A U H1 := ⟨va_Zq.kept h.1 hq, vx_L.kept h.2 hq⟩
theorem vx_Zq.narrow {C n d : String} {A B : Nat → Prop} {U : State} {H : Heap} (h : vx_Zq C n d A U H) (hAB : ∀ q, B q → A q) : vx_Zq C n d B U H := ⟨va_Zq.narrow h.1 hAB, vx_L.narrow h.2 hAB⟩
theorem vx_Zqof {args : Array Value} {s : State} {C n d : String} {A : Nat → Prop} (hl : (Cond.laysStatic C n d).before args s = true) (hini : (Cond.initialized C).before args s = true) (h : (Cond.isRef (.static C n d)).before args s = true) (hA : ∀ a : Nat, a < s.heap.size → ¬ A a) : vx_Zq C n d A s s.heap := by
  refine ⟨va_Zqof hl hini h hA, ?_⟩
  obtain ⟨c, k, i, f, a, cell, h1, h2, h3, h4, h5, h6, h7, h8, h9⟩ := Cond.laysStatic_spec hl
  exact ⟨c, k, i, f, a, cell, h1, h2, h3, h4, h5, h6, h7, h8, h9, hA a (Array.getElem?_eq_some_iff.mp h5).1⟩
theorem vx_isRef {C n d : String} {v : Value} {A : Nat → Prop} {s : State} {args : Array Value} (h : va_Z C n d v A s s.heap) (hv : v.isRef = true) : (Cond.isRef (.static C n d)).before args s = true := by
  obtain ⟨cf, kf, fi, f, a, cell, h1, h2, h3, h4, h5, h6, h7, -⟩ := h
  have he : (Term.static C n d).eval args s none [] s = some v := by
    simp [Term.eval, State.fieldNamed?, h1, h2, h4, h5, h6, h7]
  simp only [Cond.before, Cond.holds, Cond.value, he]
  cases v <;> simp_all [Value.isRef]
theorem vx_isRefq {C n d : String} {A : Nat → Prop} {s : State} {args : Array Value} (h : va_Zq C n d A s s.heap) : (Cond.isRef (.static C n d)).before args s = true := by
  rcases h with h | ⟨t, h⟩
  · exact vx_isRef h rfl
  · exact vx_isRef h rfl
/-- the same frame, seen from here: as if the method were called anew in this heap -/
theorem vx_rebase {T : State} (X : Stand p l e R s m args below meth c T locs cells slots) {R' : Room} (hf : R'.frames ≤ R.frames) (hl : R'.locals ≤ R.locals) (hc : cells + R'.cells ≤ R.cells) (hs : slots + R'.slots ≤ R.slots) :
    Stand p l e R' ((T.setVm s.vm).setFrames (.invoking m args :: below)) m args below meth c T [] 0 0 := by
  have htop : (T.setVm s.vm).topJava?.isSome := X.here.top
  have hF : ((T.setVm s.vm).setFrames (.invoking m args :: below)).frames = .invoking m args :: below := State.frames_setFrames _ (State.cur_lt_of_top htop)
  obtain ⟨g₀, hg0⟩ := Option.isSome_iff_exists.mp htop
  obtain ⟨r, hr⟩ := State.topJava?_eq_some.mp hg0
  have hl9 : e.platform.stackLimits (T.setVm s.vm).me = e.platform.stackLimits s.me := X.limits
  have hb9 : (T.setVm s.vm).me.stackBytes = s.me.stackBytes := X.bytes
  refine ⟨X.admits, X.cas, X.clock, hF, ?_, X.hears, X.method, X.code, X.here, X.tail, X.warmed, ?_, ?_, ?_⟩
  · have h := X.room
    have hU : ((T.setVm s.vm).setFrames (.invoking m args :: below)).localsInUse = s.localsInUse := by
      rw [State.localsInUse_invoking hF (meth := meth) (c := c) X.method X.code, State.localsInUse_invoking X.frames X.method X.code]
    simp only [State.hasRoom, Bool.and_eq_true, decide_eq_true_eq] at h ⊢
    obtain ⟨⟨⟨⟨h1, h2, h3, h4, h5, h6⟩, h7⟩, h8⟩, h9⟩ := h
    rw [X.frames, List.length_cons] at h2 h3
    have q1 := X.heapSize
    have q2 := X.used
    simp only [hF, hU, List.length_cons, State.stackLimits_setFrames, State.stackBytes_setFrames, hl9, hb9]
    refine ⟨⟨⟨⟨by omega, by omega, by omega, by omega, by omega, h6⟩, ?_⟩, ?_⟩, X.book⟩
    · show T.heap.size + R'.cells ≤ e.platform.maxCells
      omega
    · show T.slotsUsed + R'.slots ≤ e.platform.maxSlots
      omega
  · rw [State.stackLimits_setFrames]; rfl
  · rw [State.stackBytes_setFrames]; rfl
  · refine ⟨?_, Nat.le_refl _, Nat.le_refl _, ?_, ?_, fun a c9 h9 => ⟨c9, h9, rfl, rfl, fun _ _ => rfl⟩⟩
    · obtain ⟨t, ht, -⟩ := State.frames_cons hr
      show T.setVm s.vm = { ((T.setVm s.vm).setFrames (.invoking m args :: below)).setFrames (T.setVm s.vm).frames with heap := T.heap, slotsUsed := T.slotsUsed }
      rw [State.setFrames_setFrames, State.setFrames_self ht]
      rfl
    · show T.slotsUsed = T.slotsUsed + ((T.heap.toList.drop T.heap.size).map (·.slots.size)).sum
      rw [List.drop_eq_nil_of_le (Nat.le_of_eq Array.length_toList)]
      rfl
    · show ((T.heap.toList.drop T.heap.size).map (·.slots.size)).sum ≤ 0
      rw [List.drop_eq_nil_of_le (Nat.le_of_eq Array.length_toList)]
      exact Nat.le_refl _
/-- 'throw new E()': new; dup; invokespecial; athrow -/
theorem vx_throw0 {cc : ByteArray} {pc : Nat} (hexec : p.tables.exec = Jvm.exec) (hb : c.code = cc) (hl : l.stackTraces = false) {own cls : String} {names : List String} {ik ic mc ms : Nat} {A : Nat → Prop}
    (hown : s.vm.findClass own = some m.cls) (hcls : Bundle.fit cls = true) (hnames : ∀ n ∈ names, Bundle.fit n = true)
    (hk : (Cond.classLink own ik cls).before args s = true) (hini : (Cond.initialized cls).before args s = true) (hat : ∀ w ∈ vx_at0 own ic cls names, w.before args s = true)
    (hgood : ∀ w ∈ Cond.classLink own ik cls :: Cond.initialized cls :: vx_at0 own ic cls names, vx_ot w = true)
    (hU : vx_Zq Bundle.tN "UNASSIGNED_STACK" Bundle.steD A s s.heap) (hN : vx_Zq Bundle.tN "SUPPRESSED_SENTINEL" Bundle.listD A s s.heap) (hS : va_S A s.heap H locs) (hsize : ls.size = c.maxLocals)
    (d0 : decode cc pc = .ok (.new ik, 3)) (d3 : decode cc (pc + 3) = .ok (.dup, 1)) (d4 : decode cc (pc + 4) = .ok (.invokespecial ic, 3)) (d7 : decode cc (pc + 7) = .ok (.athrow, 1))
    (hout : ∀ x ∈ c.exceptionTable.toList, covers x (pc + 7) = false)
    (hRframes : names.length + 3 < R.frames) (hRlocals : (rest.map fun v => v.category).sum + (13 * (names.length + 1) + 42) ≤ R.locals) (hRcells : cells + 1 ≤ R.cells) (hRslots : slots + 6 ≤ R.slots) (hlocks : meth.locks = false)
    (hx : ∀ t : State, s.vm.Alike t.vm → H.size ≤ t.heap.size → (∀ q : Nat, q < H.size → t.heap[q]? = H[q]?) → XC cls s t)
    (hf : ∀ z ∈ locs, free z.base) (hc : cells + 1 ≤ mc) (hs : slots + 6 ≤ ms) :
    W p l e R s m args below meth c H locs cells slots (vx_MQ below Qc XC args s mc ms free) (F0 m pc ls rest) := by
  intro T hT X
  have htr : e.platform.stackTraces = false := (show e.platform.stackTraces = l.stackTraces by rw [X.admits.platform]).trans hl
  have Y := vx_rebase X (R' := { frames := R.frames, locals := R.locals, cells := 1, slots := 6 }) (Nat.le_refl _) (Nat.le_refl _) hRcells hRslots
  obtain ⟨s', hA⟩ : ∃ z, z = (T.setVm s.vm).setFrames (.invoking m args :: below) := ⟨_, rfl⟩
  rw [← hA] at Y
  have hvm : s'.vm = s.vm := by rw [hA]; rfl
  have hhp : s'.heap = H := by rw [hA]; exact hT
  have hW0 : s.WarmedH s'.vm := by rw [hvm]; exact State.WarmedH.refl s
  have hat' : ∀ w ∈ vx_at0 own ic cls names, w.before args s' = true := fun w hw => vx_ot_at hW0 hvm.symm (hgood w (List.mem_cons_of_mem _ (List.mem_cons_of_mem _ hw))) (hat w hw)
  have hk' : (Cond.classLink own ik cls).before args s' = true := vx_ot_at hW0 hvm.symm (hgood _ List.mem_cons_self) hk
  have hini' : (Cond.initialized cls).before args s' = true := vx_ot_at hW0 hvm.symm (hgood _ (List.mem_cons_of_mem _ List.mem_cons_self)) hini
  have hU' : vx_Zq Bundle.tN "UNASSIGNED_STACK" Bundle.steD A s' s'.heap := by rw [hhp]; exact vx_Zq.moved hW0.alike (hU.kept hS.2.1)
  have hN' : vx_Zq Bundle.tN "SUPPRESSED_SENTINEL" Bundle.listD A s' s'.heap := by rw [hhp]; exact vx_Zq.moved hW0.alike (hN.kept hS.2.1)
  have h : ∀ w ∈ Bundle.ownAtoms0 own ic cls names, w.before args s' = true := vx_own hat' (vx_isRefq hU'.1) (vx_isRefq hN'.1) hU'.2.word hN'.2.word
  have hown' : s'.vm.findClass own = some m.cls := by rw [hvm]; exact hown
  have hins : (Cond.instantiable cls 6).before args s' = true := h _ (by simp [Bundle.ownAtoms0])
  obtain ⟨vm₁, cX, kX, hfX, hkX, -, -, X₁, st1⟩ := Y.newCold hexec (own := own) (C := cls) (index := ik) (n := 6) hown' hk' hins hini'
    (g := F0 m pc ls rest) rfl (by rw [hb]; exact d0) (Nat.le_refl _) (Nat.le_refl _)
  generalize hT1 : (T.setVm vm₁).pushCell { cls := cX, slots := kX.instanceTypes.map defaultValue, vm := .none } = T1 at X₁ st1
  have hcat : (Value.ref T.heap.size).category = 1 := rfl
  have hcellA : T1.heap[T.heap.size]? = some (freshCell cX kX) := by rw [← hT1]; exact State.heap_pushCell_size _ _
  have d3' : decode c.code (pc + 3) = .ok (.dup, 1) := by rw [hb]; exact d3
  obtain ⟨U, hsteps, hrun, hend, hW, hsame, ce, hce, hO⟩ := X₁.ctorThrow0 hexec htr (own := own) (cls := cls) (names := names) (ic := ic) hown' hcls hnames h (fun x hx => nomatch hx) hfX hkX hcellA (by rw [hhp, hT]; exact Nat.le_refl _)
    (g := { method := m, pc := pc + 4, locals := ls, stack := .ref T.heap.size :: .ref T.heap.size :: rest, locked := none }) rfl hsize rfl rfl (rest := rest) rfl
    (by rw [hb]; exact d4) (by rw [hb]; exact d7) hout hRframes (by simp only [List.map_cons, List.sum_cons, hcat]; omega) hlocks
  obtain ⟨f1, f2⟩ := vx_frame hsame
  rw [hhp] at f1 f2
  have hWs : s.WarmedH U.vm := State.WarmedH.trans hW0 hW
  have hcl : s.vm.findClass cls = some ce.cls := by
    have h9 := hO.cls
    rw [hvm] at h9
    exact h9
  have hall : s.sameButNew ({ U with vm := s.vm } : State) locs mc ms := by
    subst hA
    obtain ⟨e1, e2⟩ := hsame
    rw [State.setFrames_setFrames] at e1
    have h2 : (T.setVm s.vm).sameButNew ({ U with vm := s.vm } : State) [] (0 + 1) (0 + 6) := ⟨e1, e2⟩
    have h3 := X.same.trans h2
    rw [List.append_nil] at h3
    exact h3.mono hc hs
  refine ⟨U, ?_, .threw T.heap.size, hrun, hend, Or.inr ⟨T.heap.size, rfl, cls, ce, locs, hx U hWs.alike f1 (fun q hq => f2 q hq (fun z hz => nomatch hz)), hce, hO.vm, hcl, hWs, hall, hf⟩⟩
  refine st1 _ ?_
  show Steps p.tables e below (T1.setTop { method := m, pc := pc + 3, locals := ls, stack := .ref T.heap.size :: rest, locked := none }) _
  jvm_step X₁.here [X₁.here.top, hexec, d3', Value.category]
  exact hsteps
/-- 'throw new E("text")': new; dup; ldc; invokespecial; athrow -/
theorem vx_throwS {cc : ByteArray} {pc : Nat} (hexec : p.tables.exec = Jvm.exec) (hb : c.code = cc) (hl : l.stackTraces = false) {own cls text : String} {names : List String} {ik is ic mc ms sa : Nat} {A : Nat → Prop}
    (hown : s.vm.findClass own = some m.cls) (hcls : Bundle.fit cls = true) (hnames : ∀ n ∈ names, Bundle.fit n = true)
    (hk : (Cond.classLink own ik cls).before args s = true) (hini : (Cond.initialized cls).before args s = true) (hstr : vk_R own is text sa s) (hat : ∀ w ∈ vx_atS own ic cls names, w.before args s = true)
    (hgood : ∀ w ∈ Cond.classLink own ik cls :: Cond.initialized cls :: vx_atS own ic cls names, vx_ot w = true)
    (hU : vx_Zq Bundle.tN "UNASSIGNED_STACK" Bundle.steD A s s.heap) (hN : vx_Zq Bundle.tN "SUPPRESSED_SENTINEL" Bundle.listD A s s.heap) (hS : va_S A s.heap H locs) (hsize : ls.size = c.maxLocals)
    (d0 : decode cc pc = .ok (.new ik, 3)) (d3 : decode cc (pc + 3) = .ok (.dup, 1)) (d4 : decode cc (pc + 4) = .ok (.ldc is, 2)) (d6 : decode cc (pc + 6) = .ok (.invokespecial ic, 3)) (d9 : decode cc (pc + 9) = .ok (.athrow, 1))
    (hout : ∀ x ∈ c.exceptionTable.toList, covers x (pc + 9) = false)
    (hRframes : names.length + 3 < R.frames) (hRlocals : (rest.map fun v => v.category).sum + (13 * (names.length + 1) + 43) ≤ R.locals) (hRcells : cells + 1 ≤ R.cells) (hRslots : slots + 6 ≤ R.slots) (hlocks : meth.locks = false)
    (hx : ∀ t : State, s.vm.Alike t.vm → H.size ≤ t.heap.size → (∀ q : Nat, q < H.size → t.heap[q]? = H[q]?) → XC cls s t)
    (hf : ∀ z ∈ locs, free z.base) (hc : cells + 1 ≤ mc) (hs : slots + 6 ≤ ms) :
    W p l e R s m args below meth c H locs cells slots (vx_MQ below Qc XC args s mc ms free) (F0 m pc ls rest) := by
  intro T hT X
  have htr : e.platform.stackTraces = false := (show e.platform.stackTraces = l.stackTraces by rw [X.admits.platform]).trans hl
  have Y := vx_rebase X (R' := { frames := R.frames, locals := R.locals, cells := 1, slots := 6 }) (Nat.le_refl _) (Nat.le_refl _) hRcells hRslots
  obtain ⟨s', hA⟩ : ∃ z, z = (T.setVm s.vm).setFrames (.invoking m args :: below) := ⟨_, rfl⟩
  rw [← hA] at Y
  have hvm : s'.vm = s.vm := by rw [hA]; rfl
  have hhp : s'.heap = H := by rw [hA]; exact hT
  have hW0 : s.WarmedH s'.vm := by rw [hvm]; exact State.WarmedH.refl s
  have hat' : ∀ w ∈ vx_atS own ic cls names, w.before args s' = true := fun w hw => vx_ot_at hW0 hvm.symm (hgood w (List.mem_cons_of_mem _ (List.mem_cons_of_mem _ hw))) (hat w hw)
  have hk' : (Cond.classLink own ik cls).before args s' = true := vx_ot_at hW0 hvm.symm (hgood _ List.mem_cons_self) hk
  have hini' : (Cond.initialized cls).before args s' = true := vx_ot_at hW0 hvm.symm (hgood _ (List.mem_cons_of_mem _ List.mem_cons_self)) hini
  have hU' : vx_Zq Bundle.tN "UNASSIGNED_STACK" Bundle.steD A s' s'.heap := by rw [hhp]; exact vx_Zq.moved hW0.alike (hU.kept hS.2.1)
  have hN' : vx_Zq Bundle.tN "SUPPRESSED_SENTINEL" Bundle.listD A s' s'.heap := by rw [hhp]; exact vx_Zq.moved hW0.alike (hN.kept hS.2.1)
  have h : ∀ w ∈ Bundle.ownAtoms own ic cls names, w.before args s' = true := vx_own hat' (vx_isRefq hU'.1) (vx_isRefq hN'.1) hU'.2.word hN'.2.word
  have hown' : s'.vm.findClass own = some m.cls := by rw [hvm]; exact hown
  have hins : (Cond.instantiable cls 6).before args s' = true := h _ (by simp [Bundle.ownAtoms])
  obtain ⟨vm₁, cX, kX, hfX, hkX, -, -, X₁, st1⟩ := Y.newCold hexec (own := own) (C := cls) (index := ik) (n := 6) hown' hk' hins hini'
    (g := F0 m pc ls rest) rfl (by rw [hb]; exact d0) (Nat.le_refl _) (Nat.le_refl _)
  generalize hT1 : (T.setVm vm₁).pushCell { cls := cX, slots := kX.instanceTypes.map defaultValue, vm := .none } = T1 at X₁ st1
  have hcat : (Value.ref T.heap.size).category = 1 := rfl
  have hcellA : T1.heap[T.heap.size]? = some (freshCell cX kX) := by rw [← hT1]; exact State.heap_pushCell_size _ _
  have d3' : decode c.code (pc + 3) = .ok (.dup, 1) := by rw [hb]; exact d3
  have d4' : decode c.code (pc + 4) = .ok (.ldc is, 2) := by rw [hb]; exact d4
  have hstr' : vk_R own is text sa s' := vk_R.warm hW0 hstr
  obtain ⟨U, hsteps, hrun, hend, hW, hsame, ce, hce, hO⟩ := X₁.ctorThrowS hexec htr (own := own) (cls := cls) (names := names) (ic := ic) hown' hcls hnames h (fun x hx => nomatch hx) hfX hkX hcellA (by rw [hhp, hT]; exact Nat.le_refl _) (msg := .ref sa) rfl
    (g := { method := m, pc := pc + 6, locals := ls, stack := .ref sa :: .ref T.heap.size :: .ref T.heap.size :: rest, locked := none }) rfl hsize rfl rfl (rest := rest) rfl
    (by rw [hb]; exact d6) (by rw [hb]; exact d9) hout hRframes (by simp only [List.map_cons, List.sum_cons, hcat]; omega) hlocks
  obtain ⟨f1, f2⟩ := vx_frame hsame
  rw [hhp] at f1 f2
  have hWs : s.WarmedH U.vm := State.WarmedH.trans hW0 hW
  have hcl : s.vm.findClass cls = some ce.cls := by
    have h9 := hO.cls
    rw [hvm] at h9
    exact h9
  have hall : s.sameButNew ({ U with vm := s.vm } : State) locs mc ms := by
    subst hA
    obtain ⟨e1, e2⟩ := hsame
    rw [State.setFrames_setFrames] at e1
    have h2 : (T.setVm s.vm).sameButNew ({ U with vm := s.vm } : State) [] (0 + 1) (0 + 6) := ⟨e1, e2⟩
    have h3 := X.same.trans h2
    rw [List.append_nil] at h3
    exact h3.mono hc hs
  refine ⟨U, ?_, .threw T.heap.size, hrun, hend, Or.inr ⟨T.heap.size, rfl, cls, ce, locs, hx U hWs.alike f1 (fun q hq => f2 q hq (fun z hz => nomatch hz)), hce, hO.vm, hcl, hWs, hall, hf⟩⟩
  refine st1 _ ?_
  show Steps p.tables e below (T1.setTop { method := m, pc := pc + 3, locals := ls, stack := .ref T.heap.size :: rest, locked := none }) _
  jvm_step X₁.here [X₁.here.top, hexec, d3', Value.category]
  exact X₁.ldcString hexec (own := own) (text := text) (index := is) (a := sa) hown' hstr'.1 hstr'.2
    (g := { method := m, pc := pc + 4, locals := ls, stack := .ref T.heap.size :: .ref T.heap.size :: rest, locked := none }) rfl d4' _ hsteps
/-- 'throw new E("text")', the text by a wide index -/
theorem vx_throwSW {cc : ByteArray} {pc : Nat} (hexec : p.tables.exec = Jvm.exec) (hb : c.code = cc) (hl : l.stackTraces = false) {own cls text : String} {names : List String} {ik is ic mc ms sa : Nat} {A : Nat → Prop}
    (hown : s.vm.findClass own = some m.cls) (hcls : Bundle.fit cls = true) (hnames : ∀ n ∈ names, Bundle.fit n = true)
    (hk : (Cond.classLink own ik cls).before args s = true) (hini : (Cond.initialized cls).before args s = true) (hstr : vk_R own is text sa s) (hat : ∀ w ∈ vx_atS own ic cls names, w.before args s = true)
    (hgood : ∀ w ∈ Cond.classLink own ik cls :: Cond.initialized cls :: vx_atS own ic cls names, vx_ot w = true)
    (hU : vx_Zq Bundle.tN "UNASSIGNED_STACK" Bundle.steD A s s.heap) (hN : vx_Zq Bundle.tN "SUPPRESSED_SENTINEL" Bundle.listD A s s.heap) (hS : va_S A s.heap H locs) (hsize : ls.size = c.maxLocals)
    (d0 : decode cc pc = .ok (.new ik, 3)) (d3 : decode cc (pc + 3) = .ok (.dup, 1)) (d4 : decode cc (pc + 4) = .ok (.ldc_w is, 3)) (d7 : decode cc (pc + 7) = .ok (.invokespecial ic, 3)) (d10 : decode cc (pc + 10) = .ok (.athrow, 1))
    (hout : ∀ x ∈ c.exceptionTable.toList, covers x (pc + 10) = false)
    (hRframes : names.length + 3 < R.frames) (hRlocals : (rest.map fun v => v.category).sum + (13 * (names.length + 1) + 43) ≤ R.locals) (hRcells : cells + 1 ≤ R.cells) (hRslots : slots + 6 ≤ R.slots) (hlocks : meth.locks = false)
    (hx : ∀ t : State, s.vm.Alike t.vm → H.size ≤ t.heap.size → (∀ q : Nat, q < H.size → t.heap[q]? = H[q]?) → XC cls s t)
    (hf : ∀ z ∈ locs, free z.base) (hc : cells + 1 ≤ mc) (hs : slots + 6 ≤ ms) :
    W p l e R s m args below meth c H locs cells slots (vx_MQ below Qc XC args s mc ms free) (F0 m pc ls rest) := by
  intro T hT X
  have htr : e.platform.stackTraces = false := (show e.platform.stackTraces = l.stackTraces by rw [X.admits.platform]).trans hl
  have Y := vx_rebase X (R' := { frames := R.frames, locals := R.locals, cells := 1, slots := 6 }) (Nat.le_refl _) (Nat.le_refl _) hRcells hRslots
  obtain ⟨s', hA⟩ : ∃ z, z = (T.setVm s.vm).setFrames (.invoking m args :: below) := ⟨_, rfl⟩
  rw [← hA] at Y
  have hvm : s'.vm = s.vm := by rw [hA]; rfl
  have hhp : s'.heap = H := by rw [hA]; exact hT
  have hW0 : s.WarmedH s'.vm := by rw [hvm]; exact State.WarmedH.refl s
  have hat' : ∀ w ∈ vx_atS own ic cls names, w.before args s' = true := fun w hw => vx_ot_at hW0 hvm.symm (hgood w (List.mem_cons_of_mem _ (List.mem_cons_of_mem _ hw))) (hat w hw)
  have hk' : (Cond.classLink own ik cls).before args s' = true := vx_ot_at hW0 hvm.symm (hgood _ List.mem_cons_self) hk
  have hini' : (Cond.initialized cls).before args s' = true := vx_ot_at hW0 hvm.symm (hgood _ (List.mem_cons_of_mem _ List.mem_cons_self)) hini
  have hU' : vx_Zq Bundle.tN "UNASSIGNED_STACK" Bundle.steD A s' s'.heap := by rw [hhp]; exact vx_Zq.moved hW0.alike (hU.kept hS.2.1)
  have hN' : vx_Zq Bundle.tN "SUPPRESSED_SENTINEL" Bundle.listD A s' s'.heap := by rw [hhp]; exact vx_Zq.moved hW0.alike (hN.kept hS.2.1)
  have h : ∀ w ∈ Bundle.ownAtoms own ic cls names, w.before args s' = true := vx_own hat' (vx_isRefq hU'.1) (vx_isRefq hN'.1) hU'.2.word hN'.2.word
  have hown' : s'.vm.findClass own = some m.cls := by rw [hvm]; exact hown
  have hins : (Cond.instantiable cls 6).before args s' = true := h _ (by simp [Bundle.ownAtoms])
  obtain ⟨vm₁, cX, kX, hfX, hkX, -, -, X₁, st1⟩ := Y.newCold hexec (own := own) (C := cls) (index := ik) (n := 6) hown' hk' hins hini'
    (g := F0 m pc ls rest) rfl (by rw [hb]; exact d0) (Nat.le_refl _) (Nat.le_refl _)
  generalize hT1 : (T.setVm vm₁).pushCell { cls := cX, slots := kX.instanceTypes.map defaultValue, vm := .none } = T1 at X₁ st1
  have hcat : (Value.ref T.heap.size).category = 1 := rfl
  have hcellA : T1.heap[T.heap.size]? = some (freshCell cX kX) := by rw [← hT1]; exact State.heap_pushCell_size _ _
  have d3' : decode c.code (pc + 3) = .ok (.dup, 1) := by rw [hb]; exact d3
  have d4' : decode c.code (pc + 4) = .ok (.ldc_w is, 3) := by rw [hb]; exact d4
  have hstr' : vk_R own is text sa s' := vk_R.warm hW0 hstr
  obtain ⟨U, hsteps, hrun, hend, hW, hsame, ce, hce, hO⟩ := X₁.ctorThrowS hexec htr (own := own) (cls := cls) (names := names) (ic := ic) hown' hcls hnames h (fun x hx => nomatch hx) hfX hkX hcellA (by rw [hhp, hT]; exact Nat.le_refl _) (msg := .ref sa) rfl
    (g := { method := m, pc := pc + 7, locals := ls, stack := .ref sa :: .ref T.heap.size :: .ref T.heap.size :: rest, locked := none }) rfl hsize rfl rfl (rest := rest) rfl
    (by rw [hb]; exact d7) (by rw [hb]; exact d10) hout hRframes (by simp only [List.map_cons, List.sum_cons, hcat]; omega) hlocks
  obtain ⟨f1, f2⟩ := vx_frame hsame
  rw [hhp] at f1 f2
  have hWs : s.WarmedH U.vm := State.WarmedH.trans hW0 hW
  have hcl : s.vm.findClass cls = some ce.cls := by
    have h9 := hO.cls
    rw [hvm] at h9
    exact h9
  have hall : s.sameButNew ({ U with vm := s.vm } : State) locs mc ms := by
    subst hA
    obtain ⟨e1, e2⟩ := hsame
    rw [State.setFrames_setFrames] at e1
    have h2 : (T.setVm s.vm).sameButNew ({ U with vm := s.vm } : State) [] (0 + 1) (0 + 6) := ⟨e1, e2⟩
    have h3 := X.same.trans h2
    rw [List.append_nil] at h3
    exact h3.mono hc hs
  refine ⟨U, ?_, .threw T.heap.size, hrun, hend, Or.inr ⟨T.heap.size, rfl, cls, ce, locs, hx U hWs.alike f1 (fun q hq => f2 q hq (fun z hz => nomatch hz)), hce, hO.vm, hcl, hWs, hall, hf⟩⟩
  refine st1 _ ?_
  show Steps p.tables e below (T1.setTop { method := m, pc := pc + 3, locals := ls, stack := .ref T.heap.size :: rest, locked := none }) _
  jvm_step X₁.here [X₁.here.top, hexec, d3', Value.category]
  exact X₁.ldcStringW hexec (own := own) (text := text) (index := is) (a := sa) hown' hstr'.1 hstr'.2
    (g := { method := m, pc := pc + 4, locals := ls, stack := .ref T.heap.size :: .ref T.heap.size :: rest, locked := none }) rfl d4' _ hsteps
end Ends
section Bodies
variable {l : Launch}
theorem vx_ofW {y : MethodName} {ws ws' : List Cond} {rm : Room} {Pc : Array Value → State → Prop} {Qc : Array Value → State → Outcome → State → Prop} {XC : String → State → State → Prop} {mc ms : Nat} {free : Addr → Prop} {cc : ByteArray} {maxL : Nat} {ret : Option FieldType}
    (hy : plainName y.cls = true) (hw : ws = Cond.code y cc maxL ret :: ws')
    (body : ∀ p e s m args below meth c s₁, BodyLoose p l y (headSpec ws rm) cc maxL ret e s m args below meth c s₁ → c.maxLocals = maxL → (∀ x ∈ c.exceptionTable.toList, False) → Pc args s →
      W p l e (headSpec ws rm).room s m args below meth c s.heap [] 0 0 (vx_MQ below Qc XC args s mc ms free) (entryFrame m args maxL)) : vx_Met l y ws rm Pc Qc XC mc ms free := by
  refine MetFree.of_bodyS (code := cc) (maxLocals := maxL) (ret := ret) hy ?_ ?_
  · intro args s m h hn
    obtain ⟨meth, c, h1, h2, h3, h4, h5, h6, -, -⟩ := Cond.code_spec hn (atoms_spec (ws := ws) h _ (by rw [hw]; exact List.mem_cons_self))
    exact ⟨meth, c, h1, h2, h3, h4, h5, h6⟩
  · intro p e s m args below meth c s₁ B hml hP _
    have hh0 : s₁.heap = s.heap := by rw [B.state]; rfl
    have ht : ∀ x ∈ c.exceptionTable.toList, False := by
      obtain ⟨meth9, c9, h1, h2, -, -, -, -, h7, -⟩ := Cond.code_spec B.named (atoms_spec (ws := ws) B.pre _ (by rw [hw]; exact List.mem_cons_self))
      cases Option.some.inj (h1.symm.trans B.method)
      cases Option.some.inj (h2.symm.trans (Stand.of_body B).code)
      intro x hx
      rw [Array.isEmpty_iff.mp h7] at hx
      cases hx
    obtain ⟨t, a1, o, b1, b2, b3⟩ := body p e s m args below meth c s₁ B hml ht hP s₁ hh0 (Stand.of_body B)
    exact ⟨t, o, a1, b1, b2, b3⟩
/-- the table of a body with handlers -/
theorem vx_table {p : Program} {x y : MethodName} {S : Spec} {cc bytes : ByteArray} {maxL maxL' : Nat} {ret ret' : Option FieldType} {e : Env} {s s₁ : State} {m : MethodId} {args : Array Value} {below : List Frame} {meth : Method} {c : Code} {hh : List (Nat × Nat × Nat × Nat)}
    (B : BodyLoose p l y S cc maxL ret e s m args below meth c s₁) (h : (Cond.codeWith y bytes maxL' ret' hh).before args s = true) : c.exceptionTable.toList = tableOf hh := by
  obtain ⟨m9, meth9, c9, hn9, h1, h2, -, -, h6, -⟩ := Cond.codeWith_spec h
  cases Option.some.inj (hn9.symm.trans B.named)
  cases Option.some.inj (h1.symm.trans B.method)
  cases Option.some.inj (h2.symm.trans (Stand.of_body B).code)
  rw [← h6, table_eq]
end Bodies
end VXA
/-! ===== END ===== -/
/-! ===== BEGIN a static call of a method with an exception table ===== -/
section VXS
variable {p : Program} {l : Launch} {e : Env} {R : Room} {s : State} {m : MethodId} {args : Array Value} {below : List Frame} {meth : Method} {c : Code} {T : State} {H : Heap} {locs : List Loc} {cells slots : Nat}
abbrev vx_CSW (R : Room) (s : State) (args : Array Value) (own : String) (index : Nat) (y : MethodName) (bytes : ByteArray) (maxL : Nat) (ret : Option FieldType) (hh : List (Nat × Nat × Nat × Nat)) (ws : List Cond) (rm : Room) (mc ms n : Nat) : Prop :=
  (rm.cells = mc ∧ rm.slots = ms ∧ rm.frames + 1 ≤ R.frames ∧ 8 + (maxL + 11) + rm.locals ≤ R.locals ∧ (∀ w ∈ ws, ∀ (a' : Array Value) (U : State), s.WarmedH U.vm → w.before a' U = true) ∧ Cond.codeWith y bytes maxL ret hh ∈ ws) ∧
  (Cond.codeWith y bytes maxL ret hh).before args s = true ∧ (Cond.initialized y.cls).before args s = true ∧ (y.cls ≠ "java/lang/invoke/MethodHandle" ∧ y.cls ≠ "java/lang/invoke/VarHandle") ∧
  (∀ sig, parseMethodDescriptor y.desc = some sig → n = sig.parameters.length) ∧ (Cond.methodLink own index y).before args s = true ∧ (Cond.static y).before args s = true
theorem vx_cwSW {own : String} {index maxL mc ms : Nat} {y : MethodName} {bytes : ByteArray} {ret : Option FieldType} {hh : List (Nat × Nat × Nat × Nat)} {Ts ws ws' : List Cond} {rm : Room} (n : Nat) (ht : ∀ w ∈ Ts, w.before args s = true) (hT : GoodIn Ts (va_wsS own index y ws)) (hw : ws = Cond.codeWith y bytes maxL ret hh :: ws') (hrc : rm.cells = mc) (hrs : rm.slots = ms)
    (hd : y.cls ≠ "java/lang/invoke/MethodHandle" ∧ y.cls ≠ "java/lang/invoke/VarHandle" ∧ (parseMethodDescriptor y.desc).map (fun d => d.parameters.length) = some n) (hR : rm.frames + 1 ≤ R.frames ∧ 8 + (maxL + 11) + rm.locals ≤ R.locals) :
    vx_CSW R s args own index y bytes maxL ret hh ws rm mc ms n := by
  have ok : ∀ w ∈ va_wsS own index y ws, w.before args s = true := fun w h => ht w (hT w h).1
  have hG : GoodIn Ts ws := fun w h => hT w (by unfold va_wsS; exact List.mem_append_right _ h)
  have hc : Cond.codeWith y bytes maxL ret hh ∈ ws := by rw [hw]; exact List.mem_cons_self
  refine ⟨⟨hrc, hrs, hR.1, hR.2, pay_in ht hG, hc⟩, ht _ (hG _ hc).1, ok _ (by simp [va_wsS]), ⟨hd.1, hd.2.1⟩, fun sig h => ?_, ok _ (by simp [va_wsS]), ok _ (by simp [va_wsS])⟩
  have h2 := hd.2.2
  rw [h] at h2
  exact (Option.some.inj h2).symm
theorem vx_callSW (X : Stand p l e R s m args below meth c T locs cells slots) (hexec : p.tables.exec = Jvm.exec) {own : String} {index : Nat} {y : MethodName} {bytes : ByteArray} {maxL : Nat} {ret : Option FieldType} {hh : List (Nat × Nat × Nat × Nat)}
    (hown : s.vm.findClass own = some m.cls) (hlink : (Cond.methodLink own index y).before args s = true) (hstat : (Cond.static y).before args s = true) (hinit : (Cond.initialized y.cls).before args s = true)
    (hcode : (Cond.codeWith y bytes maxL ret hh).before args s = true) (hy : y.cls ≠ "java/lang/invoke/MethodHandle" ∧ y.cls ≠ "java/lang/invoke/VarHandle")
    {W9 : Nat} {Pre : Pt → Array Value → Prop} {Post : Pt → Array Value → Option Value → Pt → Prop} (hK : Back l R p e below s args y 3 W9 Pre Post)
    {g : JFrame} (hg : g.method = m) (hsize : g.locals.size = c.maxLocals) {argsL rest : List Value} (hlen : ∀ sig, parseMethodDescriptor y.desc = some sig → argsL.length = sig.parameters.length)
    (hstack : g.stack = argsL.reverse ++ rest) (hW : 2 * g.monitorRoom + (rest.map fun v => v.category).sum ≤ W9) (hdg : decode c.code g.pc = .ok (.invokestatic index, 3))
    (hpre : ∀ vm₁, s.WarmedH vm₁ → Pre ⟨T.setVm vm₁, locs, cells, slots⟩ argsL.toArray) :
    ∃ (v : Option Value) (vm₁ : Vm) (B : Pt), s.WarmedH vm₁ ∧ Stand p l e R s m args below meth c B.U B.locs B.cells B.slots ∧ Post ⟨T.setVm vm₁, locs, cells, slots⟩ argsL.toArray v B ∧
      ∀ target, Steps p.tables e below (B.U.setTop { g with pc := g.pc + 3, stack := v.toList ++ rest }) target → Steps p.tables e below (T.setTop g) target := by
  obtain ⟨mk, methM, cM, hnamed, hmethM, -, -, -, -, -, -, hsigM⟩ := Cond.codeWith_spec hcode
  have hstatic : methM.isStatic = true := Cond.static_spec hnamed hmethM hstat
  obtain ⟨kP, hkP, -⟩ := className_of_methodNamed hnamed
  have hinitP : kP.init = .initialized := Cond.initialized_spec (findClass_of_methodNamed hnamed) hkP hinit
  obtain ⟨vm₁, X₁, hstep₁⟩ := X.invokestatic hexec hown hlink hnamed hmethM hstatic hkP hinitP hy (g := g) hg (argsL := argsL) (rest := rest) (hlen _ hsigM) hstack hdg
  obtain ⟨v, B, X', hpost, hsteps⟩ := hK m meth c ⟨T.setVm vm₁, locs, cells, slots⟩ { g with stack := rest } (.invokestatic index) mk argsL.toArray X₁ hg hsize hdg hW (X₁.named hnamed) (hpre vm₁ X₁.warmed)
  exact ⟨v, vm₁, B, X₁.warmed, X', hpost, fun target h => hstep₁ _ fun acts => by rw [doInvoke_state]; exact hsteps.trans h⟩
theorem vx_runSW {y : MethodName} {bytes cc : ByteArray} {maxL nL mc ms n index : Nat} {ret : Option FieldType} {hh : List (Nat × Nat × Nat × Nat)} {ws : List Cond} {rm : Room} {Pc : Array Value → State → Prop} {Qc : Array Value → State → Outcome → State → Prop} {free : Addr → Prop} {Ts : List Cond} {own : String} {As rest : List Value} {g : JFrame}
    (S : CallFix p m c cc nL s args Ts own) (hM : Met l y ws rm Pc Qc mc ms free) (cw : vx_CSW R s args own index y bytes maxL ret hh ws rm mc ms n) (hp : PreS s H Pc As)
    (hg : g.method = m) (hn : As.length = n) (hsize : g.locals.size = nL) (hstack : g.stack = As.reverse ++ rest) (hW : 2 * g.monitorRoom + (rest.map fun v => v.category).sum ≤ 8) (hdg : decode cc g.pc = .ok (.invokestatic index, 3)) (hf : cells + mc ≤ R.cells ∧ slots + ms ≤ R.slots) :
    va_Run p l e R s m args below meth c H locs cells slots mc ms g rest (Qc As.toArray) (free) := by
  obtain ⟨⟨hrc, hrs, hfr, hlo, hws, hcw⟩, hcode, hini, hy, hlen, hl, hstt⟩ := cw
  have hK : Back l R p e below s args y 3 8 (PreOf R mc ms Pc) (PostOf Qc mc ms free) := va_backW (hh := hh) (bytes := bytes) (maxL := maxL) (ret := ret) hM hp.1 hrc hrs hfr hlo hws hcw (fun a' U hW => word_at hW (Or.inl (by first | rfl | simp [Cond.onTables, Cond.keeps, Cond.steady])) hini)
  obtain ⟨hx, hb, hml, ho, -⟩ := S
  intro T hT X
  obtain ⟨v, vm₁, ⟨U', l2, c2, s2⟩, hW₁, X', ⟨g', mk, t, L, e1, e2, hq, h1, hL, h2, h3⟩, st⟩ := vx_callSW X hx (hh := hh) (bytes := bytes) (maxL := maxL) (ret := ret) ho hl hstt hini hcode hy hK hg (hsize.trans hml.symm) (argsL := As) (rest := rest) (fun sig h => hn.trans (hlen sig h)) hstack hW (by rw [hb]; exact hdg)
    (fun vm₁ hW₁ => ⟨hf.1, hf.2, hp.2 (T.setVm vm₁) hT hW₁⟩)
  dsimp only [Pt.U, Pt.locs, Pt.cells, Pt.slots] at X' e1 e2 h1 h2 h3 st
  subst h1; subst h2; subst h3
  exact ⟨v, (T.setVm vm₁).calling g' mk As.toArray, t, U', L, hT, X', hL, e1, e2, hq, st⟩
/-- not caught here, past rows that name other classes: it goes on to the caller -/
theorem vx_outP {p : Program} {l : Launch} {e : Env} {R : Room} {s : State} {m : MethodId} {args : Array Value} {below : List Frame} {meth : Method} {c : Code} {H : Heap} {locs : List Loc} {cells slots : Nat} {free : Addr → Prop} {ls : Array Slot} {rest : List Value} {Qc : Array Value → State → Outcome → State → Prop} {XC : String → State → State → Prop}
    {pc : Nat} {own E : String} {ce : Cell} {q : Addr} {mc ms : Nat} (hown : s.vm.findClass own = some m.cls) (hlocks : meth.locks = false)
    (hpass : ∀ z ∈ c.exceptionTable.toList, covers z pc = false ∨ (z.catchType ≠ 0 ∧ ∃ nm : String, (Cond.classLink own z.catchType nm).before args s = true ∧ va_Nc E nm s)) (hcell : H[q]? = some ce) (hv : ce.vm = .none) (hcl : s.vm.findClass E = some ce.cls)
    (hx : ∀ t : State, t.heap = H → s.vm.Alike t.vm → XC E s t) (hf : ∀ z ∈ locs, free z.base) (hc : cells ≤ mc) (hs : slots ≤ ms) :
    vx_W p l e R s m args below meth c H locs cells slots (vx_MQ below Qc XC args s mc ms free) (F0 m pc ls rest) q := by
  intro T hT X
  have hpl : e.platform.magicAccessors = ({} : Platform).magicAccessors := by rw [X.admits.platform]
  obtain ⟨vm', hW', X', st⟩ := X.outThrough hlocks q (g := F0 m pc ls rest) rfl rfl rfl (cell := ce) (by rw [hT]; exact hcell) (by rw [hv]; rfl)
    (by obtain ⟨k9, h9, -⟩ := Vm.findClass_spec hcl; exact ⟨k9, h9⟩) (fun z hz => by
      rcases hpass z hz with h | ⟨hz0, nm, hl1, hn1⟩
      · exact Or.inl h
      · obtain ⟨c6, hc6, hcl6⟩ := Cond.classLink_spec hown hl1 e.platform hpl
        obtain ⟨a8, b8, h1, h2, h3⟩ := hn1
        cases Option.some.inj (h1.symm.trans hcl)
        cases Option.some.inj (h2.symm.trans hc6)
        exact Or.inr ⟨hz0, _, hcl6, h3⟩)
  obtain ⟨g₀, hfr⟩ := X'.frames_eq
  have hcell9 : ((T.setVm vm').setFrames (.throwing q :: below)).heap[q]? = some ce := by
    show T.heap[q]? = some ce
    rw [hT]; exact hcell
  have hend : Ended ((T.setVm vm').setFrames (.throwing q :: below)) below (.threw q) := State.frames_setFrames _ (State.cur_lt_of_frames hfr)
  refine ⟨(T.setVm vm').setFrames (.throwing q :: below), ?_, .threw q, X'.here.running, hend, Or.inr ⟨q, rfl, E, ce, locs, hx _ hT (X'.ends _).1.alike, hcell9, hv, hcl, (X'.ends _).1, (X'.ends _).2.mono hc hs, hf⟩⟩
  rw [X.pushThrowing_eq]
  exact st
/-- a thing of a world lies in the heap -/
theorem vx_lt {D : va_G} {cl : List vw_C} {ws : va_W} {H1 : Heap} (h : va_P D cl ws H1) {k : Nat} {q : Nat × va_E} (hk : ws[k]? = some q) : q.1 < H1.size := (h k q hk).lt
end VXS
/-! ===== END ===== -/
/-! ===== BEGIN methods with a table of their own: called by a name, returning or throwing ===== -/
section VXH
/-! vx_backW, vx_callVX, vx_callSX, vx_callVW, vx_runVW, vx_runVX, vx_runSX, vx_ofWH follow the same proofs as their sisters above (Free/Laws.lean, Shelf42/LK1.lean); vx_outP calls Shelf42/NT130.lean (outThrough). -/
section
variable {l : Launch} {R : Room} {p : Program} {e : Env} {below : List Frame} {s : State} {sargs : Array Value} {y : MethodName} {len W9 : Nat}
theorem vx_backW {ws : List Cond} {rm : Room} {Pc : Array Value → State → Prop} {Qc : Array Value → State → Outcome → State → Prop} {XC : String → State → State → Prop} {mc ms : Nat} {free : Addr → Prop} {bytes : ByteArray} {maxL : Nat} {ret : Option FieldType} {hh : List (Nat × Nat × Nat × Nat)}
    (hM : vx_Met l y ws rm Pc Qc XC mc ms free) (hblind : FrameBlind Pc) (hrc : rm.cells = mc) (hrs : rm.slots = ms)
    (hframes : rm.frames + 1 ≤ R.frames) (hlocals : W9 + (maxL + 11) + rm.locals ≤ R.locals)
    (hws : ∀ w ∈ ws, ∀ a' U, s.WarmedH U.vm → w.before a' U = true) (hcode : Cond.codeWith y bytes maxL ret hh ∈ ws) (hinit : ∀ a' U, s.WarmedH U.vm → (Cond.initialized y.cls).before a' U = true) :
    vx_Back l R p e below s sargs y len W9 (PreOf R mc ms Pc) (PostOf Qc mc ms free) (vx_Post XC mc ms free) := by
  intro m meth c A g ig mk a X hg hsize hdg hW hn hp
  have h1 : (headSpec ws rm).pre.before a A.U = true := atoms_intro fun w hw => hws w hw _ _ X.warmed
  have h2 : (Cond.codeWith y bytes maxL ret hh).before a A.U = true := hws _ hcode _ _ X.warmed
  have h3 : (Cond.initialized y.cls).before a A.U = true := hinit _ _ X.warmed
  have h4 : A.cells + (headSpec ws rm).room.cells ≤ R.cells := by rw [show (headSpec ws rm).room.cells = mc from hrc]; exact hp.1
  have h5 : A.slots + (headSpec ws rm).room.slots ≤ R.slots := by rw [show (headSpec ws rm).room.slots = ms from hrs]; exact hp.2.1
  have hPc : Pc a (A.U.calling g mk a) := hblind _ _ _ _ hp.2.2
  obtain ⟨U, Ls, c0, s0⟩ := A
  dsimp only [Pt.U, Pt.locs, Pt.cells, Pt.slots] at h1 h2 h3 h4 h5 X hn hPc ⊢
  obtain ⟨m9, methY, cY, hn9, hmY, hcY, -, hlY, -⟩ := Cond.codeWith_spec h2
  cases Option.some.inj (hn9.symm.trans hn)
  obtain ⟨kY, hkY, -⟩ := className_of_methodNamed hn
  have hinitY : kY.init = .initialized := Cond.initialized_spec (findClass_of_methodNamed hn) hkY h3
  have h : At U g.method c below := by rw [hg]; exact X.here
  have hlocals9 : W9 + (maxL + 11) + (headSpec ws rm).room.locals ≤ R.locals := hlocals
  have happ : (headSpec ws rm).appliesLoose y e.platform (U.calling g mk a) = true :=
    Spec.appliesLoose_calling (g := g) h hdg hn hkY hinitY
      (X.room_calling (g := g) (R' := (headSpec ws rm).room) hsize hmY hcY hframes (by rw [hlY]; omega) h4 h5) h1
  obtain ⟨mid, hmid⟩ := h.above
  have hfr : (U.setTop g).frames = (.java g :: mid) ++ below := by rw [State.frames_setTop' g h.top, hmid]; rfl
  obtain ⟨o, s₂, hsteps, -, hend, hq⟩ := Steps.callFree hM p X.admits X.cas X.clock (acts := []) hfr happ hPc trivial
  have hq' : vx_Q Qc XC mc ms free a (U.calling g mk a) o s₂ := hq
  rw [State.frames_setTop' g h.top] at hend
  obtain ⟨g₀, hg0⟩ := Option.isSome_iff_exists.mp h.top
  obtain ⟨r, hr⟩ := State.topJava?_eq_some.mp hg0
  have hr' : (({ U with heap := s₂.heap, slotsUsed := s₂.slotsUsed } : State).setVm s₂.vm).frames = .java g₀ :: r := hr
  rcases hq' with ⟨hqc, L, hfe, hL⟩ | ⟨q, rfl, E, ce, L, hx, hce, hcv, hcl, hW₂, hsm, hL⟩
  · obtain ⟨⟨v, rfl⟩, hW₂, e2, q2, q3, q4, q5, q6⟩ := id hfe
    have e3 : s₂ = ({ (U.calling g mk a).setFrames s₂.frames with heap := s₂.heap, slotsUsed := s₂.slotsUsed } : State).setVm s₂.vm := by
      have : s₂ = ({ s₂ with vm := (U.calling g mk a).vm } : State).setVm s₂.vm := rfl
      rw [e2] at this
      exact this
    obtain ⟨c₂, i₂, len₂, hc₂, hd₂, hf₂⟩ := hend
    have hW' : U.WarmedH s₂.vm := hW₂
    have hcc : c₂ = c := by
      have h1 : s₂.code? g.method = U.code? g.method := by
        rw [State.code?_eq, State.code?_eq, hW'.alike.method?]
      exact Option.some.inj (hc₂.symm.trans (h1.trans h.code))
    subst hcc
    have hlen : len₂ = len := by rw [hdg] at hd₂; cases hd₂; rfl
    subst hlen
    have hs₂ : s₂ = (({ U with heap := s₂.heap, slotsUsed := s₂.slotsUsed } : State).setVm s₂.vm).setTop { g with pc := g.pc + len₂, stack := v.toList ++ g.stack } := by
      refine e3.trans ?_
      rw [hf₂, State.calling_eq h.top, State.setFrames_setFrames, State.setTop_of_frames _ hr', hr]
      rfl
    have hsame : U.sameButNew ({ U with heap := s₂.heap, slotsUsed := s₂.slotsUsed } : State) L mc ms := by
      refine ⟨?_, q2, q3, q4, q5, q6⟩
      obtain ⟨t, ht, -⟩ := State.frames_cons hr
      show ({ U with heap := s₂.heap, slotsUsed := s₂.slotsUsed } : State) = { U.setFrames U.frames with heap := s₂.heap, slotsUsed := s₂.slotsUsed }
      rw [State.setFrames_self ht]
    subst hg
    refine Or.inl ⟨v, ⟨(({ U with heap := s₂.heap, slotsUsed := s₂.slotsUsed } : State).setVm s₂.vm), Ls ++ L, c0 + mc, s0 + ms⟩,
      ⟨X.admits, X.cas, X.clock, X.frames, X.room, X.hears, X.method, X.code, (X.here.setHeapUsed s₂.heap s₂.slotsUsed).setVm hW'.alike, X.tail, State.WarmedH.trans X.warmed hW', X.limits, X.bytes, X.same.trans (hsame.setVm s.vm)⟩,
      ⟨g, mk, s₂, L, rfl, rfl, hqc, rfl, hL, rfl, rfl⟩, ?_⟩
    show Steps p.tables e below _ ((({ U with heap := s₂.heap, slotsUsed := s₂.slotsUsed } : State).setVm s₂.vm).setTop { g with pc := g.pc + len₂, stack := v.toList ++ g.stack })
    rw [← hs₂]
    exact hsteps
  · obtain ⟨e2, q2, q3, q4, q5, q6⟩ := id hsm
    have e3 : s₂ = ({ (U.calling g mk a).setFrames s₂.frames with heap := s₂.heap, slotsUsed := s₂.slotsUsed } : State).setVm s₂.vm := by
      have : s₂ = ({ s₂ with vm := (U.calling g mk a).vm } : State).setVm s₂.vm := rfl
      rw [e2] at this
      exact this
    have hf₂ : s₂.frames = .throwing q :: .java g :: U.frames.tail := hend
    have hW' : U.WarmedH s₂.vm := hW₂
    have hs₂ : s₂ = ((({ U with heap := s₂.heap, slotsUsed := s₂.slotsUsed } : State).setVm s₂.vm).setTop g).pushFrame (.throwing q) := by
      refine e3.trans ?_
      rw [hf₂, State.calling_eq h.top, State.setFrames_setFrames, State.pushFrame, State.frames_setTop _ hr', State.setTop_of_frames _ hr', State.setFrames_setFrames, hr]
      rfl
    have hsame : U.sameButNew ({ U with heap := s₂.heap, slotsUsed := s₂.slotsUsed } : State) L mc ms := by
      refine ⟨?_, q2, q3, q4, q5, q6⟩
      obtain ⟨t, ht, -⟩ := State.frames_cons hr
      show ({ U with heap := s₂.heap, slotsUsed := s₂.slotsUsed } : State) = { U.setFrames U.frames with heap := s₂.heap, slotsUsed := s₂.slotsUsed }
      rw [State.setFrames_self ht]
    subst hg
    refine Or.inr ⟨q, ⟨(({ U with heap := s₂.heap, slotsUsed := s₂.slotsUsed } : State).setVm s₂.vm), Ls ++ L, c0 + mc, s0 + ms⟩,
      ⟨X.admits, X.cas, X.clock, X.frames, X.room, X.hears, X.method, X.code, (X.here.setHeapUsed s₂.heap s₂.slotsUsed).setVm hW'.alike, X.tail, State.WarmedH.trans X.warmed hW', X.limits, X.bytes, X.same.trans (hsame.setVm s.vm)⟩,
      ⟨g, mk, s₂, L, E, ce, rfl, rfl, hx, hce, hcv, hcl, rfl, hL, rfl, rfl⟩, ?_⟩
    show Steps p.tables e below _ (((({ U with heap := s₂.heap, slotsUsed := s₂.slotsUsed } : State).setVm s₂.vm).setTop g).pushFrame (.throwing q))
    rw [← hs₂]
    exact hsteps
end
variable {p : Program} {l : Launch} {e : Env} {R : Room} {s : State} {m : MethodId} {args : Array Value} {below : List Frame} {meth : Method} {c : Code} {T : State} {H : Heap} {locs : List Loc} {cells slots : Nat}
theorem vx_callVX (X : Stand p l e R s m args below meth c T locs cells slots) (hexec : p.tables.exec = Jvm.exec) {own C : String} {index : Nat} {y : MethodName} {bytes : ByteArray} {maxL : Nat} {ret : Option FieldType} {hh : List (Nat × Nat × Nat × Nat)}
    (hown : s.vm.findClass own = some m.cls) (hlink : (Cond.methodLink own index y).before args s = true) (hinst : (Cond.instanceMethod y).before args s = true) (hsel : (Cond.selects C y y).before args s = true)
    (hcode : (Cond.codeWith y bytes maxL ret hh).before args s = true) (hy : y.cls ≠ "java/lang/invoke/MethodHandle" ∧ y.cls ≠ "java/lang/invoke/VarHandle")
    {W9 : Nat} {Pre : Pt → Array Value → Prop} {Post : Pt → Array Value → Option Value → Pt → Prop} {PostX : Pt → Array Value → Addr → Pt → Prop} (hK : vx_Back l R p e below s args y 3 W9 Pre Post PostX)
    {b : Addr} {cellB : Cell} (hcell : T.heap[b]? = some cellB) (hobj : cellB.vm.isStatics = false) (hcls : s.vm.findClass C = some cellB.cls)
    {g : JFrame} (hg : g.method = m) (hsize : g.locals.size = c.maxLocals) {argsL rest : List Value} (hlen : ∀ sig, parseMethodDescriptor y.desc = some sig → argsL.length = sig.parameters.length)
    (hstack : g.stack = argsL.reverse ++ .ref b :: rest) (hW : 2 * g.monitorRoom + (rest.map fun v => v.category).sum ≤ W9) (hdg : decode c.code g.pc = .ok (.invokevirtual index, 3))
    (hpre : ∀ vm₁, s.WarmedH vm₁ → Pre ⟨T.setVm vm₁, locs, cells, slots⟩ (Value.ref b :: argsL).toArray) :
    (∃ (v : Option Value) (vm₁ : Vm) (B : Pt), s.WarmedH vm₁ ∧ Stand p l e R s m args below meth c B.U B.locs B.cells B.slots ∧ Post ⟨T.setVm vm₁, locs, cells, slots⟩ (Value.ref b :: argsL).toArray v B ∧
      ∀ target, Steps p.tables e below (B.U.setTop { g with pc := g.pc + 3, stack := v.toList ++ rest }) target → Steps p.tables e below (T.setTop g) target) ∨
    (∃ (q : Addr) (vm₁ : Vm) (B : Pt), s.WarmedH vm₁ ∧ Stand p l e R s m args below meth c B.U B.locs B.cells B.slots ∧ PostX ⟨T.setVm vm₁, locs, cells, slots⟩ (Value.ref b :: argsL).toArray q B ∧
      Steps p.tables e below (T.setTop g) ((B.U.setTop { g with stack := rest }).pushFrame (.throwing q))) := by
  obtain ⟨mk, methM, hnamed, hmethM, hstM, habM⟩ := Cond.instanceMethod_spec hinst
  obtain ⟨m8, methM', cM, hn8, hmethM', -, -, -, -, -, -, hsigM⟩ := Cond.codeWith_spec hcode
  cases Option.some.inj (hn8.symm.trans hnamed)
  cases hmethM.symm.trans hmethM'
  obtain ⟨c2, r2, m2, q1, q2, q3, q4, kP, hkP, hkPi⟩ := Cond.selects_spec hsel
  cases hcls.symm.trans q1
  cases (State.methodFound?_of_named hnamed hy).symm.trans q2
  cases hnamed.symm.trans q3
  have hselP : selectMethod e.platform s.vm cellB.cls mk = .method mk := by rw [Launch.admits_selectMethod X.admits]; exact q4
  obtain ⟨vm₁, X₁, hstep₁⟩ := X.invokevirtual hexec hown hlink hnamed hmethM hstM hkP hkPi hy (a := b) (cell := cellB) hcell
    (fun z h => by rw [h] at hobj; cases hobj) hselP hmethM habM hkP hkPi (g := g) hg (argsL := argsL) (rest := rest) (hlen _ hsigM) hstack hdg
  rcases hK m meth c ⟨T.setVm vm₁, locs, cells, slots⟩ { g with stack := rest } (.invokevirtual index) mk (Value.ref b :: argsL).toArray X₁ hg hsize hdg hW (X₁.named hnamed) (hpre vm₁ X₁.warmed) with ⟨v, B, X', hpost, hsteps⟩ | ⟨q, B, X', hpost, hsteps⟩
  · exact Or.inl ⟨v, vm₁, B, X₁.warmed, X', hpost, fun target h => hstep₁ _ fun acts => by rw [doInvoke_state]; exact hsteps.trans h⟩
  · exact Or.inr ⟨q, vm₁, B, X₁.warmed, X', hpost, hstep₁ _ fun acts => by rw [doInvoke_state]; exact hsteps⟩
theorem vx_callSX (X : Stand p l e R s m args below meth c T locs cells slots) (hexec : p.tables.exec = Jvm.exec) {own : String} {index : Nat} {y : MethodName} {bytes : ByteArray} {maxL : Nat} {ret : Option FieldType} {hh : List (Nat × Nat × Nat × Nat)}
    (hown : s.vm.findClass own = some m.cls) (hlink : (Cond.methodLink own index y).before args s = true) (hstat : (Cond.static y).before args s = true) (hinit : (Cond.initialized y.cls).before args s = true)
    (hcode : (Cond.codeWith y bytes maxL ret hh).before args s = true) (hy : y.cls ≠ "java/lang/invoke/MethodHandle" ∧ y.cls ≠ "java/lang/invoke/VarHandle")
    {W9 : Nat} {Pre : Pt → Array Value → Prop} {Post : Pt → Array Value → Option Value → Pt → Prop} {PostX : Pt → Array Value → Addr → Pt → Prop} (hK : vx_Back l R p e below s args y 3 W9 Pre Post PostX)
    {g : JFrame} (hg : g.method = m) (hsize : g.locals.size = c.maxLocals) {argsL rest : List Value} (hlen : ∀ sig, parseMethodDescriptor y.desc = some sig → argsL.length = sig.parameters.length)
    (hstack : g.stack = argsL.reverse ++ rest) (hW : 2 * g.monitorRoom + (rest.map fun v => v.category).sum ≤ W9) (hdg : decode c.code g.pc = .ok (.invokestatic index, 3))
    (hpre : ∀ vm₁, s.WarmedH vm₁ → Pre ⟨T.setVm vm₁, locs, cells, slots⟩ argsL.toArray) :
    (∃ (v : Option Value) (vm₁ : Vm) (B : Pt), s.WarmedH vm₁ ∧ Stand p l e R s m args below meth c B.U B.locs B.cells B.slots ∧ Post ⟨T.setVm vm₁, locs, cells, slots⟩ argsL.toArray v B ∧
      ∀ target, Steps p.tables e below (B.U.setTop { g with pc := g.pc + 3, stack := v.toList ++ rest }) target → Steps p.tables e below (T.setTop g) target) ∨
    (∃ (q : Addr) (vm₁ : Vm) (B : Pt), s.WarmedH vm₁ ∧ Stand p l e R s m args below meth c B.U B.locs B.cells B.slots ∧ PostX ⟨T.setVm vm₁, locs, cells, slots⟩ argsL.toArray q B ∧
      Steps p.tables e below (T.setTop g) ((B.U.setTop { g with stack := rest }).pushFrame (.throwing q))) := by
  obtain ⟨mk, methM, cM, hnamed, hmethM, -, -, -, -, -, -, hsigM⟩ := Cond.codeWith_spec hcode
  have hstatic : methM.isStatic = true := Cond.static_spec hnamed hmethM hstat
  obtain ⟨kP, hkP, -⟩ := className_of_methodNamed hnamed
  have hinitP : kP.init = .initialized := Cond.initialized_spec (findClass_of_methodNamed hnamed) hkP hinit
  obtain ⟨vm₁, X₁, hstep₁⟩ := X.invokestatic hexec hown hlink hnamed hmethM hstatic hkP hinitP hy (g := g) hg (argsL := argsL) (rest := rest) (hlen _ hsigM) hstack hdg
  rcases hK m meth c ⟨T.setVm vm₁, locs, cells, slots⟩ { g with stack := rest } (.invokestatic index) mk argsL.toArray X₁ hg hsize hdg hW (X₁.named hnamed) (hpre vm₁ X₁.warmed) with ⟨v, B, X', hpost, hsteps⟩ | ⟨q, B, X', hpost, hsteps⟩
  · exact Or.inl ⟨v, vm₁, B, X₁.warmed, X', hpost, fun target h => hstep₁ _ fun acts => by rw [doInvoke_state]; exact hsteps.trans h⟩
  · exact Or.inr ⟨q, vm₁, B, X₁.warmed, X', hpost, hstep₁ _ fun acts => by rw [doInvoke_state]; exact hsteps⟩
theorem vx_callVW (X : Stand p l e R s m args below meth c T locs cells slots) (hexec : p.tables.exec = Jvm.exec) {own C : String} {index : Nat} {y : MethodName} {bytes : ByteArray} {maxL : Nat} {ret : Option FieldType} {hh : List (Nat × Nat × Nat × Nat)}
    (hown : s.vm.findClass own = some m.cls) (hlink : (Cond.methodLink own index y).before args s = true) (hinst : (Cond.instanceMethod y).before args s = true) (hsel : (Cond.selects C y y).before args s = true)
    (hcode : (Cond.codeWith y bytes maxL ret hh).before args s = true) (hy : y.cls ≠ "java/lang/invoke/MethodHandle" ∧ y.cls ≠ "java/lang/invoke/VarHandle")
    {W9 : Nat} {Pre : Pt → Array Value → Prop} {Post : Pt → Array Value → Option Value → Pt → Prop} (hK : Back l R p e below s args y 3 W9 Pre Post)
    {b : Addr} {cellB : Cell} (hcell : T.heap[b]? = some cellB) (hobj : cellB.vm.isStatics = false) (hcls : s.vm.findClass C = some cellB.cls)
    {g : JFrame} (hg : g.method = m) (hsize : g.locals.size = c.maxLocals) {argsL rest : List Value} (hlen : ∀ sig, parseMethodDescriptor y.desc = some sig → argsL.length = sig.parameters.length)
    (hstack : g.stack = argsL.reverse ++ .ref b :: rest) (hW : 2 * g.monitorRoom + (rest.map fun v => v.category).sum ≤ W9) (hdg : decode c.code g.pc = .ok (.invokevirtual index, 3))
    (hpre : ∀ vm₁, s.WarmedH vm₁ → Pre ⟨T.setVm vm₁, locs, cells, slots⟩ (Value.ref b :: argsL).toArray) :
    ∃ (v : Option Value) (vm₁ : Vm) (B : Pt), s.WarmedH vm₁ ∧ Stand p l e R s m args below meth c B.U B.locs B.cells B.slots ∧ Post ⟨T.setVm vm₁, locs, cells, slots⟩ (Value.ref b :: argsL).toArray v B ∧
      ∀ target, Steps p.tables e below (B.U.setTop { g with pc := g.pc + 3, stack := v.toList ++ rest }) target → Steps p.tables e below (T.setTop g) target := by
  obtain ⟨mk, methM, hnamed, hmethM, hstM, habM⟩ := Cond.instanceMethod_spec hinst
  obtain ⟨m8, methM', cM, hn8, hmethM', -, -, -, -, -, -, hsigM⟩ := Cond.codeWith_spec hcode
  cases Option.some.inj (hn8.symm.trans hnamed)
  cases hmethM.symm.trans hmethM'
  obtain ⟨c2, r2, m2, q1, q2, q3, q4, kP, hkP, hkPi⟩ := Cond.selects_spec hsel
  cases hcls.symm.trans q1
  cases (State.methodFound?_of_named hnamed hy).symm.trans q2
  cases hnamed.symm.trans q3
  have hselP : selectMethod e.platform s.vm cellB.cls mk = .method mk := by rw [Launch.admits_selectMethod X.admits]; exact q4
  obtain ⟨vm₁, X₁, hstep₁⟩ := X.invokevirtual hexec hown hlink hnamed hmethM hstM hkP hkPi hy (a := b) (cell := cellB) hcell
    (fun z h => by rw [h] at hobj; cases hobj) hselP hmethM habM hkP hkPi (g := g) hg (argsL := argsL) (rest := rest) (hlen _ hsigM) hstack hdg
  obtain ⟨v, B, X', hpost, hsteps⟩ := hK m meth c ⟨T.setVm vm₁, locs, cells, slots⟩ { g with stack := rest } (.invokevirtual index) mk (Value.ref b :: argsL).toArray X₁ hg hsize hdg hW (X₁.named hnamed) (hpre vm₁ X₁.warmed)
  exact ⟨v, vm₁, B, X₁.warmed, X', hpost, fun target h => hstep₁ _ fun acts => by rw [doInvoke_state]; exact hsteps.trans h⟩
abbrev vx_CVW (R : Room) (s : State) (args : Array Value) (own C : String) (index : Nat) (y : MethodName) (bytes : ByteArray) (maxL : Nat) (ret : Option FieldType) (hh : List (Nat × Nat × Nat × Nat)) (ws : List Cond) (rm : Room) (mc ms n : Nat) : Prop :=
  (rm.cells = mc ∧ rm.slots = ms ∧ rm.frames + 1 ≤ R.frames ∧ 8 + (maxL + 11) + rm.locals ≤ R.locals ∧ (∀ w ∈ ws, ∀ (a' : Array Value) (U : State), s.WarmedH U.vm → w.before a' U = true) ∧ Cond.codeWith y bytes maxL ret hh ∈ ws) ∧
  (Cond.codeWith y bytes maxL ret hh).before args s = true ∧ (Cond.initialized y.cls).before args s = true ∧ (y.cls ≠ "java/lang/invoke/MethodHandle" ∧ y.cls ≠ "java/lang/invoke/VarHandle") ∧
  (∀ sig, parseMethodDescriptor y.desc = some sig → n = sig.parameters.length) ∧ (Cond.methodLink own index y).before args s = true ∧ (Cond.instanceMethod y).before args s = true ∧ (Cond.selects C y y).before args s = true
theorem vx_cwVW {own C : String} {index maxL mc ms : Nat} {y : MethodName} {bytes : ByteArray} {ret : Option FieldType} {hh : List (Nat × Nat × Nat × Nat)} {Ts ws ws' : List Cond} {rm : Room} (n : Nat) (ht : ∀ w ∈ Ts, w.before args s = true) (hT : GoodIn Ts (wsV own index C y ws)) (hw : ws = Cond.codeWith y bytes maxL ret hh :: ws') (hrc : rm.cells = mc) (hrs : rm.slots = ms)
    (hd : y.cls = C ∧ y.cls ≠ "java/lang/invoke/MethodHandle" ∧ y.cls ≠ "java/lang/invoke/VarHandle" ∧ (parseMethodDescriptor y.desc).map (fun d => d.parameters.length) = some n) (hR : rm.frames + 1 ≤ R.frames ∧ 8 + (maxL + 11) + rm.locals ≤ R.locals) :
    vx_CVW R s args own C index y bytes maxL ret hh ws rm mc ms n := by
  obtain ⟨hC, hd⟩ := hd
  subst hC
  have ok : ∀ w ∈ wsV own index y.cls y ws, w.before args s = true := fun w h => ht w (hT w h).1
  have hG : GoodIn Ts ws := fun w h => hT w (by unfold wsV; exact List.mem_append_right _ h)
  have hc : Cond.codeWith y bytes maxL ret hh ∈ ws := by rw [hw]; exact List.mem_cons_self
  refine ⟨⟨hrc, hrs, hR.1, hR.2, pay_in ht hG, hc⟩, ht _ (hG _ hc).1, ok _ (by simp [wsV]), ⟨hd.1, hd.2.1⟩, fun sig h => ?_, ok _ (by simp [wsV]), ok _ (by simp [wsV]), ok _ (by simp [wsV])⟩
  have h2 := hd.2.2
  rw [h] at h2
  exact (Option.some.inj h2).symm
theorem vx_runVW {y : MethodName} {bytes cc : ByteArray} {maxL nL mc ms n index : Nat} {ret : Option FieldType} {hh : List (Nat × Nat × Nat × Nat)} {ws : List Cond} {rm : Room} {Pc : Array Value → State → Prop} {Qc : Array Value → State → Outcome → State → Prop} {free : Addr → Prop} {Ts : List Cond} {own C : String} {b : Addr} {As rest : List Value} {g : JFrame}
    (S : CallFix p m c cc nL s args Ts own) (hM : Met l y ws rm Pc Qc mc ms free) (cw : vx_CVW R s args own C index y bytes maxL ret hh ws rm mc ms n) (hp : PreV s H C b Pc As)
    (hg : g.method = m) (hn : As.length = n) (hsize : g.locals.size = nL) (hstack : g.stack = As.reverse ++ .ref b :: rest) (hW : 2 * g.monitorRoom + (rest.map fun v => v.category).sum ≤ 8) (hdg : decode cc g.pc = .ok (.invokevirtual index, 3)) (hf : cells + mc ≤ R.cells ∧ slots + ms ≤ R.slots) :
    va_Run p l e R s m args below meth c H locs cells slots mc ms g rest (Qc (Value.ref b :: As).toArray) free := by
  obtain ⟨⟨hrc, hrs, hfr, hlo, hws, hcw⟩, hcode, hini, hy, hlen, hl, hin, hse⟩ := cw
  have hK : Back l R p e below s args y 3 8 (PreOf R mc ms Pc) (PostOf Qc mc ms free) := va_backW (hh := hh) (bytes := bytes) (maxL := maxL) (ret := ret) hM hp.1 hrc hrs hfr hlo hws hcw (fun a' U hW => word_at hW (Or.inl (by first | rfl | simp [Cond.onTables, Cond.keeps, Cond.steady])) hini)
  obtain ⟨hx, hb, hml, ho, -⟩ := S
  obtain ⟨-, ⟨cellB, hcB, hoB, hclB⟩, hPc⟩ := hp
  intro T hT X
  obtain ⟨v, vm₁, ⟨U', l2, c2, s2⟩, hW₁, X', ⟨g', mk, t, L, e1, e2, hq, h1, hL, h2, h3⟩, st⟩ := vx_callVW X hx (C := C) (hh := hh) (bytes := bytes) (maxL := maxL) (ret := ret) ho hl hin hse hcode hy hK (by rw [hT]; exact hcB) hoB hclB hg (hsize.trans hml.symm) (argsL := As) (rest := rest) (fun sig h => hn.trans (hlen sig h)) hstack hW (by rw [hb]; exact hdg)
    (fun vm₁ hW₁ => ⟨hf.1, hf.2, hPc (T.setVm vm₁) hT hW₁⟩)
  dsimp only [Pt.U, Pt.locs, Pt.cells, Pt.slots] at X' e1 e2 h1 h2 h3 st
  subst h1; subst h2; subst h3
  exact ⟨v, (T.setVm vm₁).calling g' mk (Value.ref b :: As).toArray, t, U', L, hT, X', hL, e1, e2, hq, st⟩
section
variable {y : MethodName} {bytes cc : ByteArray} {maxL nL mc ms n index : Nat} {ret : Option FieldType} {ws : List Cond} {rm : Room} {Pc : Array Value → State → Prop} {Qc : Array Value → State → Outcome → State → Prop} {XC : String → State → State → Prop} {free : Addr → Prop} {Ts : List Cond} {own C : String} {b : Addr} {As rest : List Value} {g : JFrame}
theorem vx_runVX {hh : List (Nat × Nat × Nat × Nat)} (S : CallFix p m c cc nL s args Ts own) (hM : vx_Met l y ws rm Pc Qc XC mc ms free) (cw : vx_CVW R s args own C index y bytes maxL ret hh ws rm mc ms n) (hp : PreV s H C b Pc As)
    (hg : g.method = m) (hn : As.length = n) (hsize : g.locals.size = nL) (hstack : g.stack = As.reverse ++ .ref b :: rest) (hW : 2 * g.monitorRoom + (rest.map fun v => v.category).sum ≤ 8) (hdg : decode cc g.pc = .ok (.invokevirtual index, 3)) (hf : cells + mc ≤ R.cells ∧ slots + ms ≤ R.slots) :
    vx_Run p l e R s m args below meth c H locs cells slots mc ms g rest (Qc (Value.ref b :: As).toArray) XC free := by
  obtain ⟨⟨hrc, hrs, hfr, hlo, hws, hcw⟩, hcode, hini, hy, hlen, hl, hin, hse⟩ := cw
  have hK : vx_Back l R p e below s args y 3 8 (PreOf R mc ms Pc) (PostOf Qc mc ms free) (vx_Post XC mc ms free) := vx_backW (hh := hh) (bytes := bytes) (maxL := maxL) (ret := ret) hM hp.1 hrc hrs hfr hlo hws hcw (fun a' U hW => word_at hW (Or.inl (by first | rfl | simp [Cond.onTables, Cond.keeps, Cond.steady])) hini)
  obtain ⟨hx, hb, hml, ho, -⟩ := S
  obtain ⟨-, ⟨cellB, hcB, hoB, hclB⟩, hPc⟩ := hp
  intro T hT X
  rcases vx_callVX X hx (C := C) (hh := hh) (bytes := bytes) (maxL := maxL) (ret := ret) ho hl hin hse hcode hy hK (by rw [hT]; exact hcB) hoB hclB hg (hsize.trans hml.symm) (argsL := As) (rest := rest) (fun sig h => hn.trans (hlen sig h)) hstack hW (by rw [hb]; exact hdg)
    (fun vm₁ hW₁ => ⟨hf.1, hf.2, hPc (T.setVm vm₁) hT hW₁⟩) with ⟨v, vm₁, ⟨U', l2, c2, s2⟩, hW₁, X', ⟨g', mk, t, L, e1, e2, hq, h1, hL, h2, h3⟩, st⟩ | ⟨q, vm₁, ⟨U', l2, c2, s2⟩, hW₁, X', ⟨g', mk, t, L, E, ce, e1, e2, hq, hce, hcv, hcl, h1, hL, h2, h3⟩, st⟩
  · dsimp only [Pt.U, Pt.locs, Pt.cells, Pt.slots] at X' e1 e2 h1 h2 h3 st
    subst h1; subst h2; subst h3
    exact Or.inl ⟨v, (T.setVm vm₁).calling g' mk (Value.ref b :: As).toArray, t, U', L, hT, X', hL, e1, e2, hq, st⟩
  · dsimp only [Pt.U, Pt.locs, Pt.cells, Pt.slots] at X' e1 e2 h1 h2 h3 st hcl
    subst h1; subst h2; subst h3
    exact Or.inr ⟨q, (T.setVm vm₁).calling g' mk (Value.ref b :: As).toArray, t, U', L, E, ce, hT, X', hL, e1, e2, hq, hce, hcv, vx_cls hW₁ hcl, st⟩
theorem vx_runSX {hh : List (Nat × Nat × Nat × Nat)} (S : CallFix p m c cc nL s args Ts own) (hM : vx_Met l y ws rm Pc Qc XC mc ms free) (cw : vx_CSW R s args own index y bytes maxL ret hh ws rm mc ms n) (hp : PreS s H Pc As)
    (hg : g.method = m) (hn : As.length = n) (hsize : g.locals.size = nL) (hstack : g.stack = As.reverse ++ rest) (hW : 2 * g.monitorRoom + (rest.map fun v => v.category).sum ≤ 8) (hdg : decode cc g.pc = .ok (.invokestatic index, 3)) (hf : cells + mc ≤ R.cells ∧ slots + ms ≤ R.slots) :
    vx_Run p l e R s m args below meth c H locs cells slots mc ms g rest (Qc As.toArray) XC free := by
  obtain ⟨⟨hrc, hrs, hfr, hlo, hws, hcw⟩, hcode, hini, hy, hlen, hl, hstt⟩ := cw
  have hK : vx_Back l R p e below s args y 3 8 (PreOf R mc ms Pc) (PostOf Qc mc ms free) (vx_Post XC mc ms free) := vx_backW (hh := hh) (bytes := bytes) (maxL := maxL) (ret := ret) hM hp.1 hrc hrs hfr hlo hws hcw (fun a' U hW => word_at hW (Or.inl (by first | rfl | simp [Cond.onTables, Cond.keeps, Cond.steady])) hini)
  obtain ⟨hx, hb, hml, ho, -⟩ := S
  intro T hT X
  rcases vx_callSX X hx (hh := hh) (bytes := bytes) (maxL := maxL) (ret := ret) ho hl hstt hini hcode hy hK hg (hsize.trans hml.symm) (argsL := As) (rest := rest) (fun sig h => hn.trans (hlen sig h)) hstack hW (by rw [hb]; exact hdg)
    (fun vm₁ hW₁ => ⟨hf.1, hf.2, hp.2 (T.setVm vm₁) hT hW₁⟩) with ⟨v, vm₁, ⟨U', l2, c2, s2⟩, hW₁, X', ⟨g', mk, t, L, e1, e2, hq, h1, hL, h2, h3⟩, st⟩ | ⟨q, vm₁, ⟨U', l2, c2, s2⟩, hW₁, X', ⟨g', mk, t, L, E, ce, e1, e2, hq, hce, hcv, hcl, h1, hL, h2, h3⟩, st⟩
  · dsimp only [Pt.U, Pt.locs, Pt.cells, Pt.slots] at X' e1 e2 h1 h2 h3 st
    subst h1; subst h2; subst h3
    exact Or.inl ⟨v, (T.setVm vm₁).calling g' mk As.toArray, t, U', L, hT, X', hL, e1, e2, hq, st⟩
  · dsimp only [Pt.U, Pt.locs, Pt.cells, Pt.slots] at X' e1 e2 h1 h2 h3 st hcl
    subst h1; subst h2; subst h3
    exact Or.inr ⟨q, (T.setVm vm₁).calling g' mk As.toArray, t, U', L, E, ce, hT, X', hL, e1, e2, hq, hce, hcv, vx_cls hW₁ hcl, st⟩
end
end VXH
theorem vx_ofWH {l : Launch} {y : MethodName} {ws ws' : List Cond} {rm : Room} {Pc : Array Value → State → Prop} {Qc : Array Value → State → Outcome → State → Prop} {XC : String → State → State → Prop} {mc ms : Nat} {free : Addr → Prop} {cc : ByteArray} {maxL : Nat} {ret : Option FieldType} {hh : List (Nat × Nat × Nat × Nat)}
    (hy : plainName y.cls = true) (hw : ws = Cond.codeWith y cc maxL ret hh :: ws')
    (body : ∀ p e s m args below meth c s₁, BodyLoose p l y (headSpec ws rm) cc maxL ret e s m args below meth c s₁ → c.maxLocals = maxL → Pc args s →
      W p l e (headSpec ws rm).room s m args below meth c s.heap [] 0 0 (vx_MQ below Qc XC args s mc ms free) (entryFrame m args maxL)) : vx_Met l y ws rm Pc Qc XC mc ms free := by
  refine MetFree.of_bodyS (code := cc) (maxLocals := maxL) (ret := ret) hy ?_ ?_
  · intro args s m h hn
    obtain ⟨m9, meth, c, hn9, h1, h2, h3, h4, -, h5, h6, -⟩ := Cond.codeWith_spec (atoms_spec (ws := ws) h _ (by rw [hw]; exact List.mem_cons_self))
    cases hn.symm.trans hn9
    exact ⟨meth, c, h1, h2, h3, h4, h5, h6⟩
  · intro p e s m args below meth c s₁ B hml hP _
    have hh0 : s₁.heap = s.heap := by rw [B.state]; rfl
    obtain ⟨t, a1, o, b1, b2, b3⟩ := body p e s m args below meth c s₁ B hml hP s₁ hh0 (Stand.of_body B)
    exact ⟨t, o, a1, b1, b2, b3⟩
/-! ===== END ===== -/
end
section
/-! names: written by wip/whole/names.py out of javap's listing and the Statement's words -/
def RX0 : String := "TinyCache$Index"
def RX1 : String := "TinyCache$Item"
def RX2 : String := "TinyCache$Log"
def RX3 : String := "TinyCache$Page"
def RX4 : String := "TinyCache"
def RX5 : String := "TinyCacheModel"
def TX0 : u_T := fun k => match k with
  | 0 => ("TinyCache$Index", "items", "[LTinyCache$Item;", true)
  | 1 => ("TinyCache$Index", "perSet", "[I", true)
  | _ => ("TinyCache$Index", "size", "I", false)
def tyX0 : Nat → FieldType := fun k => match k with
  | 0 => .array (.object "TinyCache$Item")
  | 1 => .array .int
  | _ => .int
def TX1 : u_T := fun k => match k with
  | 0 => ("TinyCache$Item", "key", "J", true)
  | 1 => ("TinyCache$Item", "value", "[I", true)
  | 2 => ("TinyCache$Item", "set", "I", true)
  | 3 => ("TinyCache$Item", "bit", "J", true)
  | 4 => ("TinyCache$Item", "logPage", "I", false)
  | _ => ("TinyCache$Item", "got", "Z", false)
def tyX1 : Nat → FieldType := fun k => match k with
  | 0 => .long
  | 1 => .array .int
  | 2 => .int
  | 3 => .long
  | 4 => .int
  | _ => .boolean
def TX2 : u_T := fun k => match k with
  | 0 => ("TinyCache$Log", "pages", "[LTinyCache$Page;", true)
  | 1 => ("TinyCache$Log", "index", "LTinyCache$Index;", true)
  | 2 => ("TinyCache$Log", "openPage", "LTinyCache$Page;", false)
  | _ => ("TinyCache$Log", "written", "I", false)
def tyX2 : Nat → FieldType := fun k => match k with
  | 0 => .array (.object "TinyCache$Page")
  | 1 => .object "TinyCache$Index"
  | 2 => .object "TinyCache$Page"
  | _ => .int
def TX3 : u_T := fun k => match k with
  | 0 => ("TinyCache$Page", "items", "[LTinyCache$Item;", true)
  | 1 => ("TinyCache$Page", "size", "I", false)
  | 2 => ("TinyCache$Page", "words", "I", false)
  | _ => ("TinyCache$Page", "filter", "J", false)
def tyX3 : Nat → FieldType := fun k => match k with
  | 0 => .array (.object "TinyCache$Item")
  | 1 => .int
  | 2 => .int
  | _ => .long
def TX4 : u_T := fun k => match k with
  | 0 => ("TinyCache", "buffer", "[I", true)
  | 1 => ("TinyCache", "sets", "[LTinyCache$Page;", true)
  | 2 => ("TinyCache", "log", "LTinyCache$Log;", true)
  | 3 => ("TinyCache", "counts", "[I", true)
  | 4 => ("TinyCache", "gathered", "[LTinyCache$Item;", true)
  | 5 => ("TinyCache", "anew", "[LTinyCache$Item;", true)
  | 6 => ("TinyCache", "found", "LTinyCache$Item;", false)
  | _ => ("TinyCache", "isOpen", "Z", false)
def tyX4 : Nat → FieldType := fun k => match k with
  | 0 => .array .int
  | 1 => .array (.object "TinyCache$Page")
  | 2 => .object "TinyCache$Log"
  | 3 => .array .int
  | 4 => .array (.object "TinyCache$Item")
  | 5 => .array (.object "TinyCache$Item")
  | 6 => .object "TinyCache$Item"
  | _ => .boolean
def TX5 : u_T := fun k => match k with
  | 0 => ("TinyCacheModel", "thrown", "I", false)
  | 1 => ("TinyCacheModel", "isOpen", "Z", false)
  | 2 => ("TinyCacheModel", "buffer", "[I", true)
  | 3 => ("TinyCacheModel", "gotLength", "I", false)
  | 4 => ("TinyCacheModel", "gotWords", "[I", true)
  | 5 => ("TinyCacheModel", "objects", "I", false)
  | 6 => ("TinyCacheModel", "keys", "[J", true)
  | 7 => ("TinyCacheModel", "lengths", "[I", true)
  | 8 => ("TinyCacheModel", "words", "[I", true)
  | 9 => ("TinyCacheModel", "isNewest", "[Z", true)
  | 10 => ("TinyCacheModel", "wasGot", "[Z", true)
  | 11 => ("TinyCacheModel", "came", "[I", true)
  | 12 => ("TinyCacheModel", "isMarked", "[Z", true)
  | 13 => ("TinyCacheModel", "turn", "I", false)
  | 14 => ("TinyCacheModel", "many", "[I", true)
  | 15 => ("TinyCacheModel", "page", "[I", true)
  | 16 => ("TinyCacheModel", "written", "I", false)
  | 17 => ("TinyCacheModel", "inUse", "[Z", true)
  | 18 => ("TinyCacheModel", "gathered", "I", false)
  | 19 => ("TinyCacheModel", "gather", "[I", true)
  | 20 => ("TinyCacheModel", "again", "I", false)
  | 21 => ("TinyCacheModel", "anew", "[I", true)
  | 22 => ("TinyCacheModel", "isDue", "[Z", true)
  | _ => ("TinyCacheModel", "counts", "[I", true)
def tyX5 : Nat → FieldType := fun k => match k with
  | 0 => .int
  | 1 => .boolean
  | 2 => .array .int
  | 3 => .int
  | 4 => .array .int
  | 5 => .int
  | 6 => .array .long
  | 7 => .array .int
  | 8 => .array .int
  | 9 => .array .boolean
  | 10 => .array .boolean
  | 11 => .array .int
  | 12 => .array .boolean
  | 13 => .int
  | 14 => .array .int
  | 15 => .array .int
  | 16 => .int
  | 17 => .array .boolean
  | 18 => .int
  | 19 => .array .int
  | 20 => .int
  | 21 => .array .int
  | 22 => .array .boolean
  | _ => .array .int
abbrev vwCl : List vw_C := [(RX0, TX0, 3), (RX1, TX1, 6), (RX2, TX2, 4), (RX3, TX3, 4), (RX4, TX4, 8), (RX5, TX5, 24)]
/-- the kinds of a class's fields: 0 an int or boolean, 1 a long, 2 a reference -/
def xF (ci : Nat) : List Nat := match ci with
  | 0 => [2, 2, 0]
  | 1 => [1, 2, 0, 1, 0, 0]
  | 2 => [2, 2, 2, 0]
  | 3 => [2, 0, 0, 1]
  | 4 => [2, 2, 2, 2, 2, 2, 2, 0]
  | 5 => [0, 0, 2, 0, 2, 0, 2, 2, 2, 2, 2, 2, 2, 0, 2, 2, 0, 2, 0, 2, 0, 2, 2, 2]
  | _ => []
abbrev cC_init : ByteArray := prog_1_method_1_code
def yC_init : MethodName := ⟨"TinyCache", "<init>", "()V"⟩
abbrev cC_newPages : ByteArray := prog_1_method_23_code
def yC_newPages : MethodName := ⟨"TinyCache", "newPages", "(I)[LTinyCache$Page;"⟩
abbrev cP_init : ByteArray := prog_5_method_1_code
def yP_init : MethodName := ⟨"TinyCache$Page", "<init>", "()V"⟩
abbrev cG_init : ByteArray := prog_4_method_1_code
def yG_init : MethodName := ⟨"TinyCache$Log", "<init>", "()V"⟩
abbrev cI_init : ByteArray := prog_2_method_1_code
def yI_init : MethodName := ⟨"TinyCache$Index", "<init>", "()V"⟩
abbrev cC_setOf : ByteArray := prog_1_method_7_code
def yC_setOf : MethodName := ⟨"TinyCache", "setOf", "(J)I"⟩
abbrev cC_mix : ByteArray := prog_1_method_20_code
def yC_mix : MethodName := ⟨"TinyCache", "mix", "(J)J"⟩
abbrev cC_setNumber : ByteArray := prog_1_method_21_code
def yC_setNumber : MethodName := ⟨"TinyCache", "setNumber", "(J)I"⟩
abbrev cC_count : ByteArray := prog_1_method_13_code
def yC_count : MethodName := ⟨"TinyCache", "count", "(I)I"⟩
abbrev cG_fullSegments : ByteArray := prog_4_method_7_code
def yG_fullSegments : MethodName := ⟨"TinyCache$Log", "fullSegments", "()I"⟩
abbrev cW_word : ByteArray := method_3_code
def yW_word : MethodName := ⟨"TinyCacheLaw", "word", "(LTinyCache;II[J)I"⟩
abbrev cC_word : ByteArray := prog_1_method_2_code
def yC_word : MethodName := ⟨"TinyCache", "word", "(II)I"⟩
abbrev cW_put : ByteArray := method_4_code
def yW_put : MethodName := ⟨"TinyCacheLaw", "put", "(LTinyCache;JI)I"⟩
abbrev cC_put : ByteArray := prog_1_method_3_code
def yC_put : MethodName := ⟨"TinyCache", "put", "(JI)V"⟩
abbrev cC_refuseWhenClosed : ByteArray := prog_1_method_14_code
def yC_refuseWhenClosed : MethodName := ⟨"TinyCache", "refuseWhenClosed", "()V"⟩
abbrev cJ_copyOf : ByteArray := prog_17_method_123_code
def yJ_copyOf : MethodName := ⟨"java/util/Arrays", "copyOf", "([II)[I"⟩
abbrev cJ_min : ByteArray := prog_13_method_69_code
def yJ_min : MethodName := ⟨"java/lang/Math", "min", "(II)I"⟩
abbrev cT_init : ByteArray := prog_3_method_1_code
def yT_init : MethodName := ⟨"TinyCache$Item", "<init>", "(J[I)V"⟩
abbrev cC_filterBit : ByteArray := prog_1_method_22_code
def yC_filterBit : MethodName := ⟨"TinyCache", "filterBit", "(J)J"⟩
abbrev cG_hasRoomFor : ByteArray := prog_4_method_2_code
def yG_hasRoomFor : MethodName := ⟨"TinyCache$Log", "hasRoomFor", "(LTinyCache$Item;)Z"⟩
abbrev cT_words : ByteArray := prog_3_method_2_code
def yT_words : MethodName := ⟨"TinyCache$Item", "words", "()I"⟩
abbrev cP_hasRoomFor : ByteArray := prog_5_method_2_code
def yP_hasRoomFor : MethodName := ⟨"TinyCache$Page", "hasRoomFor", "(I)Z"⟩
abbrev cC_writeOpenPage : ByteArray := prog_1_method_15_code
def yC_writeOpenPage : MethodName := ⟨"TinyCache", "writeOpenPage", "()V"⟩
abbrev cG_isBeforeWrittenSegment : ByteArray := prog_4_method_5_code
def yG_isBeforeWrittenSegment : MethodName := ⟨"TinyCache$Log", "isBeforeWrittenSegment", "()Z"⟩
abbrev cC_emptySegment : ByteArray := prog_1_method_16_code
def yC_emptySegment : MethodName := ⟨"TinyCache", "emptySegment", "()I"⟩
abbrev cG_oldestSegmentEnd : ByteArray := prog_4_method_6_code
def yG_oldestSegmentEnd : MethodName := ⟨"TinyCache$Log", "oldestSegmentEnd", "()I"⟩
abbrev cI_takeGotAlone : ByteArray := prog_2_method_5_code
def yI_takeGotAlone : MethodName := ⟨"TinyCache$Index", "takeGotAlone", "(I[LTinyCache$Item;)I"⟩
abbrev cI_shrinkTo : ByteArray := prog_2_method_9_code
def yI_shrinkTo : MethodName := ⟨"TinyCache$Index", "shrinkTo", "(I)V"⟩
abbrev cI_setsBefore : ByteArray := prog_2_method_7_code
def yI_setsBefore : MethodName := ⟨"TinyCache$Index", "setsBefore", "(I)J"⟩
abbrev cI_takeSet : ByteArray := prog_2_method_6_code
def yI_takeSet : MethodName := ⟨"TinyCache$Index", "takeSet", "(I[LTinyCache$Item;)I"⟩
abbrev cC_removeFromSet : ByteArray := prog_1_method_19_code
def yC_removeFromSet : MethodName := ⟨"TinyCache", "removeFromSet", "(JI)Z"⟩
abbrev cC_readFromSet : ByteArray := prog_1_method_18_code
def yC_readFromSet : MethodName := ⟨"TinyCache", "readFromSet", "(J)LTinyCache$Item;"⟩
abbrev cP_find : ByteArray := prog_5_method_4_code
def yP_find : MethodName := ⟨"TinyCache$Page", "find", "(J)LTinyCache$Item;"⟩
abbrev cP_placeOf : ByteArray := prog_5_method_10_code
def yP_placeOf : MethodName := ⟨"TinyCache$Page", "placeOf", "(J)I"⟩
abbrev cP_remove : ByteArray := prog_5_method_5_code
def yP_remove : MethodName := ⟨"TinyCache$Page", "remove", "(J)V"⟩
abbrev cP_removeAt : ByteArray := prog_5_method_11_code
def yP_removeAt : MethodName := ⟨"TinyCache$Page", "removeAt", "(I)V"⟩
abbrev cC_moveGathered : ByteArray := prog_1_method_17_code
def yC_moveGathered : MethodName := ⟨"TinyCache", "moveGathered", "(LTinyCache$Page;I)V"⟩
abbrev cP_dropFor : ByteArray := prog_5_method_6_code
def yP_dropFor : MethodName := ⟨"TinyCache$Page", "dropFor", "(IZ)I"⟩
abbrev cP_add : ByteArray := prog_5_method_3_code
def yP_add : MethodName := ⟨"TinyCache$Page", "add", "(LTinyCache$Item;)V"⟩
abbrev cP_clearMarks : ByteArray := prog_5_method_7_code
def yP_clearMarks : MethodName := ⟨"TinyCache$Page", "clearMarks", "()V"⟩
abbrev cG_writeOut : ByteArray := prog_4_method_8_code
def yG_writeOut : MethodName := ⟨"TinyCache$Log", "writeOut", "()V"⟩
abbrev cP_wipe : ByteArray := prog_5_method_8_code
def yP_wipe : MethodName := ⟨"TinyCache$Page", "wipe", "()V"⟩
abbrev cG_append : ByteArray := prog_4_method_4_code
def yG_append : MethodName := ⟨"TinyCache$Log", "append", "(LTinyCache$Item;)V"⟩
abbrev cI_add : ByteArray := prog_2_method_3_code
def yI_add : MethodName := ⟨"TinyCache$Index", "add", "(LTinyCache$Item;)V"⟩
abbrev cI_remove : ByteArray := prog_2_method_4_code
def yI_remove : MethodName := ⟨"TinyCache$Index", "remove", "(J)Z"⟩
abbrev cW_get : ByteArray := method_5_code
def yW_get : MethodName := ⟨"TinyCacheLaw", "get", "(LTinyCache;J[J)I"⟩
abbrev cC_get : ByteArray := prog_1_method_4_code
def yC_get : MethodName := ⟨"TinyCache", "get", "(J)I"⟩
abbrev cI_find : ByteArray := prog_2_method_2_code
def yI_find : MethodName := ⟨"TinyCache$Index", "find", "(J)LTinyCache$Item;"⟩
abbrev cG_hasInOpenPage : ByteArray := prog_4_method_3_code
def yG_hasInOpenPage : MethodName := ⟨"TinyCache$Log", "hasInOpenPage", "(LTinyCache$Item;)Z"⟩
abbrev cW_got : ByteArray := method_6_code
def yW_got : MethodName := ⟨"TinyCacheLaw", "got", "(LTinyCache;I[J)I"⟩
abbrev cC_got : ByteArray := prog_1_method_5_code
def yC_got : MethodName := ⟨"TinyCache", "got", "(I)I"⟩
abbrev cW_delete : ByteArray := method_7_code
def yW_delete : MethodName := ⟨"TinyCacheLaw", "delete", "(LTinyCache;J[J)I"⟩
abbrev cC_delete : ByteArray := prog_1_method_6_code
def yC_delete : MethodName := ⟨"TinyCache", "delete", "(J)Z"⟩
abbrev cW_where : ByteArray := method_8_code
def yW_where : MethodName := ⟨"TinyCacheLaw", "where", "(LTinyCache;J[J)I"⟩
abbrev cC_where : ByteArray := prog_1_method_8_code
def yC_where : MethodName := ⟨"TinyCache", "where", "(J)I"⟩
abbrev cW_flash : ByteArray := method_9_code
def yW_flash : MethodName := ⟨"TinyCacheLaw", "flash", "(LTinyCache;II[J)I"⟩
abbrev cC_flash : ByteArray := prog_1_method_9_code
def yC_flash : MethodName := ⟨"TinyCache", "flash", "(II)I"⟩
abbrev cP_wordAt : ByteArray := prog_5_method_9_code
def yP_wordAt : MethodName := ⟨"TinyCache$Page", "wordAt", "(I)I"⟩
abbrev cT_wordAt : ByteArray := prog_3_method_3_code
def yT_wordAt : MethodName := ⟨"TinyCache$Item", "wordAt", "(I)I"⟩
abbrev cW_close : ByteArray := method_10_code
def yW_close : MethodName := ⟨"TinyCacheLaw", "close", "(LTinyCache;)I"⟩
abbrev cC_close : ByteArray := prog_1_method_10_code
def yC_close : MethodName := ⟨"TinyCache", "close", "()V"⟩
abbrev cW_crash : ByteArray := method_11_code
def yW_crash : MethodName := ⟨"TinyCacheLaw", "crash", "(LTinyCache;)I"⟩
abbrev cC_crash : ByteArray := prog_1_method_11_code
def yC_crash : MethodName := ⟨"TinyCache", "crash", "()V"⟩
abbrev cG_wipe : ByteArray := prog_4_method_9_code
def yG_wipe : MethodName := ⟨"TinyCache$Log", "wipe", "()V"⟩
abbrev cI_wipe : ByteArray := prog_2_method_8_code
def yI_wipe : MethodName := ⟨"TinyCache$Index", "wipe", "()V"⟩
abbrev cJ_fill : ByteArray := prog_17_method_103_code
def yJ_fill : MethodName := ⟨"java/util/Arrays", "fill", "([II)V"⟩
abbrev cW_open : ByteArray := method_12_code
def yW_open : MethodName := ⟨"TinyCacheLaw", "open", "(LTinyCache;[J)I"⟩
abbrev cC_open : ByteArray := prog_1_method_12_code
def yC_open : MethodName := ⟨"TinyCache", "open", "()I"⟩
abbrev cM_init : ByteArray := prog_7_method_1_code
def yM_init : MethodName := ⟨"TinyCacheModel", "<init>", "()V"⟩
abbrev cM_thrown : ByteArray := prog_7_method_2_code
def yM_thrown : MethodName := ⟨"TinyCacheModel", "thrown", "()I"⟩
abbrev cM_word : ByteArray := prog_7_method_32_code
def yM_word : MethodName := ⟨"TinyCacheModel", "word", "(II)I"⟩
abbrev cM_within : ByteArray := prog_7_method_4_code
def yM_within : MethodName := ⟨"TinyCacheModel", "within", "(III)Z"⟩
abbrev cM_fail : ByteArray := prog_7_method_3_code
def yM_fail : MethodName := ⟨"TinyCacheModel", "fail", "(I)I"⟩
abbrev cM_put : ByteArray := prog_7_method_33_code
def yM_put : MethodName := ⟨"TinyCacheModel", "put", "(JI)V"⟩
abbrev cM_works : ByteArray := prog_7_method_5_code
def yM_works : MethodName := ⟨"TinyCacheModel", "works", "()Z"⟩
abbrev cM_wordsOf : ByteArray := prog_7_method_10_code
def yM_wordsOf : MethodName := ⟨"TinyCacheModel", "wordsOf", "(I)I"⟩
abbrev cM_need : ByteArray := prog_7_method_9_code
def yM_need : MethodName := ⟨"TinyCacheModel", "need", "(I)I"⟩
abbrev cM_makeRoom : ByteArray := prog_7_method_21_code
def yM_makeRoom : MethodName := ⟨"TinyCacheModel", "makeRoom", "()V"⟩
abbrev cM_empty : ByteArray := prog_7_method_24_code
def yM_empty : MethodName := ⟨"TinyCacheModel", "empty", "(I)V"⟩
abbrev cM_setOfKey : ByteArray := prog_7_method_7_code
def yM_setOfKey : MethodName := ⟨"TinyCacheModel", "setOfKey", "(J)I"⟩
abbrev cM_mixed : ByteArray := prog_7_method_6_code
def yM_mixed : MethodName := ⟨"TinyCacheModel", "mixed", "(J)J"⟩
abbrev cM_gatherAll : ByteArray := prog_7_method_25_code
def yM_gatherAll : MethodName := ⟨"TinyCacheModel", "gatherAll", "(I)V"⟩
abbrev cM_moveAll : ByteArray := prog_7_method_28_code
def yM_moveAll : MethodName := ⟨"TinyCacheModel", "moveAll", "(I)V"⟩
abbrev cM_inSet : ByteArray := prog_7_method_16_code
def yM_inSet : MethodName := ⟨"TinyCacheModel", "inSet", "(J)I"⟩
abbrev cM_takeOut : ByteArray := prog_7_method_13_code
def yM_takeOut : MethodName := ⟨"TinyCacheModel", "takeOut", "(II)V"⟩
abbrev cM_dropFirst : ByteArray := prog_7_method_27_code
def yM_dropFirst : MethodName := ⟨"TinyCacheModel", "dropFirst", "(IZI)V"⟩
abbrev cM_needAll : ByteArray := prog_7_method_26_code
def yM_needAll : MethodName := ⟨"TinyCacheModel", "needAll", "(I)I"⟩
abbrev cM_copy : ByteArray := prog_7_method_29_code
def yM_copy : MethodName := ⟨"TinyCacheModel", "copy", "(I)I"⟩
abbrev cM_freeNumber : ByteArray := prog_7_method_11_code
def yM_freeNumber : MethodName := ⟨"TinyCacheModel", "freeNumber", "()I"⟩
abbrev cM_append : ByteArray := prog_7_method_12_code
def yM_append : MethodName := ⟨"TinyCacheModel", "append", "(II)V"⟩
abbrev cM_alone : ByteArray := prog_7_method_30_code
def yM_alone : MethodName := ⟨"TinyCacheModel", "alone", "(II)V"⟩
abbrev cM_removeOld : ByteArray := prog_7_method_31_code
def yM_removeOld : MethodName := ⟨"TinyCacheModel", "removeOld", "(JI)Z"⟩
abbrev cM_reads : ByteArray := prog_7_method_17_code
def yM_reads : MethodName := ⟨"TinyCacheModel", "reads", "(J)Z"⟩
abbrev cM_bitOf : ByteArray := prog_7_method_8_code
def yM_bitOf : MethodName := ⟨"TinyCacheModel", "bitOf", "(J)I"⟩
abbrev cM_writeOpen : ByteArray := prog_7_method_19_code
def yM_writeOpen : MethodName := ⟨"TinyCacheModel", "writeOpen", "()V"⟩
abbrev cM_sortAgain : ByteArray := prog_7_method_22_code
def yM_sortAgain : MethodName := ⟨"TinyCacheModel", "sortAgain", "()V"⟩
abbrev cM_putAnew : ByteArray := prog_7_method_23_code
def yM_putAnew : MethodName := ⟨"TinyCacheModel", "putAnew", "(I)V"⟩
abbrev cM_enter : ByteArray := prog_7_method_20_code
def yM_enter : MethodName := ⟨"TinyCacheModel", "enter", "(I)V"⟩
abbrev cM_newest : ByteArray := prog_7_method_14_code
def yM_newest : MethodName := ⟨"TinyCacheModel", "newest", "(J)I"⟩
abbrev cM_get : ByteArray := prog_7_method_35_code
def yM_get : MethodName := ⟨"TinyCacheModel", "get", "(J)I"⟩
abbrev cM_pageOf : ByteArray := prog_7_method_15_code
def yM_pageOf : MethodName := ⟨"TinyCacheModel", "pageOf", "(I)I"⟩
abbrev cM_tell : ByteArray := prog_7_method_34_code
def yM_tell : MethodName := ⟨"TinyCacheModel", "tell", "(I)V"⟩
abbrev cM_got : ByteArray := prog_7_method_36_code
def yM_got : MethodName := ⟨"TinyCacheModel", "got", "(I)I"⟩
abbrev cM_delete : ByteArray := prog_7_method_37_code
def yM_delete : MethodName := ⟨"TinyCacheModel", "delete", "(J)Z"⟩
abbrev cM_setOf : ByteArray := prog_7_method_38_code
def yM_setOf : MethodName := ⟨"TinyCacheModel", "setOf", "(J)I"⟩
abbrev cM_where : ByteArray := prog_7_method_39_code
def yM_where : MethodName := ⟨"TinyCacheModel", "where", "(J)I"⟩
abbrev cM_flash : ByteArray := prog_7_method_40_code
def yM_flash : MethodName := ⟨"TinyCacheModel", "flash", "(II)I"⟩
abbrev cM_close : ByteArray := prog_7_method_41_code
def yM_close : MethodName := ⟨"TinyCacheModel", "close", "()V"⟩
abbrev cM_crash : ByteArray := prog_7_method_42_code
def yM_crash : MethodName := ⟨"TinyCacheModel", "crash", "()V"⟩
abbrev cM_open : ByteArray := prog_7_method_43_code
def yM_open : MethodName := ⟨"TinyCacheModel", "open", "()I"⟩
abbrev cM_indexed : ByteArray := prog_7_method_18_code
def yM_indexed : MethodName := ⟨"TinyCacheModel", "indexed", "()I"⟩
abbrev cM_count : ByteArray := prog_7_method_44_code
def yM_count : MethodName := ⟨"TinyCacheModel", "count", "(I)I"⟩
abbrev cW_law : ByteArray := code
def yW_law : MethodName := ⟨"TinyCacheLaw", "law", "([I)Z"⟩
def WS : List Cond := lw_tbl.filter goodWord
theorem WS_good : ∀ w ∈ WS, (w.onTables && w.keeps) = true ∨ ∃ ty, w = .arrayClass ty := fun w h => good_of_word (List.mem_filter.mp h).2
theorem inWS {w : Cond} (n : Nat) (h : lw_tbl[n]? = some w) (g : goodWord w = true) : w ∈ WS := List.mem_filter.mpr ⟨List.mem_of_getElem? h, g⟩
def xNest : List (String × Nat × MethodName × String) := [("TinyCache", 213, yP_init, "TinyCache"), ("TinyCache", 23, yG_init, "TinyCache"), ("TinyCache$Log", 9, yC_newPages, "TinyCache"), ("TinyCache$Log", 21, yI_init, "TinyCache"), ("TinyCache$Log", 28, yP_init, "TinyCache"), ("TinyCache$Item", 19, yC_mix, "TinyCache"), ("TinyCache$Item", 31, yC_setNumber, "TinyCache"), ("TinyCache$Item", 38, yC_filterBit, "TinyCache")]
def xCast : List (String × String) := [("java/lang/IndexOutOfBoundsException", "java/lang/IndexOutOfBoundsException"), ("java/lang/IllegalStateException", "java/lang/IllegalStateException"), ("java/lang/IllegalArgumentException", "java/lang/IllegalArgumentException")]
def xDecl : List MethodName := [⟨"java/lang/RuntimeException", "<init>", "()V"⟩, ⟨"java/lang/RuntimeException", "<init>", "(Ljava/lang/String;)V"⟩, ⟨"java/lang/Exception", "<init>", "()V"⟩, ⟨"java/lang/Exception", "<init>", "(Ljava/lang/String;)V"⟩, ⟨"java/lang/Throwable", "<init>", "()V"⟩, ⟨"java/lang/Throwable", "<init>", "(Ljava/lang/String;)V"⟩]
def xAo : List String := ["TinyCache$Item", "TinyCache$Page"]
def xNoc : List (String × String) := [("java/lang/IllegalArgumentException", "java/lang/IllegalStateException")]
theorem uwX0 : ∀ w ∈ u_ws RX0 TX0 3, w ∈ WS := by decide +kernel
theorem nmX0 : ∀ a, a < 3 → ∀ b, b < 3 → a ≠ b → (TX0 a).2.1 ≠ (TX0 b).2.1 := by decide +kernel
theorem okX0 : ∀ k, k < 3 → parseFieldDescriptor (TX0 k).2.2.1 = some (tyX0 k) := by decide +kernel
theorem uwX1 : ∀ w ∈ u_ws RX1 TX1 6, w ∈ WS := by decide +kernel
theorem nmX1 : ∀ a, a < 6 → ∀ b, b < 6 → a ≠ b → (TX1 a).2.1 ≠ (TX1 b).2.1 := by decide +kernel
theorem okX1 : ∀ k, k < 6 → parseFieldDescriptor (TX1 k).2.2.1 = some (tyX1 k) := by decide +kernel
theorem uwX2 : ∀ w ∈ u_ws RX2 TX2 4, w ∈ WS := by decide +kernel
theorem nmX2 : ∀ a, a < 4 → ∀ b, b < 4 → a ≠ b → (TX2 a).2.1 ≠ (TX2 b).2.1 := by decide +kernel
theorem okX2 : ∀ k, k < 4 → parseFieldDescriptor (TX2 k).2.2.1 = some (tyX2 k) := by decide +kernel
theorem uwX3 : ∀ w ∈ u_ws RX3 TX3 4, w ∈ WS := by decide +kernel
theorem nmX3 : ∀ a, a < 4 → ∀ b, b < 4 → a ≠ b → (TX3 a).2.1 ≠ (TX3 b).2.1 := by decide +kernel
theorem okX3 : ∀ k, k < 4 → parseFieldDescriptor (TX3 k).2.2.1 = some (tyX3 k) := by decide +kernel
theorem uwX4 : ∀ w ∈ u_ws RX4 TX4 8, w ∈ WS := by decide +kernel
theorem nmX4 : ∀ a, a < 8 → ∀ b, b < 8 → a ≠ b → (TX4 a).2.1 ≠ (TX4 b).2.1 := by decide +kernel
theorem okX4 : ∀ k, k < 8 → parseFieldDescriptor (TX4 k).2.2.1 = some (tyX4 k) := by decide +kernel
theorem uwX5 : ∀ w ∈ u_ws RX5 TX5 24, w ∈ WS := by decide +kernel
theorem nmX5 : ∀ a, a < 24 → ∀ b, b < 24 → a ≠ b → (TX5 a).2.1 ≠ (TX5 b).2.1 := by decide +kernel
theorem okX5 : ∀ k, k < 24 → parseFieldDescriptor (TX5 k).2.2.1 = some (tyX5 k) := by decide +kernel
end
section
/-! written by wip/whole/meth.py: words by their places, methods as tuples with their rooms, links of fields and calls -/
theorem w_1 : Cond.selects "TinyCache" yC_refuseWhenClosed yC_refuseWhenClosed ∈ WS := inWS 1 (by decide +kernel) (by decide +kernel)
theorem w_2 : Cond.selects "TinyCache" yC_writeOpenPage yC_writeOpenPage ∈ WS := inWS 2 (by decide +kernel) (by decide +kernel)
theorem w_3 : Cond.selects "TinyCache" yC_emptySegment yC_emptySegment ∈ WS := inWS 3 (by decide +kernel) (by decide +kernel)
theorem w_4 : Cond.selects "TinyCache$Index" yI_shrinkTo yI_shrinkTo ∈ WS := inWS 4 (by decide +kernel) (by decide +kernel)
theorem w_5 : Cond.selects "TinyCache" yC_removeFromSet yC_removeFromSet ∈ WS := inWS 5 (by decide +kernel) (by decide +kernel)
theorem w_6 : Cond.selects "TinyCache" yC_readFromSet yC_readFromSet ∈ WS := inWS 6 (by decide +kernel) (by decide +kernel)
theorem w_7 : Cond.selects "TinyCache$Page" yP_placeOf yP_placeOf ∈ WS := inWS 7 (by decide +kernel) (by decide +kernel)
theorem w_8 : Cond.selects "TinyCache$Page" yP_removeAt yP_removeAt ∈ WS := inWS 8 (by decide +kernel) (by decide +kernel)
theorem w_9 : Cond.selects "TinyCache" yC_moveGathered yC_moveGathered ∈ WS := inWS 9 (by decide +kernel) (by decide +kernel)
theorem w_10 : Cond.selects "TinyCacheModel" yM_fail yM_fail ∈ WS := inWS 10 (by decide +kernel) (by decide +kernel)
theorem w_11 : Cond.selects "TinyCacheModel" yM_works yM_works ∈ WS := inWS 11 (by decide +kernel) (by decide +kernel)
theorem w_12 : Cond.selects "TinyCacheModel" yM_wordsOf yM_wordsOf ∈ WS := inWS 12 (by decide +kernel) (by decide +kernel)
theorem w_13 : Cond.selects "TinyCacheModel" yM_need yM_need ∈ WS := inWS 13 (by decide +kernel) (by decide +kernel)
theorem w_14 : Cond.selects "TinyCacheModel" yM_makeRoom yM_makeRoom ∈ WS := inWS 14 (by decide +kernel) (by decide +kernel)
theorem w_15 : Cond.selects "TinyCacheModel" yM_empty yM_empty ∈ WS := inWS 15 (by decide +kernel) (by decide +kernel)
theorem w_16 : Cond.selects "TinyCacheModel" yM_gatherAll yM_gatherAll ∈ WS := inWS 16 (by decide +kernel) (by decide +kernel)
theorem w_17 : Cond.selects "TinyCacheModel" yM_moveAll yM_moveAll ∈ WS := inWS 17 (by decide +kernel) (by decide +kernel)
theorem w_18 : Cond.selects "TinyCacheModel" yM_inSet yM_inSet ∈ WS := inWS 18 (by decide +kernel) (by decide +kernel)
theorem w_19 : Cond.selects "TinyCacheModel" yM_takeOut yM_takeOut ∈ WS := inWS 19 (by decide +kernel) (by decide +kernel)
theorem w_20 : Cond.selects "TinyCacheModel" yM_dropFirst yM_dropFirst ∈ WS := inWS 20 (by decide +kernel) (by decide +kernel)
theorem w_21 : Cond.selects "TinyCacheModel" yM_needAll yM_needAll ∈ WS := inWS 21 (by decide +kernel) (by decide +kernel)
theorem w_22 : Cond.selects "TinyCacheModel" yM_copy yM_copy ∈ WS := inWS 22 (by decide +kernel) (by decide +kernel)
theorem w_23 : Cond.selects "TinyCacheModel" yM_freeNumber yM_freeNumber ∈ WS := inWS 23 (by decide +kernel) (by decide +kernel)
theorem w_24 : Cond.selects "TinyCacheModel" yM_append yM_append ∈ WS := inWS 24 (by decide +kernel) (by decide +kernel)
theorem w_25 : Cond.selects "TinyCacheModel" yM_alone yM_alone ∈ WS := inWS 25 (by decide +kernel) (by decide +kernel)
theorem w_26 : Cond.selects "TinyCacheModel" yM_removeOld yM_removeOld ∈ WS := inWS 26 (by decide +kernel) (by decide +kernel)
theorem w_27 : Cond.selects "TinyCacheModel" yM_reads yM_reads ∈ WS := inWS 27 (by decide +kernel) (by decide +kernel)
theorem w_28 : Cond.selects "TinyCacheModel" yM_writeOpen yM_writeOpen ∈ WS := inWS 28 (by decide +kernel) (by decide +kernel)
theorem w_29 : Cond.selects "TinyCacheModel" yM_sortAgain yM_sortAgain ∈ WS := inWS 29 (by decide +kernel) (by decide +kernel)
theorem w_30 : Cond.selects "TinyCacheModel" yM_putAnew yM_putAnew ∈ WS := inWS 30 (by decide +kernel) (by decide +kernel)
theorem w_31 : Cond.selects "TinyCacheModel" yM_enter yM_enter ∈ WS := inWS 31 (by decide +kernel) (by decide +kernel)
theorem w_32 : Cond.selects "TinyCacheModel" yM_newest yM_newest ∈ WS := inWS 32 (by decide +kernel) (by decide +kernel)
theorem w_33 : Cond.selects "TinyCacheModel" yM_pageOf yM_pageOf ∈ WS := inWS 33 (by decide +kernel) (by decide +kernel)
theorem w_34 : Cond.selects "TinyCacheModel" yM_tell yM_tell ∈ WS := inWS 34 (by decide +kernel) (by decide +kernel)
theorem w_35 : Cond.selects "TinyCacheModel" yM_indexed yM_indexed ∈ WS := inWS 35 (by decide +kernel) (by decide +kernel)
theorem w_36 : Cond.initialized "TinyCacheLaw" ∈ WS := inWS 36 (by decide +kernel) (by decide +kernel)
theorem w_37 : Cond.initialized "TinyCache" ∈ WS := inWS 37 (by decide +kernel) (by decide +kernel)
theorem w_38 : Cond.initialized "TinyCache$Page" ∈ WS := inWS 38 (by decide +kernel) (by decide +kernel)
theorem w_39 : Cond.initialized "TinyCache$Log" ∈ WS := inWS 39 (by decide +kernel) (by decide +kernel)
theorem w_40 : Cond.initialized "TinyCache$Index" ∈ WS := inWS 40 (by decide +kernel) (by decide +kernel)
theorem w_41 : Cond.initialized "TinyCacheModel" ∈ WS := inWS 41 (by decide +kernel) (by decide +kernel)
theorem w_45 : Cond.initialized "java/lang/IndexOutOfBoundsException" ∈ WS := inWS 45 (by decide +kernel) (by decide +kernel)
theorem w_46 : Cond.initialized "java/lang/IllegalStateException" ∈ WS := inWS 46 (by decide +kernel) (by decide +kernel)
theorem w_47 : Cond.initialized "java/lang/IllegalArgumentException" ∈ WS := inWS 47 (by decide +kernel) (by decide +kernel)
theorem w_48 : Cond.initialized "TinyCache$Item" ∈ WS := inWS 48 (by decide +kernel) (by decide +kernel)
theorem w_49 : Cond.initialized "java/util/Arrays" ∈ WS := inWS 49 (by decide +kernel) (by decide +kernel)
theorem w_52 : Cond.classLink "TinyCacheLaw" 8 "TinyCache" ∈ WS := inWS 52 (by decide +kernel) (by decide +kernel)
theorem w_53 : Cond.instantiable "TinyCache" 8 ∈ WS := inWS 53 (by decide +kernel) (by decide +kernel)
theorem w_54 : Cond.methodLink "TinyCacheLaw" 51 yC_init ∈ WS := inWS 54 (by decide +kernel) (by decide +kernel)
theorem w_55 : Cond.instanceMethod yC_init ∈ WS := inWS 55 (by decide +kernel) (by decide +kernel)
theorem w_56 : Cond.code yC_init cC_init 1 none ∈ WS := inWS 56 (by decide +kernel) (by decide +kernel)
theorem w_57 : Cond.methodLink "TinyCache" 3 ⟨"java/lang/Object", "<init>", "()V"⟩ ∈ WS := inWS 57 (by decide +kernel) (by decide +kernel)
theorem w_58 : Cond.instanceMethod ⟨"java/lang/Object", "<init>", "()V"⟩ ∈ WS := inWS 58 (by decide +kernel) (by decide +kernel)
theorem w_59 : Cond.code ⟨"java/lang/Object", "<init>", "()V"⟩ ⟨#[0xb1]⟩ 1 none ∈ WS := inWS 59 (by decide +kernel) (by decide +kernel)
theorem w_60 : Cond.methodLink "TinyCache" 13 yC_newPages ∈ WS := inWS 60 (by decide +kernel) (by decide +kernel)
theorem w_61 : Cond.static yC_newPages ∈ WS := inWS 61 (by decide +kernel) (by decide +kernel)
theorem w_62 : Cond.code yC_newPages cC_newPages 3 (some (.array (.object "TinyCache$Page"))) ∈ WS := inWS 62 (by decide +kernel) (by decide +kernel)
theorem w_63 : Cond.classLink "TinyCache" 116 "TinyCache$Page" ∈ WS := inWS 63 (by decide +kernel) (by decide +kernel)
theorem w_65 : Cond.instantiable "TinyCache$Page" 4 ∈ WS := inWS 65 (by decide +kernel) (by decide +kernel)
theorem w_67 : Cond.instanceMethod yP_init ∈ WS := inWS 67 (by decide +kernel) (by decide +kernel)
theorem w_68 : Cond.code yP_init cP_init 1 none ∈ WS := inWS 68 (by decide +kernel) (by decide +kernel)
theorem w_69 : Cond.methodLink "TinyCache$Page" 3 ⟨"java/lang/Object", "<init>", "()V"⟩ ∈ WS := inWS 69 (by decide +kernel) (by decide +kernel)
theorem w_70 : Cond.classLink "TinyCache$Page" 9 "TinyCache$Item" ∈ WS := inWS 70 (by decide +kernel) (by decide +kernel)
theorem w_72 : Cond.fieldLink "TinyCache$Page" 11 "TinyCache$Page" "items" "[LTinyCache$Item;" ∈ WS := inWS 72 (by decide +kernel) (by decide +kernel)
theorem w_73 : Cond.fieldLink "TinyCache$Page" 17 "TinyCache$Page" "size" "I" ∈ WS := inWS 73 (by decide +kernel) (by decide +kernel)
theorem w_74 : Cond.fieldLink "TinyCache$Page" 21 "TinyCache$Page" "words" "I" ∈ WS := inWS 74 (by decide +kernel) (by decide +kernel)
theorem w_75 : Cond.fieldLink "TinyCache" 148 "TinyCache$Page" "words" "I" ∈ WS := inWS 75 (by decide +kernel) (by decide +kernel)
theorem w_76 : Cond.fieldLink "TinyCache$Page" 24 "TinyCache$Page" "filter" "J" ∈ WS := inWS 76 (by decide +kernel) (by decide +kernel)
theorem w_77 : Cond.fieldLink "TinyCache" 201 "TinyCache$Page" "filter" "J" ∈ WS := inWS 77 (by decide +kernel) (by decide +kernel)
theorem w_87 : Cond.arrayClass .int ∈ WS := inWS 87 (by decide +kernel) (by decide +kernel)
theorem w_88 : Cond.classLink "TinyCache" 21 "TinyCache$Log" ∈ WS := inWS 88 (by decide +kernel) (by decide +kernel)
theorem w_89 : Cond.instantiable "TinyCache$Log" 4 ∈ WS := inWS 89 (by decide +kernel) (by decide +kernel)
theorem w_91 : Cond.instanceMethod yG_init ∈ WS := inWS 91 (by decide +kernel) (by decide +kernel)
theorem w_92 : Cond.code yG_init cG_init 1 none ∈ WS := inWS 92 (by decide +kernel) (by decide +kernel)
theorem w_93 : Cond.methodLink "TinyCache$Log" 3 ⟨"java/lang/Object", "<init>", "()V"⟩ ∈ WS := inWS 93 (by decide +kernel) (by decide +kernel)
theorem w_95 : Cond.classLink "TinyCache$Log" 19 "TinyCache$Index" ∈ WS := inWS 95 (by decide +kernel) (by decide +kernel)
theorem w_96 : Cond.instantiable "TinyCache$Index" 3 ∈ WS := inWS 96 (by decide +kernel) (by decide +kernel)
theorem w_98 : Cond.instanceMethod yI_init ∈ WS := inWS 98 (by decide +kernel) (by decide +kernel)
theorem w_99 : Cond.code yI_init cI_init 1 none ∈ WS := inWS 99 (by decide +kernel) (by decide +kernel)
theorem w_100 : Cond.methodLink "TinyCache$Index" 3 ⟨"java/lang/Object", "<init>", "()V"⟩ ∈ WS := inWS 100 (by decide +kernel) (by decide +kernel)
theorem w_101 : Cond.classLink "TinyCache$Index" 9 "TinyCache$Item" ∈ WS := inWS 101 (by decide +kernel) (by decide +kernel)
theorem w_102 : Cond.fieldLink "TinyCache$Index" 11 "TinyCache$Index" "items" "[LTinyCache$Item;" ∈ WS := inWS 102 (by decide +kernel) (by decide +kernel)
theorem w_103 : Cond.fieldLink "TinyCache$Index" 17 "TinyCache$Index" "perSet" "[I" ∈ WS := inWS 103 (by decide +kernel) (by decide +kernel)
theorem w_104 : Cond.fieldLink "TinyCache$Index" 21 "TinyCache$Index" "size" "I" ∈ WS := inWS 104 (by decide +kernel) (by decide +kernel)
theorem w_105 : Cond.fieldLink "TinyCache" 136 "TinyCache$Index" "size" "I" ∈ WS := inWS 105 (by decide +kernel) (by decide +kernel)
theorem w_113 : Cond.classLink "TinyCache$Log" 26 "TinyCache$Page" ∈ WS := inWS 113 (by decide +kernel) (by decide +kernel)
theorem w_115 : Cond.fieldLink "TinyCache$Log" 13 "TinyCache$Log" "pages" "[LTinyCache$Page;" ∈ WS := inWS 115 (by decide +kernel) (by decide +kernel)
theorem w_116 : Cond.fieldLink "TinyCache" 122 "TinyCache$Log" "pages" "[LTinyCache$Page;" ∈ WS := inWS 116 (by decide +kernel) (by decide +kernel)
theorem w_117 : Cond.fieldLink "TinyCache$Log" 22 "TinyCache$Log" "index" "LTinyCache$Index;" ∈ WS := inWS 117 (by decide +kernel) (by decide +kernel)
theorem w_118 : Cond.fieldLink "TinyCache" 77 "TinyCache$Log" "index" "LTinyCache$Index;" ∈ WS := inWS 118 (by decide +kernel) (by decide +kernel)
theorem w_119 : Cond.fieldLink "TinyCache$Log" 29 "TinyCache$Log" "openPage" "LTinyCache$Page;" ∈ WS := inWS 119 (by decide +kernel) (by decide +kernel)
theorem w_120 : Cond.fieldLink "TinyCache" 144 "TinyCache$Log" "openPage" "LTinyCache$Page;" ∈ WS := inWS 120 (by decide +kernel) (by decide +kernel)
theorem w_121 : Cond.fieldLink "TinyCache$Log" 33 "TinyCache$Log" "written" "I" ∈ WS := inWS 121 (by decide +kernel) (by decide +kernel)
theorem w_131 : Cond.classLink "TinyCache" 31 "TinyCache$Item" ∈ WS := inWS 131 (by decide +kernel) (by decide +kernel)
theorem w_132 : Cond.fieldLink "TinyCache" 9 "TinyCache" "buffer" "[I" ∈ WS := inWS 132 (by decide +kernel) (by decide +kernel)
theorem w_133 : Cond.fieldLink "TinyCache" 17 "TinyCache" "sets" "[LTinyCache$Page;" ∈ WS := inWS 133 (by decide +kernel) (by decide +kernel)
theorem w_134 : Cond.fieldLink "TinyCache" 24 "TinyCache" "log" "LTinyCache$Log;" ∈ WS := inWS 134 (by decide +kernel) (by decide +kernel)
theorem w_135 : Cond.fieldLink "TinyCache" 28 "TinyCache" "counts" "[I" ∈ WS := inWS 135 (by decide +kernel) (by decide +kernel)
theorem w_136 : Cond.fieldLink "TinyCache" 33 "TinyCache" "gathered" "[LTinyCache$Item;" ∈ WS := inWS 136 (by decide +kernel) (by decide +kernel)
theorem w_137 : Cond.fieldLink "TinyCache" 37 "TinyCache" "anew" "[LTinyCache$Item;" ∈ WS := inWS 137 (by decide +kernel) (by decide +kernel)
theorem w_138 : Cond.fieldLink "TinyCache" 40 "TinyCache" "found" "LTinyCache$Item;" ∈ WS := inWS 138 (by decide +kernel) (by decide +kernel)
theorem w_139 : Cond.fieldLink "TinyCache" 44 "TinyCache" "isOpen" "Z" ∈ WS := inWS 139 (by decide +kernel) (by decide +kernel)
theorem w_157 : Cond.methodLink "TinyCacheLaw" 81 yC_setOf ∈ WS := inWS 157 (by decide +kernel) (by decide +kernel)
theorem w_158 : Cond.instanceMethod yC_setOf ∈ WS := inWS 158 (by decide +kernel) (by decide +kernel)
theorem w_159 : Cond.selects "TinyCache" yC_setOf yC_setOf ∈ WS := inWS 159 (by decide +kernel) (by decide +kernel)
theorem w_160 : Cond.code yC_setOf cC_setOf 3 (some .int) ∈ WS := inWS 160 (by decide +kernel) (by decide +kernel)
theorem w_161 : Cond.methodLink "TinyCache" 107 yC_mix ∈ WS := inWS 161 (by decide +kernel) (by decide +kernel)
theorem w_162 : Cond.static yC_mix ∈ WS := inWS 162 (by decide +kernel) (by decide +kernel)
theorem w_163 : Cond.code yC_mix cC_mix 4 (some .long) ∈ WS := inWS 163 (by decide +kernel) (by decide +kernel)
theorem w_164 : Cond.constantLong "TinyCache" 207 (-4658895280553007687) ∈ WS := inWS 164 (by decide +kernel) (by decide +kernel)
theorem w_165 : Cond.constantLong "TinyCache" 209 (-7723592293110705685) ∈ WS := inWS 165 (by decide +kernel) (by decide +kernel)
theorem w_166 : Cond.methodLink "TinyCache" 111 yC_setNumber ∈ WS := inWS 166 (by decide +kernel) (by decide +kernel)
theorem w_167 : Cond.static yC_setNumber ∈ WS := inWS 167 (by decide +kernel) (by decide +kernel)
theorem w_168 : Cond.code yC_setNumber cC_setNumber 2 (some .int) ∈ WS := inWS 168 (by decide +kernel) (by decide +kernel)
theorem w_169 : Cond.methodLink "TinyCacheLaw" 102 yC_count ∈ WS := inWS 169 (by decide +kernel) (by decide +kernel)
theorem w_170 : Cond.instanceMethod yC_count ∈ WS := inWS 170 (by decide +kernel) (by decide +kernel)
theorem w_171 : Cond.selects "TinyCache" yC_count yC_count ∈ WS := inWS 171 (by decide +kernel) (by decide +kernel)
theorem w_172 : Cond.code yC_count cC_count 2 (some .int) ∈ WS := inWS 172 (by decide +kernel) (by decide +kernel)
theorem w_173 : Cond.methodLink "TinyCache" 140 yG_fullSegments ∈ WS := inWS 173 (by decide +kernel) (by decide +kernel)
theorem w_174 : Cond.instanceMethod yG_fullSegments ∈ WS := inWS 174 (by decide +kernel) (by decide +kernel)
theorem w_175 : Cond.selects "TinyCache$Log" yG_fullSegments yG_fullSegments ∈ WS := inWS 175 (by decide +kernel) (by decide +kernel)
theorem w_176 : Cond.code yG_fullSegments cG_fullSegments 1 (some .int) ∈ WS := inWS 176 (by decide +kernel) (by decide +kernel)
theorem w_177 : Cond.methodLink "TinyCacheLaw" 55 yW_word ∈ WS := inWS 177 (by decide +kernel) (by decide +kernel)
theorem w_178 : Cond.static yW_word ∈ WS := inWS 178 (by decide +kernel) (by decide +kernel)
theorem w_179 : Cond.codeWith yW_word cW_word 5 (some .int) [(0, 10, 13, 13)] ∈ WS := inWS 179 (by decide +kernel) (by decide +kernel)
theorem w_180 : Cond.classLink "TinyCacheLaw" 13 "java/lang/IndexOutOfBoundsException" ∈ WS := inWS 180 (by decide +kernel) (by decide +kernel)
theorem w_181 : Cond.methodLink "TinyCacheLaw" 7 yC_word ∈ WS := inWS 181 (by decide +kernel) (by decide +kernel)
theorem w_182 : Cond.instanceMethod yC_word ∈ WS := inWS 182 (by decide +kernel) (by decide +kernel)
theorem w_183 : Cond.selects "TinyCache" yC_word yC_word ∈ WS := inWS 183 (by decide +kernel) (by decide +kernel)
theorem w_184 : Cond.code yC_word cC_word 4 (some .int) ∈ WS := inWS 184 (by decide +kernel) (by decide +kernel)
theorem w_185 : Cond.classLink "TinyCache" 48 "java/lang/IndexOutOfBoundsException" ∈ WS := inWS 185 (by decide +kernel) (by decide +kernel)
theorem w_248 : Cond.methodLink "TinyCacheLaw" 66 yW_put ∈ WS := inWS 248 (by decide +kernel) (by decide +kernel)
theorem w_249 : Cond.static yW_put ∈ WS := inWS 249 (by decide +kernel) (by decide +kernel)
theorem w_250 : Cond.codeWith yW_put cW_put 5 (some .int) [(0, 6, 9, 19), (0, 6, 13, 21)] ∈ WS := inWS 250 (by decide +kernel) (by decide +kernel)
theorem w_251 : Cond.classLink "TinyCacheLaw" 19 "java/lang/IllegalStateException" ∈ WS := inWS 251 (by decide +kernel) (by decide +kernel)
theorem w_252 : Cond.classLink "TinyCacheLaw" 21 "java/lang/IllegalArgumentException" ∈ WS := inWS 252 (by decide +kernel) (by decide +kernel)
theorem w_253 : Cond.methodLink "TinyCacheLaw" 15 yC_put ∈ WS := inWS 253 (by decide +kernel) (by decide +kernel)
theorem w_254 : Cond.instanceMethod yC_put ∈ WS := inWS 254 (by decide +kernel) (by decide +kernel)
theorem w_255 : Cond.selects "TinyCache" yC_put yC_put ∈ WS := inWS 255 (by decide +kernel) (by decide +kernel)
theorem w_256 : Cond.code yC_put cC_put 6 none ∈ WS := inWS 256 (by decide +kernel) (by decide +kernel)
theorem w_257 : Cond.methodLink "TinyCache" 51 yC_refuseWhenClosed ∈ WS := inWS 257 (by decide +kernel) (by decide +kernel)
theorem w_259 : Cond.instanceMethod yC_refuseWhenClosed ∈ WS := inWS 259 (by decide +kernel) (by decide +kernel)
theorem w_260 : Cond.code yC_refuseWhenClosed cC_refuseWhenClosed 1 none ∈ WS := inWS 260 (by decide +kernel) (by decide +kernel)
theorem w_261 : Cond.classLink "TinyCache" 133 "java/lang/IllegalStateException" ∈ WS := inWS 261 (by decide +kernel) (by decide +kernel)
theorem w_276 : Cond.classLink "TinyCache" 54 "java/lang/IllegalArgumentException" ∈ WS := inWS 276 (by decide +kernel) (by decide +kernel)
theorem w_291 : Cond.instantiable "TinyCache$Item" 6 ∈ WS := inWS 291 (by decide +kernel) (by decide +kernel)
theorem w_292 : Cond.methodLink "TinyCache" 57 yJ_copyOf ∈ WS := inWS 292 (by decide +kernel) (by decide +kernel)
theorem w_293 : Cond.static yJ_copyOf ∈ WS := inWS 293 (by decide +kernel) (by decide +kernel)
theorem w_294 : Cond.code yJ_copyOf cJ_copyOf 3 (some (.array .int)) ∈ WS := inWS 294 (by decide +kernel) (by decide +kernel)
theorem w_308 : Cond.methodLink "TinyCache" 63 yT_init ∈ WS := inWS 308 (by decide +kernel) (by decide +kernel)
theorem w_309 : Cond.instanceMethod yT_init ∈ WS := inWS 309 (by decide +kernel) (by decide +kernel)
theorem w_310 : Cond.code yT_init cT_init 6 none ∈ WS := inWS 310 (by decide +kernel) (by decide +kernel)
theorem w_311 : Cond.methodLink "TinyCache$Item" 3 ⟨"java/lang/Object", "<init>", "()V"⟩ ∈ WS := inWS 311 (by decide +kernel) (by decide +kernel)
theorem w_315 : Cond.static yC_filterBit ∈ WS := inWS 315 (by decide +kernel) (by decide +kernel)
theorem w_316 : Cond.code yC_filterBit cC_filterBit 2 (some .long) ∈ WS := inWS 316 (by decide +kernel) (by decide +kernel)
theorem w_317 : Cond.constantLong "TinyCache" 211 (63) ∈ WS := inWS 317 (by decide +kernel) (by decide +kernel)
theorem w_318 : Cond.fieldLink "TinyCache$Item" 23 "TinyCache$Item" "key" "J" ∈ WS := inWS 318 (by decide +kernel) (by decide +kernel)
theorem w_319 : Cond.fieldLink "TinyCache$Index" 25 "TinyCache$Item" "key" "J" ∈ WS := inWS 319 (by decide +kernel) (by decide +kernel)
theorem w_320 : Cond.fieldLink "TinyCache$Page" 54 "TinyCache$Item" "key" "J" ∈ WS := inWS 320 (by decide +kernel) (by decide +kernel)
theorem w_321 : Cond.fieldLink "TinyCache" 175 "TinyCache$Item" "key" "J" ∈ WS := inWS 321 (by decide +kernel) (by decide +kernel)
theorem w_322 : Cond.fieldLink "TinyCache$Item" 27 "TinyCache$Item" "value" "[I" ∈ WS := inWS 322 (by decide +kernel) (by decide +kernel)
theorem w_323 : Cond.fieldLink "TinyCache" 96 "TinyCache$Item" "value" "[I" ∈ WS := inWS 323 (by decide +kernel) (by decide +kernel)
theorem w_324 : Cond.fieldLink "TinyCache$Item" 35 "TinyCache$Item" "set" "I" ∈ WS := inWS 324 (by decide +kernel) (by decide +kernel)
theorem w_325 : Cond.fieldLink "TinyCache$Index" 33 "TinyCache$Item" "set" "I" ∈ WS := inWS 325 (by decide +kernel) (by decide +kernel)
theorem w_326 : Cond.fieldLink "TinyCache$Item" 41 "TinyCache$Item" "bit" "J" ∈ WS := inWS 326 (by decide +kernel) (by decide +kernel)
theorem w_327 : Cond.fieldLink "TinyCache$Page" 31 "TinyCache$Item" "bit" "J" ∈ WS := inWS 327 (by decide +kernel) (by decide +kernel)
theorem w_328 : Cond.fieldLink "TinyCache$Item" 9 "TinyCache$Item" "logPage" "I" ∈ WS := inWS 328 (by decide +kernel) (by decide +kernel)
theorem w_329 : Cond.fieldLink "TinyCache$Log" 47 "TinyCache$Item" "logPage" "I" ∈ WS := inWS 329 (by decide +kernel) (by decide +kernel)
theorem w_330 : Cond.fieldLink "TinyCache$Index" 44 "TinyCache$Item" "logPage" "I" ∈ WS := inWS 330 (by decide +kernel) (by decide +kernel)
theorem w_331 : Cond.fieldLink "TinyCache$Item" 15 "TinyCache$Item" "got" "Z" ∈ WS := inWS 331 (by decide +kernel) (by decide +kernel)
theorem w_332 : Cond.fieldLink "TinyCache$Log" 50 "TinyCache$Item" "got" "Z" ∈ WS := inWS 332 (by decide +kernel) (by decide +kernel)
theorem w_333 : Cond.fieldLink "TinyCache" 93 "TinyCache$Item" "got" "Z" ∈ WS := inWS 333 (by decide +kernel) (by decide +kernel)
theorem w_334 : Cond.fieldLink "TinyCache$Index" 40 "TinyCache$Item" "got" "Z" ∈ WS := inWS 334 (by decide +kernel) (by decide +kernel)
theorem w_335 : Cond.fieldLink "TinyCache$Page" 46 "TinyCache$Item" "got" "Z" ∈ WS := inWS 335 (by decide +kernel) (by decide +kernel)
theorem w_349 : Cond.methodLink "TinyCache" 66 yG_hasRoomFor ∈ WS := inWS 349 (by decide +kernel) (by decide +kernel)
theorem w_350 : Cond.instanceMethod yG_hasRoomFor ∈ WS := inWS 350 (by decide +kernel) (by decide +kernel)
theorem w_351 : Cond.selects "TinyCache$Log" yG_hasRoomFor yG_hasRoomFor ∈ WS := inWS 351 (by decide +kernel) (by decide +kernel)
theorem w_352 : Cond.code yG_hasRoomFor cG_hasRoomFor 2 (some .boolean) ∈ WS := inWS 352 (by decide +kernel) (by decide +kernel)
theorem w_353 : Cond.methodLink "TinyCache$Log" 37 yT_words ∈ WS := inWS 353 (by decide +kernel) (by decide +kernel)
theorem w_354 : Cond.instanceMethod yT_words ∈ WS := inWS 354 (by decide +kernel) (by decide +kernel)
theorem w_355 : Cond.selects "TinyCache$Item" yT_words yT_words ∈ WS := inWS 355 (by decide +kernel) (by decide +kernel)
theorem w_356 : Cond.code yT_words cT_words 1 (some .int) ∈ WS := inWS 356 (by decide +kernel) (by decide +kernel)
theorem w_357 : Cond.methodLink "TinyCache$Log" 43 yP_hasRoomFor ∈ WS := inWS 357 (by decide +kernel) (by decide +kernel)
theorem w_358 : Cond.instanceMethod yP_hasRoomFor ∈ WS := inWS 358 (by decide +kernel) (by decide +kernel)
theorem w_359 : Cond.selects "TinyCache$Page" yP_hasRoomFor yP_hasRoomFor ∈ WS := inWS 359 (by decide +kernel) (by decide +kernel)
theorem w_360 : Cond.code yP_hasRoomFor cP_hasRoomFor 2 (some .boolean) ∈ WS := inWS 360 (by decide +kernel) (by decide +kernel)
theorem w_361 : Cond.methodLink "TinyCache" 70 yC_writeOpenPage ∈ WS := inWS 361 (by decide +kernel) (by decide +kernel)
theorem w_363 : Cond.instanceMethod yC_writeOpenPage ∈ WS := inWS 363 (by decide +kernel) (by decide +kernel)
theorem w_364 : Cond.code yC_writeOpenPage cC_writeOpenPage 3 none ∈ WS := inWS 364 (by decide +kernel) (by decide +kernel)
theorem w_365 : Cond.methodLink "TinyCache" 151 yG_isBeforeWrittenSegment ∈ WS := inWS 365 (by decide +kernel) (by decide +kernel)
theorem w_366 : Cond.instanceMethod yG_isBeforeWrittenSegment ∈ WS := inWS 366 (by decide +kernel) (by decide +kernel)
theorem w_367 : Cond.selects "TinyCache$Log" yG_isBeforeWrittenSegment yG_isBeforeWrittenSegment ∈ WS := inWS 367 (by decide +kernel) (by decide +kernel)
theorem w_368 : Cond.code yG_isBeforeWrittenSegment cG_isBeforeWrittenSegment 1 (some .boolean) ∈ WS := inWS 368 (by decide +kernel) (by decide +kernel)
theorem w_369 : Cond.methodLink "TinyCache" 155 yC_emptySegment ∈ WS := inWS 369 (by decide +kernel) (by decide +kernel)
theorem w_371 : Cond.instanceMethod yC_emptySegment ∈ WS := inWS 371 (by decide +kernel) (by decide +kernel)
theorem w_372 : Cond.code yC_emptySegment cC_emptySegment 7 (some .int) ∈ WS := inWS 372 (by decide +kernel) (by decide +kernel)
theorem w_373 : Cond.methodLink "TinyCache" 161 yG_oldestSegmentEnd ∈ WS := inWS 373 (by decide +kernel) (by decide +kernel)
theorem w_374 : Cond.instanceMethod yG_oldestSegmentEnd ∈ WS := inWS 374 (by decide +kernel) (by decide +kernel)
theorem w_375 : Cond.selects "TinyCache$Log" yG_oldestSegmentEnd yG_oldestSegmentEnd ∈ WS := inWS 375 (by decide +kernel) (by decide +kernel)
theorem w_376 : Cond.code yG_oldestSegmentEnd cG_oldestSegmentEnd 1 (some .int) ∈ WS := inWS 376 (by decide +kernel) (by decide +kernel)
theorem w_377 : Cond.methodLink "TinyCache" 164 yI_takeGotAlone ∈ WS := inWS 377 (by decide +kernel) (by decide +kernel)
theorem w_378 : Cond.instanceMethod yI_takeGotAlone ∈ WS := inWS 378 (by decide +kernel) (by decide +kernel)
theorem w_379 : Cond.selects "TinyCache$Index" yI_takeGotAlone yI_takeGotAlone ∈ WS := inWS 379 (by decide +kernel) (by decide +kernel)
theorem w_380 : Cond.code yI_takeGotAlone cI_takeGotAlone 7 (some .int) ∈ WS := inWS 380 (by decide +kernel) (by decide +kernel)
theorem w_381 : Cond.methodLink "TinyCache$Index" 36 yI_shrinkTo ∈ WS := inWS 381 (by decide +kernel) (by decide +kernel)
theorem w_383 : Cond.instanceMethod yI_shrinkTo ∈ WS := inWS 383 (by decide +kernel) (by decide +kernel)
theorem w_384 : Cond.code yI_shrinkTo cI_shrinkTo 3 none ∈ WS := inWS 384 (by decide +kernel) (by decide +kernel)
theorem w_385 : Cond.methodLink "TinyCache" 168 yI_setsBefore ∈ WS := inWS 385 (by decide +kernel) (by decide +kernel)
theorem w_386 : Cond.instanceMethod yI_setsBefore ∈ WS := inWS 386 (by decide +kernel) (by decide +kernel)
theorem w_387 : Cond.selects "TinyCache$Index" yI_setsBefore yI_setsBefore ∈ WS := inWS 387 (by decide +kernel) (by decide +kernel)
theorem w_388 : Cond.code yI_setsBefore cI_setsBefore 5 (some .long) ∈ WS := inWS 388 (by decide +kernel) (by decide +kernel)
theorem w_389 : Cond.methodLink "TinyCache" 172 yI_takeSet ∈ WS := inWS 389 (by decide +kernel) (by decide +kernel)
theorem w_390 : Cond.instanceMethod yI_takeSet ∈ WS := inWS 390 (by decide +kernel) (by decide +kernel)
theorem w_391 : Cond.selects "TinyCache$Index" yI_takeSet yI_takeSet ∈ WS := inWS 391 (by decide +kernel) (by decide +kernel)
theorem w_392 : Cond.code yI_takeSet cI_takeSet 7 (some .int) ∈ WS := inWS 392 (by decide +kernel) (by decide +kernel)
theorem w_393 : Cond.methodLink "TinyCache" 103 yC_removeFromSet ∈ WS := inWS 393 (by decide +kernel) (by decide +kernel)
theorem w_395 : Cond.instanceMethod yC_removeFromSet ∈ WS := inWS 395 (by decide +kernel) (by decide +kernel)
theorem w_396 : Cond.code yC_removeFromSet cC_removeFromSet 4 (some .boolean) ∈ WS := inWS 396 (by decide +kernel) (by decide +kernel)
theorem w_397 : Cond.methodLink "TinyCache" 87 yC_readFromSet ∈ WS := inWS 397 (by decide +kernel) (by decide +kernel)
theorem w_399 : Cond.instanceMethod yC_readFromSet ∈ WS := inWS 399 (by decide +kernel) (by decide +kernel)
theorem w_400 : Cond.code yC_readFromSet cC_readFromSet 6 (some (.object "TinyCache$Item")) ∈ WS := inWS 400 (by decide +kernel) (by decide +kernel)
theorem w_401 : Cond.methodLink "TinyCache" 204 yC_filterBit ∈ WS := inWS 401 (by decide +kernel) (by decide +kernel)
theorem w_402 : Cond.methodLink "TinyCache" 115 yP_find ∈ WS := inWS 402 (by decide +kernel) (by decide +kernel)
theorem w_403 : Cond.instanceMethod yP_find ∈ WS := inWS 403 (by decide +kernel) (by decide +kernel)
theorem w_404 : Cond.selects "TinyCache$Page" yP_find yP_find ∈ WS := inWS 404 (by decide +kernel) (by decide +kernel)
theorem w_405 : Cond.code yP_find cP_find 4 (some (.object "TinyCache$Item")) ∈ WS := inWS 405 (by decide +kernel) (by decide +kernel)
theorem w_406 : Cond.methodLink "TinyCache$Page" 34 yP_placeOf ∈ WS := inWS 406 (by decide +kernel) (by decide +kernel)
theorem w_408 : Cond.instanceMethod yP_placeOf ∈ WS := inWS 408 (by decide +kernel) (by decide +kernel)
theorem w_409 : Cond.code yP_placeOf cP_placeOf 4 (some .int) ∈ WS := inWS 409 (by decide +kernel) (by decide +kernel)
theorem w_410 : Cond.methodLink "TinyCache" 183 yP_remove ∈ WS := inWS 410 (by decide +kernel) (by decide +kernel)
theorem w_411 : Cond.instanceMethod yP_remove ∈ WS := inWS 411 (by decide +kernel) (by decide +kernel)
theorem w_412 : Cond.selects "TinyCache$Page" yP_remove yP_remove ∈ WS := inWS 412 (by decide +kernel) (by decide +kernel)
theorem w_413 : Cond.code yP_remove cP_remove 4 none ∈ WS := inWS 413 (by decide +kernel) (by decide +kernel)
theorem w_414 : Cond.methodLink "TinyCache$Page" 38 yP_removeAt ∈ WS := inWS 414 (by decide +kernel) (by decide +kernel)
theorem w_416 : Cond.instanceMethod yP_removeAt ∈ WS := inWS 416 (by decide +kernel) (by decide +kernel)
theorem w_417 : Cond.code yP_removeAt cP_removeAt 3 none ∈ WS := inWS 417 (by decide +kernel) (by decide +kernel)
theorem w_418 : Cond.methodLink "TinyCache$Page" 28 yT_words ∈ WS := inWS 418 (by decide +kernel) (by decide +kernel)
theorem w_419 : Cond.methodLink "TinyCache" 179 yC_moveGathered ∈ WS := inWS 419 (by decide +kernel) (by decide +kernel)
theorem w_421 : Cond.instanceMethod yC_moveGathered ∈ WS := inWS 421 (by decide +kernel) (by decide +kernel)
theorem w_422 : Cond.code yC_moveGathered cC_moveGathered 5 none ∈ WS := inWS 422 (by decide +kernel) (by decide +kernel)
theorem w_423 : Cond.methodLink "TinyCache" 186 yT_words ∈ WS := inWS 423 (by decide +kernel) (by decide +kernel)
theorem w_424 : Cond.methodLink "TinyCache" 188 yP_dropFor ∈ WS := inWS 424 (by decide +kernel) (by decide +kernel)
theorem w_425 : Cond.instanceMethod yP_dropFor ∈ WS := inWS 425 (by decide +kernel) (by decide +kernel)
theorem w_426 : Cond.selects "TinyCache$Page" yP_dropFor yP_dropFor ∈ WS := inWS 426 (by decide +kernel) (by decide +kernel)
theorem w_427 : Cond.code yP_dropFor cP_dropFor 6 (some .int) ∈ WS := inWS 427 (by decide +kernel) (by decide +kernel)
theorem w_428 : Cond.methodLink "TinyCache$Page" 42 yP_hasRoomFor ∈ WS := inWS 428 (by decide +kernel) (by decide +kernel)
theorem w_429 : Cond.methodLink "TinyCache" 192 yP_hasRoomFor ∈ WS := inWS 429 (by decide +kernel) (by decide +kernel)
theorem w_430 : Cond.methodLink "TinyCache" 195 yP_add ∈ WS := inWS 430 (by decide +kernel) (by decide +kernel)
theorem w_431 : Cond.instanceMethod yP_add ∈ WS := inWS 431 (by decide +kernel) (by decide +kernel)
theorem w_432 : Cond.selects "TinyCache$Page" yP_add yP_add ∈ WS := inWS 432 (by decide +kernel) (by decide +kernel)
theorem w_433 : Cond.code yP_add cP_add 2 none ∈ WS := inWS 433 (by decide +kernel) (by decide +kernel)
theorem w_434 : Cond.methodLink "TinyCache" 198 yP_clearMarks ∈ WS := inWS 434 (by decide +kernel) (by decide +kernel)
theorem w_435 : Cond.instanceMethod yP_clearMarks ∈ WS := inWS 435 (by decide +kernel) (by decide +kernel)
theorem w_436 : Cond.selects "TinyCache$Page" yP_clearMarks yP_clearMarks ∈ WS := inWS 436 (by decide +kernel) (by decide +kernel)
theorem w_437 : Cond.code yP_clearMarks cP_clearMarks 2 none ∈ WS := inWS 437 (by decide +kernel) (by decide +kernel)
theorem w_438 : Cond.methodLink "TinyCache" 158 yG_writeOut ∈ WS := inWS 438 (by decide +kernel) (by decide +kernel)
theorem w_439 : Cond.instanceMethod yG_writeOut ∈ WS := inWS 439 (by decide +kernel) (by decide +kernel)
theorem w_440 : Cond.selects "TinyCache$Log" yG_writeOut yG_writeOut ∈ WS := inWS 440 (by decide +kernel) (by decide +kernel)
theorem w_441 : Cond.code yG_writeOut cG_writeOut 3 none ∈ WS := inWS 441 (by decide +kernel) (by decide +kernel)
theorem w_442 : Cond.methodLink "TinyCache$Log" 59 yP_wipe ∈ WS := inWS 442 (by decide +kernel) (by decide +kernel)
theorem w_443 : Cond.instanceMethod yP_wipe ∈ WS := inWS 443 (by decide +kernel) (by decide +kernel)
theorem w_444 : Cond.selects "TinyCache$Page" yP_wipe yP_wipe ∈ WS := inWS 444 (by decide +kernel) (by decide +kernel)
theorem w_445 : Cond.code yP_wipe cP_wipe 2 none ∈ WS := inWS 445 (by decide +kernel) (by decide +kernel)
theorem w_446 : Cond.methodLink "TinyCache" 73 yG_append ∈ WS := inWS 446 (by decide +kernel) (by decide +kernel)
theorem w_447 : Cond.instanceMethod yG_append ∈ WS := inWS 447 (by decide +kernel) (by decide +kernel)
theorem w_448 : Cond.selects "TinyCache$Log" yG_append yG_append ∈ WS := inWS 448 (by decide +kernel) (by decide +kernel)
theorem w_449 : Cond.code yG_append cG_append 2 none ∈ WS := inWS 449 (by decide +kernel) (by decide +kernel)
theorem w_450 : Cond.methodLink "TinyCache$Log" 54 yP_add ∈ WS := inWS 450 (by decide +kernel) (by decide +kernel)
theorem w_451 : Cond.methodLink "TinyCache$Log" 58 yI_add ∈ WS := inWS 451 (by decide +kernel) (by decide +kernel)
theorem w_452 : Cond.instanceMethod yI_add ∈ WS := inWS 452 (by decide +kernel) (by decide +kernel)
theorem w_453 : Cond.selects "TinyCache$Index" yI_add yI_add ∈ WS := inWS 453 (by decide +kernel) (by decide +kernel)
theorem w_454 : Cond.code yI_add cI_add 2 none ∈ WS := inWS 454 (by decide +kernel) (by decide +kernel)
theorem w_455 : Cond.methodLink "TinyCache$Index" 29 yI_remove ∈ WS := inWS 455 (by decide +kernel) (by decide +kernel)
theorem w_456 : Cond.instanceMethod yI_remove ∈ WS := inWS 456 (by decide +kernel) (by decide +kernel)
theorem w_457 : Cond.selects "TinyCache$Index" yI_remove yI_remove ∈ WS := inWS 457 (by decide +kernel) (by decide +kernel)
theorem w_458 : Cond.code yI_remove cI_remove 6 (some .boolean) ∈ WS := inWS 458 (by decide +kernel) (by decide +kernel)
theorem w_459 : Cond.methodLink "TinyCacheLaw" 70 yW_get ∈ WS := inWS 459 (by decide +kernel) (by decide +kernel)
theorem w_460 : Cond.static yW_get ∈ WS := inWS 460 (by decide +kernel) (by decide +kernel)
theorem w_461 : Cond.codeWith yW_get cW_get 5 (some .int) [(0, 9, 12, 19)] ∈ WS := inWS 461 (by decide +kernel) (by decide +kernel)
theorem w_462 : Cond.methodLink "TinyCacheLaw" 23 yC_get ∈ WS := inWS 462 (by decide +kernel) (by decide +kernel)
theorem w_463 : Cond.instanceMethod yC_get ∈ WS := inWS 463 (by decide +kernel) (by decide +kernel)
theorem w_464 : Cond.selects "TinyCache" yC_get yC_get ∈ WS := inWS 464 (by decide +kernel) (by decide +kernel)
theorem w_465 : Cond.code yC_get cC_get 3 (some .int) ∈ WS := inWS 465 (by decide +kernel) (by decide +kernel)
theorem w_466 : Cond.methodLink "TinyCache" 81 yI_find ∈ WS := inWS 466 (by decide +kernel) (by decide +kernel)
theorem w_467 : Cond.instanceMethod yI_find ∈ WS := inWS 467 (by decide +kernel) (by decide +kernel)
theorem w_468 : Cond.selects "TinyCache$Index" yI_find yI_find ∈ WS := inWS 468 (by decide +kernel) (by decide +kernel)
theorem w_469 : Cond.code yI_find cI_find 4 (some (.object "TinyCache$Item")) ∈ WS := inWS 469 (by decide +kernel) (by decide +kernel)
theorem w_470 : Cond.methodLink "TinyCache" 90 yG_hasInOpenPage ∈ WS := inWS 470 (by decide +kernel) (by decide +kernel)
theorem w_471 : Cond.instanceMethod yG_hasInOpenPage ∈ WS := inWS 471 (by decide +kernel) (by decide +kernel)
theorem w_472 : Cond.selects "TinyCache$Log" yG_hasInOpenPage yG_hasInOpenPage ∈ WS := inWS 472 (by decide +kernel) (by decide +kernel)
theorem w_473 : Cond.code yG_hasInOpenPage cG_hasInOpenPage 2 (some .boolean) ∈ WS := inWS 473 (by decide +kernel) (by decide +kernel)
theorem w_474 : Cond.methodLink "TinyCacheLaw" 74 yW_got ∈ WS := inWS 474 (by decide +kernel) (by decide +kernel)
theorem w_475 : Cond.static yW_got ∈ WS := inWS 475 (by decide +kernel) (by decide +kernel)
theorem w_476 : Cond.codeWith yW_got cW_got 4 (some .int) [(0, 9, 12, 13)] ∈ WS := inWS 476 (by decide +kernel) (by decide +kernel)
theorem w_477 : Cond.methodLink "TinyCacheLaw" 27 yC_got ∈ WS := inWS 477 (by decide +kernel) (by decide +kernel)
theorem w_478 : Cond.instanceMethod yC_got ∈ WS := inWS 478 (by decide +kernel) (by decide +kernel)
theorem w_479 : Cond.selects "TinyCache" yC_got yC_got ∈ WS := inWS 479 (by decide +kernel) (by decide +kernel)
theorem w_480 : Cond.code yC_got cC_got 2 (some .int) ∈ WS := inWS 480 (by decide +kernel) (by decide +kernel)
theorem w_481 : Cond.methodLink "TinyCacheLaw" 78 yW_delete ∈ WS := inWS 481 (by decide +kernel) (by decide +kernel)
theorem w_482 : Cond.static yW_delete ∈ WS := inWS 482 (by decide +kernel) (by decide +kernel)
theorem w_483 : Cond.codeWith yW_delete cW_delete 5 (some .int) [(0, 16, 19, 19)] ∈ WS := inWS 483 (by decide +kernel) (by decide +kernel)
theorem w_484 : Cond.methodLink "TinyCacheLaw" 31 yC_delete ∈ WS := inWS 484 (by decide +kernel) (by decide +kernel)
theorem w_485 : Cond.instanceMethod yC_delete ∈ WS := inWS 485 (by decide +kernel) (by decide +kernel)
theorem w_486 : Cond.selects "TinyCache" yC_delete yC_delete ∈ WS := inWS 486 (by decide +kernel) (by decide +kernel)
theorem w_487 : Cond.code yC_delete cC_delete 5 (some .boolean) ∈ WS := inWS 487 (by decide +kernel) (by decide +kernel)
theorem w_488 : Cond.methodLink "TinyCache" 99 yI_remove ∈ WS := inWS 488 (by decide +kernel) (by decide +kernel)
theorem w_489 : Cond.methodLink "TinyCacheLaw" 85 yW_where ∈ WS := inWS 489 (by decide +kernel) (by decide +kernel)
theorem w_490 : Cond.static yW_where ∈ WS := inWS 490 (by decide +kernel) (by decide +kernel)
theorem w_491 : Cond.codeWith yW_where cW_where 5 (some .int) [(0, 9, 12, 19)] ∈ WS := inWS 491 (by decide +kernel) (by decide +kernel)
theorem w_492 : Cond.methodLink "TinyCacheLaw" 35 yC_where ∈ WS := inWS 492 (by decide +kernel) (by decide +kernel)
theorem w_493 : Cond.instanceMethod yC_where ∈ WS := inWS 493 (by decide +kernel) (by decide +kernel)
theorem w_494 : Cond.selects "TinyCache" yC_where yC_where ∈ WS := inWS 494 (by decide +kernel) (by decide +kernel)
theorem w_495 : Cond.code yC_where cC_where 3 (some .int) ∈ WS := inWS 495 (by decide +kernel) (by decide +kernel)
theorem w_496 : Cond.methodLink "TinyCacheLaw" 88 yW_flash ∈ WS := inWS 496 (by decide +kernel) (by decide +kernel)
theorem w_497 : Cond.static yW_flash ∈ WS := inWS 497 (by decide +kernel) (by decide +kernel)
theorem w_498 : Cond.codeWith yW_flash cW_flash 5 (some .int) [(0, 10, 13, 13)] ∈ WS := inWS 498 (by decide +kernel) (by decide +kernel)
theorem w_499 : Cond.methodLink "TinyCacheLaw" 38 yC_flash ∈ WS := inWS 499 (by decide +kernel) (by decide +kernel)
theorem w_500 : Cond.instanceMethod yC_flash ∈ WS := inWS 500 (by decide +kernel) (by decide +kernel)
theorem w_501 : Cond.selects "TinyCache" yC_flash yC_flash ∈ WS := inWS 501 (by decide +kernel) (by decide +kernel)
theorem w_502 : Cond.code yC_flash cC_flash 3 (some .int) ∈ WS := inWS 502 (by decide +kernel) (by decide +kernel)
theorem w_503 : Cond.methodLink "TinyCache" 118 yP_wordAt ∈ WS := inWS 503 (by decide +kernel) (by decide +kernel)
theorem w_504 : Cond.instanceMethod yP_wordAt ∈ WS := inWS 504 (by decide +kernel) (by decide +kernel)
theorem w_505 : Cond.selects "TinyCache$Page" yP_wordAt yP_wordAt ∈ WS := inWS 505 (by decide +kernel) (by decide +kernel)
theorem w_506 : Cond.code yP_wordAt cP_wordAt 5 (some .int) ∈ WS := inWS 506 (by decide +kernel) (by decide +kernel)
theorem w_507 : Cond.methodLink "TinyCache$Page" 50 yT_wordAt ∈ WS := inWS 507 (by decide +kernel) (by decide +kernel)
theorem w_508 : Cond.instanceMethod yT_wordAt ∈ WS := inWS 508 (by decide +kernel) (by decide +kernel)
theorem w_509 : Cond.selects "TinyCache$Item" yT_wordAt yT_wordAt ∈ WS := inWS 509 (by decide +kernel) (by decide +kernel)
theorem w_510 : Cond.code yT_wordAt cT_wordAt 2 (some .int) ∈ WS := inWS 510 (by decide +kernel) (by decide +kernel)
theorem w_511 : Cond.methodLink "TinyCacheLaw" 91 yW_close ∈ WS := inWS 511 (by decide +kernel) (by decide +kernel)
theorem w_512 : Cond.static yW_close ∈ WS := inWS 512 (by decide +kernel) (by decide +kernel)
theorem w_513 : Cond.codeWith yW_close cW_close 2 (some .int) [(0, 4, 7, 19)] ∈ WS := inWS 513 (by decide +kernel) (by decide +kernel)
theorem w_514 : Cond.methodLink "TinyCacheLaw" 41 yC_close ∈ WS := inWS 514 (by decide +kernel) (by decide +kernel)
theorem w_515 : Cond.instanceMethod yC_close ∈ WS := inWS 515 (by decide +kernel) (by decide +kernel)
theorem w_516 : Cond.selects "TinyCache" yC_close yC_close ∈ WS := inWS 516 (by decide +kernel) (by decide +kernel)
theorem w_517 : Cond.code yC_close cC_close 1 none ∈ WS := inWS 517 (by decide +kernel) (by decide +kernel)
theorem w_518 : Cond.methodLink "TinyCacheLaw" 95 yW_crash ∈ WS := inWS 518 (by decide +kernel) (by decide +kernel)
theorem w_519 : Cond.static yW_crash ∈ WS := inWS 519 (by decide +kernel) (by decide +kernel)
theorem w_520 : Cond.codeWith yW_crash cW_crash 2 (some .int) [(0, 4, 7, 19)] ∈ WS := inWS 520 (by decide +kernel) (by decide +kernel)
theorem w_521 : Cond.methodLink "TinyCacheLaw" 44 yC_crash ∈ WS := inWS 521 (by decide +kernel) (by decide +kernel)
theorem w_522 : Cond.instanceMethod yC_crash ∈ WS := inWS 522 (by decide +kernel) (by decide +kernel)
theorem w_523 : Cond.selects "TinyCache" yC_crash yC_crash ∈ WS := inWS 523 (by decide +kernel) (by decide +kernel)
theorem w_524 : Cond.code yC_crash cC_crash 2 none ∈ WS := inWS 524 (by decide +kernel) (by decide +kernel)
theorem w_525 : Cond.methodLink "TinyCache" 125 yP_wipe ∈ WS := inWS 525 (by decide +kernel) (by decide +kernel)
theorem w_526 : Cond.methodLink "TinyCache" 128 yG_wipe ∈ WS := inWS 526 (by decide +kernel) (by decide +kernel)
theorem w_527 : Cond.instanceMethod yG_wipe ∈ WS := inWS 527 (by decide +kernel) (by decide +kernel)
theorem w_528 : Cond.selects "TinyCache$Log" yG_wipe yG_wipe ∈ WS := inWS 528 (by decide +kernel) (by decide +kernel)
theorem w_529 : Cond.code yG_wipe cG_wipe 2 none ∈ WS := inWS 529 (by decide +kernel) (by decide +kernel)
theorem w_530 : Cond.methodLink "TinyCache$Log" 62 yI_wipe ∈ WS := inWS 530 (by decide +kernel) (by decide +kernel)
theorem w_531 : Cond.instanceMethod yI_wipe ∈ WS := inWS 531 (by decide +kernel) (by decide +kernel)
theorem w_532 : Cond.selects "TinyCache$Index" yI_wipe yI_wipe ∈ WS := inWS 532 (by decide +kernel) (by decide +kernel)
theorem w_533 : Cond.code yI_wipe cI_wipe 1 none ∈ WS := inWS 533 (by decide +kernel) (by decide +kernel)
theorem w_534 : Cond.methodLink "TinyCache$Index" 47 yJ_fill ∈ WS := inWS 534 (by decide +kernel) (by decide +kernel)
theorem w_535 : Cond.static yJ_fill ∈ WS := inWS 535 (by decide +kernel) (by decide +kernel)
theorem w_536 : Cond.code yJ_fill cJ_fill 4 none ∈ WS := inWS 536 (by decide +kernel) (by decide +kernel)
theorem w_537 : Cond.methodLink "TinyCache" 129 yJ_fill ∈ WS := inWS 537 (by decide +kernel) (by decide +kernel)
theorem w_538 : Cond.methodLink "TinyCacheLaw" 98 yW_open ∈ WS := inWS 538 (by decide +kernel) (by decide +kernel)
theorem w_539 : Cond.static yW_open ∈ WS := inWS 539 (by decide +kernel) (by decide +kernel)
theorem w_540 : Cond.codeWith yW_open cW_open 3 (some .int) [(0, 8, 11, 19)] ∈ WS := inWS 540 (by decide +kernel) (by decide +kernel)
theorem w_541 : Cond.methodLink "TinyCacheLaw" 47 yC_open ∈ WS := inWS 541 (by decide +kernel) (by decide +kernel)
theorem w_542 : Cond.instanceMethod yC_open ∈ WS := inWS 542 (by decide +kernel) (by decide +kernel)
theorem w_543 : Cond.selects "TinyCache" yC_open yC_open ∈ WS := inWS 543 (by decide +kernel) (by decide +kernel)
theorem w_544 : Cond.code yC_open cC_open 1 (some .int) ∈ WS := inWS 544 (by decide +kernel) (by decide +kernel)
theorem w_545 : Cond.classLink "TinyCacheLaw" 52 "TinyCacheModel" ∈ WS := inWS 545 (by decide +kernel) (by decide +kernel)
theorem w_546 : Cond.instantiable "TinyCacheModel" 24 ∈ WS := inWS 546 (by decide +kernel) (by decide +kernel)
theorem w_547 : Cond.methodLink "TinyCacheLaw" 54 yM_init ∈ WS := inWS 547 (by decide +kernel) (by decide +kernel)
theorem w_548 : Cond.instanceMethod yM_init ∈ WS := inWS 548 (by decide +kernel) (by decide +kernel)
theorem w_549 : Cond.code yM_init cM_init 1 none ∈ WS := inWS 549 (by decide +kernel) (by decide +kernel)
theorem w_550 : Cond.methodLink "TinyCacheModel" 1 ⟨"java/lang/Object", "<init>", "()V"⟩ ∈ WS := inWS 550 (by decide +kernel) (by decide +kernel)
theorem w_551 : Cond.constant "TinyCacheModel" 27 (32768) ∈ WS := inWS 551 (by decide +kernel) (by decide +kernel)
theorem w_552 : Cond.fieldLink "TinyCacheModel" 65 "TinyCacheModel" "thrown" "I" ∈ WS := inWS 552 (by decide +kernel) (by decide +kernel)
theorem w_553 : Cond.fieldLink "TinyCacheModel" 7 "TinyCacheModel" "isOpen" "Z" ∈ WS := inWS 553 (by decide +kernel) (by decide +kernel)
theorem w_554 : Cond.fieldLink "TinyCacheModel" 13 "TinyCacheModel" "buffer" "[I" ∈ WS := inWS 554 (by decide +kernel) (by decide +kernel)
theorem w_555 : Cond.fieldLink "TinyCacheModel" 179 "TinyCacheModel" "gotLength" "I" ∈ WS := inWS 555 (by decide +kernel) (by decide +kernel)
theorem w_556 : Cond.fieldLink "TinyCacheModel" 17 "TinyCacheModel" "gotWords" "[I" ∈ WS := inWS 556 (by decide +kernel) (by decide +kernel)
theorem w_557 : Cond.fieldLink "TinyCacheModel" 20 "TinyCacheModel" "keys" "[J" ∈ WS := inWS 557 (by decide +kernel) (by decide +kernel)
theorem w_558 : Cond.fieldLink "TinyCacheModel" 24 "TinyCacheModel" "lengths" "[I" ∈ WS := inWS 558 (by decide +kernel) (by decide +kernel)
theorem w_559 : Cond.fieldLink "TinyCacheModel" 28 "TinyCacheModel" "words" "[I" ∈ WS := inWS 559 (by decide +kernel) (by decide +kernel)
theorem w_560 : Cond.fieldLink "TinyCacheModel" 31 "TinyCacheModel" "isNewest" "[Z" ∈ WS := inWS 560 (by decide +kernel) (by decide +kernel)
theorem w_561 : Cond.fieldLink "TinyCacheModel" 35 "TinyCacheModel" "wasGot" "[Z" ∈ WS := inWS 561 (by decide +kernel) (by decide +kernel)
theorem w_562 : Cond.fieldLink "TinyCacheModel" 38 "TinyCacheModel" "came" "[I" ∈ WS := inWS 562 (by decide +kernel) (by decide +kernel)
theorem w_563 : Cond.fieldLink "TinyCacheModel" 41 "TinyCacheModel" "isMarked" "[Z" ∈ WS := inWS 563 (by decide +kernel) (by decide +kernel)
theorem w_564 : Cond.fieldLink "TinyCacheModel" 106 "TinyCacheModel" "turn" "I" ∈ WS := inWS 564 (by decide +kernel) (by decide +kernel)
theorem w_565 : Cond.fieldLink "TinyCacheModel" 44 "TinyCacheModel" "many" "[I" ∈ WS := inWS 565 (by decide +kernel) (by decide +kernel)
theorem w_566 : Cond.fieldLink "TinyCacheModel" 47 "TinyCacheModel" "page" "[I" ∈ WS := inWS 566 (by decide +kernel) (by decide +kernel)
theorem w_567 : Cond.fieldLink "TinyCacheModel" 96 "TinyCacheModel" "written" "I" ∈ WS := inWS 567 (by decide +kernel) (by decide +kernel)
theorem w_568 : Cond.fieldLink "TinyCacheModel" 50 "TinyCacheModel" "inUse" "[Z" ∈ WS := inWS 568 (by decide +kernel) (by decide +kernel)
theorem w_569 : Cond.fieldLink "TinyCacheModel" 83 "TinyCacheModel" "gathered" "I" ∈ WS := inWS 569 (by decide +kernel) (by decide +kernel)
theorem w_570 : Cond.fieldLink "TinyCacheModel" 53 "TinyCacheModel" "gather" "[I" ∈ WS := inWS 570 (by decide +kernel) (by decide +kernel)
theorem w_571 : Cond.fieldLink "TinyCacheModel" 86 "TinyCacheModel" "again" "I" ∈ WS := inWS 571 (by decide +kernel) (by decide +kernel)
theorem w_572 : Cond.fieldLink "TinyCacheModel" 56 "TinyCacheModel" "anew" "[I" ∈ WS := inWS 572 (by decide +kernel) (by decide +kernel)
theorem w_573 : Cond.fieldLink "TinyCacheModel" 59 "TinyCacheModel" "isDue" "[Z" ∈ WS := inWS 573 (by decide +kernel) (by decide +kernel)
theorem w_574 : Cond.fieldLink "TinyCacheModel" 62 "TinyCacheModel" "counts" "[I" ∈ WS := inWS 574 (by decide +kernel) (by decide +kernel)
theorem w_624 : Cond.arrayClass .long ∈ WS := inWS 624 (by decide +kernel) (by decide +kernel)
theorem w_625 : Cond.arrayClass .boolean ∈ WS := inWS 625 (by decide +kernel) (by decide +kernel)
theorem w_626 : Cond.methodLink "TinyCacheLaw" 61 yM_thrown ∈ WS := inWS 626 (by decide +kernel) (by decide +kernel)
theorem w_627 : Cond.instanceMethod yM_thrown ∈ WS := inWS 627 (by decide +kernel) (by decide +kernel)
theorem w_628 : Cond.selects "TinyCacheModel" yM_thrown yM_thrown ∈ WS := inWS 628 (by decide +kernel) (by decide +kernel)
theorem w_629 : Cond.code yM_thrown cM_thrown 1 (some .int) ∈ WS := inWS 629 (by decide +kernel) (by decide +kernel)
theorem w_630 : Cond.methodLink "TinyCacheLaw" 60 yM_word ∈ WS := inWS 630 (by decide +kernel) (by decide +kernel)
theorem w_631 : Cond.instanceMethod yM_word ∈ WS := inWS 631 (by decide +kernel) (by decide +kernel)
theorem w_632 : Cond.selects "TinyCacheModel" yM_word yM_word ∈ WS := inWS 632 (by decide +kernel) (by decide +kernel)
theorem w_633 : Cond.code yM_word cM_word 4 (some .int) ∈ WS := inWS 633 (by decide +kernel) (by decide +kernel)
theorem w_634 : Cond.methodLink "TinyCacheModel" 165 yM_within ∈ WS := inWS 634 (by decide +kernel) (by decide +kernel)
theorem w_635 : Cond.static yM_within ∈ WS := inWS 635 (by decide +kernel) (by decide +kernel)
theorem w_636 : Cond.code yM_within cM_within 3 (some .boolean) ∈ WS := inWS 636 (by decide +kernel) (by decide +kernel)
theorem w_637 : Cond.methodLink "TinyCacheModel" 169 yM_fail ∈ WS := inWS 637 (by decide +kernel) (by decide +kernel)
theorem w_639 : Cond.instanceMethod yM_fail ∈ WS := inWS 639 (by decide +kernel) (by decide +kernel)
theorem w_640 : Cond.code yM_fail cM_fail 2 (some .int) ∈ WS := inWS 640 (by decide +kernel) (by decide +kernel)
theorem w_641 : Cond.methodLink "TinyCacheLaw" 69 yM_put ∈ WS := inWS 641 (by decide +kernel) (by decide +kernel)
theorem w_642 : Cond.instanceMethod yM_put ∈ WS := inWS 642 (by decide +kernel) (by decide +kernel)
theorem w_643 : Cond.selects "TinyCacheModel" yM_put yM_put ∈ WS := inWS 643 (by decide +kernel) (by decide +kernel)
theorem w_644 : Cond.code yM_put cM_put 6 none ∈ WS := inWS 644 (by decide +kernel) (by decide +kernel)
theorem w_645 : Cond.methodLink "TinyCacheModel" 172 yM_works ∈ WS := inWS 645 (by decide +kernel) (by decide +kernel)
theorem w_647 : Cond.instanceMethod yM_works ∈ WS := inWS 647 (by decide +kernel) (by decide +kernel)
theorem w_648 : Cond.code yM_works cM_works 1 (some .boolean) ∈ WS := inWS 648 (by decide +kernel) (by decide +kernel)
theorem w_649 : Cond.methodLink "TinyCacheModel" 122 yM_wordsOf ∈ WS := inWS 649 (by decide +kernel) (by decide +kernel)
theorem w_651 : Cond.instanceMethod yM_wordsOf ∈ WS := inWS 651 (by decide +kernel) (by decide +kernel)
theorem w_652 : Cond.code yM_wordsOf cM_wordsOf 4 (some .int) ∈ WS := inWS 652 (by decide +kernel) (by decide +kernel)
theorem w_653 : Cond.methodLink "TinyCacheModel" 79 yM_need ∈ WS := inWS 653 (by decide +kernel) (by decide +kernel)
theorem w_655 : Cond.instanceMethod yM_need ∈ WS := inWS 655 (by decide +kernel) (by decide +kernel)
theorem w_656 : Cond.code yM_need cM_need 2 (some .int) ∈ WS := inWS 656 (by decide +kernel) (by decide +kernel)
theorem w_657 : Cond.methodLink "TinyCacheModel" 176 yM_makeRoom ∈ WS := inWS 657 (by decide +kernel) (by decide +kernel)
theorem w_659 : Cond.instanceMethod yM_makeRoom ∈ WS := inWS 659 (by decide +kernel) (by decide +kernel)
theorem w_660 : Cond.code yM_makeRoom cM_makeRoom 4 none ∈ WS := inWS 660 (by decide +kernel) (by decide +kernel)
theorem w_661 : Cond.methodLink "TinyCacheModel" 109 yM_empty ∈ WS := inWS 661 (by decide +kernel) (by decide +kernel)
theorem w_663 : Cond.instanceMethod yM_empty ∈ WS := inWS 663 (by decide +kernel) (by decide +kernel)
theorem w_664 : Cond.code yM_empty cM_empty 4 none ∈ WS := inWS 664 (by decide +kernel) (by decide +kernel)
theorem w_665 : Cond.methodLink "TinyCacheModel" 89 yM_setOfKey ∈ WS := inWS 665 (by decide +kernel) (by decide +kernel)
theorem w_666 : Cond.static yM_setOfKey ∈ WS := inWS 666 (by decide +kernel) (by decide +kernel)
theorem w_667 : Cond.code yM_setOfKey cM_setOfKey 2 (some .int) ∈ WS := inWS 667 (by decide +kernel) (by decide +kernel)
theorem w_668 : Cond.methodLink "TinyCacheModel" 73 yM_mixed ∈ WS := inWS 668 (by decide +kernel) (by decide +kernel)
theorem w_669 : Cond.static yM_mixed ∈ WS := inWS 669 (by decide +kernel) (by decide +kernel)
theorem w_670 : Cond.code yM_mixed cM_mixed 4 (some .long) ∈ WS := inWS 670 (by decide +kernel) (by decide +kernel)
theorem w_671 : Cond.constantLong "TinyCacheModel" 69 (-4658895280553007687) ∈ WS := inWS 671 (by decide +kernel) (by decide +kernel)
theorem w_672 : Cond.constantLong "TinyCacheModel" 71 (-7723592293110705685) ∈ WS := inWS 672 (by decide +kernel) (by decide +kernel)
theorem w_673 : Cond.methodLink "TinyCacheModel" 128 yM_gatherAll ∈ WS := inWS 673 (by decide +kernel) (by decide +kernel)
theorem w_675 : Cond.instanceMethod yM_gatherAll ∈ WS := inWS 675 (by decide +kernel) (by decide +kernel)
theorem w_676 : Cond.code yM_gatherAll cM_gatherAll 6 none ∈ WS := inWS 676 (by decide +kernel) (by decide +kernel)
theorem w_677 : Cond.methodLink "TinyCacheModel" 131 yM_moveAll ∈ WS := inWS 677 (by decide +kernel) (by decide +kernel)
theorem w_679 : Cond.instanceMethod yM_moveAll ∈ WS := inWS 679 (by decide +kernel) (by decide +kernel)
theorem w_680 : Cond.code yM_moveAll cM_moveAll 4 none ∈ WS := inWS 680 (by decide +kernel) (by decide +kernel)
theorem w_681 : Cond.methodLink "TinyCacheModel" 143 yM_inSet ∈ WS := inWS 681 (by decide +kernel) (by decide +kernel)
theorem w_683 : Cond.instanceMethod yM_inSet ∈ WS := inWS 683 (by decide +kernel) (by decide +kernel)
theorem w_684 : Cond.code yM_inSet cM_inSet 6 (some .int) ∈ WS := inWS 684 (by decide +kernel) (by decide +kernel)
theorem w_685 : Cond.methodLink "TinyCacheModel" 140 yM_takeOut ∈ WS := inWS 685 (by decide +kernel) (by decide +kernel)
theorem w_687 : Cond.instanceMethod yM_takeOut ∈ WS := inWS 687 (by decide +kernel) (by decide +kernel)
theorem w_688 : Cond.code yM_takeOut cM_takeOut 4 none ∈ WS := inWS 688 (by decide +kernel) (by decide +kernel)
theorem w_689 : Cond.methodLink "TinyCacheModel" 146 yM_dropFirst ∈ WS := inWS 689 (by decide +kernel) (by decide +kernel)
theorem w_691 : Cond.instanceMethod yM_dropFirst ∈ WS := inWS 691 (by decide +kernel) (by decide +kernel)
theorem w_692 : Cond.code yM_dropFirst cM_dropFirst 5 none ∈ WS := inWS 692 (by decide +kernel) (by decide +kernel)
theorem w_693 : Cond.methodLink "TinyCacheModel" 137 yM_needAll ∈ WS := inWS 693 (by decide +kernel) (by decide +kernel)
theorem w_695 : Cond.instanceMethod yM_needAll ∈ WS := inWS 695 (by decide +kernel) (by decide +kernel)
theorem w_696 : Cond.code yM_needAll cM_needAll 4 (some .int) ∈ WS := inWS 696 (by decide +kernel) (by decide +kernel)
theorem w_697 : Cond.methodLink "TinyCacheModel" 150 yM_copy ∈ WS := inWS 697 (by decide +kernel) (by decide +kernel)
theorem w_699 : Cond.instanceMethod yM_copy ∈ WS := inWS 699 (by decide +kernel) (by decide +kernel)
theorem w_700 : Cond.code yM_copy cM_copy 4 (some .int) ∈ WS := inWS 700 (by decide +kernel) (by decide +kernel)
theorem w_701 : Cond.methodLink "TinyCacheModel" 153 yM_freeNumber ∈ WS := inWS 701 (by decide +kernel) (by decide +kernel)
theorem w_703 : Cond.instanceMethod yM_freeNumber ∈ WS := inWS 703 (by decide +kernel) (by decide +kernel)
theorem w_704 : Cond.code yM_freeNumber cM_freeNumber 3 (some .int) ∈ WS := inWS 704 (by decide +kernel) (by decide +kernel)
theorem w_705 : Cond.methodLink "TinyCacheModel" 99 yM_append ∈ WS := inWS 705 (by decide +kernel) (by decide +kernel)
theorem w_707 : Cond.instanceMethod yM_append ∈ WS := inWS 707 (by decide +kernel) (by decide +kernel)
theorem w_708 : Cond.code yM_append cM_append 3 none ∈ WS := inWS 708 (by decide +kernel) (by decide +kernel)
theorem w_709 : Cond.methodLink "TinyCacheModel" 134 yM_alone ∈ WS := inWS 709 (by decide +kernel) (by decide +kernel)
theorem w_711 : Cond.instanceMethod yM_alone ∈ WS := inWS 711 (by decide +kernel) (by decide +kernel)
theorem w_712 : Cond.code yM_alone cM_alone 4 none ∈ WS := inWS 712 (by decide +kernel) (by decide +kernel)
theorem w_713 : Cond.methodLink "TinyCacheModel" 157 yM_removeOld ∈ WS := inWS 713 (by decide +kernel) (by decide +kernel)
theorem w_715 : Cond.instanceMethod yM_removeOld ∈ WS := inWS 715 (by decide +kernel) (by decide +kernel)
theorem w_716 : Cond.code yM_removeOld cM_removeOld 5 (some .boolean) ∈ WS := inWS 716 (by decide +kernel) (by decide +kernel)
theorem w_717 : Cond.methodLink "TinyCacheModel" 161 yM_reads ∈ WS := inWS 717 (by decide +kernel) (by decide +kernel)
theorem w_719 : Cond.instanceMethod yM_reads ∈ WS := inWS 719 (by decide +kernel) (by decide +kernel)
theorem w_720 : Cond.code yM_reads cM_reads 6 (some .boolean) ∈ WS := inWS 720 (by decide +kernel) (by decide +kernel)
theorem w_721 : Cond.methodLink "TinyCacheModel" 93 yM_bitOf ∈ WS := inWS 721 (by decide +kernel) (by decide +kernel)
theorem w_722 : Cond.static yM_bitOf ∈ WS := inWS 722 (by decide +kernel) (by decide +kernel)
theorem w_723 : Cond.code yM_bitOf cM_bitOf 2 (some .int) ∈ WS := inWS 723 (by decide +kernel) (by decide +kernel)
theorem w_724 : Cond.constantLong "TinyCacheModel" 77 (63) ∈ WS := inWS 724 (by decide +kernel) (by decide +kernel)
theorem w_725 : Cond.methodLink "TinyCacheModel" 113 yM_writeOpen ∈ WS := inWS 725 (by decide +kernel) (by decide +kernel)
theorem w_727 : Cond.instanceMethod yM_writeOpen ∈ WS := inWS 727 (by decide +kernel) (by decide +kernel)
theorem w_728 : Cond.code yM_writeOpen cM_writeOpen 3 none ∈ WS := inWS 728 (by decide +kernel) (by decide +kernel)
theorem w_729 : Cond.methodLink "TinyCacheModel" 116 yM_sortAgain ∈ WS := inWS 729 (by decide +kernel) (by decide +kernel)
theorem w_731 : Cond.instanceMethod yM_sortAgain ∈ WS := inWS 731 (by decide +kernel) (by decide +kernel)
theorem w_732 : Cond.code yM_sortAgain cM_sortAgain 4 none ∈ WS := inWS 732 (by decide +kernel) (by decide +kernel)
theorem w_733 : Cond.methodLink "TinyCacheModel" 119 yM_putAnew ∈ WS := inWS 733 (by decide +kernel) (by decide +kernel)
theorem w_735 : Cond.instanceMethod yM_putAnew ∈ WS := inWS 735 (by decide +kernel) (by decide +kernel)
theorem w_736 : Cond.code yM_putAnew cM_putAnew 2 none ∈ WS := inWS 736 (by decide +kernel) (by decide +kernel)
theorem w_737 : Cond.methodLink "TinyCacheModel" 125 yM_enter ∈ WS := inWS 737 (by decide +kernel) (by decide +kernel)
theorem w_739 : Cond.instanceMethod yM_enter ∈ WS := inWS 739 (by decide +kernel) (by decide +kernel)
theorem w_740 : Cond.code yM_enter cM_enter 3 none ∈ WS := inWS 740 (by decide +kernel) (by decide +kernel)
theorem w_741 : Cond.methodLink "TinyCacheModel" 103 yM_newest ∈ WS := inWS 741 (by decide +kernel) (by decide +kernel)
theorem w_743 : Cond.instanceMethod yM_newest ∈ WS := inWS 743 (by decide +kernel) (by decide +kernel)
theorem w_744 : Cond.code yM_newest cM_newest 6 (some .int) ∈ WS := inWS 744 (by decide +kernel) (by decide +kernel)
theorem w_745 : Cond.methodLink "TinyCacheLaw" 73 yM_get ∈ WS := inWS 745 (by decide +kernel) (by decide +kernel)
theorem w_746 : Cond.instanceMethod yM_get ∈ WS := inWS 746 (by decide +kernel) (by decide +kernel)
theorem w_747 : Cond.selects "TinyCacheModel" yM_get yM_get ∈ WS := inWS 747 (by decide +kernel) (by decide +kernel)
theorem w_748 : Cond.code yM_get cM_get 5 (some .int) ∈ WS := inWS 748 (by decide +kernel) (by decide +kernel)
theorem w_749 : Cond.methodLink "TinyCacheModel" 182 yM_pageOf ∈ WS := inWS 749 (by decide +kernel) (by decide +kernel)
theorem w_751 : Cond.instanceMethod yM_pageOf ∈ WS := inWS 751 (by decide +kernel) (by decide +kernel)
theorem w_752 : Cond.code yM_pageOf cM_pageOf 5 (some .int) ∈ WS := inWS 752 (by decide +kernel) (by decide +kernel)
theorem w_753 : Cond.methodLink "TinyCacheModel" 185 yM_tell ∈ WS := inWS 753 (by decide +kernel) (by decide +kernel)
theorem w_755 : Cond.instanceMethod yM_tell ∈ WS := inWS 755 (by decide +kernel) (by decide +kernel)
theorem w_756 : Cond.code yM_tell cM_tell 3 none ∈ WS := inWS 756 (by decide +kernel) (by decide +kernel)
theorem w_757 : Cond.methodLink "TinyCacheLaw" 77 yM_got ∈ WS := inWS 757 (by decide +kernel) (by decide +kernel)
theorem w_758 : Cond.instanceMethod yM_got ∈ WS := inWS 758 (by decide +kernel) (by decide +kernel)
theorem w_759 : Cond.selects "TinyCacheModel" yM_got yM_got ∈ WS := inWS 759 (by decide +kernel) (by decide +kernel)
theorem w_760 : Cond.code yM_got cM_got 2 (some .int) ∈ WS := inWS 760 (by decide +kernel) (by decide +kernel)
theorem w_761 : Cond.methodLink "TinyCacheLaw" 80 yM_delete ∈ WS := inWS 761 (by decide +kernel) (by decide +kernel)
theorem w_762 : Cond.instanceMethod yM_delete ∈ WS := inWS 762 (by decide +kernel) (by decide +kernel)
theorem w_763 : Cond.selects "TinyCacheModel" yM_delete yM_delete ∈ WS := inWS 763 (by decide +kernel) (by decide +kernel)
theorem w_764 : Cond.code yM_delete cM_delete 5 (some .boolean) ∈ WS := inWS 764 (by decide +kernel) (by decide +kernel)
theorem w_765 : Cond.methodLink "TinyCacheLaw" 84 yM_setOf ∈ WS := inWS 765 (by decide +kernel) (by decide +kernel)
theorem w_766 : Cond.instanceMethod yM_setOf ∈ WS := inWS 766 (by decide +kernel) (by decide +kernel)
theorem w_767 : Cond.selects "TinyCacheModel" yM_setOf yM_setOf ∈ WS := inWS 767 (by decide +kernel) (by decide +kernel)
theorem w_768 : Cond.code yM_setOf cM_setOf 3 (some .int) ∈ WS := inWS 768 (by decide +kernel) (by decide +kernel)
theorem w_769 : Cond.methodLink "TinyCacheLaw" 87 yM_where ∈ WS := inWS 769 (by decide +kernel) (by decide +kernel)
theorem w_770 : Cond.instanceMethod yM_where ∈ WS := inWS 770 (by decide +kernel) (by decide +kernel)
theorem w_771 : Cond.selects "TinyCacheModel" yM_where yM_where ∈ WS := inWS 771 (by decide +kernel) (by decide +kernel)
theorem w_772 : Cond.code yM_where cM_where 3 (some .int) ∈ WS := inWS 772 (by decide +kernel) (by decide +kernel)
theorem w_773 : Cond.methodLink "TinyCacheLaw" 90 yM_flash ∈ WS := inWS 773 (by decide +kernel) (by decide +kernel)
theorem w_774 : Cond.instanceMethod yM_flash ∈ WS := inWS 774 (by decide +kernel) (by decide +kernel)
theorem w_775 : Cond.selects "TinyCacheModel" yM_flash yM_flash ∈ WS := inWS 775 (by decide +kernel) (by decide +kernel)
theorem w_776 : Cond.code yM_flash cM_flash 6 (some .int) ∈ WS := inWS 776 (by decide +kernel) (by decide +kernel)
theorem w_777 : Cond.methodLink "TinyCacheLaw" 94 yM_close ∈ WS := inWS 777 (by decide +kernel) (by decide +kernel)
theorem w_778 : Cond.instanceMethod yM_close ∈ WS := inWS 778 (by decide +kernel) (by decide +kernel)
theorem w_779 : Cond.selects "TinyCacheModel" yM_close yM_close ∈ WS := inWS 779 (by decide +kernel) (by decide +kernel)
theorem w_780 : Cond.code yM_close cM_close 1 none ∈ WS := inWS 780 (by decide +kernel) (by decide +kernel)
theorem w_781 : Cond.methodLink "TinyCacheLaw" 97 yM_crash ∈ WS := inWS 781 (by decide +kernel) (by decide +kernel)
theorem w_782 : Cond.instanceMethod yM_crash ∈ WS := inWS 782 (by decide +kernel) (by decide +kernel)
theorem w_783 : Cond.selects "TinyCacheModel" yM_crash yM_crash ∈ WS := inWS 783 (by decide +kernel) (by decide +kernel)
theorem w_784 : Cond.code yM_crash cM_crash 2 none ∈ WS := inWS 784 (by decide +kernel) (by decide +kernel)
theorem w_785 : Cond.methodLink "TinyCacheLaw" 101 yM_open ∈ WS := inWS 785 (by decide +kernel) (by decide +kernel)
theorem w_786 : Cond.instanceMethod yM_open ∈ WS := inWS 786 (by decide +kernel) (by decide +kernel)
theorem w_787 : Cond.selects "TinyCacheModel" yM_open yM_open ∈ WS := inWS 787 (by decide +kernel) (by decide +kernel)
theorem w_788 : Cond.code yM_open cM_open 1 (some .int) ∈ WS := inWS 788 (by decide +kernel) (by decide +kernel)
theorem w_789 : Cond.methodLink "TinyCacheModel" 188 yM_indexed ∈ WS := inWS 789 (by decide +kernel) (by decide +kernel)
theorem w_791 : Cond.instanceMethod yM_indexed ∈ WS := inWS 791 (by decide +kernel) (by decide +kernel)
theorem w_792 : Cond.code yM_indexed cM_indexed 4 (some .int) ∈ WS := inWS 792 (by decide +kernel) (by decide +kernel)
theorem w_793 : Cond.methodLink "TinyCacheLaw" 105 yM_count ∈ WS := inWS 793 (by decide +kernel) (by decide +kernel)
theorem w_794 : Cond.instanceMethod yM_count ∈ WS := inWS 794 (by decide +kernel) (by decide +kernel)
theorem w_795 : Cond.selects "TinyCacheModel" yM_count yM_count ∈ WS := inWS 795 (by decide +kernel) (by decide +kernel)
theorem w_796 : Cond.code yM_count cM_count 2 (some .int) ∈ WS := inWS 796 (by decide +kernel) (by decide +kernel)
theorem w_797 : Cond.constantLong "TinyCacheLaw" 64 (4294967295) ∈ WS := inWS 797 (by decide +kernel) (by decide +kernel)
end
section
theorem dC_init_0 : decode cC_init 0 = .ok (.aload_n 0, 1) := by decide +kernel
theorem dC_init_1 : decode cC_init 1 = .ok (.invokespecial 3, 3) := by decide +kernel
theorem dC_init_4 : decode cC_init 4 = .ok (.aload_n 0, 1) := by decide +kernel
theorem dC_init_5 : decode cC_init 5 = .ok (.bipush 8, 2) := by decide +kernel
theorem dC_init_7 : decode cC_init 7 = .ok (.newarray .int, 2) := by decide +kernel
theorem dC_init_9 : decode cC_init 9 = .ok (.putfield 9, 3) := by decide +kernel
theorem dC_init_12 : decode cC_init 12 = .ok (.aload_n 0, 1) := by decide +kernel
theorem dC_init_13 : decode cC_init 13 = .ok (.bipush 64, 2) := by decide +kernel
theorem dC_init_15 : decode cC_init 15 = .ok (.invokestatic 13, 3) := by decide +kernel
theorem dC_init_18 : decode cC_init 18 = .ok (.putfield 17, 3) := by decide +kernel
theorem dC_init_21 : decode cC_init 21 = .ok (.aload_n 0, 1) := by decide +kernel
theorem dC_init_22 : decode cC_init 22 = .ok (.new 21, 3) := by decide +kernel
theorem dC_init_25 : decode cC_init 25 = .ok (.dup, 1) := by decide +kernel
theorem dC_init_26 : decode cC_init 26 = .ok (.invokespecial 23, 3) := by decide +kernel
theorem dC_init_29 : decode cC_init 29 = .ok (.putfield 24, 3) := by decide +kernel
theorem dC_init_32 : decode cC_init 32 = .ok (.aload_n 0, 1) := by decide +kernel
theorem dC_init_33 : decode cC_init 33 = .ok (.bipush 11, 2) := by decide +kernel
theorem dC_init_35 : decode cC_init 35 = .ok (.newarray .int, 2) := by decide +kernel
theorem dC_init_37 : decode cC_init 37 = .ok (.putfield 28, 3) := by decide +kernel
theorem dC_init_40 : decode cC_init 40 = .ok (.aload_n 0, 1) := by decide +kernel
theorem dC_init_41 : decode cC_init 41 = .ok (.sipush 264, 3) := by decide +kernel
theorem dC_init_44 : decode cC_init 44 = .ok (.anewarray 31, 3) := by decide +kernel
theorem dC_init_47 : decode cC_init 47 = .ok (.putfield 33, 3) := by decide +kernel
theorem dC_init_50 : decode cC_init 50 = .ok (.aload_n 0, 1) := by decide +kernel
theorem dC_init_51 : decode cC_init 51 = .ok (.bipush 32, 2) := by decide +kernel
theorem dC_init_53 : decode cC_init 53 = .ok (.anewarray 31, 3) := by decide +kernel
theorem dC_init_56 : decode cC_init 56 = .ok (.putfield 37, 3) := by decide +kernel
theorem dC_init_59 : decode cC_init 59 = .ok (.aload_n 0, 1) := by decide +kernel
theorem dC_init_60 : decode cC_init 60 = .ok (.aconst_null, 1) := by decide +kernel
theorem dC_init_61 : decode cC_init 61 = .ok (.putfield 40, 3) := by decide +kernel
theorem dC_init_64 : decode cC_init 64 = .ok (.aload_n 0, 1) := by decide +kernel
theorem dC_init_65 : decode cC_init 65 = .ok (.iconst 1, 1) := by decide +kernel
theorem dC_init_66 : decode cC_init 66 = .ok (.putfield 44, 3) := by decide +kernel
theorem dC_init_69 : decode cC_init 69 = .ok (.return_, 1) := by decide +kernel
theorem dC_newPages_0 : decode cC_newPages 0 = .ok (.iload_n 0, 1) := by decide +kernel
theorem dC_newPages_1 : decode cC_newPages 1 = .ok (.anewarray 116, 3) := by decide +kernel
theorem dC_newPages_4 : decode cC_newPages 4 = .ok (.astore_n 1, 1) := by decide +kernel
theorem dC_newPages_5 : decode cC_newPages 5 = .ok (.iconst 0, 1) := by decide +kernel
theorem dC_newPages_6 : decode cC_newPages 6 = .ok (.istore_n 2, 1) := by decide +kernel
theorem dC_newPages_7 : decode cC_newPages 7 = .ok (.iload_n 2, 1) := by decide +kernel
theorem dC_newPages_8 : decode cC_newPages 8 = .ok (.iload_n 0, 1) := by decide +kernel
theorem dC_newPages_9 : decode cC_newPages 9 = .ok (.if_icmp .ge 19, 3) := by decide +kernel
theorem dC_newPages_12 : decode cC_newPages 12 = .ok (.aload_n 1, 1) := by decide +kernel
theorem dC_newPages_13 : decode cC_newPages 13 = .ok (.iload_n 2, 1) := by decide +kernel
theorem dC_newPages_14 : decode cC_newPages 14 = .ok (.new 116, 3) := by decide +kernel
theorem dC_newPages_17 : decode cC_newPages 17 = .ok (.dup, 1) := by decide +kernel
theorem dC_newPages_18 : decode cC_newPages 18 = .ok (.invokespecial 213, 3) := by decide +kernel
theorem dC_newPages_21 : decode cC_newPages 21 = .ok (.aastore, 1) := by decide +kernel
theorem dC_newPages_22 : decode cC_newPages 22 = .ok (.iinc 2 1, 3) := by decide +kernel
theorem dC_newPages_25 : decode cC_newPages 25 = .ok (.goto (-18), 3) := by decide +kernel
theorem dC_newPages_28 : decode cC_newPages 28 = .ok (.aload_n 1, 1) := by decide +kernel
theorem dC_newPages_29 : decode cC_newPages 29 = .ok (.areturn, 1) := by decide +kernel
theorem dC_setOf_0 : decode cC_setOf 0 = .ok (.lload_n 1, 1) := by decide +kernel
theorem dC_setOf_1 : decode cC_setOf 1 = .ok (.invokestatic 107, 3) := by decide +kernel
theorem dC_setOf_4 : decode cC_setOf 4 = .ok (.invokestatic 111, 3) := by decide +kernel
theorem dC_setOf_7 : decode cC_setOf 7 = .ok (.ireturn, 1) := by decide +kernel
theorem dC_mix_0 : decode cC_mix 0 = .ok (.lload_n 0, 1) := by decide +kernel
theorem dC_mix_1 : decode cC_mix 1 = .ok (.lload_n 0, 1) := by decide +kernel
theorem dC_mix_2 : decode cC_mix 2 = .ok (.bipush 30, 2) := by decide +kernel
theorem dC_mix_4 : decode cC_mix 4 = .ok (.lushr, 1) := by decide +kernel
theorem dC_mix_5 : decode cC_mix 5 = .ok (.lxor, 1) := by decide +kernel
theorem dC_mix_6 : decode cC_mix 6 = .ok (.ldc2_w 207, 3) := by decide +kernel
theorem dC_mix_9 : decode cC_mix 9 = .ok (.lmul, 1) := by decide +kernel
theorem dC_mix_10 : decode cC_mix 10 = .ok (.lstore_n 2, 1) := by decide +kernel
theorem dC_mix_11 : decode cC_mix 11 = .ok (.lload_n 2, 1) := by decide +kernel
theorem dC_mix_12 : decode cC_mix 12 = .ok (.lload_n 2, 1) := by decide +kernel
theorem dC_mix_13 : decode cC_mix 13 = .ok (.bipush 27, 2) := by decide +kernel
theorem dC_mix_15 : decode cC_mix 15 = .ok (.lushr, 1) := by decide +kernel
theorem dC_mix_16 : decode cC_mix 16 = .ok (.lxor, 1) := by decide +kernel
theorem dC_mix_17 : decode cC_mix 17 = .ok (.ldc2_w 209, 3) := by decide +kernel
theorem dC_mix_20 : decode cC_mix 20 = .ok (.lmul, 1) := by decide +kernel
theorem dC_mix_21 : decode cC_mix 21 = .ok (.lstore_n 2, 1) := by decide +kernel
theorem dC_mix_22 : decode cC_mix 22 = .ok (.lload_n 2, 1) := by decide +kernel
theorem dC_mix_23 : decode cC_mix 23 = .ok (.lload_n 2, 1) := by decide +kernel
theorem dC_mix_24 : decode cC_mix 24 = .ok (.bipush 31, 2) := by decide +kernel
theorem dC_mix_26 : decode cC_mix 26 = .ok (.lushr, 1) := by decide +kernel
theorem dC_mix_27 : decode cC_mix 27 = .ok (.lxor, 1) := by decide +kernel
theorem dC_mix_28 : decode cC_mix 28 = .ok (.lreturn, 1) := by decide +kernel
theorem dC_setNumber_0 : decode cC_setNumber 0 = .ok (.lload_n 0, 1) := by decide +kernel
theorem dC_setNumber_1 : decode cC_setNumber 1 = .ok (.bipush 58, 2) := by decide +kernel
theorem dC_setNumber_3 : decode cC_setNumber 3 = .ok (.lushr, 1) := by decide +kernel
theorem dC_setNumber_4 : decode cC_setNumber 4 = .ok (.l2i, 1) := by decide +kernel
theorem dC_setNumber_5 : decode cC_setNumber 5 = .ok (.ireturn, 1) := by decide +kernel
theorem dC_count_0 : decode cC_count 0 = .ok (.iload_n 1, 1) := by decide +kernel
theorem dC_count_1 : decode cC_count 1 = .ok (.ifCond .lt 9, 3) := by decide +kernel
theorem dC_count_4 : decode cC_count 4 = .ok (.iload_n 1, 1) := by decide +kernel
theorem dC_count_5 : decode cC_count 5 = .ok (.bipush 12, 2) := by decide +kernel
theorem dC_count_7 : decode cC_count 7 = .ok (.if_icmp .le 5, 3) := by decide +kernel
theorem dC_count_10 : decode cC_count 10 = .ok (.iconst (-1), 1) := by decide +kernel
theorem dC_count_11 : decode cC_count 11 = .ok (.ireturn, 1) := by decide +kernel
theorem dC_count_12 : decode cC_count 12 = .ok (.iload_n 1, 1) := by decide +kernel
theorem dC_count_13 : decode cC_count 13 = .ok (.ifCond .ne 11, 3) := by decide +kernel
theorem dC_count_16 : decode cC_count 16 = .ok (.aload_n 0, 1) := by decide +kernel
theorem dC_count_17 : decode cC_count 17 = .ok (.getfield 24, 3) := by decide +kernel
theorem dC_count_20 : decode cC_count 20 = .ok (.invokevirtual 140, 3) := by decide +kernel
theorem dC_count_23 : decode cC_count 23 = .ok (.ireturn, 1) := by decide +kernel
theorem dC_count_24 : decode cC_count 24 = .ok (.iload_n 1, 1) := by decide +kernel
theorem dC_count_25 : decode cC_count 25 = .ok (.bipush 11, 2) := by decide +kernel
theorem dC_count_27 : decode cC_count 27 = .ok (.if_icmp .ne 14, 3) := by decide +kernel
theorem dC_count_30 : decode cC_count 30 = .ok (.aload_n 0, 1) := by decide +kernel
theorem dC_count_31 : decode cC_count 31 = .ok (.getfield 24, 3) := by decide +kernel
theorem dC_count_34 : decode cC_count 34 = .ok (.getfield 77, 3) := by decide +kernel
theorem dC_count_37 : decode cC_count 37 = .ok (.getfield 136, 3) := by decide +kernel
theorem dC_count_40 : decode cC_count 40 = .ok (.ireturn, 1) := by decide +kernel
theorem dC_count_41 : decode cC_count 41 = .ok (.iload_n 1, 1) := by decide +kernel
theorem dC_count_42 : decode cC_count 42 = .ok (.bipush 12, 2) := by decide +kernel
theorem dC_count_44 : decode cC_count 44 = .ok (.if_icmp .ne 16, 3) := by decide +kernel
theorem dC_count_47 : decode cC_count 47 = .ok (.aload_n 0, 1) := by decide +kernel
theorem dC_count_48 : decode cC_count 48 = .ok (.getfield 24, 3) := by decide +kernel
theorem dC_count_51 : decode cC_count 51 = .ok (.getfield 144, 3) := by decide +kernel
theorem dC_count_54 : decode cC_count 54 = .ok (.getfield 148, 3) := by decide +kernel
theorem dC_count_57 : decode cC_count 57 = .ok (.goto 9, 3) := by decide +kernel
theorem dC_count_60 : decode cC_count 60 = .ok (.aload_n 0, 1) := by decide +kernel
theorem dC_count_61 : decode cC_count 61 = .ok (.getfield 28, 3) := by decide +kernel
theorem dC_count_64 : decode cC_count 64 = .ok (.iload_n 1, 1) := by decide +kernel
theorem dC_count_65 : decode cC_count 65 = .ok (.iaload, 1) := by decide +kernel
theorem dC_count_66 : decode cC_count 66 = .ok (.ireturn, 1) := by decide +kernel
theorem dC_word_0 : decode cC_word 0 = .ok (.iload_n 1, 1) := by decide +kernel
theorem dC_word_1 : decode cC_word 1 = .ok (.ifCond .lt 9, 3) := by decide +kernel
theorem dC_word_4 : decode cC_word 4 = .ok (.iload_n 1, 1) := by decide +kernel
theorem dC_word_5 : decode cC_word 5 = .ok (.bipush 8, 2) := by decide +kernel
theorem dC_word_7 : decode cC_word 7 = .ok (.if_icmp .lt 11, 3) := by decide +kernel
theorem dC_word_10 : decode cC_word 10 = .ok (.new 48, 3) := by decide +kernel
theorem dC_word_13 : decode cC_word 13 = .ok (.dup, 1) := by decide +kernel
theorem dC_word_14 : decode cC_word 14 = .ok (.invokespecial 50, 3) := by decide +kernel
theorem dC_word_17 : decode cC_word 17 = .ok (.athrow, 1) := by decide +kernel
theorem dC_word_18 : decode cC_word 18 = .ok (.aload_n 0, 1) := by decide +kernel
theorem dC_word_19 : decode cC_word 19 = .ok (.getfield 9, 3) := by decide +kernel
theorem dC_word_22 : decode cC_word 22 = .ok (.iload_n 1, 1) := by decide +kernel
theorem dC_word_23 : decode cC_word 23 = .ok (.iaload, 1) := by decide +kernel
theorem dC_word_24 : decode cC_word 24 = .ok (.istore_n 3, 1) := by decide +kernel
theorem dC_word_25 : decode cC_word 25 = .ok (.aload_n 0, 1) := by decide +kernel
theorem dC_word_26 : decode cC_word 26 = .ok (.getfield 9, 3) := by decide +kernel
theorem dC_word_29 : decode cC_word 29 = .ok (.iload_n 1, 1) := by decide +kernel
theorem dC_word_30 : decode cC_word 30 = .ok (.iload_n 2, 1) := by decide +kernel
theorem dC_word_31 : decode cC_word 31 = .ok (.iastore, 1) := by decide +kernel
theorem dC_word_32 : decode cC_word 32 = .ok (.iload_n 3, 1) := by decide +kernel
theorem dC_word_33 : decode cC_word 33 = .ok (.ireturn, 1) := by decide +kernel
theorem dC_put_0 : decode cC_put 0 = .ok (.aload_n 0, 1) := by decide +kernel
theorem dC_put_1 : decode cC_put 1 = .ok (.invokevirtual 51, 3) := by decide +kernel
theorem dC_put_4 : decode cC_put 4 = .ok (.iload_n 3, 1) := by decide +kernel
theorem dC_put_5 : decode cC_put 5 = .ok (.iconst 1, 1) := by decide +kernel
theorem dC_put_6 : decode cC_put 6 = .ok (.if_icmp .lt 9, 3) := by decide +kernel
theorem dC_put_9 : decode cC_put 9 = .ok (.iload_n 3, 1) := by decide +kernel
theorem dC_put_10 : decode cC_put 10 = .ok (.bipush 8, 2) := by decide +kernel
theorem dC_put_12 : decode cC_put 12 = .ok (.if_icmp .le 11, 3) := by decide +kernel
theorem dC_put_15 : decode cC_put 15 = .ok (.new 54, 3) := by decide +kernel
theorem dC_put_18 : decode cC_put 18 = .ok (.dup, 1) := by decide +kernel
theorem dC_put_19 : decode cC_put 19 = .ok (.invokespecial 56, 3) := by decide +kernel
theorem dC_put_22 : decode cC_put 22 = .ok (.athrow, 1) := by decide +kernel
theorem dC_put_23 : decode cC_put 23 = .ok (.new 31, 3) := by decide +kernel
theorem dC_put_26 : decode cC_put 26 = .ok (.dup, 1) := by decide +kernel
theorem dC_put_27 : decode cC_put 27 = .ok (.lload_n 1, 1) := by decide +kernel
theorem dC_put_28 : decode cC_put 28 = .ok (.aload_n 0, 1) := by decide +kernel
theorem dC_put_29 : decode cC_put 29 = .ok (.getfield 9, 3) := by decide +kernel
theorem dC_put_32 : decode cC_put 32 = .ok (.iload_n 3, 1) := by decide +kernel
theorem dC_put_33 : decode cC_put 33 = .ok (.invokestatic 57, 3) := by decide +kernel
theorem dC_put_36 : decode cC_put 36 = .ok (.invokespecial 63, 3) := by decide +kernel
theorem dC_put_39 : decode cC_put 39 = .ok (.astore 4, 2) := by decide +kernel
theorem dC_put_41 : decode cC_put 41 = .ok (.iconst 0, 1) := by decide +kernel
theorem dC_put_42 : decode cC_put 42 = .ok (.istore 5, 2) := by decide +kernel
theorem dC_put_44 : decode cC_put 44 = .ok (.iload 5, 2) := by decide +kernel
theorem dC_put_46 : decode cC_put 46 = .ok (.bipush 32, 2) := by decide +kernel
theorem dC_put_48 : decode cC_put 48 = .ok (.if_icmp .ge 25, 3) := by decide +kernel
theorem dC_put_51 : decode cC_put 51 = .ok (.aload_n 0, 1) := by decide +kernel
theorem dC_put_52 : decode cC_put 52 = .ok (.getfield 24, 3) := by decide +kernel
theorem dC_put_55 : decode cC_put 55 = .ok (.aload 4, 2) := by decide +kernel
theorem dC_put_57 : decode cC_put 57 = .ok (.invokevirtual 66, 3) := by decide +kernel
theorem dC_put_60 : decode cC_put 60 = .ok (.ifCond .ne 13, 3) := by decide +kernel
theorem dC_put_63 : decode cC_put 63 = .ok (.aload_n 0, 1) := by decide +kernel
theorem dC_put_64 : decode cC_put 64 = .ok (.invokevirtual 70, 3) := by decide +kernel
theorem dC_put_67 : decode cC_put 67 = .ok (.iinc 5 1, 3) := by decide +kernel
theorem dC_put_70 : decode cC_put 70 = .ok (.goto (-26), 3) := by decide +kernel
theorem dC_put_73 : decode cC_put 73 = .ok (.aload_n 0, 1) := by decide +kernel
theorem dC_put_74 : decode cC_put 74 = .ok (.getfield 24, 3) := by decide +kernel
theorem dC_put_77 : decode cC_put 77 = .ok (.aload 4, 2) := by decide +kernel
theorem dC_put_79 : decode cC_put 79 = .ok (.invokevirtual 73, 3) := by decide +kernel
theorem dC_put_82 : decode cC_put 82 = .ok (.return_, 1) := by decide +kernel
theorem dC_refuseWhenClosed_0 : decode cC_refuseWhenClosed 0 = .ok (.aload_n 0, 1) := by decide +kernel
theorem dC_refuseWhenClosed_1 : decode cC_refuseWhenClosed 1 = .ok (.getfield 44, 3) := by decide +kernel
theorem dC_refuseWhenClosed_4 : decode cC_refuseWhenClosed 4 = .ok (.ifCond .ne 11, 3) := by decide +kernel
theorem dC_refuseWhenClosed_7 : decode cC_refuseWhenClosed 7 = .ok (.new 133, 3) := by decide +kernel
theorem dC_refuseWhenClosed_10 : decode cC_refuseWhenClosed 10 = .ok (.dup, 1) := by decide +kernel
theorem dC_refuseWhenClosed_11 : decode cC_refuseWhenClosed 11 = .ok (.invokespecial 135, 3) := by decide +kernel
theorem dC_refuseWhenClosed_14 : decode cC_refuseWhenClosed 14 = .ok (.athrow, 1) := by decide +kernel
theorem dC_refuseWhenClosed_15 : decode cC_refuseWhenClosed 15 = .ok (.return_, 1) := by decide +kernel
theorem dC_filterBit_0 : decode cC_filterBit 0 = .ok (.lconst 1, 1) := by decide +kernel
theorem dC_filterBit_1 : decode cC_filterBit 1 = .ok (.lload_n 0, 1) := by decide +kernel
theorem dC_filterBit_2 : decode cC_filterBit 2 = .ok (.ldc2_w 211, 3) := by decide +kernel
theorem dC_filterBit_5 : decode cC_filterBit 5 = .ok (.land, 1) := by decide +kernel
theorem dC_filterBit_6 : decode cC_filterBit 6 = .ok (.l2i, 1) := by decide +kernel
theorem dC_filterBit_7 : decode cC_filterBit 7 = .ok (.lshl, 1) := by decide +kernel
theorem dC_filterBit_8 : decode cC_filterBit 8 = .ok (.lreturn, 1) := by decide +kernel
theorem dC_writeOpenPage_0 : decode cC_writeOpenPage 0 = .ok (.aload_n 0, 1) := by decide +kernel
theorem dC_writeOpenPage_1 : decode cC_writeOpenPage 1 = .ok (.getfield 24, 3) := by decide +kernel
theorem dC_writeOpenPage_4 : decode cC_writeOpenPage 4 = .ok (.invokevirtual 151, 3) := by decide +kernel
theorem dC_writeOpenPage_7 : decode cC_writeOpenPage 7 = .ok (.ifCond .eq 10, 3) := by decide +kernel
theorem dC_writeOpenPage_10 : decode cC_writeOpenPage 10 = .ok (.aload_n 0, 1) := by decide +kernel
theorem dC_writeOpenPage_11 : decode cC_writeOpenPage 11 = .ok (.invokevirtual 155, 3) := by decide +kernel
theorem dC_writeOpenPage_14 : decode cC_writeOpenPage 14 = .ok (.goto 4, 3) := by decide +kernel
theorem dC_writeOpenPage_17 : decode cC_writeOpenPage 17 = .ok (.iconst 0, 1) := by decide +kernel
theorem dC_writeOpenPage_18 : decode cC_writeOpenPage 18 = .ok (.istore_n 1, 1) := by decide +kernel
theorem dC_writeOpenPage_19 : decode cC_writeOpenPage 19 = .ok (.aload_n 0, 1) := by decide +kernel
theorem dC_writeOpenPage_20 : decode cC_writeOpenPage 20 = .ok (.getfield 24, 3) := by decide +kernel
theorem dC_writeOpenPage_23 : decode cC_writeOpenPage 23 = .ok (.invokevirtual 158, 3) := by decide +kernel
theorem dC_writeOpenPage_26 : decode cC_writeOpenPage 26 = .ok (.iconst 0, 1) := by decide +kernel
theorem dC_writeOpenPage_27 : decode cC_writeOpenPage 27 = .ok (.istore_n 2, 1) := by decide +kernel
theorem dC_writeOpenPage_28 : decode cC_writeOpenPage 28 = .ok (.iload_n 2, 1) := by decide +kernel
theorem dC_writeOpenPage_29 : decode cC_writeOpenPage 29 = .ok (.iload_n 1, 1) := by decide +kernel
theorem dC_writeOpenPage_30 : decode cC_writeOpenPage 30 = .ok (.if_icmp .ge 45, 3) := by decide +kernel
theorem dC_writeOpenPage_33 : decode cC_writeOpenPage 33 = .ok (.aload_n 0, 1) := by decide +kernel
theorem dC_writeOpenPage_34 : decode cC_writeOpenPage 34 = .ok (.getfield 24, 3) := by decide +kernel
theorem dC_writeOpenPage_37 : decode cC_writeOpenPage 37 = .ok (.aload_n 0, 1) := by decide +kernel
theorem dC_writeOpenPage_38 : decode cC_writeOpenPage 38 = .ok (.getfield 37, 3) := by decide +kernel
theorem dC_writeOpenPage_41 : decode cC_writeOpenPage 41 = .ok (.iload_n 2, 1) := by decide +kernel
theorem dC_writeOpenPage_42 : decode cC_writeOpenPage 42 = .ok (.aaload, 1) := by decide +kernel
theorem dC_writeOpenPage_43 : decode cC_writeOpenPage 43 = .ok (.invokevirtual 66, 3) := by decide +kernel
theorem dC_writeOpenPage_46 : decode cC_writeOpenPage 46 = .ok (.ifCond .ne 10, 3) := by decide +kernel
theorem dC_writeOpenPage_49 : decode cC_writeOpenPage 49 = .ok (.aload_n 0, 1) := by decide +kernel
theorem dC_writeOpenPage_50 : decode cC_writeOpenPage 50 = .ok (.getfield 24, 3) := by decide +kernel
theorem dC_writeOpenPage_53 : decode cC_writeOpenPage 53 = .ok (.invokevirtual 158, 3) := by decide +kernel
theorem dC_writeOpenPage_56 : decode cC_writeOpenPage 56 = .ok (.aload_n 0, 1) := by decide +kernel
theorem dC_writeOpenPage_57 : decode cC_writeOpenPage 57 = .ok (.getfield 24, 3) := by decide +kernel
theorem dC_writeOpenPage_60 : decode cC_writeOpenPage 60 = .ok (.aload_n 0, 1) := by decide +kernel
theorem dC_writeOpenPage_61 : decode cC_writeOpenPage 61 = .ok (.getfield 37, 3) := by decide +kernel
theorem dC_writeOpenPage_64 : decode cC_writeOpenPage 64 = .ok (.iload_n 2, 1) := by decide +kernel
theorem dC_writeOpenPage_65 : decode cC_writeOpenPage 65 = .ok (.aaload, 1) := by decide +kernel
theorem dC_writeOpenPage_66 : decode cC_writeOpenPage 66 = .ok (.invokevirtual 73, 3) := by decide +kernel
theorem dC_writeOpenPage_69 : decode cC_writeOpenPage 69 = .ok (.iinc 2 1, 3) := by decide +kernel
theorem dC_writeOpenPage_72 : decode cC_writeOpenPage 72 = .ok (.goto (-44), 3) := by decide +kernel
theorem dC_writeOpenPage_75 : decode cC_writeOpenPage 75 = .ok (.aload_n 0, 1) := by decide +kernel
theorem dC_writeOpenPage_76 : decode cC_writeOpenPage 76 = .ok (.getfield 28, 3) := by decide +kernel
theorem dC_writeOpenPage_79 : decode cC_writeOpenPage 79 = .ok (.bipush 10, 2) := by decide +kernel
theorem dC_writeOpenPage_81 : decode cC_writeOpenPage 81 = .ok (.dup2, 1) := by decide +kernel
theorem dC_writeOpenPage_82 : decode cC_writeOpenPage 82 = .ok (.iaload, 1) := by decide +kernel
theorem dC_writeOpenPage_83 : decode cC_writeOpenPage 83 = .ok (.iload_n 1, 1) := by decide +kernel
theorem dC_writeOpenPage_84 : decode cC_writeOpenPage 84 = .ok (.iadd, 1) := by decide +kernel
theorem dC_writeOpenPage_85 : decode cC_writeOpenPage 85 = .ok (.iastore, 1) := by decide +kernel
theorem dC_writeOpenPage_86 : decode cC_writeOpenPage 86 = .ok (.return_, 1) := by decide +kernel
theorem dC_emptySegment_0 : decode cC_emptySegment 0 = .ok (.aload_n 0, 1) := by decide +kernel
theorem dC_emptySegment_1 : decode cC_emptySegment 1 = .ok (.getfield 24, 3) := by decide +kernel
theorem dC_emptySegment_4 : decode cC_emptySegment 4 = .ok (.invokevirtual 161, 3) := by decide +kernel
theorem dC_emptySegment_7 : decode cC_emptySegment 7 = .ok (.istore_n 1, 1) := by decide +kernel
theorem dC_emptySegment_8 : decode cC_emptySegment 8 = .ok (.aload_n 0, 1) := by decide +kernel
theorem dC_emptySegment_9 : decode cC_emptySegment 9 = .ok (.getfield 24, 3) := by decide +kernel
theorem dC_emptySegment_12 : decode cC_emptySegment 12 = .ok (.getfield 77, 3) := by decide +kernel
theorem dC_emptySegment_15 : decode cC_emptySegment 15 = .ok (.iload_n 1, 1) := by decide +kernel
theorem dC_emptySegment_16 : decode cC_emptySegment 16 = .ok (.aload_n 0, 1) := by decide +kernel
theorem dC_emptySegment_17 : decode cC_emptySegment 17 = .ok (.getfield 37, 3) := by decide +kernel
theorem dC_emptySegment_20 : decode cC_emptySegment 20 = .ok (.invokevirtual 164, 3) := by decide +kernel
theorem dC_emptySegment_23 : decode cC_emptySegment 23 = .ok (.istore_n 2, 1) := by decide +kernel
theorem dC_emptySegment_24 : decode cC_emptySegment 24 = .ok (.aload_n 0, 1) := by decide +kernel
theorem dC_emptySegment_25 : decode cC_emptySegment 25 = .ok (.getfield 24, 3) := by decide +kernel
theorem dC_emptySegment_28 : decode cC_emptySegment 28 = .ok (.getfield 77, 3) := by decide +kernel
theorem dC_emptySegment_31 : decode cC_emptySegment 31 = .ok (.iload_n 1, 1) := by decide +kernel
theorem dC_emptySegment_32 : decode cC_emptySegment 32 = .ok (.invokevirtual 168, 3) := by decide +kernel
theorem dC_emptySegment_35 : decode cC_emptySegment 35 = .ok (.lstore_n 3, 1) := by decide +kernel
theorem dC_emptySegment_36 : decode cC_emptySegment 36 = .ok (.iconst 0, 1) := by decide +kernel
theorem dC_emptySegment_37 : decode cC_emptySegment 37 = .ok (.istore 5, 2) := by decide +kernel
theorem dC_emptySegment_39 : decode cC_emptySegment 39 = .ok (.iload 5, 2) := by decide +kernel
theorem dC_emptySegment_41 : decode cC_emptySegment 41 = .ok (.bipush 64, 2) := by decide +kernel
theorem dC_emptySegment_43 : decode cC_emptySegment 43 = .ok (.if_icmp .ge 89, 3) := by decide +kernel
theorem dC_emptySegment_46 : decode cC_emptySegment 46 = .ok (.lload_n 3, 1) := by decide +kernel
theorem dC_emptySegment_47 : decode cC_emptySegment 47 = .ok (.iload 5, 2) := by decide +kernel
theorem dC_emptySegment_49 : decode cC_emptySegment 49 = .ok (.lushr, 1) := by decide +kernel
theorem dC_emptySegment_50 : decode cC_emptySegment 50 = .ok (.lconst 1, 1) := by decide +kernel
theorem dC_emptySegment_51 : decode cC_emptySegment 51 = .ok (.land, 1) := by decide +kernel
theorem dC_emptySegment_52 : decode cC_emptySegment 52 = .ok (.lconst 0, 1) := by decide +kernel
theorem dC_emptySegment_53 : decode cC_emptySegment 53 = .ok (.lcmp, 1) := by decide +kernel
theorem dC_emptySegment_54 : decode cC_emptySegment 54 = .ok (.ifCond .ne 6, 3) := by decide +kernel
theorem dC_emptySegment_57 : decode cC_emptySegment 57 = .ok (.goto 69, 3) := by decide +kernel
theorem dC_emptySegment_60 : decode cC_emptySegment 60 = .ok (.aload_n 0, 1) := by decide +kernel
theorem dC_emptySegment_61 : decode cC_emptySegment 61 = .ok (.getfield 24, 3) := by decide +kernel
theorem dC_emptySegment_64 : decode cC_emptySegment 64 = .ok (.getfield 77, 3) := by decide +kernel
theorem dC_emptySegment_67 : decode cC_emptySegment 67 = .ok (.iload 5, 2) := by decide +kernel
theorem dC_emptySegment_69 : decode cC_emptySegment 69 = .ok (.aload_n 0, 1) := by decide +kernel
theorem dC_emptySegment_70 : decode cC_emptySegment 70 = .ok (.getfield 33, 3) := by decide +kernel
theorem dC_emptySegment_73 : decode cC_emptySegment 73 = .ok (.invokevirtual 172, 3) := by decide +kernel
theorem dC_emptySegment_76 : decode cC_emptySegment 76 = .ok (.istore 6, 2) := by decide +kernel
theorem dC_emptySegment_78 : decode cC_emptySegment 78 = .ok (.iload 6, 2) := by decide +kernel
theorem dC_emptySegment_80 : decode cC_emptySegment 80 = .ok (.iconst 1, 1) := by decide +kernel
theorem dC_emptySegment_81 : decode cC_emptySegment 81 = .ok (.if_icmp .ne 32, 3) := by decide +kernel
theorem dC_emptySegment_84 : decode cC_emptySegment 84 = .ok (.aload_n 0, 1) := by decide +kernel
theorem dC_emptySegment_85 : decode cC_emptySegment 85 = .ok (.getfield 28, 3) := by decide +kernel
theorem dC_emptySegment_88 : decode cC_emptySegment 88 = .ok (.bipush 8, 2) := by decide +kernel
theorem dC_emptySegment_90 : decode cC_emptySegment 90 = .ok (.dup2, 1) := by decide +kernel
theorem dC_emptySegment_91 : decode cC_emptySegment 91 = .ok (.iaload, 1) := by decide +kernel
theorem dC_emptySegment_92 : decode cC_emptySegment 92 = .ok (.iconst 1, 1) := by decide +kernel
theorem dC_emptySegment_93 : decode cC_emptySegment 93 = .ok (.iadd, 1) := by decide +kernel
theorem dC_emptySegment_94 : decode cC_emptySegment 94 = .ok (.iastore, 1) := by decide +kernel
theorem dC_emptySegment_95 : decode cC_emptySegment 95 = .ok (.aload_n 0, 1) := by decide +kernel
theorem dC_emptySegment_96 : decode cC_emptySegment 96 = .ok (.aload_n 0, 1) := by decide +kernel
theorem dC_emptySegment_97 : decode cC_emptySegment 97 = .ok (.getfield 33, 3) := by decide +kernel
theorem dC_emptySegment_100 : decode cC_emptySegment 100 = .ok (.iconst 0, 1) := by decide +kernel
theorem dC_emptySegment_101 : decode cC_emptySegment 101 = .ok (.aaload, 1) := by decide +kernel
theorem dC_emptySegment_102 : decode cC_emptySegment 102 = .ok (.getfield 175, 3) := by decide +kernel
theorem dC_emptySegment_105 : decode cC_emptySegment 105 = .ok (.iconst 2, 1) := by decide +kernel
theorem dC_emptySegment_106 : decode cC_emptySegment 106 = .ok (.invokevirtual 103, 3) := by decide +kernel
theorem dC_emptySegment_109 : decode cC_emptySegment 109 = .ok (.pop, 1) := by decide +kernel
theorem dC_emptySegment_110 : decode cC_emptySegment 110 = .ok (.goto 16, 3) := by decide +kernel
theorem dC_emptySegment_113 : decode cC_emptySegment 113 = .ok (.aload_n 0, 1) := by decide +kernel
theorem dC_emptySegment_114 : decode cC_emptySegment 114 = .ok (.aload_n 0, 1) := by decide +kernel
theorem dC_emptySegment_115 : decode cC_emptySegment 115 = .ok (.getfield 17, 3) := by decide +kernel
theorem dC_emptySegment_118 : decode cC_emptySegment 118 = .ok (.iload 5, 2) := by decide +kernel
theorem dC_emptySegment_120 : decode cC_emptySegment 120 = .ok (.aaload, 1) := by decide +kernel
theorem dC_emptySegment_121 : decode cC_emptySegment 121 = .ok (.iload 6, 2) := by decide +kernel
theorem dC_emptySegment_123 : decode cC_emptySegment 123 = .ok (.invokevirtual 179, 3) := by decide +kernel
theorem dC_emptySegment_126 : decode cC_emptySegment 126 = .ok (.iinc 5 1, 3) := by decide +kernel
theorem dC_emptySegment_129 : decode cC_emptySegment 129 = .ok (.goto (-90), 3) := by decide +kernel
theorem dC_emptySegment_132 : decode cC_emptySegment 132 = .ok (.iload_n 2, 1) := by decide +kernel
theorem dC_emptySegment_133 : decode cC_emptySegment 133 = .ok (.ireturn, 1) := by decide +kernel
theorem dC_removeFromSet_0 : decode cC_removeFromSet 0 = .ok (.aload_n 0, 1) := by decide +kernel
theorem dC_removeFromSet_1 : decode cC_removeFromSet 1 = .ok (.lload_n 1, 1) := by decide +kernel
theorem dC_removeFromSet_2 : decode cC_removeFromSet 2 = .ok (.invokevirtual 87, 3) := by decide +kernel
theorem dC_removeFromSet_5 : decode cC_removeFromSet 5 = .ok (.ifnonnull 5, 3) := by decide +kernel
theorem dC_removeFromSet_8 : decode cC_removeFromSet 8 = .ok (.iconst 0, 1) := by decide +kernel
theorem dC_removeFromSet_9 : decode cC_removeFromSet 9 = .ok (.ireturn, 1) := by decide +kernel
theorem dC_removeFromSet_10 : decode cC_removeFromSet 10 = .ok (.aload_n 0, 1) := by decide +kernel
theorem dC_removeFromSet_11 : decode cC_removeFromSet 11 = .ok (.getfield 17, 3) := by decide +kernel
theorem dC_removeFromSet_14 : decode cC_removeFromSet 14 = .ok (.lload_n 1, 1) := by decide +kernel
theorem dC_removeFromSet_15 : decode cC_removeFromSet 15 = .ok (.invokestatic 107, 3) := by decide +kernel
theorem dC_removeFromSet_18 : decode cC_removeFromSet 18 = .ok (.invokestatic 111, 3) := by decide +kernel
theorem dC_removeFromSet_21 : decode cC_removeFromSet 21 = .ok (.aaload, 1) := by decide +kernel
theorem dC_removeFromSet_22 : decode cC_removeFromSet 22 = .ok (.lload_n 1, 1) := by decide +kernel
theorem dC_removeFromSet_23 : decode cC_removeFromSet 23 = .ok (.invokevirtual 183, 3) := by decide +kernel
theorem dC_removeFromSet_26 : decode cC_removeFromSet 26 = .ok (.aload_n 0, 1) := by decide +kernel
theorem dC_removeFromSet_27 : decode cC_removeFromSet 27 = .ok (.getfield 28, 3) := by decide +kernel
theorem dC_removeFromSet_30 : decode cC_removeFromSet 30 = .ok (.iload_n 3, 1) := by decide +kernel
theorem dC_removeFromSet_31 : decode cC_removeFromSet 31 = .ok (.dup2, 1) := by decide +kernel
theorem dC_removeFromSet_32 : decode cC_removeFromSet 32 = .ok (.iaload, 1) := by decide +kernel
theorem dC_removeFromSet_33 : decode cC_removeFromSet 33 = .ok (.iconst 1, 1) := by decide +kernel
theorem dC_removeFromSet_34 : decode cC_removeFromSet 34 = .ok (.iadd, 1) := by decide +kernel
theorem dC_removeFromSet_35 : decode cC_removeFromSet 35 = .ok (.iastore, 1) := by decide +kernel
theorem dC_removeFromSet_36 : decode cC_removeFromSet 36 = .ok (.iconst 1, 1) := by decide +kernel
theorem dC_removeFromSet_37 : decode cC_removeFromSet 37 = .ok (.ireturn, 1) := by decide +kernel
theorem dC_readFromSet_0 : decode cC_readFromSet 0 = .ok (.lload_n 1, 1) := by decide +kernel
theorem dC_readFromSet_1 : decode cC_readFromSet 1 = .ok (.invokestatic 107, 3) := by decide +kernel
theorem dC_readFromSet_4 : decode cC_readFromSet 4 = .ok (.lstore_n 3, 1) := by decide +kernel
theorem dC_readFromSet_5 : decode cC_readFromSet 5 = .ok (.aload_n 0, 1) := by decide +kernel
theorem dC_readFromSet_6 : decode cC_readFromSet 6 = .ok (.getfield 17, 3) := by decide +kernel
theorem dC_readFromSet_9 : decode cC_readFromSet 9 = .ok (.lload_n 3, 1) := by decide +kernel
theorem dC_readFromSet_10 : decode cC_readFromSet 10 = .ok (.invokestatic 111, 3) := by decide +kernel
theorem dC_readFromSet_13 : decode cC_readFromSet 13 = .ok (.aaload, 1) := by decide +kernel
theorem dC_readFromSet_14 : decode cC_readFromSet 14 = .ok (.astore 5, 2) := by decide +kernel
theorem dC_readFromSet_16 : decode cC_readFromSet 16 = .ok (.aload 5, 2) := by decide +kernel
theorem dC_readFromSet_18 : decode cC_readFromSet 18 = .ok (.getfield 201, 3) := by decide +kernel
theorem dC_readFromSet_21 : decode cC_readFromSet 21 = .ok (.lload_n 3, 1) := by decide +kernel
theorem dC_readFromSet_22 : decode cC_readFromSet 22 = .ok (.invokestatic 204, 3) := by decide +kernel
theorem dC_readFromSet_25 : decode cC_readFromSet 25 = .ok (.land, 1) := by decide +kernel
theorem dC_readFromSet_26 : decode cC_readFromSet 26 = .ok (.lconst 0, 1) := by decide +kernel
theorem dC_readFromSet_27 : decode cC_readFromSet 27 = .ok (.lcmp, 1) := by decide +kernel
theorem dC_readFromSet_28 : decode cC_readFromSet 28 = .ok (.ifCond .ne 5, 3) := by decide +kernel
theorem dC_readFromSet_31 : decode cC_readFromSet 31 = .ok (.aconst_null, 1) := by decide +kernel
theorem dC_readFromSet_32 : decode cC_readFromSet 32 = .ok (.areturn, 1) := by decide +kernel
theorem dC_readFromSet_33 : decode cC_readFromSet 33 = .ok (.aload_n 0, 1) := by decide +kernel
theorem dC_readFromSet_34 : decode cC_readFromSet 34 = .ok (.getfield 28, 3) := by decide +kernel
theorem dC_readFromSet_37 : decode cC_readFromSet 37 = .ok (.bipush 9, 2) := by decide +kernel
theorem dC_readFromSet_39 : decode cC_readFromSet 39 = .ok (.dup2, 1) := by decide +kernel
theorem dC_readFromSet_40 : decode cC_readFromSet 40 = .ok (.iaload, 1) := by decide +kernel
theorem dC_readFromSet_41 : decode cC_readFromSet 41 = .ok (.iconst 1, 1) := by decide +kernel
theorem dC_readFromSet_42 : decode cC_readFromSet 42 = .ok (.iadd, 1) := by decide +kernel
theorem dC_readFromSet_43 : decode cC_readFromSet 43 = .ok (.iastore, 1) := by decide +kernel
theorem dC_readFromSet_44 : decode cC_readFromSet 44 = .ok (.aload 5, 2) := by decide +kernel
theorem dC_readFromSet_46 : decode cC_readFromSet 46 = .ok (.lload_n 1, 1) := by decide +kernel
theorem dC_readFromSet_47 : decode cC_readFromSet 47 = .ok (.invokevirtual 115, 3) := by decide +kernel
theorem dC_readFromSet_50 : decode cC_readFromSet 50 = .ok (.areturn, 1) := by decide +kernel
theorem dC_moveGathered_0 : decode cC_moveGathered 0 = .ok (.aload_n 0, 1) := by decide +kernel
theorem dC_moveGathered_1 : decode cC_moveGathered 1 = .ok (.getfield 28, 3) := by decide +kernel
theorem dC_moveGathered_4 : decode cC_moveGathered 4 = .ok (.bipush 9, 2) := by decide +kernel
theorem dC_moveGathered_6 : decode cC_moveGathered 6 = .ok (.dup2, 1) := by decide +kernel
theorem dC_moveGathered_7 : decode cC_moveGathered 7 = .ok (.iaload, 1) := by decide +kernel
theorem dC_moveGathered_8 : decode cC_moveGathered 8 = .ok (.iconst 1, 1) := by decide +kernel
theorem dC_moveGathered_9 : decode cC_moveGathered 9 = .ok (.iadd, 1) := by decide +kernel
theorem dC_moveGathered_10 : decode cC_moveGathered 10 = .ok (.iastore, 1) := by decide +kernel
theorem dC_moveGathered_11 : decode cC_moveGathered 11 = .ok (.aload_n 0, 1) := by decide +kernel
theorem dC_moveGathered_12 : decode cC_moveGathered 12 = .ok (.getfield 28, 3) := by decide +kernel
theorem dC_moveGathered_15 : decode cC_moveGathered 15 = .ok (.iconst 4, 1) := by decide +kernel
theorem dC_moveGathered_16 : decode cC_moveGathered 16 = .ok (.dup2, 1) := by decide +kernel
theorem dC_moveGathered_17 : decode cC_moveGathered 17 = .ok (.iaload, 1) := by decide +kernel
theorem dC_moveGathered_18 : decode cC_moveGathered 18 = .ok (.iload_n 2, 1) := by decide +kernel
theorem dC_moveGathered_19 : decode cC_moveGathered 19 = .ok (.iadd, 1) := by decide +kernel
theorem dC_moveGathered_20 : decode cC_moveGathered 20 = .ok (.iastore, 1) := by decide +kernel
theorem dC_moveGathered_21 : decode cC_moveGathered 21 = .ok (.iconst 0, 1) := by decide +kernel
theorem dC_moveGathered_22 : decode cC_moveGathered 22 = .ok (.istore_n 3, 1) := by decide +kernel
theorem dC_moveGathered_23 : decode cC_moveGathered 23 = .ok (.iconst 0, 1) := by decide +kernel
theorem dC_moveGathered_24 : decode cC_moveGathered 24 = .ok (.istore 4, 2) := by decide +kernel
theorem dC_moveGathered_26 : decode cC_moveGathered 26 = .ok (.iload 4, 2) := by decide +kernel
theorem dC_moveGathered_28 : decode cC_moveGathered 28 = .ok (.iload_n 2, 1) := by decide +kernel
theorem dC_moveGathered_29 : decode cC_moveGathered 29 = .ok (.if_icmp .ge 36, 3) := by decide +kernel
theorem dC_moveGathered_32 : decode cC_moveGathered 32 = .ok (.aload_n 1, 1) := by decide +kernel
theorem dC_moveGathered_33 : decode cC_moveGathered 33 = .ok (.aload_n 0, 1) := by decide +kernel
theorem dC_moveGathered_34 : decode cC_moveGathered 34 = .ok (.getfield 33, 3) := by decide +kernel
theorem dC_moveGathered_37 : decode cC_moveGathered 37 = .ok (.iload 4, 2) := by decide +kernel
theorem dC_moveGathered_39 : decode cC_moveGathered 39 = .ok (.aaload, 1) := by decide +kernel
theorem dC_moveGathered_40 : decode cC_moveGathered 40 = .ok (.getfield 175, 3) := by decide +kernel
theorem dC_moveGathered_43 : decode cC_moveGathered 43 = .ok (.invokevirtual 183, 3) := by decide +kernel
theorem dC_moveGathered_46 : decode cC_moveGathered 46 = .ok (.iload_n 3, 1) := by decide +kernel
theorem dC_moveGathered_47 : decode cC_moveGathered 47 = .ok (.aload_n 0, 1) := by decide +kernel
theorem dC_moveGathered_48 : decode cC_moveGathered 48 = .ok (.getfield 33, 3) := by decide +kernel
theorem dC_moveGathered_51 : decode cC_moveGathered 51 = .ok (.iload 4, 2) := by decide +kernel
theorem dC_moveGathered_53 : decode cC_moveGathered 53 = .ok (.aaload, 1) := by decide +kernel
theorem dC_moveGathered_54 : decode cC_moveGathered 54 = .ok (.invokevirtual 186, 3) := by decide +kernel
theorem dC_moveGathered_57 : decode cC_moveGathered 57 = .ok (.iadd, 1) := by decide +kernel
theorem dC_moveGathered_58 : decode cC_moveGathered 58 = .ok (.istore_n 3, 1) := by decide +kernel
theorem dC_moveGathered_59 : decode cC_moveGathered 59 = .ok (.iinc 4 1, 3) := by decide +kernel
theorem dC_moveGathered_62 : decode cC_moveGathered 62 = .ok (.goto (-36), 3) := by decide +kernel
theorem dC_moveGathered_65 : decode cC_moveGathered 65 = .ok (.aload_n 0, 1) := by decide +kernel
theorem dC_moveGathered_66 : decode cC_moveGathered 66 = .ok (.getfield 28, 3) := by decide +kernel
theorem dC_moveGathered_69 : decode cC_moveGathered 69 = .ok (.iconst 5, 1) := by decide +kernel
theorem dC_moveGathered_70 : decode cC_moveGathered 70 = .ok (.dup2, 1) := by decide +kernel
theorem dC_moveGathered_71 : decode cC_moveGathered 71 = .ok (.iaload, 1) := by decide +kernel
theorem dC_moveGathered_72 : decode cC_moveGathered 72 = .ok (.aload_n 1, 1) := by decide +kernel
theorem dC_moveGathered_73 : decode cC_moveGathered 73 = .ok (.iload_n 3, 1) := by decide +kernel
theorem dC_moveGathered_74 : decode cC_moveGathered 74 = .ok (.iconst 0, 1) := by decide +kernel
theorem dC_moveGathered_75 : decode cC_moveGathered 75 = .ok (.invokevirtual 188, 3) := by decide +kernel
theorem dC_moveGathered_78 : decode cC_moveGathered 78 = .ok (.iadd, 1) := by decide +kernel
theorem dC_moveGathered_79 : decode cC_moveGathered 79 = .ok (.iastore, 1) := by decide +kernel
theorem dC_moveGathered_80 : decode cC_moveGathered 80 = .ok (.aload_n 0, 1) := by decide +kernel
theorem dC_moveGathered_81 : decode cC_moveGathered 81 = .ok (.getfield 28, 3) := by decide +kernel
theorem dC_moveGathered_84 : decode cC_moveGathered 84 = .ok (.bipush 6, 2) := by decide +kernel
theorem dC_moveGathered_86 : decode cC_moveGathered 86 = .ok (.dup2, 1) := by decide +kernel
theorem dC_moveGathered_87 : decode cC_moveGathered 87 = .ok (.iaload, 1) := by decide +kernel
theorem dC_moveGathered_88 : decode cC_moveGathered 88 = .ok (.aload_n 1, 1) := by decide +kernel
theorem dC_moveGathered_89 : decode cC_moveGathered 89 = .ok (.iload_n 3, 1) := by decide +kernel
theorem dC_moveGathered_90 : decode cC_moveGathered 90 = .ok (.iconst 1, 1) := by decide +kernel
theorem dC_moveGathered_91 : decode cC_moveGathered 91 = .ok (.invokevirtual 188, 3) := by decide +kernel
theorem dC_moveGathered_94 : decode cC_moveGathered 94 = .ok (.iadd, 1) := by decide +kernel
theorem dC_moveGathered_95 : decode cC_moveGathered 95 = .ok (.iastore, 1) := by decide +kernel
theorem dC_moveGathered_96 : decode cC_moveGathered 96 = .ok (.iconst 0, 1) := by decide +kernel
theorem dC_moveGathered_97 : decode cC_moveGathered 97 = .ok (.istore 4, 2) := by decide +kernel
theorem dC_moveGathered_99 : decode cC_moveGathered 99 = .ok (.iload 4, 2) := by decide +kernel
theorem dC_moveGathered_101 : decode cC_moveGathered 101 = .ok (.iload_n 2, 1) := by decide +kernel
theorem dC_moveGathered_102 : decode cC_moveGathered 102 = .ok (.if_icmp .ge 55, 3) := by decide +kernel
theorem dC_moveGathered_105 : decode cC_moveGathered 105 = .ok (.aload_n 1, 1) := by decide +kernel
theorem dC_moveGathered_106 : decode cC_moveGathered 106 = .ok (.iload_n 3, 1) := by decide +kernel
theorem dC_moveGathered_107 : decode cC_moveGathered 107 = .ok (.invokevirtual 192, 3) := by decide +kernel
theorem dC_moveGathered_110 : decode cC_moveGathered 110 = .ok (.ifCond .eq 17, 3) := by decide +kernel
theorem dC_moveGathered_113 : decode cC_moveGathered 113 = .ok (.aload_n 1, 1) := by decide +kernel
theorem dC_moveGathered_114 : decode cC_moveGathered 114 = .ok (.aload_n 0, 1) := by decide +kernel
theorem dC_moveGathered_115 : decode cC_moveGathered 115 = .ok (.getfield 33, 3) := by decide +kernel
theorem dC_moveGathered_118 : decode cC_moveGathered 118 = .ok (.iload 4, 2) := by decide +kernel
theorem dC_moveGathered_120 : decode cC_moveGathered 120 = .ok (.aaload, 1) := by decide +kernel
theorem dC_moveGathered_121 : decode cC_moveGathered 121 = .ok (.invokevirtual 195, 3) := by decide +kernel
theorem dC_moveGathered_124 : decode cC_moveGathered 124 = .ok (.goto 14, 3) := by decide +kernel
theorem dC_moveGathered_127 : decode cC_moveGathered 127 = .ok (.aload_n 0, 1) := by decide +kernel
theorem dC_moveGathered_128 : decode cC_moveGathered 128 = .ok (.getfield 28, 3) := by decide +kernel
theorem dC_moveGathered_131 : decode cC_moveGathered 131 = .ok (.bipush 7, 2) := by decide +kernel
theorem dC_moveGathered_133 : decode cC_moveGathered 133 = .ok (.dup2, 1) := by decide +kernel
theorem dC_moveGathered_134 : decode cC_moveGathered 134 = .ok (.iaload, 1) := by decide +kernel
theorem dC_moveGathered_135 : decode cC_moveGathered 135 = .ok (.iconst 1, 1) := by decide +kernel
theorem dC_moveGathered_136 : decode cC_moveGathered 136 = .ok (.iadd, 1) := by decide +kernel
theorem dC_moveGathered_137 : decode cC_moveGathered 137 = .ok (.iastore, 1) := by decide +kernel
theorem dC_moveGathered_138 : decode cC_moveGathered 138 = .ok (.iload_n 3, 1) := by decide +kernel
theorem dC_moveGathered_139 : decode cC_moveGathered 139 = .ok (.aload_n 0, 1) := by decide +kernel
theorem dC_moveGathered_140 : decode cC_moveGathered 140 = .ok (.getfield 33, 3) := by decide +kernel
theorem dC_moveGathered_143 : decode cC_moveGathered 143 = .ok (.iload 4, 2) := by decide +kernel
theorem dC_moveGathered_145 : decode cC_moveGathered 145 = .ok (.aaload, 1) := by decide +kernel
theorem dC_moveGathered_146 : decode cC_moveGathered 146 = .ok (.invokevirtual 186, 3) := by decide +kernel
theorem dC_moveGathered_149 : decode cC_moveGathered 149 = .ok (.isub, 1) := by decide +kernel
theorem dC_moveGathered_150 : decode cC_moveGathered 150 = .ok (.istore_n 3, 1) := by decide +kernel
theorem dC_moveGathered_151 : decode cC_moveGathered 151 = .ok (.iinc 4 1, 3) := by decide +kernel
theorem dC_moveGathered_154 : decode cC_moveGathered 154 = .ok (.goto (-55), 3) := by decide +kernel
theorem dC_moveGathered_157 : decode cC_moveGathered 157 = .ok (.aload_n 1, 1) := by decide +kernel
theorem dC_moveGathered_158 : decode cC_moveGathered 158 = .ok (.invokevirtual 198, 3) := by decide +kernel
theorem dC_moveGathered_161 : decode cC_moveGathered 161 = .ok (.aload_n 0, 1) := by decide +kernel
theorem dC_moveGathered_162 : decode cC_moveGathered 162 = .ok (.getfield 28, 3) := by decide +kernel
theorem dC_moveGathered_165 : decode cC_moveGathered 165 = .ok (.iconst 1, 1) := by decide +kernel
theorem dC_moveGathered_166 : decode cC_moveGathered 166 = .ok (.dup2, 1) := by decide +kernel
theorem dC_moveGathered_167 : decode cC_moveGathered 167 = .ok (.iaload, 1) := by decide +kernel
theorem dC_moveGathered_168 : decode cC_moveGathered 168 = .ok (.iconst 1, 1) := by decide +kernel
theorem dC_moveGathered_169 : decode cC_moveGathered 169 = .ok (.iadd, 1) := by decide +kernel
theorem dC_moveGathered_170 : decode cC_moveGathered 170 = .ok (.iastore, 1) := by decide +kernel
theorem dC_moveGathered_171 : decode cC_moveGathered 171 = .ok (.return_, 1) := by decide +kernel
theorem dC_get_0 : decode cC_get 0 = .ok (.aload_n 0, 1) := by decide +kernel
theorem dC_get_1 : decode cC_get 1 = .ok (.invokevirtual 51, 3) := by decide +kernel
theorem dC_get_4 : decode cC_get 4 = .ok (.aload_n 0, 1) := by decide +kernel
theorem dC_get_5 : decode cC_get 5 = .ok (.aload_n 0, 1) := by decide +kernel
theorem dC_get_6 : decode cC_get 6 = .ok (.getfield 24, 3) := by decide +kernel
theorem dC_get_9 : decode cC_get 9 = .ok (.getfield 77, 3) := by decide +kernel
theorem dC_get_12 : decode cC_get 12 = .ok (.lload_n 1, 1) := by decide +kernel
theorem dC_get_13 : decode cC_get 13 = .ok (.invokevirtual 81, 3) := by decide +kernel
theorem dC_get_16 : decode cC_get 16 = .ok (.putfield 40, 3) := by decide +kernel
theorem dC_get_19 : decode cC_get 19 = .ok (.aload_n 0, 1) := by decide +kernel
theorem dC_get_20 : decode cC_get 20 = .ok (.getfield 40, 3) := by decide +kernel
theorem dC_get_23 : decode cC_get 23 = .ok (.ifnonnull 15, 3) := by decide +kernel
theorem dC_get_26 : decode cC_get 26 = .ok (.aload_n 0, 1) := by decide +kernel
theorem dC_get_27 : decode cC_get 27 = .ok (.aload_n 0, 1) := by decide +kernel
theorem dC_get_28 : decode cC_get 28 = .ok (.lload_n 1, 1) := by decide +kernel
theorem dC_get_29 : decode cC_get 29 = .ok (.invokevirtual 87, 3) := by decide +kernel
theorem dC_get_32 : decode cC_get 32 = .ok (.putfield 40, 3) := by decide +kernel
theorem dC_get_35 : decode cC_get 35 = .ok (.goto 28, 3) := by decide +kernel
theorem dC_get_38 : decode cC_get 38 = .ok (.aload_n 0, 1) := by decide +kernel
theorem dC_get_39 : decode cC_get 39 = .ok (.getfield 24, 3) := by decide +kernel
theorem dC_get_42 : decode cC_get 42 = .ok (.aload_n 0, 1) := by decide +kernel
theorem dC_get_43 : decode cC_get 43 = .ok (.getfield 40, 3) := by decide +kernel
theorem dC_get_46 : decode cC_get 46 = .ok (.invokevirtual 90, 3) := by decide +kernel
theorem dC_get_49 : decode cC_get 49 = .ok (.ifCond .ne 14, 3) := by decide +kernel
theorem dC_get_52 : decode cC_get 52 = .ok (.aload_n 0, 1) := by decide +kernel
theorem dC_get_53 : decode cC_get 53 = .ok (.getfield 28, 3) := by decide +kernel
theorem dC_get_56 : decode cC_get 56 = .ok (.bipush 9, 2) := by decide +kernel
theorem dC_get_58 : decode cC_get 58 = .ok (.dup2, 1) := by decide +kernel
theorem dC_get_59 : decode cC_get 59 = .ok (.iaload, 1) := by decide +kernel
theorem dC_get_60 : decode cC_get 60 = .ok (.iconst 1, 1) := by decide +kernel
theorem dC_get_61 : decode cC_get 61 = .ok (.iadd, 1) := by decide +kernel
theorem dC_get_62 : decode cC_get 62 = .ok (.iastore, 1) := by decide +kernel
theorem dC_get_63 : decode cC_get 63 = .ok (.aload_n 0, 1) := by decide +kernel
theorem dC_get_64 : decode cC_get 64 = .ok (.getfield 40, 3) := by decide +kernel
theorem dC_get_67 : decode cC_get 67 = .ok (.ifnonnull 5, 3) := by decide +kernel
theorem dC_get_70 : decode cC_get 70 = .ok (.iconst 0, 1) := by decide +kernel
theorem dC_get_71 : decode cC_get 71 = .ok (.ireturn, 1) := by decide +kernel
theorem dC_get_72 : decode cC_get 72 = .ok (.aload_n 0, 1) := by decide +kernel
theorem dC_get_73 : decode cC_get 73 = .ok (.getfield 40, 3) := by decide +kernel
theorem dC_get_76 : decode cC_get 76 = .ok (.iconst 1, 1) := by decide +kernel
theorem dC_get_77 : decode cC_get 77 = .ok (.putfield 93, 3) := by decide +kernel
theorem dC_get_80 : decode cC_get 80 = .ok (.aload_n 0, 1) := by decide +kernel
theorem dC_get_81 : decode cC_get 81 = .ok (.getfield 40, 3) := by decide +kernel
theorem dC_get_84 : decode cC_get 84 = .ok (.getfield 96, 3) := by decide +kernel
theorem dC_get_87 : decode cC_get 87 = .ok (.arraylength, 1) := by decide +kernel
theorem dC_get_88 : decode cC_get 88 = .ok (.ireturn, 1) := by decide +kernel
theorem dC_got_0 : decode cC_got 0 = .ok (.aload_n 0, 1) := by decide +kernel
theorem dC_got_1 : decode cC_got 1 = .ok (.getfield 40, 3) := by decide +kernel
theorem dC_got_4 : decode cC_got 4 = .ok (.ifnull 19, 3) := by decide +kernel
theorem dC_got_7 : decode cC_got 7 = .ok (.iload_n 1, 1) := by decide +kernel
theorem dC_got_8 : decode cC_got 8 = .ok (.ifCond .lt 15, 3) := by decide +kernel
theorem dC_got_11 : decode cC_got 11 = .ok (.iload_n 1, 1) := by decide +kernel
theorem dC_got_12 : decode cC_got 12 = .ok (.aload_n 0, 1) := by decide +kernel
theorem dC_got_13 : decode cC_got 13 = .ok (.getfield 40, 3) := by decide +kernel
theorem dC_got_16 : decode cC_got 16 = .ok (.getfield 96, 3) := by decide +kernel
theorem dC_got_19 : decode cC_got 19 = .ok (.arraylength, 1) := by decide +kernel
theorem dC_got_20 : decode cC_got 20 = .ok (.if_icmp .lt 11, 3) := by decide +kernel
theorem dC_got_23 : decode cC_got 23 = .ok (.new 48, 3) := by decide +kernel
theorem dC_got_26 : decode cC_got 26 = .ok (.dup, 1) := by decide +kernel
theorem dC_got_27 : decode cC_got 27 = .ok (.invokespecial 50, 3) := by decide +kernel
theorem dC_got_30 : decode cC_got 30 = .ok (.athrow, 1) := by decide +kernel
theorem dC_got_31 : decode cC_got 31 = .ok (.aload_n 0, 1) := by decide +kernel
theorem dC_got_32 : decode cC_got 32 = .ok (.getfield 40, 3) := by decide +kernel
theorem dC_got_35 : decode cC_got 35 = .ok (.getfield 96, 3) := by decide +kernel
theorem dC_got_38 : decode cC_got 38 = .ok (.iload_n 1, 1) := by decide +kernel
theorem dC_got_39 : decode cC_got 39 = .ok (.iaload, 1) := by decide +kernel
theorem dC_got_40 : decode cC_got 40 = .ok (.ireturn, 1) := by decide +kernel
theorem dC_delete_0 : decode cC_delete 0 = .ok (.aload_n 0, 1) := by decide +kernel
theorem dC_delete_1 : decode cC_delete 1 = .ok (.invokevirtual 51, 3) := by decide +kernel
theorem dC_delete_4 : decode cC_delete 4 = .ok (.aload_n 0, 1) := by decide +kernel
theorem dC_delete_5 : decode cC_delete 5 = .ok (.getfield 24, 3) := by decide +kernel
theorem dC_delete_8 : decode cC_delete 8 = .ok (.getfield 77, 3) := by decide +kernel
theorem dC_delete_11 : decode cC_delete 11 = .ok (.lload_n 1, 1) := by decide +kernel
theorem dC_delete_12 : decode cC_delete 12 = .ok (.invokevirtual 99, 3) := by decide +kernel
theorem dC_delete_15 : decode cC_delete 15 = .ok (.istore_n 3, 1) := by decide +kernel
theorem dC_delete_16 : decode cC_delete 16 = .ok (.aload_n 0, 1) := by decide +kernel
theorem dC_delete_17 : decode cC_delete 17 = .ok (.lload_n 1, 1) := by decide +kernel
theorem dC_delete_18 : decode cC_delete 18 = .ok (.iconst 3, 1) := by decide +kernel
theorem dC_delete_19 : decode cC_delete 19 = .ok (.invokevirtual 103, 3) := by decide +kernel
theorem dC_delete_22 : decode cC_delete 22 = .ok (.istore 4, 2) := by decide +kernel
theorem dC_delete_24 : decode cC_delete 24 = .ok (.iload_n 3, 1) := by decide +kernel
theorem dC_delete_25 : decode cC_delete 25 = .ok (.ifCond .ne 8, 3) := by decide +kernel
theorem dC_delete_28 : decode cC_delete 28 = .ok (.iload 4, 2) := by decide +kernel
theorem dC_delete_30 : decode cC_delete 30 = .ok (.ifCond .eq 7, 3) := by decide +kernel
theorem dC_delete_33 : decode cC_delete 33 = .ok (.iconst 1, 1) := by decide +kernel
theorem dC_delete_34 : decode cC_delete 34 = .ok (.goto 4, 3) := by decide +kernel
theorem dC_delete_37 : decode cC_delete 37 = .ok (.iconst 0, 1) := by decide +kernel
theorem dC_delete_38 : decode cC_delete 38 = .ok (.ireturn, 1) := by decide +kernel
theorem dC_where_0 : decode cC_where 0 = .ok (.aload_n 0, 1) := by decide +kernel
theorem dC_where_1 : decode cC_where 1 = .ok (.invokevirtual 51, 3) := by decide +kernel
theorem dC_where_4 : decode cC_where 4 = .ok (.aload_n 0, 1) := by decide +kernel
theorem dC_where_5 : decode cC_where 5 = .ok (.getfield 24, 3) := by decide +kernel
theorem dC_where_8 : decode cC_where 8 = .ok (.getfield 77, 3) := by decide +kernel
theorem dC_where_11 : decode cC_where 11 = .ok (.lload_n 1, 1) := by decide +kernel
theorem dC_where_12 : decode cC_where 12 = .ok (.invokevirtual 81, 3) := by decide +kernel
theorem dC_where_15 : decode cC_where 15 = .ok (.ifnull 5, 3) := by decide +kernel
theorem dC_where_18 : decode cC_where 18 = .ok (.iconst 1, 1) := by decide +kernel
theorem dC_where_19 : decode cC_where 19 = .ok (.ireturn, 1) := by decide +kernel
theorem dC_where_20 : decode cC_where 20 = .ok (.aload_n 0, 1) := by decide +kernel
theorem dC_where_21 : decode cC_where 21 = .ok (.getfield 17, 3) := by decide +kernel
theorem dC_where_24 : decode cC_where 24 = .ok (.lload_n 1, 1) := by decide +kernel
theorem dC_where_25 : decode cC_where 25 = .ok (.invokestatic 107, 3) := by decide +kernel
theorem dC_where_28 : decode cC_where 28 = .ok (.invokestatic 111, 3) := by decide +kernel
theorem dC_where_31 : decode cC_where 31 = .ok (.aaload, 1) := by decide +kernel
theorem dC_where_32 : decode cC_where 32 = .ok (.lload_n 1, 1) := by decide +kernel
theorem dC_where_33 : decode cC_where 33 = .ok (.invokevirtual 115, 3) := by decide +kernel
theorem dC_where_36 : decode cC_where 36 = .ok (.ifnull 7, 3) := by decide +kernel
theorem dC_where_39 : decode cC_where 39 = .ok (.iconst 2, 1) := by decide +kernel
theorem dC_where_40 : decode cC_where 40 = .ok (.goto 4, 3) := by decide +kernel
theorem dC_where_43 : decode cC_where 43 = .ok (.iconst 0, 1) := by decide +kernel
theorem dC_where_44 : decode cC_where 44 = .ok (.ireturn, 1) := by decide +kernel
theorem dC_flash_0 : decode cC_flash 0 = .ok (.iload_n 1, 1) := by decide +kernel
theorem dC_flash_1 : decode cC_flash 1 = .ok (.ifCond .lt 19, 3) := by decide +kernel
theorem dC_flash_4 : decode cC_flash 4 = .ok (.iload_n 1, 1) := by decide +kernel
theorem dC_flash_5 : decode cC_flash 5 = .ok (.bipush 96, 2) := by decide +kernel
theorem dC_flash_7 : decode cC_flash 7 = .ok (.if_icmp .ge 13, 3) := by decide +kernel
theorem dC_flash_10 : decode cC_flash 10 = .ok (.iload_n 2, 1) := by decide +kernel
theorem dC_flash_11 : decode cC_flash 11 = .ok (.ifCond .lt 9, 3) := by decide +kernel
theorem dC_flash_14 : decode cC_flash 14 = .ok (.iload_n 2, 1) := by decide +kernel
theorem dC_flash_15 : decode cC_flash 15 = .ok (.bipush 32, 2) := by decide +kernel
theorem dC_flash_17 : decode cC_flash 17 = .ok (.if_icmp .lt 11, 3) := by decide +kernel
theorem dC_flash_20 : decode cC_flash 20 = .ok (.new 48, 3) := by decide +kernel
theorem dC_flash_23 : decode cC_flash 23 = .ok (.dup, 1) := by decide +kernel
theorem dC_flash_24 : decode cC_flash 24 = .ok (.invokespecial 50, 3) := by decide +kernel
theorem dC_flash_27 : decode cC_flash 27 = .ok (.athrow, 1) := by decide +kernel
theorem dC_flash_28 : decode cC_flash 28 = .ok (.iload_n 1, 1) := by decide +kernel
theorem dC_flash_29 : decode cC_flash 29 = .ok (.bipush 64, 2) := by decide +kernel
theorem dC_flash_31 : decode cC_flash 31 = .ok (.if_icmp .ge 16, 3) := by decide +kernel
theorem dC_flash_34 : decode cC_flash 34 = .ok (.aload_n 0, 1) := by decide +kernel
theorem dC_flash_35 : decode cC_flash 35 = .ok (.getfield 17, 3) := by decide +kernel
theorem dC_flash_38 : decode cC_flash 38 = .ok (.iload_n 1, 1) := by decide +kernel
theorem dC_flash_39 : decode cC_flash 39 = .ok (.aaload, 1) := by decide +kernel
theorem dC_flash_40 : decode cC_flash 40 = .ok (.iload_n 2, 1) := by decide +kernel
theorem dC_flash_41 : decode cC_flash 41 = .ok (.invokevirtual 118, 3) := by decide +kernel
theorem dC_flash_44 : decode cC_flash 44 = .ok (.goto 19, 3) := by decide +kernel
theorem dC_flash_47 : decode cC_flash 47 = .ok (.aload_n 0, 1) := by decide +kernel
theorem dC_flash_48 : decode cC_flash 48 = .ok (.getfield 24, 3) := by decide +kernel
theorem dC_flash_51 : decode cC_flash 51 = .ok (.getfield 122, 3) := by decide +kernel
theorem dC_flash_54 : decode cC_flash 54 = .ok (.iload_n 1, 1) := by decide +kernel
theorem dC_flash_55 : decode cC_flash 55 = .ok (.bipush 64, 2) := by decide +kernel
theorem dC_flash_57 : decode cC_flash 57 = .ok (.isub, 1) := by decide +kernel
theorem dC_flash_58 : decode cC_flash 58 = .ok (.aaload, 1) := by decide +kernel
theorem dC_flash_59 : decode cC_flash 59 = .ok (.iload_n 2, 1) := by decide +kernel
theorem dC_flash_60 : decode cC_flash 60 = .ok (.invokevirtual 118, 3) := by decide +kernel
theorem dC_flash_63 : decode cC_flash 63 = .ok (.ireturn, 1) := by decide +kernel
theorem dC_close_0 : decode cC_close 0 = .ok (.aload_n 0, 1) := by decide +kernel
theorem dC_close_1 : decode cC_close 1 = .ok (.invokevirtual 51, 3) := by decide +kernel
theorem dC_close_4 : decode cC_close 4 = .ok (.aload_n 0, 1) := by decide +kernel
theorem dC_close_5 : decode cC_close 5 = .ok (.iconst 0, 1) := by decide +kernel
theorem dC_close_6 : decode cC_close 6 = .ok (.putfield 44, 3) := by decide +kernel
theorem dC_close_9 : decode cC_close 9 = .ok (.return_, 1) := by decide +kernel
theorem dC_crash_0 : decode cC_crash 0 = .ok (.aload_n 0, 1) := by decide +kernel
theorem dC_crash_1 : decode cC_crash 1 = .ok (.invokevirtual 51, 3) := by decide +kernel
theorem dC_crash_4 : decode cC_crash 4 = .ok (.iconst 0, 1) := by decide +kernel
theorem dC_crash_5 : decode cC_crash 5 = .ok (.istore_n 1, 1) := by decide +kernel
theorem dC_crash_6 : decode cC_crash 6 = .ok (.iload_n 1, 1) := by decide +kernel
theorem dC_crash_7 : decode cC_crash 7 = .ok (.bipush 64, 2) := by decide +kernel
theorem dC_crash_9 : decode cC_crash 9 = .ok (.if_icmp .ge 18, 3) := by decide +kernel
theorem dC_crash_12 : decode cC_crash 12 = .ok (.aload_n 0, 1) := by decide +kernel
theorem dC_crash_13 : decode cC_crash 13 = .ok (.getfield 17, 3) := by decide +kernel
theorem dC_crash_16 : decode cC_crash 16 = .ok (.iload_n 1, 1) := by decide +kernel
theorem dC_crash_17 : decode cC_crash 17 = .ok (.aaload, 1) := by decide +kernel
theorem dC_crash_18 : decode cC_crash 18 = .ok (.invokevirtual 125, 3) := by decide +kernel
theorem dC_crash_21 : decode cC_crash 21 = .ok (.iinc 1 1, 3) := by decide +kernel
theorem dC_crash_24 : decode cC_crash 24 = .ok (.goto (-18), 3) := by decide +kernel
theorem dC_crash_27 : decode cC_crash 27 = .ok (.aload_n 0, 1) := by decide +kernel
theorem dC_crash_28 : decode cC_crash 28 = .ok (.getfield 24, 3) := by decide +kernel
theorem dC_crash_31 : decode cC_crash 31 = .ok (.invokevirtual 128, 3) := by decide +kernel
theorem dC_crash_34 : decode cC_crash 34 = .ok (.aload_n 0, 1) := by decide +kernel
theorem dC_crash_35 : decode cC_crash 35 = .ok (.getfield 28, 3) := by decide +kernel
theorem dC_crash_38 : decode cC_crash 38 = .ok (.iconst 0, 1) := by decide +kernel
theorem dC_crash_39 : decode cC_crash 39 = .ok (.invokestatic 129, 3) := by decide +kernel
theorem dC_crash_42 : decode cC_crash 42 = .ok (.aload_n 0, 1) := by decide +kernel
theorem dC_crash_43 : decode cC_crash 43 = .ok (.aconst_null, 1) := by decide +kernel
theorem dC_crash_44 : decode cC_crash 44 = .ok (.putfield 40, 3) := by decide +kernel
theorem dC_crash_47 : decode cC_crash 47 = .ok (.aload_n 0, 1) := by decide +kernel
theorem dC_crash_48 : decode cC_crash 48 = .ok (.iconst 0, 1) := by decide +kernel
theorem dC_crash_49 : decode cC_crash 49 = .ok (.putfield 44, 3) := by decide +kernel
theorem dC_crash_52 : decode cC_crash 52 = .ok (.return_, 1) := by decide +kernel
theorem dC_open_0 : decode cC_open 0 = .ok (.aload_n 0, 1) := by decide +kernel
theorem dC_open_1 : decode cC_open 1 = .ok (.getfield 44, 3) := by decide +kernel
theorem dC_open_4 : decode cC_open 4 = .ok (.ifCond .eq 11, 3) := by decide +kernel
theorem dC_open_7 : decode cC_open 7 = .ok (.new 133, 3) := by decide +kernel
theorem dC_open_10 : decode cC_open 10 = .ok (.dup, 1) := by decide +kernel
theorem dC_open_11 : decode cC_open 11 = .ok (.invokespecial 135, 3) := by decide +kernel
theorem dC_open_14 : decode cC_open 14 = .ok (.athrow, 1) := by decide +kernel
theorem dC_open_15 : decode cC_open 15 = .ok (.aload_n 0, 1) := by decide +kernel
theorem dC_open_16 : decode cC_open 16 = .ok (.iconst 1, 1) := by decide +kernel
theorem dC_open_17 : decode cC_open 17 = .ok (.putfield 44, 3) := by decide +kernel
theorem dC_open_20 : decode cC_open 20 = .ok (.aload_n 0, 1) := by decide +kernel
theorem dC_open_21 : decode cC_open 21 = .ok (.getfield 24, 3) := by decide +kernel
theorem dC_open_24 : decode cC_open 24 = .ok (.getfield 77, 3) := by decide +kernel
theorem dC_open_27 : decode cC_open 27 = .ok (.getfield 136, 3) := by decide +kernel
theorem dC_open_30 : decode cC_open 30 = .ok (.ireturn, 1) := by decide +kernel
end
section
theorem dG_init_0 : decode cG_init 0 = .ok (.aload_n 0, 1) := by decide +kernel
theorem dG_init_1 : decode cG_init 1 = .ok (.invokespecial 3, 3) := by decide +kernel
theorem dG_init_4 : decode cG_init 4 = .ok (.aload_n 0, 1) := by decide +kernel
theorem dG_init_5 : decode cG_init 5 = .ok (.bipush 32, 2) := by decide +kernel
theorem dG_init_7 : decode cG_init 7 = .ok (.invokestatic 9, 3) := by decide +kernel
theorem dG_init_10 : decode cG_init 10 = .ok (.putfield 13, 3) := by decide +kernel
theorem dG_init_13 : decode cG_init 13 = .ok (.aload_n 0, 1) := by decide +kernel
theorem dG_init_14 : decode cG_init 14 = .ok (.new 19, 3) := by decide +kernel
theorem dG_init_17 : decode cG_init 17 = .ok (.dup, 1) := by decide +kernel
theorem dG_init_18 : decode cG_init 18 = .ok (.invokespecial 21, 3) := by decide +kernel
theorem dG_init_21 : decode cG_init 21 = .ok (.putfield 22, 3) := by decide +kernel
theorem dG_init_24 : decode cG_init 24 = .ok (.aload_n 0, 1) := by decide +kernel
theorem dG_init_25 : decode cG_init 25 = .ok (.new 26, 3) := by decide +kernel
theorem dG_init_28 : decode cG_init 28 = .ok (.dup, 1) := by decide +kernel
theorem dG_init_29 : decode cG_init 29 = .ok (.invokespecial 28, 3) := by decide +kernel
theorem dG_init_32 : decode cG_init 32 = .ok (.putfield 29, 3) := by decide +kernel
theorem dG_init_35 : decode cG_init 35 = .ok (.aload_n 0, 1) := by decide +kernel
theorem dG_init_36 : decode cG_init 36 = .ok (.iconst 0, 1) := by decide +kernel
theorem dG_init_37 : decode cG_init 37 = .ok (.putfield 33, 3) := by decide +kernel
theorem dG_init_40 : decode cG_init 40 = .ok (.return_, 1) := by decide +kernel
theorem dG_fullSegments_0 : decode cG_fullSegments 0 = .ok (.aload_n 0, 1) := by decide +kernel
theorem dG_fullSegments_1 : decode cG_fullSegments 1 = .ok (.getfield 33, 3) := by decide +kernel
theorem dG_fullSegments_4 : decode cG_fullSegments 4 = .ok (.iconst 4, 1) := by decide +kernel
theorem dG_fullSegments_5 : decode cG_fullSegments 5 = .ok (.idiv, 1) := by decide +kernel
theorem dG_fullSegments_6 : decode cG_fullSegments 6 = .ok (.ireturn, 1) := by decide +kernel
theorem dG_hasRoomFor_0 : decode cG_hasRoomFor 0 = .ok (.aload_n 0, 1) := by decide +kernel
theorem dG_hasRoomFor_1 : decode cG_hasRoomFor 1 = .ok (.getfield 29, 3) := by decide +kernel
theorem dG_hasRoomFor_4 : decode cG_hasRoomFor 4 = .ok (.aload_n 1, 1) := by decide +kernel
theorem dG_hasRoomFor_5 : decode cG_hasRoomFor 5 = .ok (.invokevirtual 37, 3) := by decide +kernel
theorem dG_hasRoomFor_8 : decode cG_hasRoomFor 8 = .ok (.invokevirtual 43, 3) := by decide +kernel
theorem dG_hasRoomFor_11 : decode cG_hasRoomFor 11 = .ok (.ireturn, 1) := by decide +kernel
theorem dG_isBeforeWrittenSegment_0 : decode cG_isBeforeWrittenSegment 0 = .ok (.aload_n 0, 1) := by decide +kernel
theorem dG_isBeforeWrittenSegment_1 : decode cG_isBeforeWrittenSegment 1 = .ok (.getfield 33, 3) := by decide +kernel
theorem dG_isBeforeWrittenSegment_4 : decode cG_isBeforeWrittenSegment 4 = .ok (.bipush 32, 2) := by decide +kernel
theorem dG_isBeforeWrittenSegment_6 : decode cG_isBeforeWrittenSegment 6 = .ok (.if_icmp .lt 16, 3) := by decide +kernel
theorem dG_isBeforeWrittenSegment_9 : decode cG_isBeforeWrittenSegment 9 = .ok (.aload_n 0, 1) := by decide +kernel
theorem dG_isBeforeWrittenSegment_10 : decode cG_isBeforeWrittenSegment 10 = .ok (.getfield 33, 3) := by decide +kernel
theorem dG_isBeforeWrittenSegment_13 : decode cG_isBeforeWrittenSegment 13 = .ok (.iconst 4, 1) := by decide +kernel
theorem dG_isBeforeWrittenSegment_14 : decode cG_isBeforeWrittenSegment 14 = .ok (.irem, 1) := by decide +kernel
theorem dG_isBeforeWrittenSegment_15 : decode cG_isBeforeWrittenSegment 15 = .ok (.ifCond .ne 7, 3) := by decide +kernel
theorem dG_isBeforeWrittenSegment_18 : decode cG_isBeforeWrittenSegment 18 = .ok (.iconst 1, 1) := by decide +kernel
theorem dG_isBeforeWrittenSegment_19 : decode cG_isBeforeWrittenSegment 19 = .ok (.goto 4, 3) := by decide +kernel
theorem dG_isBeforeWrittenSegment_22 : decode cG_isBeforeWrittenSegment 22 = .ok (.iconst 0, 1) := by decide +kernel
theorem dG_isBeforeWrittenSegment_23 : decode cG_isBeforeWrittenSegment 23 = .ok (.ireturn, 1) := by decide +kernel
theorem dG_oldestSegmentEnd_0 : decode cG_oldestSegmentEnd 0 = .ok (.aload_n 0, 1) := by decide +kernel
theorem dG_oldestSegmentEnd_1 : decode cG_oldestSegmentEnd 1 = .ok (.getfield 33, 3) := by decide +kernel
theorem dG_oldestSegmentEnd_4 : decode cG_oldestSegmentEnd 4 = .ok (.bipush 32, 2) := by decide +kernel
theorem dG_oldestSegmentEnd_6 : decode cG_oldestSegmentEnd 6 = .ok (.isub, 1) := by decide +kernel
theorem dG_oldestSegmentEnd_7 : decode cG_oldestSegmentEnd 7 = .ok (.iconst 4, 1) := by decide +kernel
theorem dG_oldestSegmentEnd_8 : decode cG_oldestSegmentEnd 8 = .ok (.iadd, 1) := by decide +kernel
theorem dG_oldestSegmentEnd_9 : decode cG_oldestSegmentEnd 9 = .ok (.ireturn, 1) := by decide +kernel
theorem dG_writeOut_0 : decode cG_writeOut 0 = .ok (.aload_n 0, 1) := by decide +kernel
theorem dG_writeOut_1 : decode cG_writeOut 1 = .ok (.getfield 33, 3) := by decide +kernel
theorem dG_writeOut_4 : decode cG_writeOut 4 = .ok (.bipush 31, 2) := by decide +kernel
theorem dG_writeOut_6 : decode cG_writeOut 6 = .ok (.iand, 1) := by decide +kernel
theorem dG_writeOut_7 : decode cG_writeOut 7 = .ok (.istore_n 1, 1) := by decide +kernel
theorem dG_writeOut_8 : decode cG_writeOut 8 = .ok (.aload_n 0, 1) := by decide +kernel
theorem dG_writeOut_9 : decode cG_writeOut 9 = .ok (.getfield 13, 3) := by decide +kernel
theorem dG_writeOut_12 : decode cG_writeOut 12 = .ok (.iload_n 1, 1) := by decide +kernel
theorem dG_writeOut_13 : decode cG_writeOut 13 = .ok (.aaload, 1) := by decide +kernel
theorem dG_writeOut_14 : decode cG_writeOut 14 = .ok (.astore_n 2, 1) := by decide +kernel
theorem dG_writeOut_15 : decode cG_writeOut 15 = .ok (.aload_n 0, 1) := by decide +kernel
theorem dG_writeOut_16 : decode cG_writeOut 16 = .ok (.getfield 13, 3) := by decide +kernel
theorem dG_writeOut_19 : decode cG_writeOut 19 = .ok (.iload_n 1, 1) := by decide +kernel
theorem dG_writeOut_20 : decode cG_writeOut 20 = .ok (.aload_n 0, 1) := by decide +kernel
theorem dG_writeOut_21 : decode cG_writeOut 21 = .ok (.getfield 29, 3) := by decide +kernel
theorem dG_writeOut_24 : decode cG_writeOut 24 = .ok (.aastore, 1) := by decide +kernel
theorem dG_writeOut_25 : decode cG_writeOut 25 = .ok (.aload_n 2, 1) := by decide +kernel
theorem dG_writeOut_26 : decode cG_writeOut 26 = .ok (.invokevirtual 59, 3) := by decide +kernel
theorem dG_writeOut_29 : decode cG_writeOut 29 = .ok (.aload_n 0, 1) := by decide +kernel
theorem dG_writeOut_30 : decode cG_writeOut 30 = .ok (.aload_n 2, 1) := by decide +kernel
theorem dG_writeOut_31 : decode cG_writeOut 31 = .ok (.putfield 29, 3) := by decide +kernel
theorem dG_writeOut_34 : decode cG_writeOut 34 = .ok (.aload_n 0, 1) := by decide +kernel
theorem dG_writeOut_35 : decode cG_writeOut 35 = .ok (.dup, 1) := by decide +kernel
theorem dG_writeOut_36 : decode cG_writeOut 36 = .ok (.getfield 33, 3) := by decide +kernel
theorem dG_writeOut_39 : decode cG_writeOut 39 = .ok (.iconst 1, 1) := by decide +kernel
theorem dG_writeOut_40 : decode cG_writeOut 40 = .ok (.iadd, 1) := by decide +kernel
theorem dG_writeOut_41 : decode cG_writeOut 41 = .ok (.putfield 33, 3) := by decide +kernel
theorem dG_writeOut_44 : decode cG_writeOut 44 = .ok (.return_, 1) := by decide +kernel
theorem dG_append_0 : decode cG_append 0 = .ok (.aload_n 1, 1) := by decide +kernel
theorem dG_append_1 : decode cG_append 1 = .ok (.iconst 0, 1) := by decide +kernel
theorem dG_append_2 : decode cG_append 2 = .ok (.putfield 50, 3) := by decide +kernel
theorem dG_append_5 : decode cG_append 5 = .ok (.aload_n 1, 1) := by decide +kernel
theorem dG_append_6 : decode cG_append 6 = .ok (.aload_n 0, 1) := by decide +kernel
theorem dG_append_7 : decode cG_append 7 = .ok (.getfield 33, 3) := by decide +kernel
theorem dG_append_10 : decode cG_append 10 = .ok (.putfield 47, 3) := by decide +kernel
theorem dG_append_13 : decode cG_append 13 = .ok (.aload_n 0, 1) := by decide +kernel
theorem dG_append_14 : decode cG_append 14 = .ok (.getfield 29, 3) := by decide +kernel
theorem dG_append_17 : decode cG_append 17 = .ok (.aload_n 1, 1) := by decide +kernel
theorem dG_append_18 : decode cG_append 18 = .ok (.invokevirtual 54, 3) := by decide +kernel
theorem dG_append_21 : decode cG_append 21 = .ok (.aload_n 0, 1) := by decide +kernel
theorem dG_append_22 : decode cG_append 22 = .ok (.getfield 22, 3) := by decide +kernel
theorem dG_append_25 : decode cG_append 25 = .ok (.aload_n 1, 1) := by decide +kernel
theorem dG_append_26 : decode cG_append 26 = .ok (.invokevirtual 58, 3) := by decide +kernel
theorem dG_append_29 : decode cG_append 29 = .ok (.return_, 1) := by decide +kernel
theorem dG_hasInOpenPage_0 : decode cG_hasInOpenPage 0 = .ok (.aload_n 1, 1) := by decide +kernel
theorem dG_hasInOpenPage_1 : decode cG_hasInOpenPage 1 = .ok (.getfield 47, 3) := by decide +kernel
theorem dG_hasInOpenPage_4 : decode cG_hasInOpenPage 4 = .ok (.aload_n 0, 1) := by decide +kernel
theorem dG_hasInOpenPage_5 : decode cG_hasInOpenPage 5 = .ok (.getfield 33, 3) := by decide +kernel
theorem dG_hasInOpenPage_8 : decode cG_hasInOpenPage 8 = .ok (.if_icmp .ne 7, 3) := by decide +kernel
theorem dG_hasInOpenPage_11 : decode cG_hasInOpenPage 11 = .ok (.iconst 1, 1) := by decide +kernel
theorem dG_hasInOpenPage_12 : decode cG_hasInOpenPage 12 = .ok (.goto 4, 3) := by decide +kernel
theorem dG_hasInOpenPage_15 : decode cG_hasInOpenPage 15 = .ok (.iconst 0, 1) := by decide +kernel
theorem dG_hasInOpenPage_16 : decode cG_hasInOpenPage 16 = .ok (.ireturn, 1) := by decide +kernel
theorem dG_wipe_0 : decode cG_wipe 0 = .ok (.iconst 0, 1) := by decide +kernel
theorem dG_wipe_1 : decode cG_wipe 1 = .ok (.istore_n 1, 1) := by decide +kernel
theorem dG_wipe_2 : decode cG_wipe 2 = .ok (.iload_n 1, 1) := by decide +kernel
theorem dG_wipe_3 : decode cG_wipe 3 = .ok (.bipush 32, 2) := by decide +kernel
theorem dG_wipe_5 : decode cG_wipe 5 = .ok (.if_icmp .ge 18, 3) := by decide +kernel
theorem dG_wipe_8 : decode cG_wipe 8 = .ok (.aload_n 0, 1) := by decide +kernel
theorem dG_wipe_9 : decode cG_wipe 9 = .ok (.getfield 13, 3) := by decide +kernel
theorem dG_wipe_12 : decode cG_wipe 12 = .ok (.iload_n 1, 1) := by decide +kernel
theorem dG_wipe_13 : decode cG_wipe 13 = .ok (.aaload, 1) := by decide +kernel
theorem dG_wipe_14 : decode cG_wipe 14 = .ok (.invokevirtual 59, 3) := by decide +kernel
theorem dG_wipe_17 : decode cG_wipe 17 = .ok (.iinc 1 1, 3) := by decide +kernel
theorem dG_wipe_20 : decode cG_wipe 20 = .ok (.goto (-18), 3) := by decide +kernel
theorem dG_wipe_23 : decode cG_wipe 23 = .ok (.aload_n 0, 1) := by decide +kernel
theorem dG_wipe_24 : decode cG_wipe 24 = .ok (.getfield 29, 3) := by decide +kernel
theorem dG_wipe_27 : decode cG_wipe 27 = .ok (.invokevirtual 59, 3) := by decide +kernel
theorem dG_wipe_30 : decode cG_wipe 30 = .ok (.aload_n 0, 1) := by decide +kernel
theorem dG_wipe_31 : decode cG_wipe 31 = .ok (.getfield 22, 3) := by decide +kernel
theorem dG_wipe_34 : decode cG_wipe 34 = .ok (.invokevirtual 62, 3) := by decide +kernel
theorem dG_wipe_37 : decode cG_wipe 37 = .ok (.aload_n 0, 1) := by decide +kernel
theorem dG_wipe_38 : decode cG_wipe 38 = .ok (.iconst 0, 1) := by decide +kernel
theorem dG_wipe_39 : decode cG_wipe 39 = .ok (.putfield 33, 3) := by decide +kernel
theorem dG_wipe_42 : decode cG_wipe 42 = .ok (.return_, 1) := by decide +kernel
end
section
theorem dI_init_0 : decode cI_init 0 = .ok (.aload_n 0, 1) := by decide +kernel
theorem dI_init_1 : decode cI_init 1 = .ok (.invokespecial 3, 3) := by decide +kernel
theorem dI_init_4 : decode cI_init 4 = .ok (.aload_n 0, 1) := by decide +kernel
theorem dI_init_5 : decode cI_init 5 = .ok (.sipush 264, 3) := by decide +kernel
theorem dI_init_8 : decode cI_init 8 = .ok (.anewarray 9, 3) := by decide +kernel
theorem dI_init_11 : decode cI_init 11 = .ok (.putfield 11, 3) := by decide +kernel
theorem dI_init_14 : decode cI_init 14 = .ok (.aload_n 0, 1) := by decide +kernel
theorem dI_init_15 : decode cI_init 15 = .ok (.bipush 64, 2) := by decide +kernel
theorem dI_init_17 : decode cI_init 17 = .ok (.newarray .int, 2) := by decide +kernel
theorem dI_init_19 : decode cI_init 19 = .ok (.putfield 17, 3) := by decide +kernel
theorem dI_init_22 : decode cI_init 22 = .ok (.aload_n 0, 1) := by decide +kernel
theorem dI_init_23 : decode cI_init 23 = .ok (.iconst 0, 1) := by decide +kernel
theorem dI_init_24 : decode cI_init 24 = .ok (.putfield 21, 3) := by decide +kernel
theorem dI_init_27 : decode cI_init 27 = .ok (.return_, 1) := by decide +kernel
theorem dI_takeGotAlone_0 : decode cI_takeGotAlone 0 = .ok (.iconst 0, 1) := by decide +kernel
theorem dI_takeGotAlone_1 : decode cI_takeGotAlone 1 = .ok (.istore_n 3, 1) := by decide +kernel
theorem dI_takeGotAlone_2 : decode cI_takeGotAlone 2 = .ok (.iconst 0, 1) := by decide +kernel
theorem dI_takeGotAlone_3 : decode cI_takeGotAlone 3 = .ok (.istore 4, 2) := by decide +kernel
theorem dI_takeGotAlone_5 : decode cI_takeGotAlone 5 = .ok (.iconst 0, 1) := by decide +kernel
theorem dI_takeGotAlone_6 : decode cI_takeGotAlone 6 = .ok (.istore 5, 2) := by decide +kernel
theorem dI_takeGotAlone_8 : decode cI_takeGotAlone 8 = .ok (.iload 5, 2) := by decide +kernel
theorem dI_takeGotAlone_10 : decode cI_takeGotAlone 10 = .ok (.aload_n 0, 1) := by decide +kernel
theorem dI_takeGotAlone_11 : decode cI_takeGotAlone 11 = .ok (.getfield 21, 3) := by decide +kernel
theorem dI_takeGotAlone_14 : decode cI_takeGotAlone 14 = .ok (.if_icmp .ge 83, 3) := by decide +kernel
theorem dI_takeGotAlone_17 : decode cI_takeGotAlone 17 = .ok (.aload_n 0, 1) := by decide +kernel
theorem dI_takeGotAlone_18 : decode cI_takeGotAlone 18 = .ok (.getfield 11, 3) := by decide +kernel
theorem dI_takeGotAlone_21 : decode cI_takeGotAlone 21 = .ok (.iload 5, 2) := by decide +kernel
theorem dI_takeGotAlone_23 : decode cI_takeGotAlone 23 = .ok (.aaload, 1) := by decide +kernel
theorem dI_takeGotAlone_24 : decode cI_takeGotAlone 24 = .ok (.astore 6, 2) := by decide +kernel
theorem dI_takeGotAlone_26 : decode cI_takeGotAlone 26 = .ok (.aload 6, 2) := by decide +kernel
theorem dI_takeGotAlone_28 : decode cI_takeGotAlone 28 = .ok (.getfield 40, 3) := by decide +kernel
theorem dI_takeGotAlone_31 : decode cI_takeGotAlone 31 = .ok (.ifCond .eq 49, 3) := by decide +kernel
theorem dI_takeGotAlone_34 : decode cI_takeGotAlone 34 = .ok (.aload 6, 2) := by decide +kernel
theorem dI_takeGotAlone_36 : decode cI_takeGotAlone 36 = .ok (.getfield 44, 3) := by decide +kernel
theorem dI_takeGotAlone_39 : decode cI_takeGotAlone 39 = .ok (.iload_n 1, 1) := by decide +kernel
theorem dI_takeGotAlone_40 : decode cI_takeGotAlone 40 = .ok (.if_icmp .ge 40, 3) := by decide +kernel
theorem dI_takeGotAlone_43 : decode cI_takeGotAlone 43 = .ok (.aload_n 0, 1) := by decide +kernel
theorem dI_takeGotAlone_44 : decode cI_takeGotAlone 44 = .ok (.getfield 17, 3) := by decide +kernel
theorem dI_takeGotAlone_47 : decode cI_takeGotAlone 47 = .ok (.aload 6, 2) := by decide +kernel
theorem dI_takeGotAlone_49 : decode cI_takeGotAlone 49 = .ok (.getfield 33, 3) := by decide +kernel
theorem dI_takeGotAlone_52 : decode cI_takeGotAlone 52 = .ok (.iaload, 1) := by decide +kernel
theorem dI_takeGotAlone_53 : decode cI_takeGotAlone 53 = .ok (.iconst 1, 1) := by decide +kernel
theorem dI_takeGotAlone_54 : decode cI_takeGotAlone 54 = .ok (.if_icmp .ne 26, 3) := by decide +kernel
theorem dI_takeGotAlone_57 : decode cI_takeGotAlone 57 = .ok (.aload_n 2, 1) := by decide +kernel
theorem dI_takeGotAlone_58 : decode cI_takeGotAlone 58 = .ok (.iload 4, 2) := by decide +kernel
theorem dI_takeGotAlone_60 : decode cI_takeGotAlone 60 = .ok (.aload 6, 2) := by decide +kernel
theorem dI_takeGotAlone_62 : decode cI_takeGotAlone 62 = .ok (.aastore, 1) := by decide +kernel
theorem dI_takeGotAlone_63 : decode cI_takeGotAlone 63 = .ok (.iinc 4 1, 3) := by decide +kernel
theorem dI_takeGotAlone_66 : decode cI_takeGotAlone 66 = .ok (.aload_n 0, 1) := by decide +kernel
theorem dI_takeGotAlone_67 : decode cI_takeGotAlone 67 = .ok (.getfield 17, 3) := by decide +kernel
theorem dI_takeGotAlone_70 : decode cI_takeGotAlone 70 = .ok (.aload 6, 2) := by decide +kernel
theorem dI_takeGotAlone_72 : decode cI_takeGotAlone 72 = .ok (.getfield 33, 3) := by decide +kernel
theorem dI_takeGotAlone_75 : decode cI_takeGotAlone 75 = .ok (.iconst 0, 1) := by decide +kernel
theorem dI_takeGotAlone_76 : decode cI_takeGotAlone 76 = .ok (.iastore, 1) := by decide +kernel
theorem dI_takeGotAlone_77 : decode cI_takeGotAlone 77 = .ok (.goto 14, 3) := by decide +kernel
theorem dI_takeGotAlone_80 : decode cI_takeGotAlone 80 = .ok (.aload_n 0, 1) := by decide +kernel
theorem dI_takeGotAlone_81 : decode cI_takeGotAlone 81 = .ok (.getfield 11, 3) := by decide +kernel
theorem dI_takeGotAlone_84 : decode cI_takeGotAlone 84 = .ok (.iload_n 3, 1) := by decide +kernel
theorem dI_takeGotAlone_85 : decode cI_takeGotAlone 85 = .ok (.aload 6, 2) := by decide +kernel
theorem dI_takeGotAlone_87 : decode cI_takeGotAlone 87 = .ok (.aastore, 1) := by decide +kernel
theorem dI_takeGotAlone_88 : decode cI_takeGotAlone 88 = .ok (.iinc 3 1, 3) := by decide +kernel
theorem dI_takeGotAlone_91 : decode cI_takeGotAlone 91 = .ok (.iinc 5 1, 3) := by decide +kernel
theorem dI_takeGotAlone_94 : decode cI_takeGotAlone 94 = .ok (.goto (-86), 3) := by decide +kernel
theorem dI_takeGotAlone_97 : decode cI_takeGotAlone 97 = .ok (.aload_n 0, 1) := by decide +kernel
theorem dI_takeGotAlone_98 : decode cI_takeGotAlone 98 = .ok (.iload_n 3, 1) := by decide +kernel
theorem dI_takeGotAlone_99 : decode cI_takeGotAlone 99 = .ok (.invokevirtual 36, 3) := by decide +kernel
theorem dI_takeGotAlone_102 : decode cI_takeGotAlone 102 = .ok (.iload 4, 2) := by decide +kernel
theorem dI_takeGotAlone_104 : decode cI_takeGotAlone 104 = .ok (.ireturn, 1) := by decide +kernel
theorem dI_shrinkTo_0 : decode cI_shrinkTo 0 = .ok (.iload_n 1, 1) := by decide +kernel
theorem dI_shrinkTo_1 : decode cI_shrinkTo 1 = .ok (.istore_n 2, 1) := by decide +kernel
theorem dI_shrinkTo_2 : decode cI_shrinkTo 2 = .ok (.iload_n 2, 1) := by decide +kernel
theorem dI_shrinkTo_3 : decode cI_shrinkTo 3 = .ok (.aload_n 0, 1) := by decide +kernel
theorem dI_shrinkTo_4 : decode cI_shrinkTo 4 = .ok (.getfield 21, 3) := by decide +kernel
theorem dI_shrinkTo_7 : decode cI_shrinkTo 7 = .ok (.if_icmp .ge 16, 3) := by decide +kernel
theorem dI_shrinkTo_10 : decode cI_shrinkTo 10 = .ok (.aload_n 0, 1) := by decide +kernel
theorem dI_shrinkTo_11 : decode cI_shrinkTo 11 = .ok (.getfield 11, 3) := by decide +kernel
theorem dI_shrinkTo_14 : decode cI_shrinkTo 14 = .ok (.iload_n 2, 1) := by decide +kernel
theorem dI_shrinkTo_15 : decode cI_shrinkTo 15 = .ok (.aconst_null, 1) := by decide +kernel
theorem dI_shrinkTo_16 : decode cI_shrinkTo 16 = .ok (.aastore, 1) := by decide +kernel
theorem dI_shrinkTo_17 : decode cI_shrinkTo 17 = .ok (.iinc 2 1, 3) := by decide +kernel
theorem dI_shrinkTo_20 : decode cI_shrinkTo 20 = .ok (.goto (-18), 3) := by decide +kernel
theorem dI_shrinkTo_23 : decode cI_shrinkTo 23 = .ok (.aload_n 0, 1) := by decide +kernel
theorem dI_shrinkTo_24 : decode cI_shrinkTo 24 = .ok (.iload_n 1, 1) := by decide +kernel
theorem dI_shrinkTo_25 : decode cI_shrinkTo 25 = .ok (.putfield 21, 3) := by decide +kernel
theorem dI_shrinkTo_28 : decode cI_shrinkTo 28 = .ok (.return_, 1) := by decide +kernel
theorem dI_setsBefore_0 : decode cI_setsBefore 0 = .ok (.lconst 0, 1) := by decide +kernel
theorem dI_setsBefore_1 : decode cI_setsBefore 1 = .ok (.lstore_n 2, 1) := by decide +kernel
theorem dI_setsBefore_2 : decode cI_setsBefore 2 = .ok (.iconst 0, 1) := by decide +kernel
theorem dI_setsBefore_3 : decode cI_setsBefore 3 = .ok (.istore 4, 2) := by decide +kernel
theorem dI_setsBefore_5 : decode cI_setsBefore 5 = .ok (.iload 4, 2) := by decide +kernel
theorem dI_setsBefore_7 : decode cI_setsBefore 7 = .ok (.aload_n 0, 1) := by decide +kernel
theorem dI_setsBefore_8 : decode cI_setsBefore 8 = .ok (.getfield 21, 3) := by decide +kernel
theorem dI_setsBefore_11 : decode cI_setsBefore 11 = .ok (.if_icmp .ge 38, 3) := by decide +kernel
theorem dI_setsBefore_14 : decode cI_setsBefore 14 = .ok (.aload_n 0, 1) := by decide +kernel
theorem dI_setsBefore_15 : decode cI_setsBefore 15 = .ok (.getfield 11, 3) := by decide +kernel
theorem dI_setsBefore_18 : decode cI_setsBefore 18 = .ok (.iload 4, 2) := by decide +kernel
theorem dI_setsBefore_20 : decode cI_setsBefore 20 = .ok (.aaload, 1) := by decide +kernel
theorem dI_setsBefore_21 : decode cI_setsBefore 21 = .ok (.getfield 44, 3) := by decide +kernel
theorem dI_setsBefore_24 : decode cI_setsBefore 24 = .ok (.iload_n 1, 1) := by decide +kernel
theorem dI_setsBefore_25 : decode cI_setsBefore 25 = .ok (.if_icmp .ge 18, 3) := by decide +kernel
theorem dI_setsBefore_28 : decode cI_setsBefore 28 = .ok (.lload_n 2, 1) := by decide +kernel
theorem dI_setsBefore_29 : decode cI_setsBefore 29 = .ok (.lconst 1, 1) := by decide +kernel
theorem dI_setsBefore_30 : decode cI_setsBefore 30 = .ok (.aload_n 0, 1) := by decide +kernel
theorem dI_setsBefore_31 : decode cI_setsBefore 31 = .ok (.getfield 11, 3) := by decide +kernel
theorem dI_setsBefore_34 : decode cI_setsBefore 34 = .ok (.iload 4, 2) := by decide +kernel
theorem dI_setsBefore_36 : decode cI_setsBefore 36 = .ok (.aaload, 1) := by decide +kernel
theorem dI_setsBefore_37 : decode cI_setsBefore 37 = .ok (.getfield 33, 3) := by decide +kernel
theorem dI_setsBefore_40 : decode cI_setsBefore 40 = .ok (.lshl, 1) := by decide +kernel
theorem dI_setsBefore_41 : decode cI_setsBefore 41 = .ok (.lor, 1) := by decide +kernel
theorem dI_setsBefore_42 : decode cI_setsBefore 42 = .ok (.lstore_n 2, 1) := by decide +kernel
theorem dI_setsBefore_43 : decode cI_setsBefore 43 = .ok (.iinc 4 1, 3) := by decide +kernel
theorem dI_setsBefore_46 : decode cI_setsBefore 46 = .ok (.goto (-41), 3) := by decide +kernel
theorem dI_setsBefore_49 : decode cI_setsBefore 49 = .ok (.lload_n 2, 1) := by decide +kernel
theorem dI_setsBefore_50 : decode cI_setsBefore 50 = .ok (.lreturn, 1) := by decide +kernel
theorem dI_takeSet_0 : decode cI_takeSet 0 = .ok (.iconst 0, 1) := by decide +kernel
theorem dI_takeSet_1 : decode cI_takeSet 1 = .ok (.istore_n 3, 1) := by decide +kernel
theorem dI_takeSet_2 : decode cI_takeSet 2 = .ok (.iconst 0, 1) := by decide +kernel
theorem dI_takeSet_3 : decode cI_takeSet 3 = .ok (.istore 4, 2) := by decide +kernel
theorem dI_takeSet_5 : decode cI_takeSet 5 = .ok (.iconst 0, 1) := by decide +kernel
theorem dI_takeSet_6 : decode cI_takeSet 6 = .ok (.istore 5, 2) := by decide +kernel
theorem dI_takeSet_8 : decode cI_takeSet 8 = .ok (.iload 5, 2) := by decide +kernel
theorem dI_takeSet_10 : decode cI_takeSet 10 = .ok (.aload_n 0, 1) := by decide +kernel
theorem dI_takeSet_11 : decode cI_takeSet 11 = .ok (.getfield 21, 3) := by decide +kernel
theorem dI_takeSet_14 : decode cI_takeSet 14 = .ok (.if_icmp .ge 50, 3) := by decide +kernel
theorem dI_takeSet_17 : decode cI_takeSet 17 = .ok (.aload_n 0, 1) := by decide +kernel
theorem dI_takeSet_18 : decode cI_takeSet 18 = .ok (.getfield 11, 3) := by decide +kernel
theorem dI_takeSet_21 : decode cI_takeSet 21 = .ok (.iload 5, 2) := by decide +kernel
theorem dI_takeSet_23 : decode cI_takeSet 23 = .ok (.aaload, 1) := by decide +kernel
theorem dI_takeSet_24 : decode cI_takeSet 24 = .ok (.astore 6, 2) := by decide +kernel
theorem dI_takeSet_26 : decode cI_takeSet 26 = .ok (.aload 6, 2) := by decide +kernel
theorem dI_takeSet_28 : decode cI_takeSet 28 = .ok (.getfield 33, 3) := by decide +kernel
theorem dI_takeSet_31 : decode cI_takeSet 31 = .ok (.iload_n 1, 1) := by decide +kernel
theorem dI_takeSet_32 : decode cI_takeSet 32 = .ok (.if_icmp .ne 15, 3) := by decide +kernel
theorem dI_takeSet_35 : decode cI_takeSet 35 = .ok (.aload_n 2, 1) := by decide +kernel
theorem dI_takeSet_36 : decode cI_takeSet 36 = .ok (.iload 4, 2) := by decide +kernel
theorem dI_takeSet_38 : decode cI_takeSet 38 = .ok (.aload 6, 2) := by decide +kernel
theorem dI_takeSet_40 : decode cI_takeSet 40 = .ok (.aastore, 1) := by decide +kernel
theorem dI_takeSet_41 : decode cI_takeSet 41 = .ok (.iinc 4 1, 3) := by decide +kernel
theorem dI_takeSet_44 : decode cI_takeSet 44 = .ok (.goto 14, 3) := by decide +kernel
theorem dI_takeSet_47 : decode cI_takeSet 47 = .ok (.aload_n 0, 1) := by decide +kernel
theorem dI_takeSet_48 : decode cI_takeSet 48 = .ok (.getfield 11, 3) := by decide +kernel
theorem dI_takeSet_51 : decode cI_takeSet 51 = .ok (.iload_n 3, 1) := by decide +kernel
theorem dI_takeSet_52 : decode cI_takeSet 52 = .ok (.aload 6, 2) := by decide +kernel
theorem dI_takeSet_54 : decode cI_takeSet 54 = .ok (.aastore, 1) := by decide +kernel
theorem dI_takeSet_55 : decode cI_takeSet 55 = .ok (.iinc 3 1, 3) := by decide +kernel
theorem dI_takeSet_58 : decode cI_takeSet 58 = .ok (.iinc 5 1, 3) := by decide +kernel
theorem dI_takeSet_61 : decode cI_takeSet 61 = .ok (.goto (-53), 3) := by decide +kernel
theorem dI_takeSet_64 : decode cI_takeSet 64 = .ok (.aload_n 0, 1) := by decide +kernel
theorem dI_takeSet_65 : decode cI_takeSet 65 = .ok (.getfield 17, 3) := by decide +kernel
theorem dI_takeSet_68 : decode cI_takeSet 68 = .ok (.iload_n 1, 1) := by decide +kernel
theorem dI_takeSet_69 : decode cI_takeSet 69 = .ok (.iconst 0, 1) := by decide +kernel
theorem dI_takeSet_70 : decode cI_takeSet 70 = .ok (.iastore, 1) := by decide +kernel
theorem dI_takeSet_71 : decode cI_takeSet 71 = .ok (.aload_n 0, 1) := by decide +kernel
theorem dI_takeSet_72 : decode cI_takeSet 72 = .ok (.iload_n 3, 1) := by decide +kernel
theorem dI_takeSet_73 : decode cI_takeSet 73 = .ok (.invokevirtual 36, 3) := by decide +kernel
theorem dI_takeSet_76 : decode cI_takeSet 76 = .ok (.iload 4, 2) := by decide +kernel
theorem dI_takeSet_78 : decode cI_takeSet 78 = .ok (.ireturn, 1) := by decide +kernel
theorem dI_add_0 : decode cI_add 0 = .ok (.aload_n 0, 1) := by decide +kernel
theorem dI_add_1 : decode cI_add 1 = .ok (.aload_n 1, 1) := by decide +kernel
theorem dI_add_2 : decode cI_add 2 = .ok (.getfield 25, 3) := by decide +kernel
theorem dI_add_5 : decode cI_add 5 = .ok (.invokevirtual 29, 3) := by decide +kernel
theorem dI_add_8 : decode cI_add 8 = .ok (.pop, 1) := by decide +kernel
theorem dI_add_9 : decode cI_add 9 = .ok (.aload_n 0, 1) := by decide +kernel
theorem dI_add_10 : decode cI_add 10 = .ok (.getfield 11, 3) := by decide +kernel
theorem dI_add_13 : decode cI_add 13 = .ok (.aload_n 0, 1) := by decide +kernel
theorem dI_add_14 : decode cI_add 14 = .ok (.getfield 21, 3) := by decide +kernel
theorem dI_add_17 : decode cI_add 17 = .ok (.aload_n 1, 1) := by decide +kernel
theorem dI_add_18 : decode cI_add 18 = .ok (.aastore, 1) := by decide +kernel
theorem dI_add_19 : decode cI_add 19 = .ok (.aload_n 0, 1) := by decide +kernel
theorem dI_add_20 : decode cI_add 20 = .ok (.dup, 1) := by decide +kernel
theorem dI_add_21 : decode cI_add 21 = .ok (.getfield 21, 3) := by decide +kernel
theorem dI_add_24 : decode cI_add 24 = .ok (.iconst 1, 1) := by decide +kernel
theorem dI_add_25 : decode cI_add 25 = .ok (.iadd, 1) := by decide +kernel
theorem dI_add_26 : decode cI_add 26 = .ok (.putfield 21, 3) := by decide +kernel
theorem dI_add_29 : decode cI_add 29 = .ok (.aload_n 0, 1) := by decide +kernel
theorem dI_add_30 : decode cI_add 30 = .ok (.getfield 17, 3) := by decide +kernel
theorem dI_add_33 : decode cI_add 33 = .ok (.aload_n 1, 1) := by decide +kernel
theorem dI_add_34 : decode cI_add 34 = .ok (.getfield 33, 3) := by decide +kernel
theorem dI_add_37 : decode cI_add 37 = .ok (.dup2, 1) := by decide +kernel
theorem dI_add_38 : decode cI_add 38 = .ok (.iaload, 1) := by decide +kernel
theorem dI_add_39 : decode cI_add 39 = .ok (.iconst 1, 1) := by decide +kernel
theorem dI_add_40 : decode cI_add 40 = .ok (.iadd, 1) := by decide +kernel
theorem dI_add_41 : decode cI_add 41 = .ok (.iastore, 1) := by decide +kernel
theorem dI_add_42 : decode cI_add 42 = .ok (.return_, 1) := by decide +kernel
theorem dI_remove_0 : decode cI_remove 0 = .ok (.iconst 0, 1) := by decide +kernel
theorem dI_remove_1 : decode cI_remove 1 = .ok (.istore_n 3, 1) := by decide +kernel
theorem dI_remove_2 : decode cI_remove 2 = .ok (.aload_n 0, 1) := by decide +kernel
theorem dI_remove_3 : decode cI_remove 3 = .ok (.getfield 21, 3) := by decide +kernel
theorem dI_remove_6 : decode cI_remove 6 = .ok (.istore 4, 2) := by decide +kernel
theorem dI_remove_8 : decode cI_remove 8 = .ok (.iconst 0, 1) := by decide +kernel
theorem dI_remove_9 : decode cI_remove 9 = .ok (.istore 5, 2) := by decide +kernel
theorem dI_remove_11 : decode cI_remove 11 = .ok (.iload 5, 2) := by decide +kernel
theorem dI_remove_13 : decode cI_remove 13 = .ok (.iload 4, 2) := by decide +kernel
theorem dI_remove_15 : decode cI_remove 15 = .ok (.if_icmp .ge 62, 3) := by decide +kernel
theorem dI_remove_18 : decode cI_remove 18 = .ok (.aload_n 0, 1) := by decide +kernel
theorem dI_remove_19 : decode cI_remove 19 = .ok (.getfield 11, 3) := by decide +kernel
theorem dI_remove_22 : decode cI_remove 22 = .ok (.iload 5, 2) := by decide +kernel
theorem dI_remove_24 : decode cI_remove 24 = .ok (.aaload, 1) := by decide +kernel
theorem dI_remove_25 : decode cI_remove 25 = .ok (.getfield 25, 3) := by decide +kernel
theorem dI_remove_28 : decode cI_remove 28 = .ok (.lload_n 1, 1) := by decide +kernel
theorem dI_remove_29 : decode cI_remove 29 = .ok (.lcmp, 1) := by decide +kernel
theorem dI_remove_30 : decode cI_remove 30 = .ok (.ifCond .ne 25, 3) := by decide +kernel
theorem dI_remove_33 : decode cI_remove 33 = .ok (.aload_n 0, 1) := by decide +kernel
theorem dI_remove_34 : decode cI_remove 34 = .ok (.getfield 17, 3) := by decide +kernel
theorem dI_remove_37 : decode cI_remove 37 = .ok (.aload_n 0, 1) := by decide +kernel
theorem dI_remove_38 : decode cI_remove 38 = .ok (.getfield 11, 3) := by decide +kernel
theorem dI_remove_41 : decode cI_remove 41 = .ok (.iload 5, 2) := by decide +kernel
theorem dI_remove_43 : decode cI_remove 43 = .ok (.aaload, 1) := by decide +kernel
theorem dI_remove_44 : decode cI_remove 44 = .ok (.getfield 33, 3) := by decide +kernel
theorem dI_remove_47 : decode cI_remove 47 = .ok (.dup2, 1) := by decide +kernel
theorem dI_remove_48 : decode cI_remove 48 = .ok (.iaload, 1) := by decide +kernel
theorem dI_remove_49 : decode cI_remove 49 = .ok (.iconst 1, 1) := by decide +kernel
theorem dI_remove_50 : decode cI_remove 50 = .ok (.isub, 1) := by decide +kernel
theorem dI_remove_51 : decode cI_remove 51 = .ok (.iastore, 1) := by decide +kernel
theorem dI_remove_52 : decode cI_remove 52 = .ok (.goto 19, 3) := by decide +kernel
theorem dI_remove_55 : decode cI_remove 55 = .ok (.aload_n 0, 1) := by decide +kernel
theorem dI_remove_56 : decode cI_remove 56 = .ok (.getfield 11, 3) := by decide +kernel
theorem dI_remove_59 : decode cI_remove 59 = .ok (.iload_n 3, 1) := by decide +kernel
theorem dI_remove_60 : decode cI_remove 60 = .ok (.aload_n 0, 1) := by decide +kernel
theorem dI_remove_61 : decode cI_remove 61 = .ok (.getfield 11, 3) := by decide +kernel
theorem dI_remove_64 : decode cI_remove 64 = .ok (.iload 5, 2) := by decide +kernel
theorem dI_remove_66 : decode cI_remove 66 = .ok (.aaload, 1) := by decide +kernel
theorem dI_remove_67 : decode cI_remove 67 = .ok (.aastore, 1) := by decide +kernel
theorem dI_remove_68 : decode cI_remove 68 = .ok (.iinc 3 1, 3) := by decide +kernel
theorem dI_remove_71 : decode cI_remove 71 = .ok (.iinc 5 1, 3) := by decide +kernel
theorem dI_remove_74 : decode cI_remove 74 = .ok (.goto (-63), 3) := by decide +kernel
theorem dI_remove_77 : decode cI_remove 77 = .ok (.aload_n 0, 1) := by decide +kernel
theorem dI_remove_78 : decode cI_remove 78 = .ok (.iload_n 3, 1) := by decide +kernel
theorem dI_remove_79 : decode cI_remove 79 = .ok (.invokevirtual 36, 3) := by decide +kernel
theorem dI_remove_82 : decode cI_remove 82 = .ok (.iload_n 3, 1) := by decide +kernel
theorem dI_remove_83 : decode cI_remove 83 = .ok (.iload 4, 2) := by decide +kernel
theorem dI_remove_85 : decode cI_remove 85 = .ok (.if_icmp .ge 7, 3) := by decide +kernel
theorem dI_remove_88 : decode cI_remove 88 = .ok (.iconst 1, 1) := by decide +kernel
theorem dI_remove_89 : decode cI_remove 89 = .ok (.goto 4, 3) := by decide +kernel
theorem dI_remove_92 : decode cI_remove 92 = .ok (.iconst 0, 1) := by decide +kernel
theorem dI_remove_93 : decode cI_remove 93 = .ok (.ireturn, 1) := by decide +kernel
theorem dI_find_0 : decode cI_find 0 = .ok (.iconst 0, 1) := by decide +kernel
theorem dI_find_1 : decode cI_find 1 = .ok (.istore_n 3, 1) := by decide +kernel
theorem dI_find_2 : decode cI_find 2 = .ok (.iload_n 3, 1) := by decide +kernel
theorem dI_find_3 : decode cI_find 3 = .ok (.aload_n 0, 1) := by decide +kernel
theorem dI_find_4 : decode cI_find 4 = .ok (.getfield 21, 3) := by decide +kernel
theorem dI_find_7 : decode cI_find 7 = .ok (.if_icmp .ge 30, 3) := by decide +kernel
theorem dI_find_10 : decode cI_find 10 = .ok (.aload_n 0, 1) := by decide +kernel
theorem dI_find_11 : decode cI_find 11 = .ok (.getfield 11, 3) := by decide +kernel
theorem dI_find_14 : decode cI_find 14 = .ok (.iload_n 3, 1) := by decide +kernel
theorem dI_find_15 : decode cI_find 15 = .ok (.aaload, 1) := by decide +kernel
theorem dI_find_16 : decode cI_find 16 = .ok (.getfield 25, 3) := by decide +kernel
theorem dI_find_19 : decode cI_find 19 = .ok (.lload_n 1, 1) := by decide +kernel
theorem dI_find_20 : decode cI_find 20 = .ok (.lcmp, 1) := by decide +kernel
theorem dI_find_21 : decode cI_find 21 = .ok (.ifCond .ne 10, 3) := by decide +kernel
theorem dI_find_24 : decode cI_find 24 = .ok (.aload_n 0, 1) := by decide +kernel
theorem dI_find_25 : decode cI_find 25 = .ok (.getfield 11, 3) := by decide +kernel
theorem dI_find_28 : decode cI_find 28 = .ok (.iload_n 3, 1) := by decide +kernel
theorem dI_find_29 : decode cI_find 29 = .ok (.aaload, 1) := by decide +kernel
theorem dI_find_30 : decode cI_find 30 = .ok (.areturn, 1) := by decide +kernel
theorem dI_find_31 : decode cI_find 31 = .ok (.iinc 3 1, 3) := by decide +kernel
theorem dI_find_34 : decode cI_find 34 = .ok (.goto (-32), 3) := by decide +kernel
theorem dI_find_37 : decode cI_find 37 = .ok (.aconst_null, 1) := by decide +kernel
theorem dI_find_38 : decode cI_find 38 = .ok (.areturn, 1) := by decide +kernel
theorem dI_wipe_0 : decode cI_wipe 0 = .ok (.aload_n 0, 1) := by decide +kernel
theorem dI_wipe_1 : decode cI_wipe 1 = .ok (.iconst 0, 1) := by decide +kernel
theorem dI_wipe_2 : decode cI_wipe 2 = .ok (.invokevirtual 36, 3) := by decide +kernel
theorem dI_wipe_5 : decode cI_wipe 5 = .ok (.aload_n 0, 1) := by decide +kernel
theorem dI_wipe_6 : decode cI_wipe 6 = .ok (.getfield 17, 3) := by decide +kernel
theorem dI_wipe_9 : decode cI_wipe 9 = .ok (.iconst 0, 1) := by decide +kernel
theorem dI_wipe_10 : decode cI_wipe 10 = .ok (.invokestatic 47, 3) := by decide +kernel
theorem dI_wipe_13 : decode cI_wipe 13 = .ok (.return_, 1) := by decide +kernel
end
section
theorem dJ_copyOf_0 : decode cJ_copyOf 0 = .ok (.iload_n 1, 1) := by decide +kernel
theorem dJ_copyOf_1 : decode cJ_copyOf 1 = .ok (.aload_n 0, 1) := by decide +kernel
theorem dJ_copyOf_2 : decode cJ_copyOf 2 = .ok (.arraylength, 1) := by decide +kernel
theorem dJ_copyOf_3 : decode cJ_copyOf 3 = .ok (.if_icmp .ne 11, 3) := by decide +kernel
theorem dJ_copyOf_6 : decode cJ_copyOf 6 = .ok (.aload_n 0, 1) := by decide +kernel
theorem dJ_copyOf_7 : decode cJ_copyOf 7 = .ok (.invokevirtual 316, 3) := by decide +kernel
theorem dJ_copyOf_10 : decode cJ_copyOf 10 = .ok (.checkcast 317, 3) := by decide +kernel
theorem dJ_copyOf_13 : decode cJ_copyOf 13 = .ok (.areturn, 1) := by decide +kernel
theorem dJ_copyOf_14 : decode cJ_copyOf 14 = .ok (.iload_n 1, 1) := by decide +kernel
theorem dJ_copyOf_15 : decode cJ_copyOf 15 = .ok (.newarray .int, 2) := by decide +kernel
theorem dJ_copyOf_17 : decode cJ_copyOf 17 = .ok (.astore_n 2, 1) := by decide +kernel
theorem dJ_copyOf_18 : decode cJ_copyOf 18 = .ok (.aload_n 0, 1) := by decide +kernel
theorem dJ_copyOf_19 : decode cJ_copyOf 19 = .ok (.iconst 0, 1) := by decide +kernel
theorem dJ_copyOf_20 : decode cJ_copyOf 20 = .ok (.aload_n 2, 1) := by decide +kernel
theorem dJ_copyOf_21 : decode cJ_copyOf 21 = .ok (.iconst 0, 1) := by decide +kernel
theorem dJ_copyOf_22 : decode cJ_copyOf 22 = .ok (.aload_n 0, 1) := by decide +kernel
theorem dJ_copyOf_23 : decode cJ_copyOf 23 = .ok (.arraylength, 1) := by decide +kernel
theorem dJ_copyOf_24 : decode cJ_copyOf 24 = .ok (.iload_n 1, 1) := by decide +kernel
theorem dJ_copyOf_25 : decode cJ_copyOf 25 = .ok (.invokestatic 304, 3) := by decide +kernel
theorem dJ_copyOf_28 : decode cJ_copyOf 28 = .ok (.invokestatic 150, 3) := by decide +kernel
theorem dJ_copyOf_31 : decode cJ_copyOf 31 = .ok (.aload_n 2, 1) := by decide +kernel
theorem dJ_copyOf_32 : decode cJ_copyOf 32 = .ok (.areturn, 1) := by decide +kernel
theorem dJ_min_0 : decode cJ_min 0 = .ok (.iload_n 0, 1) := by decide +kernel
theorem dJ_min_1 : decode cJ_min 1 = .ok (.iload_n 1, 1) := by decide +kernel
theorem dJ_min_2 : decode cJ_min 2 = .ok (.if_icmp .gt 7, 3) := by decide +kernel
theorem dJ_min_5 : decode cJ_min 5 = .ok (.iload_n 0, 1) := by decide +kernel
theorem dJ_min_6 : decode cJ_min 6 = .ok (.goto 4, 3) := by decide +kernel
theorem dJ_min_9 : decode cJ_min 9 = .ok (.iload_n 1, 1) := by decide +kernel
theorem dJ_min_10 : decode cJ_min 10 = .ok (.ireturn, 1) := by decide +kernel
theorem dJ_fill_0 : decode cJ_fill 0 = .ok (.iconst 0, 1) := by decide +kernel
theorem dJ_fill_1 : decode cJ_fill 1 = .ok (.istore_n 2, 1) := by decide +kernel
theorem dJ_fill_2 : decode cJ_fill 2 = .ok (.aload_n 0, 1) := by decide +kernel
theorem dJ_fill_3 : decode cJ_fill 3 = .ok (.arraylength, 1) := by decide +kernel
theorem dJ_fill_4 : decode cJ_fill 4 = .ok (.istore_n 3, 1) := by decide +kernel
theorem dJ_fill_5 : decode cJ_fill 5 = .ok (.iload_n 2, 1) := by decide +kernel
theorem dJ_fill_6 : decode cJ_fill 6 = .ok (.iload_n 3, 1) := by decide +kernel
theorem dJ_fill_7 : decode cJ_fill 7 = .ok (.if_icmp .ge 13, 3) := by decide +kernel
theorem dJ_fill_10 : decode cJ_fill 10 = .ok (.aload_n 0, 1) := by decide +kernel
theorem dJ_fill_11 : decode cJ_fill 11 = .ok (.iload_n 2, 1) := by decide +kernel
theorem dJ_fill_12 : decode cJ_fill 12 = .ok (.iload_n 1, 1) := by decide +kernel
theorem dJ_fill_13 : decode cJ_fill 13 = .ok (.iastore, 1) := by decide +kernel
theorem dJ_fill_14 : decode cJ_fill 14 = .ok (.iinc 2 1, 3) := by decide +kernel
theorem dJ_fill_17 : decode cJ_fill 17 = .ok (.goto (-12), 3) := by decide +kernel
theorem dJ_fill_20 : decode cJ_fill 20 = .ok (.return_, 1) := by decide +kernel
end
section
theorem dM_init_0 : decode cM_init 0 = .ok (.aload_n 0, 1) := by decide +kernel
theorem dM_init_1 : decode cM_init 1 = .ok (.invokespecial 1, 3) := by decide +kernel
theorem dM_init_4 : decode cM_init 4 = .ok (.aload_n 0, 1) := by decide +kernel
theorem dM_init_5 : decode cM_init 5 = .ok (.iconst 1, 1) := by decide +kernel
theorem dM_init_6 : decode cM_init 6 = .ok (.putfield 7, 3) := by decide +kernel
theorem dM_init_9 : decode cM_init 9 = .ok (.aload_n 0, 1) := by decide +kernel
theorem dM_init_10 : decode cM_init 10 = .ok (.bipush 8, 2) := by decide +kernel
theorem dM_init_12 : decode cM_init 12 = .ok (.newarray .int, 2) := by decide +kernel
theorem dM_init_14 : decode cM_init 14 = .ok (.putfield 13, 3) := by decide +kernel
theorem dM_init_17 : decode cM_init 17 = .ok (.aload_n 0, 1) := by decide +kernel
theorem dM_init_18 : decode cM_init 18 = .ok (.bipush 8, 2) := by decide +kernel
theorem dM_init_20 : decode cM_init 20 = .ok (.newarray .int, 2) := by decide +kernel
theorem dM_init_22 : decode cM_init 22 = .ok (.putfield 17, 3) := by decide +kernel
theorem dM_init_25 : decode cM_init 25 = .ok (.aload_n 0, 1) := by decide +kernel
theorem dM_init_26 : decode cM_init 26 = .ok (.sipush 4096, 3) := by decide +kernel
theorem dM_init_29 : decode cM_init 29 = .ok (.newarray .long, 2) := by decide +kernel
theorem dM_init_31 : decode cM_init 31 = .ok (.putfield 20, 3) := by decide +kernel
theorem dM_init_34 : decode cM_init 34 = .ok (.aload_n 0, 1) := by decide +kernel
theorem dM_init_35 : decode cM_init 35 = .ok (.sipush 4096, 3) := by decide +kernel
theorem dM_init_38 : decode cM_init 38 = .ok (.newarray .int, 2) := by decide +kernel
theorem dM_init_40 : decode cM_init 40 = .ok (.putfield 24, 3) := by decide +kernel
theorem dM_init_43 : decode cM_init 43 = .ok (.aload_n 0, 1) := by decide +kernel
theorem dM_init_44 : decode cM_init 44 = .ok (.ldc 27, 2) := by decide +kernel
theorem dM_init_46 : decode cM_init 46 = .ok (.newarray .int, 2) := by decide +kernel
theorem dM_init_48 : decode cM_init 48 = .ok (.putfield 28, 3) := by decide +kernel
theorem dM_init_51 : decode cM_init 51 = .ok (.aload_n 0, 1) := by decide +kernel
theorem dM_init_52 : decode cM_init 52 = .ok (.sipush 4096, 3) := by decide +kernel
theorem dM_init_55 : decode cM_init 55 = .ok (.newarray .boolean, 2) := by decide +kernel
theorem dM_init_57 : decode cM_init 57 = .ok (.putfield 31, 3) := by decide +kernel
theorem dM_init_60 : decode cM_init 60 = .ok (.aload_n 0, 1) := by decide +kernel
theorem dM_init_61 : decode cM_init 61 = .ok (.sipush 4096, 3) := by decide +kernel
theorem dM_init_64 : decode cM_init 64 = .ok (.newarray .boolean, 2) := by decide +kernel
theorem dM_init_66 : decode cM_init 66 = .ok (.putfield 35, 3) := by decide +kernel
theorem dM_init_69 : decode cM_init 69 = .ok (.aload_n 0, 1) := by decide +kernel
theorem dM_init_70 : decode cM_init 70 = .ok (.sipush 4096, 3) := by decide +kernel
theorem dM_init_73 : decode cM_init 73 = .ok (.newarray .int, 2) := by decide +kernel
theorem dM_init_75 : decode cM_init 75 = .ok (.putfield 38, 3) := by decide +kernel
theorem dM_init_78 : decode cM_init 78 = .ok (.aload_n 0, 1) := by decide +kernel
theorem dM_init_79 : decode cM_init 79 = .ok (.sipush 4096, 3) := by decide +kernel
theorem dM_init_82 : decode cM_init 82 = .ok (.newarray .boolean, 2) := by decide +kernel
theorem dM_init_84 : decode cM_init 84 = .ok (.putfield 41, 3) := by decide +kernel
theorem dM_init_87 : decode cM_init 87 = .ok (.aload_n 0, 1) := by decide +kernel
theorem dM_init_88 : decode cM_init 88 = .ok (.bipush 97, 2) := by decide +kernel
theorem dM_init_90 : decode cM_init 90 = .ok (.newarray .int, 2) := by decide +kernel
theorem dM_init_92 : decode cM_init 92 = .ok (.putfield 44, 3) := by decide +kernel
theorem dM_init_95 : decode cM_init 95 = .ok (.aload_n 0, 1) := by decide +kernel
theorem dM_init_96 : decode cM_init 96 = .ok (.sipush 776, 3) := by decide +kernel
theorem dM_init_99 : decode cM_init 99 = .ok (.newarray .int, 2) := by decide +kernel
theorem dM_init_101 : decode cM_init 101 = .ok (.putfield 47, 3) := by decide +kernel
theorem dM_init_104 : decode cM_init 104 = .ok (.aload_n 0, 1) := by decide +kernel
theorem dM_init_105 : decode cM_init 105 = .ok (.sipush 4096, 3) := by decide +kernel
theorem dM_init_108 : decode cM_init 108 = .ok (.newarray .boolean, 2) := by decide +kernel
theorem dM_init_110 : decode cM_init 110 = .ok (.putfield 50, 3) := by decide +kernel
theorem dM_init_113 : decode cM_init 113 = .ok (.aload_n 0, 1) := by decide +kernel
theorem dM_init_114 : decode cM_init 114 = .ok (.sipush 300, 3) := by decide +kernel
theorem dM_init_117 : decode cM_init 117 = .ok (.newarray .int, 2) := by decide +kernel
theorem dM_init_119 : decode cM_init 119 = .ok (.putfield 53, 3) := by decide +kernel
theorem dM_init_122 : decode cM_init 122 = .ok (.aload_n 0, 1) := by decide +kernel
theorem dM_init_123 : decode cM_init 123 = .ok (.sipush 300, 3) := by decide +kernel
theorem dM_init_126 : decode cM_init 126 = .ok (.newarray .int, 2) := by decide +kernel
theorem dM_init_128 : decode cM_init 128 = .ok (.putfield 56, 3) := by decide +kernel
theorem dM_init_131 : decode cM_init 131 = .ok (.aload_n 0, 1) := by decide +kernel
theorem dM_init_132 : decode cM_init 132 = .ok (.bipush 64, 2) := by decide +kernel
theorem dM_init_134 : decode cM_init 134 = .ok (.newarray .boolean, 2) := by decide +kernel
theorem dM_init_136 : decode cM_init 136 = .ok (.putfield 59, 3) := by decide +kernel
theorem dM_init_139 : decode cM_init 139 = .ok (.aload_n 0, 1) := by decide +kernel
theorem dM_init_140 : decode cM_init 140 = .ok (.bipush 13, 2) := by decide +kernel
theorem dM_init_142 : decode cM_init 142 = .ok (.newarray .int, 2) := by decide +kernel
theorem dM_init_144 : decode cM_init 144 = .ok (.putfield 62, 3) := by decide +kernel
theorem dM_init_147 : decode cM_init 147 = .ok (.return_, 1) := by decide +kernel
theorem dM_thrown_0 : decode cM_thrown 0 = .ok (.aload_n 0, 1) := by decide +kernel
theorem dM_thrown_1 : decode cM_thrown 1 = .ok (.getfield 65, 3) := by decide +kernel
theorem dM_thrown_4 : decode cM_thrown 4 = .ok (.ireturn, 1) := by decide +kernel
theorem dM_word_0 : decode cM_word 0 = .ok (.aload_n 0, 1) := by decide +kernel
theorem dM_word_1 : decode cM_word 1 = .ok (.iconst 0, 1) := by decide +kernel
theorem dM_word_2 : decode cM_word 2 = .ok (.putfield 65, 3) := by decide +kernel
theorem dM_word_5 : decode cM_word 5 = .ok (.iload_n 1, 1) := by decide +kernel
theorem dM_word_6 : decode cM_word 6 = .ok (.iconst 0, 1) := by decide +kernel
theorem dM_word_7 : decode cM_word 7 = .ok (.bipush 7, 2) := by decide +kernel
theorem dM_word_9 : decode cM_word 9 = .ok (.invokestatic 165, 3) := by decide +kernel
theorem dM_word_12 : decode cM_word 12 = .ok (.ifCond .ne 9, 3) := by decide +kernel
theorem dM_word_15 : decode cM_word 15 = .ok (.aload_n 0, 1) := by decide +kernel
theorem dM_word_16 : decode cM_word 16 = .ok (.iconst 1, 1) := by decide +kernel
theorem dM_word_17 : decode cM_word 17 = .ok (.invokevirtual 169, 3) := by decide +kernel
theorem dM_word_20 : decode cM_word 20 = .ok (.ireturn, 1) := by decide +kernel
theorem dM_word_21 : decode cM_word 21 = .ok (.aload_n 0, 1) := by decide +kernel
theorem dM_word_22 : decode cM_word 22 = .ok (.getfield 13, 3) := by decide +kernel
theorem dM_word_25 : decode cM_word 25 = .ok (.iload_n 1, 1) := by decide +kernel
theorem dM_word_26 : decode cM_word 26 = .ok (.iaload, 1) := by decide +kernel
theorem dM_word_27 : decode cM_word 27 = .ok (.istore_n 3, 1) := by decide +kernel
theorem dM_word_28 : decode cM_word 28 = .ok (.aload_n 0, 1) := by decide +kernel
theorem dM_word_29 : decode cM_word 29 = .ok (.getfield 13, 3) := by decide +kernel
theorem dM_word_32 : decode cM_word 32 = .ok (.iload_n 1, 1) := by decide +kernel
theorem dM_word_33 : decode cM_word 33 = .ok (.iload_n 2, 1) := by decide +kernel
theorem dM_word_34 : decode cM_word 34 = .ok (.iastore, 1) := by decide +kernel
theorem dM_word_35 : decode cM_word 35 = .ok (.iload_n 3, 1) := by decide +kernel
theorem dM_word_36 : decode cM_word 36 = .ok (.ireturn, 1) := by decide +kernel
theorem dM_within_0 : decode cM_within 0 = .ok (.iload_n 0, 1) := by decide +kernel
theorem dM_within_1 : decode cM_within 1 = .ok (.iload_n 1, 1) := by decide +kernel
theorem dM_within_2 : decode cM_within 2 = .ok (.if_icmp .lt 12, 3) := by decide +kernel
theorem dM_within_5 : decode cM_within 5 = .ok (.iload_n 0, 1) := by decide +kernel
theorem dM_within_6 : decode cM_within 6 = .ok (.iload_n 2, 1) := by decide +kernel
theorem dM_within_7 : decode cM_within 7 = .ok (.if_icmp .gt 7, 3) := by decide +kernel
theorem dM_within_10 : decode cM_within 10 = .ok (.iconst 1, 1) := by decide +kernel
theorem dM_within_11 : decode cM_within 11 = .ok (.goto 4, 3) := by decide +kernel
theorem dM_within_14 : decode cM_within 14 = .ok (.iconst 0, 1) := by decide +kernel
theorem dM_within_15 : decode cM_within 15 = .ok (.ireturn, 1) := by decide +kernel
theorem dM_fail_0 : decode cM_fail 0 = .ok (.aload_n 0, 1) := by decide +kernel
theorem dM_fail_1 : decode cM_fail 1 = .ok (.iload_n 1, 1) := by decide +kernel
theorem dM_fail_2 : decode cM_fail 2 = .ok (.putfield 65, 3) := by decide +kernel
theorem dM_fail_5 : decode cM_fail 5 = .ok (.iconst 0, 1) := by decide +kernel
theorem dM_fail_6 : decode cM_fail 6 = .ok (.ireturn, 1) := by decide +kernel
theorem dM_put_0 : decode cM_put 0 = .ok (.aload_n 0, 1) := by decide +kernel
theorem dM_put_1 : decode cM_put 1 = .ok (.invokevirtual 172, 3) := by decide +kernel
theorem dM_put_4 : decode cM_put 4 = .ok (.ifCond .ne 4, 3) := by decide +kernel
theorem dM_put_7 : decode cM_put 7 = .ok (.return_, 1) := by decide +kernel
theorem dM_put_8 : decode cM_put 8 = .ok (.iload_n 3, 1) := by decide +kernel
theorem dM_put_9 : decode cM_put 9 = .ok (.iconst 1, 1) := by decide +kernel
theorem dM_put_10 : decode cM_put 10 = .ok (.bipush 8, 2) := by decide +kernel
theorem dM_put_12 : decode cM_put 12 = .ok (.invokestatic 165, 3) := by decide +kernel
theorem dM_put_15 : decode cM_put 15 = .ok (.ifCond .ne 9, 3) := by decide +kernel
theorem dM_put_18 : decode cM_put 18 = .ok (.aload_n 0, 1) := by decide +kernel
theorem dM_put_19 : decode cM_put 19 = .ok (.iconst 2, 1) := by decide +kernel
theorem dM_put_20 : decode cM_put 20 = .ok (.putfield 65, 3) := by decide +kernel
theorem dM_put_23 : decode cM_put 23 = .ok (.return_, 1) := by decide +kernel
theorem dM_put_24 : decode cM_put 24 = .ok (.aload_n 0, 1) := by decide +kernel
theorem dM_put_25 : decode cM_put 25 = .ok (.iconst 0, 1) := by decide +kernel
theorem dM_put_26 : decode cM_put 26 = .ok (.putfield 83, 3) := by decide +kernel
theorem dM_put_29 : decode cM_put 29 = .ok (.aload_n 0, 1) := by decide +kernel
theorem dM_put_30 : decode cM_put 30 = .ok (.iconst 0, 1) := by decide +kernel
theorem dM_put_31 : decode cM_put 31 = .ok (.putfield 86, 3) := by decide +kernel
theorem dM_put_34 : decode cM_put 34 = .ok (.aload_n 0, 1) := by decide +kernel
theorem dM_put_35 : decode cM_put 35 = .ok (.bipush 96, 2) := by decide +kernel
theorem dM_put_37 : decode cM_put 37 = .ok (.invokevirtual 122, 3) := by decide +kernel
theorem dM_put_40 : decode cM_put 40 = .ok (.iload_n 3, 1) := by decide +kernel
theorem dM_put_41 : decode cM_put 41 = .ok (.iadd, 1) := by decide +kernel
theorem dM_put_42 : decode cM_put 42 = .ok (.iconst 3, 1) := by decide +kernel
theorem dM_put_43 : decode cM_put 43 = .ok (.iadd, 1) := by decide +kernel
theorem dM_put_44 : decode cM_put 44 = .ok (.bipush 32, 2) := by decide +kernel
theorem dM_put_46 : decode cM_put 46 = .ok (.if_icmp .le 10, 3) := by decide +kernel
theorem dM_put_49 : decode cM_put 49 = .ok (.aload_n 0, 1) := by decide +kernel
theorem dM_put_50 : decode cM_put 50 = .ok (.invokevirtual 176, 3) := by decide +kernel
theorem dM_put_53 : decode cM_put 53 = .ok (.goto (-19), 3) := by decide +kernel
theorem dM_put_56 : decode cM_put 56 = .ok (.aload_n 0, 1) := by decide +kernel
theorem dM_put_57 : decode cM_put 57 = .ok (.invokevirtual 153, 3) := by decide +kernel
theorem dM_put_60 : decode cM_put 60 = .ok (.istore 4, 2) := by decide +kernel
theorem dM_put_62 : decode cM_put 62 = .ok (.aload_n 0, 1) := by decide +kernel
theorem dM_put_63 : decode cM_put 63 = .ok (.getfield 20, 3) := by decide +kernel
theorem dM_put_66 : decode cM_put 66 = .ok (.iload 4, 2) := by decide +kernel
theorem dM_put_68 : decode cM_put 68 = .ok (.lload_n 1, 1) := by decide +kernel
theorem dM_put_69 : decode cM_put 69 = .ok (.lastore, 1) := by decide +kernel
theorem dM_put_70 : decode cM_put 70 = .ok (.aload_n 0, 1) := by decide +kernel
theorem dM_put_71 : decode cM_put 71 = .ok (.getfield 24, 3) := by decide +kernel
theorem dM_put_74 : decode cM_put 74 = .ok (.iload 4, 2) := by decide +kernel
theorem dM_put_76 : decode cM_put 76 = .ok (.iload_n 3, 1) := by decide +kernel
theorem dM_put_77 : decode cM_put 77 = .ok (.iastore, 1) := by decide +kernel
theorem dM_put_78 : decode cM_put 78 = .ok (.iconst 0, 1) := by decide +kernel
theorem dM_put_79 : decode cM_put 79 = .ok (.istore 5, 2) := by decide +kernel
theorem dM_put_81 : decode cM_put 81 = .ok (.iload 5, 2) := by decide +kernel
theorem dM_put_83 : decode cM_put 83 = .ok (.bipush 8, 2) := by decide +kernel
theorem dM_put_85 : decode cM_put 85 = .ok (.if_icmp .ge 39, 3) := by decide +kernel
theorem dM_put_88 : decode cM_put 88 = .ok (.aload_n 0, 1) := by decide +kernel
theorem dM_put_89 : decode cM_put 89 = .ok (.getfield 28, 3) := by decide +kernel
theorem dM_put_92 : decode cM_put 92 = .ok (.bipush 8, 2) := by decide +kernel
theorem dM_put_94 : decode cM_put 94 = .ok (.iload 4, 2) := by decide +kernel
theorem dM_put_96 : decode cM_put 96 = .ok (.imul, 1) := by decide +kernel
theorem dM_put_97 : decode cM_put 97 = .ok (.iload 5, 2) := by decide +kernel
theorem dM_put_99 : decode cM_put 99 = .ok (.iadd, 1) := by decide +kernel
theorem dM_put_100 : decode cM_put 100 = .ok (.iload 5, 2) := by decide +kernel
theorem dM_put_102 : decode cM_put 102 = .ok (.iload_n 3, 1) := by decide +kernel
theorem dM_put_103 : decode cM_put 103 = .ok (.if_icmp .ge 13, 3) := by decide +kernel
theorem dM_put_106 : decode cM_put 106 = .ok (.aload_n 0, 1) := by decide +kernel
theorem dM_put_107 : decode cM_put 107 = .ok (.getfield 13, 3) := by decide +kernel
theorem dM_put_110 : decode cM_put 110 = .ok (.iload 5, 2) := by decide +kernel
theorem dM_put_112 : decode cM_put 112 = .ok (.iaload, 1) := by decide +kernel
theorem dM_put_113 : decode cM_put 113 = .ok (.goto 4, 3) := by decide +kernel
theorem dM_put_116 : decode cM_put 116 = .ok (.iconst 0, 1) := by decide +kernel
theorem dM_put_117 : decode cM_put 117 = .ok (.iastore, 1) := by decide +kernel
theorem dM_put_118 : decode cM_put 118 = .ok (.iinc 5 1, 3) := by decide +kernel
theorem dM_put_121 : decode cM_put 121 = .ok (.goto (-40), 3) := by decide +kernel
theorem dM_put_124 : decode cM_put 124 = .ok (.aload_n 0, 1) := by decide +kernel
theorem dM_put_125 : decode cM_put 125 = .ok (.getfield 31, 3) := by decide +kernel
theorem dM_put_128 : decode cM_put 128 = .ok (.iload 4, 2) := by decide +kernel
theorem dM_put_130 : decode cM_put 130 = .ok (.iconst 0, 1) := by decide +kernel
theorem dM_put_131 : decode cM_put 131 = .ok (.bastore, 1) := by decide +kernel
theorem dM_put_132 : decode cM_put 132 = .ok (.aload_n 0, 1) := by decide +kernel
theorem dM_put_133 : decode cM_put 133 = .ok (.getfield 41, 3) := by decide +kernel
theorem dM_put_136 : decode cM_put 136 = .ok (.iload 4, 2) := by decide +kernel
theorem dM_put_138 : decode cM_put 138 = .ok (.iconst 0, 1) := by decide +kernel
theorem dM_put_139 : decode cM_put 139 = .ok (.bastore, 1) := by decide +kernel
theorem dM_put_140 : decode cM_put 140 = .ok (.aload_n 0, 1) := by decide +kernel
theorem dM_put_141 : decode cM_put 141 = .ok (.iload 4, 2) := by decide +kernel
theorem dM_put_143 : decode cM_put 143 = .ok (.invokevirtual 125, 3) := by decide +kernel
theorem dM_put_146 : decode cM_put 146 = .ok (.return_, 1) := by decide +kernel
theorem dM_works_0 : decode cM_works 0 = .ok (.aload_n 0, 1) := by decide +kernel
theorem dM_works_1 : decode cM_works 1 = .ok (.aload_n 0, 1) := by decide +kernel
theorem dM_works_2 : decode cM_works 2 = .ok (.getfield 7, 3) := by decide +kernel
theorem dM_works_5 : decode cM_works 5 = .ok (.ifCond .eq 7, 3) := by decide +kernel
theorem dM_works_8 : decode cM_works 8 = .ok (.iconst 0, 1) := by decide +kernel
theorem dM_works_9 : decode cM_works 9 = .ok (.goto 4, 3) := by decide +kernel
theorem dM_works_12 : decode cM_works 12 = .ok (.iconst 1, 1) := by decide +kernel
theorem dM_works_13 : decode cM_works 13 = .ok (.putfield 65, 3) := by decide +kernel
theorem dM_works_16 : decode cM_works 16 = .ok (.aload_n 0, 1) := by decide +kernel
theorem dM_works_17 : decode cM_works 17 = .ok (.getfield 7, 3) := by decide +kernel
theorem dM_works_20 : decode cM_works 20 = .ok (.ireturn, 1) := by decide +kernel
theorem dM_wordsOf_0 : decode cM_wordsOf 0 = .ok (.iconst 0, 1) := by decide +kernel
theorem dM_wordsOf_1 : decode cM_wordsOf 1 = .ok (.istore_n 2, 1) := by decide +kernel
theorem dM_wordsOf_2 : decode cM_wordsOf 2 = .ok (.iconst 0, 1) := by decide +kernel
theorem dM_wordsOf_3 : decode cM_wordsOf 3 = .ok (.istore_n 3, 1) := by decide +kernel
theorem dM_wordsOf_4 : decode cM_wordsOf 4 = .ok (.iload_n 3, 1) := by decide +kernel
theorem dM_wordsOf_5 : decode cM_wordsOf 5 = .ok (.aload_n 0, 1) := by decide +kernel
theorem dM_wordsOf_6 : decode cM_wordsOf 6 = .ok (.getfield 44, 3) := by decide +kernel
theorem dM_wordsOf_9 : decode cM_wordsOf 9 = .ok (.iload_n 1, 1) := by decide +kernel
theorem dM_wordsOf_10 : decode cM_wordsOf 10 = .ok (.iaload, 1) := by decide +kernel
theorem dM_wordsOf_11 : decode cM_wordsOf 11 = .ok (.if_icmp .ge 27, 3) := by decide +kernel
theorem dM_wordsOf_14 : decode cM_wordsOf 14 = .ok (.iload_n 2, 1) := by decide +kernel
theorem dM_wordsOf_15 : decode cM_wordsOf 15 = .ok (.aload_n 0, 1) := by decide +kernel
theorem dM_wordsOf_16 : decode cM_wordsOf 16 = .ok (.aload_n 0, 1) := by decide +kernel
theorem dM_wordsOf_17 : decode cM_wordsOf 17 = .ok (.getfield 47, 3) := by decide +kernel
theorem dM_wordsOf_20 : decode cM_wordsOf 20 = .ok (.bipush 8, 2) := by decide +kernel
theorem dM_wordsOf_22 : decode cM_wordsOf 22 = .ok (.iload_n 1, 1) := by decide +kernel
theorem dM_wordsOf_23 : decode cM_wordsOf 23 = .ok (.imul, 1) := by decide +kernel
theorem dM_wordsOf_24 : decode cM_wordsOf 24 = .ok (.iload_n 3, 1) := by decide +kernel
theorem dM_wordsOf_25 : decode cM_wordsOf 25 = .ok (.iadd, 1) := by decide +kernel
theorem dM_wordsOf_26 : decode cM_wordsOf 26 = .ok (.iaload, 1) := by decide +kernel
theorem dM_wordsOf_27 : decode cM_wordsOf 27 = .ok (.invokevirtual 79, 3) := by decide +kernel
theorem dM_wordsOf_30 : decode cM_wordsOf 30 = .ok (.iadd, 1) := by decide +kernel
theorem dM_wordsOf_31 : decode cM_wordsOf 31 = .ok (.istore_n 2, 1) := by decide +kernel
theorem dM_wordsOf_32 : decode cM_wordsOf 32 = .ok (.iinc 3 1, 3) := by decide +kernel
theorem dM_wordsOf_35 : decode cM_wordsOf 35 = .ok (.goto (-31), 3) := by decide +kernel
theorem dM_wordsOf_38 : decode cM_wordsOf 38 = .ok (.iload_n 2, 1) := by decide +kernel
theorem dM_wordsOf_39 : decode cM_wordsOf 39 = .ok (.ireturn, 1) := by decide +kernel
theorem dM_need_0 : decode cM_need 0 = .ok (.aload_n 0, 1) := by decide +kernel
theorem dM_need_1 : decode cM_need 1 = .ok (.getfield 24, 3) := by decide +kernel
theorem dM_need_4 : decode cM_need 4 = .ok (.iload_n 1, 1) := by decide +kernel
theorem dM_need_5 : decode cM_need 5 = .ok (.iaload, 1) := by decide +kernel
theorem dM_need_6 : decode cM_need 6 = .ok (.iconst 3, 1) := by decide +kernel
theorem dM_need_7 : decode cM_need 7 = .ok (.iadd, 1) := by decide +kernel
theorem dM_need_8 : decode cM_need 8 = .ok (.ireturn, 1) := by decide +kernel
theorem dM_makeRoom_0 : decode cM_makeRoom 0 = .ok (.bipush 64, 2) := by decide +kernel
theorem dM_makeRoom_2 : decode cM_makeRoom 2 = .ok (.aload_n 0, 1) := by decide +kernel
theorem dM_makeRoom_3 : decode cM_makeRoom 3 = .ok (.getfield 96, 3) := by decide +kernel
theorem dM_makeRoom_6 : decode cM_makeRoom 6 = .ok (.bipush 32, 2) := by decide +kernel
theorem dM_makeRoom_8 : decode cM_makeRoom 8 = .ok (.irem, 1) := by decide +kernel
theorem dM_makeRoom_9 : decode cM_makeRoom 9 = .ok (.iadd, 1) := by decide +kernel
theorem dM_makeRoom_10 : decode cM_makeRoom 10 = .ok (.istore_n 1, 1) := by decide +kernel
theorem dM_makeRoom_11 : decode cM_makeRoom 11 = .ok (.aload_n 0, 1) := by decide +kernel
theorem dM_makeRoom_12 : decode cM_makeRoom 12 = .ok (.iconst 0, 1) := by decide +kernel
theorem dM_makeRoom_13 : decode cM_makeRoom 13 = .ok (.putfield 86, 3) := by decide +kernel
theorem dM_makeRoom_16 : decode cM_makeRoom 16 = .ok (.aload_n 0, 1) := by decide +kernel
theorem dM_makeRoom_17 : decode cM_makeRoom 17 = .ok (.getfield 96, 3) := by decide +kernel
theorem dM_makeRoom_20 : decode cM_makeRoom 20 = .ok (.iconst 4, 1) := by decide +kernel
theorem dM_makeRoom_21 : decode cM_makeRoom 21 = .ok (.irem, 1) := by decide +kernel
theorem dM_makeRoom_22 : decode cM_makeRoom 22 = .ok (.ifCond .ne 17, 3) := by decide +kernel
theorem dM_makeRoom_25 : decode cM_makeRoom 25 = .ok (.aload_n 0, 1) := by decide +kernel
theorem dM_makeRoom_26 : decode cM_makeRoom 26 = .ok (.getfield 96, 3) := by decide +kernel
theorem dM_makeRoom_29 : decode cM_makeRoom 29 = .ok (.bipush 32, 2) := by decide +kernel
theorem dM_makeRoom_31 : decode cM_makeRoom 31 = .ok (.if_icmp .lt 8, 3) := by decide +kernel
theorem dM_makeRoom_34 : decode cM_makeRoom 34 = .ok (.aload_n 0, 1) := by decide +kernel
theorem dM_makeRoom_35 : decode cM_makeRoom 35 = .ok (.iload_n 1, 1) := by decide +kernel
theorem dM_makeRoom_36 : decode cM_makeRoom 36 = .ok (.invokevirtual 109, 3) := by decide +kernel
theorem dM_makeRoom_39 : decode cM_makeRoom 39 = .ok (.aload_n 0, 1) := by decide +kernel
theorem dM_makeRoom_40 : decode cM_makeRoom 40 = .ok (.invokevirtual 113, 3) := by decide +kernel
theorem dM_makeRoom_43 : decode cM_makeRoom 43 = .ok (.aload_n 0, 1) := by decide +kernel
theorem dM_makeRoom_44 : decode cM_makeRoom 44 = .ok (.getfield 86, 3) := by decide +kernel
theorem dM_makeRoom_47 : decode cM_makeRoom 47 = .ok (.istore_n 2, 1) := by decide +kernel
theorem dM_makeRoom_48 : decode cM_makeRoom 48 = .ok (.aload_n 0, 1) := by decide +kernel
theorem dM_makeRoom_49 : decode cM_makeRoom 49 = .ok (.invokevirtual 116, 3) := by decide +kernel
theorem dM_makeRoom_52 : decode cM_makeRoom 52 = .ok (.iconst 0, 1) := by decide +kernel
theorem dM_makeRoom_53 : decode cM_makeRoom 53 = .ok (.istore_n 3, 1) := by decide +kernel
theorem dM_makeRoom_54 : decode cM_makeRoom 54 = .ok (.iload_n 3, 1) := by decide +kernel
theorem dM_makeRoom_55 : decode cM_makeRoom 55 = .ok (.iload_n 2, 1) := by decide +kernel
theorem dM_makeRoom_56 : decode cM_makeRoom 56 = .ok (.if_icmp .ge 19, 3) := by decide +kernel
theorem dM_makeRoom_59 : decode cM_makeRoom 59 = .ok (.aload_n 0, 1) := by decide +kernel
theorem dM_makeRoom_60 : decode cM_makeRoom 60 = .ok (.aload_n 0, 1) := by decide +kernel
theorem dM_makeRoom_61 : decode cM_makeRoom 61 = .ok (.getfield 56, 3) := by decide +kernel
theorem dM_makeRoom_64 : decode cM_makeRoom 64 = .ok (.iload_n 3, 1) := by decide +kernel
theorem dM_makeRoom_65 : decode cM_makeRoom 65 = .ok (.iaload, 1) := by decide +kernel
theorem dM_makeRoom_66 : decode cM_makeRoom 66 = .ok (.invokevirtual 119, 3) := by decide +kernel
theorem dM_makeRoom_69 : decode cM_makeRoom 69 = .ok (.iinc 3 1, 3) := by decide +kernel
theorem dM_makeRoom_72 : decode cM_makeRoom 72 = .ok (.goto (-18), 3) := by decide +kernel
theorem dM_makeRoom_75 : decode cM_makeRoom 75 = .ok (.aload_n 0, 1) := by decide +kernel
theorem dM_makeRoom_76 : decode cM_makeRoom 76 = .ok (.iconst 0, 1) := by decide +kernel
theorem dM_makeRoom_77 : decode cM_makeRoom 77 = .ok (.putfield 86, 3) := by decide +kernel
theorem dM_makeRoom_80 : decode cM_makeRoom 80 = .ok (.return_, 1) := by decide +kernel
theorem dM_empty_0 : decode cM_empty 0 = .ok (.iconst 0, 1) := by decide +kernel
theorem dM_empty_1 : decode cM_empty 1 = .ok (.istore_n 2, 1) := by decide +kernel
theorem dM_empty_2 : decode cM_empty 2 = .ok (.iload_n 2, 1) := by decide +kernel
theorem dM_empty_3 : decode cM_empty 3 = .ok (.bipush 64, 2) := by decide +kernel
theorem dM_empty_5 : decode cM_empty 5 = .ok (.if_icmp .ge 16, 3) := by decide +kernel
theorem dM_empty_8 : decode cM_empty 8 = .ok (.aload_n 0, 1) := by decide +kernel
theorem dM_empty_9 : decode cM_empty 9 = .ok (.getfield 59, 3) := by decide +kernel
theorem dM_empty_12 : decode cM_empty 12 = .ok (.iload_n 2, 1) := by decide +kernel
theorem dM_empty_13 : decode cM_empty 13 = .ok (.iconst 0, 1) := by decide +kernel
theorem dM_empty_14 : decode cM_empty 14 = .ok (.bastore, 1) := by decide +kernel
theorem dM_empty_15 : decode cM_empty 15 = .ok (.iinc 2 1, 3) := by decide +kernel
theorem dM_empty_18 : decode cM_empty 18 = .ok (.goto (-16), 3) := by decide +kernel
theorem dM_empty_21 : decode cM_empty 21 = .ok (.iload_n 1, 1) := by decide +kernel
theorem dM_empty_22 : decode cM_empty 22 = .ok (.istore_n 2, 1) := by decide +kernel
theorem dM_empty_23 : decode cM_empty 23 = .ok (.iload_n 2, 1) := by decide +kernel
theorem dM_empty_24 : decode cM_empty 24 = .ok (.iload_n 1, 1) := by decide +kernel
theorem dM_empty_25 : decode cM_empty 25 = .ok (.iconst 4, 1) := by decide +kernel
theorem dM_empty_26 : decode cM_empty 26 = .ok (.iadd, 1) := by decide +kernel
theorem dM_empty_27 : decode cM_empty 27 = .ok (.if_icmp .ge 71, 3) := by decide +kernel
theorem dM_empty_30 : decode cM_empty 30 = .ok (.iconst 0, 1) := by decide +kernel
theorem dM_empty_31 : decode cM_empty 31 = .ok (.istore_n 3, 1) := by decide +kernel
theorem dM_empty_32 : decode cM_empty 32 = .ok (.iload_n 3, 1) := by decide +kernel
theorem dM_empty_33 : decode cM_empty 33 = .ok (.aload_n 0, 1) := by decide +kernel
theorem dM_empty_34 : decode cM_empty 34 = .ok (.getfield 44, 3) := by decide +kernel
theorem dM_empty_37 : decode cM_empty 37 = .ok (.iload_n 2, 1) := by decide +kernel
theorem dM_empty_38 : decode cM_empty 38 = .ok (.iaload, 1) := by decide +kernel
theorem dM_empty_39 : decode cM_empty 39 = .ok (.if_icmp .ge 53, 3) := by decide +kernel
theorem dM_empty_42 : decode cM_empty 42 = .ok (.aload_n 0, 1) := by decide +kernel
theorem dM_empty_43 : decode cM_empty 43 = .ok (.getfield 31, 3) := by decide +kernel
theorem dM_empty_46 : decode cM_empty 46 = .ok (.aload_n 0, 1) := by decide +kernel
theorem dM_empty_47 : decode cM_empty 47 = .ok (.getfield 47, 3) := by decide +kernel
theorem dM_empty_50 : decode cM_empty 50 = .ok (.bipush 8, 2) := by decide +kernel
theorem dM_empty_52 : decode cM_empty 52 = .ok (.iload_n 2, 1) := by decide +kernel
theorem dM_empty_53 : decode cM_empty 53 = .ok (.imul, 1) := by decide +kernel
theorem dM_empty_54 : decode cM_empty 54 = .ok (.iload_n 3, 1) := by decide +kernel
theorem dM_empty_55 : decode cM_empty 55 = .ok (.iadd, 1) := by decide +kernel
theorem dM_empty_56 : decode cM_empty 56 = .ok (.iaload, 1) := by decide +kernel
theorem dM_empty_57 : decode cM_empty 57 = .ok (.baload, 1) := by decide +kernel
theorem dM_empty_58 : decode cM_empty 58 = .ok (.ifCond .eq 28, 3) := by decide +kernel
theorem dM_empty_61 : decode cM_empty 61 = .ok (.aload_n 0, 1) := by decide +kernel
theorem dM_empty_62 : decode cM_empty 62 = .ok (.getfield 59, 3) := by decide +kernel
theorem dM_empty_65 : decode cM_empty 65 = .ok (.aload_n 0, 1) := by decide +kernel
theorem dM_empty_66 : decode cM_empty 66 = .ok (.getfield 20, 3) := by decide +kernel
theorem dM_empty_69 : decode cM_empty 69 = .ok (.aload_n 0, 1) := by decide +kernel
theorem dM_empty_70 : decode cM_empty 70 = .ok (.getfield 47, 3) := by decide +kernel
theorem dM_empty_73 : decode cM_empty 73 = .ok (.bipush 8, 2) := by decide +kernel
theorem dM_empty_75 : decode cM_empty 75 = .ok (.iload_n 2, 1) := by decide +kernel
theorem dM_empty_76 : decode cM_empty 76 = .ok (.imul, 1) := by decide +kernel
theorem dM_empty_77 : decode cM_empty 77 = .ok (.iload_n 3, 1) := by decide +kernel
theorem dM_empty_78 : decode cM_empty 78 = .ok (.iadd, 1) := by decide +kernel
theorem dM_empty_79 : decode cM_empty 79 = .ok (.iaload, 1) := by decide +kernel
theorem dM_empty_80 : decode cM_empty 80 = .ok (.laload, 1) := by decide +kernel
theorem dM_empty_81 : decode cM_empty 81 = .ok (.invokestatic 89, 3) := by decide +kernel
theorem dM_empty_84 : decode cM_empty 84 = .ok (.iconst 1, 1) := by decide +kernel
theorem dM_empty_85 : decode cM_empty 85 = .ok (.bastore, 1) := by decide +kernel
theorem dM_empty_86 : decode cM_empty 86 = .ok (.iinc 3 1, 3) := by decide +kernel
theorem dM_empty_89 : decode cM_empty 89 = .ok (.goto (-57), 3) := by decide +kernel
theorem dM_empty_92 : decode cM_empty 92 = .ok (.iinc 2 1, 3) := by decide +kernel
theorem dM_empty_95 : decode cM_empty 95 = .ok (.goto (-72), 3) := by decide +kernel
theorem dM_empty_98 : decode cM_empty 98 = .ok (.iconst 0, 1) := by decide +kernel
theorem dM_empty_99 : decode cM_empty 99 = .ok (.istore_n 2, 1) := by decide +kernel
theorem dM_empty_100 : decode cM_empty 100 = .ok (.iload_n 2, 1) := by decide +kernel
theorem dM_empty_101 : decode cM_empty 101 = .ok (.bipush 64, 2) := by decide +kernel
theorem dM_empty_103 : decode cM_empty 103 = .ok (.if_icmp .ge 50, 3) := by decide +kernel
theorem dM_empty_106 : decode cM_empty 106 = .ok (.aload_n 0, 1) := by decide +kernel
theorem dM_empty_107 : decode cM_empty 107 = .ok (.getfield 59, 3) := by decide +kernel
theorem dM_empty_110 : decode cM_empty 110 = .ok (.iload_n 2, 1) := by decide +kernel
theorem dM_empty_111 : decode cM_empty 111 = .ok (.baload, 1) := by decide +kernel
theorem dM_empty_112 : decode cM_empty 112 = .ok (.ifCond .eq 35, 3) := by decide +kernel
theorem dM_empty_115 : decode cM_empty 115 = .ok (.aload_n 0, 1) := by decide +kernel
theorem dM_empty_116 : decode cM_empty 116 = .ok (.iload_n 2, 1) := by decide +kernel
theorem dM_empty_117 : decode cM_empty 117 = .ok (.invokevirtual 128, 3) := by decide +kernel
theorem dM_empty_120 : decode cM_empty 120 = .ok (.aload_n 0, 1) := by decide +kernel
theorem dM_empty_121 : decode cM_empty 121 = .ok (.getfield 83, 3) := by decide +kernel
theorem dM_empty_124 : decode cM_empty 124 = .ok (.iconst 1, 1) := by decide +kernel
theorem dM_empty_125 : decode cM_empty 125 = .ok (.if_icmp .le 11, 3) := by decide +kernel
theorem dM_empty_128 : decode cM_empty 128 = .ok (.aload_n 0, 1) := by decide +kernel
theorem dM_empty_129 : decode cM_empty 129 = .ok (.iload_n 2, 1) := by decide +kernel
theorem dM_empty_130 : decode cM_empty 130 = .ok (.invokevirtual 131, 3) := by decide +kernel
theorem dM_empty_133 : decode cM_empty 133 = .ok (.goto 14, 3) := by decide +kernel
theorem dM_empty_136 : decode cM_empty 136 = .ok (.aload_n 0, 1) := by decide +kernel
theorem dM_empty_137 : decode cM_empty 137 = .ok (.iload_n 2, 1) := by decide +kernel
theorem dM_empty_138 : decode cM_empty 138 = .ok (.aload_n 0, 1) := by decide +kernel
theorem dM_empty_139 : decode cM_empty 139 = .ok (.getfield 53, 3) := by decide +kernel
theorem dM_empty_142 : decode cM_empty 142 = .ok (.iconst 0, 1) := by decide +kernel
theorem dM_empty_143 : decode cM_empty 143 = .ok (.iaload, 1) := by decide +kernel
theorem dM_empty_144 : decode cM_empty 144 = .ok (.invokevirtual 134, 3) := by decide +kernel
theorem dM_empty_147 : decode cM_empty 147 = .ok (.iinc 2 1, 3) := by decide +kernel
theorem dM_empty_150 : decode cM_empty 150 = .ok (.goto (-50), 3) := by decide +kernel
theorem dM_empty_153 : decode cM_empty 153 = .ok (.aload_n 0, 1) := by decide +kernel
theorem dM_empty_154 : decode cM_empty 154 = .ok (.iconst 0, 1) := by decide +kernel
theorem dM_empty_155 : decode cM_empty 155 = .ok (.putfield 83, 3) := by decide +kernel
theorem dM_empty_158 : decode cM_empty 158 = .ok (.return_, 1) := by decide +kernel
theorem dM_setOfKey_0 : decode cM_setOfKey 0 = .ok (.lload_n 0, 1) := by decide +kernel
theorem dM_setOfKey_1 : decode cM_setOfKey 1 = .ok (.invokestatic 73, 3) := by decide +kernel
theorem dM_setOfKey_4 : decode cM_setOfKey 4 = .ok (.bipush 58, 2) := by decide +kernel
theorem dM_setOfKey_6 : decode cM_setOfKey 6 = .ok (.lushr, 1) := by decide +kernel
theorem dM_setOfKey_7 : decode cM_setOfKey 7 = .ok (.l2i, 1) := by decide +kernel
theorem dM_setOfKey_8 : decode cM_setOfKey 8 = .ok (.ireturn, 1) := by decide +kernel
theorem dM_mixed_0 : decode cM_mixed 0 = .ok (.lload_n 0, 1) := by decide +kernel
theorem dM_mixed_1 : decode cM_mixed 1 = .ok (.lload_n 0, 1) := by decide +kernel
theorem dM_mixed_2 : decode cM_mixed 2 = .ok (.bipush 30, 2) := by decide +kernel
theorem dM_mixed_4 : decode cM_mixed 4 = .ok (.lushr, 1) := by decide +kernel
theorem dM_mixed_5 : decode cM_mixed 5 = .ok (.lxor, 1) := by decide +kernel
theorem dM_mixed_6 : decode cM_mixed 6 = .ok (.lstore_n 2, 1) := by decide +kernel
theorem dM_mixed_7 : decode cM_mixed 7 = .ok (.lload_n 2, 1) := by decide +kernel
theorem dM_mixed_8 : decode cM_mixed 8 = .ok (.ldc2_w 69, 3) := by decide +kernel
theorem dM_mixed_11 : decode cM_mixed 11 = .ok (.lmul, 1) := by decide +kernel
theorem dM_mixed_12 : decode cM_mixed 12 = .ok (.lstore_n 2, 1) := by decide +kernel
theorem dM_mixed_13 : decode cM_mixed 13 = .ok (.lload_n 2, 1) := by decide +kernel
theorem dM_mixed_14 : decode cM_mixed 14 = .ok (.lload_n 2, 1) := by decide +kernel
theorem dM_mixed_15 : decode cM_mixed 15 = .ok (.bipush 27, 2) := by decide +kernel
theorem dM_mixed_17 : decode cM_mixed 17 = .ok (.lushr, 1) := by decide +kernel
theorem dM_mixed_18 : decode cM_mixed 18 = .ok (.lxor, 1) := by decide +kernel
theorem dM_mixed_19 : decode cM_mixed 19 = .ok (.lstore_n 2, 1) := by decide +kernel
theorem dM_mixed_20 : decode cM_mixed 20 = .ok (.lload_n 2, 1) := by decide +kernel
theorem dM_mixed_21 : decode cM_mixed 21 = .ok (.ldc2_w 71, 3) := by decide +kernel
theorem dM_mixed_24 : decode cM_mixed 24 = .ok (.lmul, 1) := by decide +kernel
theorem dM_mixed_25 : decode cM_mixed 25 = .ok (.lstore_n 2, 1) := by decide +kernel
theorem dM_mixed_26 : decode cM_mixed 26 = .ok (.lload_n 2, 1) := by decide +kernel
theorem dM_mixed_27 : decode cM_mixed 27 = .ok (.lload_n 2, 1) := by decide +kernel
theorem dM_mixed_28 : decode cM_mixed 28 = .ok (.bipush 31, 2) := by decide +kernel
theorem dM_mixed_30 : decode cM_mixed 30 = .ok (.lushr, 1) := by decide +kernel
theorem dM_mixed_31 : decode cM_mixed 31 = .ok (.lxor, 1) := by decide +kernel
theorem dM_mixed_32 : decode cM_mixed 32 = .ok (.lreturn, 1) := by decide +kernel
theorem dM_gatherAll_0 : decode cM_gatherAll 0 = .ok (.aload_n 0, 1) := by decide +kernel
theorem dM_gatherAll_1 : decode cM_gatherAll 1 = .ok (.iconst 0, 1) := by decide +kernel
theorem dM_gatherAll_2 : decode cM_gatherAll 2 = .ok (.putfield 83, 3) := by decide +kernel
theorem dM_gatherAll_5 : decode cM_gatherAll 5 = .ok (.bipush 64, 2) := by decide +kernel
theorem dM_gatherAll_7 : decode cM_gatherAll 7 = .ok (.istore_n 2, 1) := by decide +kernel
theorem dM_gatherAll_8 : decode cM_gatherAll 8 = .ok (.iload_n 2, 1) := by decide +kernel
theorem dM_gatherAll_9 : decode cM_gatherAll 9 = .ok (.bipush 97, 2) := by decide +kernel
theorem dM_gatherAll_11 : decode cM_gatherAll 11 = .ok (.if_icmp .ge 140, 3) := by decide +kernel
theorem dM_gatherAll_14 : decode cM_gatherAll 14 = .ok (.iconst 0, 1) := by decide +kernel
theorem dM_gatherAll_15 : decode cM_gatherAll 15 = .ok (.istore_n 3, 1) := by decide +kernel
theorem dM_gatherAll_16 : decode cM_gatherAll 16 = .ok (.iload_n 3, 1) := by decide +kernel
theorem dM_gatherAll_17 : decode cM_gatherAll 17 = .ok (.aload_n 0, 1) := by decide +kernel
theorem dM_gatherAll_18 : decode cM_gatherAll 18 = .ok (.getfield 44, 3) := by decide +kernel
theorem dM_gatherAll_21 : decode cM_gatherAll 21 = .ok (.iload_n 2, 1) := by decide +kernel
theorem dM_gatherAll_22 : decode cM_gatherAll 22 = .ok (.iaload, 1) := by decide +kernel
theorem dM_gatherAll_23 : decode cM_gatherAll 23 = .ok (.if_icmp .ge 122, 3) := by decide +kernel
theorem dM_gatherAll_26 : decode cM_gatherAll 26 = .ok (.aload_n 0, 1) := by decide +kernel
theorem dM_gatherAll_27 : decode cM_gatherAll 27 = .ok (.getfield 47, 3) := by decide +kernel
theorem dM_gatherAll_30 : decode cM_gatherAll 30 = .ok (.bipush 8, 2) := by decide +kernel
theorem dM_gatherAll_32 : decode cM_gatherAll 32 = .ok (.iload_n 2, 1) := by decide +kernel
theorem dM_gatherAll_33 : decode cM_gatherAll 33 = .ok (.imul, 1) := by decide +kernel
theorem dM_gatherAll_34 : decode cM_gatherAll 34 = .ok (.iload_n 3, 1) := by decide +kernel
theorem dM_gatherAll_35 : decode cM_gatherAll 35 = .ok (.iadd, 1) := by decide +kernel
theorem dM_gatherAll_36 : decode cM_gatherAll 36 = .ok (.iaload, 1) := by decide +kernel
theorem dM_gatherAll_37 : decode cM_gatherAll 37 = .ok (.istore 4, 2) := by decide +kernel
theorem dM_gatherAll_39 : decode cM_gatherAll 39 = .ok (.aload_n 0, 1) := by decide +kernel
theorem dM_gatherAll_40 : decode cM_gatherAll 40 = .ok (.getfield 31, 3) := by decide +kernel
theorem dM_gatherAll_43 : decode cM_gatherAll 43 = .ok (.iload 4, 2) := by decide +kernel
theorem dM_gatherAll_45 : decode cM_gatherAll 45 = .ok (.baload, 1) := by decide +kernel
theorem dM_gatherAll_46 : decode cM_gatherAll 46 = .ok (.ifCond .eq 93, 3) := by decide +kernel
theorem dM_gatherAll_49 : decode cM_gatherAll 49 = .ok (.aload_n 0, 1) := by decide +kernel
theorem dM_gatherAll_50 : decode cM_gatherAll 50 = .ok (.getfield 20, 3) := by decide +kernel
theorem dM_gatherAll_53 : decode cM_gatherAll 53 = .ok (.iload 4, 2) := by decide +kernel
theorem dM_gatherAll_55 : decode cM_gatherAll 55 = .ok (.laload, 1) := by decide +kernel
theorem dM_gatherAll_56 : decode cM_gatherAll 56 = .ok (.invokestatic 89, 3) := by decide +kernel
theorem dM_gatherAll_59 : decode cM_gatherAll 59 = .ok (.iload_n 1, 1) := by decide +kernel
theorem dM_gatherAll_60 : decode cM_gatherAll 60 = .ok (.if_icmp .ne 79, 3) := by decide +kernel
theorem dM_gatherAll_63 : decode cM_gatherAll 63 = .ok (.aload_n 0, 1) := by decide +kernel
theorem dM_gatherAll_64 : decode cM_gatherAll 64 = .ok (.getfield 83, 3) := by decide +kernel
theorem dM_gatherAll_67 : decode cM_gatherAll 67 = .ok (.istore 5, 2) := by decide +kernel
theorem dM_gatherAll_69 : decode cM_gatherAll 69 = .ok (.iload 5, 2) := by decide +kernel
theorem dM_gatherAll_71 : decode cM_gatherAll 71 = .ok (.ifCond .le 49, 3) := by decide +kernel
theorem dM_gatherAll_74 : decode cM_gatherAll 74 = .ok (.aload_n 0, 1) := by decide +kernel
theorem dM_gatherAll_75 : decode cM_gatherAll 75 = .ok (.getfield 38, 3) := by decide +kernel
theorem dM_gatherAll_78 : decode cM_gatherAll 78 = .ok (.aload_n 0, 1) := by decide +kernel
theorem dM_gatherAll_79 : decode cM_gatherAll 79 = .ok (.getfield 53, 3) := by decide +kernel
theorem dM_gatherAll_82 : decode cM_gatherAll 82 = .ok (.iload 5, 2) := by decide +kernel
theorem dM_gatherAll_84 : decode cM_gatherAll 84 = .ok (.iconst 1, 1) := by decide +kernel
theorem dM_gatherAll_85 : decode cM_gatherAll 85 = .ok (.isub, 1) := by decide +kernel
theorem dM_gatherAll_86 : decode cM_gatherAll 86 = .ok (.iaload, 1) := by decide +kernel
theorem dM_gatherAll_87 : decode cM_gatherAll 87 = .ok (.iaload, 1) := by decide +kernel
theorem dM_gatherAll_88 : decode cM_gatherAll 88 = .ok (.aload_n 0, 1) := by decide +kernel
theorem dM_gatherAll_89 : decode cM_gatherAll 89 = .ok (.getfield 38, 3) := by decide +kernel
theorem dM_gatherAll_92 : decode cM_gatherAll 92 = .ok (.iload 4, 2) := by decide +kernel
theorem dM_gatherAll_94 : decode cM_gatherAll 94 = .ok (.iaload, 1) := by decide +kernel
theorem dM_gatherAll_95 : decode cM_gatherAll 95 = .ok (.if_icmp .le 25, 3) := by decide +kernel
theorem dM_gatherAll_98 : decode cM_gatherAll 98 = .ok (.aload_n 0, 1) := by decide +kernel
theorem dM_gatherAll_99 : decode cM_gatherAll 99 = .ok (.getfield 53, 3) := by decide +kernel
theorem dM_gatherAll_102 : decode cM_gatherAll 102 = .ok (.iload 5, 2) := by decide +kernel
theorem dM_gatherAll_104 : decode cM_gatherAll 104 = .ok (.aload_n 0, 1) := by decide +kernel
theorem dM_gatherAll_105 : decode cM_gatherAll 105 = .ok (.getfield 53, 3) := by decide +kernel
theorem dM_gatherAll_108 : decode cM_gatherAll 108 = .ok (.iload 5, 2) := by decide +kernel
theorem dM_gatherAll_110 : decode cM_gatherAll 110 = .ok (.iconst 1, 1) := by decide +kernel
theorem dM_gatherAll_111 : decode cM_gatherAll 111 = .ok (.isub, 1) := by decide +kernel
theorem dM_gatherAll_112 : decode cM_gatherAll 112 = .ok (.iaload, 1) := by decide +kernel
theorem dM_gatherAll_113 : decode cM_gatherAll 113 = .ok (.iastore, 1) := by decide +kernel
theorem dM_gatherAll_114 : decode cM_gatherAll 114 = .ok (.iinc 5 (-1), 3) := by decide +kernel
theorem dM_gatherAll_117 : decode cM_gatherAll 117 = .ok (.goto (-48), 3) := by decide +kernel
theorem dM_gatherAll_120 : decode cM_gatherAll 120 = .ok (.aload_n 0, 1) := by decide +kernel
theorem dM_gatherAll_121 : decode cM_gatherAll 121 = .ok (.getfield 53, 3) := by decide +kernel
theorem dM_gatherAll_124 : decode cM_gatherAll 124 = .ok (.iload 5, 2) := by decide +kernel
theorem dM_gatherAll_126 : decode cM_gatherAll 126 = .ok (.iload 4, 2) := by decide +kernel
theorem dM_gatherAll_128 : decode cM_gatherAll 128 = .ok (.iastore, 1) := by decide +kernel
theorem dM_gatherAll_129 : decode cM_gatherAll 129 = .ok (.aload_n 0, 1) := by decide +kernel
theorem dM_gatherAll_130 : decode cM_gatherAll 130 = .ok (.dup, 1) := by decide +kernel
theorem dM_gatherAll_131 : decode cM_gatherAll 131 = .ok (.getfield 83, 3) := by decide +kernel
theorem dM_gatherAll_134 : decode cM_gatherAll 134 = .ok (.iconst 1, 1) := by decide +kernel
theorem dM_gatherAll_135 : decode cM_gatherAll 135 = .ok (.iadd, 1) := by decide +kernel
theorem dM_gatherAll_136 : decode cM_gatherAll 136 = .ok (.putfield 83, 3) := by decide +kernel
theorem dM_gatherAll_139 : decode cM_gatherAll 139 = .ok (.iinc 3 1, 3) := by decide +kernel
theorem dM_gatherAll_142 : decode cM_gatherAll 142 = .ok (.goto (-126), 3) := by decide +kernel
theorem dM_gatherAll_145 : decode cM_gatherAll 145 = .ok (.iinc 2 1, 3) := by decide +kernel
theorem dM_gatherAll_148 : decode cM_gatherAll 148 = .ok (.goto (-140), 3) := by decide +kernel
theorem dM_gatherAll_151 : decode cM_gatherAll 151 = .ok (.return_, 1) := by decide +kernel
theorem dM_moveAll_0 : decode cM_moveAll 0 = .ok (.aload_n 0, 1) := by decide +kernel
theorem dM_moveAll_1 : decode cM_moveAll 1 = .ok (.getfield 62, 3) := by decide +kernel
theorem dM_moveAll_4 : decode cM_moveAll 4 = .ok (.bipush 9, 2) := by decide +kernel
theorem dM_moveAll_6 : decode cM_moveAll 6 = .ok (.dup2, 1) := by decide +kernel
theorem dM_moveAll_7 : decode cM_moveAll 7 = .ok (.iaload, 1) := by decide +kernel
theorem dM_moveAll_8 : decode cM_moveAll 8 = .ok (.iconst 1, 1) := by decide +kernel
theorem dM_moveAll_9 : decode cM_moveAll 9 = .ok (.iadd, 1) := by decide +kernel
theorem dM_moveAll_10 : decode cM_moveAll 10 = .ok (.iastore, 1) := by decide +kernel
theorem dM_moveAll_11 : decode cM_moveAll 11 = .ok (.aload_n 0, 1) := by decide +kernel
theorem dM_moveAll_12 : decode cM_moveAll 12 = .ok (.getfield 62, 3) := by decide +kernel
theorem dM_moveAll_15 : decode cM_moveAll 15 = .ok (.iconst 4, 1) := by decide +kernel
theorem dM_moveAll_16 : decode cM_moveAll 16 = .ok (.dup2, 1) := by decide +kernel
theorem dM_moveAll_17 : decode cM_moveAll 17 = .ok (.iaload, 1) := by decide +kernel
theorem dM_moveAll_18 : decode cM_moveAll 18 = .ok (.aload_n 0, 1) := by decide +kernel
theorem dM_moveAll_19 : decode cM_moveAll 19 = .ok (.getfield 83, 3) := by decide +kernel
theorem dM_moveAll_22 : decode cM_moveAll 22 = .ok (.iadd, 1) := by decide +kernel
theorem dM_moveAll_23 : decode cM_moveAll 23 = .ok (.iastore, 1) := by decide +kernel
theorem dM_moveAll_24 : decode cM_moveAll 24 = .ok (.iconst 0, 1) := by decide +kernel
theorem dM_moveAll_25 : decode cM_moveAll 25 = .ok (.istore_n 2, 1) := by decide +kernel
theorem dM_moveAll_26 : decode cM_moveAll 26 = .ok (.iload_n 2, 1) := by decide +kernel
theorem dM_moveAll_27 : decode cM_moveAll 27 = .ok (.aload_n 0, 1) := by decide +kernel
theorem dM_moveAll_28 : decode cM_moveAll 28 = .ok (.getfield 83, 3) := by decide +kernel
theorem dM_moveAll_31 : decode cM_moveAll 31 = .ok (.if_icmp .ge 47, 3) := by decide +kernel
theorem dM_moveAll_34 : decode cM_moveAll 34 = .ok (.aload_n 0, 1) := by decide +kernel
theorem dM_moveAll_35 : decode cM_moveAll 35 = .ok (.getfield 31, 3) := by decide +kernel
theorem dM_moveAll_38 : decode cM_moveAll 38 = .ok (.aload_n 0, 1) := by decide +kernel
theorem dM_moveAll_39 : decode cM_moveAll 39 = .ok (.getfield 53, 3) := by decide +kernel
theorem dM_moveAll_42 : decode cM_moveAll 42 = .ok (.iload_n 2, 1) := by decide +kernel
theorem dM_moveAll_43 : decode cM_moveAll 43 = .ok (.iaload, 1) := by decide +kernel
theorem dM_moveAll_44 : decode cM_moveAll 44 = .ok (.iconst 0, 1) := by decide +kernel
theorem dM_moveAll_45 : decode cM_moveAll 45 = .ok (.bastore, 1) := by decide +kernel
theorem dM_moveAll_46 : decode cM_moveAll 46 = .ok (.aload_n 0, 1) := by decide +kernel
theorem dM_moveAll_47 : decode cM_moveAll 47 = .ok (.aload_n 0, 1) := by decide +kernel
theorem dM_moveAll_48 : decode cM_moveAll 48 = .ok (.getfield 20, 3) := by decide +kernel
theorem dM_moveAll_51 : decode cM_moveAll 51 = .ok (.aload_n 0, 1) := by decide +kernel
theorem dM_moveAll_52 : decode cM_moveAll 52 = .ok (.getfield 53, 3) := by decide +kernel
theorem dM_moveAll_55 : decode cM_moveAll 55 = .ok (.iload_n 2, 1) := by decide +kernel
theorem dM_moveAll_56 : decode cM_moveAll 56 = .ok (.iaload, 1) := by decide +kernel
theorem dM_moveAll_57 : decode cM_moveAll 57 = .ok (.laload, 1) := by decide +kernel
theorem dM_moveAll_58 : decode cM_moveAll 58 = .ok (.invokevirtual 143, 3) := by decide +kernel
theorem dM_moveAll_61 : decode cM_moveAll 61 = .ok (.istore_n 3, 1) := by decide +kernel
theorem dM_moveAll_62 : decode cM_moveAll 62 = .ok (.iload_n 3, 1) := by decide +kernel
theorem dM_moveAll_63 : decode cM_moveAll 63 = .ok (.ifCond .lt 9, 3) := by decide +kernel
theorem dM_moveAll_66 : decode cM_moveAll 66 = .ok (.aload_n 0, 1) := by decide +kernel
theorem dM_moveAll_67 : decode cM_moveAll 67 = .ok (.iload_n 1, 1) := by decide +kernel
theorem dM_moveAll_68 : decode cM_moveAll 68 = .ok (.iload_n 3, 1) := by decide +kernel
theorem dM_moveAll_69 : decode cM_moveAll 69 = .ok (.invokevirtual 140, 3) := by decide +kernel
theorem dM_moveAll_72 : decode cM_moveAll 72 = .ok (.iinc 2 1, 3) := by decide +kernel
theorem dM_moveAll_75 : decode cM_moveAll 75 = .ok (.goto (-49), 3) := by decide +kernel
theorem dM_moveAll_78 : decode cM_moveAll 78 = .ok (.aload_n 0, 1) := by decide +kernel
theorem dM_moveAll_79 : decode cM_moveAll 79 = .ok (.iload_n 1, 1) := by decide +kernel
theorem dM_moveAll_80 : decode cM_moveAll 80 = .ok (.iconst 0, 1) := by decide +kernel
theorem dM_moveAll_81 : decode cM_moveAll 81 = .ok (.iconst 5, 1) := by decide +kernel
theorem dM_moveAll_82 : decode cM_moveAll 82 = .ok (.invokevirtual 146, 3) := by decide +kernel
theorem dM_moveAll_85 : decode cM_moveAll 85 = .ok (.aload_n 0, 1) := by decide +kernel
theorem dM_moveAll_86 : decode cM_moveAll 86 = .ok (.iload_n 1, 1) := by decide +kernel
theorem dM_moveAll_87 : decode cM_moveAll 87 = .ok (.iconst 1, 1) := by decide +kernel
theorem dM_moveAll_88 : decode cM_moveAll 88 = .ok (.bipush 6, 2) := by decide +kernel
theorem dM_moveAll_90 : decode cM_moveAll 90 = .ok (.invokevirtual 146, 3) := by decide +kernel
theorem dM_moveAll_93 : decode cM_moveAll 93 = .ok (.aload_n 0, 1) := by decide +kernel
theorem dM_moveAll_94 : decode cM_moveAll 94 = .ok (.iload_n 1, 1) := by decide +kernel
theorem dM_moveAll_95 : decode cM_moveAll 95 = .ok (.invokevirtual 137, 3) := by decide +kernel
theorem dM_moveAll_98 : decode cM_moveAll 98 = .ok (.bipush 32, 2) := by decide +kernel
theorem dM_moveAll_100 : decode cM_moveAll 100 = .ok (.if_icmp .le 57, 3) := by decide +kernel
theorem dM_moveAll_103 : decode cM_moveAll 103 = .ok (.aload_n 0, 1) := by decide +kernel
theorem dM_moveAll_104 : decode cM_moveAll 104 = .ok (.dup, 1) := by decide +kernel
theorem dM_moveAll_105 : decode cM_moveAll 105 = .ok (.getfield 83, 3) := by decide +kernel
theorem dM_moveAll_108 : decode cM_moveAll 108 = .ok (.iconst 1, 1) := by decide +kernel
theorem dM_moveAll_109 : decode cM_moveAll 109 = .ok (.isub, 1) := by decide +kernel
theorem dM_moveAll_110 : decode cM_moveAll 110 = .ok (.putfield 83, 3) := by decide +kernel
theorem dM_moveAll_113 : decode cM_moveAll 113 = .ok (.iconst 0, 1) := by decide +kernel
theorem dM_moveAll_114 : decode cM_moveAll 114 = .ok (.istore_n 2, 1) := by decide +kernel
theorem dM_moveAll_115 : decode cM_moveAll 115 = .ok (.iload_n 2, 1) := by decide +kernel
theorem dM_moveAll_116 : decode cM_moveAll 116 = .ok (.aload_n 0, 1) := by decide +kernel
theorem dM_moveAll_117 : decode cM_moveAll 117 = .ok (.getfield 83, 3) := by decide +kernel
theorem dM_moveAll_120 : decode cM_moveAll 120 = .ok (.if_icmp .ge 23, 3) := by decide +kernel
theorem dM_moveAll_123 : decode cM_moveAll 123 = .ok (.aload_n 0, 1) := by decide +kernel
theorem dM_moveAll_124 : decode cM_moveAll 124 = .ok (.getfield 53, 3) := by decide +kernel
theorem dM_moveAll_127 : decode cM_moveAll 127 = .ok (.iload_n 2, 1) := by decide +kernel
theorem dM_moveAll_128 : decode cM_moveAll 128 = .ok (.aload_n 0, 1) := by decide +kernel
theorem dM_moveAll_129 : decode cM_moveAll 129 = .ok (.getfield 53, 3) := by decide +kernel
theorem dM_moveAll_132 : decode cM_moveAll 132 = .ok (.iload_n 2, 1) := by decide +kernel
theorem dM_moveAll_133 : decode cM_moveAll 133 = .ok (.iconst 1, 1) := by decide +kernel
theorem dM_moveAll_134 : decode cM_moveAll 134 = .ok (.iadd, 1) := by decide +kernel
theorem dM_moveAll_135 : decode cM_moveAll 135 = .ok (.iaload, 1) := by decide +kernel
theorem dM_moveAll_136 : decode cM_moveAll 136 = .ok (.iastore, 1) := by decide +kernel
theorem dM_moveAll_137 : decode cM_moveAll 137 = .ok (.iinc 2 1, 3) := by decide +kernel
theorem dM_moveAll_140 : decode cM_moveAll 140 = .ok (.goto (-25), 3) := by decide +kernel
theorem dM_moveAll_143 : decode cM_moveAll 143 = .ok (.aload_n 0, 1) := by decide +kernel
theorem dM_moveAll_144 : decode cM_moveAll 144 = .ok (.getfield 62, 3) := by decide +kernel
theorem dM_moveAll_147 : decode cM_moveAll 147 = .ok (.bipush 7, 2) := by decide +kernel
theorem dM_moveAll_149 : decode cM_moveAll 149 = .ok (.dup2, 1) := by decide +kernel
theorem dM_moveAll_150 : decode cM_moveAll 150 = .ok (.iaload, 1) := by decide +kernel
theorem dM_moveAll_151 : decode cM_moveAll 151 = .ok (.iconst 1, 1) := by decide +kernel
theorem dM_moveAll_152 : decode cM_moveAll 152 = .ok (.iadd, 1) := by decide +kernel
theorem dM_moveAll_153 : decode cM_moveAll 153 = .ok (.iastore, 1) := by decide +kernel
theorem dM_moveAll_154 : decode cM_moveAll 154 = .ok (.goto (-61), 3) := by decide +kernel
theorem dM_moveAll_157 : decode cM_moveAll 157 = .ok (.iconst 0, 1) := by decide +kernel
theorem dM_moveAll_158 : decode cM_moveAll 158 = .ok (.istore_n 2, 1) := by decide +kernel
theorem dM_moveAll_159 : decode cM_moveAll 159 = .ok (.iload_n 2, 1) := by decide +kernel
theorem dM_moveAll_160 : decode cM_moveAll 160 = .ok (.aload_n 0, 1) := by decide +kernel
theorem dM_moveAll_161 : decode cM_moveAll 161 = .ok (.getfield 44, 3) := by decide +kernel
theorem dM_moveAll_164 : decode cM_moveAll 164 = .ok (.iload_n 1, 1) := by decide +kernel
theorem dM_moveAll_165 : decode cM_moveAll 165 = .ok (.iaload, 1) := by decide +kernel
theorem dM_moveAll_166 : decode cM_moveAll 166 = .ok (.if_icmp .ge 26, 3) := by decide +kernel
theorem dM_moveAll_169 : decode cM_moveAll 169 = .ok (.aload_n 0, 1) := by decide +kernel
theorem dM_moveAll_170 : decode cM_moveAll 170 = .ok (.getfield 41, 3) := by decide +kernel
theorem dM_moveAll_173 : decode cM_moveAll 173 = .ok (.aload_n 0, 1) := by decide +kernel
theorem dM_moveAll_174 : decode cM_moveAll 174 = .ok (.getfield 47, 3) := by decide +kernel
theorem dM_moveAll_177 : decode cM_moveAll 177 = .ok (.bipush 8, 2) := by decide +kernel
theorem dM_moveAll_179 : decode cM_moveAll 179 = .ok (.iload_n 1, 1) := by decide +kernel
theorem dM_moveAll_180 : decode cM_moveAll 180 = .ok (.imul, 1) := by decide +kernel
theorem dM_moveAll_181 : decode cM_moveAll 181 = .ok (.iload_n 2, 1) := by decide +kernel
theorem dM_moveAll_182 : decode cM_moveAll 182 = .ok (.iadd, 1) := by decide +kernel
theorem dM_moveAll_183 : decode cM_moveAll 183 = .ok (.iaload, 1) := by decide +kernel
theorem dM_moveAll_184 : decode cM_moveAll 184 = .ok (.iconst 0, 1) := by decide +kernel
theorem dM_moveAll_185 : decode cM_moveAll 185 = .ok (.bastore, 1) := by decide +kernel
theorem dM_moveAll_186 : decode cM_moveAll 186 = .ok (.iinc 2 1, 3) := by decide +kernel
theorem dM_moveAll_189 : decode cM_moveAll 189 = .ok (.goto (-30), 3) := by decide +kernel
theorem dM_moveAll_192 : decode cM_moveAll 192 = .ok (.iconst 0, 1) := by decide +kernel
theorem dM_moveAll_193 : decode cM_moveAll 193 = .ok (.istore_n 2, 1) := by decide +kernel
theorem dM_moveAll_194 : decode cM_moveAll 194 = .ok (.iload_n 2, 1) := by decide +kernel
theorem dM_moveAll_195 : decode cM_moveAll 195 = .ok (.aload_n 0, 1) := by decide +kernel
theorem dM_moveAll_196 : decode cM_moveAll 196 = .ok (.getfield 83, 3) := by decide +kernel
theorem dM_moveAll_199 : decode cM_moveAll 199 = .ok (.if_icmp .ge 26, 3) := by decide +kernel
theorem dM_moveAll_202 : decode cM_moveAll 202 = .ok (.aload_n 0, 1) := by decide +kernel
theorem dM_moveAll_203 : decode cM_moveAll 203 = .ok (.aload_n 0, 1) := by decide +kernel
theorem dM_moveAll_204 : decode cM_moveAll 204 = .ok (.getfield 53, 3) := by decide +kernel
theorem dM_moveAll_207 : decode cM_moveAll 207 = .ok (.iload_n 2, 1) := by decide +kernel
theorem dM_moveAll_208 : decode cM_moveAll 208 = .ok (.iaload, 1) := by decide +kernel
theorem dM_moveAll_209 : decode cM_moveAll 209 = .ok (.invokevirtual 150, 3) := by decide +kernel
theorem dM_moveAll_212 : decode cM_moveAll 212 = .ok (.istore_n 3, 1) := by decide +kernel
theorem dM_moveAll_213 : decode cM_moveAll 213 = .ok (.aload_n 0, 1) := by decide +kernel
theorem dM_moveAll_214 : decode cM_moveAll 214 = .ok (.iload_n 1, 1) := by decide +kernel
theorem dM_moveAll_215 : decode cM_moveAll 215 = .ok (.iload_n 3, 1) := by decide +kernel
theorem dM_moveAll_216 : decode cM_moveAll 216 = .ok (.invokevirtual 99, 3) := by decide +kernel
theorem dM_moveAll_219 : decode cM_moveAll 219 = .ok (.iinc 2 1, 3) := by decide +kernel
theorem dM_moveAll_222 : decode cM_moveAll 222 = .ok (.goto (-28), 3) := by decide +kernel
theorem dM_moveAll_225 : decode cM_moveAll 225 = .ok (.aload_n 0, 1) := by decide +kernel
theorem dM_moveAll_226 : decode cM_moveAll 226 = .ok (.getfield 62, 3) := by decide +kernel
theorem dM_moveAll_229 : decode cM_moveAll 229 = .ok (.iconst 1, 1) := by decide +kernel
theorem dM_moveAll_230 : decode cM_moveAll 230 = .ok (.dup2, 1) := by decide +kernel
theorem dM_moveAll_231 : decode cM_moveAll 231 = .ok (.iaload, 1) := by decide +kernel
theorem dM_moveAll_232 : decode cM_moveAll 232 = .ok (.iconst 1, 1) := by decide +kernel
theorem dM_moveAll_233 : decode cM_moveAll 233 = .ok (.iadd, 1) := by decide +kernel
theorem dM_moveAll_234 : decode cM_moveAll 234 = .ok (.iastore, 1) := by decide +kernel
theorem dM_moveAll_235 : decode cM_moveAll 235 = .ok (.return_, 1) := by decide +kernel
theorem dM_inSet_0 : decode cM_inSet 0 = .ok (.lload_n 1, 1) := by decide +kernel
theorem dM_inSet_1 : decode cM_inSet 1 = .ok (.invokestatic 89, 3) := by decide +kernel
theorem dM_inSet_4 : decode cM_inSet 4 = .ok (.istore_n 3, 1) := by decide +kernel
theorem dM_inSet_5 : decode cM_inSet 5 = .ok (.iconst (-1), 1) := by decide +kernel
theorem dM_inSet_6 : decode cM_inSet 6 = .ok (.istore 4, 2) := by decide +kernel
theorem dM_inSet_8 : decode cM_inSet 8 = .ok (.iconst 0, 1) := by decide +kernel
theorem dM_inSet_9 : decode cM_inSet 9 = .ok (.istore 5, 2) := by decide +kernel
theorem dM_inSet_11 : decode cM_inSet 11 = .ok (.iload 5, 2) := by decide +kernel
theorem dM_inSet_13 : decode cM_inSet 13 = .ok (.aload_n 0, 1) := by decide +kernel
theorem dM_inSet_14 : decode cM_inSet 14 = .ok (.getfield 44, 3) := by decide +kernel
theorem dM_inSet_17 : decode cM_inSet 17 = .ok (.iload_n 3, 1) := by decide +kernel
theorem dM_inSet_18 : decode cM_inSet 18 = .ok (.iaload, 1) := by decide +kernel
theorem dM_inSet_19 : decode cM_inSet 19 = .ok (.if_icmp .ge 40, 3) := by decide +kernel
theorem dM_inSet_22 : decode cM_inSet 22 = .ok (.aload_n 0, 1) := by decide +kernel
theorem dM_inSet_23 : decode cM_inSet 23 = .ok (.getfield 20, 3) := by decide +kernel
theorem dM_inSet_26 : decode cM_inSet 26 = .ok (.aload_n 0, 1) := by decide +kernel
theorem dM_inSet_27 : decode cM_inSet 27 = .ok (.getfield 47, 3) := by decide +kernel
theorem dM_inSet_30 : decode cM_inSet 30 = .ok (.bipush 8, 2) := by decide +kernel
theorem dM_inSet_32 : decode cM_inSet 32 = .ok (.iload_n 3, 1) := by decide +kernel
theorem dM_inSet_33 : decode cM_inSet 33 = .ok (.imul, 1) := by decide +kernel
theorem dM_inSet_34 : decode cM_inSet 34 = .ok (.iload 5, 2) := by decide +kernel
theorem dM_inSet_36 : decode cM_inSet 36 = .ok (.iadd, 1) := by decide +kernel
theorem dM_inSet_37 : decode cM_inSet 37 = .ok (.iaload, 1) := by decide +kernel
theorem dM_inSet_38 : decode cM_inSet 38 = .ok (.laload, 1) := by decide +kernel
theorem dM_inSet_39 : decode cM_inSet 39 = .ok (.lload_n 1, 1) := by decide +kernel
theorem dM_inSet_40 : decode cM_inSet 40 = .ok (.lcmp, 1) := by decide +kernel
theorem dM_inSet_41 : decode cM_inSet 41 = .ok (.ifCond .ne 8, 3) := by decide +kernel
theorem dM_inSet_44 : decode cM_inSet 44 = .ok (.iload 5, 2) := by decide +kernel
theorem dM_inSet_46 : decode cM_inSet 46 = .ok (.goto 5, 3) := by decide +kernel
theorem dM_inSet_49 : decode cM_inSet 49 = .ok (.iload 4, 2) := by decide +kernel
theorem dM_inSet_51 : decode cM_inSet 51 = .ok (.istore 4, 2) := by decide +kernel
theorem dM_inSet_53 : decode cM_inSet 53 = .ok (.iinc 5 1, 3) := by decide +kernel
theorem dM_inSet_56 : decode cM_inSet 56 = .ok (.goto (-45), 3) := by decide +kernel
theorem dM_inSet_59 : decode cM_inSet 59 = .ok (.iload 4, 2) := by decide +kernel
theorem dM_inSet_61 : decode cM_inSet 61 = .ok (.ireturn, 1) := by decide +kernel
theorem dM_takeOut_0 : decode cM_takeOut 0 = .ok (.aload_n 0, 1) := by decide +kernel
theorem dM_takeOut_1 : decode cM_takeOut 1 = .ok (.getfield 44, 3) := by decide +kernel
theorem dM_takeOut_4 : decode cM_takeOut 4 = .ok (.iload_n 1, 1) := by decide +kernel
theorem dM_takeOut_5 : decode cM_takeOut 5 = .ok (.dup2, 1) := by decide +kernel
theorem dM_takeOut_6 : decode cM_takeOut 6 = .ok (.iaload, 1) := by decide +kernel
theorem dM_takeOut_7 : decode cM_takeOut 7 = .ok (.iconst 1, 1) := by decide +kernel
theorem dM_takeOut_8 : decode cM_takeOut 8 = .ok (.isub, 1) := by decide +kernel
theorem dM_takeOut_9 : decode cM_takeOut 9 = .ok (.iastore, 1) := by decide +kernel
theorem dM_takeOut_10 : decode cM_takeOut 10 = .ok (.iload_n 2, 1) := by decide +kernel
theorem dM_takeOut_11 : decode cM_takeOut 11 = .ok (.istore_n 3, 1) := by decide +kernel
theorem dM_takeOut_12 : decode cM_takeOut 12 = .ok (.iload_n 3, 1) := by decide +kernel
theorem dM_takeOut_13 : decode cM_takeOut 13 = .ok (.aload_n 0, 1) := by decide +kernel
theorem dM_takeOut_14 : decode cM_takeOut 14 = .ok (.getfield 44, 3) := by decide +kernel
theorem dM_takeOut_17 : decode cM_takeOut 17 = .ok (.iload_n 1, 1) := by decide +kernel
theorem dM_takeOut_18 : decode cM_takeOut 18 = .ok (.iaload, 1) := by decide +kernel
theorem dM_takeOut_19 : decode cM_takeOut 19 = .ok (.if_icmp .ge 33, 3) := by decide +kernel
theorem dM_takeOut_22 : decode cM_takeOut 22 = .ok (.aload_n 0, 1) := by decide +kernel
theorem dM_takeOut_23 : decode cM_takeOut 23 = .ok (.getfield 47, 3) := by decide +kernel
theorem dM_takeOut_26 : decode cM_takeOut 26 = .ok (.bipush 8, 2) := by decide +kernel
theorem dM_takeOut_28 : decode cM_takeOut 28 = .ok (.iload_n 1, 1) := by decide +kernel
theorem dM_takeOut_29 : decode cM_takeOut 29 = .ok (.imul, 1) := by decide +kernel
theorem dM_takeOut_30 : decode cM_takeOut 30 = .ok (.iload_n 3, 1) := by decide +kernel
theorem dM_takeOut_31 : decode cM_takeOut 31 = .ok (.iadd, 1) := by decide +kernel
theorem dM_takeOut_32 : decode cM_takeOut 32 = .ok (.aload_n 0, 1) := by decide +kernel
theorem dM_takeOut_33 : decode cM_takeOut 33 = .ok (.getfield 47, 3) := by decide +kernel
theorem dM_takeOut_36 : decode cM_takeOut 36 = .ok (.bipush 8, 2) := by decide +kernel
theorem dM_takeOut_38 : decode cM_takeOut 38 = .ok (.iload_n 1, 1) := by decide +kernel
theorem dM_takeOut_39 : decode cM_takeOut 39 = .ok (.imul, 1) := by decide +kernel
theorem dM_takeOut_40 : decode cM_takeOut 40 = .ok (.iload_n 3, 1) := by decide +kernel
theorem dM_takeOut_41 : decode cM_takeOut 41 = .ok (.iadd, 1) := by decide +kernel
theorem dM_takeOut_42 : decode cM_takeOut 42 = .ok (.iconst 1, 1) := by decide +kernel
theorem dM_takeOut_43 : decode cM_takeOut 43 = .ok (.iadd, 1) := by decide +kernel
theorem dM_takeOut_44 : decode cM_takeOut 44 = .ok (.iaload, 1) := by decide +kernel
theorem dM_takeOut_45 : decode cM_takeOut 45 = .ok (.iastore, 1) := by decide +kernel
theorem dM_takeOut_46 : decode cM_takeOut 46 = .ok (.iinc 3 1, 3) := by decide +kernel
theorem dM_takeOut_49 : decode cM_takeOut 49 = .ok (.goto (-37), 3) := by decide +kernel
theorem dM_takeOut_52 : decode cM_takeOut 52 = .ok (.return_, 1) := by decide +kernel
theorem dM_dropFirst_0 : decode cM_dropFirst 0 = .ok (.iconst 0, 1) := by decide +kernel
theorem dM_dropFirst_1 : decode cM_dropFirst 1 = .ok (.istore 4, 2) := by decide +kernel
theorem dM_dropFirst_3 : decode cM_dropFirst 3 = .ok (.aload_n 0, 1) := by decide +kernel
theorem dM_dropFirst_4 : decode cM_dropFirst 4 = .ok (.iload_n 1, 1) := by decide +kernel
theorem dM_dropFirst_5 : decode cM_dropFirst 5 = .ok (.invokevirtual 137, 3) := by decide +kernel
theorem dM_dropFirst_8 : decode cM_dropFirst 8 = .ok (.bipush 32, 2) := by decide +kernel
theorem dM_dropFirst_10 : decode cM_dropFirst 10 = .ok (.if_icmp .le 61, 3) := by decide +kernel
theorem dM_dropFirst_13 : decode cM_dropFirst 13 = .ok (.iload 4, 2) := by decide +kernel
theorem dM_dropFirst_15 : decode cM_dropFirst 15 = .ok (.aload_n 0, 1) := by decide +kernel
theorem dM_dropFirst_16 : decode cM_dropFirst 16 = .ok (.getfield 44, 3) := by decide +kernel
theorem dM_dropFirst_19 : decode cM_dropFirst 19 = .ok (.iload_n 1, 1) := by decide +kernel
theorem dM_dropFirst_20 : decode cM_dropFirst 20 = .ok (.iaload, 1) := by decide +kernel
theorem dM_dropFirst_21 : decode cM_dropFirst 21 = .ok (.if_icmp .ge 50, 3) := by decide +kernel
theorem dM_dropFirst_24 : decode cM_dropFirst 24 = .ok (.aload_n 0, 1) := by decide +kernel
theorem dM_dropFirst_25 : decode cM_dropFirst 25 = .ok (.getfield 41, 3) := by decide +kernel
theorem dM_dropFirst_28 : decode cM_dropFirst 28 = .ok (.aload_n 0, 1) := by decide +kernel
theorem dM_dropFirst_29 : decode cM_dropFirst 29 = .ok (.getfield 47, 3) := by decide +kernel
theorem dM_dropFirst_32 : decode cM_dropFirst 32 = .ok (.bipush 8, 2) := by decide +kernel
theorem dM_dropFirst_34 : decode cM_dropFirst 34 = .ok (.iload_n 1, 1) := by decide +kernel
theorem dM_dropFirst_35 : decode cM_dropFirst 35 = .ok (.imul, 1) := by decide +kernel
theorem dM_dropFirst_36 : decode cM_dropFirst 36 = .ok (.iload 4, 2) := by decide +kernel
theorem dM_dropFirst_38 : decode cM_dropFirst 38 = .ok (.iadd, 1) := by decide +kernel
theorem dM_dropFirst_39 : decode cM_dropFirst 39 = .ok (.iaload, 1) := by decide +kernel
theorem dM_dropFirst_40 : decode cM_dropFirst 40 = .ok (.baload, 1) := by decide +kernel
theorem dM_dropFirst_41 : decode cM_dropFirst 41 = .ok (.iload_n 2, 1) := by decide +kernel
theorem dM_dropFirst_42 : decode cM_dropFirst 42 = .ok (.if_icmp .ne 23, 3) := by decide +kernel
theorem dM_dropFirst_45 : decode cM_dropFirst 45 = .ok (.aload_n 0, 1) := by decide +kernel
theorem dM_dropFirst_46 : decode cM_dropFirst 46 = .ok (.iload_n 1, 1) := by decide +kernel
theorem dM_dropFirst_47 : decode cM_dropFirst 47 = .ok (.iload 4, 2) := by decide +kernel
theorem dM_dropFirst_49 : decode cM_dropFirst 49 = .ok (.invokevirtual 140, 3) := by decide +kernel
theorem dM_dropFirst_52 : decode cM_dropFirst 52 = .ok (.aload_n 0, 1) := by decide +kernel
theorem dM_dropFirst_53 : decode cM_dropFirst 53 = .ok (.getfield 62, 3) := by decide +kernel
theorem dM_dropFirst_56 : decode cM_dropFirst 56 = .ok (.iload_n 3, 1) := by decide +kernel
theorem dM_dropFirst_57 : decode cM_dropFirst 57 = .ok (.dup2, 1) := by decide +kernel
theorem dM_dropFirst_58 : decode cM_dropFirst 58 = .ok (.iaload, 1) := by decide +kernel
theorem dM_dropFirst_59 : decode cM_dropFirst 59 = .ok (.iconst 1, 1) := by decide +kernel
theorem dM_dropFirst_60 : decode cM_dropFirst 60 = .ok (.iadd, 1) := by decide +kernel
theorem dM_dropFirst_61 : decode cM_dropFirst 61 = .ok (.iastore, 1) := by decide +kernel
theorem dM_dropFirst_62 : decode cM_dropFirst 62 = .ok (.goto (-59), 3) := by decide +kernel
theorem dM_dropFirst_65 : decode cM_dropFirst 65 = .ok (.iinc 4 1, 3) := by decide +kernel
theorem dM_dropFirst_68 : decode cM_dropFirst 68 = .ok (.goto (-65), 3) := by decide +kernel
theorem dM_dropFirst_71 : decode cM_dropFirst 71 = .ok (.return_, 1) := by decide +kernel
theorem dM_needAll_0 : decode cM_needAll 0 = .ok (.aload_n 0, 1) := by decide +kernel
theorem dM_needAll_1 : decode cM_needAll 1 = .ok (.iload_n 1, 1) := by decide +kernel
theorem dM_needAll_2 : decode cM_needAll 2 = .ok (.invokevirtual 122, 3) := by decide +kernel
theorem dM_needAll_5 : decode cM_needAll 5 = .ok (.istore_n 2, 1) := by decide +kernel
theorem dM_needAll_6 : decode cM_needAll 6 = .ok (.iconst 0, 1) := by decide +kernel
theorem dM_needAll_7 : decode cM_needAll 7 = .ok (.istore_n 3, 1) := by decide +kernel
theorem dM_needAll_8 : decode cM_needAll 8 = .ok (.iload_n 3, 1) := by decide +kernel
theorem dM_needAll_9 : decode cM_needAll 9 = .ok (.aload_n 0, 1) := by decide +kernel
theorem dM_needAll_10 : decode cM_needAll 10 = .ok (.getfield 83, 3) := by decide +kernel
theorem dM_needAll_13 : decode cM_needAll 13 = .ok (.if_icmp .ge 22, 3) := by decide +kernel
theorem dM_needAll_16 : decode cM_needAll 16 = .ok (.iload_n 2, 1) := by decide +kernel
theorem dM_needAll_17 : decode cM_needAll 17 = .ok (.aload_n 0, 1) := by decide +kernel
theorem dM_needAll_18 : decode cM_needAll 18 = .ok (.aload_n 0, 1) := by decide +kernel
theorem dM_needAll_19 : decode cM_needAll 19 = .ok (.getfield 53, 3) := by decide +kernel
theorem dM_needAll_22 : decode cM_needAll 22 = .ok (.iload_n 3, 1) := by decide +kernel
theorem dM_needAll_23 : decode cM_needAll 23 = .ok (.iaload, 1) := by decide +kernel
theorem dM_needAll_24 : decode cM_needAll 24 = .ok (.invokevirtual 79, 3) := by decide +kernel
theorem dM_needAll_27 : decode cM_needAll 27 = .ok (.iadd, 1) := by decide +kernel
theorem dM_needAll_28 : decode cM_needAll 28 = .ok (.istore_n 2, 1) := by decide +kernel
theorem dM_needAll_29 : decode cM_needAll 29 = .ok (.iinc 3 1, 3) := by decide +kernel
theorem dM_needAll_32 : decode cM_needAll 32 = .ok (.goto (-24), 3) := by decide +kernel
theorem dM_needAll_35 : decode cM_needAll 35 = .ok (.iload_n 2, 1) := by decide +kernel
theorem dM_needAll_36 : decode cM_needAll 36 = .ok (.ireturn, 1) := by decide +kernel
theorem dM_copy_0 : decode cM_copy 0 = .ok (.aload_n 0, 1) := by decide +kernel
theorem dM_copy_1 : decode cM_copy 1 = .ok (.invokevirtual 153, 3) := by decide +kernel
theorem dM_copy_4 : decode cM_copy 4 = .ok (.istore_n 2, 1) := by decide +kernel
theorem dM_copy_5 : decode cM_copy 5 = .ok (.aload_n 0, 1) := by decide +kernel
theorem dM_copy_6 : decode cM_copy 6 = .ok (.getfield 20, 3) := by decide +kernel
theorem dM_copy_9 : decode cM_copy 9 = .ok (.iload_n 2, 1) := by decide +kernel
theorem dM_copy_10 : decode cM_copy 10 = .ok (.aload_n 0, 1) := by decide +kernel
theorem dM_copy_11 : decode cM_copy 11 = .ok (.getfield 20, 3) := by decide +kernel
theorem dM_copy_14 : decode cM_copy 14 = .ok (.iload_n 1, 1) := by decide +kernel
theorem dM_copy_15 : decode cM_copy 15 = .ok (.laload, 1) := by decide +kernel
theorem dM_copy_16 : decode cM_copy 16 = .ok (.lastore, 1) := by decide +kernel
theorem dM_copy_17 : decode cM_copy 17 = .ok (.aload_n 0, 1) := by decide +kernel
theorem dM_copy_18 : decode cM_copy 18 = .ok (.getfield 24, 3) := by decide +kernel
theorem dM_copy_21 : decode cM_copy 21 = .ok (.iload_n 2, 1) := by decide +kernel
theorem dM_copy_22 : decode cM_copy 22 = .ok (.aload_n 0, 1) := by decide +kernel
theorem dM_copy_23 : decode cM_copy 23 = .ok (.getfield 24, 3) := by decide +kernel
theorem dM_copy_26 : decode cM_copy 26 = .ok (.iload_n 1, 1) := by decide +kernel
theorem dM_copy_27 : decode cM_copy 27 = .ok (.iaload, 1) := by decide +kernel
theorem dM_copy_28 : decode cM_copy 28 = .ok (.iastore, 1) := by decide +kernel
theorem dM_copy_29 : decode cM_copy 29 = .ok (.iconst 0, 1) := by decide +kernel
theorem dM_copy_30 : decode cM_copy 30 = .ok (.istore_n 3, 1) := by decide +kernel
theorem dM_copy_31 : decode cM_copy 31 = .ok (.iload_n 3, 1) := by decide +kernel
theorem dM_copy_32 : decode cM_copy 32 = .ok (.bipush 8, 2) := by decide +kernel
theorem dM_copy_34 : decode cM_copy 34 = .ok (.if_icmp .ge 31, 3) := by decide +kernel
theorem dM_copy_37 : decode cM_copy 37 = .ok (.aload_n 0, 1) := by decide +kernel
theorem dM_copy_38 : decode cM_copy 38 = .ok (.getfield 28, 3) := by decide +kernel
theorem dM_copy_41 : decode cM_copy 41 = .ok (.bipush 8, 2) := by decide +kernel
theorem dM_copy_43 : decode cM_copy 43 = .ok (.iload_n 2, 1) := by decide +kernel
theorem dM_copy_44 : decode cM_copy 44 = .ok (.imul, 1) := by decide +kernel
theorem dM_copy_45 : decode cM_copy 45 = .ok (.iload_n 3, 1) := by decide +kernel
theorem dM_copy_46 : decode cM_copy 46 = .ok (.iadd, 1) := by decide +kernel
theorem dM_copy_47 : decode cM_copy 47 = .ok (.aload_n 0, 1) := by decide +kernel
theorem dM_copy_48 : decode cM_copy 48 = .ok (.getfield 28, 3) := by decide +kernel
theorem dM_copy_51 : decode cM_copy 51 = .ok (.bipush 8, 2) := by decide +kernel
theorem dM_copy_53 : decode cM_copy 53 = .ok (.iload_n 1, 1) := by decide +kernel
theorem dM_copy_54 : decode cM_copy 54 = .ok (.imul, 1) := by decide +kernel
theorem dM_copy_55 : decode cM_copy 55 = .ok (.iload_n 3, 1) := by decide +kernel
theorem dM_copy_56 : decode cM_copy 56 = .ok (.iadd, 1) := by decide +kernel
theorem dM_copy_57 : decode cM_copy 57 = .ok (.iaload, 1) := by decide +kernel
theorem dM_copy_58 : decode cM_copy 58 = .ok (.iastore, 1) := by decide +kernel
theorem dM_copy_59 : decode cM_copy 59 = .ok (.iinc 3 1, 3) := by decide +kernel
theorem dM_copy_62 : decode cM_copy 62 = .ok (.goto (-31), 3) := by decide +kernel
theorem dM_copy_65 : decode cM_copy 65 = .ok (.aload_n 0, 1) := by decide +kernel
theorem dM_copy_66 : decode cM_copy 66 = .ok (.getfield 31, 3) := by decide +kernel
theorem dM_copy_69 : decode cM_copy 69 = .ok (.iload_n 2, 1) := by decide +kernel
theorem dM_copy_70 : decode cM_copy 70 = .ok (.iconst 0, 1) := by decide +kernel
theorem dM_copy_71 : decode cM_copy 71 = .ok (.bastore, 1) := by decide +kernel
theorem dM_copy_72 : decode cM_copy 72 = .ok (.aload_n 0, 1) := by decide +kernel
theorem dM_copy_73 : decode cM_copy 73 = .ok (.getfield 35, 3) := by decide +kernel
theorem dM_copy_76 : decode cM_copy 76 = .ok (.iload_n 2, 1) := by decide +kernel
theorem dM_copy_77 : decode cM_copy 77 = .ok (.iconst 0, 1) := by decide +kernel
theorem dM_copy_78 : decode cM_copy 78 = .ok (.bastore, 1) := by decide +kernel
theorem dM_copy_79 : decode cM_copy 79 = .ok (.aload_n 0, 1) := by decide +kernel
theorem dM_copy_80 : decode cM_copy 80 = .ok (.getfield 41, 3) := by decide +kernel
theorem dM_copy_83 : decode cM_copy 83 = .ok (.iload_n 2, 1) := by decide +kernel
theorem dM_copy_84 : decode cM_copy 84 = .ok (.iconst 0, 1) := by decide +kernel
theorem dM_copy_85 : decode cM_copy 85 = .ok (.bastore, 1) := by decide +kernel
theorem dM_copy_86 : decode cM_copy 86 = .ok (.iload_n 2, 1) := by decide +kernel
theorem dM_copy_87 : decode cM_copy 87 = .ok (.ireturn, 1) := by decide +kernel
theorem dM_freeNumber_0 : decode cM_freeNumber 0 = .ok (.iconst 0, 1) := by decide +kernel
theorem dM_freeNumber_1 : decode cM_freeNumber 1 = .ok (.istore_n 1, 1) := by decide +kernel
theorem dM_freeNumber_2 : decode cM_freeNumber 2 = .ok (.iload_n 1, 1) := by decide +kernel
theorem dM_freeNumber_3 : decode cM_freeNumber 3 = .ok (.sipush 4096, 3) := by decide +kernel
theorem dM_freeNumber_6 : decode cM_freeNumber 6 = .ok (.if_icmp .ge 16, 3) := by decide +kernel
theorem dM_freeNumber_9 : decode cM_freeNumber 9 = .ok (.aload_n 0, 1) := by decide +kernel
theorem dM_freeNumber_10 : decode cM_freeNumber 10 = .ok (.getfield 50, 3) := by decide +kernel
theorem dM_freeNumber_13 : decode cM_freeNumber 13 = .ok (.iload_n 1, 1) := by decide +kernel
theorem dM_freeNumber_14 : decode cM_freeNumber 14 = .ok (.iconst 0, 1) := by decide +kernel
theorem dM_freeNumber_15 : decode cM_freeNumber 15 = .ok (.bastore, 1) := by decide +kernel
theorem dM_freeNumber_16 : decode cM_freeNumber 16 = .ok (.iinc 1 1, 3) := by decide +kernel
theorem dM_freeNumber_19 : decode cM_freeNumber 19 = .ok (.goto (-17), 3) := by decide +kernel
theorem dM_freeNumber_22 : decode cM_freeNumber 22 = .ok (.iconst 0, 1) := by decide +kernel
theorem dM_freeNumber_23 : decode cM_freeNumber 23 = .ok (.istore_n 1, 1) := by decide +kernel
theorem dM_freeNumber_24 : decode cM_freeNumber 24 = .ok (.iload_n 1, 1) := by decide +kernel
theorem dM_freeNumber_25 : decode cM_freeNumber 25 = .ok (.bipush 97, 2) := by decide +kernel
theorem dM_freeNumber_27 : decode cM_freeNumber 27 = .ok (.if_icmp .ge 44, 3) := by decide +kernel
theorem dM_freeNumber_30 : decode cM_freeNumber 30 = .ok (.iconst 0, 1) := by decide +kernel
theorem dM_freeNumber_31 : decode cM_freeNumber 31 = .ok (.istore_n 2, 1) := by decide +kernel
theorem dM_freeNumber_32 : decode cM_freeNumber 32 = .ok (.iload_n 2, 1) := by decide +kernel
theorem dM_freeNumber_33 : decode cM_freeNumber 33 = .ok (.aload_n 0, 1) := by decide +kernel
theorem dM_freeNumber_34 : decode cM_freeNumber 34 = .ok (.getfield 44, 3) := by decide +kernel
theorem dM_freeNumber_37 : decode cM_freeNumber 37 = .ok (.iload_n 1, 1) := by decide +kernel
theorem dM_freeNumber_38 : decode cM_freeNumber 38 = .ok (.iaload, 1) := by decide +kernel
theorem dM_freeNumber_39 : decode cM_freeNumber 39 = .ok (.if_icmp .ge 26, 3) := by decide +kernel
theorem dM_freeNumber_42 : decode cM_freeNumber 42 = .ok (.aload_n 0, 1) := by decide +kernel
theorem dM_freeNumber_43 : decode cM_freeNumber 43 = .ok (.getfield 50, 3) := by decide +kernel
theorem dM_freeNumber_46 : decode cM_freeNumber 46 = .ok (.aload_n 0, 1) := by decide +kernel
theorem dM_freeNumber_47 : decode cM_freeNumber 47 = .ok (.getfield 47, 3) := by decide +kernel
theorem dM_freeNumber_50 : decode cM_freeNumber 50 = .ok (.bipush 8, 2) := by decide +kernel
theorem dM_freeNumber_52 : decode cM_freeNumber 52 = .ok (.iload_n 1, 1) := by decide +kernel
theorem dM_freeNumber_53 : decode cM_freeNumber 53 = .ok (.imul, 1) := by decide +kernel
theorem dM_freeNumber_54 : decode cM_freeNumber 54 = .ok (.iload_n 2, 1) := by decide +kernel
theorem dM_freeNumber_55 : decode cM_freeNumber 55 = .ok (.iadd, 1) := by decide +kernel
theorem dM_freeNumber_56 : decode cM_freeNumber 56 = .ok (.iaload, 1) := by decide +kernel
theorem dM_freeNumber_57 : decode cM_freeNumber 57 = .ok (.iconst 1, 1) := by decide +kernel
theorem dM_freeNumber_58 : decode cM_freeNumber 58 = .ok (.bastore, 1) := by decide +kernel
theorem dM_freeNumber_59 : decode cM_freeNumber 59 = .ok (.iinc 2 1, 3) := by decide +kernel
theorem dM_freeNumber_62 : decode cM_freeNumber 62 = .ok (.goto (-30), 3) := by decide +kernel
theorem dM_freeNumber_65 : decode cM_freeNumber 65 = .ok (.iinc 1 1, 3) := by decide +kernel
theorem dM_freeNumber_68 : decode cM_freeNumber 68 = .ok (.goto (-44), 3) := by decide +kernel
theorem dM_freeNumber_71 : decode cM_freeNumber 71 = .ok (.iconst 0, 1) := by decide +kernel
theorem dM_freeNumber_72 : decode cM_freeNumber 72 = .ok (.istore_n 1, 1) := by decide +kernel
theorem dM_freeNumber_73 : decode cM_freeNumber 73 = .ok (.iload_n 1, 1) := by decide +kernel
theorem dM_freeNumber_74 : decode cM_freeNumber 74 = .ok (.aload_n 0, 1) := by decide +kernel
theorem dM_freeNumber_75 : decode cM_freeNumber 75 = .ok (.getfield 83, 3) := by decide +kernel
theorem dM_freeNumber_78 : decode cM_freeNumber 78 = .ok (.if_icmp .ge 21, 3) := by decide +kernel
theorem dM_freeNumber_81 : decode cM_freeNumber 81 = .ok (.aload_n 0, 1) := by decide +kernel
theorem dM_freeNumber_82 : decode cM_freeNumber 82 = .ok (.getfield 50, 3) := by decide +kernel
theorem dM_freeNumber_85 : decode cM_freeNumber 85 = .ok (.aload_n 0, 1) := by decide +kernel
theorem dM_freeNumber_86 : decode cM_freeNumber 86 = .ok (.getfield 53, 3) := by decide +kernel
theorem dM_freeNumber_89 : decode cM_freeNumber 89 = .ok (.iload_n 1, 1) := by decide +kernel
theorem dM_freeNumber_90 : decode cM_freeNumber 90 = .ok (.iaload, 1) := by decide +kernel
theorem dM_freeNumber_91 : decode cM_freeNumber 91 = .ok (.iconst 1, 1) := by decide +kernel
theorem dM_freeNumber_92 : decode cM_freeNumber 92 = .ok (.bastore, 1) := by decide +kernel
theorem dM_freeNumber_93 : decode cM_freeNumber 93 = .ok (.iinc 1 1, 3) := by decide +kernel
theorem dM_freeNumber_96 : decode cM_freeNumber 96 = .ok (.goto (-23), 3) := by decide +kernel
theorem dM_freeNumber_99 : decode cM_freeNumber 99 = .ok (.iconst 0, 1) := by decide +kernel
theorem dM_freeNumber_100 : decode cM_freeNumber 100 = .ok (.istore_n 1, 1) := by decide +kernel
theorem dM_freeNumber_101 : decode cM_freeNumber 101 = .ok (.iload_n 1, 1) := by decide +kernel
theorem dM_freeNumber_102 : decode cM_freeNumber 102 = .ok (.aload_n 0, 1) := by decide +kernel
theorem dM_freeNumber_103 : decode cM_freeNumber 103 = .ok (.getfield 86, 3) := by decide +kernel
theorem dM_freeNumber_106 : decode cM_freeNumber 106 = .ok (.if_icmp .ge 21, 3) := by decide +kernel
theorem dM_freeNumber_109 : decode cM_freeNumber 109 = .ok (.aload_n 0, 1) := by decide +kernel
theorem dM_freeNumber_110 : decode cM_freeNumber 110 = .ok (.getfield 50, 3) := by decide +kernel
theorem dM_freeNumber_113 : decode cM_freeNumber 113 = .ok (.aload_n 0, 1) := by decide +kernel
theorem dM_freeNumber_114 : decode cM_freeNumber 114 = .ok (.getfield 56, 3) := by decide +kernel
theorem dM_freeNumber_117 : decode cM_freeNumber 117 = .ok (.iload_n 1, 1) := by decide +kernel
theorem dM_freeNumber_118 : decode cM_freeNumber 118 = .ok (.iaload, 1) := by decide +kernel
theorem dM_freeNumber_119 : decode cM_freeNumber 119 = .ok (.iconst 1, 1) := by decide +kernel
theorem dM_freeNumber_120 : decode cM_freeNumber 120 = .ok (.bastore, 1) := by decide +kernel
theorem dM_freeNumber_121 : decode cM_freeNumber 121 = .ok (.iinc 1 1, 3) := by decide +kernel
theorem dM_freeNumber_124 : decode cM_freeNumber 124 = .ok (.goto (-23), 3) := by decide +kernel
theorem dM_freeNumber_127 : decode cM_freeNumber 127 = .ok (.iconst 0, 1) := by decide +kernel
theorem dM_freeNumber_128 : decode cM_freeNumber 128 = .ok (.istore_n 1, 1) := by decide +kernel
theorem dM_freeNumber_129 : decode cM_freeNumber 129 = .ok (.aload_n 0, 1) := by decide +kernel
theorem dM_freeNumber_130 : decode cM_freeNumber 130 = .ok (.getfield 50, 3) := by decide +kernel
theorem dM_freeNumber_133 : decode cM_freeNumber 133 = .ok (.iload_n 1, 1) := by decide +kernel
theorem dM_freeNumber_134 : decode cM_freeNumber 134 = .ok (.baload, 1) := by decide +kernel
theorem dM_freeNumber_135 : decode cM_freeNumber 135 = .ok (.ifCond .eq 9, 3) := by decide +kernel
theorem dM_freeNumber_138 : decode cM_freeNumber 138 = .ok (.iinc 1 1, 3) := by decide +kernel
theorem dM_freeNumber_141 : decode cM_freeNumber 141 = .ok (.goto (-12), 3) := by decide +kernel
theorem dM_freeNumber_144 : decode cM_freeNumber 144 = .ok (.iload_n 1, 1) := by decide +kernel
theorem dM_freeNumber_145 : decode cM_freeNumber 145 = .ok (.ireturn, 1) := by decide +kernel
theorem dM_append_0 : decode cM_append 0 = .ok (.aload_n 0, 1) := by decide +kernel
theorem dM_append_1 : decode cM_append 1 = .ok (.getfield 47, 3) := by decide +kernel
theorem dM_append_4 : decode cM_append 4 = .ok (.bipush 8, 2) := by decide +kernel
theorem dM_append_6 : decode cM_append 6 = .ok (.iload_n 1, 1) := by decide +kernel
theorem dM_append_7 : decode cM_append 7 = .ok (.imul, 1) := by decide +kernel
theorem dM_append_8 : decode cM_append 8 = .ok (.aload_n 0, 1) := by decide +kernel
theorem dM_append_9 : decode cM_append 9 = .ok (.getfield 44, 3) := by decide +kernel
theorem dM_append_12 : decode cM_append 12 = .ok (.iload_n 1, 1) := by decide +kernel
theorem dM_append_13 : decode cM_append 13 = .ok (.iaload, 1) := by decide +kernel
theorem dM_append_14 : decode cM_append 14 = .ok (.iadd, 1) := by decide +kernel
theorem dM_append_15 : decode cM_append 15 = .ok (.iload_n 2, 1) := by decide +kernel
theorem dM_append_16 : decode cM_append 16 = .ok (.iastore, 1) := by decide +kernel
theorem dM_append_17 : decode cM_append 17 = .ok (.aload_n 0, 1) := by decide +kernel
theorem dM_append_18 : decode cM_append 18 = .ok (.getfield 44, 3) := by decide +kernel
theorem dM_append_21 : decode cM_append 21 = .ok (.iload_n 1, 1) := by decide +kernel
theorem dM_append_22 : decode cM_append 22 = .ok (.dup2, 1) := by decide +kernel
theorem dM_append_23 : decode cM_append 23 = .ok (.iaload, 1) := by decide +kernel
theorem dM_append_24 : decode cM_append 24 = .ok (.iconst 1, 1) := by decide +kernel
theorem dM_append_25 : decode cM_append 25 = .ok (.iadd, 1) := by decide +kernel
theorem dM_append_26 : decode cM_append 26 = .ok (.iastore, 1) := by decide +kernel
theorem dM_append_27 : decode cM_append 27 = .ok (.return_, 1) := by decide +kernel
theorem dM_alone_0 : decode cM_alone 0 = .ok (.aload_n 0, 1) := by decide +kernel
theorem dM_alone_1 : decode cM_alone 1 = .ok (.getfield 31, 3) := by decide +kernel
theorem dM_alone_4 : decode cM_alone 4 = .ok (.iload_n 2, 1) := by decide +kernel
theorem dM_alone_5 : decode cM_alone 5 = .ok (.iconst 0, 1) := by decide +kernel
theorem dM_alone_6 : decode cM_alone 6 = .ok (.bastore, 1) := by decide +kernel
theorem dM_alone_7 : decode cM_alone 7 = .ok (.aload_n 0, 1) := by decide +kernel
theorem dM_alone_8 : decode cM_alone 8 = .ok (.getfield 35, 3) := by decide +kernel
theorem dM_alone_11 : decode cM_alone 11 = .ok (.iload_n 2, 1) := by decide +kernel
theorem dM_alone_12 : decode cM_alone 12 = .ok (.baload, 1) := by decide +kernel
theorem dM_alone_13 : decode cM_alone 13 = .ok (.ifCond .eq 42, 3) := by decide +kernel
theorem dM_alone_16 : decode cM_alone 16 = .ok (.aload_n 0, 1) := by decide +kernel
theorem dM_alone_17 : decode cM_alone 17 = .ok (.iload_n 2, 1) := by decide +kernel
theorem dM_alone_18 : decode cM_alone 18 = .ok (.invokevirtual 150, 3) := by decide +kernel
theorem dM_alone_21 : decode cM_alone 21 = .ok (.istore_n 3, 1) := by decide +kernel
theorem dM_alone_22 : decode cM_alone 22 = .ok (.aload_n 0, 1) := by decide +kernel
theorem dM_alone_23 : decode cM_alone 23 = .ok (.getfield 38, 3) := by decide +kernel
theorem dM_alone_26 : decode cM_alone 26 = .ok (.iload_n 3, 1) := by decide +kernel
theorem dM_alone_27 : decode cM_alone 27 = .ok (.aload_n 0, 1) := by decide +kernel
theorem dM_alone_28 : decode cM_alone 28 = .ok (.getfield 38, 3) := by decide +kernel
theorem dM_alone_31 : decode cM_alone 31 = .ok (.iload_n 2, 1) := by decide +kernel
theorem dM_alone_32 : decode cM_alone 32 = .ok (.iaload, 1) := by decide +kernel
theorem dM_alone_33 : decode cM_alone 33 = .ok (.iastore, 1) := by decide +kernel
theorem dM_alone_34 : decode cM_alone 34 = .ok (.aload_n 0, 1) := by decide +kernel
theorem dM_alone_35 : decode cM_alone 35 = .ok (.getfield 56, 3) := by decide +kernel
theorem dM_alone_38 : decode cM_alone 38 = .ok (.aload_n 0, 1) := by decide +kernel
theorem dM_alone_39 : decode cM_alone 39 = .ok (.getfield 86, 3) := by decide +kernel
theorem dM_alone_42 : decode cM_alone 42 = .ok (.iload_n 3, 1) := by decide +kernel
theorem dM_alone_43 : decode cM_alone 43 = .ok (.iastore, 1) := by decide +kernel
theorem dM_alone_44 : decode cM_alone 44 = .ok (.aload_n 0, 1) := by decide +kernel
theorem dM_alone_45 : decode cM_alone 45 = .ok (.dup, 1) := by decide +kernel
theorem dM_alone_46 : decode cM_alone 46 = .ok (.getfield 86, 3) := by decide +kernel
theorem dM_alone_49 : decode cM_alone 49 = .ok (.iconst 1, 1) := by decide +kernel
theorem dM_alone_50 : decode cM_alone 50 = .ok (.iadd, 1) := by decide +kernel
theorem dM_alone_51 : decode cM_alone 51 = .ok (.putfield 86, 3) := by decide +kernel
theorem dM_alone_54 : decode cM_alone 54 = .ok (.return_, 1) := by decide +kernel
theorem dM_alone_55 : decode cM_alone 55 = .ok (.aload_n 0, 1) := by decide +kernel
theorem dM_alone_56 : decode cM_alone 56 = .ok (.getfield 62, 3) := by decide +kernel
theorem dM_alone_59 : decode cM_alone 59 = .ok (.bipush 8, 2) := by decide +kernel
theorem dM_alone_61 : decode cM_alone 61 = .ok (.dup2, 1) := by decide +kernel
theorem dM_alone_62 : decode cM_alone 62 = .ok (.iaload, 1) := by decide +kernel
theorem dM_alone_63 : decode cM_alone 63 = .ok (.iconst 1, 1) := by decide +kernel
theorem dM_alone_64 : decode cM_alone 64 = .ok (.iadd, 1) := by decide +kernel
theorem dM_alone_65 : decode cM_alone 65 = .ok (.iastore, 1) := by decide +kernel
theorem dM_alone_66 : decode cM_alone 66 = .ok (.aload_n 0, 1) := by decide +kernel
theorem dM_alone_67 : decode cM_alone 67 = .ok (.aload_n 0, 1) := by decide +kernel
theorem dM_alone_68 : decode cM_alone 68 = .ok (.getfield 20, 3) := by decide +kernel
theorem dM_alone_71 : decode cM_alone 71 = .ok (.iload_n 2, 1) := by decide +kernel
theorem dM_alone_72 : decode cM_alone 72 = .ok (.laload, 1) := by decide +kernel
theorem dM_alone_73 : decode cM_alone 73 = .ok (.iconst 2, 1) := by decide +kernel
theorem dM_alone_74 : decode cM_alone 74 = .ok (.invokevirtual 157, 3) := by decide +kernel
theorem dM_alone_77 : decode cM_alone 77 = .ok (.pop, 1) := by decide +kernel
theorem dM_alone_78 : decode cM_alone 78 = .ok (.return_, 1) := by decide +kernel
theorem dM_removeOld_0 : decode cM_removeOld 0 = .ok (.aload_n 0, 1) := by decide +kernel
theorem dM_removeOld_1 : decode cM_removeOld 1 = .ok (.lload_n 1, 1) := by decide +kernel
theorem dM_removeOld_2 : decode cM_removeOld 2 = .ok (.invokevirtual 161, 3) := by decide +kernel
theorem dM_removeOld_5 : decode cM_removeOld 5 = .ok (.ifCond .ne 5, 3) := by decide +kernel
theorem dM_removeOld_8 : decode cM_removeOld 8 = .ok (.iconst 0, 1) := by decide +kernel
theorem dM_removeOld_9 : decode cM_removeOld 9 = .ok (.ireturn, 1) := by decide +kernel
theorem dM_removeOld_10 : decode cM_removeOld 10 = .ok (.aload_n 0, 1) := by decide +kernel
theorem dM_removeOld_11 : decode cM_removeOld 11 = .ok (.lload_n 1, 1) := by decide +kernel
theorem dM_removeOld_12 : decode cM_removeOld 12 = .ok (.invokevirtual 143, 3) := by decide +kernel
theorem dM_removeOld_15 : decode cM_removeOld 15 = .ok (.istore 4, 2) := by decide +kernel
theorem dM_removeOld_17 : decode cM_removeOld 17 = .ok (.iload 4, 2) := by decide +kernel
theorem dM_removeOld_19 : decode cM_removeOld 19 = .ok (.ifCond .ge 5, 3) := by decide +kernel
theorem dM_removeOld_22 : decode cM_removeOld 22 = .ok (.iconst 0, 1) := by decide +kernel
theorem dM_removeOld_23 : decode cM_removeOld 23 = .ok (.ireturn, 1) := by decide +kernel
theorem dM_removeOld_24 : decode cM_removeOld 24 = .ok (.aload_n 0, 1) := by decide +kernel
theorem dM_removeOld_25 : decode cM_removeOld 25 = .ok (.lload_n 1, 1) := by decide +kernel
theorem dM_removeOld_26 : decode cM_removeOld 26 = .ok (.invokestatic 89, 3) := by decide +kernel
theorem dM_removeOld_29 : decode cM_removeOld 29 = .ok (.iload 4, 2) := by decide +kernel
theorem dM_removeOld_31 : decode cM_removeOld 31 = .ok (.invokevirtual 140, 3) := by decide +kernel
theorem dM_removeOld_34 : decode cM_removeOld 34 = .ok (.aload_n 0, 1) := by decide +kernel
theorem dM_removeOld_35 : decode cM_removeOld 35 = .ok (.getfield 62, 3) := by decide +kernel
theorem dM_removeOld_38 : decode cM_removeOld 38 = .ok (.iload_n 3, 1) := by decide +kernel
theorem dM_removeOld_39 : decode cM_removeOld 39 = .ok (.dup2, 1) := by decide +kernel
theorem dM_removeOld_40 : decode cM_removeOld 40 = .ok (.iaload, 1) := by decide +kernel
theorem dM_removeOld_41 : decode cM_removeOld 41 = .ok (.iconst 1, 1) := by decide +kernel
theorem dM_removeOld_42 : decode cM_removeOld 42 = .ok (.iadd, 1) := by decide +kernel
theorem dM_removeOld_43 : decode cM_removeOld 43 = .ok (.iastore, 1) := by decide +kernel
theorem dM_removeOld_44 : decode cM_removeOld 44 = .ok (.iconst 1, 1) := by decide +kernel
theorem dM_removeOld_45 : decode cM_removeOld 45 = .ok (.ireturn, 1) := by decide +kernel
theorem dM_reads_0 : decode cM_reads 0 = .ok (.lload_n 1, 1) := by decide +kernel
theorem dM_reads_1 : decode cM_reads 1 = .ok (.invokestatic 89, 3) := by decide +kernel
theorem dM_reads_4 : decode cM_reads 4 = .ok (.istore_n 3, 1) := by decide +kernel
theorem dM_reads_5 : decode cM_reads 5 = .ok (.iconst 0, 1) := by decide +kernel
theorem dM_reads_6 : decode cM_reads 6 = .ok (.istore 4, 2) := by decide +kernel
theorem dM_reads_8 : decode cM_reads 8 = .ok (.iconst 0, 1) := by decide +kernel
theorem dM_reads_9 : decode cM_reads 9 = .ok (.istore 5, 2) := by decide +kernel
theorem dM_reads_11 : decode cM_reads 11 = .ok (.iload 5, 2) := by decide +kernel
theorem dM_reads_13 : decode cM_reads 13 = .ok (.aload_n 0, 1) := by decide +kernel
theorem dM_reads_14 : decode cM_reads 14 = .ok (.getfield 44, 3) := by decide +kernel
theorem dM_reads_17 : decode cM_reads 17 = .ok (.iload_n 3, 1) := by decide +kernel
theorem dM_reads_18 : decode cM_reads 18 = .ok (.iaload, 1) := by decide +kernel
theorem dM_reads_19 : decode cM_reads 19 = .ok (.if_icmp .ge 48, 3) := by decide +kernel
theorem dM_reads_22 : decode cM_reads 22 = .ok (.iload 4, 2) := by decide +kernel
theorem dM_reads_24 : decode cM_reads 24 = .ok (.ifCond .ne 30, 3) := by decide +kernel
theorem dM_reads_27 : decode cM_reads 27 = .ok (.aload_n 0, 1) := by decide +kernel
theorem dM_reads_28 : decode cM_reads 28 = .ok (.getfield 20, 3) := by decide +kernel
theorem dM_reads_31 : decode cM_reads 31 = .ok (.aload_n 0, 1) := by decide +kernel
theorem dM_reads_32 : decode cM_reads 32 = .ok (.getfield 47, 3) := by decide +kernel
theorem dM_reads_35 : decode cM_reads 35 = .ok (.bipush 8, 2) := by decide +kernel
theorem dM_reads_37 : decode cM_reads 37 = .ok (.iload_n 3, 1) := by decide +kernel
theorem dM_reads_38 : decode cM_reads 38 = .ok (.imul, 1) := by decide +kernel
theorem dM_reads_39 : decode cM_reads 39 = .ok (.iload 5, 2) := by decide +kernel
theorem dM_reads_41 : decode cM_reads 41 = .ok (.iadd, 1) := by decide +kernel
theorem dM_reads_42 : decode cM_reads 42 = .ok (.iaload, 1) := by decide +kernel
theorem dM_reads_43 : decode cM_reads 43 = .ok (.laload, 1) := by decide +kernel
theorem dM_reads_44 : decode cM_reads 44 = .ok (.invokestatic 93, 3) := by decide +kernel
theorem dM_reads_47 : decode cM_reads 47 = .ok (.lload_n 1, 1) := by decide +kernel
theorem dM_reads_48 : decode cM_reads 48 = .ok (.invokestatic 93, 3) := by decide +kernel
theorem dM_reads_51 : decode cM_reads 51 = .ok (.if_icmp .ne 7, 3) := by decide +kernel
theorem dM_reads_54 : decode cM_reads 54 = .ok (.iconst 1, 1) := by decide +kernel
theorem dM_reads_55 : decode cM_reads 55 = .ok (.goto 4, 3) := by decide +kernel
theorem dM_reads_58 : decode cM_reads 58 = .ok (.iconst 0, 1) := by decide +kernel
theorem dM_reads_59 : decode cM_reads 59 = .ok (.istore 4, 2) := by decide +kernel
theorem dM_reads_61 : decode cM_reads 61 = .ok (.iinc 5 1, 3) := by decide +kernel
theorem dM_reads_64 : decode cM_reads 64 = .ok (.goto (-53), 3) := by decide +kernel
theorem dM_reads_67 : decode cM_reads 67 = .ok (.iload 4, 2) := by decide +kernel
theorem dM_reads_69 : decode cM_reads 69 = .ok (.ifCond .eq 14, 3) := by decide +kernel
theorem dM_reads_72 : decode cM_reads 72 = .ok (.aload_n 0, 1) := by decide +kernel
theorem dM_reads_73 : decode cM_reads 73 = .ok (.getfield 62, 3) := by decide +kernel
theorem dM_reads_76 : decode cM_reads 76 = .ok (.bipush 9, 2) := by decide +kernel
theorem dM_reads_78 : decode cM_reads 78 = .ok (.dup2, 1) := by decide +kernel
theorem dM_reads_79 : decode cM_reads 79 = .ok (.iaload, 1) := by decide +kernel
theorem dM_reads_80 : decode cM_reads 80 = .ok (.iconst 1, 1) := by decide +kernel
theorem dM_reads_81 : decode cM_reads 81 = .ok (.iadd, 1) := by decide +kernel
theorem dM_reads_82 : decode cM_reads 82 = .ok (.iastore, 1) := by decide +kernel
theorem dM_reads_83 : decode cM_reads 83 = .ok (.iload 4, 2) := by decide +kernel
theorem dM_reads_85 : decode cM_reads 85 = .ok (.ireturn, 1) := by decide +kernel
theorem dM_bitOf_0 : decode cM_bitOf 0 = .ok (.lload_n 0, 1) := by decide +kernel
theorem dM_bitOf_1 : decode cM_bitOf 1 = .ok (.invokestatic 73, 3) := by decide +kernel
theorem dM_bitOf_4 : decode cM_bitOf 4 = .ok (.ldc2_w 77, 3) := by decide +kernel
theorem dM_bitOf_7 : decode cM_bitOf 7 = .ok (.land, 1) := by decide +kernel
theorem dM_bitOf_8 : decode cM_bitOf 8 = .ok (.l2i, 1) := by decide +kernel
theorem dM_bitOf_9 : decode cM_bitOf 9 = .ok (.ireturn, 1) := by decide +kernel
theorem dM_writeOpen_0 : decode cM_writeOpen 0 = .ok (.bipush 64, 2) := by decide +kernel
theorem dM_writeOpen_2 : decode cM_writeOpen 2 = .ok (.aload_n 0, 1) := by decide +kernel
theorem dM_writeOpen_3 : decode cM_writeOpen 3 = .ok (.getfield 96, 3) := by decide +kernel
theorem dM_writeOpen_6 : decode cM_writeOpen 6 = .ok (.bipush 32, 2) := by decide +kernel
theorem dM_writeOpen_8 : decode cM_writeOpen 8 = .ok (.irem, 1) := by decide +kernel
theorem dM_writeOpen_9 : decode cM_writeOpen 9 = .ok (.iadd, 1) := by decide +kernel
theorem dM_writeOpen_10 : decode cM_writeOpen 10 = .ok (.istore_n 1, 1) := by decide +kernel
theorem dM_writeOpen_11 : decode cM_writeOpen 11 = .ok (.aload_n 0, 1) := by decide +kernel
theorem dM_writeOpen_12 : decode cM_writeOpen 12 = .ok (.getfield 44, 3) := by decide +kernel
theorem dM_writeOpen_15 : decode cM_writeOpen 15 = .ok (.iload_n 1, 1) := by decide +kernel
theorem dM_writeOpen_16 : decode cM_writeOpen 16 = .ok (.iconst 0, 1) := by decide +kernel
theorem dM_writeOpen_17 : decode cM_writeOpen 17 = .ok (.iastore, 1) := by decide +kernel
theorem dM_writeOpen_18 : decode cM_writeOpen 18 = .ok (.iconst 0, 1) := by decide +kernel
theorem dM_writeOpen_19 : decode cM_writeOpen 19 = .ok (.istore_n 2, 1) := by decide +kernel
theorem dM_writeOpen_20 : decode cM_writeOpen 20 = .ok (.iload_n 2, 1) := by decide +kernel
theorem dM_writeOpen_21 : decode cM_writeOpen 21 = .ok (.aload_n 0, 1) := by decide +kernel
theorem dM_writeOpen_22 : decode cM_writeOpen 22 = .ok (.getfield 44, 3) := by decide +kernel
theorem dM_writeOpen_25 : decode cM_writeOpen 25 = .ok (.bipush 96, 2) := by decide +kernel
theorem dM_writeOpen_27 : decode cM_writeOpen 27 = .ok (.iaload, 1) := by decide +kernel
theorem dM_writeOpen_28 : decode cM_writeOpen 28 = .ok (.if_icmp .ge 24, 3) := by decide +kernel
theorem dM_writeOpen_31 : decode cM_writeOpen 31 = .ok (.aload_n 0, 1) := by decide +kernel
theorem dM_writeOpen_32 : decode cM_writeOpen 32 = .ok (.iload_n 1, 1) := by decide +kernel
theorem dM_writeOpen_33 : decode cM_writeOpen 33 = .ok (.aload_n 0, 1) := by decide +kernel
theorem dM_writeOpen_34 : decode cM_writeOpen 34 = .ok (.getfield 47, 3) := by decide +kernel
theorem dM_writeOpen_37 : decode cM_writeOpen 37 = .ok (.sipush 768, 3) := by decide +kernel
theorem dM_writeOpen_40 : decode cM_writeOpen 40 = .ok (.iload_n 2, 1) := by decide +kernel
theorem dM_writeOpen_41 : decode cM_writeOpen 41 = .ok (.iadd, 1) := by decide +kernel
theorem dM_writeOpen_42 : decode cM_writeOpen 42 = .ok (.iaload, 1) := by decide +kernel
theorem dM_writeOpen_43 : decode cM_writeOpen 43 = .ok (.invokevirtual 99, 3) := by decide +kernel
theorem dM_writeOpen_46 : decode cM_writeOpen 46 = .ok (.iinc 2 1, 3) := by decide +kernel
theorem dM_writeOpen_49 : decode cM_writeOpen 49 = .ok (.goto (-29), 3) := by decide +kernel
theorem dM_writeOpen_52 : decode cM_writeOpen 52 = .ok (.aload_n 0, 1) := by decide +kernel
theorem dM_writeOpen_53 : decode cM_writeOpen 53 = .ok (.getfield 44, 3) := by decide +kernel
theorem dM_writeOpen_56 : decode cM_writeOpen 56 = .ok (.bipush 96, 2) := by decide +kernel
theorem dM_writeOpen_58 : decode cM_writeOpen 58 = .ok (.iconst 0, 1) := by decide +kernel
theorem dM_writeOpen_59 : decode cM_writeOpen 59 = .ok (.iastore, 1) := by decide +kernel
theorem dM_writeOpen_60 : decode cM_writeOpen 60 = .ok (.aload_n 0, 1) := by decide +kernel
theorem dM_writeOpen_61 : decode cM_writeOpen 61 = .ok (.dup, 1) := by decide +kernel
theorem dM_writeOpen_62 : decode cM_writeOpen 62 = .ok (.getfield 96, 3) := by decide +kernel
theorem dM_writeOpen_65 : decode cM_writeOpen 65 = .ok (.iconst 1, 1) := by decide +kernel
theorem dM_writeOpen_66 : decode cM_writeOpen 66 = .ok (.iadd, 1) := by decide +kernel
theorem dM_writeOpen_67 : decode cM_writeOpen 67 = .ok (.putfield 96, 3) := by decide +kernel
theorem dM_writeOpen_70 : decode cM_writeOpen 70 = .ok (.aload_n 0, 1) := by decide +kernel
theorem dM_writeOpen_71 : decode cM_writeOpen 71 = .ok (.getfield 96, 3) := by decide +kernel
theorem dM_writeOpen_74 : decode cM_writeOpen 74 = .ok (.iconst 4, 1) := by decide +kernel
theorem dM_writeOpen_75 : decode cM_writeOpen 75 = .ok (.irem, 1) := by decide +kernel
theorem dM_writeOpen_76 : decode cM_writeOpen 76 = .ok (.ifCond .ne 13, 3) := by decide +kernel
theorem dM_writeOpen_79 : decode cM_writeOpen 79 = .ok (.aload_n 0, 1) := by decide +kernel
theorem dM_writeOpen_80 : decode cM_writeOpen 80 = .ok (.getfield 62, 3) := by decide +kernel
theorem dM_writeOpen_83 : decode cM_writeOpen 83 = .ok (.iconst 0, 1) := by decide +kernel
theorem dM_writeOpen_84 : decode cM_writeOpen 84 = .ok (.dup2, 1) := by decide +kernel
theorem dM_writeOpen_85 : decode cM_writeOpen 85 = .ok (.iaload, 1) := by decide +kernel
theorem dM_writeOpen_86 : decode cM_writeOpen 86 = .ok (.iconst 1, 1) := by decide +kernel
theorem dM_writeOpen_87 : decode cM_writeOpen 87 = .ok (.iadd, 1) := by decide +kernel
theorem dM_writeOpen_88 : decode cM_writeOpen 88 = .ok (.iastore, 1) := by decide +kernel
theorem dM_writeOpen_89 : decode cM_writeOpen 89 = .ok (.return_, 1) := by decide +kernel
theorem dM_sortAgain_0 : decode cM_sortAgain 0 = .ok (.iconst 1, 1) := by decide +kernel
theorem dM_sortAgain_1 : decode cM_sortAgain 1 = .ok (.istore_n 1, 1) := by decide +kernel
theorem dM_sortAgain_2 : decode cM_sortAgain 2 = .ok (.iload_n 1, 1) := by decide +kernel
theorem dM_sortAgain_3 : decode cM_sortAgain 3 = .ok (.aload_n 0, 1) := by decide +kernel
theorem dM_sortAgain_4 : decode cM_sortAgain 4 = .ok (.getfield 86, 3) := by decide +kernel
theorem dM_sortAgain_7 : decode cM_sortAgain 7 = .ok (.if_icmp .ge 78, 3) := by decide +kernel
theorem dM_sortAgain_10 : decode cM_sortAgain 10 = .ok (.iload_n 1, 1) := by decide +kernel
theorem dM_sortAgain_11 : decode cM_sortAgain 11 = .ok (.istore_n 2, 1) := by decide +kernel
theorem dM_sortAgain_12 : decode cM_sortAgain 12 = .ok (.iload_n 2, 1) := by decide +kernel
theorem dM_sortAgain_13 : decode cM_sortAgain 13 = .ok (.ifCond .le 66, 3) := by decide +kernel
theorem dM_sortAgain_16 : decode cM_sortAgain 16 = .ok (.aload_n 0, 1) := by decide +kernel
theorem dM_sortAgain_17 : decode cM_sortAgain 17 = .ok (.getfield 38, 3) := by decide +kernel
theorem dM_sortAgain_20 : decode cM_sortAgain 20 = .ok (.aload_n 0, 1) := by decide +kernel
theorem dM_sortAgain_21 : decode cM_sortAgain 21 = .ok (.getfield 56, 3) := by decide +kernel
theorem dM_sortAgain_24 : decode cM_sortAgain 24 = .ok (.iload_n 2, 1) := by decide +kernel
theorem dM_sortAgain_25 : decode cM_sortAgain 25 = .ok (.iaload, 1) := by decide +kernel
theorem dM_sortAgain_26 : decode cM_sortAgain 26 = .ok (.iaload, 1) := by decide +kernel
theorem dM_sortAgain_27 : decode cM_sortAgain 27 = .ok (.aload_n 0, 1) := by decide +kernel
theorem dM_sortAgain_28 : decode cM_sortAgain 28 = .ok (.getfield 38, 3) := by decide +kernel
theorem dM_sortAgain_31 : decode cM_sortAgain 31 = .ok (.aload_n 0, 1) := by decide +kernel
theorem dM_sortAgain_32 : decode cM_sortAgain 32 = .ok (.getfield 56, 3) := by decide +kernel
theorem dM_sortAgain_35 : decode cM_sortAgain 35 = .ok (.iload_n 2, 1) := by decide +kernel
theorem dM_sortAgain_36 : decode cM_sortAgain 36 = .ok (.iconst 1, 1) := by decide +kernel
theorem dM_sortAgain_37 : decode cM_sortAgain 37 = .ok (.isub, 1) := by decide +kernel
theorem dM_sortAgain_38 : decode cM_sortAgain 38 = .ok (.iaload, 1) := by decide +kernel
theorem dM_sortAgain_39 : decode cM_sortAgain 39 = .ok (.iaload, 1) := by decide +kernel
theorem dM_sortAgain_40 : decode cM_sortAgain 40 = .ok (.if_icmp .ge 39, 3) := by decide +kernel
theorem dM_sortAgain_43 : decode cM_sortAgain 43 = .ok (.aload_n 0, 1) := by decide +kernel
theorem dM_sortAgain_44 : decode cM_sortAgain 44 = .ok (.getfield 56, 3) := by decide +kernel
theorem dM_sortAgain_47 : decode cM_sortAgain 47 = .ok (.iload_n 2, 1) := by decide +kernel
theorem dM_sortAgain_48 : decode cM_sortAgain 48 = .ok (.iaload, 1) := by decide +kernel
theorem dM_sortAgain_49 : decode cM_sortAgain 49 = .ok (.istore_n 3, 1) := by decide +kernel
theorem dM_sortAgain_50 : decode cM_sortAgain 50 = .ok (.aload_n 0, 1) := by decide +kernel
theorem dM_sortAgain_51 : decode cM_sortAgain 51 = .ok (.getfield 56, 3) := by decide +kernel
theorem dM_sortAgain_54 : decode cM_sortAgain 54 = .ok (.iload_n 2, 1) := by decide +kernel
theorem dM_sortAgain_55 : decode cM_sortAgain 55 = .ok (.aload_n 0, 1) := by decide +kernel
theorem dM_sortAgain_56 : decode cM_sortAgain 56 = .ok (.getfield 56, 3) := by decide +kernel
theorem dM_sortAgain_59 : decode cM_sortAgain 59 = .ok (.iload_n 2, 1) := by decide +kernel
theorem dM_sortAgain_60 : decode cM_sortAgain 60 = .ok (.iconst 1, 1) := by decide +kernel
theorem dM_sortAgain_61 : decode cM_sortAgain 61 = .ok (.isub, 1) := by decide +kernel
theorem dM_sortAgain_62 : decode cM_sortAgain 62 = .ok (.iaload, 1) := by decide +kernel
theorem dM_sortAgain_63 : decode cM_sortAgain 63 = .ok (.iastore, 1) := by decide +kernel
theorem dM_sortAgain_64 : decode cM_sortAgain 64 = .ok (.aload_n 0, 1) := by decide +kernel
theorem dM_sortAgain_65 : decode cM_sortAgain 65 = .ok (.getfield 56, 3) := by decide +kernel
theorem dM_sortAgain_68 : decode cM_sortAgain 68 = .ok (.iload_n 2, 1) := by decide +kernel
theorem dM_sortAgain_69 : decode cM_sortAgain 69 = .ok (.iconst 1, 1) := by decide +kernel
theorem dM_sortAgain_70 : decode cM_sortAgain 70 = .ok (.isub, 1) := by decide +kernel
theorem dM_sortAgain_71 : decode cM_sortAgain 71 = .ok (.iload_n 3, 1) := by decide +kernel
theorem dM_sortAgain_72 : decode cM_sortAgain 72 = .ok (.iastore, 1) := by decide +kernel
theorem dM_sortAgain_73 : decode cM_sortAgain 73 = .ok (.iinc 2 (-1), 3) := by decide +kernel
theorem dM_sortAgain_76 : decode cM_sortAgain 76 = .ok (.goto (-64), 3) := by decide +kernel
theorem dM_sortAgain_79 : decode cM_sortAgain 79 = .ok (.iinc 1 1, 3) := by decide +kernel
theorem dM_sortAgain_82 : decode cM_sortAgain 82 = .ok (.goto (-80), 3) := by decide +kernel
theorem dM_sortAgain_85 : decode cM_sortAgain 85 = .ok (.return_, 1) := by decide +kernel
theorem dM_putAnew_0 : decode cM_putAnew 0 = .ok (.aload_n 0, 1) := by decide +kernel
theorem dM_putAnew_1 : decode cM_putAnew 1 = .ok (.bipush 96, 2) := by decide +kernel
theorem dM_putAnew_3 : decode cM_putAnew 3 = .ok (.invokevirtual 122, 3) := by decide +kernel
theorem dM_putAnew_6 : decode cM_putAnew 6 = .ok (.aload_n 0, 1) := by decide +kernel
theorem dM_putAnew_7 : decode cM_putAnew 7 = .ok (.iload_n 1, 1) := by decide +kernel
theorem dM_putAnew_8 : decode cM_putAnew 8 = .ok (.invokevirtual 79, 3) := by decide +kernel
theorem dM_putAnew_11 : decode cM_putAnew 11 = .ok (.iadd, 1) := by decide +kernel
theorem dM_putAnew_12 : decode cM_putAnew 12 = .ok (.bipush 32, 2) := by decide +kernel
theorem dM_putAnew_14 : decode cM_putAnew 14 = .ok (.if_icmp .le 7, 3) := by decide +kernel
theorem dM_putAnew_17 : decode cM_putAnew 17 = .ok (.aload_n 0, 1) := by decide +kernel
theorem dM_putAnew_18 : decode cM_putAnew 18 = .ok (.invokevirtual 113, 3) := by decide +kernel
theorem dM_putAnew_21 : decode cM_putAnew 21 = .ok (.aload_n 0, 1) := by decide +kernel
theorem dM_putAnew_22 : decode cM_putAnew 22 = .ok (.iload_n 1, 1) := by decide +kernel
theorem dM_putAnew_23 : decode cM_putAnew 23 = .ok (.invokevirtual 125, 3) := by decide +kernel
theorem dM_putAnew_26 : decode cM_putAnew 26 = .ok (.aload_n 0, 1) := by decide +kernel
theorem dM_putAnew_27 : decode cM_putAnew 27 = .ok (.getfield 62, 3) := by decide +kernel
theorem dM_putAnew_30 : decode cM_putAnew 30 = .ok (.bipush 10, 2) := by decide +kernel
theorem dM_putAnew_32 : decode cM_putAnew 32 = .ok (.dup2, 1) := by decide +kernel
theorem dM_putAnew_33 : decode cM_putAnew 33 = .ok (.iaload, 1) := by decide +kernel
theorem dM_putAnew_34 : decode cM_putAnew 34 = .ok (.iconst 1, 1) := by decide +kernel
theorem dM_putAnew_35 : decode cM_putAnew 35 = .ok (.iadd, 1) := by decide +kernel
theorem dM_putAnew_36 : decode cM_putAnew 36 = .ok (.iastore, 1) := by decide +kernel
theorem dM_putAnew_37 : decode cM_putAnew 37 = .ok (.return_, 1) := by decide +kernel
theorem dM_enter_0 : decode cM_enter 0 = .ok (.aload_n 0, 1) := by decide +kernel
theorem dM_enter_1 : decode cM_enter 1 = .ok (.aload_n 0, 1) := by decide +kernel
theorem dM_enter_2 : decode cM_enter 2 = .ok (.getfield 20, 3) := by decide +kernel
theorem dM_enter_5 : decode cM_enter 5 = .ok (.iload_n 1, 1) := by decide +kernel
theorem dM_enter_6 : decode cM_enter 6 = .ok (.laload, 1) := by decide +kernel
theorem dM_enter_7 : decode cM_enter 7 = .ok (.invokevirtual 103, 3) := by decide +kernel
theorem dM_enter_10 : decode cM_enter 10 = .ok (.istore_n 2, 1) := by decide +kernel
theorem dM_enter_11 : decode cM_enter 11 = .ok (.iload_n 2, 1) := by decide +kernel
theorem dM_enter_12 : decode cM_enter 12 = .ok (.ifCond .lt 10, 3) := by decide +kernel
theorem dM_enter_15 : decode cM_enter 15 = .ok (.aload_n 0, 1) := by decide +kernel
theorem dM_enter_16 : decode cM_enter 16 = .ok (.getfield 31, 3) := by decide +kernel
theorem dM_enter_19 : decode cM_enter 19 = .ok (.iload_n 2, 1) := by decide +kernel
theorem dM_enter_20 : decode cM_enter 20 = .ok (.iconst 0, 1) := by decide +kernel
theorem dM_enter_21 : decode cM_enter 21 = .ok (.bastore, 1) := by decide +kernel
theorem dM_enter_22 : decode cM_enter 22 = .ok (.aload_n 0, 1) := by decide +kernel
theorem dM_enter_23 : decode cM_enter 23 = .ok (.bipush 96, 2) := by decide +kernel
theorem dM_enter_25 : decode cM_enter 25 = .ok (.iload_n 1, 1) := by decide +kernel
theorem dM_enter_26 : decode cM_enter 26 = .ok (.invokevirtual 99, 3) := by decide +kernel
theorem dM_enter_29 : decode cM_enter 29 = .ok (.aload_n 0, 1) := by decide +kernel
theorem dM_enter_30 : decode cM_enter 30 = .ok (.getfield 31, 3) := by decide +kernel
theorem dM_enter_33 : decode cM_enter 33 = .ok (.iload_n 1, 1) := by decide +kernel
theorem dM_enter_34 : decode cM_enter 34 = .ok (.iconst 1, 1) := by decide +kernel
theorem dM_enter_35 : decode cM_enter 35 = .ok (.bastore, 1) := by decide +kernel
theorem dM_enter_36 : decode cM_enter 36 = .ok (.aload_n 0, 1) := by decide +kernel
theorem dM_enter_37 : decode cM_enter 37 = .ok (.getfield 35, 3) := by decide +kernel
theorem dM_enter_40 : decode cM_enter 40 = .ok (.iload_n 1, 1) := by decide +kernel
theorem dM_enter_41 : decode cM_enter 41 = .ok (.iconst 0, 1) := by decide +kernel
theorem dM_enter_42 : decode cM_enter 42 = .ok (.bastore, 1) := by decide +kernel
theorem dM_enter_43 : decode cM_enter 43 = .ok (.aload_n 0, 1) := by decide +kernel
theorem dM_enter_44 : decode cM_enter 44 = .ok (.dup, 1) := by decide +kernel
theorem dM_enter_45 : decode cM_enter 45 = .ok (.getfield 106, 3) := by decide +kernel
theorem dM_enter_48 : decode cM_enter 48 = .ok (.iconst 1, 1) := by decide +kernel
theorem dM_enter_49 : decode cM_enter 49 = .ok (.iadd, 1) := by decide +kernel
theorem dM_enter_50 : decode cM_enter 50 = .ok (.putfield 106, 3) := by decide +kernel
theorem dM_enter_53 : decode cM_enter 53 = .ok (.aload_n 0, 1) := by decide +kernel
theorem dM_enter_54 : decode cM_enter 54 = .ok (.getfield 38, 3) := by decide +kernel
theorem dM_enter_57 : decode cM_enter 57 = .ok (.iload_n 1, 1) := by decide +kernel
theorem dM_enter_58 : decode cM_enter 58 = .ok (.aload_n 0, 1) := by decide +kernel
theorem dM_enter_59 : decode cM_enter 59 = .ok (.getfield 106, 3) := by decide +kernel
theorem dM_enter_62 : decode cM_enter 62 = .ok (.iastore, 1) := by decide +kernel
theorem dM_enter_63 : decode cM_enter 63 = .ok (.return_, 1) := by decide +kernel
theorem dM_newest_0 : decode cM_newest 0 = .ok (.iconst (-1), 1) := by decide +kernel
theorem dM_newest_1 : decode cM_newest 1 = .ok (.istore_n 3, 1) := by decide +kernel
theorem dM_newest_2 : decode cM_newest 2 = .ok (.bipush 64, 2) := by decide +kernel
theorem dM_newest_4 : decode cM_newest 4 = .ok (.istore 4, 2) := by decide +kernel
theorem dM_newest_6 : decode cM_newest 6 = .ok (.iload 4, 2) := by decide +kernel
theorem dM_newest_8 : decode cM_newest 8 = .ok (.bipush 97, 2) := by decide +kernel
theorem dM_newest_10 : decode cM_newest 10 = .ok (.if_icmp .ge 88, 3) := by decide +kernel
theorem dM_newest_13 : decode cM_newest 13 = .ok (.iconst 0, 1) := by decide +kernel
theorem dM_newest_14 : decode cM_newest 14 = .ok (.istore 5, 2) := by decide +kernel
theorem dM_newest_16 : decode cM_newest 16 = .ok (.iload 5, 2) := by decide +kernel
theorem dM_newest_18 : decode cM_newest 18 = .ok (.aload_n 0, 1) := by decide +kernel
theorem dM_newest_19 : decode cM_newest 19 = .ok (.getfield 44, 3) := by decide +kernel
theorem dM_newest_22 : decode cM_newest 22 = .ok (.iload 4, 2) := by decide +kernel
theorem dM_newest_24 : decode cM_newest 24 = .ok (.iaload, 1) := by decide +kernel
theorem dM_newest_25 : decode cM_newest 25 = .ok (.if_icmp .ge 67, 3) := by decide +kernel
theorem dM_newest_28 : decode cM_newest 28 = .ok (.aload_n 0, 1) := by decide +kernel
theorem dM_newest_29 : decode cM_newest 29 = .ok (.getfield 31, 3) := by decide +kernel
theorem dM_newest_32 : decode cM_newest 32 = .ok (.aload_n 0, 1) := by decide +kernel
theorem dM_newest_33 : decode cM_newest 33 = .ok (.getfield 47, 3) := by decide +kernel
theorem dM_newest_36 : decode cM_newest 36 = .ok (.bipush 8, 2) := by decide +kernel
theorem dM_newest_38 : decode cM_newest 38 = .ok (.iload 4, 2) := by decide +kernel
theorem dM_newest_40 : decode cM_newest 40 = .ok (.imul, 1) := by decide +kernel
theorem dM_newest_41 : decode cM_newest 41 = .ok (.iload 5, 2) := by decide +kernel
theorem dM_newest_43 : decode cM_newest 43 = .ok (.iadd, 1) := by decide +kernel
theorem dM_newest_44 : decode cM_newest 44 = .ok (.iaload, 1) := by decide +kernel
theorem dM_newest_45 : decode cM_newest 45 = .ok (.baload, 1) := by decide +kernel
theorem dM_newest_46 : decode cM_newest 46 = .ok (.ifCond .eq 40, 3) := by decide +kernel
theorem dM_newest_49 : decode cM_newest 49 = .ok (.aload_n 0, 1) := by decide +kernel
theorem dM_newest_50 : decode cM_newest 50 = .ok (.getfield 20, 3) := by decide +kernel
theorem dM_newest_53 : decode cM_newest 53 = .ok (.aload_n 0, 1) := by decide +kernel
theorem dM_newest_54 : decode cM_newest 54 = .ok (.getfield 47, 3) := by decide +kernel
theorem dM_newest_57 : decode cM_newest 57 = .ok (.bipush 8, 2) := by decide +kernel
theorem dM_newest_59 : decode cM_newest 59 = .ok (.iload 4, 2) := by decide +kernel
theorem dM_newest_61 : decode cM_newest 61 = .ok (.imul, 1) := by decide +kernel
theorem dM_newest_62 : decode cM_newest 62 = .ok (.iload 5, 2) := by decide +kernel
theorem dM_newest_64 : decode cM_newest 64 = .ok (.iadd, 1) := by decide +kernel
theorem dM_newest_65 : decode cM_newest 65 = .ok (.iaload, 1) := by decide +kernel
theorem dM_newest_66 : decode cM_newest 66 = .ok (.laload, 1) := by decide +kernel
theorem dM_newest_67 : decode cM_newest 67 = .ok (.lload_n 1, 1) := by decide +kernel
theorem dM_newest_68 : decode cM_newest 68 = .ok (.lcmp, 1) := by decide +kernel
theorem dM_newest_69 : decode cM_newest 69 = .ok (.ifCond .ne 17, 3) := by decide +kernel
theorem dM_newest_72 : decode cM_newest 72 = .ok (.aload_n 0, 1) := by decide +kernel
theorem dM_newest_73 : decode cM_newest 73 = .ok (.getfield 47, 3) := by decide +kernel
theorem dM_newest_76 : decode cM_newest 76 = .ok (.bipush 8, 2) := by decide +kernel
theorem dM_newest_78 : decode cM_newest 78 = .ok (.iload 4, 2) := by decide +kernel
theorem dM_newest_80 : decode cM_newest 80 = .ok (.imul, 1) := by decide +kernel
theorem dM_newest_81 : decode cM_newest 81 = .ok (.iload 5, 2) := by decide +kernel
theorem dM_newest_83 : decode cM_newest 83 = .ok (.iadd, 1) := by decide +kernel
theorem dM_newest_84 : decode cM_newest 84 = .ok (.iaload, 1) := by decide +kernel
theorem dM_newest_85 : decode cM_newest 85 = .ok (.istore_n 3, 1) := by decide +kernel
theorem dM_newest_86 : decode cM_newest 86 = .ok (.iinc 5 1, 3) := by decide +kernel
theorem dM_newest_89 : decode cM_newest 89 = .ok (.goto (-73), 3) := by decide +kernel
theorem dM_newest_92 : decode cM_newest 92 = .ok (.iinc 4 1, 3) := by decide +kernel
theorem dM_newest_95 : decode cM_newest 95 = .ok (.goto (-89), 3) := by decide +kernel
theorem dM_newest_98 : decode cM_newest 98 = .ok (.iload_n 3, 1) := by decide +kernel
theorem dM_newest_99 : decode cM_newest 99 = .ok (.ireturn, 1) := by decide +kernel
theorem dM_get_0 : decode cM_get 0 = .ok (.aload_n 0, 1) := by decide +kernel
theorem dM_get_1 : decode cM_get 1 = .ok (.invokevirtual 172, 3) := by decide +kernel
theorem dM_get_4 : decode cM_get 4 = .ok (.ifCond .ne 5, 3) := by decide +kernel
theorem dM_get_7 : decode cM_get 7 = .ok (.iconst 0, 1) := by decide +kernel
theorem dM_get_8 : decode cM_get 8 = .ok (.ireturn, 1) := by decide +kernel
theorem dM_get_9 : decode cM_get 9 = .ok (.aload_n 0, 1) := by decide +kernel
theorem dM_get_10 : decode cM_get 10 = .ok (.lload_n 1, 1) := by decide +kernel
theorem dM_get_11 : decode cM_get 11 = .ok (.invokevirtual 103, 3) := by decide +kernel
theorem dM_get_14 : decode cM_get 14 = .ok (.istore_n 3, 1) := by decide +kernel
theorem dM_get_15 : decode cM_get 15 = .ok (.iload_n 3, 1) := by decide +kernel
theorem dM_get_16 : decode cM_get 16 = .ok (.ifCond .lt 41, 3) := by decide +kernel
theorem dM_get_19 : decode cM_get 19 = .ok (.aload_n 0, 1) := by decide +kernel
theorem dM_get_20 : decode cM_get 20 = .ok (.getfield 35, 3) := by decide +kernel
theorem dM_get_23 : decode cM_get 23 = .ok (.iload_n 3, 1) := by decide +kernel
theorem dM_get_24 : decode cM_get 24 = .ok (.iconst 1, 1) := by decide +kernel
theorem dM_get_25 : decode cM_get 25 = .ok (.bastore, 1) := by decide +kernel
theorem dM_get_26 : decode cM_get 26 = .ok (.aload_n 0, 1) := by decide +kernel
theorem dM_get_27 : decode cM_get 27 = .ok (.iload_n 3, 1) := by decide +kernel
theorem dM_get_28 : decode cM_get 28 = .ok (.invokevirtual 182, 3) := by decide +kernel
theorem dM_get_31 : decode cM_get 31 = .ok (.bipush 96, 2) := by decide +kernel
theorem dM_get_33 : decode cM_get 33 = .ok (.if_icmp .ge 14, 3) := by decide +kernel
theorem dM_get_36 : decode cM_get 36 = .ok (.aload_n 0, 1) := by decide +kernel
theorem dM_get_37 : decode cM_get 37 = .ok (.getfield 62, 3) := by decide +kernel
theorem dM_get_40 : decode cM_get 40 = .ok (.bipush 9, 2) := by decide +kernel
theorem dM_get_42 : decode cM_get 42 = .ok (.dup2, 1) := by decide +kernel
theorem dM_get_43 : decode cM_get 43 = .ok (.iaload, 1) := by decide +kernel
theorem dM_get_44 : decode cM_get 44 = .ok (.iconst 1, 1) := by decide +kernel
theorem dM_get_45 : decode cM_get 45 = .ok (.iadd, 1) := by decide +kernel
theorem dM_get_46 : decode cM_get 46 = .ok (.iastore, 1) := by decide +kernel
theorem dM_get_47 : decode cM_get 47 = .ok (.aload_n 0, 1) := by decide +kernel
theorem dM_get_48 : decode cM_get 48 = .ok (.iload_n 3, 1) := by decide +kernel
theorem dM_get_49 : decode cM_get 49 = .ok (.invokevirtual 185, 3) := by decide +kernel
theorem dM_get_52 : decode cM_get 52 = .ok (.aload_n 0, 1) := by decide +kernel
theorem dM_get_53 : decode cM_get 53 = .ok (.getfield 179, 3) := by decide +kernel
theorem dM_get_56 : decode cM_get 56 = .ok (.ireturn, 1) := by decide +kernel
theorem dM_get_57 : decode cM_get 57 = .ok (.aload_n 0, 1) := by decide +kernel
theorem dM_get_58 : decode cM_get 58 = .ok (.lload_n 1, 1) := by decide +kernel
theorem dM_get_59 : decode cM_get 59 = .ok (.invokevirtual 161, 3) := by decide +kernel
theorem dM_get_62 : decode cM_get 62 = .ok (.ifCond .eq 11, 3) := by decide +kernel
theorem dM_get_65 : decode cM_get 65 = .ok (.aload_n 0, 1) := by decide +kernel
theorem dM_get_66 : decode cM_get 66 = .ok (.lload_n 1, 1) := by decide +kernel
theorem dM_get_67 : decode cM_get 67 = .ok (.invokevirtual 143, 3) := by decide +kernel
theorem dM_get_70 : decode cM_get 70 = .ok (.goto 4, 3) := by decide +kernel
theorem dM_get_73 : decode cM_get 73 = .ok (.iconst (-1), 1) := by decide +kernel
theorem dM_get_74 : decode cM_get 74 = .ok (.istore 4, 2) := by decide +kernel
theorem dM_get_76 : decode cM_get 76 = .ok (.iload 4, 2) := by decide +kernel
theorem dM_get_78 : decode cM_get 78 = .ok (.ifCond .ge 7, 3) := by decide +kernel
theorem dM_get_81 : decode cM_get 81 = .ok (.iconst (-1), 1) := by decide +kernel
theorem dM_get_82 : decode cM_get 82 = .ok (.goto 18, 3) := by decide +kernel
theorem dM_get_85 : decode cM_get 85 = .ok (.aload_n 0, 1) := by decide +kernel
theorem dM_get_86 : decode cM_get 86 = .ok (.getfield 47, 3) := by decide +kernel
theorem dM_get_89 : decode cM_get 89 = .ok (.bipush 8, 2) := by decide +kernel
theorem dM_get_91 : decode cM_get 91 = .ok (.lload_n 1, 1) := by decide +kernel
theorem dM_get_92 : decode cM_get 92 = .ok (.invokestatic 89, 3) := by decide +kernel
theorem dM_get_95 : decode cM_get 95 = .ok (.imul, 1) := by decide +kernel
theorem dM_get_96 : decode cM_get 96 = .ok (.iload 4, 2) := by decide +kernel
theorem dM_get_98 : decode cM_get 98 = .ok (.iadd, 1) := by decide +kernel
theorem dM_get_99 : decode cM_get 99 = .ok (.iaload, 1) := by decide +kernel
theorem dM_get_100 : decode cM_get 100 = .ok (.istore_n 3, 1) := by decide +kernel
theorem dM_get_101 : decode cM_get 101 = .ok (.iload_n 3, 1) := by decide +kernel
theorem dM_get_102 : decode cM_get 102 = .ok (.ifCond .lt 10, 3) := by decide +kernel
theorem dM_get_105 : decode cM_get 105 = .ok (.aload_n 0, 1) := by decide +kernel
theorem dM_get_106 : decode cM_get 106 = .ok (.getfield 41, 3) := by decide +kernel
theorem dM_get_109 : decode cM_get 109 = .ok (.iload_n 3, 1) := by decide +kernel
theorem dM_get_110 : decode cM_get 110 = .ok (.iconst 1, 1) := by decide +kernel
theorem dM_get_111 : decode cM_get 111 = .ok (.bastore, 1) := by decide +kernel
theorem dM_get_112 : decode cM_get 112 = .ok (.aload_n 0, 1) := by decide +kernel
theorem dM_get_113 : decode cM_get 113 = .ok (.iload_n 3, 1) := by decide +kernel
theorem dM_get_114 : decode cM_get 114 = .ok (.invokevirtual 185, 3) := by decide +kernel
theorem dM_get_117 : decode cM_get 117 = .ok (.aload_n 0, 1) := by decide +kernel
theorem dM_get_118 : decode cM_get 118 = .ok (.getfield 179, 3) := by decide +kernel
theorem dM_get_121 : decode cM_get 121 = .ok (.ireturn, 1) := by decide +kernel
theorem dM_pageOf_0 : decode cM_pageOf 0 = .ok (.iconst (-1), 1) := by decide +kernel
theorem dM_pageOf_1 : decode cM_pageOf 1 = .ok (.istore_n 2, 1) := by decide +kernel
theorem dM_pageOf_2 : decode cM_pageOf 2 = .ok (.bipush 64, 2) := by decide +kernel
theorem dM_pageOf_4 : decode cM_pageOf 4 = .ok (.istore_n 3, 1) := by decide +kernel
theorem dM_pageOf_5 : decode cM_pageOf 5 = .ok (.iload_n 3, 1) := by decide +kernel
theorem dM_pageOf_6 : decode cM_pageOf 6 = .ok (.bipush 97, 2) := by decide +kernel
theorem dM_pageOf_8 : decode cM_pageOf 8 = .ok (.if_icmp .ge 51, 3) := by decide +kernel
theorem dM_pageOf_11 : decode cM_pageOf 11 = .ok (.iconst 0, 1) := by decide +kernel
theorem dM_pageOf_12 : decode cM_pageOf 12 = .ok (.istore 4, 2) := by decide +kernel
theorem dM_pageOf_14 : decode cM_pageOf 14 = .ok (.iload 4, 2) := by decide +kernel
theorem dM_pageOf_16 : decode cM_pageOf 16 = .ok (.aload_n 0, 1) := by decide +kernel
theorem dM_pageOf_17 : decode cM_pageOf 17 = .ok (.getfield 44, 3) := by decide +kernel
theorem dM_pageOf_20 : decode cM_pageOf 20 = .ok (.iload_n 3, 1) := by decide +kernel
theorem dM_pageOf_21 : decode cM_pageOf 21 = .ok (.iaload, 1) := by decide +kernel
theorem dM_pageOf_22 : decode cM_pageOf 22 = .ok (.if_icmp .ge 31, 3) := by decide +kernel
theorem dM_pageOf_25 : decode cM_pageOf 25 = .ok (.aload_n 0, 1) := by decide +kernel
theorem dM_pageOf_26 : decode cM_pageOf 26 = .ok (.getfield 47, 3) := by decide +kernel
theorem dM_pageOf_29 : decode cM_pageOf 29 = .ok (.bipush 8, 2) := by decide +kernel
theorem dM_pageOf_31 : decode cM_pageOf 31 = .ok (.iload_n 3, 1) := by decide +kernel
theorem dM_pageOf_32 : decode cM_pageOf 32 = .ok (.imul, 1) := by decide +kernel
theorem dM_pageOf_33 : decode cM_pageOf 33 = .ok (.iload 4, 2) := by decide +kernel
theorem dM_pageOf_35 : decode cM_pageOf 35 = .ok (.iadd, 1) := by decide +kernel
theorem dM_pageOf_36 : decode cM_pageOf 36 = .ok (.iaload, 1) := by decide +kernel
theorem dM_pageOf_37 : decode cM_pageOf 37 = .ok (.iload_n 1, 1) := by decide +kernel
theorem dM_pageOf_38 : decode cM_pageOf 38 = .ok (.if_icmp .ne 7, 3) := by decide +kernel
theorem dM_pageOf_41 : decode cM_pageOf 41 = .ok (.iload_n 3, 1) := by decide +kernel
theorem dM_pageOf_42 : decode cM_pageOf 42 = .ok (.goto 4, 3) := by decide +kernel
theorem dM_pageOf_45 : decode cM_pageOf 45 = .ok (.iload_n 2, 1) := by decide +kernel
theorem dM_pageOf_46 : decode cM_pageOf 46 = .ok (.istore_n 2, 1) := by decide +kernel
theorem dM_pageOf_47 : decode cM_pageOf 47 = .ok (.iinc 4 1, 3) := by decide +kernel
theorem dM_pageOf_50 : decode cM_pageOf 50 = .ok (.goto (-36), 3) := by decide +kernel
theorem dM_pageOf_53 : decode cM_pageOf 53 = .ok (.iinc 3 1, 3) := by decide +kernel
theorem dM_pageOf_56 : decode cM_pageOf 56 = .ok (.goto (-51), 3) := by decide +kernel
theorem dM_pageOf_59 : decode cM_pageOf 59 = .ok (.iload_n 2, 1) := by decide +kernel
theorem dM_pageOf_60 : decode cM_pageOf 60 = .ok (.ireturn, 1) := by decide +kernel
theorem dM_tell_0 : decode cM_tell 0 = .ok (.aload_n 0, 1) := by decide +kernel
theorem dM_tell_1 : decode cM_tell 1 = .ok (.iload_n 1, 1) := by decide +kernel
theorem dM_tell_2 : decode cM_tell 2 = .ok (.ifCond .ge 7, 3) := by decide +kernel
theorem dM_tell_5 : decode cM_tell 5 = .ok (.iconst 0, 1) := by decide +kernel
theorem dM_tell_6 : decode cM_tell 6 = .ok (.goto 9, 3) := by decide +kernel
theorem dM_tell_9 : decode cM_tell 9 = .ok (.aload_n 0, 1) := by decide +kernel
theorem dM_tell_10 : decode cM_tell 10 = .ok (.getfield 24, 3) := by decide +kernel
theorem dM_tell_13 : decode cM_tell 13 = .ok (.iload_n 1, 1) := by decide +kernel
theorem dM_tell_14 : decode cM_tell 14 = .ok (.iaload, 1) := by decide +kernel
theorem dM_tell_15 : decode cM_tell 15 = .ok (.putfield 179, 3) := by decide +kernel
theorem dM_tell_18 : decode cM_tell 18 = .ok (.iconst 0, 1) := by decide +kernel
theorem dM_tell_19 : decode cM_tell 19 = .ok (.istore_n 2, 1) := by decide +kernel
theorem dM_tell_20 : decode cM_tell 20 = .ok (.iload_n 2, 1) := by decide +kernel
theorem dM_tell_21 : decode cM_tell 21 = .ok (.aload_n 0, 1) := by decide +kernel
theorem dM_tell_22 : decode cM_tell 22 = .ok (.getfield 179, 3) := by decide +kernel
theorem dM_tell_25 : decode cM_tell 25 = .ok (.if_icmp .ge 26, 3) := by decide +kernel
theorem dM_tell_28 : decode cM_tell 28 = .ok (.aload_n 0, 1) := by decide +kernel
theorem dM_tell_29 : decode cM_tell 29 = .ok (.getfield 17, 3) := by decide +kernel
theorem dM_tell_32 : decode cM_tell 32 = .ok (.iload_n 2, 1) := by decide +kernel
theorem dM_tell_33 : decode cM_tell 33 = .ok (.aload_n 0, 1) := by decide +kernel
theorem dM_tell_34 : decode cM_tell 34 = .ok (.getfield 28, 3) := by decide +kernel
theorem dM_tell_37 : decode cM_tell 37 = .ok (.bipush 8, 2) := by decide +kernel
theorem dM_tell_39 : decode cM_tell 39 = .ok (.iload_n 1, 1) := by decide +kernel
theorem dM_tell_40 : decode cM_tell 40 = .ok (.imul, 1) := by decide +kernel
theorem dM_tell_41 : decode cM_tell 41 = .ok (.iload_n 2, 1) := by decide +kernel
theorem dM_tell_42 : decode cM_tell 42 = .ok (.iadd, 1) := by decide +kernel
theorem dM_tell_43 : decode cM_tell 43 = .ok (.iaload, 1) := by decide +kernel
theorem dM_tell_44 : decode cM_tell 44 = .ok (.iastore, 1) := by decide +kernel
theorem dM_tell_45 : decode cM_tell 45 = .ok (.iinc 2 1, 3) := by decide +kernel
theorem dM_tell_48 : decode cM_tell 48 = .ok (.goto (-28), 3) := by decide +kernel
theorem dM_tell_51 : decode cM_tell 51 = .ok (.return_, 1) := by decide +kernel
theorem dM_got_0 : decode cM_got 0 = .ok (.aload_n 0, 1) := by decide +kernel
theorem dM_got_1 : decode cM_got 1 = .ok (.iconst 0, 1) := by decide +kernel
theorem dM_got_2 : decode cM_got 2 = .ok (.putfield 65, 3) := by decide +kernel
theorem dM_got_5 : decode cM_got 5 = .ok (.iload_n 1, 1) := by decide +kernel
theorem dM_got_6 : decode cM_got 6 = .ok (.iconst 0, 1) := by decide +kernel
theorem dM_got_7 : decode cM_got 7 = .ok (.aload_n 0, 1) := by decide +kernel
theorem dM_got_8 : decode cM_got 8 = .ok (.getfield 179, 3) := by decide +kernel
theorem dM_got_11 : decode cM_got 11 = .ok (.iconst 1, 1) := by decide +kernel
theorem dM_got_12 : decode cM_got 12 = .ok (.isub, 1) := by decide +kernel
theorem dM_got_13 : decode cM_got 13 = .ok (.invokestatic 165, 3) := by decide +kernel
theorem dM_got_16 : decode cM_got 16 = .ok (.ifCond .eq 12, 3) := by decide +kernel
theorem dM_got_19 : decode cM_got 19 = .ok (.aload_n 0, 1) := by decide +kernel
theorem dM_got_20 : decode cM_got 20 = .ok (.getfield 17, 3) := by decide +kernel
theorem dM_got_23 : decode cM_got 23 = .ok (.iload_n 1, 1) := by decide +kernel
theorem dM_got_24 : decode cM_got 24 = .ok (.iaload, 1) := by decide +kernel
theorem dM_got_25 : decode cM_got 25 = .ok (.goto 8, 3) := by decide +kernel
theorem dM_got_28 : decode cM_got 28 = .ok (.aload_n 0, 1) := by decide +kernel
theorem dM_got_29 : decode cM_got 29 = .ok (.iconst 1, 1) := by decide +kernel
theorem dM_got_30 : decode cM_got 30 = .ok (.invokevirtual 169, 3) := by decide +kernel
theorem dM_got_33 : decode cM_got 33 = .ok (.ireturn, 1) := by decide +kernel
theorem dM_delete_0 : decode cM_delete 0 = .ok (.aload_n 0, 1) := by decide +kernel
theorem dM_delete_1 : decode cM_delete 1 = .ok (.invokevirtual 172, 3) := by decide +kernel
theorem dM_delete_4 : decode cM_delete 4 = .ok (.ifCond .ne 5, 3) := by decide +kernel
theorem dM_delete_7 : decode cM_delete 7 = .ok (.iconst 0, 1) := by decide +kernel
theorem dM_delete_8 : decode cM_delete 8 = .ok (.ireturn, 1) := by decide +kernel
theorem dM_delete_9 : decode cM_delete 9 = .ok (.aload_n 0, 1) := by decide +kernel
theorem dM_delete_10 : decode cM_delete 10 = .ok (.lload_n 1, 1) := by decide +kernel
theorem dM_delete_11 : decode cM_delete 11 = .ok (.invokevirtual 103, 3) := by decide +kernel
theorem dM_delete_14 : decode cM_delete 14 = .ok (.istore_n 3, 1) := by decide +kernel
theorem dM_delete_15 : decode cM_delete 15 = .ok (.iload_n 3, 1) := by decide +kernel
theorem dM_delete_16 : decode cM_delete 16 = .ok (.ifCond .lt 10, 3) := by decide +kernel
theorem dM_delete_19 : decode cM_delete 19 = .ok (.aload_n 0, 1) := by decide +kernel
theorem dM_delete_20 : decode cM_delete 20 = .ok (.getfield 31, 3) := by decide +kernel
theorem dM_delete_23 : decode cM_delete 23 = .ok (.iload_n 3, 1) := by decide +kernel
theorem dM_delete_24 : decode cM_delete 24 = .ok (.iconst 0, 1) := by decide +kernel
theorem dM_delete_25 : decode cM_delete 25 = .ok (.bastore, 1) := by decide +kernel
theorem dM_delete_26 : decode cM_delete 26 = .ok (.aload_n 0, 1) := by decide +kernel
theorem dM_delete_27 : decode cM_delete 27 = .ok (.lload_n 1, 1) := by decide +kernel
theorem dM_delete_28 : decode cM_delete 28 = .ok (.iconst 3, 1) := by decide +kernel
theorem dM_delete_29 : decode cM_delete 29 = .ok (.invokevirtual 157, 3) := by decide +kernel
theorem dM_delete_32 : decode cM_delete 32 = .ok (.istore 4, 2) := by decide +kernel
theorem dM_delete_34 : decode cM_delete 34 = .ok (.iload_n 3, 1) := by decide +kernel
theorem dM_delete_35 : decode cM_delete 35 = .ok (.ifCond .ge 8, 3) := by decide +kernel
theorem dM_delete_38 : decode cM_delete 38 = .ok (.iload 4, 2) := by decide +kernel
theorem dM_delete_40 : decode cM_delete 40 = .ok (.ifCond .eq 7, 3) := by decide +kernel
theorem dM_delete_43 : decode cM_delete 43 = .ok (.iconst 1, 1) := by decide +kernel
theorem dM_delete_44 : decode cM_delete 44 = .ok (.goto 4, 3) := by decide +kernel
theorem dM_delete_47 : decode cM_delete 47 = .ok (.iconst 0, 1) := by decide +kernel
theorem dM_delete_48 : decode cM_delete 48 = .ok (.ireturn, 1) := by decide +kernel
theorem dM_setOf_0 : decode cM_setOf 0 = .ok (.aload_n 0, 1) := by decide +kernel
theorem dM_setOf_1 : decode cM_setOf 1 = .ok (.iconst 0, 1) := by decide +kernel
theorem dM_setOf_2 : decode cM_setOf 2 = .ok (.putfield 65, 3) := by decide +kernel
theorem dM_setOf_5 : decode cM_setOf 5 = .ok (.lload_n 1, 1) := by decide +kernel
theorem dM_setOf_6 : decode cM_setOf 6 = .ok (.invokestatic 89, 3) := by decide +kernel
theorem dM_setOf_9 : decode cM_setOf 9 = .ok (.ireturn, 1) := by decide +kernel
theorem dM_where_0 : decode cM_where 0 = .ok (.aload_n 0, 1) := by decide +kernel
theorem dM_where_1 : decode cM_where 1 = .ok (.invokevirtual 172, 3) := by decide +kernel
theorem dM_where_4 : decode cM_where 4 = .ok (.ifCond .ne 5, 3) := by decide +kernel
theorem dM_where_7 : decode cM_where 7 = .ok (.iconst 0, 1) := by decide +kernel
theorem dM_where_8 : decode cM_where 8 = .ok (.ireturn, 1) := by decide +kernel
theorem dM_where_9 : decode cM_where 9 = .ok (.aload_n 0, 1) := by decide +kernel
theorem dM_where_10 : decode cM_where 10 = .ok (.lload_n 1, 1) := by decide +kernel
theorem dM_where_11 : decode cM_where 11 = .ok (.invokevirtual 103, 3) := by decide +kernel
theorem dM_where_14 : decode cM_where 14 = .ok (.ifCond .lt 7, 3) := by decide +kernel
theorem dM_where_17 : decode cM_where 17 = .ok (.iconst 1, 1) := by decide +kernel
theorem dM_where_18 : decode cM_where 18 = .ok (.goto 16, 3) := by decide +kernel
theorem dM_where_21 : decode cM_where 21 = .ok (.aload_n 0, 1) := by decide +kernel
theorem dM_where_22 : decode cM_where 22 = .ok (.lload_n 1, 1) := by decide +kernel
theorem dM_where_23 : decode cM_where 23 = .ok (.invokevirtual 143, 3) := by decide +kernel
theorem dM_where_26 : decode cM_where 26 = .ok (.ifCond .lt 7, 3) := by decide +kernel
theorem dM_where_29 : decode cM_where 29 = .ok (.iconst 2, 1) := by decide +kernel
theorem dM_where_30 : decode cM_where 30 = .ok (.goto 4, 3) := by decide +kernel
theorem dM_where_33 : decode cM_where 33 = .ok (.iconst 0, 1) := by decide +kernel
theorem dM_where_34 : decode cM_where 34 = .ok (.ireturn, 1) := by decide +kernel
theorem dM_flash_0 : decode cM_flash 0 = .ok (.aload_n 0, 1) := by decide +kernel
theorem dM_flash_1 : decode cM_flash 1 = .ok (.iconst 0, 1) := by decide +kernel
theorem dM_flash_2 : decode cM_flash 2 = .ok (.putfield 65, 3) := by decide +kernel
theorem dM_flash_5 : decode cM_flash 5 = .ok (.iload_n 1, 1) := by decide +kernel
theorem dM_flash_6 : decode cM_flash 6 = .ok (.iconst 0, 1) := by decide +kernel
theorem dM_flash_7 : decode cM_flash 7 = .ok (.bipush 95, 2) := by decide +kernel
theorem dM_flash_9 : decode cM_flash 9 = .ok (.invokestatic 165, 3) := by decide +kernel
theorem dM_flash_12 : decode cM_flash 12 = .ok (.ifCond .eq 13, 3) := by decide +kernel
theorem dM_flash_15 : decode cM_flash 15 = .ok (.iload_n 2, 1) := by decide +kernel
theorem dM_flash_16 : decode cM_flash 16 = .ok (.iconst 0, 1) := by decide +kernel
theorem dM_flash_17 : decode cM_flash 17 = .ok (.bipush 31, 2) := by decide +kernel
theorem dM_flash_19 : decode cM_flash 19 = .ok (.invokestatic 165, 3) := by decide +kernel
theorem dM_flash_22 : decode cM_flash 22 = .ok (.ifCond .ne 9, 3) := by decide +kernel
theorem dM_flash_25 : decode cM_flash 25 = .ok (.aload_n 0, 1) := by decide +kernel
theorem dM_flash_26 : decode cM_flash 26 = .ok (.iconst 1, 1) := by decide +kernel
theorem dM_flash_27 : decode cM_flash 27 = .ok (.invokevirtual 169, 3) := by decide +kernel
theorem dM_flash_30 : decode cM_flash 30 = .ok (.ireturn, 1) := by decide +kernel
theorem dM_flash_31 : decode cM_flash 31 = .ok (.iconst 0, 1) := by decide +kernel
theorem dM_flash_32 : decode cM_flash 32 = .ok (.istore_n 3, 1) := by decide +kernel
theorem dM_flash_33 : decode cM_flash 33 = .ok (.iconst 0, 1) := by decide +kernel
theorem dM_flash_34 : decode cM_flash 34 = .ok (.istore 4, 2) := by decide +kernel
theorem dM_flash_36 : decode cM_flash 36 = .ok (.iload 4, 2) := by decide +kernel
theorem dM_flash_38 : decode cM_flash 38 = .ok (.aload_n 0, 1) := by decide +kernel
theorem dM_flash_39 : decode cM_flash 39 = .ok (.getfield 44, 3) := by decide +kernel
theorem dM_flash_42 : decode cM_flash 42 = .ok (.iload_n 1, 1) := by decide +kernel
theorem dM_flash_43 : decode cM_flash 43 = .ok (.iaload, 1) := by decide +kernel
theorem dM_flash_44 : decode cM_flash 44 = .ok (.if_icmp .ge 115, 3) := by decide +kernel
theorem dM_flash_47 : decode cM_flash 47 = .ok (.aload_n 0, 1) := by decide +kernel
theorem dM_flash_48 : decode cM_flash 48 = .ok (.getfield 47, 3) := by decide +kernel
theorem dM_flash_51 : decode cM_flash 51 = .ok (.bipush 8, 2) := by decide +kernel
theorem dM_flash_53 : decode cM_flash 53 = .ok (.iload_n 1, 1) := by decide +kernel
theorem dM_flash_54 : decode cM_flash 54 = .ok (.imul, 1) := by decide +kernel
theorem dM_flash_55 : decode cM_flash 55 = .ok (.iload 4, 2) := by decide +kernel
theorem dM_flash_57 : decode cM_flash 57 = .ok (.iadd, 1) := by decide +kernel
theorem dM_flash_58 : decode cM_flash 58 = .ok (.iaload, 1) := by decide +kernel
theorem dM_flash_59 : decode cM_flash 59 = .ok (.istore 5, 2) := by decide +kernel
theorem dM_flash_61 : decode cM_flash 61 = .ok (.iload_n 2, 1) := by decide +kernel
theorem dM_flash_62 : decode cM_flash 62 = .ok (.iload_n 3, 1) := by decide +kernel
theorem dM_flash_63 : decode cM_flash 63 = .ok (.aload_n 0, 1) := by decide +kernel
theorem dM_flash_64 : decode cM_flash 64 = .ok (.iload 5, 2) := by decide +kernel
theorem dM_flash_66 : decode cM_flash 66 = .ok (.invokevirtual 79, 3) := by decide +kernel
theorem dM_flash_69 : decode cM_flash 69 = .ok (.iadd, 1) := by decide +kernel
theorem dM_flash_70 : decode cM_flash 70 = .ok (.if_icmp .ge 74, 3) := by decide +kernel
theorem dM_flash_73 : decode cM_flash 73 = .ok (.iload_n 2, 1) := by decide +kernel
theorem dM_flash_74 : decode cM_flash 74 = .ok (.iload_n 3, 1) := by decide +kernel
theorem dM_flash_75 : decode cM_flash 75 = .ok (.if_icmp .ne 13, 3) := by decide +kernel
theorem dM_flash_78 : decode cM_flash 78 = .ok (.aload_n 0, 1) := by decide +kernel
theorem dM_flash_79 : decode cM_flash 79 = .ok (.getfield 24, 3) := by decide +kernel
theorem dM_flash_82 : decode cM_flash 82 = .ok (.iload 5, 2) := by decide +kernel
theorem dM_flash_84 : decode cM_flash 84 = .ok (.iaload, 1) := by decide +kernel
theorem dM_flash_85 : decode cM_flash 85 = .ok (.goto 58, 3) := by decide +kernel
theorem dM_flash_88 : decode cM_flash 88 = .ok (.iload_n 2, 1) := by decide +kernel
theorem dM_flash_89 : decode cM_flash 89 = .ok (.iload_n 3, 1) := by decide +kernel
theorem dM_flash_90 : decode cM_flash 90 = .ok (.iconst 1, 1) := by decide +kernel
theorem dM_flash_91 : decode cM_flash 91 = .ok (.iadd, 1) := by decide +kernel
theorem dM_flash_92 : decode cM_flash 92 = .ok (.if_icmp .ne 17, 3) := by decide +kernel
theorem dM_flash_95 : decode cM_flash 95 = .ok (.aload_n 0, 1) := by decide +kernel
theorem dM_flash_96 : decode cM_flash 96 = .ok (.getfield 20, 3) := by decide +kernel
theorem dM_flash_99 : decode cM_flash 99 = .ok (.iload 5, 2) := by decide +kernel
theorem dM_flash_101 : decode cM_flash 101 = .ok (.laload, 1) := by decide +kernel
theorem dM_flash_102 : decode cM_flash 102 = .ok (.bipush 32, 2) := by decide +kernel
theorem dM_flash_104 : decode cM_flash 104 = .ok (.lshr, 1) := by decide +kernel
theorem dM_flash_105 : decode cM_flash 105 = .ok (.l2i, 1) := by decide +kernel
theorem dM_flash_106 : decode cM_flash 106 = .ok (.goto 37, 3) := by decide +kernel
theorem dM_flash_109 : decode cM_flash 109 = .ok (.iload_n 2, 1) := by decide +kernel
theorem dM_flash_110 : decode cM_flash 110 = .ok (.iload_n 3, 1) := by decide +kernel
theorem dM_flash_111 : decode cM_flash 111 = .ok (.iconst 2, 1) := by decide +kernel
theorem dM_flash_112 : decode cM_flash 112 = .ok (.iadd, 1) := by decide +kernel
theorem dM_flash_113 : decode cM_flash 113 = .ok (.if_icmp .ne 14, 3) := by decide +kernel
theorem dM_flash_116 : decode cM_flash 116 = .ok (.aload_n 0, 1) := by decide +kernel
theorem dM_flash_117 : decode cM_flash 117 = .ok (.getfield 20, 3) := by decide +kernel
theorem dM_flash_120 : decode cM_flash 120 = .ok (.iload 5, 2) := by decide +kernel
theorem dM_flash_122 : decode cM_flash 122 = .ok (.laload, 1) := by decide +kernel
theorem dM_flash_123 : decode cM_flash 123 = .ok (.l2i, 1) := by decide +kernel
theorem dM_flash_124 : decode cM_flash 124 = .ok (.goto 19, 3) := by decide +kernel
theorem dM_flash_127 : decode cM_flash 127 = .ok (.aload_n 0, 1) := by decide +kernel
theorem dM_flash_128 : decode cM_flash 128 = .ok (.getfield 28, 3) := by decide +kernel
theorem dM_flash_131 : decode cM_flash 131 = .ok (.bipush 8, 2) := by decide +kernel
theorem dM_flash_133 : decode cM_flash 133 = .ok (.iload 5, 2) := by decide +kernel
theorem dM_flash_135 : decode cM_flash 135 = .ok (.imul, 1) := by decide +kernel
theorem dM_flash_136 : decode cM_flash 136 = .ok (.iload_n 2, 1) := by decide +kernel
theorem dM_flash_137 : decode cM_flash 137 = .ok (.iadd, 1) := by decide +kernel
theorem dM_flash_138 : decode cM_flash 138 = .ok (.iload_n 3, 1) := by decide +kernel
theorem dM_flash_139 : decode cM_flash 139 = .ok (.isub, 1) := by decide +kernel
theorem dM_flash_140 : decode cM_flash 140 = .ok (.iconst 3, 1) := by decide +kernel
theorem dM_flash_141 : decode cM_flash 141 = .ok (.isub, 1) := by decide +kernel
theorem dM_flash_142 : decode cM_flash 142 = .ok (.iaload, 1) := by decide +kernel
theorem dM_flash_143 : decode cM_flash 143 = .ok (.ireturn, 1) := by decide +kernel
theorem dM_flash_144 : decode cM_flash 144 = .ok (.iload_n 3, 1) := by decide +kernel
theorem dM_flash_145 : decode cM_flash 145 = .ok (.aload_n 0, 1) := by decide +kernel
theorem dM_flash_146 : decode cM_flash 146 = .ok (.iload 5, 2) := by decide +kernel
theorem dM_flash_148 : decode cM_flash 148 = .ok (.invokevirtual 79, 3) := by decide +kernel
theorem dM_flash_151 : decode cM_flash 151 = .ok (.iadd, 1) := by decide +kernel
theorem dM_flash_152 : decode cM_flash 152 = .ok (.istore_n 3, 1) := by decide +kernel
theorem dM_flash_153 : decode cM_flash 153 = .ok (.iinc 4 1, 3) := by decide +kernel
theorem dM_flash_156 : decode cM_flash 156 = .ok (.goto (-120), 3) := by decide +kernel
theorem dM_flash_159 : decode cM_flash 159 = .ok (.iconst 0, 1) := by decide +kernel
theorem dM_flash_160 : decode cM_flash 160 = .ok (.ireturn, 1) := by decide +kernel
theorem dM_close_0 : decode cM_close 0 = .ok (.aload_n 0, 1) := by decide +kernel
theorem dM_close_1 : decode cM_close 1 = .ok (.aload_n 0, 1) := by decide +kernel
theorem dM_close_2 : decode cM_close 2 = .ok (.getfield 7, 3) := by decide +kernel
theorem dM_close_5 : decode cM_close 5 = .ok (.ifCond .eq 7, 3) := by decide +kernel
theorem dM_close_8 : decode cM_close 8 = .ok (.iconst 0, 1) := by decide +kernel
theorem dM_close_9 : decode cM_close 9 = .ok (.goto 4, 3) := by decide +kernel
theorem dM_close_12 : decode cM_close 12 = .ok (.iconst 1, 1) := by decide +kernel
theorem dM_close_13 : decode cM_close 13 = .ok (.putfield 65, 3) := by decide +kernel
theorem dM_close_16 : decode cM_close 16 = .ok (.aload_n 0, 1) := by decide +kernel
theorem dM_close_17 : decode cM_close 17 = .ok (.iconst 0, 1) := by decide +kernel
theorem dM_close_18 : decode cM_close 18 = .ok (.putfield 7, 3) := by decide +kernel
theorem dM_close_21 : decode cM_close 21 = .ok (.return_, 1) := by decide +kernel
theorem dM_crash_0 : decode cM_crash 0 = .ok (.aload_n 0, 1) := by decide +kernel
theorem dM_crash_1 : decode cM_crash 1 = .ok (.aload_n 0, 1) := by decide +kernel
theorem dM_crash_2 : decode cM_crash 2 = .ok (.getfield 7, 3) := by decide +kernel
theorem dM_crash_5 : decode cM_crash 5 = .ok (.ifCond .eq 7, 3) := by decide +kernel
theorem dM_crash_8 : decode cM_crash 8 = .ok (.iconst 0, 1) := by decide +kernel
theorem dM_crash_9 : decode cM_crash 9 = .ok (.goto 4, 3) := by decide +kernel
theorem dM_crash_12 : decode cM_crash 12 = .ok (.iconst 1, 1) := by decide +kernel
theorem dM_crash_13 : decode cM_crash 13 = .ok (.putfield 65, 3) := by decide +kernel
theorem dM_crash_16 : decode cM_crash 16 = .ok (.aload_n 0, 1) := by decide +kernel
theorem dM_crash_17 : decode cM_crash 17 = .ok (.getfield 7, 3) := by decide +kernel
theorem dM_crash_20 : decode cM_crash 20 = .ok (.ifCond .ne 4, 3) := by decide +kernel
theorem dM_crash_23 : decode cM_crash 23 = .ok (.return_, 1) := by decide +kernel
theorem dM_crash_24 : decode cM_crash 24 = .ok (.aload_n 0, 1) := by decide +kernel
theorem dM_crash_25 : decode cM_crash 25 = .ok (.iconst 0, 1) := by decide +kernel
theorem dM_crash_26 : decode cM_crash 26 = .ok (.putfield 7, 3) := by decide +kernel
theorem dM_crash_29 : decode cM_crash 29 = .ok (.iconst 0, 1) := by decide +kernel
theorem dM_crash_30 : decode cM_crash 30 = .ok (.istore_n 1, 1) := by decide +kernel
theorem dM_crash_31 : decode cM_crash 31 = .ok (.iload_n 1, 1) := by decide +kernel
theorem dM_crash_32 : decode cM_crash 32 = .ok (.bipush 97, 2) := by decide +kernel
theorem dM_crash_34 : decode cM_crash 34 = .ok (.if_icmp .ge 16, 3) := by decide +kernel
theorem dM_crash_37 : decode cM_crash 37 = .ok (.aload_n 0, 1) := by decide +kernel
theorem dM_crash_38 : decode cM_crash 38 = .ok (.getfield 44, 3) := by decide +kernel
theorem dM_crash_41 : decode cM_crash 41 = .ok (.iload_n 1, 1) := by decide +kernel
theorem dM_crash_42 : decode cM_crash 42 = .ok (.iconst 0, 1) := by decide +kernel
theorem dM_crash_43 : decode cM_crash 43 = .ok (.iastore, 1) := by decide +kernel
theorem dM_crash_44 : decode cM_crash 44 = .ok (.iinc 1 1, 3) := by decide +kernel
theorem dM_crash_47 : decode cM_crash 47 = .ok (.goto (-16), 3) := by decide +kernel
theorem dM_crash_50 : decode cM_crash 50 = .ok (.iconst 0, 1) := by decide +kernel
theorem dM_crash_51 : decode cM_crash 51 = .ok (.istore_n 1, 1) := by decide +kernel
theorem dM_crash_52 : decode cM_crash 52 = .ok (.iload_n 1, 1) := by decide +kernel
theorem dM_crash_53 : decode cM_crash 53 = .ok (.bipush 13, 2) := by decide +kernel
theorem dM_crash_55 : decode cM_crash 55 = .ok (.if_icmp .ge 16, 3) := by decide +kernel
theorem dM_crash_58 : decode cM_crash 58 = .ok (.aload_n 0, 1) := by decide +kernel
theorem dM_crash_59 : decode cM_crash 59 = .ok (.getfield 62, 3) := by decide +kernel
theorem dM_crash_62 : decode cM_crash 62 = .ok (.iload_n 1, 1) := by decide +kernel
theorem dM_crash_63 : decode cM_crash 63 = .ok (.iconst 0, 1) := by decide +kernel
theorem dM_crash_64 : decode cM_crash 64 = .ok (.iastore, 1) := by decide +kernel
theorem dM_crash_65 : decode cM_crash 65 = .ok (.iinc 1 1, 3) := by decide +kernel
theorem dM_crash_68 : decode cM_crash 68 = .ok (.goto (-16), 3) := by decide +kernel
theorem dM_crash_71 : decode cM_crash 71 = .ok (.aload_n 0, 1) := by decide +kernel
theorem dM_crash_72 : decode cM_crash 72 = .ok (.iconst 0, 1) := by decide +kernel
theorem dM_crash_73 : decode cM_crash 73 = .ok (.putfield 96, 3) := by decide +kernel
theorem dM_crash_76 : decode cM_crash 76 = .ok (.aload_n 0, 1) := by decide +kernel
theorem dM_crash_77 : decode cM_crash 77 = .ok (.iconst 0, 1) := by decide +kernel
theorem dM_crash_78 : decode cM_crash 78 = .ok (.putfield 106, 3) := by decide +kernel
theorem dM_crash_81 : decode cM_crash 81 = .ok (.aload_n 0, 1) := by decide +kernel
theorem dM_crash_82 : decode cM_crash 82 = .ok (.iconst 0, 1) := by decide +kernel
theorem dM_crash_83 : decode cM_crash 83 = .ok (.putfield 179, 3) := by decide +kernel
theorem dM_crash_86 : decode cM_crash 86 = .ok (.return_, 1) := by decide +kernel
theorem dM_open_0 : decode cM_open 0 = .ok (.aload_n 0, 1) := by decide +kernel
theorem dM_open_1 : decode cM_open 1 = .ok (.aload_n 0, 1) := by decide +kernel
theorem dM_open_2 : decode cM_open 2 = .ok (.getfield 7, 3) := by decide +kernel
theorem dM_open_5 : decode cM_open 5 = .ok (.ifCond .eq 7, 3) := by decide +kernel
theorem dM_open_8 : decode cM_open 8 = .ok (.iconst 1, 1) := by decide +kernel
theorem dM_open_9 : decode cM_open 9 = .ok (.goto 4, 3) := by decide +kernel
theorem dM_open_12 : decode cM_open 12 = .ok (.iconst 0, 1) := by decide +kernel
theorem dM_open_13 : decode cM_open 13 = .ok (.putfield 65, 3) := by decide +kernel
theorem dM_open_16 : decode cM_open 16 = .ok (.aload_n 0, 1) := by decide +kernel
theorem dM_open_17 : decode cM_open 17 = .ok (.getfield 7, 3) := by decide +kernel
theorem dM_open_20 : decode cM_open 20 = .ok (.ifCond .eq 5, 3) := by decide +kernel
theorem dM_open_23 : decode cM_open 23 = .ok (.iconst 0, 1) := by decide +kernel
theorem dM_open_24 : decode cM_open 24 = .ok (.ireturn, 1) := by decide +kernel
theorem dM_open_25 : decode cM_open 25 = .ok (.aload_n 0, 1) := by decide +kernel
theorem dM_open_26 : decode cM_open 26 = .ok (.iconst 1, 1) := by decide +kernel
theorem dM_open_27 : decode cM_open 27 = .ok (.putfield 7, 3) := by decide +kernel
theorem dM_open_30 : decode cM_open 30 = .ok (.aload_n 0, 1) := by decide +kernel
theorem dM_open_31 : decode cM_open 31 = .ok (.invokevirtual 188, 3) := by decide +kernel
theorem dM_open_34 : decode cM_open 34 = .ok (.ireturn, 1) := by decide +kernel
theorem dM_indexed_0 : decode cM_indexed 0 = .ok (.iconst 0, 1) := by decide +kernel
theorem dM_indexed_1 : decode cM_indexed 1 = .ok (.istore_n 1, 1) := by decide +kernel
theorem dM_indexed_2 : decode cM_indexed 2 = .ok (.bipush 64, 2) := by decide +kernel
theorem dM_indexed_4 : decode cM_indexed 4 = .ok (.istore_n 2, 1) := by decide +kernel
theorem dM_indexed_5 : decode cM_indexed 5 = .ok (.iload_n 2, 1) := by decide +kernel
theorem dM_indexed_6 : decode cM_indexed 6 = .ok (.bipush 97, 2) := by decide +kernel
theorem dM_indexed_8 : decode cM_indexed 8 = .ok (.if_icmp .ge 54, 3) := by decide +kernel
theorem dM_indexed_11 : decode cM_indexed 11 = .ok (.iconst 0, 1) := by decide +kernel
theorem dM_indexed_12 : decode cM_indexed 12 = .ok (.istore_n 3, 1) := by decide +kernel
theorem dM_indexed_13 : decode cM_indexed 13 = .ok (.iload_n 3, 1) := by decide +kernel
theorem dM_indexed_14 : decode cM_indexed 14 = .ok (.aload_n 0, 1) := by decide +kernel
theorem dM_indexed_15 : decode cM_indexed 15 = .ok (.getfield 44, 3) := by decide +kernel
theorem dM_indexed_18 : decode cM_indexed 18 = .ok (.iload_n 2, 1) := by decide +kernel
theorem dM_indexed_19 : decode cM_indexed 19 = .ok (.iaload, 1) := by decide +kernel
theorem dM_indexed_20 : decode cM_indexed 20 = .ok (.if_icmp .ge 36, 3) := by decide +kernel
theorem dM_indexed_23 : decode cM_indexed 23 = .ok (.iload_n 1, 1) := by decide +kernel
theorem dM_indexed_24 : decode cM_indexed 24 = .ok (.aload_n 0, 1) := by decide +kernel
theorem dM_indexed_25 : decode cM_indexed 25 = .ok (.getfield 31, 3) := by decide +kernel
theorem dM_indexed_28 : decode cM_indexed 28 = .ok (.aload_n 0, 1) := by decide +kernel
theorem dM_indexed_29 : decode cM_indexed 29 = .ok (.getfield 47, 3) := by decide +kernel
theorem dM_indexed_32 : decode cM_indexed 32 = .ok (.bipush 8, 2) := by decide +kernel
theorem dM_indexed_34 : decode cM_indexed 34 = .ok (.iload_n 2, 1) := by decide +kernel
theorem dM_indexed_35 : decode cM_indexed 35 = .ok (.imul, 1) := by decide +kernel
theorem dM_indexed_36 : decode cM_indexed 36 = .ok (.iload_n 3, 1) := by decide +kernel
theorem dM_indexed_37 : decode cM_indexed 37 = .ok (.iadd, 1) := by decide +kernel
theorem dM_indexed_38 : decode cM_indexed 38 = .ok (.iaload, 1) := by decide +kernel
theorem dM_indexed_39 : decode cM_indexed 39 = .ok (.baload, 1) := by decide +kernel
theorem dM_indexed_40 : decode cM_indexed 40 = .ok (.ifCond .eq 7, 3) := by decide +kernel
theorem dM_indexed_43 : decode cM_indexed 43 = .ok (.iconst 1, 1) := by decide +kernel
theorem dM_indexed_44 : decode cM_indexed 44 = .ok (.goto 4, 3) := by decide +kernel
theorem dM_indexed_47 : decode cM_indexed 47 = .ok (.iconst 0, 1) := by decide +kernel
theorem dM_indexed_48 : decode cM_indexed 48 = .ok (.iadd, 1) := by decide +kernel
theorem dM_indexed_49 : decode cM_indexed 49 = .ok (.istore_n 1, 1) := by decide +kernel
theorem dM_indexed_50 : decode cM_indexed 50 = .ok (.iinc 3 1, 3) := by decide +kernel
theorem dM_indexed_53 : decode cM_indexed 53 = .ok (.goto (-40), 3) := by decide +kernel
theorem dM_indexed_56 : decode cM_indexed 56 = .ok (.iinc 2 1, 3) := by decide +kernel
theorem dM_indexed_59 : decode cM_indexed 59 = .ok (.goto (-54), 3) := by decide +kernel
theorem dM_indexed_62 : decode cM_indexed 62 = .ok (.iload_n 1, 1) := by decide +kernel
theorem dM_indexed_63 : decode cM_indexed 63 = .ok (.ireturn, 1) := by decide +kernel
theorem dM_count_0 : decode cM_count 0 = .ok (.aload_n 0, 1) := by decide +kernel
theorem dM_count_1 : decode cM_count 1 = .ok (.iconst 0, 1) := by decide +kernel
theorem dM_count_2 : decode cM_count 2 = .ok (.putfield 65, 3) := by decide +kernel
theorem dM_count_5 : decode cM_count 5 = .ok (.iload_n 1, 1) := by decide +kernel
theorem dM_count_6 : decode cM_count 6 = .ok (.iconst 0, 1) := by decide +kernel
theorem dM_count_7 : decode cM_count 7 = .ok (.bipush 12, 2) := by decide +kernel
theorem dM_count_9 : decode cM_count 9 = .ok (.invokestatic 165, 3) := by decide +kernel
theorem dM_count_12 : decode cM_count 12 = .ok (.ifCond .ne 5, 3) := by decide +kernel
theorem dM_count_15 : decode cM_count 15 = .ok (.iconst (-1), 1) := by decide +kernel
theorem dM_count_16 : decode cM_count 16 = .ok (.ireturn, 1) := by decide +kernel
theorem dM_count_17 : decode cM_count 17 = .ok (.iload_n 1, 1) := by decide +kernel
theorem dM_count_18 : decode cM_count 18 = .ok (.bipush 11, 2) := by decide +kernel
theorem dM_count_20 : decode cM_count 20 = .ok (.if_icmp .ne 10, 3) := by decide +kernel
theorem dM_count_23 : decode cM_count 23 = .ok (.aload_n 0, 1) := by decide +kernel
theorem dM_count_24 : decode cM_count 24 = .ok (.invokevirtual 188, 3) := by decide +kernel
theorem dM_count_27 : decode cM_count 27 = .ok (.goto 24, 3) := by decide +kernel
theorem dM_count_30 : decode cM_count 30 = .ok (.iload_n 1, 1) := by decide +kernel
theorem dM_count_31 : decode cM_count 31 = .ok (.bipush 12, 2) := by decide +kernel
theorem dM_count_33 : decode cM_count 33 = .ok (.if_icmp .ne 12, 3) := by decide +kernel
theorem dM_count_36 : decode cM_count 36 = .ok (.aload_n 0, 1) := by decide +kernel
theorem dM_count_37 : decode cM_count 37 = .ok (.bipush 96, 2) := by decide +kernel
theorem dM_count_39 : decode cM_count 39 = .ok (.invokevirtual 122, 3) := by decide +kernel
theorem dM_count_42 : decode cM_count 42 = .ok (.goto 9, 3) := by decide +kernel
theorem dM_count_45 : decode cM_count 45 = .ok (.aload_n 0, 1) := by decide +kernel
theorem dM_count_46 : decode cM_count 46 = .ok (.getfield 62, 3) := by decide +kernel
theorem dM_count_49 : decode cM_count 49 = .ok (.iload_n 1, 1) := by decide +kernel
theorem dM_count_50 : decode cM_count 50 = .ok (.iaload, 1) := by decide +kernel
theorem dM_count_51 : decode cM_count 51 = .ok (.ireturn, 1) := by decide +kernel
end
section
theorem dP_init_0 : decode cP_init 0 = .ok (.aload_n 0, 1) := by decide +kernel
theorem dP_init_1 : decode cP_init 1 = .ok (.invokespecial 3, 3) := by decide +kernel
theorem dP_init_4 : decode cP_init 4 = .ok (.aload_n 0, 1) := by decide +kernel
theorem dP_init_5 : decode cP_init 5 = .ok (.bipush 8, 2) := by decide +kernel
theorem dP_init_7 : decode cP_init 7 = .ok (.anewarray 9, 3) := by decide +kernel
theorem dP_init_10 : decode cP_init 10 = .ok (.putfield 11, 3) := by decide +kernel
theorem dP_init_13 : decode cP_init 13 = .ok (.aload_n 0, 1) := by decide +kernel
theorem dP_init_14 : decode cP_init 14 = .ok (.iconst 0, 1) := by decide +kernel
theorem dP_init_15 : decode cP_init 15 = .ok (.putfield 17, 3) := by decide +kernel
theorem dP_init_18 : decode cP_init 18 = .ok (.aload_n 0, 1) := by decide +kernel
theorem dP_init_19 : decode cP_init 19 = .ok (.iconst 0, 1) := by decide +kernel
theorem dP_init_20 : decode cP_init 20 = .ok (.putfield 21, 3) := by decide +kernel
theorem dP_init_23 : decode cP_init 23 = .ok (.aload_n 0, 1) := by decide +kernel
theorem dP_init_24 : decode cP_init 24 = .ok (.lconst 0, 1) := by decide +kernel
theorem dP_init_25 : decode cP_init 25 = .ok (.putfield 24, 3) := by decide +kernel
theorem dP_init_28 : decode cP_init 28 = .ok (.return_, 1) := by decide +kernel
theorem dP_hasRoomFor_0 : decode cP_hasRoomFor 0 = .ok (.aload_n 0, 1) := by decide +kernel
theorem dP_hasRoomFor_1 : decode cP_hasRoomFor 1 = .ok (.getfield 21, 3) := by decide +kernel
theorem dP_hasRoomFor_4 : decode cP_hasRoomFor 4 = .ok (.iload_n 1, 1) := by decide +kernel
theorem dP_hasRoomFor_5 : decode cP_hasRoomFor 5 = .ok (.iadd, 1) := by decide +kernel
theorem dP_hasRoomFor_6 : decode cP_hasRoomFor 6 = .ok (.bipush 32, 2) := by decide +kernel
theorem dP_hasRoomFor_8 : decode cP_hasRoomFor 8 = .ok (.if_icmp .gt 7, 3) := by decide +kernel
theorem dP_hasRoomFor_11 : decode cP_hasRoomFor 11 = .ok (.iconst 1, 1) := by decide +kernel
theorem dP_hasRoomFor_12 : decode cP_hasRoomFor 12 = .ok (.goto 4, 3) := by decide +kernel
theorem dP_hasRoomFor_15 : decode cP_hasRoomFor 15 = .ok (.iconst 0, 1) := by decide +kernel
theorem dP_hasRoomFor_16 : decode cP_hasRoomFor 16 = .ok (.ireturn, 1) := by decide +kernel
theorem dP_find_0 : decode cP_find 0 = .ok (.aload_n 0, 1) := by decide +kernel
theorem dP_find_1 : decode cP_find 1 = .ok (.lload_n 1, 1) := by decide +kernel
theorem dP_find_2 : decode cP_find 2 = .ok (.invokevirtual 34, 3) := by decide +kernel
theorem dP_find_5 : decode cP_find 5 = .ok (.istore_n 3, 1) := by decide +kernel
theorem dP_find_6 : decode cP_find 6 = .ok (.iload_n 3, 1) := by decide +kernel
theorem dP_find_7 : decode cP_find 7 = .ok (.iconst (-1), 1) := by decide +kernel
theorem dP_find_8 : decode cP_find 8 = .ok (.if_icmp .ne 7, 3) := by decide +kernel
theorem dP_find_11 : decode cP_find 11 = .ok (.aconst_null, 1) := by decide +kernel
theorem dP_find_12 : decode cP_find 12 = .ok (.goto 9, 3) := by decide +kernel
theorem dP_find_15 : decode cP_find 15 = .ok (.aload_n 0, 1) := by decide +kernel
theorem dP_find_16 : decode cP_find 16 = .ok (.getfield 11, 3) := by decide +kernel
theorem dP_find_19 : decode cP_find 19 = .ok (.iload_n 3, 1) := by decide +kernel
theorem dP_find_20 : decode cP_find 20 = .ok (.aaload, 1) := by decide +kernel
theorem dP_find_21 : decode cP_find 21 = .ok (.areturn, 1) := by decide +kernel
theorem dP_placeOf_0 : decode cP_placeOf 0 = .ok (.iconst 0, 1) := by decide +kernel
theorem dP_placeOf_1 : decode cP_placeOf 1 = .ok (.istore_n 3, 1) := by decide +kernel
theorem dP_placeOf_2 : decode cP_placeOf 2 = .ok (.iload_n 3, 1) := by decide +kernel
theorem dP_placeOf_3 : decode cP_placeOf 3 = .ok (.aload_n 0, 1) := by decide +kernel
theorem dP_placeOf_4 : decode cP_placeOf 4 = .ok (.getfield 17, 3) := by decide +kernel
theorem dP_placeOf_7 : decode cP_placeOf 7 = .ok (.if_icmp .ge 25, 3) := by decide +kernel
theorem dP_placeOf_10 : decode cP_placeOf 10 = .ok (.aload_n 0, 1) := by decide +kernel
theorem dP_placeOf_11 : decode cP_placeOf 11 = .ok (.getfield 11, 3) := by decide +kernel
theorem dP_placeOf_14 : decode cP_placeOf 14 = .ok (.iload_n 3, 1) := by decide +kernel
theorem dP_placeOf_15 : decode cP_placeOf 15 = .ok (.aaload, 1) := by decide +kernel
theorem dP_placeOf_16 : decode cP_placeOf 16 = .ok (.getfield 54, 3) := by decide +kernel
theorem dP_placeOf_19 : decode cP_placeOf 19 = .ok (.lload_n 1, 1) := by decide +kernel
theorem dP_placeOf_20 : decode cP_placeOf 20 = .ok (.lcmp, 1) := by decide +kernel
theorem dP_placeOf_21 : decode cP_placeOf 21 = .ok (.ifCond .ne 5, 3) := by decide +kernel
theorem dP_placeOf_24 : decode cP_placeOf 24 = .ok (.iload_n 3, 1) := by decide +kernel
theorem dP_placeOf_25 : decode cP_placeOf 25 = .ok (.ireturn, 1) := by decide +kernel
theorem dP_placeOf_26 : decode cP_placeOf 26 = .ok (.iinc 3 1, 3) := by decide +kernel
theorem dP_placeOf_29 : decode cP_placeOf 29 = .ok (.goto (-27), 3) := by decide +kernel
theorem dP_placeOf_32 : decode cP_placeOf 32 = .ok (.iconst (-1), 1) := by decide +kernel
theorem dP_placeOf_33 : decode cP_placeOf 33 = .ok (.ireturn, 1) := by decide +kernel
theorem dP_remove_0 : decode cP_remove 0 = .ok (.aload_n 0, 1) := by decide +kernel
theorem dP_remove_1 : decode cP_remove 1 = .ok (.lload_n 1, 1) := by decide +kernel
theorem dP_remove_2 : decode cP_remove 2 = .ok (.invokevirtual 34, 3) := by decide +kernel
theorem dP_remove_5 : decode cP_remove 5 = .ok (.istore_n 3, 1) := by decide +kernel
theorem dP_remove_6 : decode cP_remove 6 = .ok (.iload_n 3, 1) := by decide +kernel
theorem dP_remove_7 : decode cP_remove 7 = .ok (.iconst (-1), 1) := by decide +kernel
theorem dP_remove_8 : decode cP_remove 8 = .ok (.if_icmp .eq 8, 3) := by decide +kernel
theorem dP_remove_11 : decode cP_remove 11 = .ok (.aload_n 0, 1) := by decide +kernel
theorem dP_remove_12 : decode cP_remove 12 = .ok (.iload_n 3, 1) := by decide +kernel
theorem dP_remove_13 : decode cP_remove 13 = .ok (.invokevirtual 38, 3) := by decide +kernel
theorem dP_remove_16 : decode cP_remove 16 = .ok (.return_, 1) := by decide +kernel
theorem dP_removeAt_0 : decode cP_removeAt 0 = .ok (.aload_n 0, 1) := by decide +kernel
theorem dP_removeAt_1 : decode cP_removeAt 1 = .ok (.dup, 1) := by decide +kernel
theorem dP_removeAt_2 : decode cP_removeAt 2 = .ok (.getfield 21, 3) := by decide +kernel
theorem dP_removeAt_5 : decode cP_removeAt 5 = .ok (.aload_n 0, 1) := by decide +kernel
theorem dP_removeAt_6 : decode cP_removeAt 6 = .ok (.getfield 11, 3) := by decide +kernel
theorem dP_removeAt_9 : decode cP_removeAt 9 = .ok (.iload_n 1, 1) := by decide +kernel
theorem dP_removeAt_10 : decode cP_removeAt 10 = .ok (.aaload, 1) := by decide +kernel
theorem dP_removeAt_11 : decode cP_removeAt 11 = .ok (.invokevirtual 28, 3) := by decide +kernel
theorem dP_removeAt_14 : decode cP_removeAt 14 = .ok (.isub, 1) := by decide +kernel
theorem dP_removeAt_15 : decode cP_removeAt 15 = .ok (.putfield 21, 3) := by decide +kernel
theorem dP_removeAt_18 : decode cP_removeAt 18 = .ok (.aload_n 0, 1) := by decide +kernel
theorem dP_removeAt_19 : decode cP_removeAt 19 = .ok (.dup, 1) := by decide +kernel
theorem dP_removeAt_20 : decode cP_removeAt 20 = .ok (.getfield 17, 3) := by decide +kernel
theorem dP_removeAt_23 : decode cP_removeAt 23 = .ok (.iconst 1, 1) := by decide +kernel
theorem dP_removeAt_24 : decode cP_removeAt 24 = .ok (.isub, 1) := by decide +kernel
theorem dP_removeAt_25 : decode cP_removeAt 25 = .ok (.putfield 17, 3) := by decide +kernel
theorem dP_removeAt_28 : decode cP_removeAt 28 = .ok (.iload_n 1, 1) := by decide +kernel
theorem dP_removeAt_29 : decode cP_removeAt 29 = .ok (.istore_n 2, 1) := by decide +kernel
theorem dP_removeAt_30 : decode cP_removeAt 30 = .ok (.iload_n 2, 1) := by decide +kernel
theorem dP_removeAt_31 : decode cP_removeAt 31 = .ok (.aload_n 0, 1) := by decide +kernel
theorem dP_removeAt_32 : decode cP_removeAt 32 = .ok (.getfield 17, 3) := by decide +kernel
theorem dP_removeAt_35 : decode cP_removeAt 35 = .ok (.if_icmp .ge 23, 3) := by decide +kernel
theorem dP_removeAt_38 : decode cP_removeAt 38 = .ok (.aload_n 0, 1) := by decide +kernel
theorem dP_removeAt_39 : decode cP_removeAt 39 = .ok (.getfield 11, 3) := by decide +kernel
theorem dP_removeAt_42 : decode cP_removeAt 42 = .ok (.iload_n 2, 1) := by decide +kernel
theorem dP_removeAt_43 : decode cP_removeAt 43 = .ok (.aload_n 0, 1) := by decide +kernel
theorem dP_removeAt_44 : decode cP_removeAt 44 = .ok (.getfield 11, 3) := by decide +kernel
theorem dP_removeAt_47 : decode cP_removeAt 47 = .ok (.iload_n 2, 1) := by decide +kernel
theorem dP_removeAt_48 : decode cP_removeAt 48 = .ok (.iconst 1, 1) := by decide +kernel
theorem dP_removeAt_49 : decode cP_removeAt 49 = .ok (.iadd, 1) := by decide +kernel
theorem dP_removeAt_50 : decode cP_removeAt 50 = .ok (.aaload, 1) := by decide +kernel
theorem dP_removeAt_51 : decode cP_removeAt 51 = .ok (.aastore, 1) := by decide +kernel
theorem dP_removeAt_52 : decode cP_removeAt 52 = .ok (.iinc 2 1, 3) := by decide +kernel
theorem dP_removeAt_55 : decode cP_removeAt 55 = .ok (.goto (-25), 3) := by decide +kernel
theorem dP_removeAt_58 : decode cP_removeAt 58 = .ok (.aload_n 0, 1) := by decide +kernel
theorem dP_removeAt_59 : decode cP_removeAt 59 = .ok (.getfield 11, 3) := by decide +kernel
theorem dP_removeAt_62 : decode cP_removeAt 62 = .ok (.aload_n 0, 1) := by decide +kernel
theorem dP_removeAt_63 : decode cP_removeAt 63 = .ok (.getfield 17, 3) := by decide +kernel
theorem dP_removeAt_66 : decode cP_removeAt 66 = .ok (.aconst_null, 1) := by decide +kernel
theorem dP_removeAt_67 : decode cP_removeAt 67 = .ok (.aastore, 1) := by decide +kernel
theorem dP_removeAt_68 : decode cP_removeAt 68 = .ok (.aload_n 0, 1) := by decide +kernel
theorem dP_removeAt_69 : decode cP_removeAt 69 = .ok (.lconst 0, 1) := by decide +kernel
theorem dP_removeAt_70 : decode cP_removeAt 70 = .ok (.putfield 24, 3) := by decide +kernel
theorem dP_removeAt_73 : decode cP_removeAt 73 = .ok (.iconst 0, 1) := by decide +kernel
theorem dP_removeAt_74 : decode cP_removeAt 74 = .ok (.istore_n 2, 1) := by decide +kernel
theorem dP_removeAt_75 : decode cP_removeAt 75 = .ok (.iload_n 2, 1) := by decide +kernel
theorem dP_removeAt_76 : decode cP_removeAt 76 = .ok (.aload_n 0, 1) := by decide +kernel
theorem dP_removeAt_77 : decode cP_removeAt 77 = .ok (.getfield 17, 3) := by decide +kernel
theorem dP_removeAt_80 : decode cP_removeAt 80 = .ok (.if_icmp .ge 27, 3) := by decide +kernel
theorem dP_removeAt_83 : decode cP_removeAt 83 = .ok (.aload_n 0, 1) := by decide +kernel
theorem dP_removeAt_84 : decode cP_removeAt 84 = .ok (.dup, 1) := by decide +kernel
theorem dP_removeAt_85 : decode cP_removeAt 85 = .ok (.getfield 24, 3) := by decide +kernel
theorem dP_removeAt_88 : decode cP_removeAt 88 = .ok (.aload_n 0, 1) := by decide +kernel
theorem dP_removeAt_89 : decode cP_removeAt 89 = .ok (.getfield 11, 3) := by decide +kernel
theorem dP_removeAt_92 : decode cP_removeAt 92 = .ok (.iload_n 2, 1) := by decide +kernel
theorem dP_removeAt_93 : decode cP_removeAt 93 = .ok (.aaload, 1) := by decide +kernel
theorem dP_removeAt_94 : decode cP_removeAt 94 = .ok (.getfield 31, 3) := by decide +kernel
theorem dP_removeAt_97 : decode cP_removeAt 97 = .ok (.lor, 1) := by decide +kernel
theorem dP_removeAt_98 : decode cP_removeAt 98 = .ok (.putfield 24, 3) := by decide +kernel
theorem dP_removeAt_101 : decode cP_removeAt 101 = .ok (.iinc 2 1, 3) := by decide +kernel
theorem dP_removeAt_104 : decode cP_removeAt 104 = .ok (.goto (-29), 3) := by decide +kernel
theorem dP_removeAt_107 : decode cP_removeAt 107 = .ok (.return_, 1) := by decide +kernel
theorem dP_dropFor_0 : decode cP_dropFor 0 = .ok (.aload_n 0, 1) := by decide +kernel
theorem dP_dropFor_1 : decode cP_dropFor 1 = .ok (.getfield 17, 3) := by decide +kernel
theorem dP_dropFor_4 : decode cP_dropFor 4 = .ok (.istore_n 3, 1) := by decide +kernel
theorem dP_dropFor_5 : decode cP_dropFor 5 = .ok (.iconst 0, 1) := by decide +kernel
theorem dP_dropFor_6 : decode cP_dropFor 6 = .ok (.istore 4, 2) := by decide +kernel
theorem dP_dropFor_8 : decode cP_dropFor 8 = .ok (.iconst 0, 1) := by decide +kernel
theorem dP_dropFor_9 : decode cP_dropFor 9 = .ok (.istore 5, 2) := by decide +kernel
theorem dP_dropFor_11 : decode cP_dropFor 11 = .ok (.iload 5, 2) := by decide +kernel
theorem dP_dropFor_13 : decode cP_dropFor 13 = .ok (.iload_n 3, 1) := by decide +kernel
theorem dP_dropFor_14 : decode cP_dropFor 14 = .ok (.if_icmp .ge 43, 3) := by decide +kernel
theorem dP_dropFor_17 : decode cP_dropFor 17 = .ok (.aload_n 0, 1) := by decide +kernel
theorem dP_dropFor_18 : decode cP_dropFor 18 = .ok (.iload_n 1, 1) := by decide +kernel
theorem dP_dropFor_19 : decode cP_dropFor 19 = .ok (.invokevirtual 42, 3) := by decide +kernel
theorem dP_dropFor_22 : decode cP_dropFor 22 = .ok (.ifCond .ne 35, 3) := by decide +kernel
theorem dP_dropFor_25 : decode cP_dropFor 25 = .ok (.aload_n 0, 1) := by decide +kernel
theorem dP_dropFor_26 : decode cP_dropFor 26 = .ok (.getfield 11, 3) := by decide +kernel
theorem dP_dropFor_29 : decode cP_dropFor 29 = .ok (.iload 4, 2) := by decide +kernel
theorem dP_dropFor_31 : decode cP_dropFor 31 = .ok (.aaload, 1) := by decide +kernel
theorem dP_dropFor_32 : decode cP_dropFor 32 = .ok (.getfield 46, 3) := by decide +kernel
theorem dP_dropFor_35 : decode cP_dropFor 35 = .ok (.iload_n 2, 1) := by decide +kernel
theorem dP_dropFor_36 : decode cP_dropFor 36 = .ok (.if_icmp .ne 12, 3) := by decide +kernel
theorem dP_dropFor_39 : decode cP_dropFor 39 = .ok (.aload_n 0, 1) := by decide +kernel
theorem dP_dropFor_40 : decode cP_dropFor 40 = .ok (.iload 4, 2) := by decide +kernel
theorem dP_dropFor_42 : decode cP_dropFor 42 = .ok (.invokevirtual 38, 3) := by decide +kernel
theorem dP_dropFor_45 : decode cP_dropFor 45 = .ok (.goto 6, 3) := by decide +kernel
theorem dP_dropFor_48 : decode cP_dropFor 48 = .ok (.iinc 4 1, 3) := by decide +kernel
theorem dP_dropFor_51 : decode cP_dropFor 51 = .ok (.iinc 5 1, 3) := by decide +kernel
theorem dP_dropFor_54 : decode cP_dropFor 54 = .ok (.goto (-43), 3) := by decide +kernel
theorem dP_dropFor_57 : decode cP_dropFor 57 = .ok (.iload_n 3, 1) := by decide +kernel
theorem dP_dropFor_58 : decode cP_dropFor 58 = .ok (.aload_n 0, 1) := by decide +kernel
theorem dP_dropFor_59 : decode cP_dropFor 59 = .ok (.getfield 17, 3) := by decide +kernel
theorem dP_dropFor_62 : decode cP_dropFor 62 = .ok (.isub, 1) := by decide +kernel
theorem dP_dropFor_63 : decode cP_dropFor 63 = .ok (.ireturn, 1) := by decide +kernel
theorem dP_add_0 : decode cP_add 0 = .ok (.aload_n 0, 1) := by decide +kernel
theorem dP_add_1 : decode cP_add 1 = .ok (.getfield 11, 3) := by decide +kernel
theorem dP_add_4 : decode cP_add 4 = .ok (.aload_n 0, 1) := by decide +kernel
theorem dP_add_5 : decode cP_add 5 = .ok (.getfield 17, 3) := by decide +kernel
theorem dP_add_8 : decode cP_add 8 = .ok (.aload_n 1, 1) := by decide +kernel
theorem dP_add_9 : decode cP_add 9 = .ok (.aastore, 1) := by decide +kernel
theorem dP_add_10 : decode cP_add 10 = .ok (.aload_n 0, 1) := by decide +kernel
theorem dP_add_11 : decode cP_add 11 = .ok (.dup, 1) := by decide +kernel
theorem dP_add_12 : decode cP_add 12 = .ok (.getfield 17, 3) := by decide +kernel
theorem dP_add_15 : decode cP_add 15 = .ok (.iconst 1, 1) := by decide +kernel
theorem dP_add_16 : decode cP_add 16 = .ok (.iadd, 1) := by decide +kernel
theorem dP_add_17 : decode cP_add 17 = .ok (.putfield 17, 3) := by decide +kernel
theorem dP_add_20 : decode cP_add 20 = .ok (.aload_n 0, 1) := by decide +kernel
theorem dP_add_21 : decode cP_add 21 = .ok (.dup, 1) := by decide +kernel
theorem dP_add_22 : decode cP_add 22 = .ok (.getfield 21, 3) := by decide +kernel
theorem dP_add_25 : decode cP_add 25 = .ok (.aload_n 1, 1) := by decide +kernel
theorem dP_add_26 : decode cP_add 26 = .ok (.invokevirtual 28, 3) := by decide +kernel
theorem dP_add_29 : decode cP_add 29 = .ok (.iadd, 1) := by decide +kernel
theorem dP_add_30 : decode cP_add 30 = .ok (.putfield 21, 3) := by decide +kernel
theorem dP_add_33 : decode cP_add 33 = .ok (.aload_n 0, 1) := by decide +kernel
theorem dP_add_34 : decode cP_add 34 = .ok (.dup, 1) := by decide +kernel
theorem dP_add_35 : decode cP_add 35 = .ok (.getfield 24, 3) := by decide +kernel
theorem dP_add_38 : decode cP_add 38 = .ok (.aload_n 1, 1) := by decide +kernel
theorem dP_add_39 : decode cP_add 39 = .ok (.getfield 31, 3) := by decide +kernel
theorem dP_add_42 : decode cP_add 42 = .ok (.lor, 1) := by decide +kernel
theorem dP_add_43 : decode cP_add 43 = .ok (.putfield 24, 3) := by decide +kernel
theorem dP_add_46 : decode cP_add 46 = .ok (.return_, 1) := by decide +kernel
theorem dP_clearMarks_0 : decode cP_clearMarks 0 = .ok (.iconst 0, 1) := by decide +kernel
theorem dP_clearMarks_1 : decode cP_clearMarks 1 = .ok (.istore_n 1, 1) := by decide +kernel
theorem dP_clearMarks_2 : decode cP_clearMarks 2 = .ok (.iload_n 1, 1) := by decide +kernel
theorem dP_clearMarks_3 : decode cP_clearMarks 3 = .ok (.aload_n 0, 1) := by decide +kernel
theorem dP_clearMarks_4 : decode cP_clearMarks 4 = .ok (.getfield 17, 3) := by decide +kernel
theorem dP_clearMarks_7 : decode cP_clearMarks 7 = .ok (.if_icmp .ge 19, 3) := by decide +kernel
theorem dP_clearMarks_10 : decode cP_clearMarks 10 = .ok (.aload_n 0, 1) := by decide +kernel
theorem dP_clearMarks_11 : decode cP_clearMarks 11 = .ok (.getfield 11, 3) := by decide +kernel
theorem dP_clearMarks_14 : decode cP_clearMarks 14 = .ok (.iload_n 1, 1) := by decide +kernel
theorem dP_clearMarks_15 : decode cP_clearMarks 15 = .ok (.aaload, 1) := by decide +kernel
theorem dP_clearMarks_16 : decode cP_clearMarks 16 = .ok (.iconst 0, 1) := by decide +kernel
theorem dP_clearMarks_17 : decode cP_clearMarks 17 = .ok (.putfield 46, 3) := by decide +kernel
theorem dP_clearMarks_20 : decode cP_clearMarks 20 = .ok (.iinc 1 1, 3) := by decide +kernel
theorem dP_clearMarks_23 : decode cP_clearMarks 23 = .ok (.goto (-21), 3) := by decide +kernel
theorem dP_clearMarks_26 : decode cP_clearMarks 26 = .ok (.return_, 1) := by decide +kernel
theorem dP_wipe_0 : decode cP_wipe 0 = .ok (.iconst 0, 1) := by decide +kernel
theorem dP_wipe_1 : decode cP_wipe 1 = .ok (.istore_n 1, 1) := by decide +kernel
theorem dP_wipe_2 : decode cP_wipe 2 = .ok (.iload_n 1, 1) := by decide +kernel
theorem dP_wipe_3 : decode cP_wipe 3 = .ok (.bipush 8, 2) := by decide +kernel
theorem dP_wipe_5 : decode cP_wipe 5 = .ok (.if_icmp .ge 16, 3) := by decide +kernel
theorem dP_wipe_8 : decode cP_wipe 8 = .ok (.aload_n 0, 1) := by decide +kernel
theorem dP_wipe_9 : decode cP_wipe 9 = .ok (.getfield 11, 3) := by decide +kernel
theorem dP_wipe_12 : decode cP_wipe 12 = .ok (.iload_n 1, 1) := by decide +kernel
theorem dP_wipe_13 : decode cP_wipe 13 = .ok (.aconst_null, 1) := by decide +kernel
theorem dP_wipe_14 : decode cP_wipe 14 = .ok (.aastore, 1) := by decide +kernel
theorem dP_wipe_15 : decode cP_wipe 15 = .ok (.iinc 1 1, 3) := by decide +kernel
theorem dP_wipe_18 : decode cP_wipe 18 = .ok (.goto (-16), 3) := by decide +kernel
theorem dP_wipe_21 : decode cP_wipe 21 = .ok (.aload_n 0, 1) := by decide +kernel
theorem dP_wipe_22 : decode cP_wipe 22 = .ok (.iconst 0, 1) := by decide +kernel
theorem dP_wipe_23 : decode cP_wipe 23 = .ok (.putfield 17, 3) := by decide +kernel
theorem dP_wipe_26 : decode cP_wipe 26 = .ok (.aload_n 0, 1) := by decide +kernel
theorem dP_wipe_27 : decode cP_wipe 27 = .ok (.iconst 0, 1) := by decide +kernel
theorem dP_wipe_28 : decode cP_wipe 28 = .ok (.putfield 21, 3) := by decide +kernel
theorem dP_wipe_31 : decode cP_wipe 31 = .ok (.aload_n 0, 1) := by decide +kernel
theorem dP_wipe_32 : decode cP_wipe 32 = .ok (.lconst 0, 1) := by decide +kernel
theorem dP_wipe_33 : decode cP_wipe 33 = .ok (.putfield 24, 3) := by decide +kernel
theorem dP_wipe_36 : decode cP_wipe 36 = .ok (.return_, 1) := by decide +kernel
theorem dP_wordAt_0 : decode cP_wordAt 0 = .ok (.iconst 0, 1) := by decide +kernel
theorem dP_wordAt_1 : decode cP_wordAt 1 = .ok (.istore_n 2, 1) := by decide +kernel
theorem dP_wordAt_2 : decode cP_wordAt 2 = .ok (.iconst 0, 1) := by decide +kernel
theorem dP_wordAt_3 : decode cP_wordAt 3 = .ok (.istore_n 3, 1) := by decide +kernel
theorem dP_wordAt_4 : decode cP_wordAt 4 = .ok (.iload_n 3, 1) := by decide +kernel
theorem dP_wordAt_5 : decode cP_wordAt 5 = .ok (.aload_n 0, 1) := by decide +kernel
theorem dP_wordAt_6 : decode cP_wordAt 6 = .ok (.getfield 17, 3) := by decide +kernel
theorem dP_wordAt_9 : decode cP_wordAt 9 = .ok (.if_icmp .ge 44, 3) := by decide +kernel
theorem dP_wordAt_12 : decode cP_wordAt 12 = .ok (.iload_n 2, 1) := by decide +kernel
theorem dP_wordAt_13 : decode cP_wordAt 13 = .ok (.aload_n 0, 1) := by decide +kernel
theorem dP_wordAt_14 : decode cP_wordAt 14 = .ok (.getfield 11, 3) := by decide +kernel
theorem dP_wordAt_17 : decode cP_wordAt 17 = .ok (.iload_n 3, 1) := by decide +kernel
theorem dP_wordAt_18 : decode cP_wordAt 18 = .ok (.aaload, 1) := by decide +kernel
theorem dP_wordAt_19 : decode cP_wordAt 19 = .ok (.invokevirtual 28, 3) := by decide +kernel
theorem dP_wordAt_22 : decode cP_wordAt 22 = .ok (.iadd, 1) := by decide +kernel
theorem dP_wordAt_23 : decode cP_wordAt 23 = .ok (.istore 4, 2) := by decide +kernel
theorem dP_wordAt_25 : decode cP_wordAt 25 = .ok (.iload_n 1, 1) := by decide +kernel
theorem dP_wordAt_26 : decode cP_wordAt 26 = .ok (.iload 4, 2) := by decide +kernel
theorem dP_wordAt_28 : decode cP_wordAt 28 = .ok (.if_icmp .ge 16, 3) := by decide +kernel
theorem dP_wordAt_31 : decode cP_wordAt 31 = .ok (.aload_n 0, 1) := by decide +kernel
theorem dP_wordAt_32 : decode cP_wordAt 32 = .ok (.getfield 11, 3) := by decide +kernel
theorem dP_wordAt_35 : decode cP_wordAt 35 = .ok (.iload_n 3, 1) := by decide +kernel
theorem dP_wordAt_36 : decode cP_wordAt 36 = .ok (.aaload, 1) := by decide +kernel
theorem dP_wordAt_37 : decode cP_wordAt 37 = .ok (.iload_n 1, 1) := by decide +kernel
theorem dP_wordAt_38 : decode cP_wordAt 38 = .ok (.iload_n 2, 1) := by decide +kernel
theorem dP_wordAt_39 : decode cP_wordAt 39 = .ok (.isub, 1) := by decide +kernel
theorem dP_wordAt_40 : decode cP_wordAt 40 = .ok (.invokevirtual 50, 3) := by decide +kernel
theorem dP_wordAt_43 : decode cP_wordAt 43 = .ok (.ireturn, 1) := by decide +kernel
theorem dP_wordAt_44 : decode cP_wordAt 44 = .ok (.iload 4, 2) := by decide +kernel
theorem dP_wordAt_46 : decode cP_wordAt 46 = .ok (.istore_n 2, 1) := by decide +kernel
theorem dP_wordAt_47 : decode cP_wordAt 47 = .ok (.iinc 3 1, 3) := by decide +kernel
theorem dP_wordAt_50 : decode cP_wordAt 50 = .ok (.goto (-46), 3) := by decide +kernel
theorem dP_wordAt_53 : decode cP_wordAt 53 = .ok (.iconst 0, 1) := by decide +kernel
theorem dP_wordAt_54 : decode cP_wordAt 54 = .ok (.ireturn, 1) := by decide +kernel
end
section
theorem dT_init_0 : decode cT_init 0 = .ok (.aload_n 0, 1) := by decide +kernel
theorem dT_init_1 : decode cT_init 1 = .ok (.invokespecial 3, 3) := by decide +kernel
theorem dT_init_4 : decode cT_init 4 = .ok (.aload_n 0, 1) := by decide +kernel
theorem dT_init_5 : decode cT_init 5 = .ok (.iconst 0, 1) := by decide +kernel
theorem dT_init_6 : decode cT_init 6 = .ok (.putfield 9, 3) := by decide +kernel
theorem dT_init_9 : decode cT_init 9 = .ok (.aload_n 0, 1) := by decide +kernel
theorem dT_init_10 : decode cT_init 10 = .ok (.iconst 0, 1) := by decide +kernel
theorem dT_init_11 : decode cT_init 11 = .ok (.putfield 15, 3) := by decide +kernel
theorem dT_init_14 : decode cT_init 14 = .ok (.lload_n 1, 1) := by decide +kernel
theorem dT_init_15 : decode cT_init 15 = .ok (.invokestatic 19, 3) := by decide +kernel
theorem dT_init_18 : decode cT_init 18 = .ok (.lstore 4, 2) := by decide +kernel
theorem dT_init_20 : decode cT_init 20 = .ok (.aload_n 0, 1) := by decide +kernel
theorem dT_init_21 : decode cT_init 21 = .ok (.lload_n 1, 1) := by decide +kernel
theorem dT_init_22 : decode cT_init 22 = .ok (.putfield 23, 3) := by decide +kernel
theorem dT_init_25 : decode cT_init 25 = .ok (.aload_n 0, 1) := by decide +kernel
theorem dT_init_26 : decode cT_init 26 = .ok (.aload_n 3, 1) := by decide +kernel
theorem dT_init_27 : decode cT_init 27 = .ok (.putfield 27, 3) := by decide +kernel
theorem dT_init_30 : decode cT_init 30 = .ok (.aload_n 0, 1) := by decide +kernel
theorem dT_init_31 : decode cT_init 31 = .ok (.lload 4, 2) := by decide +kernel
theorem dT_init_33 : decode cT_init 33 = .ok (.invokestatic 31, 3) := by decide +kernel
theorem dT_init_36 : decode cT_init 36 = .ok (.putfield 35, 3) := by decide +kernel
theorem dT_init_39 : decode cT_init 39 = .ok (.aload_n 0, 1) := by decide +kernel
theorem dT_init_40 : decode cT_init 40 = .ok (.lload 4, 2) := by decide +kernel
theorem dT_init_42 : decode cT_init 42 = .ok (.invokestatic 38, 3) := by decide +kernel
theorem dT_init_45 : decode cT_init 45 = .ok (.putfield 41, 3) := by decide +kernel
theorem dT_init_48 : decode cT_init 48 = .ok (.return_, 1) := by decide +kernel
theorem dT_words_0 : decode cT_words 0 = .ok (.iconst 3, 1) := by decide +kernel
theorem dT_words_1 : decode cT_words 1 = .ok (.aload_n 0, 1) := by decide +kernel
theorem dT_words_2 : decode cT_words 2 = .ok (.getfield 27, 3) := by decide +kernel
theorem dT_words_5 : decode cT_words 5 = .ok (.arraylength, 1) := by decide +kernel
theorem dT_words_6 : decode cT_words 6 = .ok (.iadd, 1) := by decide +kernel
theorem dT_words_7 : decode cT_words 7 = .ok (.ireturn, 1) := by decide +kernel
theorem dT_wordAt_0 : decode cT_wordAt 0 = .ok (.iload_n 1, 1) := by decide +kernel
theorem dT_wordAt_1 : decode cT_wordAt 1 = .ok (.tableswitch 48 0 2 #[27, 33, 42], 27) := by decide +kernel
theorem dT_wordAt_28 : decode cT_wordAt 28 = .ok (.aload_n 0, 1) := by decide +kernel
theorem dT_wordAt_29 : decode cT_wordAt 29 = .ok (.getfield 27, 3) := by decide +kernel
theorem dT_wordAt_32 : decode cT_wordAt 32 = .ok (.arraylength, 1) := by decide +kernel
theorem dT_wordAt_33 : decode cT_wordAt 33 = .ok (.ireturn, 1) := by decide +kernel
theorem dT_wordAt_34 : decode cT_wordAt 34 = .ok (.aload_n 0, 1) := by decide +kernel
theorem dT_wordAt_35 : decode cT_wordAt 35 = .ok (.getfield 23, 3) := by decide +kernel
theorem dT_wordAt_38 : decode cT_wordAt 38 = .ok (.bipush 32, 2) := by decide +kernel
theorem dT_wordAt_40 : decode cT_wordAt 40 = .ok (.lushr, 1) := by decide +kernel
theorem dT_wordAt_41 : decode cT_wordAt 41 = .ok (.l2i, 1) := by decide +kernel
theorem dT_wordAt_42 : decode cT_wordAt 42 = .ok (.ireturn, 1) := by decide +kernel
theorem dT_wordAt_43 : decode cT_wordAt 43 = .ok (.aload_n 0, 1) := by decide +kernel
theorem dT_wordAt_44 : decode cT_wordAt 44 = .ok (.getfield 23, 3) := by decide +kernel
theorem dT_wordAt_47 : decode cT_wordAt 47 = .ok (.l2i, 1) := by decide +kernel
theorem dT_wordAt_48 : decode cT_wordAt 48 = .ok (.ireturn, 1) := by decide +kernel
theorem dT_wordAt_49 : decode cT_wordAt 49 = .ok (.aload_n 0, 1) := by decide +kernel
theorem dT_wordAt_50 : decode cT_wordAt 50 = .ok (.getfield 27, 3) := by decide +kernel
theorem dT_wordAt_53 : decode cT_wordAt 53 = .ok (.iload_n 1, 1) := by decide +kernel
theorem dT_wordAt_54 : decode cT_wordAt 54 = .ok (.iconst 3, 1) := by decide +kernel
theorem dT_wordAt_55 : decode cT_wordAt 55 = .ok (.isub, 1) := by decide +kernel
theorem dT_wordAt_56 : decode cT_wordAt 56 = .ok (.iaload, 1) := by decide +kernel
theorem dT_wordAt_57 : decode cT_wordAt 57 = .ok (.ireturn, 1) := by decide +kernel
end
section
theorem dW_word_0 : decode cW_word 0 = .ok (.aload_n 3, 1) := by decide +kernel
theorem dW_word_1 : decode cW_word 1 = .ok (.iconst 0, 1) := by decide +kernel
theorem dW_word_2 : decode cW_word 2 = .ok (.aload_n 0, 1) := by decide +kernel
theorem dW_word_3 : decode cW_word 3 = .ok (.iload_n 1, 1) := by decide +kernel
theorem dW_word_4 : decode cW_word 4 = .ok (.iload_n 2, 1) := by decide +kernel
theorem dW_word_5 : decode cW_word 5 = .ok (.invokevirtual 7, 3) := by decide +kernel
theorem dW_word_8 : decode cW_word 8 = .ok (.i2l, 1) := by decide +kernel
theorem dW_word_9 : decode cW_word 9 = .ok (.lastore, 1) := by decide +kernel
theorem dW_word_10 : decode cW_word 10 = .ok (.goto 7, 3) := by decide +kernel
theorem dW_word_13 : decode cW_word 13 = .ok (.astore 4, 2) := by decide +kernel
theorem dW_word_15 : decode cW_word 15 = .ok (.iconst 1, 1) := by decide +kernel
theorem dW_word_16 : decode cW_word 16 = .ok (.ireturn, 1) := by decide +kernel
theorem dW_word_17 : decode cW_word 17 = .ok (.iconst 0, 1) := by decide +kernel
theorem dW_word_18 : decode cW_word 18 = .ok (.ireturn, 1) := by decide +kernel
theorem dW_put_0 : decode cW_put 0 = .ok (.aload_n 0, 1) := by decide +kernel
theorem dW_put_1 : decode cW_put 1 = .ok (.lload_n 1, 1) := by decide +kernel
theorem dW_put_2 : decode cW_put 2 = .ok (.iload_n 3, 1) := by decide +kernel
theorem dW_put_3 : decode cW_put 3 = .ok (.invokevirtual 15, 3) := by decide +kernel
theorem dW_put_6 : decode cW_put 6 = .ok (.goto 11, 3) := by decide +kernel
theorem dW_put_9 : decode cW_put 9 = .ok (.astore 4, 2) := by decide +kernel
theorem dW_put_11 : decode cW_put 11 = .ok (.iconst 1, 1) := by decide +kernel
theorem dW_put_12 : decode cW_put 12 = .ok (.ireturn, 1) := by decide +kernel
theorem dW_put_13 : decode cW_put 13 = .ok (.astore 4, 2) := by decide +kernel
theorem dW_put_15 : decode cW_put 15 = .ok (.iconst 2, 1) := by decide +kernel
theorem dW_put_16 : decode cW_put 16 = .ok (.ireturn, 1) := by decide +kernel
theorem dW_put_17 : decode cW_put 17 = .ok (.iconst 0, 1) := by decide +kernel
theorem dW_put_18 : decode cW_put 18 = .ok (.ireturn, 1) := by decide +kernel
theorem dW_get_0 : decode cW_get 0 = .ok (.aload_n 3, 1) := by decide +kernel
theorem dW_get_1 : decode cW_get 1 = .ok (.iconst 0, 1) := by decide +kernel
theorem dW_get_2 : decode cW_get 2 = .ok (.aload_n 0, 1) := by decide +kernel
theorem dW_get_3 : decode cW_get 3 = .ok (.lload_n 1, 1) := by decide +kernel
theorem dW_get_4 : decode cW_get 4 = .ok (.invokevirtual 23, 3) := by decide +kernel
theorem dW_get_7 : decode cW_get 7 = .ok (.i2l, 1) := by decide +kernel
theorem dW_get_8 : decode cW_get 8 = .ok (.lastore, 1) := by decide +kernel
theorem dW_get_9 : decode cW_get 9 = .ok (.goto 7, 3) := by decide +kernel
theorem dW_get_12 : decode cW_get 12 = .ok (.astore 4, 2) := by decide +kernel
theorem dW_get_14 : decode cW_get 14 = .ok (.iconst 1, 1) := by decide +kernel
theorem dW_get_15 : decode cW_get 15 = .ok (.ireturn, 1) := by decide +kernel
theorem dW_get_16 : decode cW_get 16 = .ok (.iconst 0, 1) := by decide +kernel
theorem dW_get_17 : decode cW_get 17 = .ok (.ireturn, 1) := by decide +kernel
theorem dW_got_0 : decode cW_got 0 = .ok (.aload_n 2, 1) := by decide +kernel
theorem dW_got_1 : decode cW_got 1 = .ok (.iconst 0, 1) := by decide +kernel
theorem dW_got_2 : decode cW_got 2 = .ok (.aload_n 0, 1) := by decide +kernel
theorem dW_got_3 : decode cW_got 3 = .ok (.iload_n 1, 1) := by decide +kernel
theorem dW_got_4 : decode cW_got 4 = .ok (.invokevirtual 27, 3) := by decide +kernel
theorem dW_got_7 : decode cW_got 7 = .ok (.i2l, 1) := by decide +kernel
theorem dW_got_8 : decode cW_got 8 = .ok (.lastore, 1) := by decide +kernel
theorem dW_got_9 : decode cW_got 9 = .ok (.goto 6, 3) := by decide +kernel
theorem dW_got_12 : decode cW_got 12 = .ok (.astore_n 3, 1) := by decide +kernel
theorem dW_got_13 : decode cW_got 13 = .ok (.iconst 1, 1) := by decide +kernel
theorem dW_got_14 : decode cW_got 14 = .ok (.ireturn, 1) := by decide +kernel
theorem dW_got_15 : decode cW_got 15 = .ok (.iconst 0, 1) := by decide +kernel
theorem dW_got_16 : decode cW_got 16 = .ok (.ireturn, 1) := by decide +kernel
theorem dW_delete_0 : decode cW_delete 0 = .ok (.aload_n 3, 1) := by decide +kernel
theorem dW_delete_1 : decode cW_delete 1 = .ok (.iconst 0, 1) := by decide +kernel
theorem dW_delete_2 : decode cW_delete 2 = .ok (.aload_n 0, 1) := by decide +kernel
theorem dW_delete_3 : decode cW_delete 3 = .ok (.lload_n 1, 1) := by decide +kernel
theorem dW_delete_4 : decode cW_delete 4 = .ok (.invokevirtual 31, 3) := by decide +kernel
theorem dW_delete_7 : decode cW_delete 7 = .ok (.ifCond .eq 7, 3) := by decide +kernel
theorem dW_delete_10 : decode cW_delete 10 = .ok (.lconst 1, 1) := by decide +kernel
theorem dW_delete_11 : decode cW_delete 11 = .ok (.goto 4, 3) := by decide +kernel
theorem dW_delete_14 : decode cW_delete 14 = .ok (.lconst 0, 1) := by decide +kernel
theorem dW_delete_15 : decode cW_delete 15 = .ok (.lastore, 1) := by decide +kernel
theorem dW_delete_16 : decode cW_delete 16 = .ok (.goto 7, 3) := by decide +kernel
theorem dW_delete_19 : decode cW_delete 19 = .ok (.astore 4, 2) := by decide +kernel
theorem dW_delete_21 : decode cW_delete 21 = .ok (.iconst 1, 1) := by decide +kernel
theorem dW_delete_22 : decode cW_delete 22 = .ok (.ireturn, 1) := by decide +kernel
theorem dW_delete_23 : decode cW_delete 23 = .ok (.iconst 0, 1) := by decide +kernel
theorem dW_delete_24 : decode cW_delete 24 = .ok (.ireturn, 1) := by decide +kernel
theorem dW_where_0 : decode cW_where 0 = .ok (.aload_n 3, 1) := by decide +kernel
theorem dW_where_1 : decode cW_where 1 = .ok (.iconst 0, 1) := by decide +kernel
theorem dW_where_2 : decode cW_where 2 = .ok (.aload_n 0, 1) := by decide +kernel
theorem dW_where_3 : decode cW_where 3 = .ok (.lload_n 1, 1) := by decide +kernel
theorem dW_where_4 : decode cW_where 4 = .ok (.invokevirtual 35, 3) := by decide +kernel
theorem dW_where_7 : decode cW_where 7 = .ok (.i2l, 1) := by decide +kernel
theorem dW_where_8 : decode cW_where 8 = .ok (.lastore, 1) := by decide +kernel
theorem dW_where_9 : decode cW_where 9 = .ok (.goto 7, 3) := by decide +kernel
theorem dW_where_12 : decode cW_where 12 = .ok (.astore 4, 2) := by decide +kernel
theorem dW_where_14 : decode cW_where 14 = .ok (.iconst 1, 1) := by decide +kernel
theorem dW_where_15 : decode cW_where 15 = .ok (.ireturn, 1) := by decide +kernel
theorem dW_where_16 : decode cW_where 16 = .ok (.iconst 0, 1) := by decide +kernel
theorem dW_where_17 : decode cW_where 17 = .ok (.ireturn, 1) := by decide +kernel
theorem dW_flash_0 : decode cW_flash 0 = .ok (.aload_n 3, 1) := by decide +kernel
theorem dW_flash_1 : decode cW_flash 1 = .ok (.iconst 0, 1) := by decide +kernel
theorem dW_flash_2 : decode cW_flash 2 = .ok (.aload_n 0, 1) := by decide +kernel
theorem dW_flash_3 : decode cW_flash 3 = .ok (.iload_n 1, 1) := by decide +kernel
theorem dW_flash_4 : decode cW_flash 4 = .ok (.iload_n 2, 1) := by decide +kernel
theorem dW_flash_5 : decode cW_flash 5 = .ok (.invokevirtual 38, 3) := by decide +kernel
theorem dW_flash_8 : decode cW_flash 8 = .ok (.i2l, 1) := by decide +kernel
theorem dW_flash_9 : decode cW_flash 9 = .ok (.lastore, 1) := by decide +kernel
theorem dW_flash_10 : decode cW_flash 10 = .ok (.goto 7, 3) := by decide +kernel
theorem dW_flash_13 : decode cW_flash 13 = .ok (.astore 4, 2) := by decide +kernel
theorem dW_flash_15 : decode cW_flash 15 = .ok (.iconst 1, 1) := by decide +kernel
theorem dW_flash_16 : decode cW_flash 16 = .ok (.ireturn, 1) := by decide +kernel
theorem dW_flash_17 : decode cW_flash 17 = .ok (.iconst 0, 1) := by decide +kernel
theorem dW_flash_18 : decode cW_flash 18 = .ok (.ireturn, 1) := by decide +kernel
theorem dW_close_0 : decode cW_close 0 = .ok (.aload_n 0, 1) := by decide +kernel
theorem dW_close_1 : decode cW_close 1 = .ok (.invokevirtual 41, 3) := by decide +kernel
theorem dW_close_4 : decode cW_close 4 = .ok (.goto 6, 3) := by decide +kernel
theorem dW_close_7 : decode cW_close 7 = .ok (.astore_n 1, 1) := by decide +kernel
theorem dW_close_8 : decode cW_close 8 = .ok (.iconst 1, 1) := by decide +kernel
theorem dW_close_9 : decode cW_close 9 = .ok (.ireturn, 1) := by decide +kernel
theorem dW_close_10 : decode cW_close 10 = .ok (.iconst 0, 1) := by decide +kernel
theorem dW_close_11 : decode cW_close 11 = .ok (.ireturn, 1) := by decide +kernel
theorem dW_crash_0 : decode cW_crash 0 = .ok (.aload_n 0, 1) := by decide +kernel
theorem dW_crash_1 : decode cW_crash 1 = .ok (.invokevirtual 44, 3) := by decide +kernel
theorem dW_crash_4 : decode cW_crash 4 = .ok (.goto 6, 3) := by decide +kernel
theorem dW_crash_7 : decode cW_crash 7 = .ok (.astore_n 1, 1) := by decide +kernel
theorem dW_crash_8 : decode cW_crash 8 = .ok (.iconst 1, 1) := by decide +kernel
theorem dW_crash_9 : decode cW_crash 9 = .ok (.ireturn, 1) := by decide +kernel
theorem dW_crash_10 : decode cW_crash 10 = .ok (.iconst 0, 1) := by decide +kernel
theorem dW_crash_11 : decode cW_crash 11 = .ok (.ireturn, 1) := by decide +kernel
theorem dW_open_0 : decode cW_open 0 = .ok (.aload_n 1, 1) := by decide +kernel
theorem dW_open_1 : decode cW_open 1 = .ok (.iconst 0, 1) := by decide +kernel
theorem dW_open_2 : decode cW_open 2 = .ok (.aload_n 0, 1) := by decide +kernel
theorem dW_open_3 : decode cW_open 3 = .ok (.invokevirtual 47, 3) := by decide +kernel
theorem dW_open_6 : decode cW_open 6 = .ok (.i2l, 1) := by decide +kernel
theorem dW_open_7 : decode cW_open 7 = .ok (.lastore, 1) := by decide +kernel
theorem dW_open_8 : decode cW_open 8 = .ok (.goto 6, 3) := by decide +kernel
theorem dW_open_11 : decode cW_open 11 = .ok (.astore_n 2, 1) := by decide +kernel
theorem dW_open_12 : decode cW_open 12 = .ok (.iconst 1, 1) := by decide +kernel
theorem dW_open_13 : decode cW_open 13 = .ok (.ireturn, 1) := by decide +kernel
theorem dW_open_14 : decode cW_open 14 = .ok (.iconst 0, 1) := by decide +kernel
theorem dW_open_15 : decode cW_open 15 = .ok (.ireturn, 1) := by decide +kernel
theorem dW_law_0 : decode cW_law 0 = .ok (.new 8, 3) := by decide +kernel
theorem dW_law_3 : decode cW_law 3 = .ok (.dup, 1) := by decide +kernel
theorem dW_law_4 : decode cW_law 4 = .ok (.invokespecial 51, 3) := by decide +kernel
theorem dW_law_7 : decode cW_law 7 = .ok (.astore_n 1, 1) := by decide +kernel
theorem dW_law_8 : decode cW_law 8 = .ok (.new 52, 3) := by decide +kernel
theorem dW_law_11 : decode cW_law 11 = .ok (.dup, 1) := by decide +kernel
theorem dW_law_12 : decode cW_law 12 = .ok (.invokespecial 54, 3) := by decide +kernel
theorem dW_law_15 : decode cW_law 15 = .ok (.astore_n 2, 1) := by decide +kernel
theorem dW_law_16 : decode cW_law 16 = .ok (.iconst 1, 1) := by decide +kernel
theorem dW_law_17 : decode cW_law 17 = .ok (.newarray .long, 2) := by decide +kernel
theorem dW_law_19 : decode cW_law 19 = .ok (.astore_n 3, 1) := by decide +kernel
theorem dW_law_20 : decode cW_law 20 = .ok (.iconst 0, 1) := by decide +kernel
theorem dW_law_21 : decode cW_law 21 = .ok (.istore 4, 2) := by decide +kernel
theorem dW_law_23 : decode cW_law 23 = .ok (.iload 4, 2) := by decide +kernel
theorem dW_law_25 : decode cW_law 25 = .ok (.aload_n 0, 1) := by decide +kernel
theorem dW_law_26 : decode cW_law 26 = .ok (.arraylength, 1) := by decide +kernel
theorem dW_law_27 : decode cW_law 27 = .ok (.iconst 4, 1) := by decide +kernel
theorem dW_law_28 : decode cW_law 28 = .ok (.isub, 1) := by decide +kernel
theorem dW_law_29 : decode cW_law 29 = .ok (.if_icmp .gt 794, 3) := by decide +kernel
theorem dW_law_32 : decode cW_law 32 = .ok (.aload_n 0, 1) := by decide +kernel
theorem dW_law_33 : decode cW_law 33 = .ok (.iload 4, 2) := by decide +kernel
theorem dW_law_35 : decode cW_law 35 = .ok (.iaload, 1) := by decide +kernel
theorem dW_law_36 : decode cW_law 36 = .ok (.bipush 15, 2) := by decide +kernel
theorem dW_law_38 : decode cW_law 38 = .ok (.iand, 1) := by decide +kernel
theorem dW_law_39 : decode cW_law 39 = .ok (.tableswitch 778 0 11 #[61, 129, 209, 297, 353, 448, 505, 593, 661, 685, 709, 753], 61) := by decide +kernel
theorem dW_law_100 : decode cW_law 100 = .ok (.aload_n 1, 1) := by decide +kernel
theorem dW_law_101 : decode cW_law 101 = .ok (.aload_n 0, 1) := by decide +kernel
theorem dW_law_102 : decode cW_law 102 = .ok (.iload 4, 2) := by decide +kernel
theorem dW_law_104 : decode cW_law 104 = .ok (.iconst 1, 1) := by decide +kernel
theorem dW_law_105 : decode cW_law 105 = .ok (.iadd, 1) := by decide +kernel
theorem dW_law_106 : decode cW_law 106 = .ok (.iaload, 1) := by decide +kernel
theorem dW_law_107 : decode cW_law 107 = .ok (.aload_n 0, 1) := by decide +kernel
theorem dW_law_108 : decode cW_law 108 = .ok (.iload 4, 2) := by decide +kernel
theorem dW_law_110 : decode cW_law 110 = .ok (.iconst 2, 1) := by decide +kernel
theorem dW_law_111 : decode cW_law 111 = .ok (.iadd, 1) := by decide +kernel
theorem dW_law_112 : decode cW_law 112 = .ok (.iaload, 1) := by decide +kernel
theorem dW_law_113 : decode cW_law 113 = .ok (.aload_n 3, 1) := by decide +kernel
theorem dW_law_114 : decode cW_law 114 = .ok (.invokestatic 55, 3) := by decide +kernel
theorem dW_law_117 : decode cW_law 117 = .ok (.istore 5, 2) := by decide +kernel
theorem dW_law_119 : decode cW_law 119 = .ok (.aload_n 2, 1) := by decide +kernel
theorem dW_law_120 : decode cW_law 120 = .ok (.aload_n 0, 1) := by decide +kernel
theorem dW_law_121 : decode cW_law 121 = .ok (.iload 4, 2) := by decide +kernel
theorem dW_law_123 : decode cW_law 123 = .ok (.iconst 1, 1) := by decide +kernel
theorem dW_law_124 : decode cW_law 124 = .ok (.iadd, 1) := by decide +kernel
theorem dW_law_125 : decode cW_law 125 = .ok (.iaload, 1) := by decide +kernel
theorem dW_law_126 : decode cW_law 126 = .ok (.aload_n 0, 1) := by decide +kernel
theorem dW_law_127 : decode cW_law 127 = .ok (.iload 4, 2) := by decide +kernel
theorem dW_law_129 : decode cW_law 129 = .ok (.iconst 2, 1) := by decide +kernel
theorem dW_law_130 : decode cW_law 130 = .ok (.iadd, 1) := by decide +kernel
theorem dW_law_131 : decode cW_law 131 = .ok (.iaload, 1) := by decide +kernel
theorem dW_law_132 : decode cW_law 132 = .ok (.invokevirtual 60, 3) := by decide +kernel
theorem dW_law_135 : decode cW_law 135 = .ok (.istore 6, 2) := by decide +kernel
theorem dW_law_137 : decode cW_law 137 = .ok (.aload_n 2, 1) := by decide +kernel
theorem dW_law_138 : decode cW_law 138 = .ok (.invokevirtual 61, 3) := by decide +kernel
theorem dW_law_141 : decode cW_law 141 = .ok (.iload 5, 2) := by decide +kernel
theorem dW_law_143 : decode cW_law 143 = .ok (.if_icmp .eq 5, 3) := by decide +kernel
theorem dW_law_146 : decode cW_law 146 = .ok (.iconst 0, 1) := by decide +kernel
theorem dW_law_147 : decode cW_law 147 = .ok (.ireturn, 1) := by decide +kernel
theorem dW_law_148 : decode cW_law 148 = .ok (.iload 5, 2) := by decide +kernel
theorem dW_law_150 : decode cW_law 150 = .ok (.ifCond .ne 15, 3) := by decide +kernel
theorem dW_law_153 : decode cW_law 153 = .ok (.aload_n 3, 1) := by decide +kernel
theorem dW_law_154 : decode cW_law 154 = .ok (.iconst 0, 1) := by decide +kernel
theorem dW_law_155 : decode cW_law 155 = .ok (.laload, 1) := by decide +kernel
theorem dW_law_156 : decode cW_law 156 = .ok (.iload 6, 2) := by decide +kernel
theorem dW_law_158 : decode cW_law 158 = .ok (.i2l, 1) := by decide +kernel
theorem dW_law_159 : decode cW_law 159 = .ok (.lcmp, 1) := by decide +kernel
theorem dW_law_160 : decode cW_law 160 = .ok (.ifCond .eq 5, 3) := by decide +kernel
theorem dW_law_163 : decode cW_law 163 = .ok (.iconst 0, 1) := by decide +kernel
theorem dW_law_164 : decode cW_law 164 = .ok (.ireturn, 1) := by decide +kernel
theorem dW_law_165 : decode cW_law 165 = .ok (.goto 652, 3) := by decide +kernel
theorem dW_law_168 : decode cW_law 168 = .ok (.aload_n 1, 1) := by decide +kernel
theorem dW_law_169 : decode cW_law 169 = .ok (.aload_n 0, 1) := by decide +kernel
theorem dW_law_170 : decode cW_law 170 = .ok (.iload 4, 2) := by decide +kernel
theorem dW_law_172 : decode cW_law 172 = .ok (.iconst 1, 1) := by decide +kernel
theorem dW_law_173 : decode cW_law 173 = .ok (.iadd, 1) := by decide +kernel
theorem dW_law_174 : decode cW_law 174 = .ok (.iaload, 1) := by decide +kernel
theorem dW_law_175 : decode cW_law 175 = .ok (.i2l, 1) := by decide +kernel
theorem dW_law_176 : decode cW_law 176 = .ok (.bipush 32, 2) := by decide +kernel
theorem dW_law_178 : decode cW_law 178 = .ok (.lshl, 1) := by decide +kernel
theorem dW_law_179 : decode cW_law 179 = .ok (.aload_n 0, 1) := by decide +kernel
theorem dW_law_180 : decode cW_law 180 = .ok (.iload 4, 2) := by decide +kernel
theorem dW_law_182 : decode cW_law 182 = .ok (.iconst 2, 1) := by decide +kernel
theorem dW_law_183 : decode cW_law 183 = .ok (.iadd, 1) := by decide +kernel
theorem dW_law_184 : decode cW_law 184 = .ok (.iaload, 1) := by decide +kernel
theorem dW_law_185 : decode cW_law 185 = .ok (.i2l, 1) := by decide +kernel
theorem dW_law_186 : decode cW_law 186 = .ok (.ldc2_w 64, 3) := by decide +kernel
theorem dW_law_189 : decode cW_law 189 = .ok (.land, 1) := by decide +kernel
theorem dW_law_190 : decode cW_law 190 = .ok (.lor, 1) := by decide +kernel
theorem dW_law_191 : decode cW_law 191 = .ok (.aload_n 0, 1) := by decide +kernel
theorem dW_law_192 : decode cW_law 192 = .ok (.iload 4, 2) := by decide +kernel
theorem dW_law_194 : decode cW_law 194 = .ok (.iconst 3, 1) := by decide +kernel
theorem dW_law_195 : decode cW_law 195 = .ok (.iadd, 1) := by decide +kernel
theorem dW_law_196 : decode cW_law 196 = .ok (.iaload, 1) := by decide +kernel
theorem dW_law_197 : decode cW_law 197 = .ok (.invokestatic 66, 3) := by decide +kernel
theorem dW_law_200 : decode cW_law 200 = .ok (.istore 5, 2) := by decide +kernel
theorem dW_law_202 : decode cW_law 202 = .ok (.aload_n 2, 1) := by decide +kernel
theorem dW_law_203 : decode cW_law 203 = .ok (.aload_n 0, 1) := by decide +kernel
theorem dW_law_204 : decode cW_law 204 = .ok (.iload 4, 2) := by decide +kernel
theorem dW_law_206 : decode cW_law 206 = .ok (.iconst 1, 1) := by decide +kernel
theorem dW_law_207 : decode cW_law 207 = .ok (.iadd, 1) := by decide +kernel
theorem dW_law_208 : decode cW_law 208 = .ok (.iaload, 1) := by decide +kernel
theorem dW_law_209 : decode cW_law 209 = .ok (.i2l, 1) := by decide +kernel
theorem dW_law_210 : decode cW_law 210 = .ok (.bipush 32, 2) := by decide +kernel
theorem dW_law_212 : decode cW_law 212 = .ok (.lshl, 1) := by decide +kernel
theorem dW_law_213 : decode cW_law 213 = .ok (.aload_n 0, 1) := by decide +kernel
theorem dW_law_214 : decode cW_law 214 = .ok (.iload 4, 2) := by decide +kernel
theorem dW_law_216 : decode cW_law 216 = .ok (.iconst 2, 1) := by decide +kernel
theorem dW_law_217 : decode cW_law 217 = .ok (.iadd, 1) := by decide +kernel
theorem dW_law_218 : decode cW_law 218 = .ok (.iaload, 1) := by decide +kernel
theorem dW_law_219 : decode cW_law 219 = .ok (.i2l, 1) := by decide +kernel
theorem dW_law_220 : decode cW_law 220 = .ok (.ldc2_w 64, 3) := by decide +kernel
theorem dW_law_223 : decode cW_law 223 = .ok (.land, 1) := by decide +kernel
theorem dW_law_224 : decode cW_law 224 = .ok (.lor, 1) := by decide +kernel
theorem dW_law_225 : decode cW_law 225 = .ok (.aload_n 0, 1) := by decide +kernel
theorem dW_law_226 : decode cW_law 226 = .ok (.iload 4, 2) := by decide +kernel
theorem dW_law_228 : decode cW_law 228 = .ok (.iconst 3, 1) := by decide +kernel
theorem dW_law_229 : decode cW_law 229 = .ok (.iadd, 1) := by decide +kernel
theorem dW_law_230 : decode cW_law 230 = .ok (.iaload, 1) := by decide +kernel
theorem dW_law_231 : decode cW_law 231 = .ok (.invokevirtual 69, 3) := by decide +kernel
theorem dW_law_234 : decode cW_law 234 = .ok (.aload_n 2, 1) := by decide +kernel
theorem dW_law_235 : decode cW_law 235 = .ok (.invokevirtual 61, 3) := by decide +kernel
theorem dW_law_238 : decode cW_law 238 = .ok (.iload 5, 2) := by decide +kernel
theorem dW_law_240 : decode cW_law 240 = .ok (.if_icmp .eq 5, 3) := by decide +kernel
theorem dW_law_243 : decode cW_law 243 = .ok (.iconst 0, 1) := by decide +kernel
theorem dW_law_244 : decode cW_law 244 = .ok (.ireturn, 1) := by decide +kernel
theorem dW_law_245 : decode cW_law 245 = .ok (.goto 572, 3) := by decide +kernel
theorem dW_law_248 : decode cW_law 248 = .ok (.aload_n 1, 1) := by decide +kernel
theorem dW_law_249 : decode cW_law 249 = .ok (.aload_n 0, 1) := by decide +kernel
theorem dW_law_250 : decode cW_law 250 = .ok (.iload 4, 2) := by decide +kernel
theorem dW_law_252 : decode cW_law 252 = .ok (.iconst 1, 1) := by decide +kernel
theorem dW_law_253 : decode cW_law 253 = .ok (.iadd, 1) := by decide +kernel
theorem dW_law_254 : decode cW_law 254 = .ok (.iaload, 1) := by decide +kernel
theorem dW_law_255 : decode cW_law 255 = .ok (.i2l, 1) := by decide +kernel
theorem dW_law_256 : decode cW_law 256 = .ok (.bipush 32, 2) := by decide +kernel
theorem dW_law_258 : decode cW_law 258 = .ok (.lshl, 1) := by decide +kernel
theorem dW_law_259 : decode cW_law 259 = .ok (.aload_n 0, 1) := by decide +kernel
theorem dW_law_260 : decode cW_law 260 = .ok (.iload 4, 2) := by decide +kernel
theorem dW_law_262 : decode cW_law 262 = .ok (.iconst 2, 1) := by decide +kernel
theorem dW_law_263 : decode cW_law 263 = .ok (.iadd, 1) := by decide +kernel
theorem dW_law_264 : decode cW_law 264 = .ok (.iaload, 1) := by decide +kernel
theorem dW_law_265 : decode cW_law 265 = .ok (.i2l, 1) := by decide +kernel
theorem dW_law_266 : decode cW_law 266 = .ok (.ldc2_w 64, 3) := by decide +kernel
theorem dW_law_269 : decode cW_law 269 = .ok (.land, 1) := by decide +kernel
theorem dW_law_270 : decode cW_law 270 = .ok (.lor, 1) := by decide +kernel
theorem dW_law_271 : decode cW_law 271 = .ok (.aload_n 3, 1) := by decide +kernel
theorem dW_law_272 : decode cW_law 272 = .ok (.invokestatic 70, 3) := by decide +kernel
theorem dW_law_275 : decode cW_law 275 = .ok (.istore 5, 2) := by decide +kernel
theorem dW_law_277 : decode cW_law 277 = .ok (.aload_n 2, 1) := by decide +kernel
theorem dW_law_278 : decode cW_law 278 = .ok (.aload_n 0, 1) := by decide +kernel
theorem dW_law_279 : decode cW_law 279 = .ok (.iload 4, 2) := by decide +kernel
theorem dW_law_281 : decode cW_law 281 = .ok (.iconst 1, 1) := by decide +kernel
theorem dW_law_282 : decode cW_law 282 = .ok (.iadd, 1) := by decide +kernel
theorem dW_law_283 : decode cW_law 283 = .ok (.iaload, 1) := by decide +kernel
theorem dW_law_284 : decode cW_law 284 = .ok (.i2l, 1) := by decide +kernel
theorem dW_law_285 : decode cW_law 285 = .ok (.bipush 32, 2) := by decide +kernel
theorem dW_law_287 : decode cW_law 287 = .ok (.lshl, 1) := by decide +kernel
theorem dW_law_288 : decode cW_law 288 = .ok (.aload_n 0, 1) := by decide +kernel
theorem dW_law_289 : decode cW_law 289 = .ok (.iload 4, 2) := by decide +kernel
theorem dW_law_291 : decode cW_law 291 = .ok (.iconst 2, 1) := by decide +kernel
theorem dW_law_292 : decode cW_law 292 = .ok (.iadd, 1) := by decide +kernel
theorem dW_law_293 : decode cW_law 293 = .ok (.iaload, 1) := by decide +kernel
theorem dW_law_294 : decode cW_law 294 = .ok (.i2l, 1) := by decide +kernel
theorem dW_law_295 : decode cW_law 295 = .ok (.ldc2_w 64, 3) := by decide +kernel
theorem dW_law_298 : decode cW_law 298 = .ok (.land, 1) := by decide +kernel
theorem dW_law_299 : decode cW_law 299 = .ok (.lor, 1) := by decide +kernel
theorem dW_law_300 : decode cW_law 300 = .ok (.invokevirtual 73, 3) := by decide +kernel
theorem dW_law_303 : decode cW_law 303 = .ok (.istore 6, 2) := by decide +kernel
theorem dW_law_305 : decode cW_law 305 = .ok (.aload_n 2, 1) := by decide +kernel
theorem dW_law_306 : decode cW_law 306 = .ok (.invokevirtual 61, 3) := by decide +kernel
theorem dW_law_309 : decode cW_law 309 = .ok (.iload 5, 2) := by decide +kernel
theorem dW_law_311 : decode cW_law 311 = .ok (.if_icmp .eq 5, 3) := by decide +kernel
theorem dW_law_314 : decode cW_law 314 = .ok (.iconst 0, 1) := by decide +kernel
theorem dW_law_315 : decode cW_law 315 = .ok (.ireturn, 1) := by decide +kernel
theorem dW_law_316 : decode cW_law 316 = .ok (.iload 5, 2) := by decide +kernel
theorem dW_law_318 : decode cW_law 318 = .ok (.ifCond .ne 15, 3) := by decide +kernel
theorem dW_law_321 : decode cW_law 321 = .ok (.aload_n 3, 1) := by decide +kernel
theorem dW_law_322 : decode cW_law 322 = .ok (.iconst 0, 1) := by decide +kernel
theorem dW_law_323 : decode cW_law 323 = .ok (.laload, 1) := by decide +kernel
theorem dW_law_324 : decode cW_law 324 = .ok (.iload 6, 2) := by decide +kernel
theorem dW_law_326 : decode cW_law 326 = .ok (.i2l, 1) := by decide +kernel
theorem dW_law_327 : decode cW_law 327 = .ok (.lcmp, 1) := by decide +kernel
theorem dW_law_328 : decode cW_law 328 = .ok (.ifCond .eq 5, 3) := by decide +kernel
theorem dW_law_331 : decode cW_law 331 = .ok (.iconst 0, 1) := by decide +kernel
theorem dW_law_332 : decode cW_law 332 = .ok (.ireturn, 1) := by decide +kernel
theorem dW_law_333 : decode cW_law 333 = .ok (.goto 484, 3) := by decide +kernel
theorem dW_law_336 : decode cW_law 336 = .ok (.aload_n 1, 1) := by decide +kernel
theorem dW_law_337 : decode cW_law 337 = .ok (.aload_n 0, 1) := by decide +kernel
theorem dW_law_338 : decode cW_law 338 = .ok (.iload 4, 2) := by decide +kernel
theorem dW_law_340 : decode cW_law 340 = .ok (.iconst 1, 1) := by decide +kernel
theorem dW_law_341 : decode cW_law 341 = .ok (.iadd, 1) := by decide +kernel
theorem dW_law_342 : decode cW_law 342 = .ok (.iaload, 1) := by decide +kernel
theorem dW_law_343 : decode cW_law 343 = .ok (.aload_n 3, 1) := by decide +kernel
theorem dW_law_344 : decode cW_law 344 = .ok (.invokestatic 74, 3) := by decide +kernel
theorem dW_law_347 : decode cW_law 347 = .ok (.istore 5, 2) := by decide +kernel
theorem dW_law_349 : decode cW_law 349 = .ok (.aload_n 2, 1) := by decide +kernel
theorem dW_law_350 : decode cW_law 350 = .ok (.aload_n 0, 1) := by decide +kernel
theorem dW_law_351 : decode cW_law 351 = .ok (.iload 4, 2) := by decide +kernel
theorem dW_law_353 : decode cW_law 353 = .ok (.iconst 1, 1) := by decide +kernel
theorem dW_law_354 : decode cW_law 354 = .ok (.iadd, 1) := by decide +kernel
theorem dW_law_355 : decode cW_law 355 = .ok (.iaload, 1) := by decide +kernel
theorem dW_law_356 : decode cW_law 356 = .ok (.invokevirtual 77, 3) := by decide +kernel
theorem dW_law_359 : decode cW_law 359 = .ok (.istore 6, 2) := by decide +kernel
theorem dW_law_361 : decode cW_law 361 = .ok (.aload_n 2, 1) := by decide +kernel
theorem dW_law_362 : decode cW_law 362 = .ok (.invokevirtual 61, 3) := by decide +kernel
theorem dW_law_365 : decode cW_law 365 = .ok (.iload 5, 2) := by decide +kernel
theorem dW_law_367 : decode cW_law 367 = .ok (.if_icmp .eq 5, 3) := by decide +kernel
theorem dW_law_370 : decode cW_law 370 = .ok (.iconst 0, 1) := by decide +kernel
theorem dW_law_371 : decode cW_law 371 = .ok (.ireturn, 1) := by decide +kernel
theorem dW_law_372 : decode cW_law 372 = .ok (.iload 5, 2) := by decide +kernel
theorem dW_law_374 : decode cW_law 374 = .ok (.ifCond .ne 15, 3) := by decide +kernel
theorem dW_law_377 : decode cW_law 377 = .ok (.aload_n 3, 1) := by decide +kernel
theorem dW_law_378 : decode cW_law 378 = .ok (.iconst 0, 1) := by decide +kernel
theorem dW_law_379 : decode cW_law 379 = .ok (.laload, 1) := by decide +kernel
theorem dW_law_380 : decode cW_law 380 = .ok (.iload 6, 2) := by decide +kernel
theorem dW_law_382 : decode cW_law 382 = .ok (.i2l, 1) := by decide +kernel
theorem dW_law_383 : decode cW_law 383 = .ok (.lcmp, 1) := by decide +kernel
theorem dW_law_384 : decode cW_law 384 = .ok (.ifCond .eq 5, 3) := by decide +kernel
theorem dW_law_387 : decode cW_law 387 = .ok (.iconst 0, 1) := by decide +kernel
theorem dW_law_388 : decode cW_law 388 = .ok (.ireturn, 1) := by decide +kernel
theorem dW_law_389 : decode cW_law 389 = .ok (.goto 428, 3) := by decide +kernel
theorem dW_law_392 : decode cW_law 392 = .ok (.aload_n 1, 1) := by decide +kernel
theorem dW_law_393 : decode cW_law 393 = .ok (.aload_n 0, 1) := by decide +kernel
theorem dW_law_394 : decode cW_law 394 = .ok (.iload 4, 2) := by decide +kernel
theorem dW_law_396 : decode cW_law 396 = .ok (.iconst 1, 1) := by decide +kernel
theorem dW_law_397 : decode cW_law 397 = .ok (.iadd, 1) := by decide +kernel
theorem dW_law_398 : decode cW_law 398 = .ok (.iaload, 1) := by decide +kernel
theorem dW_law_399 : decode cW_law 399 = .ok (.i2l, 1) := by decide +kernel
theorem dW_law_400 : decode cW_law 400 = .ok (.bipush 32, 2) := by decide +kernel
theorem dW_law_402 : decode cW_law 402 = .ok (.lshl, 1) := by decide +kernel
theorem dW_law_403 : decode cW_law 403 = .ok (.aload_n 0, 1) := by decide +kernel
theorem dW_law_404 : decode cW_law 404 = .ok (.iload 4, 2) := by decide +kernel
theorem dW_law_406 : decode cW_law 406 = .ok (.iconst 2, 1) := by decide +kernel
theorem dW_law_407 : decode cW_law 407 = .ok (.iadd, 1) := by decide +kernel
theorem dW_law_408 : decode cW_law 408 = .ok (.iaload, 1) := by decide +kernel
theorem dW_law_409 : decode cW_law 409 = .ok (.i2l, 1) := by decide +kernel
theorem dW_law_410 : decode cW_law 410 = .ok (.ldc2_w 64, 3) := by decide +kernel
theorem dW_law_413 : decode cW_law 413 = .ok (.land, 1) := by decide +kernel
theorem dW_law_414 : decode cW_law 414 = .ok (.lor, 1) := by decide +kernel
theorem dW_law_415 : decode cW_law 415 = .ok (.aload_n 3, 1) := by decide +kernel
theorem dW_law_416 : decode cW_law 416 = .ok (.invokestatic 78, 3) := by decide +kernel
theorem dW_law_419 : decode cW_law 419 = .ok (.istore 5, 2) := by decide +kernel
theorem dW_law_421 : decode cW_law 421 = .ok (.aload_n 2, 1) := by decide +kernel
theorem dW_law_422 : decode cW_law 422 = .ok (.aload_n 0, 1) := by decide +kernel
theorem dW_law_423 : decode cW_law 423 = .ok (.iload 4, 2) := by decide +kernel
theorem dW_law_425 : decode cW_law 425 = .ok (.iconst 1, 1) := by decide +kernel
theorem dW_law_426 : decode cW_law 426 = .ok (.iadd, 1) := by decide +kernel
theorem dW_law_427 : decode cW_law 427 = .ok (.iaload, 1) := by decide +kernel
theorem dW_law_428 : decode cW_law 428 = .ok (.i2l, 1) := by decide +kernel
theorem dW_law_429 : decode cW_law 429 = .ok (.bipush 32, 2) := by decide +kernel
theorem dW_law_431 : decode cW_law 431 = .ok (.lshl, 1) := by decide +kernel
theorem dW_law_432 : decode cW_law 432 = .ok (.aload_n 0, 1) := by decide +kernel
theorem dW_law_433 : decode cW_law 433 = .ok (.iload 4, 2) := by decide +kernel
theorem dW_law_435 : decode cW_law 435 = .ok (.iconst 2, 1) := by decide +kernel
theorem dW_law_436 : decode cW_law 436 = .ok (.iadd, 1) := by decide +kernel
theorem dW_law_437 : decode cW_law 437 = .ok (.iaload, 1) := by decide +kernel
theorem dW_law_438 : decode cW_law 438 = .ok (.i2l, 1) := by decide +kernel
theorem dW_law_439 : decode cW_law 439 = .ok (.ldc2_w 64, 3) := by decide +kernel
theorem dW_law_442 : decode cW_law 442 = .ok (.land, 1) := by decide +kernel
theorem dW_law_443 : decode cW_law 443 = .ok (.lor, 1) := by decide +kernel
theorem dW_law_444 : decode cW_law 444 = .ok (.invokevirtual 80, 3) := by decide +kernel
theorem dW_law_447 : decode cW_law 447 = .ok (.istore 6, 2) := by decide +kernel
theorem dW_law_449 : decode cW_law 449 = .ok (.aload_n 2, 1) := by decide +kernel
theorem dW_law_450 : decode cW_law 450 = .ok (.invokevirtual 61, 3) := by decide +kernel
theorem dW_law_453 : decode cW_law 453 = .ok (.iload 5, 2) := by decide +kernel
theorem dW_law_455 : decode cW_law 455 = .ok (.if_icmp .eq 5, 3) := by decide +kernel
theorem dW_law_458 : decode cW_law 458 = .ok (.iconst 0, 1) := by decide +kernel
theorem dW_law_459 : decode cW_law 459 = .ok (.ireturn, 1) := by decide +kernel
theorem dW_law_460 : decode cW_law 460 = .ok (.iload 5, 2) := by decide +kernel
theorem dW_law_462 : decode cW_law 462 = .ok (.ifCond .ne 22, 3) := by decide +kernel
theorem dW_law_465 : decode cW_law 465 = .ok (.aload_n 3, 1) := by decide +kernel
theorem dW_law_466 : decode cW_law 466 = .ok (.iconst 0, 1) := by decide +kernel
theorem dW_law_467 : decode cW_law 467 = .ok (.laload, 1) := by decide +kernel
theorem dW_law_468 : decode cW_law 468 = .ok (.iload 6, 2) := by decide +kernel
theorem dW_law_470 : decode cW_law 470 = .ok (.ifCond .eq 7, 3) := by decide +kernel
theorem dW_law_473 : decode cW_law 473 = .ok (.lconst 1, 1) := by decide +kernel
theorem dW_law_474 : decode cW_law 474 = .ok (.goto 4, 3) := by decide +kernel
theorem dW_law_477 : decode cW_law 477 = .ok (.lconst 0, 1) := by decide +kernel
theorem dW_law_478 : decode cW_law 478 = .ok (.lcmp, 1) := by decide +kernel
theorem dW_law_479 : decode cW_law 479 = .ok (.ifCond .eq 5, 3) := by decide +kernel
theorem dW_law_482 : decode cW_law 482 = .ok (.iconst 0, 1) := by decide +kernel
theorem dW_law_483 : decode cW_law 483 = .ok (.ireturn, 1) := by decide +kernel
theorem dW_law_484 : decode cW_law 484 = .ok (.goto 333, 3) := by decide +kernel
theorem dW_law_487 : decode cW_law 487 = .ok (.aload_n 1, 1) := by decide +kernel
theorem dW_law_488 : decode cW_law 488 = .ok (.aload_n 0, 1) := by decide +kernel
theorem dW_law_489 : decode cW_law 489 = .ok (.iload 4, 2) := by decide +kernel
theorem dW_law_491 : decode cW_law 491 = .ok (.iconst 1, 1) := by decide +kernel
theorem dW_law_492 : decode cW_law 492 = .ok (.iadd, 1) := by decide +kernel
theorem dW_law_493 : decode cW_law 493 = .ok (.iaload, 1) := by decide +kernel
theorem dW_law_494 : decode cW_law 494 = .ok (.i2l, 1) := by decide +kernel
theorem dW_law_495 : decode cW_law 495 = .ok (.bipush 32, 2) := by decide +kernel
theorem dW_law_497 : decode cW_law 497 = .ok (.lshl, 1) := by decide +kernel
theorem dW_law_498 : decode cW_law 498 = .ok (.aload_n 0, 1) := by decide +kernel
theorem dW_law_499 : decode cW_law 499 = .ok (.iload 4, 2) := by decide +kernel
theorem dW_law_501 : decode cW_law 501 = .ok (.iconst 2, 1) := by decide +kernel
theorem dW_law_502 : decode cW_law 502 = .ok (.iadd, 1) := by decide +kernel
theorem dW_law_503 : decode cW_law 503 = .ok (.iaload, 1) := by decide +kernel
theorem dW_law_504 : decode cW_law 504 = .ok (.i2l, 1) := by decide +kernel
theorem dW_law_505 : decode cW_law 505 = .ok (.ldc2_w 64, 3) := by decide +kernel
theorem dW_law_508 : decode cW_law 508 = .ok (.land, 1) := by decide +kernel
theorem dW_law_509 : decode cW_law 509 = .ok (.lor, 1) := by decide +kernel
theorem dW_law_510 : decode cW_law 510 = .ok (.invokevirtual 81, 3) := by decide +kernel
theorem dW_law_513 : decode cW_law 513 = .ok (.aload_n 2, 1) := by decide +kernel
theorem dW_law_514 : decode cW_law 514 = .ok (.aload_n 0, 1) := by decide +kernel
theorem dW_law_515 : decode cW_law 515 = .ok (.iload 4, 2) := by decide +kernel
theorem dW_law_517 : decode cW_law 517 = .ok (.iconst 1, 1) := by decide +kernel
theorem dW_law_518 : decode cW_law 518 = .ok (.iadd, 1) := by decide +kernel
theorem dW_law_519 : decode cW_law 519 = .ok (.iaload, 1) := by decide +kernel
theorem dW_law_520 : decode cW_law 520 = .ok (.i2l, 1) := by decide +kernel
theorem dW_law_521 : decode cW_law 521 = .ok (.bipush 32, 2) := by decide +kernel
theorem dW_law_523 : decode cW_law 523 = .ok (.lshl, 1) := by decide +kernel
theorem dW_law_524 : decode cW_law 524 = .ok (.aload_n 0, 1) := by decide +kernel
theorem dW_law_525 : decode cW_law 525 = .ok (.iload 4, 2) := by decide +kernel
theorem dW_law_527 : decode cW_law 527 = .ok (.iconst 2, 1) := by decide +kernel
theorem dW_law_528 : decode cW_law 528 = .ok (.iadd, 1) := by decide +kernel
theorem dW_law_529 : decode cW_law 529 = .ok (.iaload, 1) := by decide +kernel
theorem dW_law_530 : decode cW_law 530 = .ok (.i2l, 1) := by decide +kernel
theorem dW_law_531 : decode cW_law 531 = .ok (.ldc2_w 64, 3) := by decide +kernel
theorem dW_law_534 : decode cW_law 534 = .ok (.land, 1) := by decide +kernel
theorem dW_law_535 : decode cW_law 535 = .ok (.lor, 1) := by decide +kernel
theorem dW_law_536 : decode cW_law 536 = .ok (.invokevirtual 84, 3) := by decide +kernel
theorem dW_law_539 : decode cW_law 539 = .ok (.if_icmp .eq 278, 3) := by decide +kernel
theorem dW_law_542 : decode cW_law 542 = .ok (.iconst 0, 1) := by decide +kernel
theorem dW_law_543 : decode cW_law 543 = .ok (.ireturn, 1) := by decide +kernel
theorem dW_law_544 : decode cW_law 544 = .ok (.aload_n 1, 1) := by decide +kernel
theorem dW_law_545 : decode cW_law 545 = .ok (.aload_n 0, 1) := by decide +kernel
theorem dW_law_546 : decode cW_law 546 = .ok (.iload 4, 2) := by decide +kernel
theorem dW_law_548 : decode cW_law 548 = .ok (.iconst 1, 1) := by decide +kernel
theorem dW_law_549 : decode cW_law 549 = .ok (.iadd, 1) := by decide +kernel
theorem dW_law_550 : decode cW_law 550 = .ok (.iaload, 1) := by decide +kernel
theorem dW_law_551 : decode cW_law 551 = .ok (.i2l, 1) := by decide +kernel
theorem dW_law_552 : decode cW_law 552 = .ok (.bipush 32, 2) := by decide +kernel
theorem dW_law_554 : decode cW_law 554 = .ok (.lshl, 1) := by decide +kernel
theorem dW_law_555 : decode cW_law 555 = .ok (.aload_n 0, 1) := by decide +kernel
theorem dW_law_556 : decode cW_law 556 = .ok (.iload 4, 2) := by decide +kernel
theorem dW_law_558 : decode cW_law 558 = .ok (.iconst 2, 1) := by decide +kernel
theorem dW_law_559 : decode cW_law 559 = .ok (.iadd, 1) := by decide +kernel
theorem dW_law_560 : decode cW_law 560 = .ok (.iaload, 1) := by decide +kernel
theorem dW_law_561 : decode cW_law 561 = .ok (.i2l, 1) := by decide +kernel
theorem dW_law_562 : decode cW_law 562 = .ok (.ldc2_w 64, 3) := by decide +kernel
theorem dW_law_565 : decode cW_law 565 = .ok (.land, 1) := by decide +kernel
theorem dW_law_566 : decode cW_law 566 = .ok (.lor, 1) := by decide +kernel
theorem dW_law_567 : decode cW_law 567 = .ok (.aload_n 3, 1) := by decide +kernel
theorem dW_law_568 : decode cW_law 568 = .ok (.invokestatic 85, 3) := by decide +kernel
theorem dW_law_571 : decode cW_law 571 = .ok (.istore 5, 2) := by decide +kernel
theorem dW_law_573 : decode cW_law 573 = .ok (.aload_n 2, 1) := by decide +kernel
theorem dW_law_574 : decode cW_law 574 = .ok (.aload_n 0, 1) := by decide +kernel
theorem dW_law_575 : decode cW_law 575 = .ok (.iload 4, 2) := by decide +kernel
theorem dW_law_577 : decode cW_law 577 = .ok (.iconst 1, 1) := by decide +kernel
theorem dW_law_578 : decode cW_law 578 = .ok (.iadd, 1) := by decide +kernel
theorem dW_law_579 : decode cW_law 579 = .ok (.iaload, 1) := by decide +kernel
theorem dW_law_580 : decode cW_law 580 = .ok (.i2l, 1) := by decide +kernel
theorem dW_law_581 : decode cW_law 581 = .ok (.bipush 32, 2) := by decide +kernel
theorem dW_law_583 : decode cW_law 583 = .ok (.lshl, 1) := by decide +kernel
theorem dW_law_584 : decode cW_law 584 = .ok (.aload_n 0, 1) := by decide +kernel
theorem dW_law_585 : decode cW_law 585 = .ok (.iload 4, 2) := by decide +kernel
theorem dW_law_587 : decode cW_law 587 = .ok (.iconst 2, 1) := by decide +kernel
theorem dW_law_588 : decode cW_law 588 = .ok (.iadd, 1) := by decide +kernel
theorem dW_law_589 : decode cW_law 589 = .ok (.iaload, 1) := by decide +kernel
theorem dW_law_590 : decode cW_law 590 = .ok (.i2l, 1) := by decide +kernel
theorem dW_law_591 : decode cW_law 591 = .ok (.ldc2_w 64, 3) := by decide +kernel
theorem dW_law_594 : decode cW_law 594 = .ok (.land, 1) := by decide +kernel
theorem dW_law_595 : decode cW_law 595 = .ok (.lor, 1) := by decide +kernel
theorem dW_law_596 : decode cW_law 596 = .ok (.invokevirtual 87, 3) := by decide +kernel
theorem dW_law_599 : decode cW_law 599 = .ok (.istore 6, 2) := by decide +kernel
theorem dW_law_601 : decode cW_law 601 = .ok (.aload_n 2, 1) := by decide +kernel
theorem dW_law_602 : decode cW_law 602 = .ok (.invokevirtual 61, 3) := by decide +kernel
theorem dW_law_605 : decode cW_law 605 = .ok (.iload 5, 2) := by decide +kernel
theorem dW_law_607 : decode cW_law 607 = .ok (.if_icmp .eq 5, 3) := by decide +kernel
theorem dW_law_610 : decode cW_law 610 = .ok (.iconst 0, 1) := by decide +kernel
theorem dW_law_611 : decode cW_law 611 = .ok (.ireturn, 1) := by decide +kernel
theorem dW_law_612 : decode cW_law 612 = .ok (.iload 5, 2) := by decide +kernel
theorem dW_law_614 : decode cW_law 614 = .ok (.ifCond .ne 15, 3) := by decide +kernel
theorem dW_law_617 : decode cW_law 617 = .ok (.aload_n 3, 1) := by decide +kernel
theorem dW_law_618 : decode cW_law 618 = .ok (.iconst 0, 1) := by decide +kernel
theorem dW_law_619 : decode cW_law 619 = .ok (.laload, 1) := by decide +kernel
theorem dW_law_620 : decode cW_law 620 = .ok (.iload 6, 2) := by decide +kernel
theorem dW_law_622 : decode cW_law 622 = .ok (.i2l, 1) := by decide +kernel
theorem dW_law_623 : decode cW_law 623 = .ok (.lcmp, 1) := by decide +kernel
theorem dW_law_624 : decode cW_law 624 = .ok (.ifCond .eq 5, 3) := by decide +kernel
theorem dW_law_627 : decode cW_law 627 = .ok (.iconst 0, 1) := by decide +kernel
theorem dW_law_628 : decode cW_law 628 = .ok (.ireturn, 1) := by decide +kernel
theorem dW_law_629 : decode cW_law 629 = .ok (.goto 188, 3) := by decide +kernel
theorem dW_law_632 : decode cW_law 632 = .ok (.aload_n 1, 1) := by decide +kernel
theorem dW_law_633 : decode cW_law 633 = .ok (.aload_n 0, 1) := by decide +kernel
theorem dW_law_634 : decode cW_law 634 = .ok (.iload 4, 2) := by decide +kernel
theorem dW_law_636 : decode cW_law 636 = .ok (.iconst 1, 1) := by decide +kernel
theorem dW_law_637 : decode cW_law 637 = .ok (.iadd, 1) := by decide +kernel
theorem dW_law_638 : decode cW_law 638 = .ok (.iaload, 1) := by decide +kernel
theorem dW_law_639 : decode cW_law 639 = .ok (.aload_n 0, 1) := by decide +kernel
theorem dW_law_640 : decode cW_law 640 = .ok (.iload 4, 2) := by decide +kernel
theorem dW_law_642 : decode cW_law 642 = .ok (.iconst 2, 1) := by decide +kernel
theorem dW_law_643 : decode cW_law 643 = .ok (.iadd, 1) := by decide +kernel
theorem dW_law_644 : decode cW_law 644 = .ok (.iaload, 1) := by decide +kernel
theorem dW_law_645 : decode cW_law 645 = .ok (.aload_n 3, 1) := by decide +kernel
theorem dW_law_646 : decode cW_law 646 = .ok (.invokestatic 88, 3) := by decide +kernel
theorem dW_law_649 : decode cW_law 649 = .ok (.istore 5, 2) := by decide +kernel
theorem dW_law_651 : decode cW_law 651 = .ok (.aload_n 2, 1) := by decide +kernel
theorem dW_law_652 : decode cW_law 652 = .ok (.aload_n 0, 1) := by decide +kernel
theorem dW_law_653 : decode cW_law 653 = .ok (.iload 4, 2) := by decide +kernel
theorem dW_law_655 : decode cW_law 655 = .ok (.iconst 1, 1) := by decide +kernel
theorem dW_law_656 : decode cW_law 656 = .ok (.iadd, 1) := by decide +kernel
theorem dW_law_657 : decode cW_law 657 = .ok (.iaload, 1) := by decide +kernel
theorem dW_law_658 : decode cW_law 658 = .ok (.aload_n 0, 1) := by decide +kernel
theorem dW_law_659 : decode cW_law 659 = .ok (.iload 4, 2) := by decide +kernel
theorem dW_law_661 : decode cW_law 661 = .ok (.iconst 2, 1) := by decide +kernel
theorem dW_law_662 : decode cW_law 662 = .ok (.iadd, 1) := by decide +kernel
theorem dW_law_663 : decode cW_law 663 = .ok (.iaload, 1) := by decide +kernel
theorem dW_law_664 : decode cW_law 664 = .ok (.invokevirtual 90, 3) := by decide +kernel
theorem dW_law_667 : decode cW_law 667 = .ok (.istore 6, 2) := by decide +kernel
theorem dW_law_669 : decode cW_law 669 = .ok (.aload_n 2, 1) := by decide +kernel
theorem dW_law_670 : decode cW_law 670 = .ok (.invokevirtual 61, 3) := by decide +kernel
theorem dW_law_673 : decode cW_law 673 = .ok (.iload 5, 2) := by decide +kernel
theorem dW_law_675 : decode cW_law 675 = .ok (.if_icmp .eq 5, 3) := by decide +kernel
theorem dW_law_678 : decode cW_law 678 = .ok (.iconst 0, 1) := by decide +kernel
theorem dW_law_679 : decode cW_law 679 = .ok (.ireturn, 1) := by decide +kernel
theorem dW_law_680 : decode cW_law 680 = .ok (.iload 5, 2) := by decide +kernel
theorem dW_law_682 : decode cW_law 682 = .ok (.ifCond .ne 15, 3) := by decide +kernel
theorem dW_law_685 : decode cW_law 685 = .ok (.aload_n 3, 1) := by decide +kernel
theorem dW_law_686 : decode cW_law 686 = .ok (.iconst 0, 1) := by decide +kernel
theorem dW_law_687 : decode cW_law 687 = .ok (.laload, 1) := by decide +kernel
theorem dW_law_688 : decode cW_law 688 = .ok (.iload 6, 2) := by decide +kernel
theorem dW_law_690 : decode cW_law 690 = .ok (.i2l, 1) := by decide +kernel
theorem dW_law_691 : decode cW_law 691 = .ok (.lcmp, 1) := by decide +kernel
theorem dW_law_692 : decode cW_law 692 = .ok (.ifCond .eq 5, 3) := by decide +kernel
theorem dW_law_695 : decode cW_law 695 = .ok (.iconst 0, 1) := by decide +kernel
theorem dW_law_696 : decode cW_law 696 = .ok (.ireturn, 1) := by decide +kernel
theorem dW_law_697 : decode cW_law 697 = .ok (.goto 120, 3) := by decide +kernel
theorem dW_law_700 : decode cW_law 700 = .ok (.aload_n 1, 1) := by decide +kernel
theorem dW_law_701 : decode cW_law 701 = .ok (.invokestatic 91, 3) := by decide +kernel
theorem dW_law_704 : decode cW_law 704 = .ok (.istore 5, 2) := by decide +kernel
theorem dW_law_706 : decode cW_law 706 = .ok (.aload_n 2, 1) := by decide +kernel
theorem dW_law_707 : decode cW_law 707 = .ok (.invokevirtual 94, 3) := by decide +kernel
theorem dW_law_710 : decode cW_law 710 = .ok (.aload_n 2, 1) := by decide +kernel
theorem dW_law_711 : decode cW_law 711 = .ok (.invokevirtual 61, 3) := by decide +kernel
theorem dW_law_714 : decode cW_law 714 = .ok (.iload 5, 2) := by decide +kernel
theorem dW_law_716 : decode cW_law 716 = .ok (.if_icmp .eq 5, 3) := by decide +kernel
theorem dW_law_719 : decode cW_law 719 = .ok (.iconst 0, 1) := by decide +kernel
theorem dW_law_720 : decode cW_law 720 = .ok (.ireturn, 1) := by decide +kernel
theorem dW_law_721 : decode cW_law 721 = .ok (.goto 96, 3) := by decide +kernel
theorem dW_law_724 : decode cW_law 724 = .ok (.aload_n 1, 1) := by decide +kernel
theorem dW_law_725 : decode cW_law 725 = .ok (.invokestatic 95, 3) := by decide +kernel
theorem dW_law_728 : decode cW_law 728 = .ok (.istore 5, 2) := by decide +kernel
theorem dW_law_730 : decode cW_law 730 = .ok (.aload_n 2, 1) := by decide +kernel
theorem dW_law_731 : decode cW_law 731 = .ok (.invokevirtual 97, 3) := by decide +kernel
theorem dW_law_734 : decode cW_law 734 = .ok (.aload_n 2, 1) := by decide +kernel
theorem dW_law_735 : decode cW_law 735 = .ok (.invokevirtual 61, 3) := by decide +kernel
theorem dW_law_738 : decode cW_law 738 = .ok (.iload 5, 2) := by decide +kernel
theorem dW_law_740 : decode cW_law 740 = .ok (.if_icmp .eq 5, 3) := by decide +kernel
theorem dW_law_743 : decode cW_law 743 = .ok (.iconst 0, 1) := by decide +kernel
theorem dW_law_744 : decode cW_law 744 = .ok (.ireturn, 1) := by decide +kernel
theorem dW_law_745 : decode cW_law 745 = .ok (.goto 72, 3) := by decide +kernel
theorem dW_law_748 : decode cW_law 748 = .ok (.aload_n 1, 1) := by decide +kernel
theorem dW_law_749 : decode cW_law 749 = .ok (.aload_n 3, 1) := by decide +kernel
theorem dW_law_750 : decode cW_law 750 = .ok (.invokestatic 98, 3) := by decide +kernel
theorem dW_law_753 : decode cW_law 753 = .ok (.istore 5, 2) := by decide +kernel
theorem dW_law_755 : decode cW_law 755 = .ok (.aload_n 2, 1) := by decide +kernel
theorem dW_law_756 : decode cW_law 756 = .ok (.invokevirtual 101, 3) := by decide +kernel
theorem dW_law_759 : decode cW_law 759 = .ok (.istore 6, 2) := by decide +kernel
theorem dW_law_761 : decode cW_law 761 = .ok (.aload_n 2, 1) := by decide +kernel
theorem dW_law_762 : decode cW_law 762 = .ok (.invokevirtual 61, 3) := by decide +kernel
theorem dW_law_765 : decode cW_law 765 = .ok (.iload 5, 2) := by decide +kernel
theorem dW_law_767 : decode cW_law 767 = .ok (.if_icmp .eq 5, 3) := by decide +kernel
theorem dW_law_770 : decode cW_law 770 = .ok (.iconst 0, 1) := by decide +kernel
theorem dW_law_771 : decode cW_law 771 = .ok (.ireturn, 1) := by decide +kernel
theorem dW_law_772 : decode cW_law 772 = .ok (.iload 5, 2) := by decide +kernel
theorem dW_law_774 : decode cW_law 774 = .ok (.ifCond .ne 15, 3) := by decide +kernel
theorem dW_law_777 : decode cW_law 777 = .ok (.aload_n 3, 1) := by decide +kernel
theorem dW_law_778 : decode cW_law 778 = .ok (.iconst 0, 1) := by decide +kernel
theorem dW_law_779 : decode cW_law 779 = .ok (.laload, 1) := by decide +kernel
theorem dW_law_780 : decode cW_law 780 = .ok (.iload 6, 2) := by decide +kernel
theorem dW_law_782 : decode cW_law 782 = .ok (.i2l, 1) := by decide +kernel
theorem dW_law_783 : decode cW_law 783 = .ok (.lcmp, 1) := by decide +kernel
theorem dW_law_784 : decode cW_law 784 = .ok (.ifCond .eq 5, 3) := by decide +kernel
theorem dW_law_787 : decode cW_law 787 = .ok (.iconst 0, 1) := by decide +kernel
theorem dW_law_788 : decode cW_law 788 = .ok (.ireturn, 1) := by decide +kernel
theorem dW_law_789 : decode cW_law 789 = .ok (.goto 28, 3) := by decide +kernel
theorem dW_law_792 : decode cW_law 792 = .ok (.aload_n 1, 1) := by decide +kernel
theorem dW_law_793 : decode cW_law 793 = .ok (.aload_n 0, 1) := by decide +kernel
theorem dW_law_794 : decode cW_law 794 = .ok (.iload 4, 2) := by decide +kernel
theorem dW_law_796 : decode cW_law 796 = .ok (.iconst 1, 1) := by decide +kernel
theorem dW_law_797 : decode cW_law 797 = .ok (.iadd, 1) := by decide +kernel
theorem dW_law_798 : decode cW_law 798 = .ok (.iaload, 1) := by decide +kernel
theorem dW_law_799 : decode cW_law 799 = .ok (.invokevirtual 102, 3) := by decide +kernel
theorem dW_law_802 : decode cW_law 802 = .ok (.aload_n 2, 1) := by decide +kernel
theorem dW_law_803 : decode cW_law 803 = .ok (.aload_n 0, 1) := by decide +kernel
theorem dW_law_804 : decode cW_law 804 = .ok (.iload 4, 2) := by decide +kernel
theorem dW_law_806 : decode cW_law 806 = .ok (.iconst 1, 1) := by decide +kernel
theorem dW_law_807 : decode cW_law 807 = .ok (.iadd, 1) := by decide +kernel
theorem dW_law_808 : decode cW_law 808 = .ok (.iaload, 1) := by decide +kernel
theorem dW_law_809 : decode cW_law 809 = .ok (.invokevirtual 105, 3) := by decide +kernel
theorem dW_law_812 : decode cW_law 812 = .ok (.if_icmp .eq 5, 3) := by decide +kernel
theorem dW_law_815 : decode cW_law 815 = .ok (.iconst 0, 1) := by decide +kernel
theorem dW_law_816 : decode cW_law 816 = .ok (.ireturn, 1) := by decide +kernel
theorem dW_law_817 : decode cW_law 817 = .ok (.iinc 4 4, 3) := by decide +kernel
theorem dW_law_820 : decode cW_law 820 = .ok (.goto (-797), 3) := by decide +kernel
theorem dW_law_823 : decode cW_law 823 = .ok (.iconst 1, 1) := by decide +kernel
theorem dW_law_824 : decode cW_law 824 = .ok (.ireturn, 1) := by decide +kernel
end
section
/-! The machine seen through plain data: values, locals, memory, the world, the judgements WW (a point of a method) and CC (a call). -/
abbrev XV : Type := Int32 ⊕ Int64 ⊕ Option Nat
abbrev vI (x : Int32) : XV := .inl x
abbrev vL (x : Int64) : XV := .inr (.inl x)
abbrev vR (o : Option Nat) : XV := .inr (.inr o)
def toV : XV → Value
  | .inl x => .int x
  | .inr (.inl x) => .long x
  | .inr (.inr o) => va_rf o
theorem va_rf_cat (o : Option Nat) : (va_rf o).category = 1 := by cases o <;> rfl
def isL : XV → Bool
  | .inr (.inl _) => true
  | _ => false
theorem toV_cat (v : XV) : (toV v).category = if isL v then 2 else 1 := by
  rcases v with x | x | o
  · rfl
  · rfl
  · exact va_rf_cat o
/-! locals -/
def xclr (L : List (Option XV)) : Nat → List (Option XV)
  | 0 => L
  | k + 1 => match L[k]? with
    | some (some (.inr (.inl _))) => L.set k none
    | _ => L
def xst1 (L : List (Option XV)) (i : Nat) (v : XV) : List (Option XV) := (xclr L i).set i (some v)
def xst2 (L : List (Option XV)) (i : Nat) (v : XV) : List (Option XV) := ((xclr L i).set i (some v)).set (i + 1) none
def lh (ls : Array Slot) (nL : Nat) (L : List (Option XV)) : Prop := ls.size = nL ∧ lv_wf ls ∧ ∀ (j : Nat) (w : XV), L[j]? = some (some w) → ls[j]? = some (.val (toV w))
def asl (L : List (Option XV)) : List (Nat × Value) := (List.range L.length).filterMap fun j => match L[j]? with
  | some (some w) => some (j, toV w)
  | _ => none
theorem asl_mem {L : List (Option XV)} {j : Nat} {v : Value} : (j, v) ∈ asl L ↔ ∃ w, L[j]? = some (some w) ∧ v = toV w := by
  unfold asl
  rw [List.mem_filterMap]
  constructor
  · rintro ⟨i, -, h⟩
    split at h
    · next w hw =>
      simp only [Option.some.injEq, Prod.mk.injEq] at h
      obtain ⟨rfl, rfl⟩ := h
      exact ⟨w, hw, rfl⟩
    · cases h
  · rintro ⟨w, hw, rfl⟩
    refine ⟨j, List.mem_range.mpr (List.getElem?_eq_some_iff.mp hw).1, ?_⟩
    rw [hw]
theorem lh_has {ls : Array Slot} {nL : Nat} {L : List (Option XV)} (h : lh ls nL L) : lv_has ls nL (asl L) := by
  refine ⟨h.1, h.2.1, fun q hq => ?_⟩
  obtain ⟨j, v⟩ := q
  obtain ⟨w, hw, rfl⟩ := asl_mem.mp hq
  exact h.2.2 j w hw
theorem xclr_at {L : List (Option XV)} {i j : Nat} {w : XV} (h : (xclr L i)[j]? = some (some w)) : L[j]? = some (some w) ∧ ¬ (j + 1 = i ∧ isL w = true) := by
  cases i with
  | zero => exact ⟨h, fun q => by omega⟩
  | succ k =>
    simp only [xclr] at h
    split at h
    · next x hx =>
      rw [List.getElem?_set] at h
      split at h
      · split at h <;> cases h
      · next hne => exact ⟨h, fun q => hne (by omega)⟩
    · next hx =>
      refine ⟨h, fun q => ?_⟩
      have hj : j = k := by omega
      subst hj
      rcases w with x | x | o
      · cases q.2
      · exact hx x h
      · cases q.2
theorem lh_of1 {ls : Array Slot} {nL : Nat} {L : List (Option XV)} {i : Nat} {v : XV} (h : lv_has ls nL ((i, toV v) :: (asl L).filter (fun q => !(q.1 == i) && !(q.1 + 1 == i && q.2.category == 2)))) : lh ls nL (xst1 L i v) := by
  refine ⟨h.1, h.2.1, fun j w hw => ?_⟩
  unfold xst1 at hw
  rw [List.getElem?_set] at hw
  split at hw
  · next he =>
    subst he
    split at hw
    · cases hw
      exact h.2.2 (i, toV v) List.mem_cons_self
    · cases hw
  · next hne =>
    obtain ⟨h1, h2⟩ := xclr_at hw
    refine h.2.2 (j, toV w) (List.mem_cons_of_mem _ (List.mem_filter.mpr ⟨asl_mem.mpr ⟨w, h1, rfl⟩, ?_⟩))
    have e1 : (j == i) = false := by simp; exact fun q => hne q.symm
    show (!(j == i) && !(j + 1 == i && (toV w).category == 2)) = true
    rw [e1, toV_cat]
    by_cases hl : isL w = true
    · have : (j + 1 == i) = false := by simp; exact fun q => h2 ⟨q, hl⟩
      simp [this]
    · simp [hl]
theorem lh_of2 {ls : Array Slot} {nL : Nat} {L : List (Option XV)} {i : Nat} {v : XV} (h : lv_has ls nL ((i, toV v) :: (asl L).filter (fun q => !(q.1 == i) && (!(q.1 == i + 1) && !(q.1 + 1 == i && q.2.category == 2))))) : lh ls nL (xst2 L i v) := by
  refine ⟨h.1, h.2.1, fun j w hw => ?_⟩
  unfold xst2 at hw
  rw [List.getElem?_set] at hw
  split at hw
  · split at hw <;> cases hw
  · next hne2 =>
    rw [List.getElem?_set] at hw
    split at hw
    · next he =>
      subst he
      split at hw
      · cases hw
        exact h.2.2 (i, toV v) List.mem_cons_self
      · cases hw
    · next hne =>
      obtain ⟨h1, h2⟩ := xclr_at hw
      refine h.2.2 (j, toV w) (List.mem_cons_of_mem _ (List.mem_filter.mpr ⟨asl_mem.mpr ⟨w, h1, rfl⟩, ?_⟩))
      have e1 : (j == i) = false := by simp; exact fun q => hne q.symm
      have e2 : (j == i + 1) = false := by simp; exact fun q => hne2 q.symm
      show (!(j == i) && (!(j == i + 1) && !(j + 1 == i && (toV w).category == 2))) = true
      rw [e1, e2, toV_cat]
      by_cases hl : isL w = true
      · have : (j + 1 == i) = false := by simp; exact fun q => h2 ⟨q, hl⟩
        simp [this]
      · simp [hl]
/-! memory -/
abbrev XKd : Type := Nat ⊕ (Nat × Nat)
abbrev XM : Type := (Nat → Option XKd) × (Nat → Nat → Int32) × (Nat → Nat → Int64) × (Nat → Nat → Option Nat)
abbrev kd (m : XM) (a : Nat) : Option XKd := m.1 a
abbrev gI (m : XM) (a k : Nat) : Int32 := m.2.1 a k
abbrev gL (m : XM) (a k : Nat) : Int64 := m.2.2.1 a k
abbrev gR (m : XM) (a k : Nat) : Option Nat := m.2.2.2 a k
def mI (m : XM) (a k : Nat) (v : Int32) : XM := (m.1, (fun b j => if b = a ∧ j = k then v else m.2.1 b j), m.2.2.1, m.2.2.2)
def mL (m : XM) (a k : Nat) (v : Int64) : XM := (m.1, m.2.1, (fun b j => if b = a ∧ j = k then v else m.2.2.1 b j), m.2.2.2)
def mR (m : XM) (a k : Nat) (v : Option Nat) : XM := (m.1, m.2.1, m.2.2.1, (fun b j => if b = a ∧ j = k then v else m.2.2.2 b j))
def mN (m : XM) (a : Nat) (k : XKd) : XM := ((fun b => if b = a then some k else m.1 b), (fun b j => if b = a then 0 else m.2.1 b j), (fun b j => if b = a then 0 else m.2.2.1 b j), (fun b j => if b = a then none else m.2.2.2 b j))
abbrev oB (c : Nat) : XKd := .inl c
abbrev aR (t n : Nat) : XKd := .inr (t, n)
def fval (m : XM) (a k : Nat) : Nat → Value
  | 0 => .int (m.2.1 a k)
  | 1 => .long (m.2.2.1 a k)
  | _ => va_rf (m.2.2.2 a k)
def fvals (m : XM) (a : Nat) : Nat → List Nat → List Value
  | _, [] => []
  | k, t :: ts => fval m a k t :: fvals m a (k + 1) ts
theorem fvals_get (m : XM) (a : Nat) : ∀ (ts : List Nat) (j k : Nat), (fvals m a j ts)[k]? = (ts[k]?).map (fval m a (j + k))
  | [], j, k => by simp [fvals]
  | t :: ts, j, 0 => by simp [fvals]
  | t :: ts, j, k + 1 => by
    simp only [fvals, List.getElem?_cons_succ]
    rw [fvals_get m a ts (j + 1) k]
    rw [show j + 1 + k = j + (k + 1) by omega]
theorem fvals_len (m : XM) (a : Nat) : ∀ (ts : List Nat) (j : Nat), (fvals m a j ts).length = ts.length
  | [], j => rfl
  | t :: ts, j => by simp [fvals, fvals_len m a ts (j + 1)]
theorem fvals_put {m m' : XM} {a k t : Nat} {ts : List Nat} {v : Value} (hk : ts[k]? = some t) (hv : fval m' a k t = v) (ho : ∀ i t', i ≠ k → fval m' a i t' = fval m a i t') : (fvals m a 0 ts).set k v = fvals m' a 0 ts := by
  apply List.ext_getElem?
  intro i
  rw [List.getElem?_set, fvals_get, fvals_get, fvals_len]
  have hl := (List.getElem?_eq_some_iff.mp hk).1
  by_cases h : k = i
  · subst h
    rw [if_pos rfl, if_pos hl, hk, Nat.zero_add, Option.map_some, hv]
  · rw [if_neg h]
    simp only [Nat.zero_add]
    cases ts[i]? with
    | none => rfl
    | some t' => simp [ho i t' (fun q => h q.symm)]
theorem fvals_eq {m m' : XM} {a : Nat} (ho : ∀ i t', fval m' a i t' = fval m a i t') : ∀ (ts : List Nat) (j : Nat), fvals m' a j ts = fvals m a j ts
  | [], j => rfl
  | t :: ts, j => by simp only [fvals, ho, fvals_eq ho ts (j + 1)]
def xcont (m : XM) (a : Nat) : Nat → (Nat → Int32) ⊕ (Nat → Int64) ⊕ (Nat → UInt32) ⊕ (Nat → UInt64) ⊕ (Nat → Option Nat)
  | 0 => .inl (m.2.1 a)
  | 1 => .inl (m.2.1 a)
  | 2 => .inr (.inl (m.2.2.1 a))
  | _ => .inr (.inr (.inr (.inr (m.2.2.2 a))))
abbrev xG : Type := va_G × (Nat → ClassId) × Nat × Nat × Nat × (Nat → Int32)
abbrev gBase (G : xG) : Nat := G.2.2.1
def xA (G : xG) : Nat → Prop := fun q => gBase G ≤ q
def xtys (G : xG) : List (ClassId × FieldType) := [(G.2.1 0, .int), (G.2.1 1, .boolean), (G.2.1 2, .long), (G.2.1 3, .object RX1), (G.2.1 4, .object RX3)]
def xE (G : xG) (m : XM) (a : Nat) : XKd → va_E
  | .inl ci => .inr (ci, fvals m a 0 (xF ci))
  | .inr (t, n) => .inl (G.2.1 t, n, xcont m a t)
def Wd (G : xG) (m : XM) (H : Heap) : Prop := ∀ (a : Nat) (k : XKd), m.1 a = some k → va_at G.1 vwCl (a, xE G m a k) H ∧ gBase G ≤ a
theorem xE_off {G : xG} {m m' : XM} {a : Nat} (h1 : ∀ j, m'.2.1 a j = m.2.1 a j) (h2 : ∀ j, m'.2.2.1 a j = m.2.2.1 a j) (h3 : ∀ j, m'.2.2.2 a j = m.2.2.2 a j) (k : XKd) : xE G m' a k = xE G m a k := by
  have e1 : m'.2.1 a = m.2.1 a := funext h1
  have e2 : m'.2.2.1 a = m.2.2.1 a := funext h2
  have e3 : m'.2.2.2 a = m.2.2.2 a := funext h3
  rcases k with ci | ⟨t, n⟩
  · have : fvals m' a 0 (xF ci) = fvals m a 0 (xF ci) := fvals_eq (fun i t' => by
      match t' with
      | 0 => simp only [fval, e1]
      | 1 => simp only [fval, e2]
      | n + 2 => simp only [fval, e3]) _ _
    simp only [xE, this]
  · have : xcont m' a t = xcont m a t := by
      match t with
      | 0 => simp only [xcont, e1]
      | 1 => simp only [xcont, e1]
      | 2 => simp only [xcont, e2]
      | n + 3 => simp only [xcont, e3]
    simp only [xE, this]
theorem Wd.put {G : xG} {m m' : XM} {H H1 : Heap} (h : Wd G m H) {a : Nat} (hk : m'.1 = m.1) (h1 : ∀ b j, b ≠ a → m'.2.1 b j = m.2.1 b j) (h2 : ∀ b j, b ≠ a → m'.2.2.1 b j = m.2.2.1 b j) (h3 : ∀ b j, b ≠ a → m'.2.2.2 b j = m.2.2.2 b j)
    (ha : ∀ k, m.1 a = some k → va_at G.1 vwCl (a, xE G m' a k) H1) (ho : ∀ q : Nat, q ≠ a → H1[q]? = H[q]?) : Wd G m' H1 := by
  intro b k hb
  rw [hk] at hb
  by_cases hba : b = a
  · subst hba
    exact ⟨ha k hb, (h b k hb).2⟩
  · refine ⟨?_, (h b k hb).2⟩
    rw [xE_off (fun j => h1 b j hba) (fun j => h2 b j hba) (fun j => h3 b j hba)]
    exact (h b k hb).1.kept (ho b hba)
theorem Wd.fresh {G : xG} {m : XM} {H : Heap} (h : Wd G m H) : m.1 H.size = none := by
  cases hk : m.1 H.size with
  | none => rfl
  | some k => exact absurd ((h _ k hk).1).lt (Nat.lt_irrefl _)
theorem Wd.new {G : xG} {m : XM} {H H1 : Heap} (h : Wd G m H) (k : XKd) (hb : gBase G ≤ H.size) (ho : ∀ q : Nat, q < H.size → H1[q]? = H[q]?) (ha : va_at G.1 vwCl (H.size, xE G (mN m H.size k) H.size k) H1) : Wd G (mN m H.size k) H1 := by
  intro b k' hk
  by_cases hbs : b = H.size
  · subst hbs
    have hk2 : some k = some k' := by simpa [mN] using hk
    cases hk2
    exact ⟨ha, hb⟩
  · have hk2 : m.1 b = some k' := by simpa [mN, hbs] using hk
    obtain ⟨g1, g2⟩ := h b k' hk2
    refine ⟨?_, g2⟩
    rw [xE_off (m := m) (fun j => by simp [mN, hbs]) (fun j => by simp [mN, hbs]) (fun j => by simp [mN, hbs])]
    exact g1.kept (ho b g1.lt)
/-! the judgements -/
abbrev XR : Type := Option XV ⊕ String
/-- a method: its name, bytes, locals, answer's type, room, handlers -/
abbrev xMt : Type := MethodName × ByteArray × Nat × Option FieldType × Room × List (Nat × Nat × Nat × Nat)
def xcw (M : xMt) : Cond := match M.2.2.2.2.2 with
  | [] => .code M.1 M.2.1 M.2.2.1 M.2.2.2.1
  | hh => .codeWith M.1 M.2.1 M.2.2.1 M.2.2.2.1 hh
def xws (M : xMt) : List Cond := xcw M :: WS
def xQc (G : xG) (Q : XR → XM → Prop) : Array Value → State → Outcome → State → Prop := fun _ st oc t => (∃ (r : Option XV) (m' : XM), oc = .returned (r.map toV) ∧ Q (.inl r) m' ∧ Wd G m' t.heap) ∧ va_F (xA G) st t
def xXC (G : xG) (Q : XR → XM → Prop) : String → State → State → Prop := fun E st t => ∃ m' : XM, Q (.inr E) m' ∧ Wd G m' t.heap ∧ va_F (xA G) st t
/-- words that a call doesn't carry by the list: links of nest mates, castable, declares, not castable -/
def xNt (U : State) : Prop := (∀ q ∈ xNest, va_Nw (.methodLinkNest q.1 q.2.1 q.2.2.1 q.2.2.2) U) ∧ (∀ q ∈ xCast, va_Nw (.castable q.1 q.2) U) ∧ (∀ q ∈ xDecl, va_Nw (.declares q) U) ∧ (∀ q ∈ xNoc, va_Nc q.1 q.2 U) ∧ ∀ C ∈ xAo, va_AO C U
theorem xNt.moved {s U : State} (hW : s.WarmedH U.vm) (h : xNt s) : xNt U := ⟨fun q hq => (h.1 q hq).warmM hW, fun q hq => (h.2.1 q hq).warmC hW, fun q hq => (h.2.2.1 q hq).warmD hW, fun q hq => (h.2.2.2.1 q hq).moved hW.alike, fun C hC => (h.2.2.2.2 C hC).moved hW.alike⟩
def xSt (G : xG) (U : State) (H : Heap) : Prop := va_K G.1 vwCl (xtys G) U ∧ vx_Zq Bundle.tN "UNASSIGNED_STACK" Bundle.steD (xA G) U H ∧ vx_Zq Bundle.tN "SUPPRESSED_SENTINEL" Bundle.listD (xA G) U H ∧ gBase G ≤ H.size ∧ va_X G.2.2.2.1 G.2.2.2.2.1 G.2.2.2.2.2 U H ∧ G.2.2.2.1 < gBase G ∧ xNt U
def xPc (G : xG) (a : List XV) (m : XM) : Array Value → State → Prop := fun v U => v = (a.map toV).toArray ∧ Wd G m U.heap ∧ xSt G U U.heap
def CC (l : Launch) (G : xG) (M : xMt) (a : List XV) (m : XM) (Q : XR → XM → Prop) : Prop :=
  vx_Met l M.1 (xws M) M.2.2.2.2.1 (xPc G a m) (xQc G Q) (xXC G Q) M.2.2.2.2.1.cells M.2.2.2.2.1.slots (xA G)
def xC (l : Launch) (G : xG) (M : xMt) (p : Program) (s : State) (mid : MethodId) (args : Array Value) (meth : Method) (c : Code) : Prop :=
  p.tables.exec = Jvm.exec ∧ c.code = M.2.1 ∧ c.maxLocals = M.2.2.1 ∧ s.vm.findClass M.1.cls = some mid.cls ∧ (∀ w ∈ WS, w.before args s = true) ∧ meth.locks = false ∧ meth.sig.returnType = M.2.2.2.1 ∧ meth.name = M.1.name ∧ c.exceptionTable.toList = tableOf M.2.2.2.2.2 ∧ xSt G s s.heap ∧ l.stackTraces = false
def WW (l : Launch) (G : xG) (M : xMt) (pc : Nat) (L : List (Option XV)) (st : List XV) (m : XM) (bc bs : Nat) (Q : XR → XM → Prop) : Prop :=
  ∀ (p : Program) (e : Env) (s : State) (mid : MethodId) (args : Array Value) (below : List Frame) (meth : Method) (c : Code), xC l G M p s mid args meth c → ∀ (H : Heap) (locs : List Loc) (cells slots : Nat) (ls : Array Slot), Wd G m H → va_S (xA G) s.heap H locs → lh ls M.2.2.1 L → cells + bc ≤ M.2.2.2.2.1.cells → slots + bs ≤ M.2.2.2.2.1.slots →
    W p l e M.2.2.2.2.1 s mid args below meth c H locs cells slots (vx_MQ below (xQc G Q) (xXC G Q) args s M.2.2.2.2.1.cells M.2.2.2.2.1.slots (xA G)) (F0 mid pc ls (st.map toV))
end
section
def jushr (x : Int64) (y : Int32) : Int64 := (x.toUInt64 >>> (y.toInt64.toUInt64 &&& Int64.toUInt64 63)).toInt64
def jshl (x : Int64) (y : Int32) : Int64 := x <<< (y.toInt64 &&& 63)
def jshr (x : Int64) (y : Int32) : Int64 := x >>> (y.toInt64 &&& 63)
theorem nar_b {x : Int32} (h : x = 0 ∨ x = 1) : narrow .boolean (.int x) = .int x := by rcases h with rfl | rfl <;> decide
theorem fit_b {x : Int32} (h : x = 0 ∨ x = 1) : fits .boolean (.int x) = true := by rcases h with rfl | rfl <;> decide
theorem kdN {m : XM} {a b : Nat} {k k' : XKd} (ha : m.1 a = none) (hb : m.1 b = some k') : (mN m a k).1 b = some k' := by
  have : b ≠ a := fun e => by rw [e, ha] at hb; cases hb
  simp [mN, this, hb]
theorem kdNs (m : XM) (a : Nat) (k : XKd) : (mN m a k).1 a = some k := by simp [mN]
def wkL : List Bool → List (Option XV) → List (Option XV)
  | true :: b, v :: L => v :: wkL b L
  | false :: b, _ :: L => none :: wkL b L
  | _, _ => []
theorem wkL_at : ∀ (b : List Bool) (L : List (Option XV)) (j : Nat) (w : XV), (wkL b L)[j]? = some (some w) → L[j]? = some (some w)
  | [], L, j, w, h => by simp [wkL] at h
  | b :: bs, [], j, w, h => by cases b <;> simp [wkL] at h
  | true :: bs, v :: L, 0, w, h => by simpa [wkL] using h
  | true :: bs, v :: L, j + 1, w, h => by
    simp only [wkL, List.getElem?_cons_succ] at h ⊢
    exact wkL_at bs L j w h
  | false :: bs, v :: L, 0, w, h => by simp [wkL] at h
  | false :: bs, v :: L, j + 1, w, h => by
    simp only [wkL, List.getElem?_cons_succ] at h ⊢
    exact wkL_at bs L j w h
section XRows
variable {l : Launch} {G : xG} {M : xMt} {pc : Nat} {L : List (Option XV)} {st : List XV} {m : XM} {bc bs : Nat} {Q : XR → XM → Prop}
theorem x_iconst {i : Int} {v : Int32} (hd : decode M.2.1 pc = .ok (.iconst i, 1)) (hv : Int32.ofInt i = v) {n : Nat} (hn : pc + 1 = n) (k : WW l G M n L (vI v :: st) m bc bs Q) : WW l G M pc L (st) m bc bs Q := by
  subst hn
  intro p e s mid args below meth c hC H locs cells slots ls hW hS hL h1 h2
  exact lv_iconst hC.1 hC.2.1 hd hv (k p e s mid args below meth c hC H locs cells slots ls hW hS hL h1 h2)
theorem x_bipush {i : Int} {v : Int32} (hd : decode M.2.1 pc = .ok (.bipush i, 2)) (hv : (Int8.ofInt i).toInt32 = v) {n : Nat} (hn : pc + 2 = n) (k : WW l G M n L (vI v :: st) m bc bs Q) : WW l G M pc L (st) m bc bs Q := by
  subst hn
  intro p e s mid args below meth c hC H locs cells slots ls hW hS hL h1 h2
  exact lv_bipush hC.1 hC.2.1 hd hv (k p e s mid args below meth c hC H locs cells slots ls hW hS hL h1 h2)
theorem x_sipush {i : Int} {v : Int32} (hd : decode M.2.1 pc = .ok (.sipush i, 3)) (hv : (Int16.ofInt i).toInt32 = v) {n : Nat} (hn : pc + 3 = n) (k : WW l G M n L (vI v :: st) m bc bs Q) : WW l G M pc L (st) m bc bs Q := by
  subst hn
  intro p e s mid args below meth c hC H locs cells slots ls hW hS hL h1 h2
  exact lv_sipush hC.1 hC.2.1 hd hv (k p e s mid args below meth c hC H locs cells slots ls hW hS hL h1 h2)
theorem x_lconst {i : Fin 2} {v : Int64} (hd : decode M.2.1 pc = .ok (.lconst i, 1)) (hv : Int64.ofNat (i : Nat) = v) {n : Nat} (hn : pc + 1 = n) (k : WW l G M n L (vL v :: st) m bc bs Q) : WW l G M pc L (st) m bc bs Q := by
  subst hn
  intro p e s mid args below meth c hC H locs cells slots ls hW hS hL h1 h2
  exact lv_lconst hC.1 hC.2.1 hd hv (k p e s mid args below meth c hC H locs cells slots ls hW hS hL h1 h2)
theorem x_iload_n {i : Fin 4} {x : Int32} (hd : decode M.2.1 pc = .ok (.iload_n i, 1)) (hl : L[(i : Nat)]? = some (some (vI x))) {n : Nat} (hn : pc + 1 = n) (k : WW l G M n L (vI x :: st) m bc bs Q) : WW l G M pc L (st) m bc bs Q := by
  subst hn
  intro p e s mid args below meth c hC H locs cells slots ls hW hS hL h1 h2
  exact lv_iload_n hC.1 hC.2.1 hd rfl (hL.2.2 _ _ hl) (k p e s mid args below meth c hC H locs cells slots ls hW hS hL h1 h2)
theorem x_iload {i : Nat} {x : Int32} (hd : decode M.2.1 pc = .ok (.iload i, 2)) (hl : L[i]? = some (some (vI x))) {n : Nat} (hn : pc + 2 = n) (k : WW l G M n L (vI x :: st) m bc bs Q) : WW l G M pc L (st) m bc bs Q := by
  subst hn
  intro p e s mid args below meth c hC H locs cells slots ls hW hS hL h1 h2
  exact lv_iload hC.1 hC.2.1 hd (hL.2.2 _ _ hl) (k p e s mid args below meth c hC H locs cells slots ls hW hS hL h1 h2)
theorem x_lload_n {i : Fin 4} {x : Int64} (hd : decode M.2.1 pc = .ok (.lload_n i, 1)) (hl : L[(i : Nat)]? = some (some (vL x))) {n : Nat} (hn : pc + 1 = n) (k : WW l G M n L (vL x :: st) m bc bs Q) : WW l G M pc L (st) m bc bs Q := by
  subst hn
  intro p e s mid args below meth c hC H locs cells slots ls hW hS hL h1 h2
  exact lv_lload_n hC.1 hC.2.1 hd rfl (hL.2.2 _ _ hl) (k p e s mid args below meth c hC H locs cells slots ls hW hS hL h1 h2)
theorem x_lload {i : Nat} {x : Int64} (hd : decode M.2.1 pc = .ok (.lload i, 2)) (hl : L[i]? = some (some (vL x))) {n : Nat} (hn : pc + 2 = n) (k : WW l G M n L (vL x :: st) m bc bs Q) : WW l G M pc L (st) m bc bs Q := by
  subst hn
  intro p e s mid args below meth c hC H locs cells slots ls hW hS hL h1 h2
  exact lv_lload hC.1 hC.2.1 hd (hL.2.2 _ _ hl) (k p e s mid args below meth c hC H locs cells slots ls hW hS hL h1 h2)
theorem x_aload_n {i : Fin 4} {o : Option Nat} (hd : decode M.2.1 pc = .ok (.aload_n i, 1)) (hl : L[(i : Nat)]? = some (some (vR o))) {n : Nat} (hn : pc + 1 = n) (k : WW l G M n L (vR o :: st) m bc bs Q) : WW l G M pc L st m bc bs Q := by
  subst hn
  intro p e s mid args below meth c hC H locs cells slots ls hW hS hL h1 h2
  have hh := hL.2.2 _ _ hl
  cases o with
  | none => exact lv_aload_nN hC.1 hC.2.1 hd rfl hh (k p e s mid args below meth c hC H locs cells slots ls hW hS hL h1 h2)
  | some a => exact lv_aload_n hC.1 hC.2.1 hd rfl hh (k p e s mid args below meth c hC H locs cells slots ls hW hS hL h1 h2)
theorem x_aload {i : Nat} {o : Option Nat} (hd : decode M.2.1 pc = .ok (.aload i, 2)) (hl : L[(i : Nat)]? = some (some (vR o))) {n : Nat} (hn : pc + 2 = n) (k : WW l G M n L (vR o :: st) m bc bs Q) : WW l G M pc L st m bc bs Q := by
  subst hn
  intro p e s mid args below meth c hC H locs cells slots ls hW hS hL h1 h2
  have hh := hL.2.2 _ _ hl
  cases o with
  | none => exact lv_aloadN hC.1 hC.2.1 hd hh (k p e s mid args below meth c hC H locs cells slots ls hW hS hL h1 h2)
  | some a => exact lv_aload hC.1 hC.2.1 hd hh (k p e s mid args below meth c hC H locs cells slots ls hW hS hL h1 h2)
theorem x_istore_n {i : Fin 4} {x : Int32} (hd : decode M.2.1 pc = .ok (.istore_n i, 1)) {L' : List (Option XV)} (hi : (i : Nat) < M.2.2.1) (hl : xst1 L (i : Nat) (vI x) = L') {n : Nat} (hn : pc + 1 = n) (k : WW l G M n L' st m bc bs Q) : WW l G M pc L (vI x :: st) m bc bs Q := by
  subst hn; subst hl
  intro p e s mid args below meth c hC H locs cells slots ls hW hS hL h1 h2
  exact lv_istore_n hC.1 hC.2.1 hd rfl (lh_has hL) hi rfl fun ls' h' => k p e s mid args below meth c hC H locs cells slots ls' hW hS (lh_of1 (v := vI x) h') h1 h2
theorem x_lstore_n {i : Fin 4} {x : Int64} (hd : decode M.2.1 pc = .ok (.lstore_n i, 1)) {L' : List (Option XV)} (hi : (i : Nat) + 1 < M.2.2.1) (hl : xst2 L (i : Nat) (vL x) = L') {n : Nat} (hn : pc + 1 = n) (k : WW l G M n L' st m bc bs Q) : WW l G M pc L (vL x :: st) m bc bs Q := by
  subst hn; subst hl
  intro p e s mid args below meth c hC H locs cells slots ls hW hS hL h1 h2
  exact lv_lstore_n hC.1 hC.2.1 hd rfl (lh_has hL) hi rfl fun ls' h' => k p e s mid args below meth c hC H locs cells slots ls' hW hS (lh_of2 (v := vL x) h') h1 h2
theorem x_astore_n {i : Fin 4} {o : Option Nat} (hd : decode M.2.1 pc = .ok (.astore_n i, 1)) {L' : List (Option XV)} (hi : (i : Nat) < M.2.2.1) (hl : xst1 L (i : Nat) (vR o) = L') {n : Nat} (hn : pc + 1 = n) (k : WW l G M n L' st m bc bs Q) : WW l G M pc L (vR o :: st) m bc bs Q := by
  subst hn; subst hl
  intro p e s mid args below meth c hC H locs cells slots ls hW hS hL h1 h2
  cases o with
  | none => exact lv_astore_nN hC.1 hC.2.1 hd rfl (lh_has hL) hi rfl fun ls' h' => k p e s mid args below meth c hC H locs cells slots ls' hW hS (lh_of1 (v := vR none) h') h1 h2
  | some a => exact lv_astore_n hC.1 hC.2.1 hd rfl (lh_has hL) hi rfl fun ls' h' => k p e s mid args below meth c hC H locs cells slots ls' hW hS (lh_of1 (v := vR (some a)) h') h1 h2
theorem x_istore {i : Nat} {x : Int32} (hd : decode M.2.1 pc = .ok (.istore i, 2)) {L' : List (Option XV)} (hi : (i : Nat) < M.2.2.1) (hl : xst1 L (i : Nat) (vI x) = L') {n : Nat} (hn : pc + 2 = n) (k : WW l G M n L' st m bc bs Q) : WW l G M pc L (vI x :: st) m bc bs Q := by
  subst hn; subst hl
  intro p e s mid args below meth c hC H locs cells slots ls hW hS hL h1 h2
  exact lv_istore hC.1 hC.2.1 hd (lh_has hL) hi rfl fun ls' h' => k p e s mid args below meth c hC H locs cells slots ls' hW hS (lh_of1 (v := vI x) h') h1 h2
theorem x_lstore {i : Nat} {x : Int64} (hd : decode M.2.1 pc = .ok (.lstore i, 2)) {L' : List (Option XV)} (hi : (i : Nat) + 1 < M.2.2.1) (hl : xst2 L (i : Nat) (vL x) = L') {n : Nat} (hn : pc + 2 = n) (k : WW l G M n L' st m bc bs Q) : WW l G M pc L (vL x :: st) m bc bs Q := by
  subst hn; subst hl
  intro p e s mid args below meth c hC H locs cells slots ls hW hS hL h1 h2
  exact lv_lstore hC.1 hC.2.1 hd (lh_has hL) hi rfl fun ls' h' => k p e s mid args below meth c hC H locs cells slots ls' hW hS (lh_of2 (v := vL x) h') h1 h2
theorem x_astore {i : Nat} {o : Option Nat} (hd : decode M.2.1 pc = .ok (.astore i, 2)) {L' : List (Option XV)} (hi : (i : Nat) < M.2.2.1) (hl : xst1 L (i : Nat) (vR o) = L') {n : Nat} (hn : pc + 2 = n) (k : WW l G M n L' st m bc bs Q) : WW l G M pc L (vR o :: st) m bc bs Q := by
  subst hn; subst hl
  intro p e s mid args below meth c hC H locs cells slots ls hW hS hL h1 h2
  cases o with
  | none => exact lv_astoreN hC.1 hC.2.1 hd (lh_has hL) hi rfl fun ls' h' => k p e s mid args below meth c hC H locs cells slots ls' hW hS (lh_of1 (v := vR none) h') h1 h2
  | some a => exact lv_astore hC.1 hC.2.1 hd (lh_has hL) hi rfl fun ls' h' => k p e s mid args below meth c hC H locs cells slots ls' hW hS (lh_of1 (v := vR (some a)) h') h1 h2
theorem x_iinc {i : Nat} {j : Int} {x v : Int32} (hd : decode M.2.1 pc = .ok (.iinc i j, 3)) (hx : L[i]? = some (some (vI x))) (hv : x + Int32.ofInt j = v) {L' : List (Option XV)} (hi : i < M.2.2.1) (hl : xst1 L i (vI v) = L') {n : Nat} (hn : pc + 3 = n) (k : WW l G M n L' st m bc bs Q) : WW l G M pc L st m bc bs Q := by
  subst hn; subst hl
  intro p e s mid args below meth c hC H locs cells slots ls hW hS hL h1 h2
  obtain ⟨q, hq⟩ := List.getElem?_of_mem (asl_mem.mpr ⟨vI x, hx, rfl⟩)
  exact lv_iinc (k := q) hC.1 hC.2.1 hd (lh_has hL) hq hv hi rfl fun ls' h' => k p e s mid args below meth c hC H locs cells slots ls' hW hS (lh_of1 (v := vI v) h') h1 h2
theorem x_iadd {x y : Int32} (hd : decode M.2.1 pc = .ok (.iadd, 1)) {n : Nat} (hn : pc + 1 = n) (k : WW l G M n L (vI (x + y) :: st) m bc bs Q) : WW l G M pc L (vI y :: vI x :: st) m bc bs Q := by
  subst hn
  intro p e s mid args below meth c hC H locs cells slots ls hW hS hL h1 h2
  exact lv_iadd hC.1 hC.2.1 hd  (k p e s mid args below meth c hC H locs cells slots ls hW hS hL h1 h2)
theorem x_isub {x y : Int32} (hd : decode M.2.1 pc = .ok (.isub, 1)) {n : Nat} (hn : pc + 1 = n) (k : WW l G M n L (vI (x - y) :: st) m bc bs Q) : WW l G M pc L (vI y :: vI x :: st) m bc bs Q := by
  subst hn
  intro p e s mid args below meth c hC H locs cells slots ls hW hS hL h1 h2
  exact lv_isub hC.1 hC.2.1 hd  (k p e s mid args below meth c hC H locs cells slots ls hW hS hL h1 h2)
theorem x_imul {x y : Int32} (hd : decode M.2.1 pc = .ok (.imul, 1)) {n : Nat} (hn : pc + 1 = n) (k : WW l G M n L (vI (x * y) :: st) m bc bs Q) : WW l G M pc L (vI y :: vI x :: st) m bc bs Q := by
  subst hn
  intro p e s mid args below meth c hC H locs cells slots ls hW hS hL h1 h2
  exact lv_imul hC.1 hC.2.1 hd  (k p e s mid args below meth c hC H locs cells slots ls hW hS hL h1 h2)
theorem x_iand {x y : Int32} (hd : decode M.2.1 pc = .ok (.iand, 1)) {n : Nat} (hn : pc + 1 = n) (k : WW l G M n L (vI (x &&& y) :: st) m bc bs Q) : WW l G M pc L (vI y :: vI x :: st) m bc bs Q := by
  subst hn
  intro p e s mid args below meth c hC H locs cells slots ls hW hS hL h1 h2
  exact lv_iand hC.1 hC.2.1 hd  (k p e s mid args below meth c hC H locs cells slots ls hW hS hL h1 h2)
theorem x_idiv {x y : Int32} (hd : decode M.2.1 pc = .ok (.idiv, 1)) (hy : ¬ y = 0) {n : Nat} (hn : pc + 1 = n) (k : WW l G M n L (vI (x / y) :: st) m bc bs Q) : WW l G M pc L (vI y :: vI x :: st) m bc bs Q := by
  subst hn
  intro p e s mid args below meth c hC H locs cells slots ls hW hS hL h1 h2
  exact lv_idiv hC.1 hC.2.1 hd hy (k p e s mid args below meth c hC H locs cells slots ls hW hS hL h1 h2)
theorem x_irem {x y : Int32} (hd : decode M.2.1 pc = .ok (.irem, 1)) (hy : ¬ y = 0) {n : Nat} (hn : pc + 1 = n) (k : WW l G M n L (vI (x - x / y * y) :: st) m bc bs Q) : WW l G M pc L (vI y :: vI x :: st) m bc bs Q := by
  subst hn
  intro p e s mid args below meth c hC H locs cells slots ls hW hS hL h1 h2
  exact lv_irem hC.1 hC.2.1 hd hy (k p e s mid args below meth c hC H locs cells slots ls hW hS hL h1 h2)
theorem x_lmul {x y : Int64} (hd : decode M.2.1 pc = .ok (.lmul, 1)) {n : Nat} (hn : pc + 1 = n) (k : WW l G M n L (vL (x * y) :: st) m bc bs Q) : WW l G M pc L (vL y :: vL x :: st) m bc bs Q := by
  subst hn
  intro p e s mid args below meth c hC H locs cells slots ls hW hS hL h1 h2
  exact lv_lmul hC.1 hC.2.1 hd  (k p e s mid args below meth c hC H locs cells slots ls hW hS hL h1 h2)
theorem x_land {x y : Int64} (hd : decode M.2.1 pc = .ok (.land, 1)) {n : Nat} (hn : pc + 1 = n) (k : WW l G M n L (vL (x &&& y) :: st) m bc bs Q) : WW l G M pc L (vL y :: vL x :: st) m bc bs Q := by
  subst hn
  intro p e s mid args below meth c hC H locs cells slots ls hW hS hL h1 h2
  exact lv_land hC.1 hC.2.1 hd  (k p e s mid args below meth c hC H locs cells slots ls hW hS hL h1 h2)
theorem x_lor {x y : Int64} (hd : decode M.2.1 pc = .ok (.lor, 1)) {n : Nat} (hn : pc + 1 = n) (k : WW l G M n L (vL (x ||| y) :: st) m bc bs Q) : WW l G M pc L (vL y :: vL x :: st) m bc bs Q := by
  subst hn
  intro p e s mid args below meth c hC H locs cells slots ls hW hS hL h1 h2
  exact lv_lor hC.1 hC.2.1 hd  (k p e s mid args below meth c hC H locs cells slots ls hW hS hL h1 h2)
theorem x_lxor {x y : Int64} (hd : decode M.2.1 pc = .ok (.lxor, 1)) {n : Nat} (hn : pc + 1 = n) (k : WW l G M n L (vL (x ^^^ y) :: st) m bc bs Q) : WW l G M pc L (vL y :: vL x :: st) m bc bs Q := by
  subst hn
  intro p e s mid args below meth c hC H locs cells slots ls hW hS hL h1 h2
  exact lv_lxor hC.1 hC.2.1 hd  (k p e s mid args below meth c hC H locs cells slots ls hW hS hL h1 h2)
theorem x_lushr {x : Int64} {y : Int32} (hd : decode M.2.1 pc = .ok (.lushr, 1)) {n : Nat} (hn : pc + 1 = n) (k : WW l G M n L (vL (jushr x y) :: st) m bc bs Q) : WW l G M pc L (vI y :: vL x :: st) m bc bs Q := by
  subst hn
  intro p e s mid args below meth c hC H locs cells slots ls hW hS hL h1 h2
  exact lv_lushr hC.1 hC.2.1 hd rfl (k p e s mid args below meth c hC H locs cells slots ls hW hS hL h1 h2)
theorem x_lshl {x : Int64} {y : Int32} (hd : decode M.2.1 pc = .ok (.lshl, 1)) {n : Nat} (hn : pc + 1 = n) (k : WW l G M n L (vL (jshl x y) :: st) m bc bs Q) : WW l G M pc L (vI y :: vL x :: st) m bc bs Q := by
  subst hn
  intro p e s mid args below meth c hC H locs cells slots ls hW hS hL h1 h2
  exact lv_lshl hC.1 hC.2.1 hd rfl (k p e s mid args below meth c hC H locs cells slots ls hW hS hL h1 h2)
theorem x_lshr {x : Int64} {y : Int32} (hd : decode M.2.1 pc = .ok (.lshr, 1)) {n : Nat} (hn : pc + 1 = n) (k : WW l G M n L (vL (jshr x y) :: st) m bc bs Q) : WW l G M pc L (vI y :: vL x :: st) m bc bs Q := by
  subst hn
  intro p e s mid args below meth c hC H locs cells slots ls hW hS hL h1 h2
  exact lv_lshr hC.1 hC.2.1 hd rfl (k p e s mid args below meth c hC H locs cells slots ls hW hS hL h1 h2)
theorem x_i2l {x : Int32} (hd : decode M.2.1 pc = .ok (.i2l, 1)) {n : Nat} (hn : pc + 1 = n) (k : WW l G M n L (vL x.toInt64 :: st) m bc bs Q) : WW l G M pc L (vI x :: st) m bc bs Q := by
  subst hn
  intro p e s mid args below meth c hC H locs cells slots ls hW hS hL h1 h2
  exact lv_i2l hC.1 hC.2.1 hd rfl (k p e s mid args below meth c hC H locs cells slots ls hW hS hL h1 h2)
theorem x_l2i {x : Int64} (hd : decode M.2.1 pc = .ok (.l2i, 1)) {n : Nat} (hn : pc + 1 = n) (k : WW l G M n L (vI x.toInt32 :: st) m bc bs Q) : WW l G M pc L (vL x :: st) m bc bs Q := by
  subst hn
  intro p e s mid args below meth c hC H locs cells slots ls hW hS hL h1 h2
  exact lv_l2i hC.1 hC.2.1 hd rfl (k p e s mid args below meth c hC H locs cells slots ls hW hS hL h1 h2)
theorem x_lcmp {x y : Int64} (hd : decode M.2.1 pc = .ok (.lcmp, 1)) {n : Nat} (hn : pc + 1 = n) (k : WW l G M n L (vI (lg_cmp x y) :: st) m bc bs Q) : WW l G M pc L (vL y :: vL x :: st) m bc bs Q := by
  subst hn
  intro p e s mid args below meth c hC H locs cells slots ls hW hS hL h1 h2
  exact W.lcmp hC.1 hC.2.1 hd  (k p e s mid args below meth c hC H locs cells slots ls hW hS hL h1 h2)
theorem x_pop {x : XV} (hd : decode M.2.1 pc = .ok (.pop, 1)) (hx : isL x = false) {n : Nat} (hn : pc + 1 = n) (k : WW l G M n L (st) m bc bs Q) : WW l G M pc L (x :: st) m bc bs Q := by
  subst hn
  intro p e s mid args below meth c hC H locs cells slots ls hW hS hL h1 h2
  exact lv_pop hC.1 hC.2.1 hd (by rw [toV_cat, hx]; rfl) (k p e s mid args below meth c hC H locs cells slots ls hW hS hL h1 h2)
theorem x_dup {x : XV} (hd : decode M.2.1 pc = .ok (.dup, 1)) (hx : isL x = false) {n : Nat} (hn : pc + 1 = n) (k : WW l G M n L (x :: x :: st) m bc bs Q) : WW l G M pc L (x :: st) m bc bs Q := by
  subst hn
  intro p e s mid args below meth c hC H locs cells slots ls hW hS hL h1 h2
  exact lv_dup hC.1 hC.2.1 hd (by rw [toV_cat, hx]; rfl) (k p e s mid args below meth c hC H locs cells slots ls hW hS hL h1 h2)
theorem x_dup2 {x y : XV} (hd : decode M.2.1 pc = .ok (.dup2, 1)) (hx : isL x = false) (hy : isL y = false) {n : Nat} (hn : pc + 1 = n) (k : WW l G M n L (x :: y :: x :: y :: st) m bc bs Q) : WW l G M pc L (x :: y :: st) m bc bs Q := by
  subst hn
  intro p e s mid args below meth c hC H locs cells slots ls hW hS hL h1 h2
  exact lv_dup2_11 hC.1 hC.2.1 hd (by rw [toV_cat, hx]; rfl) (by rw [toV_cat, hy]; rfl) (k p e s mid args below meth c hC H locs cells slots ls hW hS hL h1 h2)
theorem x_dup_x1 {x y : XV} (hd : decode M.2.1 pc = .ok (.dup_x1, 1)) (hx : isL x = false) (hy : isL y = false) {n : Nat} (hn : pc + 1 = n) (k : WW l G M n L (x :: y :: x :: st) m bc bs Q) : WW l G M pc L (x :: y :: st) m bc bs Q := by
  subst hn
  intro p e s mid args below meth c hC H locs cells slots ls hW hS hL h1 h2
  exact lv_dup_x1 hC.1 hC.2.1 hd (by rw [toV_cat, hx]; rfl) (by rw [toV_cat, hy]; rfl) (k p e s mid args below meth c hC H locs cells slots ls hW hS hL h1 h2)
theorem x_null (hd : decode M.2.1 pc = .ok (.aconst_null, 1)) {n : Nat} (hn : pc + 1 = n) (k : WW l G M n L (vR none :: st) m bc bs Q) : WW l G M pc L (st) m bc bs Q := by
  subst hn
  intro p e s mid args below meth c hC H locs cells slots ls hW hS hL h1 h2
  exact lv_null hC.1 hC.2.1 hd  (k p e s mid args below meth c hC H locs cells slots ls hW hS hL h1 h2)
theorem x_ldc {i : Nat} {v : Int32} (hd : decode M.2.1 pc = .ok (.ldc i, 2)) (hw : Cond.constant M.1.cls i v ∈ WS) {n : Nat} (hn : pc + 2 = n) (k : WW l G M n L (vI v :: st) m bc bs Q) : WW l G M pc L (st) m bc bs Q := by
  subst hn
  intro p e s mid args below meth c hC H locs cells slots ls hW hS hL h1 h2
  exact (fun h1 h2 h3 h4 => lv_ldc (own := M.1.cls) h1 h2 hC.2.2.2.1 (hC.2.2.2.2.1 _ hw) h3 h4) hC.1 hC.2.1 hd  (k p e s mid args below meth c hC H locs cells slots ls hW hS hL h1 h2)
theorem x_ldc2 {i : Nat} {v : Int64} (hd : decode M.2.1 pc = .ok (.ldc2_w i, 3)) (hw : Cond.constantLong M.1.cls i v ∈ WS) {n : Nat} (hn : pc + 3 = n) (k : WW l G M n L (vL v :: st) m bc bs Q) : WW l G M pc L (st) m bc bs Q := by
  subst hn
  intro p e s mid args below meth c hC H locs cells slots ls hW hS hL h1 h2
  exact (fun h1 h2 h3 h4 => lv_ldc2 (own := M.1.cls) h1 h2 hC.2.2.2.1 (hC.2.2.2.2.1 _ hw) h3 h4) hC.1 hC.2.1 hd  (k p e s mid args below meth c hC H locs cells slots ls hW hS hL h1 h2)
theorem x_if_eq {x : Int32} {off : Int} {tgt : Nat} (hd : decode M.2.1 pc = .ok (.ifCond .eq off, 3)) (ht : (pc : Int) + off = (tgt : Int)) {n : Nat} (hn : pc + 3 = n) (kt : x = 0 → WW l G M tgt L st m bc bs Q) (kf : ¬ x = 0 → WW l G M n L st m bc bs Q) : WW l G M pc L (vI x :: st) m bc bs Q := by
  subst hn
  intro p e s mid args below meth c hC H locs cells slots ls hW hS hL h1 h2
  exact lv_if_eq hC.1 hC.2.1 hd ht (fun hp => kt hp p e s mid args below meth c hC H locs cells slots ls hW hS hL h1 h2) (fun hp => kf hp p e s mid args below meth c hC H locs cells slots ls hW hS hL h1 h2)
theorem x_icmp_eq {x y : Int32} {off : Int} {tgt : Nat} (hd : decode M.2.1 pc = .ok (.if_icmp .eq off, 3)) (ht : (pc : Int) + off = (tgt : Int)) {n : Nat} (hn : pc + 3 = n) (kt : x = y → WW l G M tgt L st m bc bs Q) (kf : ¬ x = y → WW l G M n L st m bc bs Q) : WW l G M pc L (vI y :: vI x :: st) m bc bs Q := by
  subst hn
  intro p e s mid args below meth c hC H locs cells slots ls hW hS hL h1 h2
  exact lv_icmp_eq hC.1 hC.2.1 hd ht (fun hp => kt hp p e s mid args below meth c hC H locs cells slots ls hW hS hL h1 h2) (fun hp => kf hp p e s mid args below meth c hC H locs cells slots ls hW hS hL h1 h2)
theorem x_if_ne {x : Int32} {off : Int} {tgt : Nat} (hd : decode M.2.1 pc = .ok (.ifCond .ne off, 3)) (ht : (pc : Int) + off = (tgt : Int)) {n : Nat} (hn : pc + 3 = n) (kt : ¬ x = 0 → WW l G M tgt L st m bc bs Q) (kf : x = 0 → WW l G M n L st m bc bs Q) : WW l G M pc L (vI x :: st) m bc bs Q := by
  subst hn
  intro p e s mid args below meth c hC H locs cells slots ls hW hS hL h1 h2
  exact lv_if_ne hC.1 hC.2.1 hd ht (fun hp => kt hp p e s mid args below meth c hC H locs cells slots ls hW hS hL h1 h2) (fun hp => kf hp p e s mid args below meth c hC H locs cells slots ls hW hS hL h1 h2)
theorem x_icmp_ne {x y : Int32} {off : Int} {tgt : Nat} (hd : decode M.2.1 pc = .ok (.if_icmp .ne off, 3)) (ht : (pc : Int) + off = (tgt : Int)) {n : Nat} (hn : pc + 3 = n) (kt : ¬ x = y → WW l G M tgt L st m bc bs Q) (kf : x = y → WW l G M n L st m bc bs Q) : WW l G M pc L (vI y :: vI x :: st) m bc bs Q := by
  subst hn
  intro p e s mid args below meth c hC H locs cells slots ls hW hS hL h1 h2
  exact lv_icmp_ne hC.1 hC.2.1 hd ht (fun hp => kt hp p e s mid args below meth c hC H locs cells slots ls hW hS hL h1 h2) (fun hp => kf hp p e s mid args below meth c hC H locs cells slots ls hW hS hL h1 h2)
theorem x_if_lt {x : Int32} {off : Int} {tgt : Nat} (hd : decode M.2.1 pc = .ok (.ifCond .lt off, 3)) (ht : (pc : Int) + off = (tgt : Int)) {n : Nat} (hn : pc + 3 = n) (kt : x < 0 → WW l G M tgt L st m bc bs Q) (kf : ¬ x < 0 → WW l G M n L st m bc bs Q) : WW l G M pc L (vI x :: st) m bc bs Q := by
  subst hn
  intro p e s mid args below meth c hC H locs cells slots ls hW hS hL h1 h2
  exact lv_if_lt hC.1 hC.2.1 hd ht (fun hp => kt hp p e s mid args below meth c hC H locs cells slots ls hW hS hL h1 h2) (fun hp => kf hp p e s mid args below meth c hC H locs cells slots ls hW hS hL h1 h2)
theorem x_icmp_lt {x y : Int32} {off : Int} {tgt : Nat} (hd : decode M.2.1 pc = .ok (.if_icmp .lt off, 3)) (ht : (pc : Int) + off = (tgt : Int)) {n : Nat} (hn : pc + 3 = n) (kt : x < y → WW l G M tgt L st m bc bs Q) (kf : ¬ x < y → WW l G M n L st m bc bs Q) : WW l G M pc L (vI y :: vI x :: st) m bc bs Q := by
  subst hn
  intro p e s mid args below meth c hC H locs cells slots ls hW hS hL h1 h2
  exact lv_icmp_lt hC.1 hC.2.1 hd ht (fun hp => kt hp p e s mid args below meth c hC H locs cells slots ls hW hS hL h1 h2) (fun hp => kf hp p e s mid args below meth c hC H locs cells slots ls hW hS hL h1 h2)
theorem x_if_ge {x : Int32} {off : Int} {tgt : Nat} (hd : decode M.2.1 pc = .ok (.ifCond .ge off, 3)) (ht : (pc : Int) + off = (tgt : Int)) {n : Nat} (hn : pc + 3 = n) (kt : 0 ≤ x → WW l G M tgt L st m bc bs Q) (kf : ¬ 0 ≤ x → WW l G M n L st m bc bs Q) : WW l G M pc L (vI x :: st) m bc bs Q := by
  subst hn
  intro p e s mid args below meth c hC H locs cells slots ls hW hS hL h1 h2
  exact lv_if_ge hC.1 hC.2.1 hd ht (fun hp => kt hp p e s mid args below meth c hC H locs cells slots ls hW hS hL h1 h2) (fun hp => kf hp p e s mid args below meth c hC H locs cells slots ls hW hS hL h1 h2)
theorem x_icmp_ge {x y : Int32} {off : Int} {tgt : Nat} (hd : decode M.2.1 pc = .ok (.if_icmp .ge off, 3)) (ht : (pc : Int) + off = (tgt : Int)) {n : Nat} (hn : pc + 3 = n) (kt : y ≤ x → WW l G M tgt L st m bc bs Q) (kf : ¬ y ≤ x → WW l G M n L st m bc bs Q) : WW l G M pc L (vI y :: vI x :: st) m bc bs Q := by
  subst hn
  intro p e s mid args below meth c hC H locs cells slots ls hW hS hL h1 h2
  exact lv_icmp_ge hC.1 hC.2.1 hd ht (fun hp => kt hp p e s mid args below meth c hC H locs cells slots ls hW hS hL h1 h2) (fun hp => kf hp p e s mid args below meth c hC H locs cells slots ls hW hS hL h1 h2)
theorem x_if_gt {x : Int32} {off : Int} {tgt : Nat} (hd : decode M.2.1 pc = .ok (.ifCond .gt off, 3)) (ht : (pc : Int) + off = (tgt : Int)) {n : Nat} (hn : pc + 3 = n) (kt : 0 < x → WW l G M tgt L st m bc bs Q) (kf : ¬ 0 < x → WW l G M n L st m bc bs Q) : WW l G M pc L (vI x :: st) m bc bs Q := by
  subst hn
  intro p e s mid args below meth c hC H locs cells slots ls hW hS hL h1 h2
  exact lv_if_gt hC.1 hC.2.1 hd ht (fun hp => kt hp p e s mid args below meth c hC H locs cells slots ls hW hS hL h1 h2) (fun hp => kf hp p e s mid args below meth c hC H locs cells slots ls hW hS hL h1 h2)
theorem x_icmp_gt {x y : Int32} {off : Int} {tgt : Nat} (hd : decode M.2.1 pc = .ok (.if_icmp .gt off, 3)) (ht : (pc : Int) + off = (tgt : Int)) {n : Nat} (hn : pc + 3 = n) (kt : y < x → WW l G M tgt L st m bc bs Q) (kf : ¬ y < x → WW l G M n L st m bc bs Q) : WW l G M pc L (vI y :: vI x :: st) m bc bs Q := by
  subst hn
  intro p e s mid args below meth c hC H locs cells slots ls hW hS hL h1 h2
  exact lv_icmp_gt hC.1 hC.2.1 hd ht (fun hp => kt hp p e s mid args below meth c hC H locs cells slots ls hW hS hL h1 h2) (fun hp => kf hp p e s mid args below meth c hC H locs cells slots ls hW hS hL h1 h2)
theorem x_if_le {x : Int32} {off : Int} {tgt : Nat} (hd : decode M.2.1 pc = .ok (.ifCond .le off, 3)) (ht : (pc : Int) + off = (tgt : Int)) {n : Nat} (hn : pc + 3 = n) (kt : x ≤ 0 → WW l G M tgt L st m bc bs Q) (kf : ¬ x ≤ 0 → WW l G M n L st m bc bs Q) : WW l G M pc L (vI x :: st) m bc bs Q := by
  subst hn
  intro p e s mid args below meth c hC H locs cells slots ls hW hS hL h1 h2
  exact lv_if_le hC.1 hC.2.1 hd ht (fun hp => kt hp p e s mid args below meth c hC H locs cells slots ls hW hS hL h1 h2) (fun hp => kf hp p e s mid args below meth c hC H locs cells slots ls hW hS hL h1 h2)
theorem x_icmp_le {x y : Int32} {off : Int} {tgt : Nat} (hd : decode M.2.1 pc = .ok (.if_icmp .le off, 3)) (ht : (pc : Int) + off = (tgt : Int)) {n : Nat} (hn : pc + 3 = n) (kt : x ≤ y → WW l G M tgt L st m bc bs Q) (kf : ¬ x ≤ y → WW l G M n L st m bc bs Q) : WW l G M pc L (vI y :: vI x :: st) m bc bs Q := by
  subst hn
  intro p e s mid args below meth c hC H locs cells slots ls hW hS hL h1 h2
  exact lv_icmp_le hC.1 hC.2.1 hd ht (fun hp => kt hp p e s mid args below meth c hC H locs cells slots ls hW hS hL h1 h2) (fun hp => kf hp p e s mid args below meth c hC H locs cells slots ls hW hS hL h1 h2)
theorem x_weak {b : List Bool} {L' : List (Option XV)} (hb : wkL b L = L') (k : WW l G M pc L' st m bc bs Q) : WW l G M pc L st m bc bs Q := by
  subst hb
  intro p e s mid args below meth c hC H locs cells slots ls hW hS hL h1 h2
  exact k p e s mid args below meth c hC H locs cells slots ls hW hS ⟨hL.1, hL.2.1, fun j w hw => hL.2.2 j w (wkL_at b L j w hw)⟩ h1 h2
theorem x_goto {off : Int} {tgt : Nat} (hd : decode M.2.1 pc = .ok (.goto off, 3)) (ht : (pc : Int) + off = (tgt : Int)) (k : WW l G M tgt L st m bc bs Q) : WW l G M pc L st m bc bs Q := by
  intro p e s mid args below meth c hC H locs cells slots ls hW hS hL h1 h2
  exact lv_goto hC.1 hC.2.1 hd ht (k p e s mid args below meth c hC H locs cells slots ls hW hS hL h1 h2)
theorem x_ifnull {o : Option Nat} {off : Int} {tgt : Nat} (hd : decode M.2.1 pc = .ok (.ifnull off, 3)) (ht : (pc : Int) + off = (tgt : Int)) {n : Nat} (hn : pc + 3 = n) (kt : o = none → WW l G M tgt L st m bc bs Q) (kf : ∀ a, o = some a → WW l G M n L st m bc bs Q) : WW l G M pc L (vR o :: st) m bc bs Q := by
  subst hn
  intro p e s mid args below meth c hC H locs cells slots ls hW hS hL h1 h2
  cases o with
  | none => exact lv_ifnullN hC.1 hC.2.1 hd ht (kt rfl p e s mid args below meth c hC H locs cells slots ls hW hS hL h1 h2)
  | some a => exact lv_ifnull hC.1 hC.2.1 hd (kf a rfl p e s mid args below meth c hC H locs cells slots ls hW hS hL h1 h2)
theorem x_ifnonnull {o : Option Nat} {off : Int} {tgt : Nat} (hd : decode M.2.1 pc = .ok (.ifnonnull off, 3)) (ht : (pc : Int) + off = (tgt : Int)) {n : Nat} (hn : pc + 3 = n) (kt : ∀ a, o = some a → WW l G M tgt L st m bc bs Q) (kf : o = none → WW l G M n L st m bc bs Q) : WW l G M pc L (vR o :: st) m bc bs Q := by
  subst hn
  intro p e s mid args below meth c hC H locs cells slots ls hW hS hL h1 h2
  cases o with
  | none => exact lv_ifnonnullN hC.1 hC.2.1 hd (kf rfl p e s mid args below meth c hC H locs cells slots ls hW hS hL h1 h2)
  | some a => exact lv_ifnonnull hC.1 hC.2.1 hd ht (kt a rfl p e s mid args below meth c hC H locs cells slots ls hW hS hL h1 h2)
theorem x_tableOut {dflt lo hi : Int} {offs : Array Int} {len : Nat} {x : Int32} {tgt : Nat} (hd : decode M.2.1 pc = .ok (.tableswitch dflt lo hi offs, len)) (h : x.toInt < lo ∨ hi < x.toInt) (ht : (pc : Int) + dflt = (tgt : Int)) (k : WW l G M tgt L st m bc bs Q) : WW l G M pc L (vI x :: st) m bc bs Q := by
  intro p e s mid args below meth c hC H locs cells slots ls hW hS hL h1 h2
  exact lv_tableOut hC.1 hC.2.1 hd h ht (k p e s mid args below meth c hC H locs cells slots ls hW hS hL h1 h2)
theorem x_tableIn {dflt lo hi : Int} {offs : Array Int} {len : Nat} {x : Int32} {off : Int} {tgt : Nat} (hd : decode M.2.1 pc = .ok (.tableswitch dflt lo hi offs, len)) (g1 : ¬ x.toInt < lo) (g2 : ¬ hi < x.toInt) (ho : offs[(x.toInt - lo).toNat]? = some off) (ht : (pc : Int) + off = (tgt : Int)) (k : WW l G M tgt L st m bc bs Q) : WW l G M pc L (vI x :: st) m bc bs Q := by
  intro p e s mid args below meth c hC H locs cells slots ls hW hS hL h1 h2
  exact lv_tableIn hC.1 hC.2.1 hd g1 g2 ho ht (k p e s mid args below meth c hC H locs cells slots ls hW hS hL h1 h2)
end XRows
end
section
section XMem
variable {l : Launch} {G : xG} {M : xMt} {pc : Nat} {L : List (Option XV)} {st : List XV} {m : XM} {bc bs : Nat} {Q : XR → XM → Prop}
/-- a field that the method links at idx: field k of class ci, of kind t -/
def xFd (own : String) (idx ci k t : Nat) : Prop := ∃ (C : String) (T : u_T) (N : Nat), vwCl[ci]? = some (C, T, N) ∧ (∀ w ∈ u_ws C T N, w ∈ WS) ∧ k < N ∧ Cond.fieldLink own idx (T k).1 (T k).2.1 (T k).2.2.1 ∈ WS ∧ (xF ci)[k]? = some t
theorem xw_get {idx ci k t a n : Nat} {p : Program} {e : Env} {s : State} {mid : MethodId} {args : Array Value} {below : List Frame} {meth : Method} {c : Code} {H : Heap} {locs : List Loc} {cells slots : Nat} {ls : Array Slot} {QQ : State → Prop} {rest : List Value} (hC : xC l G M p s mid args meth c) (hW : Wd G m H) (hd : decode M.2.1 pc = .ok (.getfield idx, 3)) (hf : xFd M.1.cls idx ci k t) (hk : m.1 a = some (oB ci)) (hn : pc + 3 = n)
    (kk : W p l e M.2.2.2.2.1 s mid args below meth c H locs cells slots QQ (F0 mid n ls (fval m a k t :: rest))) : W p l e M.2.2.2.2.1 s mid args below meth c H locs cells slots QQ (F0 mid pc ls (.ref a :: rest)) := by
  subst hn
  obtain ⟨C, T, N, f1, f2, f3, f4, f5⟩ := hf
  have hP : va_P G.1 vwCl [(a, .inr (ci, fvals m a 0 (xF ci)))] H := by
    intro j q hq
    cases j with
    | zero => cases hq; exact (hW a _ hk).1
    | succ j => cases hq
  exact va_get hC.1 hC.2.1 hC.2.2.2.2.1 f2 hC.2.2.2.1 hC.2.2.2.2.2.2.2.2.2.1.1 hP 0 rfl f1 k f3 (hC.2.2.2.2.1 _ f4) (fun _ h => h) (by rw [fvals_get, f5]; simp) hd kk
theorem x_getI {idx ci k a : Nat} {o : Option Nat} (ho : o = some a) (hd : decode M.2.1 pc = .ok (.getfield idx, 3)) (hf : xFd M.1.cls idx ci k 0) (hk : m.1 a = some (oB ci)) {n : Nat} (hn : pc + 3 = n) (kk : WW l G M n L (vI (m.2.1 a k) :: st) m bc bs Q) : WW l G M pc L (vR o :: st) m bc bs Q := by
  subst ho
  intro p e s mid args below meth c hC H locs cells slots ls hW hS hL h1 h2
  exact xw_get hC hW hd hf hk hn (kk p e s mid args below meth c hC H locs cells slots ls hW hS hL h1 h2)
theorem x_getL {idx ci k a : Nat} {o : Option Nat} (ho : o = some a) (hd : decode M.2.1 pc = .ok (.getfield idx, 3)) (hf : xFd M.1.cls idx ci k 1) (hk : m.1 a = some (oB ci)) {n : Nat} (hn : pc + 3 = n) (kk : WW l G M n L (vL (m.2.2.1 a k) :: st) m bc bs Q) : WW l G M pc L (vR o :: st) m bc bs Q := by
  subst ho
  intro p e s mid args below meth c hC H locs cells slots ls hW hS hL h1 h2
  exact xw_get hC hW hd hf hk hn (kk p e s mid args below meth c hC H locs cells slots ls hW hS hL h1 h2)
theorem x_getR {idx ci k a : Nat} {o : Option Nat} (ho : o = some a) (hd : decode M.2.1 pc = .ok (.getfield idx, 3)) (hf : xFd M.1.cls idx ci k 2) (hk : m.1 a = some (oB ci)) {n : Nat} (hn : pc + 3 = n) (kk : WW l G M n L (vR (m.2.2.2 a k) :: st) m bc bs Q) : WW l G M pc L (vR o :: st) m bc bs Q := by
  subst ho
  intro p e s mid args below meth c hC H locs cells slots ls hW hS hL h1 h2
  exact xw_get hC hW hd hf hk hn (kk p e s mid args below meth c hC H locs cells slots ls hW hS hL h1 h2)
/-- .. and may write: its type, whether it is final -/
def xFp (own nam : String) (idx ci k t : Nat) (ty : FieldType) (fin : Bool) : Prop := ∃ (C : String) (T : u_T) (N : Nat) (ty0 : Nat → FieldType), vwCl[ci]? = some (C, T, N) ∧ (∀ w ∈ u_ws C T N, w ∈ WS) ∧ k < N ∧ Cond.fieldLink own idx (T k).1 (T k).2.1 (T k).2.2.1 ∈ WS ∧ (xF ci)[k]? = some t ∧
  (∀ k, k < N → parseFieldDescriptor (T k).2.2.1 = some (ty0 k)) ∧ (∀ a, a < N → ∀ b, b < N → a ≠ b → (T a).2.1 ≠ (T b).2.1) ∧ (T k).2.2.2 = fin ∧ parseFieldDescriptor (T k).2.2.1 = some ty ∧ (fin = true → nam = "<init>" ∧ (T k).1 = own)
theorem xw_put {idx ci k t a n : Nat} {ty : FieldType} {fin : Bool} {m' : XM} {v : Value} {p : Program} {e : Env} {s : State} {mid : MethodId} {args : Array Value} {below : List Frame} {meth : Method} {c : Code} {H : Heap} {locs : List Loc} {cells slots : Nat} {ls : Array Slot} {QQ : State → Prop} {rest : List Value} (hC : xC l G M p s mid args meth c) (hW : Wd G m H) (hS : va_S (xA G) s.heap H locs) (hd : decode M.2.1 pc = .ok (.putfield idx, 3)) (hf : xFp M.1.cls M.1.name idx ci k t ty fin) (hk : m.1 a = some (oB ci)) (hn : pc + 3 = n)
    (hnr : narrow ty v = v) (hfit : fits ty v = true) (g0 : m'.1 = m.1) (g1 : ∀ b j, b ≠ a → m'.2.1 b j = m.2.1 b j) (g2 : ∀ b j, b ≠ a → m'.2.2.1 b j = m.2.2.1 b j) (g3 : ∀ b j, b ≠ a → m'.2.2.2 b j = m.2.2.2 b j) (gv : fval m' a k t = v) (go : ∀ i t', i ≠ k → fval m' a i t' = fval m a i t')
    (kk : ∀ (H1 : Heap) (locs1 : List Loc), Wd G m' H1 → va_S (xA G) s.heap H1 locs1 → W p l e M.2.2.2.2.1 s mid args below meth c H1 locs1 cells slots QQ (F0 mid n ls rest)) : W p l e M.2.2.2.2.1 s mid args below meth c H locs cells slots QQ (F0 mid pc ls (v :: .ref a :: rest)) := by
  subst hn
  obtain ⟨C, T, N, ty0, f1, f2, f3, f4, f5, f6, f7, f8, f9, f10⟩ := hf
  have hts := hC.2.2.2.2.1
  have hown := hC.2.2.2.1
  have hK := hC.2.2.2.2.2.2.2.2.2.1.1
  have hap := va_apart (own := M.1.cls) hts f2 ty0 f6 f7 hK f1
  obtain ⟨r, r1, cell, q1, q2, q3, q4⟩ := (hW a _ hk).1
  have hr : r = (C, T, N) := Option.some.inj (r1.symm.trans f1)
  subst hr
  obtain ⟨hSl, hfc, kC, hkC, hkind⟩ := hK.1 ci _ f1
  obtain ⟨cf, kf, fi, f, hi, hsl⟩ := hSl k f3
  have hlay := hts _ (f2 _ (u_in_lay f3))
  unfold u_lay at hlay
  have hst := (u_facts hfc hkC (u_lays hts f2 f3) hi).1
  have fin' : ∀ H' : Heap, H'[a]? = some (cell.setSlot f.slot v) → H'.size = H.size → (∀ q, q ≠ a → H'[q]? = H[q]?) → W p l e M.2.2.2.2.1 s mid args below meth c H' (locs ++ [⟨a, f.slot⟩]) cells slots QQ (F0 mid (pc + 3) ls rest) := by
    intro H' e1 e2 e3
    rw [hsl] at e1 ⊢
    refine kk H' _ (hW.put (a := a) g0 g1 g2 g3 (fun k' hk' => ?_) e3) (hS.put e2 e3 (hW a _ hk).2)
    cases Option.some.inj (hk.symm.trans hk')
    show va_at G.1 vwCl (a, .inr (ci, fvals m' a 0 (xF ci))) H'
    rw [← fvals_put f5 gv go]
    exact ⟨_, f1, t_OB.to (V := updV (vp_V (fvals m a 0 (xF ci))) k v) ⟨_, e1, q2, q3, t_set q4 hap f3 v⟩ (fun j _ => vp_updV_set (by rw [fvals_len]; exact (List.getElem?_eq_some_iff.mp f5).1) v j)⟩
  cases fin with
  | false =>
    rw [if_neg (by rw [f8]; decide)] at hlay
    have h6 := u_store hfc hkC hkind hlay hi f9 hnr hfit
    exact W.putK hC.1 hC.2.1 (f := f) ⟨hown, hts _ f4, ⟨_, _, _, hi⟩, hst⟩ (by rw [q2]; exact h6) q1 q3 (by rw [hsl]; exact k2_hasslot (q4 k f3)) rfl rfl hd fin'
  | true =>
    rw [if_pos f8] at hlay
    obtain ⟨n1, n2⟩ := f10 rfl
    have hcf : mid.cls = cf := by
      obtain ⟨_, _, c', _, _, _, -, -, hf', -, -, -, hown2, -⟩ := Cond.laysFinal_spec hlay
      have e1 : c' = cf := by have := hi.symm.trans hf'; simp at this; exact this.1.symm
      rw [n2] at hown2
      rw [← e1]; exact Option.some.inj (hown.symm.trans hown2)
    have h6 := u_fits hfc hkC hkind (Or.inr hlay) hi f9 hnr hfit
    exact W.putFinK hC.1 hC.2.1 hown (hts _ f4) hi hst hcf (hC.2.2.2.2.2.2.2.1.trans n1) (by rw [q2]; exact h6) q1 q3 (by rw [hsl]; exact k2_hasslot (q4 k f3)) rfl rfl hd fin'
theorem x_putI {idx ci k a : Nat} {ty : FieldType} {fin : Bool} {v : Int32} {o : Option Nat} (ho : o = some a) (hd : decode M.2.1 pc = .ok (.putfield idx, 3)) (hf : xFp M.1.cls M.1.name idx ci k 0 ty fin) (hk : m.1 a = some (oB ci)) (hnr : narrow ty (.int v) = .int v) (hfit : fits ty (.int v) = true) {n : Nat} (hn : pc + 3 = n) (kk : WW l G M n L st (mI m a k v) bc bs Q) : WW l G M pc L (vI v :: vR o :: st) m bc bs Q := by
  subst ho
  intro p e s mid args below meth c hC H locs cells slots ls hW hS hL h1 h2
  refine xw_put (m' := mI m a k v) hC hW hS hd hf hk hn hnr hfit rfl (fun b j h => by simp [mI, h]) (fun b j h => rfl) (fun b j h => rfl) (by simp [mI, fval, toV]) (fun i t' h => ?_) fun H1 locs1 w1 w2 => kk p e s mid args below meth c hC H1 locs1 cells slots ls w1 w2 hL h1 h2
  match t' with
  | 0 => simp [mI, fval, h]
  | 1 => rfl
  | n + 2 => rfl
theorem x_putL {idx ci k a : Nat} {ty : FieldType} {fin : Bool} {v : Int64} {o : Option Nat} (ho : o = some a) (hd : decode M.2.1 pc = .ok (.putfield idx, 3)) (hf : xFp M.1.cls M.1.name idx ci k 1 ty fin) (hk : m.1 a = some (oB ci)) (hnr : narrow ty (.long v) = .long v) (hfit : fits ty (.long v) = true) {n : Nat} (hn : pc + 3 = n) (kk : WW l G M n L st (mL m a k v) bc bs Q) : WW l G M pc L (vL v :: vR o :: st) m bc bs Q := by
  subst ho
  intro p e s mid args below meth c hC H locs cells slots ls hW hS hL h1 h2
  refine xw_put (m' := mL m a k v) hC hW hS hd hf hk hn hnr hfit rfl (fun b j h => rfl) (fun b j h => by simp [mL, h]) (fun b j h => rfl) (by simp [mL, fval, toV]) (fun i t' h => ?_) fun H1 locs1 w1 w2 => kk p e s mid args below meth c hC H1 locs1 cells slots ls w1 w2 hL h1 h2
  match t' with
  | 0 => rfl
  | 1 => simp [mL, fval, h]
  | n + 2 => rfl
theorem x_putR {idx ci k a : Nat} {ty : FieldType} {fin : Bool} {v : Option Nat} {o : Option Nat} (ho : o = some a) (hd : decode M.2.1 pc = .ok (.putfield idx, 3)) (hf : xFp M.1.cls M.1.name idx ci k 2 ty fin) (hk : m.1 a = some (oB ci)) (hnr : ∀ o, narrow ty (va_rf o) = va_rf o) (hfit : ∀ o, fits ty (va_rf o) = true) {n : Nat} (hn : pc + 3 = n) (kk : WW l G M n L st (mR m a k v) bc bs Q) : WW l G M pc L (vR v :: vR o :: st) m bc bs Q := by
  subst ho
  intro p e s mid args below meth c hC H locs cells slots ls hW hS hL h1 h2
  refine xw_put (m' := mR m a k v) hC hW hS hd hf hk hn (hnr v) (hfit v) rfl (fun b j h => rfl) (fun b j h => rfl) (fun b j h => by simp [mR, h]) (by simp [mR, fval, toV]) (fun i t' h => ?_) fun H1 locs1 w1 w2 => kk p e s mid args below meth c hC H1 locs1 cells slots ls w1 w2 hL h1 h2
  match t' with
  | 0 => rfl
  | 1 => rfl
  | n + 2 => simp [mR, fval, h]
/-! arrays -/
theorem xP1 {a : Nat} {k : XKd} {H : Heap} (hW : Wd G m H) (hk : m.1 a = some k) : va_P G.1 vwCl [(a, xE G m a k)] H := by
  intro j q hq
  cases j with
  | zero => cases hq; exact (hW a _ hk).1
  | succ j => cases hq
theorem x_iald {a len : Nat} {i : Int32} {o : Option Nat} (ho : o = some a) (hd : decode M.2.1 pc = .ok (.iaload, 1)) (hk : m.1 a = some (aR 0 len)) (hin : vp_in i len) {n : Nat} (hn : pc + 1 = n) (kk : WW l G M n L (vI (m.2.1 a i.toNatClampNeg) :: st) m bc bs Q) : WW l G M pc L (vI i :: vR o :: st) m bc bs Q := by
  subst ho
  subst hn
  intro p e s mid args below meth c hC H locs cells slots ls hW hS hL h1 h2
  exact va_iald hC.1 hC.2.1 hC.2.2.2.2.2.2.2.2.2.1.1 (xP1 hW hk) 0 0 rfl rfl hin hd (kk p e s mid args below meth c hC H locs cells slots ls hW hS hL h1 h2)
theorem x_zald {a len : Nat} {i : Int32} {o : Option Nat} (ho : o = some a) (hd : decode M.2.1 pc = .ok (.baload, 1)) (hk : m.1 a = some (aR 1 len)) (hin : vp_in i len) {n : Nat} (hn : pc + 1 = n) (kk : WW l G M n L (vI (m.2.1 a i.toNatClampNeg) :: st) m bc bs Q) : WW l G M pc L (vI i :: vR o :: st) m bc bs Q := by
  subst ho
  subst hn
  intro p e s mid args below meth c hC H locs cells slots ls hW hS hL h1 h2
  exact va_zald hC.1 hC.2.1 hC.2.2.2.2.2.2.2.2.2.1.1 (xP1 hW hk) 0 1 rfl rfl hin hd (kk p e s mid args below meth c hC H locs cells slots ls hW hS hL h1 h2)
theorem x_lald {a len : Nat} {i : Int32} {o : Option Nat} (ho : o = some a) (hd : decode M.2.1 pc = .ok (.laload, 1)) (hk : m.1 a = some (aR 2 len)) (hin : vp_in i len) {n : Nat} (hn : pc + 1 = n) (kk : WW l G M n L (vL (m.2.2.1 a i.toNatClampNeg) :: st) m bc bs Q) : WW l G M pc L (vI i :: vR o :: st) m bc bs Q := by
  subst ho
  subst hn
  intro p e s mid args below meth c hC H locs cells slots ls hW hS hL h1 h2
  exact va_lald hC.1 hC.2.1 hC.2.2.2.2.2.2.2.2.2.1.1 (xP1 hW hk) 0 2 rfl rfl hin hd (kk p e s mid args below meth c hC H locs cells slots ls hW hS hL h1 h2)
theorem x_aald {a len t : Nat} {i : Int32} {o : Option Nat} (ho : o = some a) (hd : decode M.2.1 pc = .ok (.aaload, 1)) (hk : m.1 a = some (aR t len)) (ht : t = 3 ∨ t = 4) (hin : vp_in i len) {n : Nat} (hn : pc + 1 = n) (kk : WW l G M n L (vR (m.2.2.2 a i.toNatClampNeg) :: st) m bc bs Q) : WW l G M pc L (vI i :: vR o :: st) m bc bs Q := by
  subst ho
  subst hn
  intro p e s mid args below meth c hC H locs cells slots ls hW hS hL h1 h2
  rcases ht with rfl | rfl
  · exact va_aldq hC.1 hC.2.1 hC.2.2.2.2.2.2.2.2.2.1.1 (xP1 hW hk) 0 3 rfl rfl hin hd (kk p e s mid args below meth c hC H locs cells slots ls hW hS hL h1 h2)
  · exact va_aldq hC.1 hC.2.1 hC.2.2.2.2.2.2.2.2.2.1.1 (xP1 hW hk) 0 4 rfl rfl hin hd (kk p e s mid args below meth c hC H locs cells slots ls hW hS hL h1 h2)
theorem x_alen {a len t : Nat} {o : Option Nat} (ho : o = some a) (hd : decode M.2.1 pc = .ok (.arraylength, 1)) (hk : m.1 a = some (aR t len)) (ht : t < 5) {n : Nat} (hn : pc + 1 = n) (kk : WW l G M n L (vI (Int32.ofNat len) :: st) m bc bs Q) : WW l G M pc L (vR o :: st) m bc bs Q := by
  subst ho
  subst hn
  intro p e s mid args below meth c hC H locs cells slots ls hW hS hL h1 h2
  match t, ht with
  | 0, _ => exact va_alen hC.1 hC.2.1 hC.2.2.2.2.2.2.2.2.2.1.1 (xP1 hW hk) 0 0 rfl rfl rfl hd (kk p e s mid args below meth c hC H locs cells slots ls hW hS hL h1 h2)
  | 1, _ => exact va_alen hC.1 hC.2.1 hC.2.2.2.2.2.2.2.2.2.1.1 (xP1 hW hk) 0 1 rfl rfl rfl hd (kk p e s mid args below meth c hC H locs cells slots ls hW hS hL h1 h2)
  | 2, _ => exact va_alen hC.1 hC.2.1 hC.2.2.2.2.2.2.2.2.2.1.1 (xP1 hW hk) 0 2 rfl rfl rfl hd (kk p e s mid args below meth c hC H locs cells slots ls hW hS hL h1 h2)
  | 3, _ => exact va_alen hC.1 hC.2.1 hC.2.2.2.2.2.2.2.2.2.1.1 (xP1 hW hk) 0 3 rfl rfl rfl hd (kk p e s mid args below meth c hC H locs cells slots ls hW hS hL h1 h2)
  | 4, _ => exact va_alen hC.1 hC.2.1 hC.2.2.2.2.2.2.2.2.2.1.1 (xP1 hW hk) 0 4 rfl rfl rfl hd (kk p e s mid args below meth c hC H locs cells slots ls hW hS hL h1 h2)
/-- the law's script -/
theorem x_sald {i : Int32} {o : Option Nat} (ho : o = some G.2.2.2.1) (hd : decode M.2.1 pc = .ok (.iaload, 1)) (hin : vp_in i G.2.2.2.2.1) {n : Nat} (hn : pc + 1 = n) (kk : WW l G M n L (vI (G.2.2.2.2.2 i.toNatClampNeg) :: st) m bc bs Q) : WW l G M pc L (vI i :: vR o :: st) m bc bs Q := by
  subst ho
  subst hn
  intro p e s mid args below meth c hC H locs cells slots ls hW hS hL h1 h2
  obtain ⟨-, -, -, hb1, hX, hb2, -⟩ := hC.2.2.2.2.2.2.2.2.2.1
  exact va_sld hC.1 hC.2.1 hX (Nat.lt_of_lt_of_le hb2 hb1) (Nat.not_le.mpr hb2) hS hin hd (kk p e s mid args below meth c hC H locs cells slots ls hW hS hL h1 h2)
theorem x_slen {o : Option Nat} (ho : o = some G.2.2.2.1) (hd : decode M.2.1 pc = .ok (.arraylength, 1)) {n : Nat} (hn : pc + 1 = n) (kk : WW l G M n L (vI (Int32.ofNat G.2.2.2.2.1) :: st) m bc bs Q) : WW l G M pc L (vR o :: st) m bc bs Q := by
  subst ho
  subst hn
  intro p e s mid args below meth c hC H locs cells slots ls hW hS hL h1 h2
  obtain ⟨-, -, -, hb1, hX, hb2, -⟩ := hC.2.2.2.2.2.2.2.2.2.1
  exact va_slen hC.1 hC.2.1 hX (Nat.lt_of_lt_of_le hb2 hb1) (Nat.not_le.mpr hb2) hS hd (kk p e s mid args below meth c hC H locs cells slots ls hW hS hL h1 h2)
theorem x_iast {a len : Nat} {i x : Int32} {o : Option Nat} (ho : o = some a) (hd : decode M.2.1 pc = .ok (.iastore, 1)) (hk : m.1 a = some (aR 0 len)) (hin : vp_in i len) {n : Nat} (hn : pc + 1 = n) (kk : WW l G M n L st (mI m a i.toNatClampNeg x) bc bs Q) : WW l G M pc L (vI x :: vI i :: vR o :: st) m bc bs Q := by
  subst ho
  subst hn
  intro p e s mid args below meth c hC H locs cells slots ls hW hS hL h1 h2
  have hK := hC.2.2.2.2.2.2.2.2.2.1.1
  refine W.iast hC.1 hC.2.1 (hW a _ hk).1 ((hK.2 0 _ rfl).1 len (fun j => .int (m.2.1 a j))) (fun q => by cases q) (by show ¬ (i < 0 ∨ (arrV _ _ _).slots.size ≤ _); rw [arrV_size]; exact hin) rfl rfl hd fun H1 e1 z oq => ?_
  refine kk p e s mid args below meth c hC H1 _ cells slots ls (hW.put (a := a) rfl (fun b j h => by simp [mI, h]) (fun b j h => rfl) (fun b j h => rfl) (fun k' hk' => ?_) oq) (hS.put z oq (hW a _ hk).2) hL h1 h2
  cases Option.some.inj (hk.symm.trans hk')
  show H1[a]? = some (vp_cell _ _)
  rw [e1]
  show some (Cell.setSlot (vp_cell (G.2.1 0) (len, .inl (m.2.1 a))) _ _) = some (vp_cell (G.2.1 0) (len, .inl ((mI m a i.toNatClampNeg x).2.1 a)))
  rw [vp_cell_i, vp_cell_i, arrV_store]
  congr 2
  funext q
  by_cases hq : q = i.toNatClampNeg
  · subst hq
    simp [updV, mI]
  · simp [updV, mI, hq]
theorem x_zast {a len : Nat} {i x : Int32} {o : Option Nat} (ho : o = some a) (hd : decode M.2.1 pc = .ok (.bastore, 1)) (hk : m.1 a = some (aR 1 len)) (hin : vp_in i len) (hx : narrow .boolean (.int x) = .int x) {n : Nat} (hn : pc + 1 = n) (kk : WW l G M n L st (mI m a i.toNatClampNeg x) bc bs Q) : WW l G M pc L (vI x :: vI i :: vR o :: st) m bc bs Q := by
  subst ho
  subst hn
  intro p e s mid args below meth c hC H locs cells slots ls hW hS hL h1 h2
  have hK := hC.2.2.2.2.2.2.2.2.2.1.1
  refine W.zast hC.1 hC.2.1 (hW a _ hk).1 ((hK.2 1 _ rfl).1 len (fun j => .int (m.2.1 a j))) (fun q => by cases q) (by show ¬ (i < 0 ∨ (arrV _ _ _).slots.size ≤ _); rw [arrV_size]; exact hin) rfl rfl hd fun H1 e1 z oq => ?_
  refine kk p e s mid args below meth c hC H1 _ cells slots ls (hW.put (a := a) rfl (fun b j h => by simp [mI, h]) (fun b j h => rfl) (fun b j h => rfl) (fun k' hk' => ?_) oq) (hS.put z oq (hW a _ hk).2) hL h1 h2
  cases Option.some.inj (hk.symm.trans hk')
  show H1[a]? = some (vp_cell _ _)
  rw [e1]
  show some (Cell.setSlot (vp_cell (G.2.1 1) (len, .inl (m.2.1 a))) _ _) = some (vp_cell (G.2.1 1) (len, .inl ((mI m a i.toNatClampNeg x).2.1 a)))
  rw [vp_cell_i, vp_cell_i, arrV_store]
  congr 2
  funext q
  by_cases hq : q = i.toNatClampNeg
  · subst hq
    simp [updV, mI, hx]
  · simp [updV, mI, hq]
theorem x_last {a len : Nat} {i : Int32} {x : Int64} {o : Option Nat} (ho : o = some a) (hd : decode M.2.1 pc = .ok (.lastore, 1)) (hk : m.1 a = some (aR 2 len)) (hin : vp_in i len) {n : Nat} (hn : pc + 1 = n) (kk : WW l G M n L st (mL m a i.toNatClampNeg x) bc bs Q) : WW l G M pc L (vL x :: vI i :: vR o :: st) m bc bs Q := by
  subst ho
  subst hn
  intro p e s mid args below meth c hC H locs cells slots ls hW hS hL h1 h2
  have hK := hC.2.2.2.2.2.2.2.2.2.1.1
  refine W.last hC.1 hC.2.1 (hW a _ hk).1 ((hK.2 2 _ rfl).1 len (fun j => .long (m.2.2.1 a j))) (fun q => by cases q) (by show ¬ (i < 0 ∨ (arrV _ _ _).slots.size ≤ _); rw [arrV_size]; exact hin) rfl rfl hd fun H1 e1 z oq => ?_
  refine kk p e s mid args below meth c hC H1 _ cells slots ls (hW.put (a := a) rfl (fun b j h => rfl) (fun b j h => by simp [mL, h]) (fun b j h => rfl) (fun k' hk' => ?_) oq) (hS.put z oq (hW a _ hk).2) hL h1 h2
  cases Option.some.inj (hk.symm.trans hk')
  show H1[a]? = some (vp_cell _ _)
  rw [e1]
  show some (Cell.setSlot (vp_cell (G.2.1 2) (len, .inr (.inl (m.2.2.1 a)))) _ _) = some (vp_cell (G.2.1 2) (len, .inr (.inl ((mL m a i.toNatClampNeg x).2.2.1 a))))
  rw [vp_cell_l, vp_cell_l, arrV_store]
  congr 2
  funext q
  by_cases hq : q = i.toNatClampNeg
  · subst hq
    simp [updV, mL]
  · simp [updV, mL, hq]
/-- into an array of Items (t = 3, class 1) or of Pages (t = 4, class 3) -/
theorem x_aast {a len t ci v : Nat} {i : Int32} {o : Option Nat} (ho : o = some a) {ov : Option Nat} (hov : ov = some v) (hd : decode M.2.1 pc = .ok (.aastore, 1)) (hk : m.1 a = some (aR t len)) (ht : (t = 3 ∧ ci = 1) ∨ (t = 4 ∧ ci = 3)) (hv : m.1 v = some (oB ci)) (hin : vp_in i len) {n : Nat} (hn : pc + 1 = n) (kk : WW l G M n L st (mR m a i.toNatClampNeg (some v)) bc bs Q) : WW l G M pc L (vR ov :: vI i :: vR o :: st) m bc bs Q := by
  subst ho; subst hov
  subst hn
  intro p e s mid args below meth c hC H locs cells slots ls hW hS hL h1 h2
  have hK := hC.2.2.2.2.2.2.2.2.2.1.1
  have hlt : i.toNatClampNeg < len := Nat.not_le.mp fun q => hin (Or.inr q)
  have h0 : ¬ i < 0 := fun q => hin (Or.inl q)
  have main : ∀ (r : vw_C) (t0 : Nat), xcont m a t = .inr (.inr (.inr (.inr (m.2.2.2 a)))) → (∀ m2 : XM, xcont m2 a t = .inr (.inr (.inr (.inr (m2.2.2.2 a))))) → vwCl[ci]? = some r → (xtys G)[t0]? = some (G.2.1 t, .object r.1) → W p l e M.2.2.2.2.1 s mid args below meth c H locs cells slots (vx_MQ below (xQc G Q) (xXC G Q) args s M.2.2.2.2.1.cells M.2.2.2.2.1.slots (xA G)) (F0 mid pc ls (.ref v :: .int i :: .ref a :: st.map toV)) := by
    intro r t0 hx hx2 hc ht0
    obtain ⟨r', hr', cellV, g1, g2, g3, -⟩ := (hW v _ hv).1
    have hcls := (hK.1 ci r hc).2
    obtain ⟨kA, comp, k1, k2, k3, -⟩ := (hK.2 t0 _ ht0).2
    have hcomp : comp = G.1.1 ci := Option.some.inj (k3.symm.trans hcls.1)
    subst hcomp
    obtain ⟨kC, hkC, -⟩ := hcls.2
    have hat : H[a]? = some (vp_cell (G.2.1 t) (len, xcont m a t)) := (hW a _ hk).1
    rw [hx, vp_cell_q] at hat
    refine W.aast hC.1 hC.2.1 hat (fun q h => by cases h) (fun h => by cases h) k1 k2 rfl hkC ⟨h0, by show _ < (arrV _ _ _).slots.size; rw [arrV_size]; exact hlt⟩ g1 (fun q h => by rw [g3] at h; cases h) (by rw [g2]; exact hkC) (by rw [g2]; exact va_assign hcls) rfl rfl hd fun H1 e1 z oq => ?_
    refine kk p e s mid args below meth c hC H1 _ cells slots ls (hW.put (a := a) rfl (fun b j h => rfl) (fun b j h => rfl) (fun b j h => by simp [mR, h]) (fun k' hk' => ?_) oq) (hS.put z oq (hW a _ hk).2) hL h1 h2
    cases Option.some.inj (hk.symm.trans hk')
    show H1[a]? = some (vp_cell (G.2.1 t) (len, xcont _ a t))
    rw [e1, hx2, vp_cell_q, arrV_store]
    congr 2
    funext q
    by_cases hq : q = i.toNatClampNeg
    · subst hq
      simp [updV, mR, va_rf]
    · simp [updV, mR, hq]
  rcases ht with ⟨rfl, rfl⟩ | ⟨rfl, rfl⟩
  · exact main _ 3 rfl (fun _ => rfl) rfl rfl
  · exact main _ 4 rfl (fun _ => rfl) rfl rfl
theorem x_aastN {a len t : Nat} {i : Int32} {o : Option Nat} (ho : o = some a) (hd : decode M.2.1 pc = .ok (.aastore, 1)) (hk : m.1 a = some (aR t len)) (ht : t = 3 ∨ t = 4) (hin : vp_in i len) {n : Nat} (hn : pc + 1 = n) (kk : WW l G M n L st (mR m a i.toNatClampNeg none) bc bs Q) : WW l G M pc L (vR none :: vI i :: vR o :: st) m bc bs Q := by
  subst ho
  subst hn
  intro p e s mid args below meth c hC H locs cells slots ls hW hS hL h1 h2
  have hK := hC.2.2.2.2.2.2.2.2.2.1.1
  have main : ∀ (C : String) (t0 : Nat), xcont m a t = .inr (.inr (.inr (.inr (m.2.2.2 a)))) → (∀ m2 : XM, xcont m2 a t = .inr (.inr (.inr (.inr (m2.2.2.2 a))))) → (xtys G)[t0]? = some (G.2.1 t, .object C) → W p l e M.2.2.2.2.1 s mid args below meth c H locs cells slots (vx_MQ below (xQc G Q) (xXC G Q) args s M.2.2.2.2.1.cells M.2.2.2.2.1.slots (xA G)) (F0 mid pc ls (.null :: .int i :: .ref a :: st.map toV)) := by
    intro C t0 hx hx2 ht0
    have hat : H[a]? = some (vp_cell (G.2.1 t) (len, xcont m a t)) := (hW a _ hk).1
    rw [hx, vp_cell_q] at hat
    refine va_WaastN (C := C) hC.1 hC.2.1 hat ((hK.2 t0 _ ht0).1 len _) (fun h => by cases h) (by show ¬ (i < 0 ∨ (arrV _ _ _).slots.size ≤ _); rw [arrV_size]; exact hin) rfl rfl hd fun H1 e1 z oq => ?_
    refine kk p e s mid args below meth c hC H1 _ cells slots ls (hW.put (a := a) rfl (fun b j h => rfl) (fun b j h => rfl) (fun b j h => by simp [mR, h]) (fun k' hk' => ?_) oq) (hS.put z oq (hW a _ hk).2) hL h1 h2
    cases Option.some.inj (hk.symm.trans hk')
    show H1[a]? = some (vp_cell (G.2.1 t) (len, xcont _ a t))
    rw [e1, hx2, vp_cell_q, arrV_store]
    congr 2
    funext q
    by_cases hq : q = i.toNatClampNeg
    · subst hq
      simp [updV, mR, va_rf]
    · simp [updV, mR, hq]
  rcases ht with rfl | rfl
  · exact main _ 3 rfl (fun _ => rfl) rfl
  · exact main _ 4 rfl (fun _ => rfl) rfl
end XMem
end
section
section XEnd
variable {l : Launch} {G : xG} {M : xMt} {pc : Nat} {L : List (Option XV)} {st : List XV} {m : XM} {bc bs : Nat} {Q : XR → XM → Prop}
/-! ends -/
theorem x_iret {v : Int32} (hd : decode M.2.1 pc = .ok (.ireturn, 1)) (hr : M.2.2.2.1 = some .int) (k : Q (.inl (some (vI v))) m) : WW l G M pc L [vI v] m bc bs Q := by
  intro p e s mid args below meth c hC H locs cells slots ls hW hS hL h1 h2
  exact vx_ret (W.widen (by omega) (by omega) (W.iret hC.1 hC.2.1 (hC.2.2.2.2.2.2.1.trans hr) (fun t ht _ => ⟨⟨some (vI v), m, rfl, k, by rw [ht]; exact hW⟩, hS.F ht⟩) hS.2.2 hd hC.2.2.2.2.2.1))
theorem x_zret {v : Int32} (hd : decode M.2.1 pc = .ok (.ireturn, 1)) (hr : M.2.2.2.1 = some .boolean) (hv : narrow .boolean (.int v) = .int v) (k : Q (.inl (some (vI v))) m) : WW l G M pc L [vI v] m bc bs Q := by
  intro p e s mid args below meth c hC H locs cells slots ls hW hS hL h1 h2
  exact vx_ret (W.widen (by omega) (by omega) (W.zret hC.1 hC.2.1 (hC.2.2.2.2.2.2.1.trans hr) hv (fun t ht _ => ⟨⟨some (vI v), m, rfl, k, by rw [ht]; exact hW⟩, hS.F ht⟩) hS.2.2 hd hC.2.2.2.2.2.1))
theorem x_lret {v : Int64} (hd : decode M.2.1 pc = .ok (.lreturn, 1)) (hr : M.2.2.2.1 = some .long) (k : Q (.inl (some (vL v))) m) : WW l G M pc L [vL v] m bc bs Q := by
  intro p e s mid args below meth c hC H locs cells slots ls hW hS hL h1 h2
  exact vx_ret (W.widen (by omega) (by omega) (W.lret hC.1 hC.2.1 (hC.2.2.2.2.2.2.1.trans hr) (fun t ht _ => ⟨⟨some (vL v), m, rfl, k, by rw [ht]; exact hW⟩, hS.F ht⟩) hS.2.2 hd hC.2.2.2.2.2.1))
theorem x_aret {v : Option Nat} {rt : FieldType} (hd : decode M.2.1 pc = .ok (.areturn, 1)) (hr : M.2.2.2.1 = some rt) (hrt : (∃ n, rt = .object n) ∨ ∃ t, rt = .array t) (k : Q (.inl (some (vR v))) m) : WW l G M pc L [vR v] m bc bs Q := by
  intro p e s mid args below meth c hC H locs cells slots ls hW hS hL h1 h2
  exact vx_ret (W.widen (by omega) (by omega) (W.aret hC.1 hC.2.1 (hC.2.2.2.2.2.2.1.trans hr) hrt (va_rf_or v) (fun t ht _ => ⟨⟨some (vR v), m, rfl, k, by rw [ht]; exact hW⟩, hS.F ht⟩) hS.2.2 hd hC.2.2.2.2.2.1))
theorem x_vret (hd : decode M.2.1 pc = .ok (.return_, 1)) (hr : M.2.2.2.1 = none) (k : Q (.inl none) m) : WW l G M pc L [] m bc bs Q := by
  intro p e s mid args below meth c hC H locs cells slots ls hW hS hL h1 h2
  exact vx_ret (W.widen (by omega) (by omega) (W.vret hC.1 hC.2.1 (hC.2.2.2.2.2.2.1.trans hr) (fun t ht _ => ⟨⟨none, m, rfl, k, by rw [ht]; exact hW⟩, hS.F ht⟩) hS.2.2 hd hC.2.2.2.2.2.1))
/-- 'new Object's own part of a constructor -/
theorem x_objInit {idx a : Nat} (hd : decode M.2.1 pc = .ok (.invokespecial idx, 3)) (w1 : Cond.methodLink M.1.cls idx Lib.objectInit ∈ WS) (w2 : Cond.instanceMethod Lib.objectInit ∈ WS) (w3 : Cond.code Lib.objectInit ⟨#[0xb1]⟩ 1 none ∈ WS)
    (hf : 1 ≤ M.2.2.2.2.1.frames) (hl : 12 ≤ M.2.2.2.2.1.locals) {n : Nat} (hn : pc + 3 = n) (k : WW l G M n L [] m bc bs Q) : WW l G M pc L [vR (some a)] m bc bs Q := by
  subst hn
  intro p e s mid args below meth c hC H locs cells slots ls hW hS hL h1 h2
  have hts := hC.2.2.2.2.1
  exact W.objInit hC.1 hC.2.1 hC.2.2.2.1 (hts _ w1) (hts _ w2) (hts _ w3) rfl (hL.1.trans hC.2.2.1.symm) (rest := []) rfl hd hf (by show 2 * 0 + _ ≤ _; simpa using hl) (k p e s mid args below meth c hC H locs cells slots ls hW hS hL h1 h2)
/-! making -/
def dflt (t : Nat) : Value := match t with
  | 0 => .int 0
  | 1 => .long 0
  | _ => .null
theorem fval_new (m : XM) (a : Nat) (k : XKd) (j t : Nat) : fval (mN m a k) a j t = dflt t := by
  match t with
  | 0 => simp [fval, mN, dflt]
  | 1 => simp [fval, mN, dflt]
  | t + 2 => simp [fval, mN, dflt, va_rf]
def xNw (own : String) (idx ci N : Nat) : Prop := ∃ (C : String) (T : u_T) (ty : Nat → FieldType), vwCl[ci]? = some (C, T, N) ∧ (∀ w ∈ u_ws C T N, w ∈ WS) ∧ (∀ k, k < N → parseFieldDescriptor (T k).2.2.1 = some (ty k)) ∧ Cond.classLink own idx C ∈ WS ∧ Cond.instantiable C N ∈ WS ∧ Cond.initialized C ∈ WS ∧ (xF ci).length = N ∧ ∀ j, j < N → defaultValue (ty j) = dflt ((xF ci).getD j 0)
theorem x_new {idx ci N : Nat} (hd : decode M.2.1 pc = .ok (.new idx, 3)) (hf : xNw M.1.cls idx ci N) {n bc0 bs0 : Nat} (hn : pc + 3 = n) (hb1 : bc0 = bc + 1) (hb2 : bs0 = bs + N) (k : ∀ a, m.1 a = none → WW l G M n L (vR (some a) :: st) (mN m a (oB ci)) bc bs Q) : WW l G M pc L st m bc0 bs0 Q := by
  subst hn; subst hb1; subst hb2
  intro p e s mid args below meth c hC H locs cells slots ls hW hS hL h1 h2
  obtain ⟨C, T, ty, f1, f2, f3, f4, f5, f6, f7, f8⟩ := hf
  have hts := hC.2.2.2.2.1
  have hSt := hC.2.2.2.2.2.2.2.2.2.1
  have hKn := hSt.1.1 ci _ f1
  refine W.newcK hC.1 hC.2.1 hC.2.2.2.1 (hts _ f4) (hts _ f5) (hts _ f6) rfl hd (by omega) (by omega) hKn.2.1 rfl fun H1 kC hkC e1 z1 o1 => ?_
  have hbase : gBase G ≤ H.size := Nat.le_trans hSt.2.2.2.1 hS.1
  refine k H.size hW.fresh p e s mid args below meth c hC H1 locs (cells + 1) (slots + N) ls (hW.new (oB ci) hbase o1 ?_) ⟨Nat.le_trans hS.1 (by omega), fun x g1 g2 => (o1 x (Nat.lt_of_lt_of_le g1 hS.1)).trans (hS.2.1 x g1 g2), hS.2.2⟩ hL (by omega) (by omega)
  refine ⟨_, f1, (u_born ty hts f2 hKn hkC e1 f3).to (fun j hj => ?_)⟩
  rw [f8 j hj]
  show _ = (fvals _ _ 0 (xF ci)).getD j .null
  have hj' : j < (xF ci).length := by rw [f7]; exact hj
  rw [List.getD_eq_getElem?_getD (l := fvals _ _ 0 (xF ci)), fvals_get, List.getElem?_eq_getElem hj']
  simp [fval_new, List.getD_eq_getElem?_getD, List.getElem?_eq_getElem hj']
theorem x_newa {t : Nat} {atype : ArrayType} {i : Int32} (hd : decode M.2.1 pc = .ok (.newarray atype, 2)) (hw : Cond.arrayClass (newarray.typeOf atype) ∈ WS) (ht : (atype = .int ∧ t = 0) ∨ (atype = .boolean ∧ t = 1) ∨ (atype = .long ∧ t = 2)) (hi : ¬ i < 0) (hb : i.toNatClampNeg ≤ 1000000) {n N bc0 bs0 : Nat} (hn : pc + 2 = n) (hN : i.toNatClampNeg = N) (hb1 : bc0 = bc + 1) (hb2 : bs0 = bs + N)
    (k : ∀ a, m.1 a = none → WW l G M n L (vR (some a) :: st) (mN m a (aR t N)) bc bs Q) : WW l G M pc L (vI i :: st) m bc0 bs0 Q := by
  subst hn; subst hb1; subst hb2; subst hN
  intro p e s mid args below meth c hC H locs cells slots ls hW hS hL h1 h2
  have hts := hC.2.2.2.2.1
  have hSt := hC.2.2.2.2.2.2.2.2.2.1
  have hbase : gBase G ≤ H.size := Nat.le_trans hSt.2.2.2.1 hS.1
  refine va_newaK hC.1 hC.2.1 (hts _ hw) rfl hd rfl hi rfl ?_ (by omega) (by omega) rfl fun H1 cA e1 z1 o1 hAr hNm => ?_
  · rcases ht with ⟨rfl, -⟩ | ⟨rfl, -⟩ | ⟨rfl, -⟩ <;> simp [newarray.typeOf, componentBytes] <;> omega
  refine k H.size hW.fresh p e s mid args below meth c hC H1 locs (cells + 1) (slots + i.toNatClampNeg) ls (hW.new (aR t i.toNatClampNeg) hbase o1 ?_) ⟨Nat.le_trans hS.1 (by omega), fun x g1 g2 => (o1 x (Nat.lt_of_lt_of_le g1 hS.1)).trans (hS.2.1 x g1 g2), hS.2.2⟩ hL (by omega) (by omega)
  rcases ht with ⟨rfl, rfl⟩ | ⟨rfl, rfl⟩ | ⟨rfl, rfl⟩
  · have hcA : cA = G.2.1 0 := Option.some.inj (hNm.symm.trans (hSt.1.2 0 _ rfl).2)
    subst hcA
    show H1[H.size]? = some (vp_cell _ (_, .inl ((mN m H.size (aR 0 i.toNatClampNeg)).2.1 H.size)))
    rw [e1, vp_cell_i]
    congr 2
    funext j
    simp [mN, newarray.typeOf, defaultValue]
  · have hcA : cA = G.2.1 1 := Option.some.inj (hNm.symm.trans (hSt.1.2 1 _ rfl).2)
    subst hcA
    show H1[H.size]? = some (vp_cell _ (_, .inl ((mN m H.size (aR 1 i.toNatClampNeg)).2.1 H.size)))
    rw [e1, vp_cell_i]
    congr 2
    funext j
    simp [mN, newarray.typeOf, defaultValue]
  · have hcA : cA = G.2.1 2 := Option.some.inj (hNm.symm.trans (hSt.1.2 2 _ rfl).2)
    subst hcA
    show H1[H.size]? = some (vp_cell _ (_, .inr (.inl ((mN m H.size (aR 2 i.toNatClampNeg)).2.2.1 H.size))))
    rw [e1, vp_cell_l]
    congr 2
    funext j
    simp [mN, newarray.typeOf, defaultValue]
theorem x_anew {t idx : Nat} {C : String} {i : Int32} (hd : decode M.2.1 pc = .ok (.anewarray idx, 3)) (hw : Cond.classLink M.1.cls idx C ∈ WS) (hw2 : C ∈ xAo) (ht : (C = RX1 ∧ t = 3) ∨ (C = RX3 ∧ t = 4)) (hi : ¬ i < 0) (hb : i.toNatClampNeg ≤ 1000000) {n N bc0 bs0 : Nat} (hn : pc + 3 = n) (hN : i.toNatClampNeg = N) (hb1 : bc0 = bc + 1) (hb2 : bs0 = bs + N)
    (k : ∀ a, m.1 a = none → WW l G M n L (vR (some a) :: st) (mN m a (aR t N)) bc bs Q) : WW l G M pc L (vI i :: st) m bc0 bs0 Q := by
  subst hn; subst hb1; subst hb2; subst hN
  intro p e s mid args below meth c hC H locs cells slots ls hW hS hL h1 h2
  have hts := hC.2.2.2.2.1
  have hSt := hC.2.2.2.2.2.2.2.2.2.1
  have hbase : gBase G ≤ H.size := Nat.le_trans hSt.2.2.2.1 hS.1
  refine W.anew hC.1 hC.2.1 hC.2.2.2.1 (hts _ hw) (va_AO.use (hSt.2.2.2.2.2.2.2.2.2.2 C hw2)) rfl hd rfl hi (by omega) (by omega) (by omega) fun cA kA comp f1 f2 f3 f4 => ?_
  generalize hH1 : H.push ({ cls := cA, slots := Array.replicate i.toNatClampNeg .null, vm := .none } : Cell) = H1
  have z1 : H1.size = H.size + 1 := by rw [← hH1, Array.size_push]
  have e1 : H1[H.size]? = some (arrV cA i.toNatClampNeg (fun _ => .null)) := by rw [← hH1, Array.getElem?_push_size, ← arrV_new]
  have o1 : ∀ q : Nat, q < H.size → H1[q]? = H[q]? := fun q hq => by rw [← hH1, Array.getElem?_push, if_neg (Nat.ne_of_lt hq)]
  refine k H.size hW.fresh p e s mid args below meth c hC H1 locs (cells + 1) (slots + i.toNatClampNeg) ls (hW.new (aR t i.toNatClampNeg) hbase o1 ?_) ⟨Nat.le_trans hS.1 (by omega), fun x g1 g2 => (o1 x (Nat.lt_of_lt_of_le g1 hS.1)).trans (hS.2.1 x g1 g2), hS.2.2⟩ hL (by omega) (by omega)
  rcases ht with ⟨rfl, rfl⟩ | ⟨rfl, rfl⟩
  · obtain ⟨kA', comp', -, -, -, hfc⟩ := (hSt.1.2 3 _ rfl).2
    have hcA : cA = G.2.1 3 := Option.some.inj (f1.symm.trans hfc)
    subst hcA
    show H1[H.size]? = some (vp_cell _ (_, .inr (.inr (.inr (.inr ((mN m H.size (aR 3 i.toNatClampNeg)).2.2.2 H.size))))))
    rw [e1, vp_cell_q]
    congr 2
    funext j
    simp [mN, va_rf]
  · obtain ⟨kA', comp', -, -, -, hfc⟩ := (hSt.1.2 4 _ rfl).2
    have hcA : cA = G.2.1 4 := Option.some.inj (f1.symm.trans hfc)
    subst hcA
    show H1[H.size]? = some (vp_cell _ (_, .inr (.inr (.inr (.inr ((mN m H.size (aR 4 i.toNatClampNeg)).2.2.2 H.size))))))
    rw [e1, vp_cell_q]
    congr 2
    funext j
    simp [mN, va_rf]
/-! the entry -/
def inL : List XV → List (Option XV)
  | [] => []
  | .inr (.inl x) :: r => some (vL x) :: none :: inL r
  | v :: r => some v :: inL r
theorem inL_args : ∀ (a : List XV) (i j : Nat) (w : XV), (inL a)[j]? = some (some w) → (i + j, toV w) ∈ lv_args i (a.map toV)
  | [], i, j, w, h => by simp [inL] at h
  | v :: r, i, j, w, h => by
    rcases v with x | x | o
    · cases j with
      | zero =>
        simp only [inL, List.getElem?_cons_zero, Option.some.injEq] at h
        subst h
        exact List.mem_cons_self
      | succ j =>
        simp only [inL, List.getElem?_cons_succ] at h
        have := inL_args r (i + 1) j w h
        refine List.mem_cons_of_mem _ ?_
        show (i + (j + 1), toV w) ∈ lv_args (i + 1) (r.map toV)
        rw [show i + (j + 1) = i + 1 + j by omega]
        exact this
    · cases j with
      | zero =>
        simp only [inL, List.getElem?_cons_zero, Option.some.injEq] at h
        subst h
        exact List.mem_cons_self
      | succ j =>
        cases j with
        | zero => simp [inL] at h
        | succ j =>
          simp only [inL, List.getElem?_cons_succ] at h
          have := inL_args r (i + 2) j w h
          refine List.mem_cons_of_mem _ ?_
          show (i + (j + 1 + 1), toV w) ∈ lv_args (i + 2) (r.map toV)
          rw [show i + (j + 1 + 1) = i + 2 + j by omega]
          exact this
    · cases j with
      | zero =>
        simp only [inL, List.getElem?_cons_zero, Option.some.injEq] at h
        subst h
        exact List.mem_cons_self
      | succ j =>
        simp only [inL, List.getElem?_cons_succ] at h
        have := inL_args r (i + 1) j w h
        refine List.mem_cons_of_mem _ ?_
        show (i + (j + 1), toV w) ∈ lv_args (if (toV (.inr (.inr o))).category = 2 then i + 2 else i + 1) (r.map toV)
        rw [show (toV (.inr (.inr o))).category = 1 from va_rf_cat o, if_neg (by decide), show i + (j + 1) = i + 1 + j by omega]
        exact this
theorem lg_sl_cons (v : Value) (vs : List Value) : lg_sl (v :: vs) = (if v.category = 2 then [Slot.val v, Slot.second] else [Slot.val v]) ++ lg_sl vs := by simp [lg_sl]
theorem inL_len : ∀ a : List XV, (lg_sl (a.map toV)).length = (inL a).length
  | [] => rfl
  | .inl x :: r => by
    rw [List.map_cons, lg_sl_cons, List.length_append, inL_len r, toV_cat]
    simp [inL, isL]; omega
  | .inr (.inl x) :: r => by
    rw [List.map_cons, lg_sl_cons, List.length_append, inL_len r, toV_cat]
    simp [inL, isL]; omega
  | .inr (.inr o) :: r => by
    rw [List.map_cons, lg_sl_cons, List.length_append, inL_len r, toV_cat]
    simp [inL, isL]; omega
theorem lh_entry {a : List XV} {n : Nat} (h : (inL a).length ≤ n) : lh ((lg_sl (a.map toV) ++ List.replicate (n - (lg_sl (a.map toV)).length) Slot.unset).toArray) n (inL a ++ List.replicate (n - (inL a).length) none) := by
  obtain ⟨h1, h2, h3⟩ := lv_entry (a.map toV) (n := n) (by rw [inL_len]; exact h)
  refine ⟨h1, h2, fun j w hw => ?_⟩
  have hj : (inL a)[j]? = some (some w) := by
    by_cases hl : j < (inL a).length
    · rw [List.getElem?_append_left hl] at hw
      exact hw
    · rw [List.getElem?_append_right (by omega), List.getElem?_replicate] at hw
      split at hw <;> cases hw
  have := h3 _ (inL_args a 0 j w hj)
  rw [Nat.zero_add] at this
  exact this
end XEnd
end
section
section XCall
variable {l : Launch} {G : xG} {M : xMt} {pc : Nat} {L : List (Option XV)} {st : List XV} {m : XM} {bc bs : Nat} {Q : XR → XM → Prop}
theorem xws_code (hh : M.2.2.2.2.2 = []) : xws M = Cond.code M.1 M.2.1 M.2.2.1 M.2.2.2.1 :: WS := by unfold xws xcw; rw [hh]
theorem x_entry {a : List XV} (hy : plainName M.1.cls = true) (hh : M.2.2.2.2.2 = []) (hst : l.stackTraces = false) (hlen : (inL a).length ≤ M.2.2.1) {L0 : List (Option XV)} (hL0 : inL a ++ List.replicate (M.2.2.1 - (inL a).length) none = L0)
    (k : WW l G M 0 L0 [] m M.2.2.2.2.1.cells M.2.2.2.2.1.slots Q) : CC l G M a m Q := by
  subst hL0
  have hw : xws M = Cond.code M.1 M.2.1 M.2.2.1 M.2.2.2.1 :: WS := by unfold xws xcw; rw [hh]
  refine vx_ofW (cc := M.2.1) (maxL := M.2.2.1) (ret := M.2.2.2.1) hy hw ?_
  intro p e s mid args below meth c s₁ B hml hx hv
  obtain ⟨rfl, hWd, hSt⟩ := hv
  have hts0 := atoms_spec (ws := xws M) B.pre
  have hts : ∀ w ∈ WS, w.before _ s = true := fun w h => hts0 w (List.mem_cons_of_mem _ h)
  have hown : s.vm.findClass M.1.cls = some mid.cls := findClass_of_methodNamed B.named
  have htab : c.exceptionTable.toList = tableOf M.2.2.2.2.2 := by
    rw [hh]
    exact List.eq_nil_iff_forall_not_mem.mpr fun x h => hx x h
  rw [lg_entry_eq]
  exact k p e s mid _ below meth c ⟨B.exec, B.bytes, hml, hown, hts, B.notSynchronized, B.returns, (name_of_methodNamed B.named B.method).1, htab, hSt, hst⟩ s.heap [] 0 0 _ hWd va_S.rf (lh_entry hlen) (by omega) (by omega)
theorem x_entryH {a : List XV} (hy : plainName M.1.cls = true) (hh : M.2.2.2.2.2 ≠ []) (hst : l.stackTraces = false) (hlen : (inL a).length ≤ M.2.2.1) {L0 : List (Option XV)} (hL0 : inL a ++ List.replicate (M.2.2.1 - (inL a).length) none = L0)
    (k : WW l G M 0 L0 [] m M.2.2.2.2.1.cells M.2.2.2.2.1.slots Q) : CC l G M a m Q := by
  subst hL0
  have hw : xws M = Cond.codeWith M.1 M.2.1 M.2.2.1 M.2.2.2.1 M.2.2.2.2.2 :: WS := by
    unfold xws xcw
    split
    · next h => exact absurd h hh
    · rfl
  refine vx_ofWH (cc := M.2.1) (maxL := M.2.2.1) (ret := M.2.2.2.1) (hh := M.2.2.2.2.2) hy hw ?_
  intro p e s mid args below meth c s₁ B hml hv
  obtain ⟨rfl, hWd, hSt⟩ := hv
  have hts0 := atoms_spec (ws := xws M) B.pre
  have hts : ∀ w ∈ WS, w.before _ s = true := fun w h => hts0 w (List.mem_cons_of_mem _ h)
  have hown : s.vm.findClass M.1.cls = some mid.cls := findClass_of_methodNamed B.named
  have htab : c.exceptionTable.toList = tableOf M.2.2.2.2.2 := vx_table (x := M.1) B (hts0 _ (by rw [hw]; exact List.mem_cons_self))
  rw [lg_entry_eq]
  exact k p e s mid _ below meth c ⟨B.exec, B.bytes, hml, hown, hts, B.notSynchronized, B.returns, (name_of_methodNamed B.named B.method).1, htab, hSt, hst⟩ s.heap [] 0 0 _ hWd va_S.rf (lh_entry hlen) (by omega) (by omega)
theorem xSt.moved {s U : State} {H : Heap} {locs : List Loc} (h : xSt G s s.heap) (hS : va_S (xA G) s.heap H locs) (hU : U.heap = H) (hW : s.WarmedH U.vm) : xSt G U U.heap := by
  obtain ⟨h1, h2, h3, h4, h5, h6, h7⟩ := h
  subst hU
  have hb : G.2.2.2.1 < s.heap.size := Nat.lt_of_lt_of_le h6 h4
  exact ⟨h1.moved hW.alike, vx_Zq.moved hW.alike (h2.kept hS.2.1), vx_Zq.moved hW.alike (h3.kept hS.2.1), Nat.le_trans h4 hS.1, (h5.kept (hS.2.1 _ hb (Nat.not_le.mpr h6))).moved hW.alike, h6, h7.moved hW⟩
theorem xPc.blind {a : List XV} : FrameBlind (xPc G a m) := by
  intro v U g mk h
  obtain ⟨h1, h2, h3, h4, h5, h6, h7, h8, h9⟩ := h
  exact ⟨h1, h2, va_K.moved (u := U) (U := U.calling g mk v) (Vm.Alike.refl U.vm) h3, vx_Zq.moved (u := U) (U := U.calling g mk v) (Vm.Alike.refl U.vm) h4, vx_Zq.moved (u := U) (U := U.calling g mk v) (Vm.Alike.refl U.vm) h5, h6, va_X.moved (u := U) (U := U.calling g mk v) (Vm.Alike.refl U.vm) h7, h8, xNt.moved (s := U) (U := U.calling g mk v) (State.WarmedH.refl U) h9⟩
theorem xPre {a : List XV} {s : State} {H : Heap} {locs : List Loc} (hW : Wd G m H) (hSt : xSt G s s.heap) (hS : va_S (xA G) s.heap H locs) : PreS s H (xPc G a m) (a.map toV) :=
  ⟨xPc.blind, fun U hU hWm => ⟨rfl, by rw [hU]; exact hW, hSt.moved hS hU hWm⟩⟩
/-- the answer of a call, by its kind; what is thrown goes on -/
def kI (f : Int32 → XM → Prop) (Q : XR → XM → Prop) : XR → XM → Prop
  | .inl (some (.inl v)), m => f v m
  | .inr E, m => Q (.inr E) m
  | _, _ => False
def kL (f : Int64 → XM → Prop) (Q : XR → XM → Prop) : XR → XM → Prop
  | .inl (some (.inr (.inl v))), m => f v m
  | .inr E, m => Q (.inr E) m
  | _, _ => False
def kR (f : Option Nat → XM → Prop) (Q : XR → XM → Prop) : XR → XM → Prop
  | .inl (some (.inr (.inr v))), m => f v m
  | .inr E, m => Q (.inr E) m
  | _, _ => False
def kV (f : XM → Prop) (Q : XR → XM → Prop) : XR → XM → Prop
  | .inl none, m => f m
  | .inr E, m => Q (.inr E) m
  | _, _ => False
def kN (f : XM → Prop) : XR → XM → Prop
  | .inl none, m => f m
  | _, _ => False
/-- where a call comes back -/
def xBk (l : Launch) (G : xG) (M : xMt) (n : Nat) (L : List (Option XV)) (st : List XV) (bc bs : Nat) (Q Q' : XR → XM → Prop) : Prop :=
  (∀ (r : Option XV) (m' : XM), Q' (.inl r) m' → WW l G M n L (r.toList ++ st) m' bc bs Q) ∧ ∀ (E : String) (m' : XM), Q' (.inr E) m' → Q (.inr E) m'
theorem xBk.I {n : Nat} {f : Int32 → XM → Prop} (h : ∀ v m', f v m' → WW l G M n L (vI v :: st) m' bc bs Q) : xBk l G M n L st bc bs Q (kI f Q) := by
  refine ⟨fun r m' hq => ?_, fun E m' hq => hq⟩
  rcases r with _ | (v | v | v)
  · exact hq.elim
  · exact h v m' hq
  · exact hq.elim
  · exact hq.elim
theorem xBk.J {n : Nat} {f : Int64 → XM → Prop} (h : ∀ v m', f v m' → WW l G M n L (vL v :: st) m' bc bs Q) : xBk l G M n L st bc bs Q (kL f Q) := by
  refine ⟨fun r m' hq => ?_, fun E m' hq => hq⟩
  rcases r with _ | (v | v | v)
  · exact hq.elim
  · exact hq.elim
  · exact h v m' hq
  · exact hq.elim
theorem xBk.R {n : Nat} {f : Option Nat → XM → Prop} (h : ∀ v m', f v m' → WW l G M n L (vR v :: st) m' bc bs Q) : xBk l G M n L st bc bs Q (kR f Q) := by
  refine ⟨fun r m' hq => ?_, fun E m' hq => hq⟩
  rcases r with _ | (v | v | v)
  · exact hq.elim
  · exact hq.elim
  · exact hq.elim
  · exact h v m' hq
theorem xBk.V {n : Nat} {f : XM → Prop} (h : ∀ m', f m' → WW l G M n L st m' bc bs Q) : xBk l G M n L st bc bs Q (kV f Q) := by
  refine ⟨fun r m' hq => ?_, fun E m' hq => hq⟩
  rcases r with _ | (v | v | v)
  · exact h m' hq
  · exact hq.elim
  · exact hq.elim
  · exact hq.elim
theorem xBk.N {n : Nat} {f : XM → Prop} (h : ∀ m', f m' → WW l G M n L st m' bc bs Q) : xBk l G M n L st bc bs Q (kN f) := by
  refine ⟨fun r m' hq => ?_, fun E m' hq => hq.elim⟩
  rcases r with _ | (v | v | v)
  · exact h m' hq
  · exact hq.elim
  · exact hq.elim
  · exact hq.elim
theorem kN.no {f : XM → Prop} : ∀ E m', ¬ kN f (.inr E) m' := fun _ _ h => h
theorem xw_after {Q' : XR → XM → Prop} {mc ms : Nat} {a0 : Array Value} {p : Program} {e : Env} {s : State} {mid : MethodId} {args : Array Value} {below : List Frame} {meth : Method} {c : Code} {H : Heap} {locs : List Loc} {cells slots : Nat} {ls : Array Slot} {st0 : List Value}
    (hC : xC l G M p s mid args meth c) (hS : va_S (xA G) s.heap H locs) (hL : lh ls M.2.2.1 L) (h1 : cells + (bc + mc) ≤ M.2.2.2.2.1.cells) (h2 : slots + (bs + ms) ≤ M.2.2.2.2.1.slots) (hno : M.2.2.2.2.2 = []) {n : Nat} (hn : pc + 3 = n)
    (hr : vx_Run p l e M.2.2.2.2.1 s mid args below meth c H locs cells slots mc ms (F0 mid pc ls st0) (st.map toV) (xQc G Q' a0) (xXC G Q') (xA G))
    (hB : xBk l G M n L st bc bs Q Q') : W p l e M.2.2.2.2.1 s mid args below meth c H locs cells slots (vx_MQ below (xQc G Q) (xXC G Q) args s M.2.2.2.2.1.cells M.2.2.2.2.1.slots (xA G)) (F0 mid pc ls st0) := by
  subst hn
  intro T hT X
  rcases hr T hT X with ⟨v, st₀, t, T', L1, h0, X', hL1, e1, e2, ⟨⟨r, m', hv, hq, hw⟩, hF⟩, go⟩ | ⟨q, st₀, t, T', L1, E, ce, h0, X', hL1, e1, e2, ⟨m', hq, hw, hF⟩, hce, hcv, hcl, go⟩
  · cases hv
    obtain ⟨-, -, hS1⟩ := vx_keep (A1 := xA G) (free := xA G) h0 e1 hS (fun _ _ h => h) (fun _ h => h) hL1 hF
    obtain ⟨t2, a1, b1⟩ := hB.1 r m' hq p e s mid args below meth c hC T'.heap (locs ++ L1) (cells + mc) (slots + ms) ls (by rw [e1]; exact hw) hS1 hL (by omega) (by omega) T' rfl X'
    refine ⟨t2, go t2 ?_, b1⟩
    have : (r.toList ++ st).map toV = (r.map toV).toList ++ st.map toV := by cases r <;> rfl
    rw [this] at a1
    exact a1
  · obtain ⟨-, -, hS1⟩ := vx_keep (A1 := xA G) (free := xA G) h0 e1 hS (fun _ _ h => h) (fun _ h => h) hL1 hF
    have hout : ∀ x ∈ c.exceptionTable.toList, covers x pc = false := by
      intro x hx
      rw [hC.2.2.2.2.2.2.2.2.1, hno] at hx
      cases hx
    have := vx_out (p := p) (l := l) (e := e) (R := M.2.2.2.2.1) (below := below) (ls := ls) (rest := st.map toV) (locs := locs ++ L1) (cells := cells + mc) (slots := slots + ms) (mc := M.2.2.2.2.1.cells) (ms := M.2.2.2.2.1.slots) (free := xA G) (Qc := xQc G Q) (XC := xXC G Q) (m := mid) (args := args) hout hC.2.2.2.2.2.1 (by rw [e1]; exact hce) hcv hcl
      (fun t' ht' _ => ⟨m', hB.2 E m' hq, by rw [ht', e1]; exact hw, hS1.F ht'⟩) hS1.2.2 (by omega) (by omega) T' rfl X'
    obtain ⟨t2, a1, b1⟩ := this
    exact ⟨t2, go.trans a1, b1⟩
/-- an object call: the words that link it, what it needs of the room -/
def xCV (M M' : xMt) (idx n : Nat) : Prop := GoodIn WS (wsV M.1.cls idx M'.1.cls M'.1 (xws M')) ∧ M'.2.2.2.2.2 = [] ∧ (M'.1.cls ≠ "java/lang/invoke/MethodHandle" ∧ M'.1.cls ≠ "java/lang/invoke/VarHandle" ∧ (parseMethodDescriptor M'.1.desc).map (fun d => d.parameters.length) = some n) ∧
  (M'.2.2.2.2.1.frames + 1 ≤ M.2.2.2.2.1.frames ∧ 8 + (M'.2.2.1 + 11) + M'.2.2.2.2.1.locals ≤ M.2.2.2.2.1.locals) ∧ M.2.2.2.2.2 = []
def xCat (st : List XV) : Nat := (st.map fun v => if isL v then 2 else 1).sum
theorem xCat_eq (st : List XV) : ((st.map toV).map fun v => v.category).sum = xCat st := by
  unfold xCat
  rw [List.map_map]
  congr 2
  funext v
  exact toV_cat v
theorem x_invV {M' : xMt} {idx ci b n0 : Nat} {o : Option Nat} (ho : o = some b) {as st0 : List XV} {r : vw_C} {Q' : XR → XM → Prop} (hd : decode M.2.1 pc = .ok (.invokevirtual idx, 3)) (hcw : xCV M M' idx n0) (hst0 : st0 = as.reverse ++ vR o :: st) (hn0 : as.length = n0) (hk : m.1 b = some (oB ci)) (hci : vwCl[ci]? = some r) (hr : r.1 = M'.1.cls) (hcat : xCat st ≤ 8) {n bc0 bs0 : Nat} (hn : pc + 3 = n) (hb1 : bc0 = bc + M'.2.2.2.2.1.cells) (hb2 : bs0 = bs + M'.2.2.2.2.1.slots)
    (hcc : CC l G M' (vR (some b) :: as) m Q') (hB : xBk l G M n L st bc bs Q Q') : WW l G M pc L st0 m bc0 bs0 Q := by
  subst ho; subst hst0; subst hb1; subst hb2
  intro p e s mid args below meth c hC H locs cells slots ls hW hS hL h1 h2
  obtain ⟨g1, g2, g3, g4, g5⟩ := hcw
  have g2 := xws_code g2
  have hSt := hC.2.2.2.2.2.2.2.2.2.1
  have hrecv : ∃ cellB : Cell, H[b]? = some cellB ∧ cellB.vm.isStatics = false ∧ s.vm.findClass M'.1.cls = some cellB.cls := by
    rw [← hr]
    exact va_recv hSt.1 (xP1 hW hk) hci (q0 := 0) rfl
  have hpre := xPre (a := vR (some b) :: as) hW hSt hS
  have hrun := vx_runV (p := p) (e := e) (below := below) (meth := meth) (locs := locs) (cells := cells) (slots := slots) (g := F0 mid pc ls ((as.map toV).reverse ++ .ref b :: st.map toV)) (As := as.map toV) (rest := st.map toV) (cc := M.2.1) (nL := M.2.2.1) (Ts := WS) (own := M.1.cls) (index := idx)
    ⟨hC.1, hC.2.1, hC.2.2.1, hC.2.2.2.1, hC.2.2.2.2.1⟩ hcc (cwV (R := M.2.2.2.2.1) n0 hC.2.2.2.2.1 g1 g2 rfl rfl ⟨rfl, g3⟩ g4) ⟨hpre.1, hrecv, hpre.2⟩ rfl (by rw [List.length_map]; exact hn0) hL.1 rfl (lv_room (by rw [xCat_eq]; exact hcat)) hd ⟨by omega, by omega⟩
  have e0 : (as.reverse ++ vR (some b) :: st).map toV = (as.map toV).reverse ++ .ref b :: st.map toV := by simp [toV, va_rf]
  rw [e0]
  exact xw_after hC hS hL h1 h2 g5 hn hrun hB
/-- a static call within the class, or of any class -/
def xCS (M M' : xMt) (idx n : Nat) : Prop := GoodIn WS (va_wsS M.1.cls idx M'.1 (xws M')) ∧ M'.2.2.2.2.2 = [] ∧ (M'.1.cls ≠ "java/lang/invoke/MethodHandle" ∧ M'.1.cls ≠ "java/lang/invoke/VarHandle" ∧ (parseMethodDescriptor M'.1.desc).map (fun d => d.parameters.length) = some n) ∧
  (M'.2.2.2.2.1.frames + 1 ≤ M.2.2.2.2.1.frames ∧ 8 + (M'.2.2.1 + 11) + M'.2.2.2.2.1.locals ≤ M.2.2.2.2.1.locals) ∧ M.2.2.2.2.2 = []
theorem x_invS {M' : xMt} {idx n0 : Nat} {as st0 : List XV} {Q' : XR → XM → Prop} (hd : decode M.2.1 pc = .ok (.invokestatic idx, 3)) (hcw : xCS M M' idx n0) (hst0 : st0 = as.reverse ++ st) (hn0 : as.length = n0) (hcat : xCat st ≤ 8) {n bc0 bs0 : Nat} (hn : pc + 3 = n) (hb1 : bc0 = bc + M'.2.2.2.2.1.cells) (hb2 : bs0 = bs + M'.2.2.2.2.1.slots)
    (hcc : CC l G M' as m Q') (hB : xBk l G M n L st bc bs Q Q') : WW l G M pc L st0 m bc0 bs0 Q := by
  subst hst0; subst hb1; subst hb2
  intro p e s mid args below meth c hC H locs cells slots ls hW hS hL h1 h2
  obtain ⟨g1, g2, g3, g4, g5⟩ := hcw
  have g2 := xws_code g2
  have hSt := hC.2.2.2.2.2.2.2.2.2.1
  have hrun := vx_runS (p := p) (e := e) (below := below) (meth := meth) (locs := locs) (cells := cells) (slots := slots) (g := F0 mid pc ls ((as.map toV).reverse ++ st.map toV)) (As := as.map toV) (rest := st.map toV) (cc := M.2.1) (nL := M.2.2.1) (Ts := WS) (own := M.1.cls) (index := idx)
    ⟨hC.1, hC.2.1, hC.2.2.1, hC.2.2.2.1, hC.2.2.2.2.1⟩ hcc (va_cwS (R := M.2.2.2.2.1) n0 hC.2.2.2.2.1 g1 g2 rfl rfl g3 g4) (xPre (a := as) hW hSt hS) rfl (by rw [List.length_map]; exact hn0) hL.1 rfl (lv_room (by rw [xCat_eq]; exact hcat)) hd ⟨by omega, by omega⟩
  have e0 : (as.reverse ++ st).map toV = (as.map toV).reverse ++ st.map toV := by simp
  rw [e0]
  exact xw_after hC hS hL h1 h2 g5 hn hrun hB
theorem CC.met {a : List XV} (h : CC l G M a m Q) (hno : ∀ E m', ¬ Q (.inr E) m') : Met l M.1 (xws M) M.2.2.2.2.1 (xPc G a m) (xQc G Q) M.2.2.2.2.1.cells M.2.2.2.2.1.slots (xA G) := by
  refine MetFree.mono h (fun _ _ h => h) (fun _ _ _ _ _ _ => trivial) (fun a st o t _ hq => ?_)
  rcases hq with hq | ⟨q, -, E, ce, L, ⟨m', hx, -⟩, -⟩
  · exact hq
  · exact absurd hx (hno E m')
theorem xw_afterM {Q' : XR → XM → Prop} {mc ms : Nat} {a0 : Array Value} {p : Program} {e : Env} {s : State} {mid : MethodId} {args : Array Value} {below : List Frame} {meth : Method} {c : Code} {H : Heap} {locs : List Loc} {cells slots : Nat} {ls : Array Slot} {st0 : List Value}
    (hC : xC l G M p s mid args meth c) (hS : va_S (xA G) s.heap H locs) (hL : lh ls M.2.2.1 L) (h1 : cells + (bc + mc) ≤ M.2.2.2.2.1.cells) (h2 : slots + (bs + ms) ≤ M.2.2.2.2.1.slots) {n : Nat} (hn : pc + 3 = n)
    (hr : va_Run p l e M.2.2.2.2.1 s mid args below meth c H locs cells slots mc ms (F0 mid pc ls st0) (st.map toV) (xQc G Q' a0) (xA G))
    (hB : xBk l G M n L st bc bs Q Q') : W p l e M.2.2.2.2.1 s mid args below meth c H locs cells slots (vx_MQ below (xQc G Q) (xXC G Q) args s M.2.2.2.2.1.cells M.2.2.2.2.1.slots (xA G)) (F0 mid pc ls st0) := by
  subst hn
  intro T hT X
  obtain ⟨v, st₀, t, T', L1, h0, X', hL1, e1, e2, ⟨⟨r, m', hv, hq, hw⟩, hF⟩, go⟩ := hr T hT X
  cases hv
  obtain ⟨-, -, hS1⟩ := vx_keep (A1 := xA G) (free := xA G) h0 e1 hS (fun _ _ h => h) (fun _ h => h) hL1 hF
  obtain ⟨t2, a1, b1⟩ := hB.1 r m' hq p e s mid args below meth c hC T'.heap (locs ++ L1) (cells + mc) (slots + ms) ls (by rw [e1]; exact hw) hS1 hL (by omega) (by omega) T' rfl X'
  refine ⟨t2, go t2 ?_, b1⟩
  have : (r.toList ++ st).map toV = (r.map toV).toList ++ st.map toV := by cases r <;> rfl
  rw [this] at a1
  exact a1
/-- a constructor's call -/
def xCI (M M' : xMt) (idx n : Nat) : Prop := GoodIn WS (xws M') ∧ (M'.2.2.2.2.2 = [] ∧ M'.2.2.2.1 = none) ∧ Cond.initialized M'.1.cls ∈ WS ∧ Cond.methodLink M.1.cls idx M'.1 ∈ WS ∧ Cond.instanceMethod M'.1 ∈ WS ∧ M'.1.name = "<init>" ∧ (M'.1.cls ≠ "java/lang/invoke/MethodHandle" ∧ M'.1.cls ≠ "java/lang/invoke/VarHandle" ∧ (parseMethodDescriptor M'.1.desc).map (fun d => d.parameters.length) = some n) ∧
  (M'.2.2.2.2.1.frames + 1 ≤ M.2.2.2.2.1.frames ∧ 8 + (M'.2.2.1 + 11) + M'.2.2.2.2.1.locals ≤ M.2.2.2.2.1.locals)
theorem x_invI {M' : xMt} {idx b n0 : Nat} {as st0 : List XV} {Q' : XR → XM → Prop} (hd : decode M.2.1 pc = .ok (.invokespecial idx, 3)) (hcw : xCI M M' idx n0) (hst0 : st0 = as.reverse ++ vR (some b) :: st) (hn0 : as.length = n0) (hcat : xCat st ≤ 8) {n bc0 bs0 : Nat} (hn : pc + 3 = n) (hb1 : bc0 = bc + M'.2.2.2.2.1.cells) (hb2 : bs0 = bs + M'.2.2.2.2.1.slots)
    (hcc : CC l G M' (vR (some b) :: as) m Q') (hno : ∀ E m', ¬ Q' (.inr E) m') (hB : xBk l G M n L st bc bs Q Q') : WW l G M pc L st0 m bc0 bs0 Q := by
  subst hst0; subst hb1; subst hb2
  intro p e s mid args below meth c hC H locs cells slots ls hW hS hL h1 h2
  obtain ⟨g1, ⟨g2, g2'⟩, g3, g4, g5, g6, g7, g8⟩ := hcw
  have g2 := xws_code g2
  rw [g2'] at g2
  have hSt := hC.2.2.2.2.2.2.2.2.2.1
  have hts := hC.2.2.2.2.1
  have hrun := va_runI (p := p) (e := e) (below := below) (meth := meth) (locs := locs) (cells := cells) (slots := slots) (g := F0 mid pc ls ((as.map toV).reverse ++ .ref b :: st.map toV)) (As := as.map toV) (rest := st.map toV) (cc := M.2.1) (nL := M.2.2.1) (Ts := WS) (own := M.1.cls) (index := idx)
    ⟨hC.1, hC.2.1, hC.2.2.1, hC.2.2.2.1, hts⟩ (hcc.met hno) (cwI (R := M.2.2.2.2.1) n0 hts g1 g2 rfl rfl (hts _ g3) (hts _ g4) (hts _ g5) g6 g7 g8) (xPre (a := vR (some b) :: as) hW hSt hS) rfl (by rw [List.length_map]; exact hn0) hL.1 rfl (lv_room (by rw [xCat_eq]; exact hcat)) hd ⟨by omega, by omega⟩
  have e0 : (as.reverse ++ vR (some b) :: st).map toV = (as.map toV).reverse ++ .ref b :: st.map toV := by simp [toV, va_rf]
  rw [e0]
  exact xw_afterM hC hS hL h1 h2 hn hrun hB
/-- a static call of a nest mate's private method -/
def xSN (M M' : xMt) (idx n : Nat) (host : String) : Prop := GoodIn WS (xws M') ∧ M'.2.2.2.2.2 = [] ∧ (M.1.cls, idx, M'.1, host) ∈ xNest ∧ Cond.initialized M'.1.cls ∈ WS ∧ Cond.static M'.1 ∈ WS ∧ (M'.1.cls ≠ "java/lang/invoke/MethodHandle" ∧ M'.1.cls ≠ "java/lang/invoke/VarHandle" ∧ (parseMethodDescriptor M'.1.desc).map (fun d => d.parameters.length) = some n) ∧
  (M'.2.2.2.2.1.frames + 1 ≤ M.2.2.2.2.1.frames ∧ 8 + (M'.2.2.1 + 11) + M'.2.2.2.2.1.locals ≤ M.2.2.2.2.1.locals)
theorem x_invSN {M' : xMt} {idx n0 : Nat} {host : String} {as st0 : List XV} {Q' : XR → XM → Prop} (hd : decode M.2.1 pc = .ok (.invokestatic idx, 3)) (hcw : xSN M M' idx n0 host) (hst0 : st0 = as.reverse ++ st) (hn0 : as.length = n0) (hcat : xCat st ≤ 8) {n bc0 bs0 : Nat} (hn : pc + 3 = n) (hb1 : bc0 = bc + M'.2.2.2.2.1.cells) (hb2 : bs0 = bs + M'.2.2.2.2.1.slots)
    (hcc : CC l G M' as m Q') (hno : ∀ E m', ¬ Q' (.inr E) m') (hB : xBk l G M n L st bc bs Q Q') : WW l G M pc L st0 m bc0 bs0 Q := by
  subst hst0; subst hb1; subst hb2
  intro p e s mid args below meth c hC H locs cells slots ls hW hS hL h1 h2
  obtain ⟨g1, g2, g3, g4, g5, g7, g8⟩ := hcw
  have g2 := xws_code g2
  have hSt := hC.2.2.2.2.2.2.2.2.2.1
  have hts := hC.2.2.2.2.1
  have hrun := va_runSN (p := p) (e := e) (below := below) (meth := meth) (locs := locs) (cells := cells) (slots := slots) (g := F0 mid pc ls ((as.map toV).reverse ++ st.map toV)) (As := as.map toV) (rest := st.map toV) (cc := M.2.1) (nL := M.2.2.1) (Ts := WS) (own := M.1.cls) (index := idx) (host := host)
    ⟨hC.1, hC.2.1, hC.2.2.1, hC.2.2.2.1, hts⟩ (hcc.met hno) ⟨va_cnB (R := M.2.2.2.2.1) n0 hts g1 g2 rfl rfl (hSt.2.2.2.2.2.2.1 _ g3) (hts _ g4) g7 g8, hts _ g5, trivial⟩ (xPre (a := as) hW hSt hS) rfl (by rw [List.length_map]; exact hn0) hL.1 rfl (lv_room (by rw [xCat_eq]; exact hcat)) hd ⟨by omega, by omega⟩
  have e0 : (as.reverse ++ st).map toV = (as.map toV).reverse ++ st.map toV := by simp
  rw [e0]
  exact xw_afterM hC hS hL h1 h2 hn hrun hB
/-- a nest mate's constructor -/
def xIN (M M' : xMt) (idx n : Nat) (host : String) : Prop := GoodIn WS (xws M') ∧ (M'.2.2.2.2.2 = [] ∧ M'.2.2.2.1 = none) ∧ (M.1.cls, idx, M'.1, host) ∈ xNest ∧ Cond.initialized M'.1.cls ∈ WS ∧ Cond.instanceMethod M'.1 ∈ WS ∧ M'.1.name = "<init>" ∧ (M'.1.cls ≠ "java/lang/invoke/MethodHandle" ∧ M'.1.cls ≠ "java/lang/invoke/VarHandle" ∧ (parseMethodDescriptor M'.1.desc).map (fun d => d.parameters.length) = some n) ∧
  (M'.2.2.2.2.1.frames + 1 ≤ M.2.2.2.2.1.frames ∧ 8 + (M'.2.2.1 + 11) + M'.2.2.2.2.1.locals ≤ M.2.2.2.2.1.locals)
theorem x_invIN {M' : xMt} {idx b n0 : Nat} {host : String} {as st0 : List XV} {Q' : XR → XM → Prop} (hd : decode M.2.1 pc = .ok (.invokespecial idx, 3)) (hcw : xIN M M' idx n0 host) (hst0 : st0 = as.reverse ++ vR (some b) :: st) (hn0 : as.length = n0) (hcat : xCat st ≤ 8) {n bc0 bs0 : Nat} (hn : pc + 3 = n) (hb1 : bc0 = bc + M'.2.2.2.2.1.cells) (hb2 : bs0 = bs + M'.2.2.2.2.1.slots)
    (hcc : CC l G M' (vR (some b) :: as) m Q') (hno : ∀ E m', ¬ Q' (.inr E) m') (hB : xBk l G M n L st bc bs Q Q') : WW l G M pc L st0 m bc0 bs0 Q := by
  subst hst0; subst hb1; subst hb2
  intro p e s mid args below meth c hC H locs cells slots ls hW hS hL h1 h2
  obtain ⟨g1, ⟨g2, g2'⟩, g3, g4, g5, g6, g7, g8⟩ := hcw
  have g2 := xws_code g2
  rw [g2'] at g2
  have hSt := hC.2.2.2.2.2.2.2.2.2.1
  have hts := hC.2.2.2.2.1
  have hrun := va_runIN (p := p) (e := e) (below := below) (meth := meth) (locs := locs) (cells := cells) (slots := slots) (g := F0 mid pc ls ((as.map toV).reverse ++ .ref b :: st.map toV)) (As := as.map toV) (rest := st.map toV) (cc := M.2.1) (nL := M.2.2.1) (Ts := WS) (own := M.1.cls) (index := idx) (host := host)
    ⟨hC.1, hC.2.1, hC.2.2.1, hC.2.2.2.1, hts⟩ (hcc.met hno) ⟨va_cnB (R := M.2.2.2.2.1) n0 hts g1 g2 rfl rfl (hSt.2.2.2.2.2.2.1 _ g3) (hts _ g4) g7 g8, g6, hts _ g5⟩ (xPre (a := vR (some b) :: as) hW hSt hS) rfl (by rw [List.length_map]; exact hn0) hL.1 rfl (lv_room (by rw [xCat_eq]; exact hcat)) hd ⟨by omega, by omega⟩
  have e0 : (as.reverse ++ vR (some b) :: st).map toV = (as.map toV).reverse ++ .ref b :: st.map toV := by simp [toV, va_rf]
  rw [e0]
  exact xw_afterM hC hS hL h1 h2 hn hrun hB
end XCall
end
section
section XTry
variable {l : Launch} {G : xG} {M : xMt} {pc : Nat} {L : List (Option XV)} {st : List XV} {m : XM} {bc bs : Nat} {Q : XR → XM → Prop}
theorem xgV {own C : String} {idx : Nat} {y : MethodName} {M' : xMt} (h1 : Cond.methodLink own idx y ∈ WS) (h2 : Cond.instanceMethod y ∈ WS) (h3 : Cond.selects C y y ∈ WS) (h4 : Cond.initialized C ∈ WS) (h5 : xcw M' ∈ WS) : GoodIn WS (wsV own idx C y (xws M')) := by
  intro w hw
  have : w ∈ WS := by
    simp only [wsV, xws, List.mem_append, List.mem_cons, List.not_mem_nil, or_false] at hw
    rcases hw with (rfl | rfl | rfl | rfl) | rfl | h
    · exact h1
    · exact h2
    · exact h3
    · exact h4
    · exact h5
    · exact h
  exact ⟨this, WS_good w this⟩
theorem xgS {own : String} {idx : Nat} {y : MethodName} {M' : xMt} (h1 : Cond.methodLink own idx y ∈ WS) (h2 : Cond.static y ∈ WS) (h4 : Cond.initialized y.cls ∈ WS) (h5 : xcw M' ∈ WS) : GoodIn WS (va_wsS own idx y (xws M')) := by
  intro w hw
  have : w ∈ WS := by
    simp only [va_wsS, xws, List.mem_append, List.mem_cons, List.not_mem_nil, or_false] at hw
    rcases hw with (rfl | rfl | rfl) | rfl | h
    · exact h1
    · exact h2
    · exact h4
    · exact h5
    · exact h
  exact ⟨this, WS_good w this⟩
theorem xgI {M' : xMt} (h5 : xcw M' ∈ WS) : GoodIn WS (xws M') := by
  intro w hw
  have : w ∈ WS := by
    simp only [xws, List.mem_cons] at hw
    rcases hw with rfl | h
    · exact h5
    · exact h
  exact ⟨this, WS_good w this⟩
/-- 'throw new E()' in a method without handlers -/
def xTh (M : xMt) (ik ic : Nat) (cls : String) (names : List String) : Prop := Bundle.fit cls = true ∧ (∀ n ∈ names, Bundle.fit n = true) ∧ Cond.classLink M.1.cls ik cls ∈ WS ∧ Cond.initialized cls ∈ WS ∧ (∀ w ∈ vx_at0 M.1.cls ic cls names, w ∈ WS ∨ (∃ y ∈ xDecl, w = .declares y) ∨ ∃ y ∈ xCast, w = .castable y.1 y.2) ∧ (∀ w ∈ Cond.classLink M.1.cls ik cls :: Cond.initialized cls :: vx_at0 M.1.cls ic cls names, vx_ot w = true) ∧
  names.length + 3 < M.2.2.2.2.1.frames ∧ 13 * (names.length + 1) + 42 ≤ M.2.2.2.2.1.locals ∧ M.2.2.2.2.2 = []
theorem x_throw0 {ik ic : Nat} {cls : String} {names : List String} (hT : xTh M ik ic cls names) (d0 : decode M.2.1 pc = .ok (.new ik, 3)) (d3 : decode M.2.1 (pc + 3) = .ok (.dup, 1)) (d4 : decode M.2.1 (pc + 4) = .ok (.invokespecial ic, 3)) (d7 : decode M.2.1 (pc + 7) = .ok (.athrow, 1))
    (hb1 : 1 ≤ bc) (hb2 : 6 ≤ bs) (k : Q (.inr cls) m) : WW l G M pc L [] m bc bs Q := by
  intro p e s mid args below meth c hC H locs cells slots ls hW hS hL h1 h2
  obtain ⟨t1, t2, t3, t4, t5, t6, t7, t8, t9⟩ := hT
  have hts := hC.2.2.2.2.1
  have hSt := hC.2.2.2.2.2.2.2.2.2.1
  have hat : ∀ w ∈ vx_at0 M.1.cls ic cls names, w.before args s = true := by
    intro w hw
    rcases t5 w hw with h | ⟨y, hy, rfl⟩ | ⟨y, hy, rfl⟩
    · exact hts w h
    · exact va_Nw.use rfl (hSt.2.2.2.2.2.2.2.2.1 y hy)
    · exact va_Nw.use rfl (hSt.2.2.2.2.2.2.2.1 y hy)
  refine vx_throw0 (A := xA G) (names := names) hC.1 hC.2.1 hC.2.2.2.2.2.2.2.2.2.2 hC.2.2.2.1 t1 t2 (hts _ t3) (hts _ t4) hat t6 hSt.2.1 hSt.2.2.1 hS (hL.1.trans hC.2.2.1.symm) d0 d3 d4 d7 ?_ t7 (by simpa using t8) (by omega) (by omega) hC.2.2.2.2.2.1 ?_ hS.2.2 (by omega) (by omega)
  · intro x hx
    rw [hC.2.2.2.2.2.2.2.2.1, t9] at hx
    cases hx
  · intro t _ hz hq
    refine ⟨m, k, fun a kd h => ⟨(hW a kd h).1.kept (hq a (hW a kd h).1.lt), (hW a kd h).2⟩, Nat.le_trans hS.1 hz, fun q g1 g2 => (hq q (Nat.lt_of_lt_of_le g1 hS.1)).trans (hS.2.1 q g1 g2)⟩
/-- a static call of a method that has handlers -/
def xCH (M M' : xMt) (idx n : Nat) : Prop := GoodIn WS (va_wsS M.1.cls idx M'.1 (xws M')) ∧ M'.2.2.2.2.2 ≠ [] ∧ (M'.1.cls ≠ "java/lang/invoke/MethodHandle" ∧ M'.1.cls ≠ "java/lang/invoke/VarHandle" ∧ (parseMethodDescriptor M'.1.desc).map (fun d => d.parameters.length) = some n) ∧
  (M'.2.2.2.2.1.frames + 1 ≤ M.2.2.2.2.1.frames ∧ 8 + (M'.2.2.1 + 11) + M'.2.2.2.2.1.locals ≤ M.2.2.2.2.1.locals) ∧ M.2.2.2.2.2 = []
theorem x_invSH {M' : xMt} {idx n0 : Nat} {as st0 : List XV} {Q' : XR → XM → Prop} (hd : decode M.2.1 pc = .ok (.invokestatic idx, 3)) (hcw : xCH M M' idx n0) (hst0 : st0 = as.reverse ++ st) (hn0 : as.length = n0) (hcat : xCat st ≤ 8) {n bc0 bs0 : Nat} (hn : pc + 3 = n) (hb1 : bc0 = bc + M'.2.2.2.2.1.cells) (hb2 : bs0 = bs + M'.2.2.2.2.1.slots)
    (hcc : CC l G M' as m Q') (hB : xBk l G M n L st bc bs Q Q') : WW l G M pc L st0 m bc0 bs0 Q := by
  subst hst0; subst hb1; subst hb2
  intro p e s mid args below meth c hC H locs cells slots ls hW hS hL h1 h2
  obtain ⟨g1, g2, g3, g4, g5⟩ := hcw
  have hSt := hC.2.2.2.2.2.2.2.2.2.1
  have g2 : xws M' = Cond.codeWith M'.1 M'.2.1 M'.2.2.1 M'.2.2.2.1 M'.2.2.2.2.2 :: WS := by
    unfold xws xcw
    split
    · next h => exact absurd h g2
    · rfl
  have hrun := vx_runSX (p := p) (e := e) (below := below) (meth := meth) (locs := locs) (cells := cells) (slots := slots) (g := F0 mid pc ls ((as.map toV).reverse ++ st.map toV)) (As := as.map toV) (rest := st.map toV) (cc := M.2.1) (nL := M.2.2.1) (Ts := WS) (own := M.1.cls) (index := idx)
    ⟨hC.1, hC.2.1, hC.2.2.1, hC.2.2.2.1, hC.2.2.2.2.1⟩ hcc (vx_cwSW (R := M.2.2.2.2.1) n0 hC.2.2.2.2.1 g1 g2 rfl rfl g3 g4) (xPre (a := as) hW hSt hS) rfl (by rw [List.length_map]; exact hn0) hL.1 rfl (lv_room (by rw [xCat_eq]; exact hcat)) hd ⟨by omega, by omega⟩
  have e0 : (as.reverse ++ st).map toV = (as.map toV).reverse ++ st.map toV := by simp
  rw [e0]
  exact xw_after hC hS hL h1 h2 g5 hn hrun hB
/-- which handler takes E at pc -/
def xCatch (M : xMt) (pc : Nat) (E : String) (hpc : Nat) : Prop := ∃ (pre : List ExceptionTableEntry) (x : ExceptionTableEntry) (suf : List ExceptionTableEntry) (name : String), tableOf M.2.2.2.2.2 = pre ++ x :: suf ∧ (∀ z ∈ pre, covers z pc = false ∨ (z.catchType ≠ 0 ∧ ∃ nm : String, Cond.classLink M.1.cls z.catchType nm ∈ WS ∧ (E, nm) ∈ xNoc)) ∧ covers x pc = true ∧ x.catchType ≠ 0 ∧ Cond.classLink M.1.cls x.catchType name ∈ WS ∧ (E, name) ∈ xCast ∧ x.handlerPc = hpc
def xCT (M M' : xMt) (idx n : Nat) : Prop := GoodIn WS (wsV M.1.cls idx M'.1.cls M'.1 (xws M')) ∧ M'.2.2.2.2.2 = [] ∧ (M'.1.cls ≠ "java/lang/invoke/MethodHandle" ∧ M'.1.cls ≠ "java/lang/invoke/VarHandle" ∧ (parseMethodDescriptor M'.1.desc).map (fun d => d.parameters.length) = some n) ∧
  (M'.2.2.2.2.1.frames + 1 ≤ M.2.2.2.2.1.frames ∧ 8 + (M'.2.2.1 + 11) + M'.2.2.2.2.1.locals ≤ M.2.2.2.2.1.locals)
/-- a call within a try: what is thrown is caught here -/
theorem x_invVT {M' : xMt} {idx ci b n0 : Nat} {o : Option Nat} (ho : o = some b) {as st0 : List XV} {r : vw_C} {Q' : XR → XM → Prop} (hd : decode M.2.1 pc = .ok (.invokevirtual idx, 3)) (hcw : xCT M M' idx n0) (hst0 : st0 = as.reverse ++ vR o :: st) (hn0 : as.length = n0) (hk : m.1 b = some (oB ci)) (hci : vwCl[ci]? = some r) (hr : r.1 = M'.1.cls) (hcat : xCat st ≤ 8) {n bc0 bs0 : Nat} (hn : pc + 3 = n) (hb1 : bc0 = bc + M'.2.2.2.2.1.cells) (hb2 : bs0 = bs + M'.2.2.2.2.1.slots)
    (hcc : CC l G M' (vR (some b) :: as) m Q') (hB : ∀ (r : Option XV) (m' : XM), Q' (.inl r) m' → WW l G M n L (r.toList ++ st) m' bc bs Q) (hX : ∀ (E : String) (m' : XM), Q' (.inr E) m' → ∃ hpc, xCatch M pc E hpc ∧ ∀ q, WW l G M hpc L [vR (some q)] m' bc bs Q) : WW l G M pc L st0 m bc0 bs0 Q := by
  subst ho; subst hst0; subst hb1; subst hb2; subst hn
  intro p e s mid args below meth c hC H locs cells slots ls hW hS hL h1 h2
  obtain ⟨g1, g2, g3, g4⟩ := hcw
  have g2 := xws_code g2
  have hSt := hC.2.2.2.2.2.2.2.2.2.1
  have hts := hC.2.2.2.2.1
  have hrecv : ∃ cellB : Cell, H[b]? = some cellB ∧ cellB.vm.isStatics = false ∧ s.vm.findClass M'.1.cls = some cellB.cls := by
    rw [← hr]
    exact va_recv hSt.1 (xP1 hW hk) hci (q0 := 0) rfl
  have hpre := xPre (a := vR (some b) :: as) hW hSt hS
  have hrun := vx_runV (p := p) (e := e) (below := below) (meth := meth) (locs := locs) (cells := cells) (slots := slots) (g := F0 mid pc ls ((as.map toV).reverse ++ .ref b :: st.map toV)) (As := as.map toV) (rest := st.map toV) (cc := M.2.1) (nL := M.2.2.1) (Ts := WS) (own := M.1.cls) (index := idx)
    ⟨hC.1, hC.2.1, hC.2.2.1, hC.2.2.2.1, hC.2.2.2.2.1⟩ hcc (cwV (R := M.2.2.2.2.1) n0 hC.2.2.2.2.1 g1 g2 rfl rfl ⟨rfl, g3⟩ g4) ⟨hpre.1, hrecv, hpre.2⟩ rfl (by rw [List.length_map]; exact hn0) hL.1 rfl (lv_room (by rw [xCat_eq]; exact hcat)) hd ⟨by omega, by omega⟩
  have e0 : (as.reverse ++ vR (some b) :: st).map toV = (as.map toV).reverse ++ .ref b :: st.map toV := by simp [toV, va_rf]
  rw [e0]
  intro T hT X
  rcases hrun T hT X with ⟨v, st₀, t, T', L1, h0, X', hL1, e1, e2, ⟨⟨r, m', hv, hq, hw⟩, hF⟩, go⟩ | ⟨q, st₀, t, T', L1, E, ce, h0, X', hL1, e1, e2, ⟨m', hq, hw, hF⟩, hce, hcv, hcl, go⟩
  · cases hv
    obtain ⟨-, -, hS1⟩ := vx_keep (A1 := xA G) (free := xA G) h0 e1 hS (fun _ _ h => h) (fun _ h => h) hL1 hF
    obtain ⟨t2, a1, b1⟩ := hB r m' hq p e s mid args below meth c hC T'.heap (locs ++ L1) _ _ ls (by rw [e1]; exact hw) hS1 hL (by omega) (by omega) T' rfl X'
    refine ⟨t2, go t2 ?_, b1⟩
    have : (r.toList ++ st).map toV = (r.map toV).toList ++ st.map toV := by cases r <;> rfl
    rw [this] at a1
    exact a1
  · obtain ⟨-, -, hS1⟩ := vx_keep (A1 := xA G) (free := xA G) h0 e1 hS (fun _ _ h => h) (fun _ h => h) hL1 hF
    obtain ⟨hpc, ⟨pre, x, suf, name, c1, c2, c3, c4, c5, c6, rfl⟩, kk⟩ := hX E m' hq
    have := vx_catch (p := p) (l := l) (e := e) (R := M.2.2.2.2.1) (below := below) (ls := ls) (rest := st.map toV) (locs := locs ++ L1) (pc := pc) (E := E) (H := T'.heap) (q := q) hC.2.2.2.1 pre x suf (by rw [hC.2.2.2.2.2.2.2.2.1]; exact c1)
      (fun z hz => (c2 z hz).imp id fun ⟨z1, nm, z2, z3⟩ => ⟨z1, nm, hts _ z2, hSt.2.2.2.2.2.2.2.2.2.1 _ z3⟩) c3 c4 (hts _ c5) (va_Nw.use rfl (hSt.2.2.2.2.2.2.2.1 _ c6)) (by rw [e1]; exact hce) hcv hcl
      (kk q p e s mid args below meth c hC T'.heap (locs ++ L1) _ _ ls (by rw [e1]; exact hw) hS1 hL (by omega) (by omega)) T' rfl X'
    obtain ⟨t2, a1, b1⟩ := this
    exact ⟨t2, go.trans a1, b1⟩
end XTry
end
section
/-! non-throwing calls, caught calls -/
def xNo : XR → XM → Prop := fun _ _ => False
def kE (h : String → XM → Prop) : XR → XM → Prop
  | .inr E, m => h E m
  | _, _ => False
section XG
variable {l : Launch} {G : xG} {M : xMt} {pc : Nat} {L : List (Option XV)} {st : List XV} {m : XM} {bc bs : Nat} {Q : XR → XM → Prop}
theorem xBk.I0 {n : Nat} {f : Int32 → XM → Prop} (h : ∀ v m', f v m' → WW l G M n L (vI v :: st) m' bc bs Q) : xBk l G M n L st bc bs Q (kI f xNo) :=
  ⟨fun r m' hq => by
    rcases r with _ | (v | v | v)
    · exact hq.elim
    · exact h v m' hq
    · exact hq.elim
    · exact hq.elim, fun E m' hq => hq.elim⟩
theorem xBk.J0 {n : Nat} {f : Int64 → XM → Prop} (h : ∀ v m', f v m' → WW l G M n L (vL v :: st) m' bc bs Q) : xBk l G M n L st bc bs Q (kL f xNo) :=
  ⟨fun r m' hq => by
    rcases r with _ | (v | v | v)
    · exact hq.elim
    · exact hq.elim
    · exact h v m' hq
    · exact hq.elim, fun E m' hq => hq.elim⟩
theorem xBk.R0 {n : Nat} {f : Option Nat → XM → Prop} (h : ∀ v m', f v m' → WW l G M n L (vR v :: st) m' bc bs Q) : xBk l G M n L st bc bs Q (kR f xNo) :=
  ⟨fun r m' hq => by
    rcases r with _ | (v | v | v)
    · exact hq.elim
    · exact hq.elim
    · exact hq.elim
    · exact h v m' hq, fun E m' hq => hq.elim⟩
theorem kI.no {f : Int32 → XM → Prop} : ∀ E m', ¬ kI f xNo (.inr E) m' := fun _ _ h => h
theorem kL.no {f : Int64 → XM → Prop} : ∀ E m', ¬ kL f xNo (.inr E) m' := fun _ _ h => h
theorem kR.no {f : Option Nat → XM → Prop} : ∀ E m', ¬ kR f xNo (.inr E) m' := fun _ _ h => h
theorem xTI {n : Nat} {f : Int32 → XM → Prop} {g : String → XM → Prop} (h : ∀ v m', f v m' → WW l G M n L (vI v :: st) m' bc bs Q) : ∀ (r : Option XV) (m' : XM), kI f (kE g) (.inl r) m' → WW l G M n L (r.toList ++ st) m' bc bs Q := by
  intro r m' hq
  rcases r with _ | (v | v | v)
  · exact hq.elim
  · exact h v m' hq
  · exact hq.elim
  · exact hq.elim
theorem xTV {n : Nat} {f : XM → Prop} {g : String → XM → Prop} (h : ∀ m', f m' → WW l G M n L st m' bc bs Q) : ∀ (r : Option XV) (m' : XM), kV f (kE g) (.inl r) m' → WW l G M n L (r.toList ++ st) m' bc bs Q := by
  intro r m' hq
  rcases r with _ | (v | v | v)
  · exact h m' hq
  · exact hq.elim
  · exact hq.elim
  · exact hq.elim
end XG
theorem sw3 (x : Int32) : x = 0 ∨ x = 1 ∨ x = 2 ∨ (x.toInt < 0 ∨ 2 < x.toInt) := by
  by_cases h : x.toInt < 0 ∨ 2 < x.toInt
  · exact Or.inr (Or.inr (Or.inr h))
  · have : x.toInt = 0 ∨ x.toInt = 1 ∨ x.toInt = 2 := by omega
    rcases this with h | h | h
    · exact Or.inl (Int32.toInt_inj.mp h)
    · exact Or.inr (Or.inl (Int32.toInt_inj.mp h))
    · exact Or.inr (Or.inr (Or.inl (Int32.toInt_inj.mp h)))
theorem sw12 (x : Int32) : x = 0 ∨ x = 1 ∨ x = 2 ∨ x = 3 ∨ x = 4 ∨ x = 5 ∨ x = 6 ∨ x = 7 ∨ x = 8 ∨ x = 9 ∨ x = 10 ∨ x = 11 ∨ (x.toInt < 0 ∨ 11 < x.toInt) := by
  by_cases h : x.toInt < 0 ∨ 11 < x.toInt
  · simp only [h, or_true]
  · have : x.toInt = 0 ∨ x.toInt = 1 ∨ x.toInt = 2 ∨ x.toInt = 3 ∨ x.toInt = 4 ∨ x.toInt = 5 ∨ x.toInt = 6 ∨ x.toInt = 7 ∨ x.toInt = 8 ∨ x.toInt = 9 ∨ x.toInt = 10 ∨ x.toInt = 11 := by omega
    rcases this with h | h | h | h | h | h | h | h | h | h | h | h
    · have : x = 0 := Int32.toInt_inj.mp h
      simp [this]
    · have : x = 1 := Int32.toInt_inj.mp h
      simp [this]
    · have : x = 2 := Int32.toInt_inj.mp h
      simp [this]
    · have : x = 3 := Int32.toInt_inj.mp h
      simp [this]
    · have : x = 4 := Int32.toInt_inj.mp h
      simp [this]
    · have : x = 5 := Int32.toInt_inj.mp h
      simp [this]
    · have : x = 6 := Int32.toInt_inj.mp h
      simp [this]
    · have : x = 7 := Int32.toInt_inj.mp h
      simp [this]
    · have : x = 8 := Int32.toInt_inj.mp h
      simp [this]
    · have : x = 9 := Int32.toInt_inj.mp h
      simp [this]
    · have : x = 10 := Int32.toInt_inj.mp h
      simp [this]
    · have : x = 11 := Int32.toInt_inj.mp h
      simp [this]
end
section
theorem pC_9 : xFp "TinyCache" "<init>" 9 4 0 2 (.array .int) true := ⟨RX4, TX4, 8, tyX4, rfl, uwX4, by decide, w_132, rfl, okX4, nmX4, rfl, by decide +kernel, fun _ => ⟨rfl, rfl⟩⟩
theorem pC_17 : xFp "TinyCache" "<init>" 17 4 1 2 (.array (.object "TinyCache$Page")) true := ⟨RX4, TX4, 8, tyX4, rfl, uwX4, by decide, w_133, rfl, okX4, nmX4, rfl, by decide +kernel, fun _ => ⟨rfl, rfl⟩⟩
theorem nC_21 : xNw "TinyCache" 21 2 4 := ⟨RX2, TX2, tyX2, rfl, uwX2, okX2, w_88, w_89, w_39, rfl, by decide +kernel⟩
theorem pC_24 : xFp "TinyCache" "<init>" 24 4 2 2 (.object "TinyCache$Log") true := ⟨RX4, TX4, 8, tyX4, rfl, uwX4, by decide, w_134, rfl, okX4, nmX4, rfl, by decide +kernel, fun _ => ⟨rfl, rfl⟩⟩
theorem pC_28 : xFp "TinyCache" "<init>" 28 4 3 2 (.array .int) true := ⟨RX4, TX4, 8, tyX4, rfl, uwX4, by decide, w_135, rfl, okX4, nmX4, rfl, by decide +kernel, fun _ => ⟨rfl, rfl⟩⟩
theorem pC_33 : xFp "TinyCache" "<init>" 33 4 4 2 (.array (.object "TinyCache$Item")) true := ⟨RX4, TX4, 8, tyX4, rfl, uwX4, by decide, w_136, rfl, okX4, nmX4, rfl, by decide +kernel, fun _ => ⟨rfl, rfl⟩⟩
theorem pC_37 : xFp "TinyCache" "<init>" 37 4 5 2 (.array (.object "TinyCache$Item")) true := ⟨RX4, TX4, 8, tyX4, rfl, uwX4, by decide, w_137, rfl, okX4, nmX4, rfl, by decide +kernel, fun _ => ⟨rfl, rfl⟩⟩
theorem pC_40 {nam : String} : xFp "TinyCache" nam 40 4 6 2 (.object "TinyCache$Item") false := ⟨RX4, TX4, 8, tyX4, rfl, uwX4, by decide, w_138, rfl, okX4, nmX4, rfl, by decide +kernel, fun h => nomatch h⟩
theorem pC_44 {nam : String} : xFp "TinyCache" nam 44 4 7 0 (.boolean) false := ⟨RX4, TX4, 8, tyX4, rfl, uwX4, by decide, w_139, rfl, okX4, nmX4, rfl, by decide +kernel, fun h => nomatch h⟩
theorem nC_116 : xNw "TinyCache" 116 3 4 := ⟨RX3, TX3, tyX3, rfl, uwX3, okX3, w_63, w_65, w_38, rfl, by decide +kernel⟩
theorem pP_11 : xFp "TinyCache$Page" "<init>" 11 3 0 2 (.array (.object "TinyCache$Item")) true := ⟨RX3, TX3, 4, tyX3, rfl, uwX3, by decide, w_72, rfl, okX3, nmX3, rfl, by decide +kernel, fun _ => ⟨rfl, rfl⟩⟩
theorem pP_17 {nam : String} : xFp "TinyCache$Page" nam 17 3 1 0 (.int) false := ⟨RX3, TX3, 4, tyX3, rfl, uwX3, by decide, w_73, rfl, okX3, nmX3, rfl, by decide +kernel, fun h => nomatch h⟩
theorem pP_21 {nam : String} : xFp "TinyCache$Page" nam 21 3 2 0 (.int) false := ⟨RX3, TX3, 4, tyX3, rfl, uwX3, by decide, w_74, rfl, okX3, nmX3, rfl, by decide +kernel, fun h => nomatch h⟩
theorem pP_24 {nam : String} : xFp "TinyCache$Page" nam 24 3 3 1 (.long) false := ⟨RX3, TX3, 4, tyX3, rfl, uwX3, by decide, w_76, rfl, okX3, nmX3, rfl, by decide +kernel, fun h => nomatch h⟩
theorem pG_13 : xFp "TinyCache$Log" "<init>" 13 2 0 2 (.array (.object "TinyCache$Page")) true := ⟨RX2, TX2, 4, tyX2, rfl, uwX2, by decide, w_115, rfl, okX2, nmX2, rfl, by decide +kernel, fun _ => ⟨rfl, rfl⟩⟩
theorem nG_19 : xNw "TinyCache$Log" 19 0 3 := ⟨RX0, TX0, tyX0, rfl, uwX0, okX0, w_95, w_96, w_40, rfl, by decide +kernel⟩
theorem pG_22 : xFp "TinyCache$Log" "<init>" 22 2 1 2 (.object "TinyCache$Index") true := ⟨RX2, TX2, 4, tyX2, rfl, uwX2, by decide, w_117, rfl, okX2, nmX2, rfl, by decide +kernel, fun _ => ⟨rfl, rfl⟩⟩
theorem nG_26 : xNw "TinyCache$Log" 26 3 4 := ⟨RX3, TX3, tyX3, rfl, uwX3, okX3, w_113, w_65, w_38, rfl, by decide +kernel⟩
theorem pG_29 {nam : String} : xFp "TinyCache$Log" nam 29 2 2 2 (.object "TinyCache$Page") false := ⟨RX2, TX2, 4, tyX2, rfl, uwX2, by decide, w_119, rfl, okX2, nmX2, rfl, by decide +kernel, fun h => nomatch h⟩
theorem pG_33 {nam : String} : xFp "TinyCache$Log" nam 33 2 3 0 (.int) false := ⟨RX2, TX2, 4, tyX2, rfl, uwX2, by decide, w_121, rfl, okX2, nmX2, rfl, by decide +kernel, fun h => nomatch h⟩
theorem pI_11 : xFp "TinyCache$Index" "<init>" 11 0 0 2 (.array (.object "TinyCache$Item")) true := ⟨RX0, TX0, 3, tyX0, rfl, uwX0, by decide, w_102, rfl, okX0, nmX0, rfl, by decide +kernel, fun _ => ⟨rfl, rfl⟩⟩
theorem pI_17 : xFp "TinyCache$Index" "<init>" 17 0 1 2 (.array .int) true := ⟨RX0, TX0, 3, tyX0, rfl, uwX0, by decide, w_103, rfl, okX0, nmX0, rfl, by decide +kernel, fun _ => ⟨rfl, rfl⟩⟩
theorem pI_21 {nam : String} : xFp "TinyCache$Index" nam 21 0 2 0 (.int) false := ⟨RX0, TX0, 3, tyX0, rfl, uwX0, by decide, w_104, rfl, okX0, nmX0, rfl, by decide +kernel, fun h => nomatch h⟩
theorem fC_24 : xFd "TinyCache" 24 4 2 2 := ⟨RX4, TX4, 8, rfl, uwX4, by decide, w_134, rfl⟩
theorem fC_77 : xFd "TinyCache" 77 2 1 2 := ⟨RX2, TX2, 4, rfl, uwX2, by decide, w_118, rfl⟩
theorem fC_136 : xFd "TinyCache" 136 0 2 0 := ⟨RX0, TX0, 3, rfl, uwX0, by decide, w_105, rfl⟩
theorem fC_144 : xFd "TinyCache" 144 2 2 2 := ⟨RX2, TX2, 4, rfl, uwX2, by decide, w_120, rfl⟩
theorem fC_148 : xFd "TinyCache" 148 3 2 0 := ⟨RX3, TX3, 4, rfl, uwX3, by decide, w_75, rfl⟩
theorem fC_28 : xFd "TinyCache" 28 4 3 2 := ⟨RX4, TX4, 8, rfl, uwX4, by decide, w_135, rfl⟩
theorem fG_33 : xFd "TinyCache$Log" 33 2 3 0 := ⟨RX2, TX2, 4, rfl, uwX2, by decide, w_121, rfl⟩
theorem fC_9 : xFd "TinyCache" 9 4 0 2 := ⟨RX4, TX4, 8, rfl, uwX4, by decide, w_132, rfl⟩
theorem nC_31 : xNw "TinyCache" 31 1 6 := ⟨RX1, TX1, tyX1, rfl, uwX1, okX1, w_131, w_291, w_48, rfl, by decide +kernel⟩
theorem fC_44 : xFd "TinyCache" 44 4 7 0 := ⟨RX4, TX4, 8, rfl, uwX4, by decide, w_139, rfl⟩
theorem pT_9 {nam : String} : xFp "TinyCache$Item" nam 9 1 4 0 (.int) false := ⟨RX1, TX1, 6, tyX1, rfl, uwX1, by decide, w_328, rfl, okX1, nmX1, rfl, by decide +kernel, fun h => nomatch h⟩
theorem pT_15 {nam : String} : xFp "TinyCache$Item" nam 15 1 5 0 (.boolean) false := ⟨RX1, TX1, 6, tyX1, rfl, uwX1, by decide, w_331, rfl, okX1, nmX1, rfl, by decide +kernel, fun h => nomatch h⟩
theorem pT_23 : xFp "TinyCache$Item" "<init>" 23 1 0 1 (.long) true := ⟨RX1, TX1, 6, tyX1, rfl, uwX1, by decide, w_318, rfl, okX1, nmX1, rfl, by decide +kernel, fun _ => ⟨rfl, rfl⟩⟩
theorem pT_27 : xFp "TinyCache$Item" "<init>" 27 1 1 2 (.array .int) true := ⟨RX1, TX1, 6, tyX1, rfl, uwX1, by decide, w_322, rfl, okX1, nmX1, rfl, by decide +kernel, fun _ => ⟨rfl, rfl⟩⟩
theorem pT_35 : xFp "TinyCache$Item" "<init>" 35 1 2 0 (.int) true := ⟨RX1, TX1, 6, tyX1, rfl, uwX1, by decide, w_324, rfl, okX1, nmX1, rfl, by decide +kernel, fun _ => ⟨rfl, rfl⟩⟩
theorem pT_41 : xFp "TinyCache$Item" "<init>" 41 1 3 1 (.long) true := ⟨RX1, TX1, 6, tyX1, rfl, uwX1, by decide, w_326, rfl, okX1, nmX1, rfl, by decide +kernel, fun _ => ⟨rfl, rfl⟩⟩
theorem fG_29 : xFd "TinyCache$Log" 29 2 2 2 := ⟨RX2, TX2, 4, rfl, uwX2, by decide, w_119, rfl⟩
theorem fT_27 : xFd "TinyCache$Item" 27 1 1 2 := ⟨RX1, TX1, 6, rfl, uwX1, by decide, w_322, rfl⟩
theorem fP_21 : xFd "TinyCache$Page" 21 3 2 0 := ⟨RX3, TX3, 4, rfl, uwX3, by decide, w_74, rfl⟩
theorem fC_37 : xFd "TinyCache" 37 4 5 2 := ⟨RX4, TX4, 8, rfl, uwX4, by decide, w_137, rfl⟩
theorem fC_33 : xFd "TinyCache" 33 4 4 2 := ⟨RX4, TX4, 8, rfl, uwX4, by decide, w_136, rfl⟩
theorem fC_175 : xFd "TinyCache" 175 1 0 1 := ⟨RX1, TX1, 6, rfl, uwX1, by decide, w_321, rfl⟩
theorem fC_17 : xFd "TinyCache" 17 4 1 2 := ⟨RX4, TX4, 8, rfl, uwX4, by decide, w_133, rfl⟩
theorem fI_21 : xFd "TinyCache$Index" 21 0 2 0 := ⟨RX0, TX0, 3, rfl, uwX0, by decide, w_104, rfl⟩
theorem fI_11 : xFd "TinyCache$Index" 11 0 0 2 := ⟨RX0, TX0, 3, rfl, uwX0, by decide, w_102, rfl⟩
theorem fI_40 : xFd "TinyCache$Index" 40 1 5 0 := ⟨RX1, TX1, 6, rfl, uwX1, by decide, w_334, rfl⟩
theorem fI_44 : xFd "TinyCache$Index" 44 1 4 0 := ⟨RX1, TX1, 6, rfl, uwX1, by decide, w_330, rfl⟩
theorem fI_17 : xFd "TinyCache$Index" 17 0 1 2 := ⟨RX0, TX0, 3, rfl, uwX0, by decide, w_103, rfl⟩
theorem fI_33 : xFd "TinyCache$Index" 33 1 2 0 := ⟨RX1, TX1, 6, rfl, uwX1, by decide, w_325, rfl⟩
theorem fC_201 : xFd "TinyCache" 201 3 3 1 := ⟨RX3, TX3, 4, rfl, uwX3, by decide, w_77, rfl⟩
theorem fP_11 : xFd "TinyCache$Page" 11 3 0 2 := ⟨RX3, TX3, 4, rfl, uwX3, by decide, w_72, rfl⟩
theorem fP_17 : xFd "TinyCache$Page" 17 3 1 0 := ⟨RX3, TX3, 4, rfl, uwX3, by decide, w_73, rfl⟩
theorem fP_54 : xFd "TinyCache$Page" 54 1 0 1 := ⟨RX1, TX1, 6, rfl, uwX1, by decide, w_320, rfl⟩
theorem fP_24 : xFd "TinyCache$Page" 24 3 3 1 := ⟨RX3, TX3, 4, rfl, uwX3, by decide, w_76, rfl⟩
theorem fP_31 : xFd "TinyCache$Page" 31 1 3 1 := ⟨RX1, TX1, 6, rfl, uwX1, by decide, w_327, rfl⟩
theorem fP_46 : xFd "TinyCache$Page" 46 1 5 0 := ⟨RX1, TX1, 6, rfl, uwX1, by decide, w_335, rfl⟩
theorem pP_46 {nam : String} : xFp "TinyCache$Page" nam 46 1 5 0 (.boolean) false := ⟨RX1, TX1, 6, tyX1, rfl, uwX1, by decide, w_335, rfl, okX1, nmX1, rfl, by decide +kernel, fun h => nomatch h⟩
theorem fG_13 : xFd "TinyCache$Log" 13 2 0 2 := ⟨RX2, TX2, 4, rfl, uwX2, by decide, w_115, rfl⟩
theorem pG_50 {nam : String} : xFp "TinyCache$Log" nam 50 1 5 0 (.boolean) false := ⟨RX1, TX1, 6, tyX1, rfl, uwX1, by decide, w_332, rfl, okX1, nmX1, rfl, by decide +kernel, fun h => nomatch h⟩
theorem pG_47 {nam : String} : xFp "TinyCache$Log" nam 47 1 4 0 (.int) false := ⟨RX1, TX1, 6, tyX1, rfl, uwX1, by decide, w_329, rfl, okX1, nmX1, rfl, by decide +kernel, fun h => nomatch h⟩
theorem fG_22 : xFd "TinyCache$Log" 22 2 1 2 := ⟨RX2, TX2, 4, rfl, uwX2, by decide, w_117, rfl⟩
theorem fI_25 : xFd "TinyCache$Index" 25 1 0 1 := ⟨RX1, TX1, 6, rfl, uwX1, by decide, w_319, rfl⟩
theorem fC_40 : xFd "TinyCache" 40 4 6 2 := ⟨RX4, TX4, 8, rfl, uwX4, by decide, w_138, rfl⟩
theorem pC_93 {nam : String} : xFp "TinyCache" nam 93 1 5 0 (.boolean) false := ⟨RX1, TX1, 6, tyX1, rfl, uwX1, by decide, w_333, rfl, okX1, nmX1, rfl, by decide +kernel, fun h => nomatch h⟩
theorem fC_96 : xFd "TinyCache" 96 1 1 2 := ⟨RX1, TX1, 6, rfl, uwX1, by decide, w_323, rfl⟩
theorem fG_47 : xFd "TinyCache$Log" 47 1 4 0 := ⟨RX1, TX1, 6, rfl, uwX1, by decide, w_329, rfl⟩
theorem fC_122 : xFd "TinyCache" 122 2 0 2 := ⟨RX2, TX2, 4, rfl, uwX2, by decide, w_116, rfl⟩
theorem fT_23 : xFd "TinyCache$Item" 23 1 0 1 := ⟨RX1, TX1, 6, rfl, uwX1, by decide, w_318, rfl⟩
theorem pM_7 {nam : String} : xFp "TinyCacheModel" nam 7 5 1 0 (.boolean) false := ⟨RX5, TX5, 24, tyX5, rfl, uwX5, by decide, w_553, rfl, okX5, nmX5, rfl, by decide +kernel, fun h => nomatch h⟩
theorem pM_13 : xFp "TinyCacheModel" "<init>" 13 5 2 2 (.array .int) true := ⟨RX5, TX5, 24, tyX5, rfl, uwX5, by decide, w_554, rfl, okX5, nmX5, rfl, by decide +kernel, fun _ => ⟨rfl, rfl⟩⟩
theorem pM_17 : xFp "TinyCacheModel" "<init>" 17 5 4 2 (.array .int) true := ⟨RX5, TX5, 24, tyX5, rfl, uwX5, by decide, w_556, rfl, okX5, nmX5, rfl, by decide +kernel, fun _ => ⟨rfl, rfl⟩⟩
theorem pM_20 : xFp "TinyCacheModel" "<init>" 20 5 6 2 (.array .long) true := ⟨RX5, TX5, 24, tyX5, rfl, uwX5, by decide, w_557, rfl, okX5, nmX5, rfl, by decide +kernel, fun _ => ⟨rfl, rfl⟩⟩
theorem pM_24 : xFp "TinyCacheModel" "<init>" 24 5 7 2 (.array .int) true := ⟨RX5, TX5, 24, tyX5, rfl, uwX5, by decide, w_558, rfl, okX5, nmX5, rfl, by decide +kernel, fun _ => ⟨rfl, rfl⟩⟩
theorem pM_28 : xFp "TinyCacheModel" "<init>" 28 5 8 2 (.array .int) true := ⟨RX5, TX5, 24, tyX5, rfl, uwX5, by decide, w_559, rfl, okX5, nmX5, rfl, by decide +kernel, fun _ => ⟨rfl, rfl⟩⟩
theorem pM_31 : xFp "TinyCacheModel" "<init>" 31 5 9 2 (.array .boolean) true := ⟨RX5, TX5, 24, tyX5, rfl, uwX5, by decide, w_560, rfl, okX5, nmX5, rfl, by decide +kernel, fun _ => ⟨rfl, rfl⟩⟩
theorem pM_35 : xFp "TinyCacheModel" "<init>" 35 5 10 2 (.array .boolean) true := ⟨RX5, TX5, 24, tyX5, rfl, uwX5, by decide, w_561, rfl, okX5, nmX5, rfl, by decide +kernel, fun _ => ⟨rfl, rfl⟩⟩
theorem pM_38 : xFp "TinyCacheModel" "<init>" 38 5 11 2 (.array .int) true := ⟨RX5, TX5, 24, tyX5, rfl, uwX5, by decide, w_562, rfl, okX5, nmX5, rfl, by decide +kernel, fun _ => ⟨rfl, rfl⟩⟩
theorem pM_41 : xFp "TinyCacheModel" "<init>" 41 5 12 2 (.array .boolean) true := ⟨RX5, TX5, 24, tyX5, rfl, uwX5, by decide, w_563, rfl, okX5, nmX5, rfl, by decide +kernel, fun _ => ⟨rfl, rfl⟩⟩
theorem pM_44 : xFp "TinyCacheModel" "<init>" 44 5 14 2 (.array .int) true := ⟨RX5, TX5, 24, tyX5, rfl, uwX5, by decide, w_565, rfl, okX5, nmX5, rfl, by decide +kernel, fun _ => ⟨rfl, rfl⟩⟩
theorem pM_47 : xFp "TinyCacheModel" "<init>" 47 5 15 2 (.array .int) true := ⟨RX5, TX5, 24, tyX5, rfl, uwX5, by decide, w_566, rfl, okX5, nmX5, rfl, by decide +kernel, fun _ => ⟨rfl, rfl⟩⟩
theorem pM_50 : xFp "TinyCacheModel" "<init>" 50 5 17 2 (.array .boolean) true := ⟨RX5, TX5, 24, tyX5, rfl, uwX5, by decide, w_568, rfl, okX5, nmX5, rfl, by decide +kernel, fun _ => ⟨rfl, rfl⟩⟩
theorem pM_53 : xFp "TinyCacheModel" "<init>" 53 5 19 2 (.array .int) true := ⟨RX5, TX5, 24, tyX5, rfl, uwX5, by decide, w_570, rfl, okX5, nmX5, rfl, by decide +kernel, fun _ => ⟨rfl, rfl⟩⟩
theorem pM_56 : xFp "TinyCacheModel" "<init>" 56 5 21 2 (.array .int) true := ⟨RX5, TX5, 24, tyX5, rfl, uwX5, by decide, w_572, rfl, okX5, nmX5, rfl, by decide +kernel, fun _ => ⟨rfl, rfl⟩⟩
theorem pM_59 : xFp "TinyCacheModel" "<init>" 59 5 22 2 (.array .boolean) true := ⟨RX5, TX5, 24, tyX5, rfl, uwX5, by decide, w_573, rfl, okX5, nmX5, rfl, by decide +kernel, fun _ => ⟨rfl, rfl⟩⟩
theorem pM_62 : xFp "TinyCacheModel" "<init>" 62 5 23 2 (.array .int) true := ⟨RX5, TX5, 24, tyX5, rfl, uwX5, by decide, w_574, rfl, okX5, nmX5, rfl, by decide +kernel, fun _ => ⟨rfl, rfl⟩⟩
theorem fM_65 : xFd "TinyCacheModel" 65 5 0 0 := ⟨RX5, TX5, 24, rfl, uwX5, by decide, w_552, rfl⟩
theorem pM_65 {nam : String} : xFp "TinyCacheModel" nam 65 5 0 0 (.int) false := ⟨RX5, TX5, 24, tyX5, rfl, uwX5, by decide, w_552, rfl, okX5, nmX5, rfl, by decide +kernel, fun h => nomatch h⟩
theorem fM_13 : xFd "TinyCacheModel" 13 5 2 2 := ⟨RX5, TX5, 24, rfl, uwX5, by decide, w_554, rfl⟩
theorem pM_83 {nam : String} : xFp "TinyCacheModel" nam 83 5 18 0 (.int) false := ⟨RX5, TX5, 24, tyX5, rfl, uwX5, by decide, w_569, rfl, okX5, nmX5, rfl, by decide +kernel, fun h => nomatch h⟩
theorem pM_86 {nam : String} : xFp "TinyCacheModel" nam 86 5 20 0 (.int) false := ⟨RX5, TX5, 24, tyX5, rfl, uwX5, by decide, w_571, rfl, okX5, nmX5, rfl, by decide +kernel, fun h => nomatch h⟩
theorem fM_20 : xFd "TinyCacheModel" 20 5 6 2 := ⟨RX5, TX5, 24, rfl, uwX5, by decide, w_557, rfl⟩
theorem fM_24 : xFd "TinyCacheModel" 24 5 7 2 := ⟨RX5, TX5, 24, rfl, uwX5, by decide, w_558, rfl⟩
theorem fM_28 : xFd "TinyCacheModel" 28 5 8 2 := ⟨RX5, TX5, 24, rfl, uwX5, by decide, w_559, rfl⟩
theorem fM_31 : xFd "TinyCacheModel" 31 5 9 2 := ⟨RX5, TX5, 24, rfl, uwX5, by decide, w_560, rfl⟩
theorem fM_41 : xFd "TinyCacheModel" 41 5 12 2 := ⟨RX5, TX5, 24, rfl, uwX5, by decide, w_563, rfl⟩
theorem fM_7 : xFd "TinyCacheModel" 7 5 1 0 := ⟨RX5, TX5, 24, rfl, uwX5, by decide, w_553, rfl⟩
theorem fM_44 : xFd "TinyCacheModel" 44 5 14 2 := ⟨RX5, TX5, 24, rfl, uwX5, by decide, w_565, rfl⟩
theorem fM_47 : xFd "TinyCacheModel" 47 5 15 2 := ⟨RX5, TX5, 24, rfl, uwX5, by decide, w_566, rfl⟩
theorem fM_96 : xFd "TinyCacheModel" 96 5 16 0 := ⟨RX5, TX5, 24, rfl, uwX5, by decide, w_567, rfl⟩
theorem fM_86 : xFd "TinyCacheModel" 86 5 20 0 := ⟨RX5, TX5, 24, rfl, uwX5, by decide, w_571, rfl⟩
theorem fM_56 : xFd "TinyCacheModel" 56 5 21 2 := ⟨RX5, TX5, 24, rfl, uwX5, by decide, w_572, rfl⟩
theorem fM_59 : xFd "TinyCacheModel" 59 5 22 2 := ⟨RX5, TX5, 24, rfl, uwX5, by decide, w_573, rfl⟩
theorem fM_83 : xFd "TinyCacheModel" 83 5 18 0 := ⟨RX5, TX5, 24, rfl, uwX5, by decide, w_569, rfl⟩
theorem fM_53 : xFd "TinyCacheModel" 53 5 19 2 := ⟨RX5, TX5, 24, rfl, uwX5, by decide, w_570, rfl⟩
theorem fM_38 : xFd "TinyCacheModel" 38 5 11 2 := ⟨RX5, TX5, 24, rfl, uwX5, by decide, w_562, rfl⟩
theorem fM_62 : xFd "TinyCacheModel" 62 5 23 2 := ⟨RX5, TX5, 24, rfl, uwX5, by decide, w_574, rfl⟩
theorem fM_35 : xFd "TinyCacheModel" 35 5 10 2 := ⟨RX5, TX5, 24, rfl, uwX5, by decide, w_561, rfl⟩
theorem fM_50 : xFd "TinyCacheModel" 50 5 17 2 := ⟨RX5, TX5, 24, rfl, uwX5, by decide, w_568, rfl⟩
theorem pM_96 {nam : String} : xFp "TinyCacheModel" nam 96 5 16 0 (.int) false := ⟨RX5, TX5, 24, tyX5, rfl, uwX5, by decide, w_567, rfl, okX5, nmX5, rfl, by decide +kernel, fun h => nomatch h⟩
theorem fM_106 : xFd "TinyCacheModel" 106 5 13 0 := ⟨RX5, TX5, 24, rfl, uwX5, by decide, w_564, rfl⟩
theorem pM_106 {nam : String} : xFp "TinyCacheModel" nam 106 5 13 0 (.int) false := ⟨RX5, TX5, 24, tyX5, rfl, uwX5, by decide, w_564, rfl, okX5, nmX5, rfl, by decide +kernel, fun h => nomatch h⟩
theorem fM_179 : xFd "TinyCacheModel" 179 5 3 0 := ⟨RX5, TX5, 24, rfl, uwX5, by decide, w_555, rfl⟩
theorem pM_179 {nam : String} : xFp "TinyCacheModel" nam 179 5 3 0 (.int) false := ⟨RX5, TX5, 24, tyX5, rfl, uwX5, by decide, w_555, rfl, okX5, nmX5, rfl, by decide +kernel, fun h => nomatch h⟩
theorem fM_17 : xFd "TinyCacheModel" 17 5 4 2 := ⟨RX5, TX5, 24, rfl, uwX5, by decide, w_556, rfl⟩
theorem nW_8 : xNw "TinyCacheLaw" 8 4 8 := ⟨RX4, TX4, tyX4, rfl, uwX4, okX4, w_52, w_53, w_37, rfl, by decide +kernel⟩
theorem nW_52 : xNw "TinyCacheLaw" 52 5 24 := ⟨RX5, TX5, tyX5, rfl, uwX5, okX5, w_545, w_546, w_41, rfl, by decide +kernel⟩
def xC_init : xMt := (yC_init, cC_init, 1, none, { frames := 4, cells := 268, slots := 2326, locals := 74 }, [])
def xC_newPages : xMt := (yC_newPages, cC_newPages, 3, (some (.array (.object "TinyCache$Page"))), { frames := 2, cells := 129, slots := 832, locals := 32 }, [])
def xP_init : xMt := (yP_init, cP_init, 1, none, { frames := 1, cells := 1, slots := 8, locals := 12 }, [])
def xG_init : xMt := (yG_init, cG_init, 1, none, { frames := 3, cells := 134, slots := 1175, locals := 54 }, [])
def xI_init : xMt := (yI_init, cI_init, 1, none, { frames := 1, cells := 2, slots := 328, locals := 12 }, [])
def xC_setOf : xMt := (yC_setOf, cC_setOf, 3, (some .int), { frames := 1, cells := 0, slots := 0, locals := 23 }, [])
def xC_mix : xMt := (yC_mix, cC_mix, 4, (some .long), { frames := 0, cells := 0, slots := 0, locals := 0 }, [])
def xC_setNumber : xMt := (yC_setNumber, cC_setNumber, 2, (some .int), { frames := 0, cells := 0, slots := 0, locals := 0 }, [])
def xC_count : xMt := (yC_count, cC_count, 2, (some .int), { frames := 1, cells := 0, slots := 0, locals := 20 }, [])
def xG_fullSegments : xMt := (yG_fullSegments, cG_fullSegments, 1, (some .int), { frames := 0, cells := 0, slots := 0, locals := 0 }, [])
def xW_word : xMt := (yW_word, cW_word, 5, (some .int), { frames := 7, cells := 1, slots := 6, locals := 112 }, [(0, 10, 13, 13)])
def xC_word : xMt := (yC_word, cC_word, 4, (some .int), { frames := 6, cells := 1, slots := 6, locals := 89 }, [])
def xW_put : xMt := (yW_put, cW_put, 5, (some .int), { frames := 8, cells := 4, slots := 26, locals := 167 }, [(0, 6, 9, 19), (0, 6, 13, 21)])
def xC_put : xMt := (yC_put, cC_put, 6, none, { frames := 7, cells := 4, slots := 26, locals := 142 }, [])
def xC_refuseWhenClosed : xMt := (yC_refuseWhenClosed, cC_refuseWhenClosed, 1, none, { frames := 6, cells := 1, slots := 6, locals := 89 }, [])
def xJ_copyOf : xMt := (yJ_copyOf, cJ_copyOf, 3, (some (.array .int)), { frames := 1, cells := 1, slots := 8, locals := 60 }, [])
def xJ_min : xMt := (yJ_min, cJ_min, 2, (some .int), { frames := 0, cells := 0, slots := 0, locals := 0 }, [])
def xT_init : xMt := (yT_init, cT_init, 6, none, { frames := 1, cells := 0, slots := 0, locals := 23 }, [])
def xC_filterBit : xMt := (yC_filterBit, cC_filterBit, 2, (some .long), { frames := 0, cells := 0, slots := 0, locals := 0 }, [])
def xG_hasRoomFor : xMt := (yG_hasRoomFor, cG_hasRoomFor, 2, (some .boolean), { frames := 1, cells := 0, slots := 0, locals := 21 }, [])
def xT_words : xMt := (yT_words, cT_words, 1, (some .int), { frames := 0, cells := 0, slots := 0, locals := 0 }, [])
def xP_hasRoomFor : xMt := (yP_hasRoomFor, cP_hasRoomFor, 2, (some .boolean), { frames := 0, cells := 0, slots := 0, locals := 0 }, [])
def xC_writeOpenPage : xMt := (yC_writeOpenPage, cC_writeOpenPage, 3, none, { frames := 5, cells := 0, slots := 0, locals := 120 }, [])
def xG_isBeforeWrittenSegment : xMt := (yG_isBeforeWrittenSegment, cG_isBeforeWrittenSegment, 1, (some .boolean), { frames := 0, cells := 0, slots := 0, locals := 0 }, [])
def xC_emptySegment : xMt := (yC_emptySegment, cC_emptySegment, 7, (some .int), { frames := 4, cells := 0, slots := 0, locals := 94 }, [])
def xG_oldestSegmentEnd : xMt := (yG_oldestSegmentEnd, cG_oldestSegmentEnd, 1, (some .int), { frames := 0, cells := 0, slots := 0, locals := 0 }, [])
def xI_takeGotAlone : xMt := (yI_takeGotAlone, cI_takeGotAlone, 7, (some .int), { frames := 1, cells := 0, slots := 0, locals := 22 }, [])
def xI_shrinkTo : xMt := (yI_shrinkTo, cI_shrinkTo, 3, none, { frames := 0, cells := 0, slots := 0, locals := 0 }, [])
def xI_setsBefore : xMt := (yI_setsBefore, cI_setsBefore, 5, (some .long), { frames := 0, cells := 0, slots := 0, locals := 0 }, [])
def xI_takeSet : xMt := (yI_takeSet, cI_takeSet, 7, (some .int), { frames := 1, cells := 0, slots := 0, locals := 22 }, [])
def xC_removeFromSet : xMt := (yC_removeFromSet, cC_removeFromSet, 4, (some .boolean), { frames := 3, cells := 0, slots := 0, locals := 71 }, [])
def xC_readFromSet : xMt := (yC_readFromSet, cC_readFromSet, 6, (some (.object "TinyCache$Item")), { frames := 2, cells := 0, slots := 0, locals := 46 }, [])
def xP_find : xMt := (yP_find, cP_find, 4, (some (.object "TinyCache$Item")), { frames := 1, cells := 0, slots := 0, locals := 23 }, [])
def xP_placeOf : xMt := (yP_placeOf, cP_placeOf, 4, (some .int), { frames := 0, cells := 0, slots := 0, locals := 0 }, [])
def xP_remove : xMt := (yP_remove, cP_remove, 4, none, { frames := 2, cells := 0, slots := 0, locals := 42 }, [])
def xP_removeAt : xMt := (yP_removeAt, cP_removeAt, 3, none, { frames := 1, cells := 0, slots := 0, locals := 20 }, [])
def xC_moveGathered : xMt := (yC_moveGathered, cC_moveGathered, 5, none, { frames := 3, cells := 0, slots := 0, locals := 67 }, [])
def xP_dropFor : xMt := (yP_dropFor, cP_dropFor, 6, (some .int), { frames := 2, cells := 0, slots := 0, locals := 42 }, [])
def xP_add : xMt := (yP_add, cP_add, 2, none, { frames := 1, cells := 0, slots := 0, locals := 20 }, [])
def xP_clearMarks : xMt := (yP_clearMarks, cP_clearMarks, 2, none, { frames := 0, cells := 0, slots := 0, locals := 0 }, [])
def xG_writeOut : xMt := (yG_writeOut, cG_writeOut, 3, none, { frames := 1, cells := 0, slots := 0, locals := 21 }, [])
def xP_wipe : xMt := (yP_wipe, cP_wipe, 2, none, { frames := 0, cells := 0, slots := 0, locals := 0 }, [])
def xG_append : xMt := (yG_append, cG_append, 2, none, { frames := 3, cells := 0, slots := 0, locals := 68 }, [])
def xI_add : xMt := (yI_add, cI_add, 2, none, { frames := 2, cells := 0, slots := 0, locals := 47 }, [])
def xI_remove : xMt := (yI_remove, cI_remove, 6, (some .boolean), { frames := 1, cells := 0, slots := 0, locals := 22 }, [])
def xW_get : xMt := (yW_get, cW_get, 5, (some .int), { frames := 8, cells := 1, slots := 6, locals := 131 }, [(0, 9, 12, 19)])
def xC_get : xMt := (yC_get, cC_get, 3, (some .int), { frames := 7, cells := 1, slots := 6, locals := 109 }, [])
def xI_find : xMt := (yI_find, cI_find, 4, (some (.object "TinyCache$Item")), { frames := 0, cells := 0, slots := 0, locals := 0 }, [])
def xG_hasInOpenPage : xMt := (yG_hasInOpenPage, cG_hasInOpenPage, 2, (some .boolean), { frames := 0, cells := 0, slots := 0, locals := 0 }, [])
def xW_got : xMt := (yW_got, cW_got, 4, (some .int), { frames := 7, cells := 1, slots := 6, locals := 110 }, [(0, 9, 12, 13)])
def xC_got : xMt := (yC_got, cC_got, 2, (some .int), { frames := 6, cells := 1, slots := 6, locals := 89 }, [])
def xW_delete : xMt := (yW_delete, cW_delete, 5, (some .int), { frames := 8, cells := 1, slots := 6, locals := 133 }, [(0, 16, 19, 19)])
def xC_delete : xMt := (yC_delete, cC_delete, 5, (some .boolean), { frames := 7, cells := 1, slots := 6, locals := 109 }, [])
def xW_where : xMt := (yW_where, cW_where, 5, (some .int), { frames := 8, cells := 1, slots := 6, locals := 131 }, [(0, 9, 12, 19)])
def xC_where : xMt := (yC_where, cC_where, 3, (some .int), { frames := 7, cells := 1, slots := 6, locals := 109 }, [])
def xW_flash : xMt := (yW_flash, cW_flash, 5, (some .int), { frames := 7, cells := 1, slots := 6, locals := 111 }, [(0, 10, 13, 13)])
def xC_flash : xMt := (yC_flash, cC_flash, 3, (some .int), { frames := 6, cells := 1, slots := 6, locals := 89 }, [])
def xP_wordAt : xMt := (yP_wordAt, cP_wordAt, 5, (some .int), { frames := 1, cells := 0, slots := 0, locals := 21 }, [])
def xT_wordAt : xMt := (yT_wordAt, cT_wordAt, 2, (some .int), { frames := 0, cells := 0, slots := 0, locals := 0 }, [])
def xW_close : xMt := (yW_close, cW_close, 2, (some .int), { frames := 8, cells := 1, slots := 6, locals := 129 }, [(0, 4, 7, 19)])
def xC_close : xMt := (yC_close, cC_close, 1, none, { frames := 7, cells := 1, slots := 6, locals := 109 }, [])
def xW_crash : xMt := (yW_crash, cW_crash, 2, (some .int), { frames := 8, cells := 1, slots := 6, locals := 130 }, [(0, 4, 7, 19)])
def xC_crash : xMt := (yC_crash, cC_crash, 2, none, { frames := 7, cells := 1, slots := 6, locals := 109 }, [])
def xG_wipe : xMt := (yG_wipe, cG_wipe, 2, none, { frames := 2, cells := 0, slots := 0, locals := 43 }, [])
def xI_wipe : xMt := (yI_wipe, cI_wipe, 1, none, { frames := 1, cells := 0, slots := 0, locals := 23 }, [])
def xJ_fill : xMt := (yJ_fill, cJ_fill, 4, none, { frames := 0, cells := 0, slots := 0, locals := 0 }, [])
def xW_open : xMt := (yW_open, cW_open, 3, (some .int), { frames := 7, cells := 1, slots := 6, locals := 109 }, [(0, 8, 11, 19)])
def xC_open : xMt := (yC_open, cC_open, 1, (some .int), { frames := 6, cells := 1, slots := 6, locals := 89 }, [])
def xM_init : xMt := (yM_init, cM_init, 1, none, { frames := 1, cells := 16, slots := 63006, locals := 12 }, [])
def xM_thrown : xMt := (yM_thrown, cM_thrown, 1, (some .int), { frames := 0, cells := 0, slots := 0, locals := 0 }, [])
def xM_word : xMt := (yM_word, cM_word, 4, (some .int), { frames := 1, cells := 0, slots := 0, locals := 22 }, [])
def xM_within : xMt := (yM_within, cM_within, 3, (some .boolean), { frames := 0, cells := 0, slots := 0, locals := 0 }, [])
def xM_fail : xMt := (yM_fail, cM_fail, 2, (some .int), { frames := 0, cells := 0, slots := 0, locals := 0 }, [])
def xM_put : xMt := (yM_put, cM_put, 6, none, { frames := 7, cells := 0, slots := 0, locals := 162 }, [])
def xM_works : xMt := (yM_works, cM_works, 1, (some .boolean), { frames := 0, cells := 0, slots := 0, locals := 0 }, [])
def xM_wordsOf : xMt := (yM_wordsOf, cM_wordsOf, 4, (some .int), { frames := 1, cells := 0, slots := 0, locals := 21 }, [])
def xM_need : xMt := (yM_need, cM_need, 2, (some .int), { frames := 0, cells := 0, slots := 0, locals := 0 }, [])
def xM_makeRoom : xMt := (yM_makeRoom, cM_makeRoom, 4, none, { frames := 6, cells := 0, slots := 0, locals := 139 }, [])
def xM_empty : xMt := (yM_empty, cM_empty, 4, none, { frames := 5, cells := 0, slots := 0, locals := 116 }, [])
def xM_setOfKey : xMt := (yM_setOfKey, cM_setOfKey, 2, (some .int), { frames := 1, cells := 0, slots := 0, locals := 23 }, [])
def xM_mixed : xMt := (yM_mixed, cM_mixed, 4, (some .long), { frames := 0, cells := 0, slots := 0, locals := 0 }, [])
def xM_gatherAll : xMt := (yM_gatherAll, cM_gatherAll, 6, none, { frames := 2, cells := 0, slots := 0, locals := 44 }, [])
def xM_moveAll : xMt := (yM_moveAll, cM_moveAll, 4, none, { frames := 4, cells := 0, slots := 0, locals := 91 }, [])
def xM_inSet : xMt := (yM_inSet, cM_inSet, 6, (some .int), { frames := 2, cells := 0, slots := 0, locals := 44 }, [])
def xM_takeOut : xMt := (yM_takeOut, cM_takeOut, 4, none, { frames := 0, cells := 0, slots := 0, locals := 0 }, [])
def xM_dropFirst : xMt := (yM_dropFirst, cM_dropFirst, 5, none, { frames := 3, cells := 0, slots := 0, locals := 67 }, [])
def xM_needAll : xMt := (yM_needAll, cM_needAll, 4, (some .int), { frames := 2, cells := 0, slots := 0, locals := 44 }, [])
def xM_copy : xMt := (yM_copy, cM_copy, 4, (some .int), { frames := 1, cells := 0, slots := 0, locals := 22 }, [])
def xM_freeNumber : xMt := (yM_freeNumber, cM_freeNumber, 3, (some .int), { frames := 0, cells := 0, slots := 0, locals := 0 }, [])
def xM_append : xMt := (yM_append, cM_append, 3, none, { frames := 0, cells := 0, slots := 0, locals := 0 }, [])
def xM_alone : xMt := (yM_alone, cM_alone, 4, none, { frames := 4, cells := 0, slots := 0, locals := 93 }, [])
def xM_removeOld : xMt := (yM_removeOld, cM_removeOld, 5, (some .boolean), { frames := 3, cells := 0, slots := 0, locals := 69 }, [])
def xM_reads : xMt := (yM_reads, cM_reads, 6, (some .boolean), { frames := 2, cells := 0, slots := 0, locals := 44 }, [])
def xM_bitOf : xMt := (yM_bitOf, cM_bitOf, 2, (some .int), { frames := 1, cells := 0, slots := 0, locals := 23 }, [])
def xM_writeOpen : xMt := (yM_writeOpen, cM_writeOpen, 3, none, { frames := 1, cells := 0, slots := 0, locals := 22 }, [])
def xM_sortAgain : xMt := (yM_sortAgain, cM_sortAgain, 4, none, { frames := 0, cells := 0, slots := 0, locals := 0 }, [])
def xM_putAnew : xMt := (yM_putAnew, cM_putAnew, 2, none, { frames := 2, cells := 0, slots := 0, locals := 47 }, [])
def xM_enter : xMt := (yM_enter, cM_enter, 3, none, { frames := 1, cells := 0, slots := 0, locals := 25 }, [])
def xM_newest : xMt := (yM_newest, cM_newest, 6, (some .int), { frames := 0, cells := 0, slots := 0, locals := 0 }, [])
def xM_get : xMt := (yM_get, cM_get, 5, (some .int), { frames := 3, cells := 0, slots := 0, locals := 69 }, [])
def xM_pageOf : xMt := (yM_pageOf, cM_pageOf, 5, (some .int), { frames := 0, cells := 0, slots := 0, locals := 0 }, [])
def xM_tell : xMt := (yM_tell, cM_tell, 3, none, { frames := 0, cells := 0, slots := 0, locals := 0 }, [])
def xM_got : xMt := (yM_got, cM_got, 2, (some .int), { frames := 1, cells := 0, slots := 0, locals := 22 }, [])
def xM_delete : xMt := (yM_delete, cM_delete, 5, (some .boolean), { frames := 4, cells := 0, slots := 0, locals := 93 }, [])
def xM_setOf : xMt := (yM_setOf, cM_setOf, 3, (some .int), { frames := 2, cells := 0, slots := 0, locals := 44 }, [])
def xM_where : xMt := (yM_where, cM_where, 3, (some .int), { frames := 3, cells := 0, slots := 0, locals := 69 }, [])
def xM_flash : xMt := (yM_flash, cM_flash, 6, (some .int), { frames := 1, cells := 0, slots := 0, locals := 22 }, [])
def xM_close : xMt := (yM_close, cM_close, 1, none, { frames := 0, cells := 0, slots := 0, locals := 0 }, [])
def xM_crash : xMt := (yM_crash, cM_crash, 2, none, { frames := 0, cells := 0, slots := 0, locals := 0 }, [])
def xM_open : xMt := (yM_open, cM_open, 1, (some .int), { frames := 1, cells := 0, slots := 0, locals := 23 }, [])
def xM_indexed : xMt := (yM_indexed, cM_indexed, 4, (some .int), { frames := 0, cells := 0, slots := 0, locals := 0 }, [])
def xM_count : xMt := (yM_count, cM_count, 2, (some .int), { frames := 2, cells := 0, slots := 0, locals := 44 }, [])
def xW_law : xMt := (yW_law, cW_law, 7, some .boolean, room_1, [])
theorem gC_init_15 : xCS xC_init xC_newPages 13 1 := ⟨xgS w_60 w_61 w_37 w_62, rfl, by decide +kernel, by decide, rfl⟩
theorem gC_init_26 : xIN xC_init xG_init 23 0 "TinyCache" := ⟨xgI w_92, ⟨rfl, rfl⟩, by decide +kernel, w_39, w_91, rfl, by decide +kernel, by decide⟩
theorem gC_newPages_18 : xIN xC_newPages xP_init 213 0 "TinyCache" := ⟨xgI w_68, ⟨rfl, rfl⟩, by decide +kernel, w_38, w_67, rfl, by decide +kernel, by decide⟩
theorem gG_init_7 : xSN xG_init xC_newPages 9 1 "TinyCache" := ⟨xgI w_62, rfl, by decide +kernel, w_37, w_61, by decide +kernel, by decide⟩
theorem gG_init_18 : xIN xG_init xI_init 21 0 "TinyCache" := ⟨xgI w_99, ⟨rfl, rfl⟩, by decide +kernel, w_40, w_98, rfl, by decide +kernel, by decide⟩
theorem gG_init_29 : xIN xG_init xP_init 28 0 "TinyCache" := ⟨xgI w_68, ⟨rfl, rfl⟩, by decide +kernel, w_38, w_67, rfl, by decide +kernel, by decide⟩
theorem gC_setOf_1 : xCS xC_setOf xC_mix 107 1 := ⟨xgS w_161 w_162 w_37 w_163, rfl, by decide +kernel, by decide, rfl⟩
theorem gC_setOf_4 : xCS xC_setOf xC_setNumber 111 1 := ⟨xgS w_166 w_167 w_37 w_168, rfl, by decide +kernel, by decide, rfl⟩
theorem gC_count_20 : xCV xC_count xG_fullSegments 140 0 := ⟨xgV w_173 w_174 w_175 w_39 w_176, rfl, by decide +kernel, by decide, rfl⟩
theorem gW_word_5 : xCT xW_word xC_word 7 2 := ⟨xgV w_181 w_182 w_183 w_37 w_184, rfl, by decide +kernel, by decide⟩
theorem gW_put_3 : xCT xW_put xC_put 15 2 := ⟨xgV w_253 w_254 w_255 w_37 w_256, rfl, by decide +kernel, by decide⟩
theorem gC_put_1 : xCV xC_put xC_refuseWhenClosed 51 0 := ⟨xgV w_257 w_259 w_1 w_37 w_260, rfl, by decide +kernel, by decide, rfl⟩
theorem gC_put_33 : xCS xC_put xJ_copyOf 57 2 := ⟨xgS w_292 w_293 w_49 w_294, rfl, by decide +kernel, by decide, rfl⟩
theorem gC_put_36 : xCI xC_put xT_init 63 2 := ⟨xgI w_310, ⟨rfl, rfl⟩, w_48, w_308, w_309, rfl, by decide +kernel, by decide⟩
theorem gC_put_57 : xCV xC_put xG_hasRoomFor 66 1 := ⟨xgV w_349 w_350 w_351 w_39 w_352, rfl, by decide +kernel, by decide, rfl⟩
theorem gC_put_64 : xCV xC_put xC_writeOpenPage 70 0 := ⟨xgV w_361 w_363 w_2 w_37 w_364, rfl, by decide +kernel, by decide, rfl⟩
theorem gC_put_79 : xCV xC_put xG_append 73 1 := ⟨xgV w_446 w_447 w_448 w_39 w_449, rfl, by decide +kernel, by decide, rfl⟩
theorem gT_init_15 : xSN xT_init xC_mix 19 1 "TinyCache" := ⟨xgI w_163, rfl, by decide +kernel, w_37, w_162, by decide +kernel, by decide⟩
theorem gT_init_33 : xSN xT_init xC_setNumber 31 1 "TinyCache" := ⟨xgI w_168, rfl, by decide +kernel, w_37, w_167, by decide +kernel, by decide⟩
theorem gT_init_42 : xSN xT_init xC_filterBit 38 1 "TinyCache" := ⟨xgI w_316, rfl, by decide +kernel, w_37, w_315, by decide +kernel, by decide⟩
theorem gG_hasRoomFor_5 : xCV xG_hasRoomFor xT_words 37 0 := ⟨xgV w_353 w_354 w_355 w_48 w_356, rfl, by decide +kernel, by decide, rfl⟩
theorem gG_hasRoomFor_8 : xCV xG_hasRoomFor xP_hasRoomFor 43 1 := ⟨xgV w_357 w_358 w_359 w_38 w_360, rfl, by decide +kernel, by decide, rfl⟩
theorem gC_writeOpenPage_4 : xCV xC_writeOpenPage xG_isBeforeWrittenSegment 151 0 := ⟨xgV w_365 w_366 w_367 w_39 w_368, rfl, by decide +kernel, by decide, rfl⟩
theorem gC_writeOpenPage_11 : xCV xC_writeOpenPage xC_emptySegment 155 0 := ⟨xgV w_369 w_371 w_3 w_37 w_372, rfl, by decide +kernel, by decide, rfl⟩
theorem gC_writeOpenPage_23 : xCV xC_writeOpenPage xG_writeOut 158 0 := ⟨xgV w_438 w_439 w_440 w_39 w_441, rfl, by decide +kernel, by decide, rfl⟩
theorem gC_writeOpenPage_43 : xCV xC_writeOpenPage xG_hasRoomFor 66 1 := ⟨xgV w_349 w_350 w_351 w_39 w_352, rfl, by decide +kernel, by decide, rfl⟩
theorem gC_writeOpenPage_53 : xCV xC_writeOpenPage xG_writeOut 158 0 := ⟨xgV w_438 w_439 w_440 w_39 w_441, rfl, by decide +kernel, by decide, rfl⟩
theorem gC_writeOpenPage_66 : xCV xC_writeOpenPage xG_append 73 1 := ⟨xgV w_446 w_447 w_448 w_39 w_449, rfl, by decide +kernel, by decide, rfl⟩
theorem gC_emptySegment_4 : xCV xC_emptySegment xG_oldestSegmentEnd 161 0 := ⟨xgV w_373 w_374 w_375 w_39 w_376, rfl, by decide +kernel, by decide, rfl⟩
theorem gC_emptySegment_20 : xCV xC_emptySegment xI_takeGotAlone 164 2 := ⟨xgV w_377 w_378 w_379 w_40 w_380, rfl, by decide +kernel, by decide, rfl⟩
theorem gC_emptySegment_32 : xCV xC_emptySegment xI_setsBefore 168 1 := ⟨xgV w_385 w_386 w_387 w_40 w_388, rfl, by decide +kernel, by decide, rfl⟩
theorem gC_emptySegment_73 : xCV xC_emptySegment xI_takeSet 172 2 := ⟨xgV w_389 w_390 w_391 w_40 w_392, rfl, by decide +kernel, by decide, rfl⟩
theorem gC_emptySegment_106 : xCV xC_emptySegment xC_removeFromSet 103 2 := ⟨xgV w_393 w_395 w_5 w_37 w_396, rfl, by decide +kernel, by decide, rfl⟩
theorem gC_emptySegment_123 : xCV xC_emptySegment xC_moveGathered 179 2 := ⟨xgV w_419 w_421 w_9 w_37 w_422, rfl, by decide +kernel, by decide, rfl⟩
theorem gI_takeGotAlone_99 : xCV xI_takeGotAlone xI_shrinkTo 36 1 := ⟨xgV w_381 w_383 w_4 w_40 w_384, rfl, by decide +kernel, by decide, rfl⟩
theorem gI_takeSet_73 : xCV xI_takeSet xI_shrinkTo 36 1 := ⟨xgV w_381 w_383 w_4 w_40 w_384, rfl, by decide +kernel, by decide, rfl⟩
theorem gC_removeFromSet_2 : xCV xC_removeFromSet xC_readFromSet 87 1 := ⟨xgV w_397 w_399 w_6 w_37 w_400, rfl, by decide +kernel, by decide, rfl⟩
theorem gC_removeFromSet_15 : xCS xC_removeFromSet xC_mix 107 1 := ⟨xgS w_161 w_162 w_37 w_163, rfl, by decide +kernel, by decide, rfl⟩
theorem gC_removeFromSet_18 : xCS xC_removeFromSet xC_setNumber 111 1 := ⟨xgS w_166 w_167 w_37 w_168, rfl, by decide +kernel, by decide, rfl⟩
theorem gC_removeFromSet_23 : xCV xC_removeFromSet xP_remove 183 1 := ⟨xgV w_410 w_411 w_412 w_38 w_413, rfl, by decide +kernel, by decide, rfl⟩
theorem gC_readFromSet_1 : xCS xC_readFromSet xC_mix 107 1 := ⟨xgS w_161 w_162 w_37 w_163, rfl, by decide +kernel, by decide, rfl⟩
theorem gC_readFromSet_10 : xCS xC_readFromSet xC_setNumber 111 1 := ⟨xgS w_166 w_167 w_37 w_168, rfl, by decide +kernel, by decide, rfl⟩
theorem gC_readFromSet_22 : xCS xC_readFromSet xC_filterBit 204 1 := ⟨xgS w_401 w_315 w_37 w_316, rfl, by decide +kernel, by decide, rfl⟩
theorem gC_readFromSet_47 : xCV xC_readFromSet xP_find 115 1 := ⟨xgV w_402 w_403 w_404 w_38 w_405, rfl, by decide +kernel, by decide, rfl⟩
theorem gP_find_2 : xCV xP_find xP_placeOf 34 1 := ⟨xgV w_406 w_408 w_7 w_38 w_409, rfl, by decide +kernel, by decide, rfl⟩
theorem gP_remove_2 : xCV xP_remove xP_placeOf 34 1 := ⟨xgV w_406 w_408 w_7 w_38 w_409, rfl, by decide +kernel, by decide, rfl⟩
theorem gP_remove_13 : xCV xP_remove xP_removeAt 38 1 := ⟨xgV w_414 w_416 w_8 w_38 w_417, rfl, by decide +kernel, by decide, rfl⟩
theorem gP_removeAt_11 : xCV xP_removeAt xT_words 28 0 := ⟨xgV w_418 w_354 w_355 w_48 w_356, rfl, by decide +kernel, by decide, rfl⟩
theorem gC_moveGathered_43 : xCV xC_moveGathered xP_remove 183 1 := ⟨xgV w_410 w_411 w_412 w_38 w_413, rfl, by decide +kernel, by decide, rfl⟩
theorem gC_moveGathered_54 : xCV xC_moveGathered xT_words 186 0 := ⟨xgV w_423 w_354 w_355 w_48 w_356, rfl, by decide +kernel, by decide, rfl⟩
theorem gC_moveGathered_75 : xCV xC_moveGathered xP_dropFor 188 2 := ⟨xgV w_424 w_425 w_426 w_38 w_427, rfl, by decide +kernel, by decide, rfl⟩
theorem gC_moveGathered_91 : xCV xC_moveGathered xP_dropFor 188 2 := ⟨xgV w_424 w_425 w_426 w_38 w_427, rfl, by decide +kernel, by decide, rfl⟩
theorem gC_moveGathered_107 : xCV xC_moveGathered xP_hasRoomFor 192 1 := ⟨xgV w_429 w_358 w_359 w_38 w_360, rfl, by decide +kernel, by decide, rfl⟩
theorem gC_moveGathered_121 : xCV xC_moveGathered xP_add 195 1 := ⟨xgV w_430 w_431 w_432 w_38 w_433, rfl, by decide +kernel, by decide, rfl⟩
theorem gC_moveGathered_146 : xCV xC_moveGathered xT_words 186 0 := ⟨xgV w_423 w_354 w_355 w_48 w_356, rfl, by decide +kernel, by decide, rfl⟩
theorem gC_moveGathered_158 : xCV xC_moveGathered xP_clearMarks 198 0 := ⟨xgV w_434 w_435 w_436 w_38 w_437, rfl, by decide +kernel, by decide, rfl⟩
theorem gP_dropFor_19 : xCV xP_dropFor xP_hasRoomFor 42 1 := ⟨xgV w_428 w_358 w_359 w_38 w_360, rfl, by decide +kernel, by decide, rfl⟩
theorem gP_dropFor_42 : xCV xP_dropFor xP_removeAt 38 1 := ⟨xgV w_414 w_416 w_8 w_38 w_417, rfl, by decide +kernel, by decide, rfl⟩
theorem gP_add_26 : xCV xP_add xT_words 28 0 := ⟨xgV w_418 w_354 w_355 w_48 w_356, rfl, by decide +kernel, by decide, rfl⟩
theorem gG_writeOut_26 : xCV xG_writeOut xP_wipe 59 0 := ⟨xgV w_442 w_443 w_444 w_38 w_445, rfl, by decide +kernel, by decide, rfl⟩
theorem gG_append_18 : xCV xG_append xP_add 54 1 := ⟨xgV w_450 w_431 w_432 w_38 w_433, rfl, by decide +kernel, by decide, rfl⟩
theorem gG_append_26 : xCV xG_append xI_add 58 1 := ⟨xgV w_451 w_452 w_453 w_40 w_454, rfl, by decide +kernel, by decide, rfl⟩
theorem gI_add_5 : xCV xI_add xI_remove 29 1 := ⟨xgV w_455 w_456 w_457 w_40 w_458, rfl, by decide +kernel, by decide, rfl⟩
theorem gI_remove_79 : xCV xI_remove xI_shrinkTo 36 1 := ⟨xgV w_381 w_383 w_4 w_40 w_384, rfl, by decide +kernel, by decide, rfl⟩
theorem gW_get_4 : xCT xW_get xC_get 23 1 := ⟨xgV w_462 w_463 w_464 w_37 w_465, rfl, by decide +kernel, by decide⟩
theorem gC_get_1 : xCV xC_get xC_refuseWhenClosed 51 0 := ⟨xgV w_257 w_259 w_1 w_37 w_260, rfl, by decide +kernel, by decide, rfl⟩
theorem gC_get_13 : xCV xC_get xI_find 81 1 := ⟨xgV w_466 w_467 w_468 w_40 w_469, rfl, by decide +kernel, by decide, rfl⟩
theorem gC_get_29 : xCV xC_get xC_readFromSet 87 1 := ⟨xgV w_397 w_399 w_6 w_37 w_400, rfl, by decide +kernel, by decide, rfl⟩
theorem gC_get_46 : xCV xC_get xG_hasInOpenPage 90 1 := ⟨xgV w_470 w_471 w_472 w_39 w_473, rfl, by decide +kernel, by decide, rfl⟩
theorem gW_got_4 : xCT xW_got xC_got 27 1 := ⟨xgV w_477 w_478 w_479 w_37 w_480, rfl, by decide +kernel, by decide⟩
theorem gW_delete_4 : xCT xW_delete xC_delete 31 1 := ⟨xgV w_484 w_485 w_486 w_37 w_487, rfl, by decide +kernel, by decide⟩
theorem gC_delete_1 : xCV xC_delete xC_refuseWhenClosed 51 0 := ⟨xgV w_257 w_259 w_1 w_37 w_260, rfl, by decide +kernel, by decide, rfl⟩
theorem gC_delete_12 : xCV xC_delete xI_remove 99 1 := ⟨xgV w_488 w_456 w_457 w_40 w_458, rfl, by decide +kernel, by decide, rfl⟩
theorem gC_delete_19 : xCV xC_delete xC_removeFromSet 103 2 := ⟨xgV w_393 w_395 w_5 w_37 w_396, rfl, by decide +kernel, by decide, rfl⟩
theorem gW_where_4 : xCT xW_where xC_where 35 1 := ⟨xgV w_492 w_493 w_494 w_37 w_495, rfl, by decide +kernel, by decide⟩
theorem gC_where_1 : xCV xC_where xC_refuseWhenClosed 51 0 := ⟨xgV w_257 w_259 w_1 w_37 w_260, rfl, by decide +kernel, by decide, rfl⟩
theorem gC_where_12 : xCV xC_where xI_find 81 1 := ⟨xgV w_466 w_467 w_468 w_40 w_469, rfl, by decide +kernel, by decide, rfl⟩
theorem gC_where_25 : xCS xC_where xC_mix 107 1 := ⟨xgS w_161 w_162 w_37 w_163, rfl, by decide +kernel, by decide, rfl⟩
theorem gC_where_28 : xCS xC_where xC_setNumber 111 1 := ⟨xgS w_166 w_167 w_37 w_168, rfl, by decide +kernel, by decide, rfl⟩
theorem gC_where_33 : xCV xC_where xP_find 115 1 := ⟨xgV w_402 w_403 w_404 w_38 w_405, rfl, by decide +kernel, by decide, rfl⟩
theorem gW_flash_5 : xCT xW_flash xC_flash 38 2 := ⟨xgV w_499 w_500 w_501 w_37 w_502, rfl, by decide +kernel, by decide⟩
theorem gC_flash_41 : xCV xC_flash xP_wordAt 118 1 := ⟨xgV w_503 w_504 w_505 w_38 w_506, rfl, by decide +kernel, by decide, rfl⟩
theorem gC_flash_60 : xCV xC_flash xP_wordAt 118 1 := ⟨xgV w_503 w_504 w_505 w_38 w_506, rfl, by decide +kernel, by decide, rfl⟩
theorem gP_wordAt_19 : xCV xP_wordAt xT_words 28 0 := ⟨xgV w_418 w_354 w_355 w_48 w_356, rfl, by decide +kernel, by decide, rfl⟩
theorem gP_wordAt_40 : xCV xP_wordAt xT_wordAt 50 1 := ⟨xgV w_507 w_508 w_509 w_48 w_510, rfl, by decide +kernel, by decide, rfl⟩
theorem gW_close_1 : xCT xW_close xC_close 41 0 := ⟨xgV w_514 w_515 w_516 w_37 w_517, rfl, by decide +kernel, by decide⟩
theorem gC_close_1 : xCV xC_close xC_refuseWhenClosed 51 0 := ⟨xgV w_257 w_259 w_1 w_37 w_260, rfl, by decide +kernel, by decide, rfl⟩
theorem gW_crash_1 : xCT xW_crash xC_crash 44 0 := ⟨xgV w_521 w_522 w_523 w_37 w_524, rfl, by decide +kernel, by decide⟩
theorem gC_crash_1 : xCV xC_crash xC_refuseWhenClosed 51 0 := ⟨xgV w_257 w_259 w_1 w_37 w_260, rfl, by decide +kernel, by decide, rfl⟩
theorem gC_crash_18 : xCV xC_crash xP_wipe 125 0 := ⟨xgV w_525 w_443 w_444 w_38 w_445, rfl, by decide +kernel, by decide, rfl⟩
theorem gC_crash_31 : xCV xC_crash xG_wipe 128 0 := ⟨xgV w_526 w_527 w_528 w_39 w_529, rfl, by decide +kernel, by decide, rfl⟩
theorem gC_crash_39 : xCS xC_crash xJ_fill 129 2 := ⟨xgS w_537 w_535 w_49 w_536, rfl, by decide +kernel, by decide, rfl⟩
theorem gG_wipe_14 : xCV xG_wipe xP_wipe 59 0 := ⟨xgV w_442 w_443 w_444 w_38 w_445, rfl, by decide +kernel, by decide, rfl⟩
theorem gG_wipe_27 : xCV xG_wipe xP_wipe 59 0 := ⟨xgV w_442 w_443 w_444 w_38 w_445, rfl, by decide +kernel, by decide, rfl⟩
theorem gG_wipe_34 : xCV xG_wipe xI_wipe 62 0 := ⟨xgV w_530 w_531 w_532 w_40 w_533, rfl, by decide +kernel, by decide, rfl⟩
theorem gI_wipe_2 : xCV xI_wipe xI_shrinkTo 36 1 := ⟨xgV w_381 w_383 w_4 w_40 w_384, rfl, by decide +kernel, by decide, rfl⟩
theorem gI_wipe_10 : xCS xI_wipe xJ_fill 47 2 := ⟨xgS w_534 w_535 w_49 w_536, rfl, by decide +kernel, by decide, rfl⟩
theorem gW_open_3 : xCT xW_open xC_open 47 0 := ⟨xgV w_541 w_542 w_543 w_37 w_544, rfl, by decide +kernel, by decide⟩
theorem gM_word_9 : xCS xM_word xM_within 165 3 := ⟨xgS w_634 w_635 w_41 w_636, rfl, by decide +kernel, by decide, rfl⟩
theorem gM_word_17 : xCV xM_word xM_fail 169 1 := ⟨xgV w_637 w_639 w_10 w_41 w_640, rfl, by decide +kernel, by decide, rfl⟩
theorem gM_put_1 : xCV xM_put xM_works 172 0 := ⟨xgV w_645 w_647 w_11 w_41 w_648, rfl, by decide +kernel, by decide, rfl⟩
theorem gM_put_12 : xCS xM_put xM_within 165 3 := ⟨xgS w_634 w_635 w_41 w_636, rfl, by decide +kernel, by decide, rfl⟩
theorem gM_put_37 : xCV xM_put xM_wordsOf 122 1 := ⟨xgV w_649 w_651 w_12 w_41 w_652, rfl, by decide +kernel, by decide, rfl⟩
theorem gM_put_50 : xCV xM_put xM_makeRoom 176 0 := ⟨xgV w_657 w_659 w_14 w_41 w_660, rfl, by decide +kernel, by decide, rfl⟩
theorem gM_put_57 : xCV xM_put xM_freeNumber 153 0 := ⟨xgV w_701 w_703 w_23 w_41 w_704, rfl, by decide +kernel, by decide, rfl⟩
theorem gM_put_143 : xCV xM_put xM_enter 125 1 := ⟨xgV w_737 w_739 w_31 w_41 w_740, rfl, by decide +kernel, by decide, rfl⟩
theorem gM_wordsOf_27 : xCV xM_wordsOf xM_need 79 1 := ⟨xgV w_653 w_655 w_13 w_41 w_656, rfl, by decide +kernel, by decide, rfl⟩
theorem gM_makeRoom_36 : xCV xM_makeRoom xM_empty 109 1 := ⟨xgV w_661 w_663 w_15 w_41 w_664, rfl, by decide +kernel, by decide, rfl⟩
theorem gM_makeRoom_40 : xCV xM_makeRoom xM_writeOpen 113 0 := ⟨xgV w_725 w_727 w_28 w_41 w_728, rfl, by decide +kernel, by decide, rfl⟩
theorem gM_makeRoom_49 : xCV xM_makeRoom xM_sortAgain 116 0 := ⟨xgV w_729 w_731 w_29 w_41 w_732, rfl, by decide +kernel, by decide, rfl⟩
theorem gM_makeRoom_66 : xCV xM_makeRoom xM_putAnew 119 1 := ⟨xgV w_733 w_735 w_30 w_41 w_736, rfl, by decide +kernel, by decide, rfl⟩
theorem gM_empty_81 : xCS xM_empty xM_setOfKey 89 1 := ⟨xgS w_665 w_666 w_41 w_667, rfl, by decide +kernel, by decide, rfl⟩
theorem gM_empty_117 : xCV xM_empty xM_gatherAll 128 1 := ⟨xgV w_673 w_675 w_16 w_41 w_676, rfl, by decide +kernel, by decide, rfl⟩
theorem gM_empty_130 : xCV xM_empty xM_moveAll 131 1 := ⟨xgV w_677 w_679 w_17 w_41 w_680, rfl, by decide +kernel, by decide, rfl⟩
theorem gM_empty_144 : xCV xM_empty xM_alone 134 2 := ⟨xgV w_709 w_711 w_25 w_41 w_712, rfl, by decide +kernel, by decide, rfl⟩
theorem gM_setOfKey_1 : xCS xM_setOfKey xM_mixed 73 1 := ⟨xgS w_668 w_669 w_41 w_670, rfl, by decide +kernel, by decide, rfl⟩
theorem gM_gatherAll_56 : xCS xM_gatherAll xM_setOfKey 89 1 := ⟨xgS w_665 w_666 w_41 w_667, rfl, by decide +kernel, by decide, rfl⟩
theorem gM_moveAll_58 : xCV xM_moveAll xM_inSet 143 1 := ⟨xgV w_681 w_683 w_18 w_41 w_684, rfl, by decide +kernel, by decide, rfl⟩
theorem gM_moveAll_69 : xCV xM_moveAll xM_takeOut 140 2 := ⟨xgV w_685 w_687 w_19 w_41 w_688, rfl, by decide +kernel, by decide, rfl⟩
theorem gM_moveAll_82 : xCV xM_moveAll xM_dropFirst 146 3 := ⟨xgV w_689 w_691 w_20 w_41 w_692, rfl, by decide +kernel, by decide, rfl⟩
theorem gM_moveAll_90 : xCV xM_moveAll xM_dropFirst 146 3 := ⟨xgV w_689 w_691 w_20 w_41 w_692, rfl, by decide +kernel, by decide, rfl⟩
theorem gM_moveAll_95 : xCV xM_moveAll xM_needAll 137 1 := ⟨xgV w_693 w_695 w_21 w_41 w_696, rfl, by decide +kernel, by decide, rfl⟩
theorem gM_moveAll_209 : xCV xM_moveAll xM_copy 150 1 := ⟨xgV w_697 w_699 w_22 w_41 w_700, rfl, by decide +kernel, by decide, rfl⟩
theorem gM_moveAll_216 : xCV xM_moveAll xM_append 99 2 := ⟨xgV w_705 w_707 w_24 w_41 w_708, rfl, by decide +kernel, by decide, rfl⟩
theorem gM_inSet_1 : xCS xM_inSet xM_setOfKey 89 1 := ⟨xgS w_665 w_666 w_41 w_667, rfl, by decide +kernel, by decide, rfl⟩
theorem gM_dropFirst_5 : xCV xM_dropFirst xM_needAll 137 1 := ⟨xgV w_693 w_695 w_21 w_41 w_696, rfl, by decide +kernel, by decide, rfl⟩
theorem gM_dropFirst_49 : xCV xM_dropFirst xM_takeOut 140 2 := ⟨xgV w_685 w_687 w_19 w_41 w_688, rfl, by decide +kernel, by decide, rfl⟩
theorem gM_needAll_2 : xCV xM_needAll xM_wordsOf 122 1 := ⟨xgV w_649 w_651 w_12 w_41 w_652, rfl, by decide +kernel, by decide, rfl⟩
theorem gM_needAll_24 : xCV xM_needAll xM_need 79 1 := ⟨xgV w_653 w_655 w_13 w_41 w_656, rfl, by decide +kernel, by decide, rfl⟩
theorem gM_copy_1 : xCV xM_copy xM_freeNumber 153 0 := ⟨xgV w_701 w_703 w_23 w_41 w_704, rfl, by decide +kernel, by decide, rfl⟩
theorem gM_alone_18 : xCV xM_alone xM_copy 150 1 := ⟨xgV w_697 w_699 w_22 w_41 w_700, rfl, by decide +kernel, by decide, rfl⟩
theorem gM_alone_74 : xCV xM_alone xM_removeOld 157 2 := ⟨xgV w_713 w_715 w_26 w_41 w_716, rfl, by decide +kernel, by decide, rfl⟩
theorem gM_removeOld_2 : xCV xM_removeOld xM_reads 161 1 := ⟨xgV w_717 w_719 w_27 w_41 w_720, rfl, by decide +kernel, by decide, rfl⟩
theorem gM_removeOld_12 : xCV xM_removeOld xM_inSet 143 1 := ⟨xgV w_681 w_683 w_18 w_41 w_684, rfl, by decide +kernel, by decide, rfl⟩
theorem gM_removeOld_26 : xCS xM_removeOld xM_setOfKey 89 1 := ⟨xgS w_665 w_666 w_41 w_667, rfl, by decide +kernel, by decide, rfl⟩
theorem gM_removeOld_31 : xCV xM_removeOld xM_takeOut 140 2 := ⟨xgV w_685 w_687 w_19 w_41 w_688, rfl, by decide +kernel, by decide, rfl⟩
theorem gM_reads_1 : xCS xM_reads xM_setOfKey 89 1 := ⟨xgS w_665 w_666 w_41 w_667, rfl, by decide +kernel, by decide, rfl⟩
theorem gM_reads_44 : xCS xM_reads xM_bitOf 93 1 := ⟨xgS w_721 w_722 w_41 w_723, rfl, by decide +kernel, by decide, rfl⟩
theorem gM_reads_48 : xCS xM_reads xM_bitOf 93 1 := ⟨xgS w_721 w_722 w_41 w_723, rfl, by decide +kernel, by decide, rfl⟩
theorem gM_bitOf_1 : xCS xM_bitOf xM_mixed 73 1 := ⟨xgS w_668 w_669 w_41 w_670, rfl, by decide +kernel, by decide, rfl⟩
theorem gM_writeOpen_43 : xCV xM_writeOpen xM_append 99 2 := ⟨xgV w_705 w_707 w_24 w_41 w_708, rfl, by decide +kernel, by decide, rfl⟩
theorem gM_putAnew_3 : xCV xM_putAnew xM_wordsOf 122 1 := ⟨xgV w_649 w_651 w_12 w_41 w_652, rfl, by decide +kernel, by decide, rfl⟩
theorem gM_putAnew_8 : xCV xM_putAnew xM_need 79 1 := ⟨xgV w_653 w_655 w_13 w_41 w_656, rfl, by decide +kernel, by decide, rfl⟩
theorem gM_putAnew_18 : xCV xM_putAnew xM_writeOpen 113 0 := ⟨xgV w_725 w_727 w_28 w_41 w_728, rfl, by decide +kernel, by decide, rfl⟩
theorem gM_putAnew_23 : xCV xM_putAnew xM_enter 125 1 := ⟨xgV w_737 w_739 w_31 w_41 w_740, rfl, by decide +kernel, by decide, rfl⟩
theorem gM_enter_7 : xCV xM_enter xM_newest 103 1 := ⟨xgV w_741 w_743 w_32 w_41 w_744, rfl, by decide +kernel, by decide, rfl⟩
theorem gM_enter_26 : xCV xM_enter xM_append 99 2 := ⟨xgV w_705 w_707 w_24 w_41 w_708, rfl, by decide +kernel, by decide, rfl⟩
theorem gM_get_1 : xCV xM_get xM_works 172 0 := ⟨xgV w_645 w_647 w_11 w_41 w_648, rfl, by decide +kernel, by decide, rfl⟩
theorem gM_get_11 : xCV xM_get xM_newest 103 1 := ⟨xgV w_741 w_743 w_32 w_41 w_744, rfl, by decide +kernel, by decide, rfl⟩
theorem gM_get_28 : xCV xM_get xM_pageOf 182 1 := ⟨xgV w_749 w_751 w_33 w_41 w_752, rfl, by decide +kernel, by decide, rfl⟩
theorem gM_get_49 : xCV xM_get xM_tell 185 1 := ⟨xgV w_753 w_755 w_34 w_41 w_756, rfl, by decide +kernel, by decide, rfl⟩
theorem gM_get_59 : xCV xM_get xM_reads 161 1 := ⟨xgV w_717 w_719 w_27 w_41 w_720, rfl, by decide +kernel, by decide, rfl⟩
theorem gM_get_67 : xCV xM_get xM_inSet 143 1 := ⟨xgV w_681 w_683 w_18 w_41 w_684, rfl, by decide +kernel, by decide, rfl⟩
theorem gM_get_92 : xCS xM_get xM_setOfKey 89 1 := ⟨xgS w_665 w_666 w_41 w_667, rfl, by decide +kernel, by decide, rfl⟩
theorem gM_get_114 : xCV xM_get xM_tell 185 1 := ⟨xgV w_753 w_755 w_34 w_41 w_756, rfl, by decide +kernel, by decide, rfl⟩
theorem gM_got_13 : xCS xM_got xM_within 165 3 := ⟨xgS w_634 w_635 w_41 w_636, rfl, by decide +kernel, by decide, rfl⟩
theorem gM_got_30 : xCV xM_got xM_fail 169 1 := ⟨xgV w_637 w_639 w_10 w_41 w_640, rfl, by decide +kernel, by decide, rfl⟩
theorem gM_delete_1 : xCV xM_delete xM_works 172 0 := ⟨xgV w_645 w_647 w_11 w_41 w_648, rfl, by decide +kernel, by decide, rfl⟩
theorem gM_delete_11 : xCV xM_delete xM_newest 103 1 := ⟨xgV w_741 w_743 w_32 w_41 w_744, rfl, by decide +kernel, by decide, rfl⟩
theorem gM_delete_29 : xCV xM_delete xM_removeOld 157 2 := ⟨xgV w_713 w_715 w_26 w_41 w_716, rfl, by decide +kernel, by decide, rfl⟩
theorem gM_setOf_6 : xCS xM_setOf xM_setOfKey 89 1 := ⟨xgS w_665 w_666 w_41 w_667, rfl, by decide +kernel, by decide, rfl⟩
theorem gM_where_1 : xCV xM_where xM_works 172 0 := ⟨xgV w_645 w_647 w_11 w_41 w_648, rfl, by decide +kernel, by decide, rfl⟩
theorem gM_where_11 : xCV xM_where xM_newest 103 1 := ⟨xgV w_741 w_743 w_32 w_41 w_744, rfl, by decide +kernel, by decide, rfl⟩
theorem gM_where_23 : xCV xM_where xM_inSet 143 1 := ⟨xgV w_681 w_683 w_18 w_41 w_684, rfl, by decide +kernel, by decide, rfl⟩
theorem gM_flash_9 : xCS xM_flash xM_within 165 3 := ⟨xgS w_634 w_635 w_41 w_636, rfl, by decide +kernel, by decide, rfl⟩
theorem gM_flash_19 : xCS xM_flash xM_within 165 3 := ⟨xgS w_634 w_635 w_41 w_636, rfl, by decide +kernel, by decide, rfl⟩
theorem gM_flash_27 : xCV xM_flash xM_fail 169 1 := ⟨xgV w_637 w_639 w_10 w_41 w_640, rfl, by decide +kernel, by decide, rfl⟩
theorem gM_flash_66 : xCV xM_flash xM_need 79 1 := ⟨xgV w_653 w_655 w_13 w_41 w_656, rfl, by decide +kernel, by decide, rfl⟩
theorem gM_flash_148 : xCV xM_flash xM_need 79 1 := ⟨xgV w_653 w_655 w_13 w_41 w_656, rfl, by decide +kernel, by decide, rfl⟩
theorem gM_open_31 : xCV xM_open xM_indexed 188 0 := ⟨xgV w_789 w_791 w_35 w_41 w_792, rfl, by decide +kernel, by decide, rfl⟩
theorem gM_count_9 : xCS xM_count xM_within 165 3 := ⟨xgS w_634 w_635 w_41 w_636, rfl, by decide +kernel, by decide, rfl⟩
theorem gM_count_24 : xCV xM_count xM_indexed 188 0 := ⟨xgV w_789 w_791 w_35 w_41 w_792, rfl, by decide +kernel, by decide, rfl⟩
theorem gM_count_39 : xCV xM_count xM_wordsOf 122 1 := ⟨xgV w_649 w_651 w_12 w_41 w_652, rfl, by decide +kernel, by decide, rfl⟩
theorem gW_law_4 : xCI xW_law xC_init 51 0 := ⟨xgI w_56, ⟨rfl, rfl⟩, w_37, w_54, w_55, rfl, by decide +kernel, by decide⟩
theorem gW_law_12 : xCI xW_law xM_init 54 0 := ⟨xgI w_549, ⟨rfl, rfl⟩, w_41, w_547, w_548, rfl, by decide +kernel, by decide⟩
theorem gW_law_114 : xCH xW_law xW_word 55 4 := ⟨xgS w_177 w_178 w_36 w_179, by decide, by decide +kernel, by decide, rfl⟩
theorem gW_law_132 : xCV xW_law xM_word 60 2 := ⟨xgV w_630 w_631 w_632 w_41 w_633, rfl, by decide +kernel, by decide, rfl⟩
theorem gW_law_138 : xCV xW_law xM_thrown 61 0 := ⟨xgV w_626 w_627 w_628 w_41 w_629, rfl, by decide +kernel, by decide, rfl⟩
theorem gW_law_197 : xCH xW_law xW_put 66 3 := ⟨xgS w_248 w_249 w_36 w_250, by decide, by decide +kernel, by decide, rfl⟩
theorem gW_law_231 : xCV xW_law xM_put 69 2 := ⟨xgV w_641 w_642 w_643 w_41 w_644, rfl, by decide +kernel, by decide, rfl⟩
theorem gW_law_235 : xCV xW_law xM_thrown 61 0 := ⟨xgV w_626 w_627 w_628 w_41 w_629, rfl, by decide +kernel, by decide, rfl⟩
theorem gW_law_272 : xCH xW_law xW_get 70 3 := ⟨xgS w_459 w_460 w_36 w_461, by decide, by decide +kernel, by decide, rfl⟩
theorem gW_law_300 : xCV xW_law xM_get 73 1 := ⟨xgV w_745 w_746 w_747 w_41 w_748, rfl, by decide +kernel, by decide, rfl⟩
theorem gW_law_306 : xCV xW_law xM_thrown 61 0 := ⟨xgV w_626 w_627 w_628 w_41 w_629, rfl, by decide +kernel, by decide, rfl⟩
theorem gW_law_344 : xCH xW_law xW_got 74 3 := ⟨xgS w_474 w_475 w_36 w_476, by decide, by decide +kernel, by decide, rfl⟩
theorem gW_law_356 : xCV xW_law xM_got 77 1 := ⟨xgV w_757 w_758 w_759 w_41 w_760, rfl, by decide +kernel, by decide, rfl⟩
theorem gW_law_362 : xCV xW_law xM_thrown 61 0 := ⟨xgV w_626 w_627 w_628 w_41 w_629, rfl, by decide +kernel, by decide, rfl⟩
theorem gW_law_416 : xCH xW_law xW_delete 78 3 := ⟨xgS w_481 w_482 w_36 w_483, by decide, by decide +kernel, by decide, rfl⟩
theorem gW_law_444 : xCV xW_law xM_delete 80 1 := ⟨xgV w_761 w_762 w_763 w_41 w_764, rfl, by decide +kernel, by decide, rfl⟩
theorem gW_law_450 : xCV xW_law xM_thrown 61 0 := ⟨xgV w_626 w_627 w_628 w_41 w_629, rfl, by decide +kernel, by decide, rfl⟩
theorem gW_law_510 : xCV xW_law xC_setOf 81 1 := ⟨xgV w_157 w_158 w_159 w_37 w_160, rfl, by decide +kernel, by decide, rfl⟩
theorem gW_law_536 : xCV xW_law xM_setOf 84 1 := ⟨xgV w_765 w_766 w_767 w_41 w_768, rfl, by decide +kernel, by decide, rfl⟩
theorem gW_law_568 : xCH xW_law xW_where 85 3 := ⟨xgS w_489 w_490 w_36 w_491, by decide, by decide +kernel, by decide, rfl⟩
theorem gW_law_596 : xCV xW_law xM_where 87 1 := ⟨xgV w_769 w_770 w_771 w_41 w_772, rfl, by decide +kernel, by decide, rfl⟩
theorem gW_law_602 : xCV xW_law xM_thrown 61 0 := ⟨xgV w_626 w_627 w_628 w_41 w_629, rfl, by decide +kernel, by decide, rfl⟩
theorem gW_law_646 : xCH xW_law xW_flash 88 4 := ⟨xgS w_496 w_497 w_36 w_498, by decide, by decide +kernel, by decide, rfl⟩
theorem gW_law_664 : xCV xW_law xM_flash 90 2 := ⟨xgV w_773 w_774 w_775 w_41 w_776, rfl, by decide +kernel, by decide, rfl⟩
theorem gW_law_670 : xCV xW_law xM_thrown 61 0 := ⟨xgV w_626 w_627 w_628 w_41 w_629, rfl, by decide +kernel, by decide, rfl⟩
theorem gW_law_701 : xCH xW_law xW_close 91 1 := ⟨xgS w_511 w_512 w_36 w_513, by decide, by decide +kernel, by decide, rfl⟩
theorem gW_law_707 : xCV xW_law xM_close 94 0 := ⟨xgV w_777 w_778 w_779 w_41 w_780, rfl, by decide +kernel, by decide, rfl⟩
theorem gW_law_711 : xCV xW_law xM_thrown 61 0 := ⟨xgV w_626 w_627 w_628 w_41 w_629, rfl, by decide +kernel, by decide, rfl⟩
theorem gW_law_725 : xCH xW_law xW_crash 95 1 := ⟨xgS w_518 w_519 w_36 w_520, by decide, by decide +kernel, by decide, rfl⟩
theorem gW_law_731 : xCV xW_law xM_crash 97 0 := ⟨xgV w_781 w_782 w_783 w_41 w_784, rfl, by decide +kernel, by decide, rfl⟩
theorem gW_law_735 : xCV xW_law xM_thrown 61 0 := ⟨xgV w_626 w_627 w_628 w_41 w_629, rfl, by decide +kernel, by decide, rfl⟩
theorem gW_law_750 : xCH xW_law xW_open 98 2 := ⟨xgS w_538 w_539 w_36 w_540, by decide, by decide +kernel, by decide, rfl⟩
theorem gW_law_756 : xCV xW_law xM_open 101 0 := ⟨xgV w_785 w_786 w_787 w_41 w_788, rfl, by decide +kernel, by decide, rfl⟩
theorem gW_law_762 : xCV xW_law xM_thrown 61 0 := ⟨xgV w_626 w_627 w_628 w_41 w_629, rfl, by decide +kernel, by decide, rfl⟩
theorem gW_law_799 : xCV xW_law xC_count 102 1 := ⟨xgV w_169 w_170 w_171 w_37 w_172, rfl, by decide +kernel, by decide, rfl⟩
theorem gW_law_809 : xCV xW_law xM_count 105 1 := ⟨xgV w_793 w_794 w_795 w_41 w_796, rfl, by decide +kernel, by decide, rfl⟩
theorem kW_word_5_0 : xCatch xW_word 5 "java/lang/IndexOutOfBoundsException" 13 := ⟨[], ⟨0, 10, 13, 13⟩, [], "java/lang/IndexOutOfBoundsException", rfl, (fun _ h => nomatch h), by decide, by decide, w_180, by decide, rfl⟩
theorem tC_word_10 : xTh xC_word 48 50 "java/lang/IndexOutOfBoundsException" ["java/lang/RuntimeException", "java/lang/Exception"] := ⟨by decide +kernel, by decide +kernel, w_185, w_45, by decide +kernel, by decide +kernel, by decide, by decide, rfl⟩
theorem kW_put_3_0 : xCatch xW_put 3 "java/lang/IllegalStateException" 9 := ⟨[], ⟨0, 6, 9, 19⟩, [⟨0, 6, 13, 21⟩], "java/lang/IllegalStateException", rfl, (fun _ h => nomatch h), by decide, by decide, w_251, by decide, rfl⟩
theorem kW_put_3_1 : xCatch xW_put 3 "java/lang/IllegalArgumentException" 13 := ⟨[⟨0, 6, 9, 19⟩], ⟨0, 6, 13, 21⟩, [], "java/lang/IllegalArgumentException", rfl, (fun z hz => by
    rw [List.mem_singleton.mp hz]
    exact Or.inr ⟨by decide, "java/lang/IllegalStateException", w_251, by decide⟩), by decide, by decide, w_252, by decide, rfl⟩
theorem tC_put_15 : xTh xC_put 54 56 "java/lang/IllegalArgumentException" ["java/lang/RuntimeException", "java/lang/Exception"] := ⟨by decide +kernel, by decide +kernel, w_276, w_47, by decide +kernel, by decide +kernel, by decide, by decide, rfl⟩
theorem tC_refuseWhenClosed_7 : xTh xC_refuseWhenClosed 133 135 "java/lang/IllegalStateException" ["java/lang/RuntimeException", "java/lang/Exception"] := ⟨by decide +kernel, by decide +kernel, w_261, w_46, by decide +kernel, by decide +kernel, by decide, by decide, rfl⟩
theorem kW_get_4_0 : xCatch xW_get 4 "java/lang/IllegalStateException" 12 := ⟨[], ⟨0, 9, 12, 19⟩, [], "java/lang/IllegalStateException", rfl, (fun _ h => nomatch h), by decide, by decide, w_251, by decide, rfl⟩
theorem kW_got_4_0 : xCatch xW_got 4 "java/lang/IndexOutOfBoundsException" 12 := ⟨[], ⟨0, 9, 12, 13⟩, [], "java/lang/IndexOutOfBoundsException", rfl, (fun _ h => nomatch h), by decide, by decide, w_180, by decide, rfl⟩
theorem tC_got_23 : xTh xC_got 48 50 "java/lang/IndexOutOfBoundsException" ["java/lang/RuntimeException", "java/lang/Exception"] := ⟨by decide +kernel, by decide +kernel, w_185, w_45, by decide +kernel, by decide +kernel, by decide, by decide, rfl⟩
theorem kW_delete_4_0 : xCatch xW_delete 4 "java/lang/IllegalStateException" 19 := ⟨[], ⟨0, 16, 19, 19⟩, [], "java/lang/IllegalStateException", rfl, (fun _ h => nomatch h), by decide, by decide, w_251, by decide, rfl⟩
theorem kW_where_4_0 : xCatch xW_where 4 "java/lang/IllegalStateException" 12 := ⟨[], ⟨0, 9, 12, 19⟩, [], "java/lang/IllegalStateException", rfl, (fun _ h => nomatch h), by decide, by decide, w_251, by decide, rfl⟩
theorem kW_flash_5_0 : xCatch xW_flash 5 "java/lang/IndexOutOfBoundsException" 13 := ⟨[], ⟨0, 10, 13, 13⟩, [], "java/lang/IndexOutOfBoundsException", rfl, (fun _ h => nomatch h), by decide, by decide, w_180, by decide, rfl⟩
theorem tC_flash_20 : xTh xC_flash 48 50 "java/lang/IndexOutOfBoundsException" ["java/lang/RuntimeException", "java/lang/Exception"] := ⟨by decide +kernel, by decide +kernel, w_185, w_45, by decide +kernel, by decide +kernel, by decide, by decide, rfl⟩
theorem kW_close_1_0 : xCatch xW_close 1 "java/lang/IllegalStateException" 7 := ⟨[], ⟨0, 4, 7, 19⟩, [], "java/lang/IllegalStateException", rfl, (fun _ h => nomatch h), by decide, by decide, w_251, by decide, rfl⟩
theorem kW_crash_1_0 : xCatch xW_crash 1 "java/lang/IllegalStateException" 7 := ⟨[], ⟨0, 4, 7, 19⟩, [], "java/lang/IllegalStateException", rfl, (fun _ h => nomatch h), by decide, by decide, w_251, by decide, rfl⟩
theorem kW_open_3_0 : xCatch xW_open 3 "java/lang/IllegalStateException" 11 := ⟨[], ⟨0, 8, 11, 19⟩, [], "java/lang/IllegalStateException", rfl, (fun _ h => nomatch h), by decide, by decide, w_251, by decide, rfl⟩
theorem tC_open_7 : xTh xC_open 133 135 "java/lang/IllegalStateException" ["java/lang/RuntimeException", "java/lang/Exception"] := ⟨by decide +kernel, by decide +kernel, w_261, w_46, by decide +kernel, by decide +kernel, by decide, by decide, rfl⟩
end
section
set_option maxRecDepth 100000 in
set_option maxHeartbeats 4000000 in
theorem bC_init {l : Launch} {G : xG} {m : XM} {Q : XR → XM → Prop} {a0 : Nat} (hst : l.stackTraces = false)
    (h : ∃ bc1 bs2, 268 = bc1 + 1 ∧ 2326 = bs2 + 8 ∧ ∀ a5, kd m a5 = none → ∀ m7, m7 = mN m a5 (aR 0 8) → kd m7 a0 = some (oB 4) ∧ ∀ m10, m10 = mR m7 a0 0 (some a5) → ∃ bc11 bs12, bc1 = bc11 + 129 ∧ bs2 = bs12 + 832 ∧ CC l G xC_newPages [vI (64 : Int32)] m10 (kR (fun v16 m15 => kd m15 a0 = some (oB 4) ∧ ∀ m18, m18 = mR m15 a0 1 v16 → ∃ bc19 bs20, bc11 = bc19 + 1 ∧ bs12 = bs20 + 4 ∧ ∀ a23, kd m15 a23 = none → ∀ m25, m25 = mN m18 a23 (oB 2) → ∃ bc28 bs29, bc19 = bc28 + 134 ∧ bs20 = bs29 + 1175 ∧ CC l G xG_init [vR (some a23)] m25 (kN (fun m32 => kd m32 a0 = some (oB 4) ∧ ∀ m34, m34 = mR m32 a0 2 (some a23) → ∃ bc35 bs36, bc28 = bc35 + 1 ∧ bs29 = bs36 + 11 ∧ ∀ a39, kd m32 a39 = none → ∀ m41, m41 = mN m34 a39 (aR 0 11) → ∀ m44, m44 = mR m41 a0 3 (some a39) → ∃ bc45 bs46, bc35 = bc45 + 1 ∧ bs36 = bs46 + 264 ∧ ∀ a49, kd m41 a49 = none → ∀ m51, m51 = mN m44 a49 (aR 3 264) → ∀ m55, m55 = mR m51 a0 4 (some a49) → ∃ bc56 bs57, bc45 = bc56 + 1 ∧ bs46 = bs57 + 32 ∧ ∀ a60, kd m51 a60 = none → ∀ m62, m62 = mN m55 a60 (aR 3 32) → ∀ m67, m67 = mR m62 a0 5 (some a60) → ∀ m68, m68 = mR m67 a0 6 none → ∀ m69, m69 = mI m68 a0 7 (1 : Int32) → Q (.inl none) m69))) Q)) :
    CC l G xC_init [vR (some a0)] m Q := by
  refine x_entry (by decide +kernel) rfl hst (Nat.le_of_ble_eq_true rfl) (L0 := [some (vR (some a0))]) rfl ?_
  refine x_aload_n dC_init_0 rfl (n := 1) rfl ?_
  refine x_objInit dC_init_1 w_57 w_58 w_59 (by decide) (by decide) (n := 4) rfl ?_
  refine x_aload_n dC_init_4 rfl (n := 5) rfl ?_
  refine x_bipush (v := 8) dC_init_5 (by decide) (n := 7) rfl ?_
  obtain ⟨bc1, bs2, b3, b4, h⟩ := h
  refine x_newa (atype := .int) (t := 0) (N := 8) dC_init_7 w_87 (by decide) (by decide) (by decide) (n := 9) rfl (by decide) b3 b4 fun a5 f6 => ?_
  replace h := h a5 f6 _ rfl
  have k8 := kdNs m a5 (aR 0 8)
  obtain ⟨k9, h⟩ := h
  replace h := h _ rfl
  refine x_putR rfl dC_init_9 pC_9 k9 (fun o => by cases o <;> rfl) (fun o => by cases o <;> rfl) (n := 12) rfl ?_
  refine x_aload_n dC_init_12 rfl (n := 13) rfl ?_
  refine x_bipush (v := 64) dC_init_13 (by decide) (n := 15) rfl ?_
  obtain ⟨bc11, bs12, b13, b14, h⟩ := h
  refine x_invS (m := (mR (mN m a5 (aR 0 8)) a0 0 (some a5))) dC_init_15 gC_init_15 (as := [vI (64 : Int32)]) (st := [vR (some a0)]) rfl rfl (Nat.le_of_ble_eq_true rfl) (n := 18) rfl b13 b14 h (xBk.R fun v16 m15 h => ?_)
  obtain ⟨k17, h⟩ := h
  replace h := h _ rfl
  refine x_putR rfl dC_init_18 pC_17 k17 (fun o => by cases o <;> rfl) (fun o => by cases o <;> rfl) (n := 21) rfl ?_
  refine x_aload_n dC_init_21 rfl (n := 22) rfl ?_
  obtain ⟨bc19, bs20, b21, b22, h⟩ := h
  refine x_new dC_init_22 nC_21 (n := 25) rfl b21 b22 fun a23 f24 => ?_
  replace h := h a23 f24 _ rfl
  have k26 := kdN (k := oB 2) f24 k17
  have k27 := kdNs (mR m15 a0 1 v16) a23 (oB 2)
  refine x_dup dC_init_25 rfl (n := 26) rfl ?_
  obtain ⟨bc28, bs29, b30, b31, h⟩ := h
  refine x_invIN (m := (mN (mR m15 a0 1 v16) a23 (oB 2))) dC_init_26 gC_init_26 (as := []) (st := [vR (some a23), vR (some a0)]) rfl rfl (Nat.le_of_ble_eq_true rfl) (n := 29) rfl b30 b31 h kN.no (xBk.N fun m32 h => ?_)
  obtain ⟨k33, h⟩ := h
  replace h := h _ rfl
  refine x_putR rfl dC_init_29 pC_24 k33 (fun o => by cases o <;> rfl) (fun o => by cases o <;> rfl) (n := 32) rfl ?_
  refine x_aload_n dC_init_32 rfl (n := 33) rfl ?_
  refine x_bipush (v := 11) dC_init_33 (by decide) (n := 35) rfl ?_
  obtain ⟨bc35, bs36, b37, b38, h⟩ := h
  refine x_newa (atype := .int) (t := 0) (N := 11) dC_init_35 w_87 (by decide) (by decide) (by decide) (n := 37) rfl (by decide) b37 b38 fun a39 f40 => ?_
  replace h := h a39 f40 _ rfl
  have k42 := kdN (k := aR 0 11) f40 k33
  have k43 := kdNs (mR m32 a0 2 (some a23)) a39 (aR 0 11)
  replace h := h _ rfl
  refine x_putR rfl dC_init_37 pC_28 k42 (fun o => by cases o <;> rfl) (fun o => by cases o <;> rfl) (n := 40) rfl ?_
  refine x_aload_n dC_init_40 rfl (n := 41) rfl ?_
  refine x_sipush (v := 264) dC_init_41 (by decide) (n := 44) rfl ?_
  obtain ⟨bc45, bs46, b47, b48, h⟩ := h
  refine x_anew (t := 3) (N := 264) dC_init_44 w_131 (by decide) (by decide) (by decide) (by decide) (n := 47) rfl (by decide) b47 b48 fun a49 f50 => ?_
  replace h := h a49 f50 _ rfl
  have k52 := kdN (k := aR 3 264) f50 k42
  have k53 := kdN (k := aR 3 264) f50 k43
  have k54 := kdNs (mR (mN (mR m32 a0 2 (some a23)) a39 (aR 0 11)) a0 3 (some a39)) a49 (aR 3 264)
  replace h := h _ rfl
  refine x_putR rfl dC_init_47 pC_33 k52 (fun o => by cases o <;> rfl) (fun o => by cases o <;> rfl) (n := 50) rfl ?_
  refine x_aload_n dC_init_50 rfl (n := 51) rfl ?_
  refine x_bipush (v := 32) dC_init_51 (by decide) (n := 53) rfl ?_
  obtain ⟨bc56, bs57, b58, b59, h⟩ := h
  refine x_anew (t := 3) (N := 32) dC_init_53 w_131 (by decide) (by decide) (by decide) (by decide) (n := 56) rfl (by decide) b58 b59 fun a60 f61 => ?_
  replace h := h a60 f61 _ rfl
  have k63 := kdN (k := aR 3 32) f61 k52
  have k64 := kdN (k := aR 3 32) f61 k53
  have k65 := kdN (k := aR 3 32) f61 k54
  have k66 := kdNs (mR (mN (mR (mN (mR m32 a0 2 (some a23)) a39 (aR 0 11)) a0 3 (some a39)) a49 (aR 3 264)) a0 4 (some a49)) a60 (aR 3 32)
  replace h := h _ rfl
  refine x_putR rfl dC_init_56 pC_37 k63 (fun o => by cases o <;> rfl) (fun o => by cases o <;> rfl) (n := 59) rfl ?_
  refine x_aload_n dC_init_59 rfl (n := 60) rfl ?_
  refine x_null dC_init_60 (n := 61) rfl ?_
  replace h := h _ rfl
  refine x_putR rfl dC_init_61 pC_40 k63 (fun o => by cases o <;> rfl) (fun o => by cases o <;> rfl) (n := 64) rfl ?_
  refine x_aload_n dC_init_64 rfl (n := 65) rfl ?_
  refine x_iconst (v := 1) dC_init_65 (by decide) (n := 66) rfl ?_
  replace h := h _ rfl
  refine x_putI rfl dC_init_66 pC_44 k63 (by decide) (by decide) (n := 69) rfl ?_
  exact x_vret dC_init_69 rfl h
set_option maxRecDepth 100000 in
set_option maxHeartbeats 4000000 in
theorem bC_newPages_7 {l : Launch} {G : xG} {m : XM} {bc bs : Nat} {Q : XR → XM → Prop} {x0 : Int32} {o1 : Option Nat} {x2 : Int32}
    (h : ((x0 ≤ x2 → Q (.inl (some (vR o1))) m) ∧ (¬ x0 ≤ x2 → ∃ bc1 bs2, bc = bc1 + 1 ∧ bs = bs2 + 4 ∧ ∀ a5, kd m a5 = none → ∀ m7, m7 = mN m a5 (oB 3) → ∃ bc9 bs10, bc1 = bc9 + 1 ∧ bs2 = bs10 + 8 ∧ CC l G xP_init [vR (some a5)] m7 (kN (fun m13 => ∃ a14, o1 = some a14 ∧ ∃ n17, kd m13 a14 = some (aR 4 n17) ∧ vp_in x2 n17 ∧ kd m13 a5 = some (oB 3) ∧ ∀ m20, m20 = mR m13 a14 x2.toNatClampNeg (some a5) → WW l G xC_newPages 7 [some (vI x0), some (vR o1), some (vI (x2 + 1))] [] m20 bc9 bs10 Q))))) :
    WW l G xC_newPages 7 [some (vI x0), some (vR o1), some (vI x2)] [] m bc bs Q := by
  refine x_iload_n dC_newPages_7 rfl (n := 8) rfl ?_
  refine x_iload_n dC_newPages_8 rfl (n := 9) rfl ?_
  obtain ⟨h, h'⟩ := h
  refine x_icmp_ge (tgt := 28) dC_newPages_9 rfl (n := 12) rfl (fun c21 => ?_) (fun c21 => ?_)
  · replace h := h c21
    refine x_aload_n dC_newPages_28 rfl (n := 29) rfl ?_
    exact x_aret dC_newPages_29 rfl (Or.inr ⟨_, rfl⟩) h
  · replace h := h' c21
    refine x_aload_n dC_newPages_12 rfl (n := 13) rfl ?_
    refine x_iload_n dC_newPages_13 rfl (n := 14) rfl ?_
    obtain ⟨bc1, bs2, b3, b4, h⟩ := h
    refine x_new dC_newPages_14 nC_116 (n := 17) rfl b3 b4 fun a5 f6 => ?_
    replace h := h a5 f6 _ rfl
    have k8 := kdNs m a5 (oB 3)
    refine x_dup dC_newPages_17 rfl (n := 18) rfl ?_
    obtain ⟨bc9, bs10, b11, b12, h⟩ := h
    refine x_invIN (m := (mN m a5 (oB 3))) dC_newPages_18 gC_newPages_18 (as := []) (st := [vR (some a5), vI x2, vR o1]) rfl rfl (Nat.le_of_ble_eq_true rfl) (n := 21) rfl b11 b12 h kN.no (xBk.N fun m13 h => ?_)
    obtain ⟨a14, e15, h⟩ := h
    obtain ⟨n17, k16, h⟩ := h
    obtain ⟨c18, h⟩ := h
    obtain ⟨k19, h⟩ := h
    replace h := h _ rfl
    refine x_aast e15 rfl dC_newPages_21 k16 (by decide) k19 c18 (n := 22) rfl ?_
    refine x_iinc (v := x2 + 1) dC_newPages_22 rfl rfl (by decide) (L' := [some (vI x0), some (vR o1), some (vI (x2 + 1))]) rfl (n := 25) rfl ?_
    refine x_goto (tgt := 7) dC_newPages_25 rfl ?_
    exact h
set_option maxRecDepth 100000 in
set_option maxHeartbeats 4000000 in
theorem bC_newPages {l : Launch} {G : xG} {m : XM} {Q : XR → XM → Prop} {x0 : Int32} (hst : l.stackTraces = false)
    (h : ¬ x0 < 0 ∧ x0.toNatClampNeg ≤ 1000000 ∧ ∃ bc1 bs2, 129 = bc1 + 1 ∧ 832 = bs2 + (x0).toNatClampNeg ∧ ∀ a7, kd m a7 = none → ∀ m9, m9 = mN m a7 (aR 4 ((x0).toNatClampNeg)) → WW l G xC_newPages 7 [some (vI x0), some (vR (some a7)), some (vI (0 : Int32))] [] m9 bc1 bs2 Q) :
    CC l G xC_newPages [vI x0] m Q := by
  refine x_entry (by decide +kernel) rfl hst (Nat.le_of_ble_eq_true rfl) (L0 := [some (vI x0), none, none]) rfl ?_
  refine x_iload_n dC_newPages_0 rfl (n := 1) rfl ?_
  obtain ⟨c5, h⟩ := h
  obtain ⟨c6, h⟩ := h
  obtain ⟨bc1, bs2, b3, b4, h⟩ := h
  refine x_anew (t := 4) (N := (x0).toNatClampNeg) dC_newPages_1 w_63 (by decide) (by decide) c5 c6 (n := 4) rfl rfl b3 b4 fun a7 f8 => ?_
  replace h := h a7 f8 _ rfl
  have k10 := kdNs m a7 (aR 4 ((x0).toNatClampNeg))
  refine x_astore_n dC_newPages_4 (by decide) (L' := [some (vI x0), some (vR (some a7)), none]) rfl (n := 5) rfl ?_
  refine x_iconst (v := 0) dC_newPages_5 (by decide) (n := 6) rfl ?_
  refine x_istore_n dC_newPages_6 (by decide) (L' := [some (vI x0), some (vR (some a7)), some (vI (0 : Int32))]) rfl (n := 7) rfl ?_
  exact h
set_option maxRecDepth 100000 in
set_option maxHeartbeats 4000000 in
theorem bC_setOf {l : Launch} {G : xG} {m : XM} {Q : XR → XM → Prop} {a0 : Nat} {x1 : Int64} (hst : l.stackTraces = false)
    (h : CC l G xC_mix [vL x1] m (kL (fun v2 m1 => CC l G xC_setNumber [vL v2] m1 (kI (fun v4 m3 => Q (.inl (some (vI v4))) m3) Q)) Q)) :
    CC l G xC_setOf [vR (some a0), vL x1] m Q := by
  refine x_entry (by decide +kernel) rfl hst (Nat.le_of_ble_eq_true rfl) (L0 := [some (vR (some a0)), some (vL x1), none]) rfl ?_
  refine x_lload_n dC_setOf_0 rfl (n := 1) rfl ?_
  refine x_invS (m := m) dC_setOf_1 gC_setOf_1 (as := [vL x1]) (st := []) rfl rfl (Nat.le_of_ble_eq_true rfl) (n := 4) rfl rfl rfl h (xBk.J fun v2 m1 h => ?_)
  refine x_invS (m := m1) dC_setOf_4 gC_setOf_4 (as := [vL v2]) (st := []) rfl rfl (Nat.le_of_ble_eq_true rfl) (n := 7) rfl rfl rfl h (xBk.I fun v4 m3 h => ?_)
  exact x_iret dC_setOf_7 rfl h
set_option maxRecDepth 100000 in
set_option maxHeartbeats 4000000 in
theorem bC_mix {l : Launch} {G : xG} {m : XM} {Q : XR → XM → Prop} {x0 : Int64} (hst : l.stackTraces = false)
    (h : Q (.inl (some (vL (((((x0 ^^^ (jushr x0 (30 : Int32))) * (-4658895280553007687 : Int64)) ^^^ (jushr ((x0 ^^^ (jushr x0 (30 : Int32))) * (-4658895280553007687 : Int64)) (27 : Int32))) * (-7723592293110705685 : Int64)) ^^^ (jushr ((((x0 ^^^ (jushr x0 (30 : Int32))) * (-4658895280553007687 : Int64)) ^^^ (jushr ((x0 ^^^ (jushr x0 (30 : Int32))) * (-4658895280553007687 : Int64)) (27 : Int32))) * (-7723592293110705685 : Int64)) (31 : Int32)))))) m) :
    CC l G xC_mix [vL x0] m Q := by
  refine x_entry (by decide +kernel) rfl hst (Nat.le_of_ble_eq_true rfl) (L0 := [some (vL x0), none, none, none]) rfl ?_
  refine x_lload_n dC_mix_0 rfl (n := 1) rfl ?_
  refine x_lload_n dC_mix_1 rfl (n := 2) rfl ?_
  refine x_bipush (v := 30) dC_mix_2 (by decide) (n := 4) rfl ?_
  refine x_lushr dC_mix_4 (n := 5) rfl ?_
  refine x_lxor dC_mix_5 (n := 6) rfl ?_
  refine x_ldc2 (v := -4658895280553007687) dC_mix_6 w_164 (n := 9) rfl ?_
  refine x_lmul dC_mix_9 (n := 10) rfl ?_
  refine x_lstore_n dC_mix_10 (by decide) (L' := [some (vL x0), none, some (vL ((x0 ^^^ (jushr x0 (30 : Int32))) * (-4658895280553007687 : Int64))), none]) rfl (n := 11) rfl ?_
  refine x_lload_n dC_mix_11 rfl (n := 12) rfl ?_
  refine x_lload_n dC_mix_12 rfl (n := 13) rfl ?_
  refine x_bipush (v := 27) dC_mix_13 (by decide) (n := 15) rfl ?_
  refine x_lushr dC_mix_15 (n := 16) rfl ?_
  refine x_lxor dC_mix_16 (n := 17) rfl ?_
  refine x_ldc2 (v := -7723592293110705685) dC_mix_17 w_165 (n := 20) rfl ?_
  refine x_lmul dC_mix_20 (n := 21) rfl ?_
  refine x_lstore_n dC_mix_21 (by decide) (L' := [some (vL x0), none, some (vL ((((x0 ^^^ (jushr x0 (30 : Int32))) * (-4658895280553007687 : Int64)) ^^^ (jushr ((x0 ^^^ (jushr x0 (30 : Int32))) * (-4658895280553007687 : Int64)) (27 : Int32))) * (-7723592293110705685 : Int64))), none]) rfl (n := 22) rfl ?_
  refine x_lload_n dC_mix_22 rfl (n := 23) rfl ?_
  refine x_lload_n dC_mix_23 rfl (n := 24) rfl ?_
  refine x_bipush (v := 31) dC_mix_24 (by decide) (n := 26) rfl ?_
  refine x_lushr dC_mix_26 (n := 27) rfl ?_
  refine x_lxor dC_mix_27 (n := 28) rfl ?_
  exact x_lret dC_mix_28 rfl h
set_option maxRecDepth 100000 in
set_option maxHeartbeats 4000000 in
theorem bC_setNumber {l : Launch} {G : xG} {m : XM} {Q : XR → XM → Prop} {x0 : Int64} (hst : l.stackTraces = false)
    (h : Q (.inl (some (vI ((jushr x0 (58 : Int32)).toInt32)))) m) :
    CC l G xC_setNumber [vL x0] m Q := by
  refine x_entry (by decide +kernel) rfl hst (Nat.le_of_ble_eq_true rfl) (L0 := [some (vL x0), none]) rfl ?_
  refine x_lload_n dC_setNumber_0 rfl (n := 1) rfl ?_
  refine x_bipush (v := 58) dC_setNumber_1 (by decide) (n := 3) rfl ?_
  refine x_lushr dC_setNumber_3 (n := 4) rfl ?_
  refine x_l2i dC_setNumber_4 (n := 5) rfl ?_
  exact x_iret dC_setNumber_5 rfl h
set_option maxRecDepth 100000 in
set_option maxHeartbeats 4000000 in
theorem bC_count {l : Launch} {G : xG} {m : XM} {Q : XR → XM → Prop} {a0 : Nat} {x1 : Int32} (hst : l.stackTraces = false)
    (h : ((x1 < 0 → Q (.inl (some (vI (-1 : Int32)))) m) ∧ (¬ x1 < 0 → ((x1 ≤ (12 : Int32) → ((¬ x1 = 0 → ((¬ x1 = (11 : Int32) → ((¬ x1 = (12 : Int32) → kd m a0 = some (oB 4) ∧ ∃ a2, gR m a0 3 = some a2 ∧ ∃ n5, kd m a2 = some (aR 0 n5) ∧ vp_in x1 n5 ∧ Q (.inl (some (vI (gI m a2 x1.toNatClampNeg)))) m) ∧ (x1 = (12 : Int32) → kd m a0 = some (oB 4) ∧ ∃ a8, gR m a0 2 = some a8 ∧ kd m a8 = some (oB 2) ∧ ∃ a11, gR m a8 2 = some a11 ∧ kd m a11 = some (oB 3) ∧ Q (.inl (some (vI (gI m a11 2)))) m))) ∧ (x1 = (11 : Int32) → kd m a0 = some (oB 4) ∧ ∃ a16, gR m a0 2 = some a16 ∧ kd m a16 = some (oB 2) ∧ ∃ a19, gR m a16 1 = some a19 ∧ kd m a19 = some (oB 0) ∧ Q (.inl (some (vI (gI m a19 2)))) m))) ∧ (x1 = 0 → kd m a0 = some (oB 4) ∧ ∃ a24, gR m a0 2 = some a24 ∧ kd m a24 = some (oB 2) ∧ CC l G xG_fullSegments [vR (some a24)] m (kI (fun v28 m27 => Q (.inl (some (vI v28))) m27) Q)))) ∧ (¬ x1 ≤ (12 : Int32) → Q (.inl (some (vI (-1 : Int32)))) m))))) :
    CC l G xC_count [vR (some a0), vI x1] m Q := by
  refine x_entry (by decide +kernel) rfl hst (Nat.le_of_ble_eq_true rfl) (L0 := [some (vR (some a0)), some (vI x1)]) rfl ?_
  refine x_iload_n dC_count_0 rfl (n := 1) rfl ?_
  obtain ⟨h, h'⟩ := h
  refine x_if_lt (tgt := 10) dC_count_1 rfl (n := 4) rfl (fun c31 => ?_) (fun c31 => ?_)
  · replace h := h c31
    refine x_iconst (v := -1) dC_count_10 (by decide) (n := 11) rfl ?_
    exact x_iret dC_count_11 rfl h
  · replace h := h' c31
    refine x_iload_n dC_count_4 rfl (n := 5) rfl ?_
    refine x_bipush (v := 12) dC_count_5 (by decide) (n := 7) rfl ?_
    obtain ⟨h, h'⟩ := h
    refine x_icmp_le (tgt := 12) dC_count_7 rfl (n := 10) rfl (fun c30 => ?_) (fun c30 => ?_)
    · replace h := h c30
      refine x_iload_n dC_count_12 rfl (n := 13) rfl ?_
      obtain ⟨h, h'⟩ := h
      refine x_if_ne (tgt := 24) dC_count_13 rfl (n := 16) rfl (fun c29 => ?_) (fun c29 => ?_)
      · replace h := h c29
        refine x_iload_n dC_count_24 rfl (n := 25) rfl ?_
        refine x_bipush (v := 11) dC_count_25 (by decide) (n := 27) rfl ?_
        obtain ⟨h, h'⟩ := h
        refine x_icmp_ne (tgt := 41) dC_count_27 rfl (n := 30) rfl (fun c22 => ?_) (fun c22 => ?_)
        · replace h := h c22
          refine x_iload_n dC_count_41 rfl (n := 42) rfl ?_
          refine x_bipush (v := 12) dC_count_42 (by decide) (n := 44) rfl ?_
          obtain ⟨h, h'⟩ := h
          refine x_icmp_ne (tgt := 60) dC_count_44 rfl (n := 47) rfl (fun c14 => ?_) (fun c14 => ?_)
          · replace h := h c14
            refine x_aload_n dC_count_60 rfl (n := 61) rfl ?_
            obtain ⟨k1, h⟩ := h
            refine x_getR rfl dC_count_61 fC_28 k1 (n := 64) rfl ?_
            refine x_iload_n dC_count_64 rfl (n := 65) rfl ?_
            obtain ⟨a2, e3, h⟩ := h
            obtain ⟨n5, k4, h⟩ := h
            obtain ⟨c6, h⟩ := h
            refine x_iald e3 dC_count_65 k4 c6 (n := 66) rfl ?_
            exact x_iret dC_count_66 rfl h
          · replace h := h' c14
            refine x_aload_n dC_count_47 rfl (n := 48) rfl ?_
            obtain ⟨k7, h⟩ := h
            refine x_getR rfl dC_count_48 fC_24 k7 (n := 51) rfl ?_
            obtain ⟨a8, e9, h⟩ := h
            obtain ⟨k10, h⟩ := h
            refine x_getR e9 dC_count_51 fC_144 k10 (n := 54) rfl ?_
            obtain ⟨a11, e12, h⟩ := h
            obtain ⟨k13, h⟩ := h
            refine x_getI e12 dC_count_54 fC_148 k13 (n := 57) rfl ?_
            refine x_goto (tgt := 66) dC_count_57 rfl ?_
            exact x_iret dC_count_66 rfl h
        · replace h := h' c22
          refine x_aload_n dC_count_30 rfl (n := 31) rfl ?_
          obtain ⟨k15, h⟩ := h
          refine x_getR rfl dC_count_31 fC_24 k15 (n := 34) rfl ?_
          obtain ⟨a16, e17, h⟩ := h
          obtain ⟨k18, h⟩ := h
          refine x_getR e17 dC_count_34 fC_77 k18 (n := 37) rfl ?_
          obtain ⟨a19, e20, h⟩ := h
          obtain ⟨k21, h⟩ := h
          refine x_getI e20 dC_count_37 fC_136 k21 (n := 40) rfl ?_
          exact x_iret dC_count_40 rfl h
      · replace h := h' c29
        refine x_aload_n dC_count_16 rfl (n := 17) rfl ?_
        obtain ⟨k23, h⟩ := h
        refine x_getR rfl dC_count_17 fC_24 k23 (n := 20) rfl ?_
        obtain ⟨a24, e25, h⟩ := h
        obtain ⟨k26, h⟩ := h
        refine x_invV (m := m) e25 dC_count_20 gC_count_20 (as := []) (st := []) rfl rfl k26 rfl rfl (Nat.le_of_ble_eq_true rfl) (n := 23) rfl rfl rfl h (xBk.I fun v28 m27 h => ?_)
        exact x_iret dC_count_23 rfl h
    · replace h := h' c30
      refine x_iconst (v := -1) dC_count_10 (by decide) (n := 11) rfl ?_
      exact x_iret dC_count_11 rfl h
set_option maxRecDepth 100000 in
set_option maxHeartbeats 4000000 in
theorem bC_word {l : Launch} {G : xG} {m : XM} {Q : XR → XM → Prop} {a0 : Nat} {x1 : Int32} {x2 : Int32} (hst : l.stackTraces = false)
    (h : ((x1 < 0 → (1 ≤ 1 ∧ 6 ≤ 6 ∧ Q (.inr "java/lang/IndexOutOfBoundsException") m)) ∧ (¬ x1 < 0 → ((x1 < (8 : Int32) → kd m a0 = some (oB 4) ∧ ∃ a2, gR m a0 0 = some a2 ∧ ∃ n5, kd m a2 = some (aR 0 n5) ∧ vp_in x1 n5 ∧ vp_in x1 n5 ∧ ∀ m8, m8 = mI m a2 x1.toNatClampNeg x2 → Q (.inl (some (vI (gI m a2 x1.toNatClampNeg)))) m8) ∧ (¬ x1 < (8 : Int32) → (1 ≤ 1 ∧ 6 ≤ 6 ∧ Q (.inr "java/lang/IndexOutOfBoundsException") m)))))) :
    CC l G xC_word [vR (some a0), vI x1, vI x2] m Q := by
  refine x_entry (by decide +kernel) rfl hst (Nat.le_of_ble_eq_true rfl) (L0 := [some (vR (some a0)), some (vI x1), some (vI x2), none]) rfl ?_
  refine x_iload_n dC_word_0 rfl (n := 1) rfl ?_
  obtain ⟨h, h'⟩ := h
  refine x_if_lt (tgt := 10) dC_word_1 rfl (n := 4) rfl (fun c10 => ?_) (fun c10 => ?_)
  · replace h := h c10
    exact x_throw0 tC_word_10 dC_word_10 dC_word_13 dC_word_14 dC_word_17 h.1 h.2.1 h.2.2
  · replace h := h' c10
    refine x_iload_n dC_word_4 rfl (n := 5) rfl ?_
    refine x_bipush (v := 8) dC_word_5 (by decide) (n := 7) rfl ?_
    obtain ⟨h, h'⟩ := h
    refine x_icmp_lt (tgt := 18) dC_word_7 rfl (n := 10) rfl (fun c9 => ?_) (fun c9 => ?_)
    · replace h := h c9
      refine x_aload_n dC_word_18 rfl (n := 19) rfl ?_
      obtain ⟨k1, h⟩ := h
      refine x_getR rfl dC_word_19 fC_9 k1 (n := 22) rfl ?_
      refine x_iload_n dC_word_22 rfl (n := 23) rfl ?_
      obtain ⟨a2, e3, h⟩ := h
      obtain ⟨n5, k4, h⟩ := h
      obtain ⟨c6, h⟩ := h
      refine x_iald e3 dC_word_23 k4 c6 (n := 24) rfl ?_
      refine x_istore_n dC_word_24 (by decide) (L' := [some (vR (some a0)), some (vI x1), some (vI x2), some (vI (gI m a2 x1.toNatClampNeg))]) rfl (n := 25) rfl ?_
      refine x_aload_n dC_word_25 rfl (n := 26) rfl ?_
      refine x_getR rfl dC_word_26 fC_9 k1 (n := 29) rfl ?_
      refine x_iload_n dC_word_29 rfl (n := 30) rfl ?_
      refine x_iload_n dC_word_30 rfl (n := 31) rfl ?_
      obtain ⟨c7, h⟩ := h
      replace h := h _ rfl
      refine x_iast e3 dC_word_31 k4 c7 (n := 32) rfl ?_
      refine x_iload_n dC_word_32 rfl (n := 33) rfl ?_
      exact x_iret dC_word_33 rfl h
    · replace h := h' c9
      exact x_throw0 tC_word_10 dC_word_10 dC_word_13 dC_word_14 dC_word_17 h.1 h.2.1 h.2.2
set_option maxRecDepth 100000 in
set_option maxHeartbeats 4000000 in
theorem bC_put_44 {l : Launch} {G : xG} {m : XM} {bc bs : Nat} {Q : XR → XM → Prop} {a0 : Nat} {x1 : Int64} {x3 : Int32} {o4 : Option Nat} {x5 : Int32}
    (h : (((32 : Int32) ≤ x5 → kd m a0 = some (oB 4) ∧ ∃ a2, gR m a0 2 = some a2 ∧ kd m a2 = some (oB 2) ∧ CC l G xG_append [vR (some a2), vR o4] m (kV (fun m5 => Q (.inl none) m5) Q)) ∧ (¬ (32 : Int32) ≤ x5 → kd m a0 = some (oB 4) ∧ ∃ a7, gR m a0 2 = some a7 ∧ kd m a7 = some (oB 2) ∧ CC l G xG_hasRoomFor [vR (some a7), vR o4] m (kI (fun v11 m10 => ((¬ v11 = 0 → kd m10 a0 = some (oB 4) ∧ ∃ a13, gR m10 a0 2 = some a13 ∧ kd m10 a13 = some (oB 2) ∧ CC l G xG_append [vR (some a13), vR o4] m10 (kV (fun m16 => Q (.inl none) m16) Q)) ∧ (v11 = 0 → kd m10 a0 = some (oB 4) ∧ CC l G xC_writeOpenPage [vR (some a0)] m10 (kV (fun m18 => WW l G xC_put 44 [some (vR (some a0)), some (vL x1), none, some (vI x3), some (vR o4), some (vI (x5 + 1))] [] m18 bc bs Q) Q)))) Q)))) :
    WW l G xC_put 44 [some (vR (some a0)), some (vL x1), none, some (vI x3), some (vR o4), some (vI x5)] [] m bc bs Q := by
  refine x_iload dC_put_44 rfl (n := 46) rfl ?_
  refine x_bipush (v := 32) dC_put_46 (by decide) (n := 48) rfl ?_
  obtain ⟨h, h'⟩ := h
  refine x_icmp_ge (tgt := 73) dC_put_48 rfl (n := 51) rfl (fun c20 => ?_) (fun c20 => ?_)
  · replace h := h c20
    refine x_aload_n dC_put_73 rfl (n := 74) rfl ?_
    obtain ⟨k1, h⟩ := h
    refine x_getR rfl dC_put_74 fC_24 k1 (n := 77) rfl ?_
    refine x_aload dC_put_77 rfl (n := 79) rfl ?_
    obtain ⟨a2, e3, h⟩ := h
    obtain ⟨k4, h⟩ := h
    refine x_invV (m := m) e3 dC_put_79 gC_put_79 (as := [vR o4]) (st := []) rfl rfl k4 rfl rfl (Nat.le_of_ble_eq_true rfl) (n := 82) rfl rfl rfl h (xBk.V fun m5 h => ?_)
    exact x_vret dC_put_82 rfl h
  · replace h := h' c20
    refine x_aload_n dC_put_51 rfl (n := 52) rfl ?_
    obtain ⟨k6, h⟩ := h
    refine x_getR rfl dC_put_52 fC_24 k6 (n := 55) rfl ?_
    refine x_aload dC_put_55 rfl (n := 57) rfl ?_
    obtain ⟨a7, e8, h⟩ := h
    obtain ⟨k9, h⟩ := h
    refine x_invV (m := m) e8 dC_put_57 gC_put_57 (as := [vR o4]) (st := []) rfl rfl k9 rfl rfl (Nat.le_of_ble_eq_true rfl) (n := 60) rfl rfl rfl h (xBk.I fun v11 m10 h => ?_)
    obtain ⟨h, h'⟩ := h
    refine x_if_ne (tgt := 73) dC_put_60 rfl (n := 63) rfl (fun c19 => ?_) (fun c19 => ?_)
    · replace h := h c19
      refine x_aload_n dC_put_73 rfl (n := 74) rfl ?_
      obtain ⟨k12, h⟩ := h
      refine x_getR rfl dC_put_74 fC_24 k12 (n := 77) rfl ?_
      refine x_aload dC_put_77 rfl (n := 79) rfl ?_
      obtain ⟨a13, e14, h⟩ := h
      obtain ⟨k15, h⟩ := h
      refine x_invV (m := m10) e14 dC_put_79 gC_put_79 (as := [vR o4]) (st := []) rfl rfl k15 rfl rfl (Nat.le_of_ble_eq_true rfl) (n := 82) rfl rfl rfl h (xBk.V fun m16 h => ?_)
      exact x_vret dC_put_82 rfl h
    · replace h := h' c19
      refine x_aload_n dC_put_63 rfl (n := 64) rfl ?_
      obtain ⟨k17, h⟩ := h
      refine x_invV (m := m10) rfl dC_put_64 gC_put_64 (as := []) (st := []) rfl rfl k17 rfl rfl (Nat.le_of_ble_eq_true rfl) (n := 67) rfl rfl rfl h (xBk.V fun m18 h => ?_)
      refine x_iinc (v := x5 + 1) dC_put_67 rfl rfl (by decide) (L' := [some (vR (some a0)), some (vL x1), none, some (vI x3), some (vR o4), some (vI (x5 + 1))]) rfl (n := 70) rfl ?_
      refine x_goto (tgt := 44) dC_put_70 rfl ?_
      exact h
set_option maxRecDepth 100000 in
set_option maxHeartbeats 4000000 in
theorem bC_put {l : Launch} {G : xG} {m : XM} {Q : XR → XM → Prop} {a0 : Nat} {x1 : Int64} {x3 : Int32} (hst : l.stackTraces = false)
    (h : kd m a0 = some (oB 4) ∧ ∃ bc2 bs3, 4 = bc2 + 1 ∧ 26 = bs3 + 6 ∧ CC l G xC_refuseWhenClosed [vR (some a0)] m (kV (fun m6 => ((x3 < (1 : Int32) → (1 ≤ bc2 ∧ 6 ≤ bs3 ∧ Q (.inr "java/lang/IllegalArgumentException") m6)) ∧ (¬ x3 < (1 : Int32) → ((x3 ≤ (8 : Int32) → ∃ bc7 bs8, bc2 = bc7 + 1 ∧ bs3 = bs8 + 6 ∧ ∀ a11, kd m6 a11 = none → ∀ m13, m13 = mN m6 a11 (oB 1) → kd m13 a0 = some (oB 4) ∧ ∃ bc16 bs17, bc7 = bc16 + 1 ∧ bs8 = bs17 + 8 ∧ CC l G xJ_copyOf [vR (gR m13 a0 0), vI x3] m13 (kR (fun v21 m20 => CC l G xT_init [vR (some a11), vL x1, vR v21] m20 (kN (fun m22 => WW l G xC_put 44 [some (vR (some a0)), some (vL x1), none, some (vI x3), some (vR (some a11)), some (vI (0 : Int32))] [] m22 bc16 bs17 Q))) Q)) ∧ (¬ x3 ≤ (8 : Int32) → (1 ≤ bc2 ∧ 6 ≤ bs3 ∧ Q (.inr "java/lang/IllegalArgumentException") m6)))))) Q)) :
    CC l G xC_put [vR (some a0), vL x1, vI x3] m Q := by
  refine x_entry (by decide +kernel) rfl hst (Nat.le_of_ble_eq_true rfl) (L0 := [some (vR (some a0)), some (vL x1), none, some (vI x3), none, none]) rfl ?_
  refine x_aload_n dC_put_0 rfl (n := 1) rfl ?_
  obtain ⟨k1, h⟩ := h
  obtain ⟨bc2, bs3, b4, b5, h⟩ := h
  refine x_invV (m := m) rfl dC_put_1 gC_put_1 (as := []) (st := []) rfl rfl k1 rfl rfl (Nat.le_of_ble_eq_true rfl) (n := 4) rfl b4 b5 h (xBk.V fun m6 h => ?_)
  refine x_iload_n dC_put_4 rfl (n := 5) rfl ?_
  refine x_iconst (v := 1) dC_put_5 (by decide) (n := 6) rfl ?_
  obtain ⟨h, h'⟩ := h
  refine x_icmp_lt (tgt := 15) dC_put_6 rfl (n := 9) rfl (fun c24 => ?_) (fun c24 => ?_)
  · replace h := h c24
    exact x_throw0 tC_put_15 dC_put_15 dC_put_18 dC_put_19 dC_put_22 h.1 h.2.1 h.2.2
  · replace h := h' c24
    refine x_iload_n dC_put_9 rfl (n := 10) rfl ?_
    refine x_bipush (v := 8) dC_put_10 (by decide) (n := 12) rfl ?_
    obtain ⟨h, h'⟩ := h
    refine x_icmp_le (tgt := 23) dC_put_12 rfl (n := 15) rfl (fun c23 => ?_) (fun c23 => ?_)
    · replace h := h c23
      obtain ⟨bc7, bs8, b9, b10, h⟩ := h
      refine x_new dC_put_23 nC_31 (n := 26) rfl b9 b10 fun a11 f12 => ?_
      replace h := h a11 f12 _ rfl
      have k14 := kdNs m6 a11 (oB 1)
      refine x_dup dC_put_26 rfl (n := 27) rfl ?_
      refine x_lload_n dC_put_27 rfl (n := 28) rfl ?_
      refine x_aload_n dC_put_28 rfl (n := 29) rfl ?_
      obtain ⟨k15, h⟩ := h
      refine x_getR rfl dC_put_29 fC_9 k15 (n := 32) rfl ?_
      refine x_iload_n dC_put_32 rfl (n := 33) rfl ?_
      obtain ⟨bc16, bs17, b18, b19, h⟩ := h
      refine x_invS (m := (mN m6 a11 (oB 1))) dC_put_33 gC_put_33 (as := [vR (gR (mN m6 a11 (oB 1)) a0 0), vI x3]) (st := [vL x1, vR (some a11), vR (some a11)]) rfl rfl (Nat.le_of_ble_eq_true rfl) (n := 36) rfl b18 b19 h (xBk.R fun v21 m20 h => ?_)
      refine x_invI (m := m20) dC_put_36 gC_put_36 (as := [vL x1, vR v21]) (st := [vR (some a11)]) rfl rfl (Nat.le_of_ble_eq_true rfl) (n := 39) rfl rfl rfl h kN.no (xBk.N fun m22 h => ?_)
      refine x_astore dC_put_39 (by decide) (L' := [some (vR (some a0)), some (vL x1), none, some (vI x3), some (vR (some a11)), none]) rfl (n := 41) rfl ?_
      refine x_iconst (v := 0) dC_put_41 (by decide) (n := 42) rfl ?_
      refine x_istore dC_put_42 (by decide) (L' := [some (vR (some a0)), some (vL x1), none, some (vI x3), some (vR (some a11)), some (vI (0 : Int32))]) rfl (n := 44) rfl ?_
      exact h
    · replace h := h' c23
      exact x_throw0 tC_put_15 dC_put_15 dC_put_18 dC_put_19 dC_put_22 h.1 h.2.1 h.2.2
set_option maxRecDepth 100000 in
set_option maxHeartbeats 4000000 in
theorem bC_refuseWhenClosed {l : Launch} {G : xG} {m : XM} {Q : XR → XM → Prop} {a0 : Nat} (hst : l.stackTraces = false)
    (h : kd m a0 = some (oB 4) ∧ ((¬ (gI m a0 7) = 0 → Q (.inl none) m) ∧ ((gI m a0 7) = 0 → (1 ≤ 1 ∧ 6 ≤ 6 ∧ Q (.inr "java/lang/IllegalStateException") m)))) :
    CC l G xC_refuseWhenClosed [vR (some a0)] m Q := by
  refine x_entry (by decide +kernel) rfl hst (Nat.le_of_ble_eq_true rfl) (L0 := [some (vR (some a0))]) rfl ?_
  refine x_aload_n dC_refuseWhenClosed_0 rfl (n := 1) rfl ?_
  obtain ⟨k1, h⟩ := h
  refine x_getI rfl dC_refuseWhenClosed_1 fC_44 k1 (n := 4) rfl ?_
  obtain ⟨h, h'⟩ := h
  refine x_if_ne (tgt := 15) dC_refuseWhenClosed_4 rfl (n := 7) rfl (fun c2 => ?_) (fun c2 => ?_)
  · replace h := h c2
    exact x_vret dC_refuseWhenClosed_15 rfl h
  · replace h := h' c2
    exact x_throw0 tC_refuseWhenClosed_7 dC_refuseWhenClosed_7 dC_refuseWhenClosed_10 dC_refuseWhenClosed_11 dC_refuseWhenClosed_14 h.1 h.2.1 h.2.2
set_option maxRecDepth 100000 in
set_option maxHeartbeats 4000000 in
theorem bC_filterBit {l : Launch} {G : xG} {m : XM} {Q : XR → XM → Prop} {x0 : Int64} (hst : l.stackTraces = false)
    (h : Q (.inl (some (vL (jshl (1 : Int64) ((x0 &&& (63 : Int64)).toInt32))))) m) :
    CC l G xC_filterBit [vL x0] m Q := by
  refine x_entry (by decide +kernel) rfl hst (Nat.le_of_ble_eq_true rfl) (L0 := [some (vL x0), none]) rfl ?_
  refine x_lconst (v := 1) dC_filterBit_0 (by decide) (n := 1) rfl ?_
  refine x_lload_n dC_filterBit_1 rfl (n := 2) rfl ?_
  refine x_ldc2 (v := 63) dC_filterBit_2 w_317 (n := 5) rfl ?_
  refine x_land dC_filterBit_5 (n := 6) rfl ?_
  refine x_l2i dC_filterBit_6 (n := 7) rfl ?_
  refine x_lshl dC_filterBit_7 (n := 8) rfl ?_
  exact x_lret dC_filterBit_8 rfl h
set_option maxRecDepth 100000 in
set_option maxHeartbeats 4000000 in
theorem bC_writeOpenPage_28 {l : Launch} {G : xG} {m : XM} {bc bs : Nat} {Q : XR → XM → Prop} {a0 : Nat} {x1 : Int32} {x2 : Int32}
    (h : ((x1 ≤ x2 → kd m a0 = some (oB 4) ∧ ∃ a2, gR m a0 3 = some a2 ∧ ∃ n5, kd m a2 = some (aR 0 n5) ∧ vp_in (10 : Int32) n5 ∧ vp_in (10 : Int32) n5 ∧ ∀ m8, m8 = mI m a2 (10 : Int32).toNatClampNeg ((gI m a2 (10 : Int32).toNatClampNeg) + x1) → Q (.inl none) m8) ∧ (¬ x1 ≤ x2 → kd m a0 = some (oB 4) ∧ ∃ a10, gR m a0 5 = some a10 ∧ ∃ n13, kd m a10 = some (aR 3 n13) ∧ vp_in x2 n13 ∧ ∃ a15, gR m a0 2 = some a15 ∧ kd m a15 = some (oB 2) ∧ CC l G xG_hasRoomFor [vR (some a15), vR (gR m a10 x2.toNatClampNeg)] m (kI (fun v19 m18 => ((¬ v19 = 0 → WW l G xC_writeOpenPage 56 [some (vR (some a0)), some (vI x1), some (vI x2)] [] m18 bc bs Q) ∧ (v19 = 0 → kd m18 a0 = some (oB 4) ∧ ∃ a21, gR m18 a0 2 = some a21 ∧ kd m18 a21 = some (oB 2) ∧ CC l G xG_writeOut [vR (some a21)] m18 (kV (fun m24 => WW l G xC_writeOpenPage 56 [some (vR (some a0)), some (vI x1), some (vI x2)] [] m24 bc bs Q) Q)))) Q)))) :
    WW l G xC_writeOpenPage 28 [some (vR (some a0)), some (vI x1), some (vI x2)] [] m bc bs Q := by
  refine x_iload_n dC_writeOpenPage_28 rfl (n := 29) rfl ?_
  refine x_iload_n dC_writeOpenPage_29 rfl (n := 30) rfl ?_
  obtain ⟨h, h'⟩ := h
  refine x_icmp_ge (tgt := 75) dC_writeOpenPage_30 rfl (n := 33) rfl (fun c26 => ?_) (fun c26 => ?_)
  · replace h := h c26
    refine x_aload_n dC_writeOpenPage_75 rfl (n := 76) rfl ?_
    obtain ⟨k1, h⟩ := h
    refine x_getR rfl dC_writeOpenPage_76 fC_28 k1 (n := 79) rfl ?_
    refine x_bipush (v := 10) dC_writeOpenPage_79 (by decide) (n := 81) rfl ?_
    refine x_dup2 dC_writeOpenPage_81 rfl rfl (n := 82) rfl ?_
    obtain ⟨a2, e3, h⟩ := h
    obtain ⟨n5, k4, h⟩ := h
    obtain ⟨c6, h⟩ := h
    refine x_iald e3 dC_writeOpenPage_82 k4 c6 (n := 83) rfl ?_
    refine x_iload_n dC_writeOpenPage_83 rfl (n := 84) rfl ?_
    refine x_iadd dC_writeOpenPage_84 (n := 85) rfl ?_
    obtain ⟨c7, h⟩ := h
    replace h := h _ rfl
    refine x_iast e3 dC_writeOpenPage_85 k4 c7 (n := 86) rfl ?_
    exact x_vret dC_writeOpenPage_86 rfl h
  · replace h := h' c26
    refine x_aload_n dC_writeOpenPage_33 rfl (n := 34) rfl ?_
    obtain ⟨k9, h⟩ := h
    refine x_getR rfl dC_writeOpenPage_34 fC_24 k9 (n := 37) rfl ?_
    refine x_aload_n dC_writeOpenPage_37 rfl (n := 38) rfl ?_
    refine x_getR rfl dC_writeOpenPage_38 fC_37 k9 (n := 41) rfl ?_
    refine x_iload_n dC_writeOpenPage_41 rfl (n := 42) rfl ?_
    obtain ⟨a10, e11, h⟩ := h
    obtain ⟨n13, k12, h⟩ := h
    obtain ⟨c14, h⟩ := h
    refine x_aald e11 dC_writeOpenPage_42 k12 (by decide) c14 (n := 43) rfl ?_
    obtain ⟨a15, e16, h⟩ := h
    obtain ⟨k17, h⟩ := h
    refine x_invV (m := m) e16 dC_writeOpenPage_43 gC_writeOpenPage_43 (as := [vR (gR m a10 x2.toNatClampNeg)]) (st := []) rfl rfl k17 rfl rfl (Nat.le_of_ble_eq_true rfl) (n := 46) rfl rfl rfl h (xBk.I fun v19 m18 h => ?_)
    obtain ⟨h, h'⟩ := h
    refine x_if_ne (tgt := 56) dC_writeOpenPage_46 rfl (n := 49) rfl (fun c25 => ?_) (fun c25 => ?_)
    · replace h := h c25
      exact h
    · replace h := h' c25
      refine x_aload_n dC_writeOpenPage_49 rfl (n := 50) rfl ?_
      obtain ⟨k20, h⟩ := h
      refine x_getR rfl dC_writeOpenPage_50 fC_24 k20 (n := 53) rfl ?_
      obtain ⟨a21, e22, h⟩ := h
      obtain ⟨k23, h⟩ := h
      refine x_invV (m := m18) e22 dC_writeOpenPage_53 gC_writeOpenPage_53 (as := []) (st := []) rfl rfl k23 rfl rfl (Nat.le_of_ble_eq_true rfl) (n := 56) rfl rfl rfl h (xBk.V fun m24 h => ?_)
      exact h
set_option maxRecDepth 100000 in
set_option maxHeartbeats 4000000 in
theorem bC_writeOpenPage_56 {l : Launch} {G : xG} {m : XM} {bc bs : Nat} {Q : XR → XM → Prop} {a0 : Nat} {x1 : Int32} {x2 : Int32}
    (h : kd m a0 = some (oB 4) ∧ ∃ a2, gR m a0 5 = some a2 ∧ ∃ n5, kd m a2 = some (aR 3 n5) ∧ vp_in x2 n5 ∧ ∃ a7, gR m a0 2 = some a7 ∧ kd m a7 = some (oB 2) ∧ CC l G xG_append [vR (some a7), vR (gR m a2 x2.toNatClampNeg)] m (kV (fun m10 => WW l G xC_writeOpenPage 28 [some (vR (some a0)), some (vI x1), some (vI (x2 + 1))] [] m10 bc bs Q) Q)) :
    WW l G xC_writeOpenPage 56 [some (vR (some a0)), some (vI x1), some (vI x2)] [] m bc bs Q := by
  refine x_aload_n dC_writeOpenPage_56 rfl (n := 57) rfl ?_
  obtain ⟨k1, h⟩ := h
  refine x_getR rfl dC_writeOpenPage_57 fC_24 k1 (n := 60) rfl ?_
  refine x_aload_n dC_writeOpenPage_60 rfl (n := 61) rfl ?_
  refine x_getR rfl dC_writeOpenPage_61 fC_37 k1 (n := 64) rfl ?_
  refine x_iload_n dC_writeOpenPage_64 rfl (n := 65) rfl ?_
  obtain ⟨a2, e3, h⟩ := h
  obtain ⟨n5, k4, h⟩ := h
  obtain ⟨c6, h⟩ := h
  refine x_aald e3 dC_writeOpenPage_65 k4 (by decide) c6 (n := 66) rfl ?_
  obtain ⟨a7, e8, h⟩ := h
  obtain ⟨k9, h⟩ := h
  refine x_invV (m := m) e8 dC_writeOpenPage_66 gC_writeOpenPage_66 (as := [vR (gR m a2 x2.toNatClampNeg)]) (st := []) rfl rfl k9 rfl rfl (Nat.le_of_ble_eq_true rfl) (n := 69) rfl rfl rfl h (xBk.V fun m10 h => ?_)
  refine x_iinc (v := x2 + 1) dC_writeOpenPage_69 rfl rfl (by decide) (L' := [some (vR (some a0)), some (vI x1), some (vI (x2 + 1))]) rfl (n := 72) rfl ?_
  refine x_goto (tgt := 28) dC_writeOpenPage_72 rfl ?_
  exact h
set_option maxRecDepth 100000 in
set_option maxHeartbeats 4000000 in
theorem bC_writeOpenPage {l : Launch} {G : xG} {m : XM} {Q : XR → XM → Prop} {a0 : Nat} (hst : l.stackTraces = false)
    (h : kd m a0 = some (oB 4) ∧ ∃ a2, gR m a0 2 = some a2 ∧ kd m a2 = some (oB 2) ∧ CC l G xG_isBeforeWrittenSegment [vR (some a2)] m (kI (fun v6 m5 => ((v6 = 0 → kd m5 a0 = some (oB 4) ∧ ∃ a8, gR m5 a0 2 = some a8 ∧ kd m5 a8 = some (oB 2) ∧ CC l G xG_writeOut [vR (some a8)] m5 (kV (fun m11 => WW l G xC_writeOpenPage 28 [some (vR (some a0)), some (vI (0 : Int32)), some (vI (0 : Int32))] [] m11 0 0 Q) Q)) ∧ (¬ v6 = 0 → kd m5 a0 = some (oB 4) ∧ CC l G xC_emptySegment [vR (some a0)] m5 (kI (fun v14 m13 => kd m13 a0 = some (oB 4) ∧ ∃ a16, gR m13 a0 2 = some a16 ∧ kd m13 a16 = some (oB 2) ∧ CC l G xG_writeOut [vR (some a16)] m13 (kV (fun m19 => WW l G xC_writeOpenPage 28 [some (vR (some a0)), some (vI v14), some (vI (0 : Int32))] [] m19 0 0 Q) Q)) Q)))) Q)) :
    CC l G xC_writeOpenPage [vR (some a0)] m Q := by
  refine x_entry (by decide +kernel) rfl hst (Nat.le_of_ble_eq_true rfl) (L0 := [some (vR (some a0)), none, none]) rfl ?_
  refine x_aload_n dC_writeOpenPage_0 rfl (n := 1) rfl ?_
  obtain ⟨k1, h⟩ := h
  refine x_getR rfl dC_writeOpenPage_1 fC_24 k1 (n := 4) rfl ?_
  obtain ⟨a2, e3, h⟩ := h
  obtain ⟨k4, h⟩ := h
  refine x_invV (m := m) e3 dC_writeOpenPage_4 gC_writeOpenPage_4 (as := []) (st := []) rfl rfl k4 rfl rfl (Nat.le_of_ble_eq_true rfl) (n := 7) rfl rfl rfl h (xBk.I fun v6 m5 h => ?_)
  obtain ⟨h, h'⟩ := h
  refine x_if_eq (tgt := 17) dC_writeOpenPage_7 rfl (n := 10) rfl (fun c20 => ?_) (fun c20 => ?_)
  · replace h := h c20
    refine x_iconst (v := 0) dC_writeOpenPage_17 (by decide) (n := 18) rfl ?_
    refine x_istore_n dC_writeOpenPage_18 (by decide) (L' := [some (vR (some a0)), some (vI (0 : Int32)), none]) rfl (n := 19) rfl ?_
    refine x_aload_n dC_writeOpenPage_19 rfl (n := 20) rfl ?_
    obtain ⟨k7, h⟩ := h
    refine x_getR rfl dC_writeOpenPage_20 fC_24 k7 (n := 23) rfl ?_
    obtain ⟨a8, e9, h⟩ := h
    obtain ⟨k10, h⟩ := h
    refine x_invV (m := m5) e9 dC_writeOpenPage_23 gC_writeOpenPage_23 (as := []) (st := []) rfl rfl k10 rfl rfl (Nat.le_of_ble_eq_true rfl) (n := 26) rfl rfl rfl h (xBk.V fun m11 h => ?_)
    refine x_iconst (v := 0) dC_writeOpenPage_26 (by decide) (n := 27) rfl ?_
    refine x_istore_n dC_writeOpenPage_27 (by decide) (L' := [some (vR (some a0)), some (vI (0 : Int32)), some (vI (0 : Int32))]) rfl (n := 28) rfl ?_
    exact h
  · replace h := h' c20
    refine x_aload_n dC_writeOpenPage_10 rfl (n := 11) rfl ?_
    obtain ⟨k12, h⟩ := h
    refine x_invV (m := m5) rfl dC_writeOpenPage_11 gC_writeOpenPage_11 (as := []) (st := []) rfl rfl k12 rfl rfl (Nat.le_of_ble_eq_true rfl) (n := 14) rfl rfl rfl h (xBk.I fun v14 m13 h => ?_)
    refine x_goto (tgt := 18) dC_writeOpenPage_14 rfl ?_
    refine x_istore_n dC_writeOpenPage_18 (by decide) (L' := [some (vR (some a0)), some (vI v14), none]) rfl (n := 19) rfl ?_
    refine x_aload_n dC_writeOpenPage_19 rfl (n := 20) rfl ?_
    obtain ⟨k15, h⟩ := h
    refine x_getR rfl dC_writeOpenPage_20 fC_24 k15 (n := 23) rfl ?_
    obtain ⟨a16, e17, h⟩ := h
    obtain ⟨k18, h⟩ := h
    refine x_invV (m := m13) e17 dC_writeOpenPage_23 gC_writeOpenPage_23 (as := []) (st := []) rfl rfl k18 rfl rfl (Nat.le_of_ble_eq_true rfl) (n := 26) rfl rfl rfl h (xBk.V fun m19 h => ?_)
    refine x_iconst (v := 0) dC_writeOpenPage_26 (by decide) (n := 27) rfl ?_
    refine x_istore_n dC_writeOpenPage_27 (by decide) (L' := [some (vR (some a0)), some (vI v14), some (vI (0 : Int32))]) rfl (n := 28) rfl ?_
    exact h
set_option maxRecDepth 100000 in
set_option maxHeartbeats 4000000 in
theorem bC_emptySegment_39 {l : Launch} {G : xG} {m : XM} {bc bs : Nat} {Q : XR → XM → Prop} {a0 : Nat} {x1 : Int32} {x2 : Int32} {x3 : Int64} {x5 : Int32}
    (h : (((64 : Int32) ≤ x5 → Q (.inl (some (vI x2))) m) ∧ (¬ (64 : Int32) ≤ x5 → ((¬ (lg_cmp ((jushr x3 x5) &&& (1 : Int64)) (0 : Int64)) = 0 → kd m a0 = some (oB 4) ∧ ∃ a2, gR m a0 2 = some a2 ∧ kd m a2 = some (oB 2) ∧ ∃ a5, gR m a2 1 = some a5 ∧ kd m a5 = some (oB 0) ∧ CC l G xI_takeSet [vR (some a5), vI x5, vR (gR m a0 4)] m (kI (fun v9 m8 => ((¬ v9 = (1 : Int32) → kd m8 a0 = some (oB 4) ∧ ∃ a11, gR m8 a0 1 = some a11 ∧ ∃ n14, kd m8 a11 = some (aR 4 n14) ∧ vp_in x5 n14 ∧ CC l G xC_moveGathered [vR (some a0), vR (gR m8 a11 x5.toNatClampNeg), vI v9] m8 (kV (fun m16 => WW l G xC_emptySegment 39 [some (vR (some a0)), some (vI x1), some (vI x2), some (vL x3), none, some (vI (x5 + 1)), none] [] m16 bc bs Q) Q)) ∧ (v9 = (1 : Int32) → kd m8 a0 = some (oB 4) ∧ ∃ a18, gR m8 a0 3 = some a18 ∧ ∃ n21, kd m8 a18 = some (aR 0 n21) ∧ vp_in (8 : Int32) n21 ∧ vp_in (8 : Int32) n21 ∧ ∀ m24, m24 = mI m8 a18 (8 : Int32).toNatClampNeg ((gI m8 a18 (8 : Int32).toNatClampNeg) + (1 : Int32)) → ∃ a25, gR m8 a0 4 = some a25 ∧ ∃ n28, kd m8 a25 = some (aR 3 n28) ∧ vp_in (0 : Int32) n28 ∧ ∃ a30, gR m8 a25 (0 : Int32).toNatClampNeg = some a30 ∧ kd m8 a30 = some (oB 1) ∧ CC l G xC_removeFromSet [vR (some a0), vL (gL m8 a30 0), vI (2 : Int32)] m24 (kI (fun v34 m33 => WW l G xC_emptySegment 39 [some (vR (some a0)), some (vI x1), some (vI x2), some (vL x3), none, some (vI (x5 + 1)), none] [] m33 bc bs Q) Q)))) Q)) ∧ ((lg_cmp ((jushr x3 x5) &&& (1 : Int64)) (0 : Int64)) = 0 → WW l G xC_emptySegment 39 [some (vR (some a0)), some (vI x1), some (vI x2), some (vL x3), none, some (vI (x5 + 1)), none] [] m bc bs Q))))) :
    WW l G xC_emptySegment 39 [some (vR (some a0)), some (vI x1), some (vI x2), some (vL x3), none, some (vI x5), none] [] m bc bs Q := by
  refine x_iload dC_emptySegment_39 rfl (n := 41) rfl ?_
  refine x_bipush (v := 64) dC_emptySegment_41 (by decide) (n := 43) rfl ?_
  obtain ⟨h, h'⟩ := h
  refine x_icmp_ge (tgt := 132) dC_emptySegment_43 rfl (n := 46) rfl (fun c37 => ?_) (fun c37 => ?_)
  · replace h := h c37
    refine x_iload_n dC_emptySegment_132 rfl (n := 133) rfl ?_
    exact x_iret dC_emptySegment_133 rfl h
  · replace h := h' c37
    refine x_lload_n dC_emptySegment_46 rfl (n := 47) rfl ?_
    refine x_iload dC_emptySegment_47 rfl (n := 49) rfl ?_
    refine x_lushr dC_emptySegment_49 (n := 50) rfl ?_
    refine x_lconst (v := 1) dC_emptySegment_50 (by decide) (n := 51) rfl ?_
    refine x_land dC_emptySegment_51 (n := 52) rfl ?_
    refine x_lconst (v := 0) dC_emptySegment_52 (by decide) (n := 53) rfl ?_
    refine x_lcmp dC_emptySegment_53 (n := 54) rfl ?_
    obtain ⟨h, h'⟩ := h
    refine x_if_ne (tgt := 60) dC_emptySegment_54 rfl (n := 57) rfl (fun c36 => ?_) (fun c36 => ?_)
    · replace h := h c36
      refine x_aload_n dC_emptySegment_60 rfl (n := 61) rfl ?_
      obtain ⟨k1, h⟩ := h
      refine x_getR rfl dC_emptySegment_61 fC_24 k1 (n := 64) rfl ?_
      obtain ⟨a2, e3, h⟩ := h
      obtain ⟨k4, h⟩ := h
      refine x_getR e3 dC_emptySegment_64 fC_77 k4 (n := 67) rfl ?_
      refine x_iload dC_emptySegment_67 rfl (n := 69) rfl ?_
      refine x_aload_n dC_emptySegment_69 rfl (n := 70) rfl ?_
      refine x_getR rfl dC_emptySegment_70 fC_33 k1 (n := 73) rfl ?_
      obtain ⟨a5, e6, h⟩ := h
      obtain ⟨k7, h⟩ := h
      refine x_invV (m := m) e6 dC_emptySegment_73 gC_emptySegment_73 (as := [vI x5, vR (gR m a0 4)]) (st := []) rfl rfl k7 rfl rfl (Nat.le_of_ble_eq_true rfl) (n := 76) rfl rfl rfl h (xBk.I fun v9 m8 h => ?_)
      refine x_istore dC_emptySegment_76 (by decide) (L' := [some (vR (some a0)), some (vI x1), some (vI x2), some (vL x3), none, some (vI x5), some (vI v9)]) rfl (n := 78) rfl ?_
      refine x_iload dC_emptySegment_78 rfl (n := 80) rfl ?_
      refine x_iconst (v := 1) dC_emptySegment_80 (by decide) (n := 81) rfl ?_
      obtain ⟨h, h'⟩ := h
      refine x_icmp_ne (tgt := 113) dC_emptySegment_81 rfl (n := 84) rfl (fun c35 => ?_) (fun c35 => ?_)
      · replace h := h c35
        refine x_aload_n dC_emptySegment_113 rfl (n := 114) rfl ?_
        refine x_aload_n dC_emptySegment_114 rfl (n := 115) rfl ?_
        obtain ⟨k10, h⟩ := h
        refine x_getR rfl dC_emptySegment_115 fC_17 k10 (n := 118) rfl ?_
        refine x_iload dC_emptySegment_118 rfl (n := 120) rfl ?_
        obtain ⟨a11, e12, h⟩ := h
        obtain ⟨n14, k13, h⟩ := h
        obtain ⟨c15, h⟩ := h
        refine x_aald e12 dC_emptySegment_120 k13 (by decide) c15 (n := 121) rfl ?_
        refine x_iload dC_emptySegment_121 rfl (n := 123) rfl ?_
        refine x_invV (m := m8) rfl dC_emptySegment_123 gC_emptySegment_123 (as := [vR (gR m8 a11 x5.toNatClampNeg), vI v9]) (st := []) rfl rfl k10 rfl rfl (Nat.le_of_ble_eq_true rfl) (n := 126) rfl rfl rfl h (xBk.V fun m16 h => ?_)
        refine x_iinc (v := x5 + 1) dC_emptySegment_126 rfl rfl (by decide) (L' := [some (vR (some a0)), some (vI x1), some (vI x2), some (vL x3), none, some (vI (x5 + 1)), some (vI v9)]) rfl (n := 129) rfl ?_
        refine x_goto (tgt := 39) dC_emptySegment_129 rfl ?_
        exact x_weak (b := [true, true, true, true, false, true, false]) rfl h
      · replace h := h' c35
        refine x_aload_n dC_emptySegment_84 rfl (n := 85) rfl ?_
        obtain ⟨k17, h⟩ := h
        refine x_getR rfl dC_emptySegment_85 fC_28 k17 (n := 88) rfl ?_
        refine x_bipush (v := 8) dC_emptySegment_88 (by decide) (n := 90) rfl ?_
        refine x_dup2 dC_emptySegment_90 rfl rfl (n := 91) rfl ?_
        obtain ⟨a18, e19, h⟩ := h
        obtain ⟨n21, k20, h⟩ := h
        obtain ⟨c22, h⟩ := h
        refine x_iald e19 dC_emptySegment_91 k20 c22 (n := 92) rfl ?_
        refine x_iconst (v := 1) dC_emptySegment_92 (by decide) (n := 93) rfl ?_
        refine x_iadd dC_emptySegment_93 (n := 94) rfl ?_
        obtain ⟨c23, h⟩ := h
        replace h := h _ rfl
        refine x_iast e19 dC_emptySegment_94 k20 c23 (n := 95) rfl ?_
        refine x_aload_n dC_emptySegment_95 rfl (n := 96) rfl ?_
        refine x_aload_n dC_emptySegment_96 rfl (n := 97) rfl ?_
        refine x_getR rfl dC_emptySegment_97 fC_33 k17 (n := 100) rfl ?_
        refine x_iconst (v := 0) dC_emptySegment_100 (by decide) (n := 101) rfl ?_
        obtain ⟨a25, e26, h⟩ := h
        obtain ⟨n28, k27, h⟩ := h
        obtain ⟨c29, h⟩ := h
        refine x_aald e26 dC_emptySegment_101 k27 (by decide) c29 (n := 102) rfl ?_
        obtain ⟨a30, e31, h⟩ := h
        obtain ⟨k32, h⟩ := h
        refine x_getL e31 dC_emptySegment_102 fC_175 k32 (n := 105) rfl ?_
        refine x_iconst (v := 2) dC_emptySegment_105 (by decide) (n := 106) rfl ?_
        refine x_invV (m := (mI m8 a18 (8 : Int32).toNatClampNeg ((gI m8 a18 (8 : Int32).toNatClampNeg) + (1 : Int32)))) rfl dC_emptySegment_106 gC_emptySegment_106 (as := [vL (gL m8 a30 0), vI (2 : Int32)]) (st := []) rfl rfl k17 rfl rfl (Nat.le_of_ble_eq_true rfl) (n := 109) rfl rfl rfl h (xBk.I fun v34 m33 h => ?_)
        refine x_pop dC_emptySegment_109 rfl (n := 110) rfl ?_
        refine x_goto (tgt := 126) dC_emptySegment_110 rfl ?_
        refine x_iinc (v := x5 + 1) dC_emptySegment_126 rfl rfl (by decide) (L' := [some (vR (some a0)), some (vI x1), some (vI x2), some (vL x3), none, some (vI (x5 + 1)), some (vI v9)]) rfl (n := 129) rfl ?_
        refine x_goto (tgt := 39) dC_emptySegment_129 rfl ?_
        exact x_weak (b := [true, true, true, true, false, true, false]) rfl h
    · replace h := h' c36
      refine x_goto (tgt := 126) dC_emptySegment_57 rfl ?_
      refine x_iinc (v := x5 + 1) dC_emptySegment_126 rfl rfl (by decide) (L' := [some (vR (some a0)), some (vI x1), some (vI x2), some (vL x3), none, some (vI (x5 + 1)), none]) rfl (n := 129) rfl ?_
      refine x_goto (tgt := 39) dC_emptySegment_129 rfl ?_
      exact h
set_option maxRecDepth 100000 in
set_option maxHeartbeats 4000000 in
theorem bC_emptySegment {l : Launch} {G : xG} {m : XM} {Q : XR → XM → Prop} {a0 : Nat} (hst : l.stackTraces = false)
    (h : kd m a0 = some (oB 4) ∧ ∃ a2, gR m a0 2 = some a2 ∧ kd m a2 = some (oB 2) ∧ CC l G xG_oldestSegmentEnd [vR (some a2)] m (kI (fun v6 m5 => kd m5 a0 = some (oB 4) ∧ ∃ a8, gR m5 a0 2 = some a8 ∧ kd m5 a8 = some (oB 2) ∧ ∃ a11, gR m5 a8 1 = some a11 ∧ kd m5 a11 = some (oB 0) ∧ CC l G xI_takeGotAlone [vR (some a11), vI v6, vR (gR m5 a0 5)] m5 (kI (fun v15 m14 => kd m14 a0 = some (oB 4) ∧ ∃ a17, gR m14 a0 2 = some a17 ∧ kd m14 a17 = some (oB 2) ∧ ∃ a20, gR m14 a17 1 = some a20 ∧ kd m14 a20 = some (oB 0) ∧ CC l G xI_setsBefore [vR (some a20), vI v6] m14 (kL (fun v24 m23 => WW l G xC_emptySegment 39 [some (vR (some a0)), some (vI v6), some (vI v15), some (vL v24), none, some (vI (0 : Int32)), none] [] m23 0 0 Q) Q)) Q)) Q)) :
    CC l G xC_emptySegment [vR (some a0)] m Q := by
  refine x_entry (by decide +kernel) rfl hst (Nat.le_of_ble_eq_true rfl) (L0 := [some (vR (some a0)), none, none, none, none, none, none]) rfl ?_
  refine x_aload_n dC_emptySegment_0 rfl (n := 1) rfl ?_
  obtain ⟨k1, h⟩ := h
  refine x_getR rfl dC_emptySegment_1 fC_24 k1 (n := 4) rfl ?_
  obtain ⟨a2, e3, h⟩ := h
  obtain ⟨k4, h⟩ := h
  refine x_invV (m := m) e3 dC_emptySegment_4 gC_emptySegment_4 (as := []) (st := []) rfl rfl k4 rfl rfl (Nat.le_of_ble_eq_true rfl) (n := 7) rfl rfl rfl h (xBk.I fun v6 m5 h => ?_)
  refine x_istore_n dC_emptySegment_7 (by decide) (L' := [some (vR (some a0)), some (vI v6), none, none, none, none, none]) rfl (n := 8) rfl ?_
  refine x_aload_n dC_emptySegment_8 rfl (n := 9) rfl ?_
  obtain ⟨k7, h⟩ := h
  refine x_getR rfl dC_emptySegment_9 fC_24 k7 (n := 12) rfl ?_
  obtain ⟨a8, e9, h⟩ := h
  obtain ⟨k10, h⟩ := h
  refine x_getR e9 dC_emptySegment_12 fC_77 k10 (n := 15) rfl ?_
  refine x_iload_n dC_emptySegment_15 rfl (n := 16) rfl ?_
  refine x_aload_n dC_emptySegment_16 rfl (n := 17) rfl ?_
  refine x_getR rfl dC_emptySegment_17 fC_37 k7 (n := 20) rfl ?_
  obtain ⟨a11, e12, h⟩ := h
  obtain ⟨k13, h⟩ := h
  refine x_invV (m := m5) e12 dC_emptySegment_20 gC_emptySegment_20 (as := [vI v6, vR (gR m5 a0 5)]) (st := []) rfl rfl k13 rfl rfl (Nat.le_of_ble_eq_true rfl) (n := 23) rfl rfl rfl h (xBk.I fun v15 m14 h => ?_)
  refine x_istore_n dC_emptySegment_23 (by decide) (L' := [some (vR (some a0)), some (vI v6), some (vI v15), none, none, none, none]) rfl (n := 24) rfl ?_
  refine x_aload_n dC_emptySegment_24 rfl (n := 25) rfl ?_
  obtain ⟨k16, h⟩ := h
  refine x_getR rfl dC_emptySegment_25 fC_24 k16 (n := 28) rfl ?_
  obtain ⟨a17, e18, h⟩ := h
  obtain ⟨k19, h⟩ := h
  refine x_getR e18 dC_emptySegment_28 fC_77 k19 (n := 31) rfl ?_
  refine x_iload_n dC_emptySegment_31 rfl (n := 32) rfl ?_
  obtain ⟨a20, e21, h⟩ := h
  obtain ⟨k22, h⟩ := h
  refine x_invV (m := m14) e21 dC_emptySegment_32 gC_emptySegment_32 (as := [vI v6]) (st := []) rfl rfl k22 rfl rfl (Nat.le_of_ble_eq_true rfl) (n := 35) rfl rfl rfl h (xBk.J fun v24 m23 h => ?_)
  refine x_lstore_n dC_emptySegment_35 (by decide) (L' := [some (vR (some a0)), some (vI v6), some (vI v15), some (vL v24), none, none, none]) rfl (n := 36) rfl ?_
  refine x_iconst (v := 0) dC_emptySegment_36 (by decide) (n := 37) rfl ?_
  refine x_istore dC_emptySegment_37 (by decide) (L' := [some (vR (some a0)), some (vI v6), some (vI v15), some (vL v24), none, some (vI (0 : Int32)), none]) rfl (n := 39) rfl ?_
  exact h
set_option maxRecDepth 100000 in
set_option maxHeartbeats 4000000 in
theorem bC_removeFromSet {l : Launch} {G : xG} {m : XM} {Q : XR → XM → Prop} {a0 : Nat} {x1 : Int64} {x3 : Int32} (hst : l.stackTraces = false)
    (h : kd m a0 = some (oB 4) ∧ CC l G xC_readFromSet [vR (some a0), vL x1] m (kR (fun v3 m2 => ((v3 = none → Q (.inl (some (vI (0 : Int32)))) m2) ∧ (∀ a4, v3 = some a4 → kd m2 a0 = some (oB 4) ∧ CC l G xC_mix [vL x1] m2 (kL (fun v8 m7 => CC l G xC_setNumber [vL v8] m7 (kI (fun v10 m9 => ∃ a11, gR m2 a0 1 = some a11 ∧ ∃ n14, kd m9 a11 = some (aR 4 n14) ∧ vp_in v10 n14 ∧ ∃ a16, gR m9 a11 v10.toNatClampNeg = some a16 ∧ kd m9 a16 = some (oB 3) ∧ CC l G xP_remove [vR (some a16), vL x1] m9 (kV (fun m19 => kd m19 a0 = some (oB 4) ∧ ∃ a21, gR m19 a0 3 = some a21 ∧ ∃ n24, kd m19 a21 = some (aR 0 n24) ∧ vp_in x3 n24 ∧ vp_in x3 n24 ∧ ∀ m27, m27 = mI m19 a21 x3.toNatClampNeg ((gI m19 a21 x3.toNatClampNeg) + (1 : Int32)) → Q (.inl (some (vI (1 : Int32)))) m27) Q)) Q)) Q)))) Q)) :
    CC l G xC_removeFromSet [vR (some a0), vL x1, vI x3] m Q := by
  refine x_entry (by decide +kernel) rfl hst (Nat.le_of_ble_eq_true rfl) (L0 := [some (vR (some a0)), some (vL x1), none, some (vI x3)]) rfl ?_
  refine x_aload_n dC_removeFromSet_0 rfl (n := 1) rfl ?_
  refine x_lload_n dC_removeFromSet_1 rfl (n := 2) rfl ?_
  obtain ⟨k1, h⟩ := h
  refine x_invV (m := m) rfl dC_removeFromSet_2 gC_removeFromSet_2 (as := [vL x1]) (st := []) rfl rfl k1 rfl rfl (Nat.le_of_ble_eq_true rfl) (n := 5) rfl rfl rfl h (xBk.R fun v3 m2 h => ?_)
  obtain ⟨h, h'⟩ := h
  refine x_ifnonnull (tgt := 10) dC_removeFromSet_5 rfl (n := 8) rfl (fun a4 e5 => ?_) (fun e5 => ?_)
  · replace h := h' a4 e5
    refine x_aload_n dC_removeFromSet_10 rfl (n := 11) rfl ?_
    obtain ⟨k6, h⟩ := h
    refine x_getR rfl dC_removeFromSet_11 fC_17 k6 (n := 14) rfl ?_
    refine x_lload_n dC_removeFromSet_14 rfl (n := 15) rfl ?_
    refine x_invS (m := m2) dC_removeFromSet_15 gC_removeFromSet_15 (as := [vL x1]) (st := [vR (gR m2 a0 1)]) rfl rfl (Nat.le_of_ble_eq_true rfl) (n := 18) rfl rfl rfl h (xBk.J fun v8 m7 h => ?_)
    refine x_invS (m := m7) dC_removeFromSet_18 gC_removeFromSet_18 (as := [vL v8]) (st := [vR (gR m2 a0 1)]) rfl rfl (Nat.le_of_ble_eq_true rfl) (n := 21) rfl rfl rfl h (xBk.I fun v10 m9 h => ?_)
    obtain ⟨a11, e12, h⟩ := h
    obtain ⟨n14, k13, h⟩ := h
    obtain ⟨c15, h⟩ := h
    refine x_aald e12 dC_removeFromSet_21 k13 (by decide) c15 (n := 22) rfl ?_
    refine x_lload_n dC_removeFromSet_22 rfl (n := 23) rfl ?_
    obtain ⟨a16, e17, h⟩ := h
    obtain ⟨k18, h⟩ := h
    refine x_invV (m := m9) e17 dC_removeFromSet_23 gC_removeFromSet_23 (as := [vL x1]) (st := []) rfl rfl k18 rfl rfl (Nat.le_of_ble_eq_true rfl) (n := 26) rfl rfl rfl h (xBk.V fun m19 h => ?_)
    refine x_aload_n dC_removeFromSet_26 rfl (n := 27) rfl ?_
    obtain ⟨k20, h⟩ := h
    refine x_getR rfl dC_removeFromSet_27 fC_28 k20 (n := 30) rfl ?_
    refine x_iload_n dC_removeFromSet_30 rfl (n := 31) rfl ?_
    refine x_dup2 dC_removeFromSet_31 rfl rfl (n := 32) rfl ?_
    obtain ⟨a21, e22, h⟩ := h
    obtain ⟨n24, k23, h⟩ := h
    obtain ⟨c25, h⟩ := h
    refine x_iald e22 dC_removeFromSet_32 k23 c25 (n := 33) rfl ?_
    refine x_iconst (v := 1) dC_removeFromSet_33 (by decide) (n := 34) rfl ?_
    refine x_iadd dC_removeFromSet_34 (n := 35) rfl ?_
    obtain ⟨c26, h⟩ := h
    replace h := h _ rfl
    refine x_iast e22 dC_removeFromSet_35 k23 c26 (n := 36) rfl ?_
    refine x_iconst (v := 1) dC_removeFromSet_36 (by decide) (n := 37) rfl ?_
    exact x_zret dC_removeFromSet_37 rfl (by decide) h
  · replace h := h e5
    refine x_iconst (v := 0) dC_removeFromSet_8 (by decide) (n := 9) rfl ?_
    exact x_zret dC_removeFromSet_9 rfl (by decide) h
set_option maxRecDepth 100000 in
set_option maxHeartbeats 4000000 in
theorem bC_readFromSet {l : Launch} {G : xG} {m : XM} {Q : XR → XM → Prop} {a0 : Nat} {x1 : Int64} (hst : l.stackTraces = false)
    (h : CC l G xC_mix [vL x1] m (kL (fun v2 m1 => kd m1 a0 = some (oB 4) ∧ CC l G xC_setNumber [vL v2] m1 (kI (fun v5 m4 => ∃ a6, gR m1 a0 1 = some a6 ∧ ∃ n9, kd m4 a6 = some (aR 4 n9) ∧ vp_in v5 n9 ∧ ∃ a11, gR m4 a6 v5.toNatClampNeg = some a11 ∧ kd m4 a11 = some (oB 3) ∧ CC l G xC_filterBit [vL v2] m4 (kL (fun v15 m14 => ((¬ (lg_cmp ((gL m4 a11 3) &&& v15) (0 : Int64)) = 0 → kd m14 a0 = some (oB 4) ∧ ∃ a17, gR m14 a0 3 = some a17 ∧ ∃ n20, kd m14 a17 = some (aR 0 n20) ∧ vp_in (9 : Int32) n20 ∧ vp_in (9 : Int32) n20 ∧ ∀ m23, m23 = mI m14 a17 (9 : Int32).toNatClampNeg ((gI m14 a17 (9 : Int32).toNatClampNeg) + (1 : Int32)) → kd m14 a11 = some (oB 3) ∧ CC l G xP_find [vR (some a11), vL x1] m23 (kR (fun v26 m25 => Q (.inl (some (vR v26))) m25) Q)) ∧ ((lg_cmp ((gL m4 a11 3) &&& v15) (0 : Int64)) = 0 → Q (.inl (some (vR none))) m14))) Q)) Q)) Q)) :
    CC l G xC_readFromSet [vR (some a0), vL x1] m Q := by
  refine x_entry (by decide +kernel) rfl hst (Nat.le_of_ble_eq_true rfl) (L0 := [some (vR (some a0)), some (vL x1), none, none, none, none]) rfl ?_
  refine x_lload_n dC_readFromSet_0 rfl (n := 1) rfl ?_
  refine x_invS (m := m) dC_readFromSet_1 gC_readFromSet_1 (as := [vL x1]) (st := []) rfl rfl (Nat.le_of_ble_eq_true rfl) (n := 4) rfl rfl rfl h (xBk.J fun v2 m1 h => ?_)
  refine x_lstore_n dC_readFromSet_4 (by decide) (L' := [some (vR (some a0)), some (vL x1), none, some (vL v2), none, none]) rfl (n := 5) rfl ?_
  refine x_aload_n dC_readFromSet_5 rfl (n := 6) rfl ?_
  obtain ⟨k3, h⟩ := h
  refine x_getR rfl dC_readFromSet_6 fC_17 k3 (n := 9) rfl ?_
  refine x_lload_n dC_readFromSet_9 rfl (n := 10) rfl ?_
  refine x_invS (m := m1) dC_readFromSet_10 gC_readFromSet_10 (as := [vL v2]) (st := [vR (gR m1 a0 1)]) rfl rfl (Nat.le_of_ble_eq_true rfl) (n := 13) rfl rfl rfl h (xBk.I fun v5 m4 h => ?_)
  obtain ⟨a6, e7, h⟩ := h
  obtain ⟨n9, k8, h⟩ := h
  obtain ⟨c10, h⟩ := h
  refine x_aald e7 dC_readFromSet_13 k8 (by decide) c10 (n := 14) rfl ?_
  refine x_astore dC_readFromSet_14 (by decide) (L' := [some (vR (some a0)), some (vL x1), none, some (vL v2), none, some (vR (gR m4 a6 v5.toNatClampNeg))]) rfl (n := 16) rfl ?_
  refine x_aload dC_readFromSet_16 rfl (n := 18) rfl ?_
  obtain ⟨a11, e12, h⟩ := h
  obtain ⟨k13, h⟩ := h
  refine x_getL e12 dC_readFromSet_18 fC_201 k13 (n := 21) rfl ?_
  refine x_lload_n dC_readFromSet_21 rfl (n := 22) rfl ?_
  refine x_invS (m := m4) dC_readFromSet_22 gC_readFromSet_22 (as := [vL v2]) (st := [vL (gL m4 a11 3)]) rfl rfl (Nat.le_of_ble_eq_true rfl) (n := 25) rfl rfl rfl h (xBk.J fun v15 m14 h => ?_)
  refine x_land dC_readFromSet_25 (n := 26) rfl ?_
  refine x_lconst (v := 0) dC_readFromSet_26 (by decide) (n := 27) rfl ?_
  refine x_lcmp dC_readFromSet_27 (n := 28) rfl ?_
  obtain ⟨h, h'⟩ := h
  refine x_if_ne (tgt := 33) dC_readFromSet_28 rfl (n := 31) rfl (fun c27 => ?_) (fun c27 => ?_)
  · replace h := h c27
    refine x_aload_n dC_readFromSet_33 rfl (n := 34) rfl ?_
    obtain ⟨k16, h⟩ := h
    refine x_getR rfl dC_readFromSet_34 fC_28 k16 (n := 37) rfl ?_
    refine x_bipush (v := 9) dC_readFromSet_37 (by decide) (n := 39) rfl ?_
    refine x_dup2 dC_readFromSet_39 rfl rfl (n := 40) rfl ?_
    obtain ⟨a17, e18, h⟩ := h
    obtain ⟨n20, k19, h⟩ := h
    obtain ⟨c21, h⟩ := h
    refine x_iald e18 dC_readFromSet_40 k19 c21 (n := 41) rfl ?_
    refine x_iconst (v := 1) dC_readFromSet_41 (by decide) (n := 42) rfl ?_
    refine x_iadd dC_readFromSet_42 (n := 43) rfl ?_
    obtain ⟨c22, h⟩ := h
    replace h := h _ rfl
    refine x_iast e18 dC_readFromSet_43 k19 c22 (n := 44) rfl ?_
    refine x_aload dC_readFromSet_44 rfl (n := 46) rfl ?_
    refine x_lload_n dC_readFromSet_46 rfl (n := 47) rfl ?_
    obtain ⟨k24, h⟩ := h
    refine x_invV (m := (mI m14 a17 (9 : Int32).toNatClampNeg ((gI m14 a17 (9 : Int32).toNatClampNeg) + (1 : Int32)))) e12 dC_readFromSet_47 gC_readFromSet_47 (as := [vL x1]) (st := []) rfl rfl k24 rfl rfl (Nat.le_of_ble_eq_true rfl) (n := 50) rfl rfl rfl h (xBk.R fun v26 m25 h => ?_)
    exact x_aret dC_readFromSet_50 rfl (Or.inl ⟨_, rfl⟩) h
  · replace h := h' c27
    refine x_null dC_readFromSet_31 (n := 32) rfl ?_
    exact x_aret dC_readFromSet_32 rfl (Or.inl ⟨_, rfl⟩) h
set_option maxRecDepth 100000 in
set_option maxHeartbeats 4000000 in
theorem bC_moveGathered_26 {l : Launch} {G : xG} {m : XM} {bc bs : Nat} {Q : XR → XM → Prop} {a0 : Nat} {o1 : Option Nat} {x2 : Int32} {x3 : Int32} {x4 : Int32}
    (h : ((x2 ≤ x4 → kd m a0 = some (oB 4) ∧ ∃ a2, gR m a0 3 = some a2 ∧ ∃ n5, kd m a2 = some (aR 0 n5) ∧ vp_in (5 : Int32) n5 ∧ ∃ a7, o1 = some a7 ∧ kd m a7 = some (oB 3) ∧ CC l G xP_dropFor [vR (some a7), vI x3, vI (0 : Int32)] m (kI (fun v11 m10 => ∃ n13, kd m10 a2 = some (aR 0 n13) ∧ vp_in (5 : Int32) n13 ∧ ∀ m15, m15 = mI m10 a2 (5 : Int32).toNatClampNeg ((gI m a2 (5 : Int32).toNatClampNeg) + v11) → kd m10 a0 = some (oB 4) ∧ ∃ a17, gR m10 a0 3 = some a17 ∧ ∃ n20, kd m10 a17 = some (aR 0 n20) ∧ vp_in (6 : Int32) n20 ∧ kd m10 a7 = some (oB 3) ∧ CC l G xP_dropFor [vR (some a7), vI x3, vI (1 : Int32)] m15 (kI (fun v24 m23 => ∃ n26, kd m23 a17 = some (aR 0 n26) ∧ vp_in (6 : Int32) n26 ∧ ∀ m28, m28 = mI m23 a17 (6 : Int32).toNatClampNeg ((gI m15 a17 (6 : Int32).toNatClampNeg) + v24) → WW l G xC_moveGathered 99 [some (vR (some a0)), some (vR o1), some (vI x2), some (vI x3), some (vI (0 : Int32))] [] m28 bc bs Q) Q)) Q)) ∧ (¬ x2 ≤ x4 → kd m a0 = some (oB 4) ∧ ∃ a30, gR m a0 4 = some a30 ∧ ∃ n33, kd m a30 = some (aR 3 n33) ∧ vp_in x4 n33 ∧ ∃ a35, gR m a30 x4.toNatClampNeg = some a35 ∧ kd m a35 = some (oB 1) ∧ ∃ a38, o1 = some a38 ∧ kd m a38 = some (oB 3) ∧ CC l G xP_remove [vR (some a38), vL (gL m a35 0)] m (kV (fun m41 => kd m41 a0 = some (oB 4) ∧ ∃ a43, gR m41 a0 4 = some a43 ∧ ∃ n46, kd m41 a43 = some (aR 3 n46) ∧ vp_in x4 n46 ∧ ∃ a48, gR m41 a43 x4.toNatClampNeg = some a48 ∧ kd m41 a48 = some (oB 1) ∧ CC l G xT_words [vR (some a48)] m41 (kI (fun v52 m51 => WW l G xC_moveGathered 26 [some (vR (some a0)), some (vR o1), some (vI x2), some (vI (x3 + v52)), some (vI (x4 + 1))] [] m51 bc bs Q) Q)) Q)))) :
    WW l G xC_moveGathered 26 [some (vR (some a0)), some (vR o1), some (vI x2), some (vI x3), some (vI x4)] [] m bc bs Q := by
  refine x_iload dC_moveGathered_26 rfl (n := 28) rfl ?_
  refine x_iload_n dC_moveGathered_28 rfl (n := 29) rfl ?_
  obtain ⟨h, h'⟩ := h
  refine x_icmp_ge (tgt := 65) dC_moveGathered_29 rfl (n := 32) rfl (fun c53 => ?_) (fun c53 => ?_)
  · replace h := h c53
    refine x_aload_n dC_moveGathered_65 rfl (n := 66) rfl ?_
    obtain ⟨k1, h⟩ := h
    refine x_getR rfl dC_moveGathered_66 fC_28 k1 (n := 69) rfl ?_
    refine x_iconst (v := 5) dC_moveGathered_69 (by decide) (n := 70) rfl ?_
    refine x_dup2 dC_moveGathered_70 rfl rfl (n := 71) rfl ?_
    obtain ⟨a2, e3, h⟩ := h
    obtain ⟨n5, k4, h⟩ := h
    obtain ⟨c6, h⟩ := h
    refine x_iald e3 dC_moveGathered_71 k4 c6 (n := 72) rfl ?_
    refine x_aload_n dC_moveGathered_72 rfl (n := 73) rfl ?_
    refine x_iload_n dC_moveGathered_73 rfl (n := 74) rfl ?_
    refine x_iconst (v := 0) dC_moveGathered_74 (by decide) (n := 75) rfl ?_
    obtain ⟨a7, e8, h⟩ := h
    obtain ⟨k9, h⟩ := h
    refine x_invV (m := m) e8 dC_moveGathered_75 gC_moveGathered_75 (as := [vI x3, vI (0 : Int32)]) (st := [vI (gI m a2 (5 : Int32).toNatClampNeg), vI (5 : Int32), vR (gR m a0 3)]) rfl rfl k9 rfl rfl (Nat.le_of_ble_eq_true rfl) (n := 78) rfl rfl rfl h (xBk.I fun v11 m10 h => ?_)
    refine x_iadd dC_moveGathered_78 (n := 79) rfl ?_
    obtain ⟨n13, k12, h⟩ := h
    obtain ⟨c14, h⟩ := h
    replace h := h _ rfl
    refine x_iast e3 dC_moveGathered_79 k12 c14 (n := 80) rfl ?_
    refine x_aload_n dC_moveGathered_80 rfl (n := 81) rfl ?_
    obtain ⟨k16, h⟩ := h
    refine x_getR rfl dC_moveGathered_81 fC_28 k16 (n := 84) rfl ?_
    refine x_bipush (v := 6) dC_moveGathered_84 (by decide) (n := 86) rfl ?_
    refine x_dup2 dC_moveGathered_86 rfl rfl (n := 87) rfl ?_
    obtain ⟨a17, e18, h⟩ := h
    obtain ⟨n20, k19, h⟩ := h
    obtain ⟨c21, h⟩ := h
    refine x_iald e18 dC_moveGathered_87 k19 c21 (n := 88) rfl ?_
    refine x_aload_n dC_moveGathered_88 rfl (n := 89) rfl ?_
    refine x_iload_n dC_moveGathered_89 rfl (n := 90) rfl ?_
    refine x_iconst (v := 1) dC_moveGathered_90 (by decide) (n := 91) rfl ?_
    obtain ⟨k22, h⟩ := h
    refine x_invV (m := (mI m10 a2 (5 : Int32).toNatClampNeg ((gI m a2 (5 : Int32).toNatClampNeg) + v11))) e8 dC_moveGathered_91 gC_moveGathered_91 (as := [vI x3, vI (1 : Int32)]) (st := [vI (gI (mI m10 a2 (5 : Int32).toNatClampNeg ((gI m a2 (5 : Int32).toNatClampNeg) + v11)) a17 (6 : Int32).toNatClampNeg), vI (6 : Int32), vR (gR m10 a0 3)]) rfl rfl k22 rfl rfl (Nat.le_of_ble_eq_true rfl) (n := 94) rfl rfl rfl h (xBk.I fun v24 m23 h => ?_)
    refine x_iadd dC_moveGathered_94 (n := 95) rfl ?_
    obtain ⟨n26, k25, h⟩ := h
    obtain ⟨c27, h⟩ := h
    replace h := h _ rfl
    refine x_iast e18 dC_moveGathered_95 k25 c27 (n := 96) rfl ?_
    refine x_iconst (v := 0) dC_moveGathered_96 (by decide) (n := 97) rfl ?_
    refine x_istore dC_moveGathered_97 (by decide) (L' := [some (vR (some a0)), some (vR o1), some (vI x2), some (vI x3), some (vI (0 : Int32))]) rfl (n := 99) rfl ?_
    exact h
  · replace h := h' c53
    refine x_aload_n dC_moveGathered_32 rfl (n := 33) rfl ?_
    refine x_aload_n dC_moveGathered_33 rfl (n := 34) rfl ?_
    obtain ⟨k29, h⟩ := h
    refine x_getR rfl dC_moveGathered_34 fC_33 k29 (n := 37) rfl ?_
    refine x_iload dC_moveGathered_37 rfl (n := 39) rfl ?_
    obtain ⟨a30, e31, h⟩ := h
    obtain ⟨n33, k32, h⟩ := h
    obtain ⟨c34, h⟩ := h
    refine x_aald e31 dC_moveGathered_39 k32 (by decide) c34 (n := 40) rfl ?_
    obtain ⟨a35, e36, h⟩ := h
    obtain ⟨k37, h⟩ := h
    refine x_getL e36 dC_moveGathered_40 fC_175 k37 (n := 43) rfl ?_
    obtain ⟨a38, e39, h⟩ := h
    obtain ⟨k40, h⟩ := h
    refine x_invV (m := m) e39 dC_moveGathered_43 gC_moveGathered_43 (as := [vL (gL m a35 0)]) (st := []) rfl rfl k40 rfl rfl (Nat.le_of_ble_eq_true rfl) (n := 46) rfl rfl rfl h (xBk.V fun m41 h => ?_)
    refine x_iload_n dC_moveGathered_46 rfl (n := 47) rfl ?_
    refine x_aload_n dC_moveGathered_47 rfl (n := 48) rfl ?_
    obtain ⟨k42, h⟩ := h
    refine x_getR rfl dC_moveGathered_48 fC_33 k42 (n := 51) rfl ?_
    refine x_iload dC_moveGathered_51 rfl (n := 53) rfl ?_
    obtain ⟨a43, e44, h⟩ := h
    obtain ⟨n46, k45, h⟩ := h
    obtain ⟨c47, h⟩ := h
    refine x_aald e44 dC_moveGathered_53 k45 (by decide) c47 (n := 54) rfl ?_
    obtain ⟨a48, e49, h⟩ := h
    obtain ⟨k50, h⟩ := h
    refine x_invV (m := m41) e49 dC_moveGathered_54 gC_moveGathered_54 (as := []) (st := [vI x3]) rfl rfl k50 rfl rfl (Nat.le_of_ble_eq_true rfl) (n := 57) rfl rfl rfl h (xBk.I fun v52 m51 h => ?_)
    refine x_iadd dC_moveGathered_57 (n := 58) rfl ?_
    refine x_istore_n dC_moveGathered_58 (by decide) (L' := [some (vR (some a0)), some (vR o1), some (vI x2), some (vI (x3 + v52)), some (vI x4)]) rfl (n := 59) rfl ?_
    refine x_iinc (v := x4 + 1) dC_moveGathered_59 rfl rfl (by decide) (L' := [some (vR (some a0)), some (vR o1), some (vI x2), some (vI (x3 + v52)), some (vI (x4 + 1))]) rfl (n := 62) rfl ?_
    refine x_goto (tgt := 26) dC_moveGathered_62 rfl ?_
    exact h
set_option maxRecDepth 100000 in
set_option maxHeartbeats 4000000 in
theorem bC_moveGathered_99 {l : Launch} {G : xG} {m : XM} {bc bs : Nat} {Q : XR → XM → Prop} {a0 : Nat} {o1 : Option Nat} {x2 : Int32} {x3 : Int32} {x4 : Int32}
    (h : ((x2 ≤ x4 → ∃ a1, o1 = some a1 ∧ kd m a1 = some (oB 3) ∧ CC l G xP_clearMarks [vR (some a1)] m (kV (fun m4 => kd m4 a0 = some (oB 4) ∧ ∃ a6, gR m4 a0 3 = some a6 ∧ ∃ n9, kd m4 a6 = some (aR 0 n9) ∧ vp_in (1 : Int32) n9 ∧ vp_in (1 : Int32) n9 ∧ ∀ m12, m12 = mI m4 a6 (1 : Int32).toNatClampNeg ((gI m4 a6 (1 : Int32).toNatClampNeg) + (1 : Int32)) → Q (.inl none) m12) Q)) ∧ (¬ x2 ≤ x4 → ∃ a13, o1 = some a13 ∧ kd m a13 = some (oB 3) ∧ CC l G xP_hasRoomFor [vR (some a13), vI x3] m (kI (fun v17 m16 => ((v17 = 0 → kd m16 a0 = some (oB 4) ∧ ∃ a19, gR m16 a0 3 = some a19 ∧ ∃ n22, kd m16 a19 = some (aR 0 n22) ∧ vp_in (7 : Int32) n22 ∧ vp_in (7 : Int32) n22 ∧ ∀ m25, m25 = mI m16 a19 (7 : Int32).toNatClampNeg ((gI m16 a19 (7 : Int32).toNatClampNeg) + (1 : Int32)) → WW l G xC_moveGathered 138 [some (vR (some a0)), some (vR o1), some (vI x2), some (vI x3), some (vI x4)] [] m25 bc bs Q) ∧ (¬ v17 = 0 → kd m16 a0 = some (oB 4) ∧ ∃ a27, gR m16 a0 4 = some a27 ∧ ∃ n30, kd m16 a27 = some (aR 3 n30) ∧ vp_in x4 n30 ∧ kd m16 a13 = some (oB 3) ∧ CC l G xP_add [vR (some a13), vR (gR m16 a27 x4.toNatClampNeg)] m16 (kV (fun m33 => WW l G xC_moveGathered 138 [some (vR (some a0)), some (vR o1), some (vI x2), some (vI x3), some (vI x4)] [] m33 bc bs Q) Q)))) Q)))) :
    WW l G xC_moveGathered 99 [some (vR (some a0)), some (vR o1), some (vI x2), some (vI x3), some (vI x4)] [] m bc bs Q := by
  refine x_iload dC_moveGathered_99 rfl (n := 101) rfl ?_
  refine x_iload_n dC_moveGathered_101 rfl (n := 102) rfl ?_
  obtain ⟨h, h'⟩ := h
  refine x_icmp_ge (tgt := 157) dC_moveGathered_102 rfl (n := 105) rfl (fun c35 => ?_) (fun c35 => ?_)
  · replace h := h c35
    refine x_aload_n dC_moveGathered_157 rfl (n := 158) rfl ?_
    obtain ⟨a1, e2, h⟩ := h
    obtain ⟨k3, h⟩ := h
    refine x_invV (m := m) e2 dC_moveGathered_158 gC_moveGathered_158 (as := []) (st := []) rfl rfl k3 rfl rfl (Nat.le_of_ble_eq_true rfl) (n := 161) rfl rfl rfl h (xBk.V fun m4 h => ?_)
    refine x_aload_n dC_moveGathered_161 rfl (n := 162) rfl ?_
    obtain ⟨k5, h⟩ := h
    refine x_getR rfl dC_moveGathered_162 fC_28 k5 (n := 165) rfl ?_
    refine x_iconst (v := 1) dC_moveGathered_165 (by decide) (n := 166) rfl ?_
    refine x_dup2 dC_moveGathered_166 rfl rfl (n := 167) rfl ?_
    obtain ⟨a6, e7, h⟩ := h
    obtain ⟨n9, k8, h⟩ := h
    obtain ⟨c10, h⟩ := h
    refine x_iald e7 dC_moveGathered_167 k8 c10 (n := 168) rfl ?_
    refine x_iconst (v := 1) dC_moveGathered_168 (by decide) (n := 169) rfl ?_
    refine x_iadd dC_moveGathered_169 (n := 170) rfl ?_
    obtain ⟨c11, h⟩ := h
    replace h := h _ rfl
    refine x_iast e7 dC_moveGathered_170 k8 c11 (n := 171) rfl ?_
    exact x_vret dC_moveGathered_171 rfl h
  · replace h := h' c35
    refine x_aload_n dC_moveGathered_105 rfl (n := 106) rfl ?_
    refine x_iload_n dC_moveGathered_106 rfl (n := 107) rfl ?_
    obtain ⟨a13, e14, h⟩ := h
    obtain ⟨k15, h⟩ := h
    refine x_invV (m := m) e14 dC_moveGathered_107 gC_moveGathered_107 (as := [vI x3]) (st := []) rfl rfl k15 rfl rfl (Nat.le_of_ble_eq_true rfl) (n := 110) rfl rfl rfl h (xBk.I fun v17 m16 h => ?_)
    obtain ⟨h, h'⟩ := h
    refine x_if_eq (tgt := 127) dC_moveGathered_110 rfl (n := 113) rfl (fun c34 => ?_) (fun c34 => ?_)
    · replace h := h c34
      refine x_aload_n dC_moveGathered_127 rfl (n := 128) rfl ?_
      obtain ⟨k18, h⟩ := h
      refine x_getR rfl dC_moveGathered_128 fC_28 k18 (n := 131) rfl ?_
      refine x_bipush (v := 7) dC_moveGathered_131 (by decide) (n := 133) rfl ?_
      refine x_dup2 dC_moveGathered_133 rfl rfl (n := 134) rfl ?_
      obtain ⟨a19, e20, h⟩ := h
      obtain ⟨n22, k21, h⟩ := h
      obtain ⟨c23, h⟩ := h
      refine x_iald e20 dC_moveGathered_134 k21 c23 (n := 135) rfl ?_
      refine x_iconst (v := 1) dC_moveGathered_135 (by decide) (n := 136) rfl ?_
      refine x_iadd dC_moveGathered_136 (n := 137) rfl ?_
      obtain ⟨c24, h⟩ := h
      replace h := h _ rfl
      refine x_iast e20 dC_moveGathered_137 k21 c24 (n := 138) rfl ?_
      exact h
    · replace h := h' c34
      refine x_aload_n dC_moveGathered_113 rfl (n := 114) rfl ?_
      refine x_aload_n dC_moveGathered_114 rfl (n := 115) rfl ?_
      obtain ⟨k26, h⟩ := h
      refine x_getR rfl dC_moveGathered_115 fC_33 k26 (n := 118) rfl ?_
      refine x_iload dC_moveGathered_118 rfl (n := 120) rfl ?_
      obtain ⟨a27, e28, h⟩ := h
      obtain ⟨n30, k29, h⟩ := h
      obtain ⟨c31, h⟩ := h
      refine x_aald e28 dC_moveGathered_120 k29 (by decide) c31 (n := 121) rfl ?_
      obtain ⟨k32, h⟩ := h
      refine x_invV (m := m16) e14 dC_moveGathered_121 gC_moveGathered_121 (as := [vR (gR m16 a27 x4.toNatClampNeg)]) (st := []) rfl rfl k32 rfl rfl (Nat.le_of_ble_eq_true rfl) (n := 124) rfl rfl rfl h (xBk.V fun m33 h => ?_)
      refine x_goto (tgt := 138) dC_moveGathered_124 rfl ?_
      exact h
set_option maxRecDepth 100000 in
set_option maxHeartbeats 4000000 in
theorem bC_moveGathered_138 {l : Launch} {G : xG} {m : XM} {bc bs : Nat} {Q : XR → XM → Prop} {a0 : Nat} {o1 : Option Nat} {x2 : Int32} {x3 : Int32} {x4 : Int32}
    (h : kd m a0 = some (oB 4) ∧ ∃ a2, gR m a0 4 = some a2 ∧ ∃ n5, kd m a2 = some (aR 3 n5) ∧ vp_in x4 n5 ∧ ∃ a7, gR m a2 x4.toNatClampNeg = some a7 ∧ kd m a7 = some (oB 1) ∧ CC l G xT_words [vR (some a7)] m (kI (fun v11 m10 => WW l G xC_moveGathered 99 [some (vR (some a0)), some (vR o1), some (vI x2), some (vI (x3 - v11)), some (vI (x4 + 1))] [] m10 bc bs Q) Q)) :
    WW l G xC_moveGathered 138 [some (vR (some a0)), some (vR o1), some (vI x2), some (vI x3), some (vI x4)] [] m bc bs Q := by
  refine x_iload_n dC_moveGathered_138 rfl (n := 139) rfl ?_
  refine x_aload_n dC_moveGathered_139 rfl (n := 140) rfl ?_
  obtain ⟨k1, h⟩ := h
  refine x_getR rfl dC_moveGathered_140 fC_33 k1 (n := 143) rfl ?_
  refine x_iload dC_moveGathered_143 rfl (n := 145) rfl ?_
  obtain ⟨a2, e3, h⟩ := h
  obtain ⟨n5, k4, h⟩ := h
  obtain ⟨c6, h⟩ := h
  refine x_aald e3 dC_moveGathered_145 k4 (by decide) c6 (n := 146) rfl ?_
  obtain ⟨a7, e8, h⟩ := h
  obtain ⟨k9, h⟩ := h
  refine x_invV (m := m) e8 dC_moveGathered_146 gC_moveGathered_146 (as := []) (st := [vI x3]) rfl rfl k9 rfl rfl (Nat.le_of_ble_eq_true rfl) (n := 149) rfl rfl rfl h (xBk.I fun v11 m10 h => ?_)
  refine x_isub dC_moveGathered_149 (n := 150) rfl ?_
  refine x_istore_n dC_moveGathered_150 (by decide) (L' := [some (vR (some a0)), some (vR o1), some (vI x2), some (vI (x3 - v11)), some (vI x4)]) rfl (n := 151) rfl ?_
  refine x_iinc (v := x4 + 1) dC_moveGathered_151 rfl rfl (by decide) (L' := [some (vR (some a0)), some (vR o1), some (vI x2), some (vI (x3 - v11)), some (vI (x4 + 1))]) rfl (n := 154) rfl ?_
  refine x_goto (tgt := 99) dC_moveGathered_154 rfl ?_
  exact h
set_option maxRecDepth 100000 in
set_option maxHeartbeats 4000000 in
theorem bC_moveGathered {l : Launch} {G : xG} {m : XM} {Q : XR → XM → Prop} {a0 : Nat} {o1 : Option Nat} {x2 : Int32} (hst : l.stackTraces = false)
    (h : kd m a0 = some (oB 4) ∧ ∃ a2, gR m a0 3 = some a2 ∧ ∃ n5, kd m a2 = some (aR 0 n5) ∧ vp_in (9 : Int32) n5 ∧ vp_in (9 : Int32) n5 ∧ ∀ m8, m8 = mI m a2 (9 : Int32).toNatClampNeg ((gI m a2 (9 : Int32).toNatClampNeg) + (1 : Int32)) → vp_in (4 : Int32) n5 ∧ vp_in (4 : Int32) n5 ∧ ∀ m11, m11 = mI m8 a2 (4 : Int32).toNatClampNeg ((gI m8 a2 (4 : Int32).toNatClampNeg) + x2) → WW l G xC_moveGathered 26 [some (vR (some a0)), some (vR o1), some (vI x2), some (vI (0 : Int32)), some (vI (0 : Int32))] [] m11 0 0 Q) :
    CC l G xC_moveGathered [vR (some a0), vR o1, vI x2] m Q := by
  refine x_entry (by decide +kernel) rfl hst (Nat.le_of_ble_eq_true rfl) (L0 := [some (vR (some a0)), some (vR o1), some (vI x2), none, none]) rfl ?_
  refine x_aload_n dC_moveGathered_0 rfl (n := 1) rfl ?_
  obtain ⟨k1, h⟩ := h
  refine x_getR rfl dC_moveGathered_1 fC_28 k1 (n := 4) rfl ?_
  refine x_bipush (v := 9) dC_moveGathered_4 (by decide) (n := 6) rfl ?_
  refine x_dup2 dC_moveGathered_6 rfl rfl (n := 7) rfl ?_
  obtain ⟨a2, e3, h⟩ := h
  obtain ⟨n5, k4, h⟩ := h
  obtain ⟨c6, h⟩ := h
  refine x_iald e3 dC_moveGathered_7 k4 c6 (n := 8) rfl ?_
  refine x_iconst (v := 1) dC_moveGathered_8 (by decide) (n := 9) rfl ?_
  refine x_iadd dC_moveGathered_9 (n := 10) rfl ?_
  obtain ⟨c7, h⟩ := h
  replace h := h _ rfl
  refine x_iast e3 dC_moveGathered_10 k4 c7 (n := 11) rfl ?_
  refine x_aload_n dC_moveGathered_11 rfl (n := 12) rfl ?_
  refine x_getR rfl dC_moveGathered_12 fC_28 k1 (n := 15) rfl ?_
  refine x_iconst (v := 4) dC_moveGathered_15 (by decide) (n := 16) rfl ?_
  refine x_dup2 dC_moveGathered_16 rfl rfl (n := 17) rfl ?_
  obtain ⟨c9, h⟩ := h
  refine x_iald e3 dC_moveGathered_17 k4 c9 (n := 18) rfl ?_
  refine x_iload_n dC_moveGathered_18 rfl (n := 19) rfl ?_
  refine x_iadd dC_moveGathered_19 (n := 20) rfl ?_
  obtain ⟨c10, h⟩ := h
  replace h := h _ rfl
  refine x_iast e3 dC_moveGathered_20 k4 c10 (n := 21) rfl ?_
  refine x_iconst (v := 0) dC_moveGathered_21 (by decide) (n := 22) rfl ?_
  refine x_istore_n dC_moveGathered_22 (by decide) (L' := [some (vR (some a0)), some (vR o1), some (vI x2), some (vI (0 : Int32)), none]) rfl (n := 23) rfl ?_
  refine x_iconst (v := 0) dC_moveGathered_23 (by decide) (n := 24) rfl ?_
  refine x_istore dC_moveGathered_24 (by decide) (L' := [some (vR (some a0)), some (vR o1), some (vI x2), some (vI (0 : Int32)), some (vI (0 : Int32))]) rfl (n := 26) rfl ?_
  exact h
set_option maxRecDepth 100000 in
set_option maxHeartbeats 4000000 in
theorem bC_get_63 {l : Launch} {G : xG} {m : XM} {bc bs : Nat} {Q : XR → XM → Prop} {a0 : Nat} {x1 : Int64}
    (h : kd m a0 = some (oB 4) ∧ ((gR m a0 6 = none → Q (.inl (some (vI (0 : Int32)))) m) ∧ (∀ a2, gR m a0 6 = some a2 → kd m a2 = some (oB 1) ∧ ∀ m5, m5 = mI m a2 5 (1 : Int32) → ∃ a6, gR m a2 1 = some a6 ∧ ∃ n9, kd m a6 = some (aR 0 n9) ∧ Q (.inl (some (vI (Int32.ofNat n9)))) m5))) :
    WW l G xC_get 63 [some (vR (some a0)), some (vL x1), none] [] m bc bs Q := by
  refine x_aload_n dC_get_63 rfl (n := 64) rfl ?_
  obtain ⟨k1, h⟩ := h
  refine x_getR rfl dC_get_64 fC_40 k1 (n := 67) rfl ?_
  obtain ⟨h, h'⟩ := h
  refine x_ifnonnull (tgt := 72) dC_get_67 rfl (n := 70) rfl (fun a2 e3 => ?_) (fun e3 => ?_)
  · replace h := h' a2 e3
    refine x_aload_n dC_get_72 rfl (n := 73) rfl ?_
    refine x_getR rfl dC_get_73 fC_40 k1 (n := 76) rfl ?_
    refine x_iconst (v := 1) dC_get_76 (by decide) (n := 77) rfl ?_
    obtain ⟨k4, h⟩ := h
    replace h := h _ rfl
    refine x_putI e3 dC_get_77 pC_93 k4 (by decide) (by decide) (n := 80) rfl ?_
    refine x_aload_n dC_get_80 rfl (n := 81) rfl ?_
    refine x_getR rfl dC_get_81 fC_40 k1 (n := 84) rfl ?_
    refine x_getR e3 dC_get_84 fC_96 k4 (n := 87) rfl ?_
    obtain ⟨a6, e7, h⟩ := h
    obtain ⟨n9, k8, h⟩ := h
    refine x_alen e7 dC_get_87 k8 (by decide) (n := 88) rfl ?_
    exact x_iret dC_get_88 rfl h
  · replace h := h e3
    refine x_iconst (v := 0) dC_get_70 (by decide) (n := 71) rfl ?_
    exact x_iret dC_get_71 rfl h
set_option maxRecDepth 100000 in
set_option maxHeartbeats 4000000 in
theorem bC_get {l : Launch} {G : xG} {m : XM} {Q : XR → XM → Prop} {a0 : Nat} {x1 : Int64} (hst : l.stackTraces = false)
    (h : kd m a0 = some (oB 4) ∧ ∃ bc2 bs3, 1 = bc2 + 1 ∧ 6 = bs3 + 6 ∧ CC l G xC_refuseWhenClosed [vR (some a0)] m (kV (fun m6 => kd m6 a0 = some (oB 4) ∧ ∃ a8, gR m6 a0 2 = some a8 ∧ kd m6 a8 = some (oB 2) ∧ ∃ a11, gR m6 a8 1 = some a11 ∧ kd m6 a11 = some (oB 0) ∧ CC l G xI_find [vR (some a11), vL x1] m6 (kR (fun v15 m14 => kd m14 a0 = some (oB 4) ∧ ∀ m17, m17 = mR m14 a0 6 v15 → ((gR m17 a0 6 = none → CC l G xC_readFromSet [vR (some a0), vL x1] m17 (kR (fun v21 m20 => kd m20 a0 = some (oB 4) ∧ ∀ m23, m23 = mR m20 a0 6 v21 → WW l G xC_get 63 [some (vR (some a0)), some (vL x1), none] [] m23 bc2 bs3 Q) Q)) ∧ (∀ a18, gR m17 a0 6 = some a18 → ∃ a24, gR m17 a0 2 = some a24 ∧ kd m14 a24 = some (oB 2) ∧ CC l G xG_hasInOpenPage [vR (some a24), vR (gR m17 a0 6)] m17 (kI (fun v28 m27 => ((¬ v28 = 0 → WW l G xC_get 63 [some (vR (some a0)), some (vL x1), none] [] m27 bc2 bs3 Q) ∧ (v28 = 0 → kd m27 a0 = some (oB 4) ∧ ∃ a30, gR m27 a0 3 = some a30 ∧ ∃ n33, kd m27 a30 = some (aR 0 n33) ∧ vp_in (9 : Int32) n33 ∧ vp_in (9 : Int32) n33 ∧ ∀ m36, m36 = mI m27 a30 (9 : Int32).toNatClampNeg ((gI m27 a30 (9 : Int32).toNatClampNeg) + (1 : Int32)) → WW l G xC_get 63 [some (vR (some a0)), some (vL x1), none] [] m36 bc2 bs3 Q))) Q)))) Q)) Q)) :
    CC l G xC_get [vR (some a0), vL x1] m Q := by
  refine x_entry (by decide +kernel) rfl hst (Nat.le_of_ble_eq_true rfl) (L0 := [some (vR (some a0)), some (vL x1), none]) rfl ?_
  refine x_aload_n dC_get_0 rfl (n := 1) rfl ?_
  obtain ⟨k1, h⟩ := h
  obtain ⟨bc2, bs3, b4, b5, h⟩ := h
  refine x_invV (m := m) rfl dC_get_1 gC_get_1 (as := []) (st := []) rfl rfl k1 rfl rfl (Nat.le_of_ble_eq_true rfl) (n := 4) rfl b4 b5 h (xBk.V fun m6 h => ?_)
  refine x_aload_n dC_get_4 rfl (n := 5) rfl ?_
  refine x_aload_n dC_get_5 rfl (n := 6) rfl ?_
  obtain ⟨k7, h⟩ := h
  refine x_getR rfl dC_get_6 fC_24 k7 (n := 9) rfl ?_
  obtain ⟨a8, e9, h⟩ := h
  obtain ⟨k10, h⟩ := h
  refine x_getR e9 dC_get_9 fC_77 k10 (n := 12) rfl ?_
  refine x_lload_n dC_get_12 rfl (n := 13) rfl ?_
  obtain ⟨a11, e12, h⟩ := h
  obtain ⟨k13, h⟩ := h
  refine x_invV (m := m6) e12 dC_get_13 gC_get_13 (as := [vL x1]) (st := [vR (some a0)]) rfl rfl k13 rfl rfl (Nat.le_of_ble_eq_true rfl) (n := 16) rfl rfl rfl h (xBk.R fun v15 m14 h => ?_)
  obtain ⟨k16, h⟩ := h
  replace h := h _ rfl
  refine x_putR rfl dC_get_16 pC_40 k16 (fun o => by cases o <;> rfl) (fun o => by cases o <;> rfl) (n := 19) rfl ?_
  refine x_aload_n dC_get_19 rfl (n := 20) rfl ?_
  refine x_getR rfl dC_get_20 fC_40 k16 (n := 23) rfl ?_
  obtain ⟨h, h'⟩ := h
  refine x_ifnonnull (tgt := 38) dC_get_23 rfl (n := 26) rfl (fun a18 e19 => ?_) (fun e19 => ?_)
  · replace h := h' a18 e19
    refine x_aload_n dC_get_38 rfl (n := 39) rfl ?_
    refine x_getR rfl dC_get_39 fC_24 k16 (n := 42) rfl ?_
    refine x_aload_n dC_get_42 rfl (n := 43) rfl ?_
    refine x_getR rfl dC_get_43 fC_40 k16 (n := 46) rfl ?_
    obtain ⟨a24, e25, h⟩ := h
    obtain ⟨k26, h⟩ := h
    refine x_invV (m := (mR m14 a0 6 v15)) e25 dC_get_46 gC_get_46 (as := [vR (gR (mR m14 a0 6 v15) a0 6)]) (st := []) rfl rfl k26 rfl rfl (Nat.le_of_ble_eq_true rfl) (n := 49) rfl rfl rfl h (xBk.I fun v28 m27 h => ?_)
    obtain ⟨h, h'⟩ := h
    refine x_if_ne (tgt := 63) dC_get_49 rfl (n := 52) rfl (fun c37 => ?_) (fun c37 => ?_)
    · replace h := h c37
      exact h
    · replace h := h' c37
      refine x_aload_n dC_get_52 rfl (n := 53) rfl ?_
      obtain ⟨k29, h⟩ := h
      refine x_getR rfl dC_get_53 fC_28 k29 (n := 56) rfl ?_
      refine x_bipush (v := 9) dC_get_56 (by decide) (n := 58) rfl ?_
      refine x_dup2 dC_get_58 rfl rfl (n := 59) rfl ?_
      obtain ⟨a30, e31, h⟩ := h
      obtain ⟨n33, k32, h⟩ := h
      obtain ⟨c34, h⟩ := h
      refine x_iald e31 dC_get_59 k32 c34 (n := 60) rfl ?_
      refine x_iconst (v := 1) dC_get_60 (by decide) (n := 61) rfl ?_
      refine x_iadd dC_get_61 (n := 62) rfl ?_
      obtain ⟨c35, h⟩ := h
      replace h := h _ rfl
      refine x_iast e31 dC_get_62 k32 c35 (n := 63) rfl ?_
      exact h
  · replace h := h e19
    refine x_aload_n dC_get_26 rfl (n := 27) rfl ?_
    refine x_aload_n dC_get_27 rfl (n := 28) rfl ?_
    refine x_lload_n dC_get_28 rfl (n := 29) rfl ?_
    refine x_invV (m := (mR m14 a0 6 v15)) rfl dC_get_29 gC_get_29 (as := [vL x1]) (st := [vR (some a0)]) rfl rfl k16 rfl rfl (Nat.le_of_ble_eq_true rfl) (n := 32) rfl rfl rfl h (xBk.R fun v21 m20 h => ?_)
    obtain ⟨k22, h⟩ := h
    replace h := h _ rfl
    refine x_putR rfl dC_get_32 pC_40 k22 (fun o => by cases o <;> rfl) (fun o => by cases o <;> rfl) (n := 35) rfl ?_
    refine x_goto (tgt := 63) dC_get_35 rfl ?_
    exact h
set_option maxRecDepth 100000 in
set_option maxHeartbeats 4000000 in
theorem bC_got {l : Launch} {G : xG} {m : XM} {Q : XR → XM → Prop} {a0 : Nat} {x1 : Int32} (hst : l.stackTraces = false)
    (h : kd m a0 = some (oB 4) ∧ ((gR m a0 6 = none → (1 ≤ 1 ∧ 6 ≤ 6 ∧ Q (.inr "java/lang/IndexOutOfBoundsException") m)) ∧ (∀ a2, gR m a0 6 = some a2 → ((x1 < 0 → (1 ≤ 1 ∧ 6 ≤ 6 ∧ Q (.inr "java/lang/IndexOutOfBoundsException") m)) ∧ (¬ x1 < 0 → kd m a2 = some (oB 1) ∧ ∃ a5, gR m a2 1 = some a5 ∧ ∃ n8, kd m a5 = some (aR 0 n8) ∧ ((x1 < (Int32.ofNat n8) → vp_in x1 n8 ∧ Q (.inl (some (vI (gI m a5 x1.toNatClampNeg)))) m) ∧ (¬ x1 < (Int32.ofNat n8) → (1 ≤ 1 ∧ 6 ≤ 6 ∧ Q (.inr "java/lang/IndexOutOfBoundsException") m)))))))) :
    CC l G xC_got [vR (some a0), vI x1] m Q := by
  refine x_entry (by decide +kernel) rfl hst (Nat.le_of_ble_eq_true rfl) (L0 := [some (vR (some a0)), some (vI x1)]) rfl ?_
  refine x_aload_n dC_got_0 rfl (n := 1) rfl ?_
  obtain ⟨k1, h⟩ := h
  refine x_getR rfl dC_got_1 fC_40 k1 (n := 4) rfl ?_
  obtain ⟨h, h'⟩ := h
  refine x_ifnull (tgt := 23) dC_got_4 rfl (n := 7) rfl (fun e3 => ?_) (fun a2 e3 => ?_)
  · replace h := h e3
    exact x_throw0 tC_got_23 dC_got_23 dC_got_26 dC_got_27 dC_got_30 h.1 h.2.1 h.2.2
  · replace h := h' a2 e3
    refine x_iload_n dC_got_7 rfl (n := 8) rfl ?_
    obtain ⟨h, h'⟩ := h
    refine x_if_lt (tgt := 23) dC_got_8 rfl (n := 11) rfl (fun c11 => ?_) (fun c11 => ?_)
    · replace h := h c11
      exact x_throw0 tC_got_23 dC_got_23 dC_got_26 dC_got_27 dC_got_30 h.1 h.2.1 h.2.2
    · replace h := h' c11
      refine x_iload_n dC_got_11 rfl (n := 12) rfl ?_
      refine x_aload_n dC_got_12 rfl (n := 13) rfl ?_
      refine x_getR rfl dC_got_13 fC_40 k1 (n := 16) rfl ?_
      obtain ⟨k4, h⟩ := h
      refine x_getR e3 dC_got_16 fC_96 k4 (n := 19) rfl ?_
      obtain ⟨a5, e6, h⟩ := h
      obtain ⟨n8, k7, h⟩ := h
      refine x_alen e6 dC_got_19 k7 (by decide) (n := 20) rfl ?_
      obtain ⟨h, h'⟩ := h
      refine x_icmp_lt (tgt := 31) dC_got_20 rfl (n := 23) rfl (fun c10 => ?_) (fun c10 => ?_)
      · replace h := h c10
        refine x_aload_n dC_got_31 rfl (n := 32) rfl ?_
        refine x_getR rfl dC_got_32 fC_40 k1 (n := 35) rfl ?_
        refine x_getR e3 dC_got_35 fC_96 k4 (n := 38) rfl ?_
        refine x_iload_n dC_got_38 rfl (n := 39) rfl ?_
        obtain ⟨c9, h⟩ := h
        refine x_iald e6 dC_got_39 k7 c9 (n := 40) rfl ?_
        exact x_iret dC_got_40 rfl h
      · replace h := h' c10
        exact x_throw0 tC_got_23 dC_got_23 dC_got_26 dC_got_27 dC_got_30 h.1 h.2.1 h.2.2
set_option maxRecDepth 100000 in
set_option maxHeartbeats 4000000 in
theorem bC_delete {l : Launch} {G : xG} {m : XM} {Q : XR → XM → Prop} {a0 : Nat} {x1 : Int64} (hst : l.stackTraces = false)
    (h : kd m a0 = some (oB 4) ∧ ∃ bc2 bs3, 1 = bc2 + 1 ∧ 6 = bs3 + 6 ∧ CC l G xC_refuseWhenClosed [vR (some a0)] m (kV (fun m6 => kd m6 a0 = some (oB 4) ∧ ∃ a8, gR m6 a0 2 = some a8 ∧ kd m6 a8 = some (oB 2) ∧ ∃ a11, gR m6 a8 1 = some a11 ∧ kd m6 a11 = some (oB 0) ∧ CC l G xI_remove [vR (some a11), vL x1] m6 (kI (fun v15 m14 => kd m14 a0 = some (oB 4) ∧ CC l G xC_removeFromSet [vR (some a0), vL x1, vI (3 : Int32)] m14 (kI (fun v18 m17 => ((¬ v15 = 0 → Q (.inl (some (vI (1 : Int32)))) m17) ∧ (v15 = 0 → ((v18 = 0 → Q (.inl (some (vI (0 : Int32)))) m17) ∧ (¬ v18 = 0 → Q (.inl (some (vI (1 : Int32)))) m17))))) Q)) Q)) Q)) :
    CC l G xC_delete [vR (some a0), vL x1] m Q := by
  refine x_entry (by decide +kernel) rfl hst (Nat.le_of_ble_eq_true rfl) (L0 := [some (vR (some a0)), some (vL x1), none, none, none]) rfl ?_
  refine x_aload_n dC_delete_0 rfl (n := 1) rfl ?_
  obtain ⟨k1, h⟩ := h
  obtain ⟨bc2, bs3, b4, b5, h⟩ := h
  refine x_invV (m := m) rfl dC_delete_1 gC_delete_1 (as := []) (st := []) rfl rfl k1 rfl rfl (Nat.le_of_ble_eq_true rfl) (n := 4) rfl b4 b5 h (xBk.V fun m6 h => ?_)
  refine x_aload_n dC_delete_4 rfl (n := 5) rfl ?_
  obtain ⟨k7, h⟩ := h
  refine x_getR rfl dC_delete_5 fC_24 k7 (n := 8) rfl ?_
  obtain ⟨a8, e9, h⟩ := h
  obtain ⟨k10, h⟩ := h
  refine x_getR e9 dC_delete_8 fC_77 k10 (n := 11) rfl ?_
  refine x_lload_n dC_delete_11 rfl (n := 12) rfl ?_
  obtain ⟨a11, e12, h⟩ := h
  obtain ⟨k13, h⟩ := h
  refine x_invV (m := m6) e12 dC_delete_12 gC_delete_12 (as := [vL x1]) (st := []) rfl rfl k13 rfl rfl (Nat.le_of_ble_eq_true rfl) (n := 15) rfl rfl rfl h (xBk.I fun v15 m14 h => ?_)
  refine x_istore_n dC_delete_15 (by decide) (L' := [some (vR (some a0)), some (vL x1), none, some (vI v15), none]) rfl (n := 16) rfl ?_
  refine x_aload_n dC_delete_16 rfl (n := 17) rfl ?_
  refine x_lload_n dC_delete_17 rfl (n := 18) rfl ?_
  refine x_iconst (v := 3) dC_delete_18 (by decide) (n := 19) rfl ?_
  obtain ⟨k16, h⟩ := h
  refine x_invV (m := m14) rfl dC_delete_19 gC_delete_19 (as := [vL x1, vI (3 : Int32)]) (st := []) rfl rfl k16 rfl rfl (Nat.le_of_ble_eq_true rfl) (n := 22) rfl rfl rfl h (xBk.I fun v18 m17 h => ?_)
  refine x_istore dC_delete_22 (by decide) (L' := [some (vR (some a0)), some (vL x1), none, some (vI v15), some (vI v18)]) rfl (n := 24) rfl ?_
  refine x_iload_n dC_delete_24 rfl (n := 25) rfl ?_
  obtain ⟨h, h'⟩ := h
  refine x_if_ne (tgt := 33) dC_delete_25 rfl (n := 28) rfl (fun c20 => ?_) (fun c20 => ?_)
  · replace h := h c20
    refine x_iconst (v := 1) dC_delete_33 (by decide) (n := 34) rfl ?_
    refine x_goto (tgt := 38) dC_delete_34 rfl ?_
    exact x_zret dC_delete_38 rfl (by decide) h
  · replace h := h' c20
    refine x_iload dC_delete_28 rfl (n := 30) rfl ?_
    obtain ⟨h, h'⟩ := h
    refine x_if_eq (tgt := 37) dC_delete_30 rfl (n := 33) rfl (fun c19 => ?_) (fun c19 => ?_)
    · replace h := h c19
      refine x_iconst (v := 0) dC_delete_37 (by decide) (n := 38) rfl ?_
      exact x_zret dC_delete_38 rfl (by decide) h
    · replace h := h' c19
      refine x_iconst (v := 1) dC_delete_33 (by decide) (n := 34) rfl ?_
      refine x_goto (tgt := 38) dC_delete_34 rfl ?_
      exact x_zret dC_delete_38 rfl (by decide) h
set_option maxRecDepth 100000 in
set_option maxHeartbeats 4000000 in
theorem bC_where {l : Launch} {G : xG} {m : XM} {Q : XR → XM → Prop} {a0 : Nat} {x1 : Int64} (hst : l.stackTraces = false)
    (h : kd m a0 = some (oB 4) ∧ ∃ bc2 bs3, 1 = bc2 + 1 ∧ 6 = bs3 + 6 ∧ CC l G xC_refuseWhenClosed [vR (some a0)] m (kV (fun m6 => kd m6 a0 = some (oB 4) ∧ ∃ a8, gR m6 a0 2 = some a8 ∧ kd m6 a8 = some (oB 2) ∧ ∃ a11, gR m6 a8 1 = some a11 ∧ kd m6 a11 = some (oB 0) ∧ CC l G xI_find [vR (some a11), vL x1] m6 (kR (fun v15 m14 => ((v15 = none → kd m14 a0 = some (oB 4) ∧ CC l G xC_mix [vL x1] m14 (kL (fun v20 m19 => CC l G xC_setNumber [vL v20] m19 (kI (fun v22 m21 => ∃ a23, gR m14 a0 1 = some a23 ∧ ∃ n26, kd m21 a23 = some (aR 4 n26) ∧ vp_in v22 n26 ∧ ∃ a28, gR m21 a23 v22.toNatClampNeg = some a28 ∧ kd m21 a28 = some (oB 3) ∧ CC l G xP_find [vR (some a28), vL x1] m21 (kR (fun v32 m31 => ((v32 = none → Q (.inl (some (vI (0 : Int32)))) m31) ∧ (∀ a33, v32 = some a33 → Q (.inl (some (vI (2 : Int32)))) m31))) Q)) Q)) Q)) ∧ (∀ a16, v15 = some a16 → Q (.inl (some (vI (1 : Int32)))) m14))) Q)) Q)) :
    CC l G xC_where [vR (some a0), vL x1] m Q := by
  refine x_entry (by decide +kernel) rfl hst (Nat.le_of_ble_eq_true rfl) (L0 := [some (vR (some a0)), some (vL x1), none]) rfl ?_
  refine x_aload_n dC_where_0 rfl (n := 1) rfl ?_
  obtain ⟨k1, h⟩ := h
  obtain ⟨bc2, bs3, b4, b5, h⟩ := h
  refine x_invV (m := m) rfl dC_where_1 gC_where_1 (as := []) (st := []) rfl rfl k1 rfl rfl (Nat.le_of_ble_eq_true rfl) (n := 4) rfl b4 b5 h (xBk.V fun m6 h => ?_)
  refine x_aload_n dC_where_4 rfl (n := 5) rfl ?_
  obtain ⟨k7, h⟩ := h
  refine x_getR rfl dC_where_5 fC_24 k7 (n := 8) rfl ?_
  obtain ⟨a8, e9, h⟩ := h
  obtain ⟨k10, h⟩ := h
  refine x_getR e9 dC_where_8 fC_77 k10 (n := 11) rfl ?_
  refine x_lload_n dC_where_11 rfl (n := 12) rfl ?_
  obtain ⟨a11, e12, h⟩ := h
  obtain ⟨k13, h⟩ := h
  refine x_invV (m := m6) e12 dC_where_12 gC_where_12 (as := [vL x1]) (st := []) rfl rfl k13 rfl rfl (Nat.le_of_ble_eq_true rfl) (n := 15) rfl rfl rfl h (xBk.R fun v15 m14 h => ?_)
  obtain ⟨h, h'⟩ := h
  refine x_ifnull (tgt := 20) dC_where_15 rfl (n := 18) rfl (fun e17 => ?_) (fun a16 e17 => ?_)
  · replace h := h e17
    refine x_aload_n dC_where_20 rfl (n := 21) rfl ?_
    obtain ⟨k18, h⟩ := h
    refine x_getR rfl dC_where_21 fC_17 k18 (n := 24) rfl ?_
    refine x_lload_n dC_where_24 rfl (n := 25) rfl ?_
    refine x_invS (m := m14) dC_where_25 gC_where_25 (as := [vL x1]) (st := [vR (gR m14 a0 1)]) rfl rfl (Nat.le_of_ble_eq_true rfl) (n := 28) rfl rfl rfl h (xBk.J fun v20 m19 h => ?_)
    refine x_invS (m := m19) dC_where_28 gC_where_28 (as := [vL v20]) (st := [vR (gR m14 a0 1)]) rfl rfl (Nat.le_of_ble_eq_true rfl) (n := 31) rfl rfl rfl h (xBk.I fun v22 m21 h => ?_)
    obtain ⟨a23, e24, h⟩ := h
    obtain ⟨n26, k25, h⟩ := h
    obtain ⟨c27, h⟩ := h
    refine x_aald e24 dC_where_31 k25 (by decide) c27 (n := 32) rfl ?_
    refine x_lload_n dC_where_32 rfl (n := 33) rfl ?_
    obtain ⟨a28, e29, h⟩ := h
    obtain ⟨k30, h⟩ := h
    refine x_invV (m := m21) e29 dC_where_33 gC_where_33 (as := [vL x1]) (st := []) rfl rfl k30 rfl rfl (Nat.le_of_ble_eq_true rfl) (n := 36) rfl rfl rfl h (xBk.R fun v32 m31 h => ?_)
    obtain ⟨h, h'⟩ := h
    refine x_ifnull (tgt := 43) dC_where_36 rfl (n := 39) rfl (fun e34 => ?_) (fun a33 e34 => ?_)
    · replace h := h e34
      refine x_iconst (v := 0) dC_where_43 (by decide) (n := 44) rfl ?_
      exact x_iret dC_where_44 rfl h
    · replace h := h' a33 e34
      refine x_iconst (v := 2) dC_where_39 (by decide) (n := 40) rfl ?_
      refine x_goto (tgt := 44) dC_where_40 rfl ?_
      exact x_iret dC_where_44 rfl h
  · replace h := h' a16 e17
    refine x_iconst (v := 1) dC_where_18 (by decide) (n := 19) rfl ?_
    exact x_iret dC_where_19 rfl h
set_option maxRecDepth 100000 in
set_option maxHeartbeats 4000000 in
theorem bC_flash {l : Launch} {G : xG} {m : XM} {Q : XR → XM → Prop} {a0 : Nat} {x1 : Int32} {x2 : Int32} (hst : l.stackTraces = false)
    (h : ((x1 < 0 → (1 ≤ 1 ∧ 6 ≤ 6 ∧ Q (.inr "java/lang/IndexOutOfBoundsException") m)) ∧ (¬ x1 < 0 → (((96 : Int32) ≤ x1 → (1 ≤ 1 ∧ 6 ≤ 6 ∧ Q (.inr "java/lang/IndexOutOfBoundsException") m)) ∧ (¬ (96 : Int32) ≤ x1 → ((x2 < 0 → (1 ≤ 1 ∧ 6 ≤ 6 ∧ Q (.inr "java/lang/IndexOutOfBoundsException") m)) ∧ (¬ x2 < 0 → ((x2 < (32 : Int32) → (((64 : Int32) ≤ x1 → kd m a0 = some (oB 4) ∧ ∃ a2, gR m a0 2 = some a2 ∧ kd m a2 = some (oB 2) ∧ ∃ a5, gR m a2 0 = some a5 ∧ ∃ n8, kd m a5 = some (aR 4 n8) ∧ vp_in (x1 - (64 : Int32)) n8 ∧ ∃ a10, gR m a5 (x1 - (64 : Int32)).toNatClampNeg = some a10 ∧ kd m a10 = some (oB 3) ∧ CC l G xP_wordAt [vR (some a10), vI x2] m (kI (fun v14 m13 => Q (.inl (some (vI v14))) m13) Q)) ∧ (¬ (64 : Int32) ≤ x1 → kd m a0 = some (oB 4) ∧ ∃ a16, gR m a0 1 = some a16 ∧ ∃ n19, kd m a16 = some (aR 4 n19) ∧ vp_in x1 n19 ∧ ∃ a21, gR m a16 x1.toNatClampNeg = some a21 ∧ kd m a21 = some (oB 3) ∧ CC l G xP_wordAt [vR (some a21), vI x2] m (kI (fun v25 m24 => Q (.inl (some (vI v25))) m24) Q)))) ∧ (¬ x2 < (32 : Int32) → (1 ≤ 1 ∧ 6 ≤ 6 ∧ Q (.inr "java/lang/IndexOutOfBoundsException") m)))))))))) :
    CC l G xC_flash [vR (some a0), vI x1, vI x2] m Q := by
  refine x_entry (by decide +kernel) rfl hst (Nat.le_of_ble_eq_true rfl) (L0 := [some (vR (some a0)), some (vI x1), some (vI x2)]) rfl ?_
  refine x_iload_n dC_flash_0 rfl (n := 1) rfl ?_
  obtain ⟨h, h'⟩ := h
  refine x_if_lt (tgt := 20) dC_flash_1 rfl (n := 4) rfl (fun c30 => ?_) (fun c30 => ?_)
  · replace h := h c30
    exact x_throw0 tC_flash_20 dC_flash_20 dC_flash_23 dC_flash_24 dC_flash_27 h.1 h.2.1 h.2.2
  · replace h := h' c30
    refine x_iload_n dC_flash_4 rfl (n := 5) rfl ?_
    refine x_bipush (v := 96) dC_flash_5 (by decide) (n := 7) rfl ?_
    obtain ⟨h, h'⟩ := h
    refine x_icmp_ge (tgt := 20) dC_flash_7 rfl (n := 10) rfl (fun c29 => ?_) (fun c29 => ?_)
    · replace h := h c29
      exact x_throw0 tC_flash_20 dC_flash_20 dC_flash_23 dC_flash_24 dC_flash_27 h.1 h.2.1 h.2.2
    · replace h := h' c29
      refine x_iload_n dC_flash_10 rfl (n := 11) rfl ?_
      obtain ⟨h, h'⟩ := h
      refine x_if_lt (tgt := 20) dC_flash_11 rfl (n := 14) rfl (fun c28 => ?_) (fun c28 => ?_)
      · replace h := h c28
        exact x_throw0 tC_flash_20 dC_flash_20 dC_flash_23 dC_flash_24 dC_flash_27 h.1 h.2.1 h.2.2
      · replace h := h' c28
        refine x_iload_n dC_flash_14 rfl (n := 15) rfl ?_
        refine x_bipush (v := 32) dC_flash_15 (by decide) (n := 17) rfl ?_
        obtain ⟨h, h'⟩ := h
        refine x_icmp_lt (tgt := 28) dC_flash_17 rfl (n := 20) rfl (fun c27 => ?_) (fun c27 => ?_)
        · replace h := h c27
          refine x_iload_n dC_flash_28 rfl (n := 29) rfl ?_
          refine x_bipush (v := 64) dC_flash_29 (by decide) (n := 31) rfl ?_
          obtain ⟨h, h'⟩ := h
          refine x_icmp_ge (tgt := 47) dC_flash_31 rfl (n := 34) rfl (fun c26 => ?_) (fun c26 => ?_)
          · replace h := h c26
            refine x_aload_n dC_flash_47 rfl (n := 48) rfl ?_
            obtain ⟨k1, h⟩ := h
            refine x_getR rfl dC_flash_48 fC_24 k1 (n := 51) rfl ?_
            obtain ⟨a2, e3, h⟩ := h
            obtain ⟨k4, h⟩ := h
            refine x_getR e3 dC_flash_51 fC_122 k4 (n := 54) rfl ?_
            refine x_iload_n dC_flash_54 rfl (n := 55) rfl ?_
            refine x_bipush (v := 64) dC_flash_55 (by decide) (n := 57) rfl ?_
            refine x_isub dC_flash_57 (n := 58) rfl ?_
            obtain ⟨a5, e6, h⟩ := h
            obtain ⟨n8, k7, h⟩ := h
            obtain ⟨c9, h⟩ := h
            refine x_aald e6 dC_flash_58 k7 (by decide) c9 (n := 59) rfl ?_
            refine x_iload_n dC_flash_59 rfl (n := 60) rfl ?_
            obtain ⟨a10, e11, h⟩ := h
            obtain ⟨k12, h⟩ := h
            refine x_invV (m := m) e11 dC_flash_60 gC_flash_60 (as := [vI x2]) (st := []) rfl rfl k12 rfl rfl (Nat.le_of_ble_eq_true rfl) (n := 63) rfl rfl rfl h (xBk.I fun v14 m13 h => ?_)
            exact x_iret dC_flash_63 rfl h
          · replace h := h' c26
            refine x_aload_n dC_flash_34 rfl (n := 35) rfl ?_
            obtain ⟨k15, h⟩ := h
            refine x_getR rfl dC_flash_35 fC_17 k15 (n := 38) rfl ?_
            refine x_iload_n dC_flash_38 rfl (n := 39) rfl ?_
            obtain ⟨a16, e17, h⟩ := h
            obtain ⟨n19, k18, h⟩ := h
            obtain ⟨c20, h⟩ := h
            refine x_aald e17 dC_flash_39 k18 (by decide) c20 (n := 40) rfl ?_
            refine x_iload_n dC_flash_40 rfl (n := 41) rfl ?_
            obtain ⟨a21, e22, h⟩ := h
            obtain ⟨k23, h⟩ := h
            refine x_invV (m := m) e22 dC_flash_41 gC_flash_41 (as := [vI x2]) (st := []) rfl rfl k23 rfl rfl (Nat.le_of_ble_eq_true rfl) (n := 44) rfl rfl rfl h (xBk.I fun v25 m24 h => ?_)
            refine x_goto (tgt := 63) dC_flash_44 rfl ?_
            exact x_iret dC_flash_63 rfl h
        · replace h := h' c27
          exact x_throw0 tC_flash_20 dC_flash_20 dC_flash_23 dC_flash_24 dC_flash_27 h.1 h.2.1 h.2.2
set_option maxRecDepth 100000 in
set_option maxHeartbeats 4000000 in
theorem bC_close {l : Launch} {G : xG} {m : XM} {Q : XR → XM → Prop} {a0 : Nat} (hst : l.stackTraces = false)
    (h : kd m a0 = some (oB 4) ∧ ∃ bc2 bs3, 1 = bc2 + 1 ∧ 6 = bs3 + 6 ∧ CC l G xC_refuseWhenClosed [vR (some a0)] m (kV (fun m6 => kd m6 a0 = some (oB 4) ∧ ∀ m8, m8 = mI m6 a0 7 (0 : Int32) → Q (.inl none) m8) Q)) :
    CC l G xC_close [vR (some a0)] m Q := by
  refine x_entry (by decide +kernel) rfl hst (Nat.le_of_ble_eq_true rfl) (L0 := [some (vR (some a0))]) rfl ?_
  refine x_aload_n dC_close_0 rfl (n := 1) rfl ?_
  obtain ⟨k1, h⟩ := h
  obtain ⟨bc2, bs3, b4, b5, h⟩ := h
  refine x_invV (m := m) rfl dC_close_1 gC_close_1 (as := []) (st := []) rfl rfl k1 rfl rfl (Nat.le_of_ble_eq_true rfl) (n := 4) rfl b4 b5 h (xBk.V fun m6 h => ?_)
  refine x_aload_n dC_close_4 rfl (n := 5) rfl ?_
  refine x_iconst (v := 0) dC_close_5 (by decide) (n := 6) rfl ?_
  obtain ⟨k7, h⟩ := h
  replace h := h _ rfl
  refine x_putI rfl dC_close_6 pC_44 k7 (by decide) (by decide) (n := 9) rfl ?_
  exact x_vret dC_close_9 rfl h
set_option maxRecDepth 100000 in
set_option maxHeartbeats 4000000 in
theorem bC_crash_6 {l : Launch} {G : xG} {m : XM} {bc bs : Nat} {Q : XR → XM → Prop} {a0 : Nat} {x1 : Int32}
    (h : (((64 : Int32) ≤ x1 → kd m a0 = some (oB 4) ∧ ∃ a2, gR m a0 2 = some a2 ∧ kd m a2 = some (oB 2) ∧ CC l G xG_wipe [vR (some a2)] m (kV (fun m5 => kd m5 a0 = some (oB 4) ∧ CC l G xJ_fill [vR (gR m5 a0 3), vI (0 : Int32)] m5 (kV (fun m7 => kd m7 a0 = some (oB 4) ∧ ∀ m9, m9 = mR m7 a0 6 none → ∀ m10, m10 = mI m9 a0 7 (0 : Int32) → Q (.inl none) m10) Q)) Q)) ∧ (¬ (64 : Int32) ≤ x1 → kd m a0 = some (oB 4) ∧ ∃ a12, gR m a0 1 = some a12 ∧ ∃ n15, kd m a12 = some (aR 4 n15) ∧ vp_in x1 n15 ∧ ∃ a17, gR m a12 x1.toNatClampNeg = some a17 ∧ kd m a17 = some (oB 3) ∧ CC l G xP_wipe [vR (some a17)] m (kV (fun m20 => WW l G xC_crash 6 [some (vR (some a0)), some (vI (x1 + 1))] [] m20 bc bs Q) Q)))) :
    WW l G xC_crash 6 [some (vR (some a0)), some (vI x1)] [] m bc bs Q := by
  refine x_iload_n dC_crash_6 rfl (n := 7) rfl ?_
  refine x_bipush (v := 64) dC_crash_7 (by decide) (n := 9) rfl ?_
  obtain ⟨h, h'⟩ := h
  refine x_icmp_ge (tgt := 27) dC_crash_9 rfl (n := 12) rfl (fun c21 => ?_) (fun c21 => ?_)
  · replace h := h c21
    refine x_aload_n dC_crash_27 rfl (n := 28) rfl ?_
    obtain ⟨k1, h⟩ := h
    refine x_getR rfl dC_crash_28 fC_24 k1 (n := 31) rfl ?_
    obtain ⟨a2, e3, h⟩ := h
    obtain ⟨k4, h⟩ := h
    refine x_invV (m := m) e3 dC_crash_31 gC_crash_31 (as := []) (st := []) rfl rfl k4 rfl rfl (Nat.le_of_ble_eq_true rfl) (n := 34) rfl rfl rfl h (xBk.V fun m5 h => ?_)
    refine x_aload_n dC_crash_34 rfl (n := 35) rfl ?_
    obtain ⟨k6, h⟩ := h
    refine x_getR rfl dC_crash_35 fC_28 k6 (n := 38) rfl ?_
    refine x_iconst (v := 0) dC_crash_38 (by decide) (n := 39) rfl ?_
    refine x_invS (m := m5) dC_crash_39 gC_crash_39 (as := [vR (gR m5 a0 3), vI (0 : Int32)]) (st := []) rfl rfl (Nat.le_of_ble_eq_true rfl) (n := 42) rfl rfl rfl h (xBk.V fun m7 h => ?_)
    refine x_aload_n dC_crash_42 rfl (n := 43) rfl ?_
    refine x_null dC_crash_43 (n := 44) rfl ?_
    obtain ⟨k8, h⟩ := h
    replace h := h _ rfl
    refine x_putR rfl dC_crash_44 pC_40 k8 (fun o => by cases o <;> rfl) (fun o => by cases o <;> rfl) (n := 47) rfl ?_
    refine x_aload_n dC_crash_47 rfl (n := 48) rfl ?_
    refine x_iconst (v := 0) dC_crash_48 (by decide) (n := 49) rfl ?_
    replace h := h _ rfl
    refine x_putI rfl dC_crash_49 pC_44 k8 (by decide) (by decide) (n := 52) rfl ?_
    exact x_vret dC_crash_52 rfl h
  · replace h := h' c21
    refine x_aload_n dC_crash_12 rfl (n := 13) rfl ?_
    obtain ⟨k11, h⟩ := h
    refine x_getR rfl dC_crash_13 fC_17 k11 (n := 16) rfl ?_
    refine x_iload_n dC_crash_16 rfl (n := 17) rfl ?_
    obtain ⟨a12, e13, h⟩ := h
    obtain ⟨n15, k14, h⟩ := h
    obtain ⟨c16, h⟩ := h
    refine x_aald e13 dC_crash_17 k14 (by decide) c16 (n := 18) rfl ?_
    obtain ⟨a17, e18, h⟩ := h
    obtain ⟨k19, h⟩ := h
    refine x_invV (m := m) e18 dC_crash_18 gC_crash_18 (as := []) (st := []) rfl rfl k19 rfl rfl (Nat.le_of_ble_eq_true rfl) (n := 21) rfl rfl rfl h (xBk.V fun m20 h => ?_)
    refine x_iinc (v := x1 + 1) dC_crash_21 rfl rfl (by decide) (L' := [some (vR (some a0)), some (vI (x1 + 1))]) rfl (n := 24) rfl ?_
    refine x_goto (tgt := 6) dC_crash_24 rfl ?_
    exact h
set_option maxRecDepth 100000 in
set_option maxHeartbeats 4000000 in
theorem bC_crash {l : Launch} {G : xG} {m : XM} {Q : XR → XM → Prop} {a0 : Nat} (hst : l.stackTraces = false)
    (h : kd m a0 = some (oB 4) ∧ ∃ bc2 bs3, 1 = bc2 + 1 ∧ 6 = bs3 + 6 ∧ CC l G xC_refuseWhenClosed [vR (some a0)] m (kV (fun m6 => WW l G xC_crash 6 [some (vR (some a0)), some (vI (0 : Int32))] [] m6 bc2 bs3 Q) Q)) :
    CC l G xC_crash [vR (some a0)] m Q := by
  refine x_entry (by decide +kernel) rfl hst (Nat.le_of_ble_eq_true rfl) (L0 := [some (vR (some a0)), none]) rfl ?_
  refine x_aload_n dC_crash_0 rfl (n := 1) rfl ?_
  obtain ⟨k1, h⟩ := h
  obtain ⟨bc2, bs3, b4, b5, h⟩ := h
  refine x_invV (m := m) rfl dC_crash_1 gC_crash_1 (as := []) (st := []) rfl rfl k1 rfl rfl (Nat.le_of_ble_eq_true rfl) (n := 4) rfl b4 b5 h (xBk.V fun m6 h => ?_)
  refine x_iconst (v := 0) dC_crash_4 (by decide) (n := 5) rfl ?_
  refine x_istore_n dC_crash_5 (by decide) (L' := [some (vR (some a0)), some (vI (0 : Int32))]) rfl (n := 6) rfl ?_
  exact h
set_option maxRecDepth 100000 in
set_option maxHeartbeats 4000000 in
theorem bC_open {l : Launch} {G : xG} {m : XM} {Q : XR → XM → Prop} {a0 : Nat} (hst : l.stackTraces = false)
    (h : kd m a0 = some (oB 4) ∧ (((gI m a0 7) = 0 → ∀ m2, m2 = mI m a0 7 (1 : Int32) → ∃ a3, gR m a0 2 = some a3 ∧ kd m a3 = some (oB 2) ∧ ∃ a6, gR m a3 1 = some a6 ∧ kd m a6 = some (oB 0) ∧ Q (.inl (some (vI (gI m2 a6 2)))) m2) ∧ (¬ (gI m a0 7) = 0 → (1 ≤ 1 ∧ 6 ≤ 6 ∧ Q (.inr "java/lang/IllegalStateException") m)))) :
    CC l G xC_open [vR (some a0)] m Q := by
  refine x_entry (by decide +kernel) rfl hst (Nat.le_of_ble_eq_true rfl) (L0 := [some (vR (some a0))]) rfl ?_
  refine x_aload_n dC_open_0 rfl (n := 1) rfl ?_
  obtain ⟨k1, h⟩ := h
  refine x_getI rfl dC_open_1 fC_44 k1 (n := 4) rfl ?_
  obtain ⟨h, h'⟩ := h
  refine x_if_eq (tgt := 15) dC_open_4 rfl (n := 7) rfl (fun c9 => ?_) (fun c9 => ?_)
  · replace h := h c9
    refine x_aload_n dC_open_15 rfl (n := 16) rfl ?_
    refine x_iconst (v := 1) dC_open_16 (by decide) (n := 17) rfl ?_
    replace h := h _ rfl
    refine x_putI rfl dC_open_17 pC_44 k1 (by decide) (by decide) (n := 20) rfl ?_
    refine x_aload_n dC_open_20 rfl (n := 21) rfl ?_
    refine x_getR rfl dC_open_21 fC_24 k1 (n := 24) rfl ?_
    obtain ⟨a3, e4, h⟩ := h
    obtain ⟨k5, h⟩ := h
    refine x_getR e4 dC_open_24 fC_77 k5 (n := 27) rfl ?_
    obtain ⟨a6, e7, h⟩ := h
    obtain ⟨k8, h⟩ := h
    refine x_getI e7 dC_open_27 fC_136 k8 (n := 30) rfl ?_
    exact x_iret dC_open_30 rfl h
  · replace h := h' c9
    exact x_throw0 tC_open_7 dC_open_7 dC_open_10 dC_open_11 dC_open_14 h.1 h.2.1 h.2.2
end
section
set_option maxRecDepth 100000 in
set_option maxHeartbeats 4000000 in
theorem bG_init {l : Launch} {G : xG} {m : XM} {Q : XR → XM → Prop} {a0 : Nat} (hst : l.stackTraces = false)
    (h : ∃ bc1 bs2, 134 = bc1 + 129 ∧ 1175 = bs2 + 832 ∧ CC l G xC_newPages [vI (32 : Int32)] m (kR (fun v6 m5 => kd m5 a0 = some (oB 2) ∧ ∀ m8, m8 = mR m5 a0 0 v6 → ∃ bc9 bs10, bc1 = bc9 + 1 ∧ bs2 = bs10 + 3 ∧ ∀ a13, kd m5 a13 = none → ∀ m15, m15 = mN m8 a13 (oB 0) → ∃ bc18 bs19, bc9 = bc18 + 2 ∧ bs10 = bs19 + 328 ∧ CC l G xI_init [vR (some a13)] m15 (kN (fun m22 => kd m22 a0 = some (oB 2) ∧ ∀ m24, m24 = mR m22 a0 1 (some a13) → ∃ bc25 bs26, bc18 = bc25 + 1 ∧ bs19 = bs26 + 4 ∧ ∀ a29, kd m22 a29 = none → ∀ m31, m31 = mN m24 a29 (oB 3) → ∃ bc34 bs35, bc25 = bc34 + 1 ∧ bs26 = bs35 + 8 ∧ CC l G xP_init [vR (some a29)] m31 (kN (fun m38 => kd m38 a0 = some (oB 2) ∧ ∀ m40, m40 = mR m38 a0 2 (some a29) → ∀ m41, m41 = mI m40 a0 3 (0 : Int32) → Q (.inl none) m41))))) xNo)) :
    CC l G xG_init [vR (some a0)] m Q := by
  refine x_entry (by decide +kernel) rfl hst (Nat.le_of_ble_eq_true rfl) (L0 := [some (vR (some a0))]) rfl ?_
  refine x_aload_n dG_init_0 rfl (n := 1) rfl ?_
  refine x_objInit dG_init_1 w_93 w_58 w_59 (by decide) (by decide) (n := 4) rfl ?_
  refine x_aload_n dG_init_4 rfl (n := 5) rfl ?_
  refine x_bipush (v := 32) dG_init_5 (by decide) (n := 7) rfl ?_
  obtain ⟨bc1, bs2, b3, b4, h⟩ := h
  refine x_invSN (m := m) dG_init_7 gG_init_7 (as := [vI (32 : Int32)]) (st := [vR (some a0)]) rfl rfl (Nat.le_of_ble_eq_true rfl) (n := 10) rfl b3 b4 h kR.no (xBk.R0 fun v6 m5 h => ?_)
  obtain ⟨k7, h⟩ := h
  replace h := h _ rfl
  refine x_putR rfl dG_init_10 pG_13 k7 (fun o => by cases o <;> rfl) (fun o => by cases o <;> rfl) (n := 13) rfl ?_
  refine x_aload_n dG_init_13 rfl (n := 14) rfl ?_
  obtain ⟨bc9, bs10, b11, b12, h⟩ := h
  refine x_new dG_init_14 nG_19 (n := 17) rfl b11 b12 fun a13 f14 => ?_
  replace h := h a13 f14 _ rfl
  have k16 := kdN (k := oB 0) f14 k7
  have k17 := kdNs (mR m5 a0 0 v6) a13 (oB 0)
  refine x_dup dG_init_17 rfl (n := 18) rfl ?_
  obtain ⟨bc18, bs19, b20, b21, h⟩ := h
  refine x_invIN (m := (mN (mR m5 a0 0 v6) a13 (oB 0))) dG_init_18 gG_init_18 (as := []) (st := [vR (some a13), vR (some a0)]) rfl rfl (Nat.le_of_ble_eq_true rfl) (n := 21) rfl b20 b21 h kN.no (xBk.N fun m22 h => ?_)
  obtain ⟨k23, h⟩ := h
  replace h := h _ rfl
  refine x_putR rfl dG_init_21 pG_22 k23 (fun o => by cases o <;> rfl) (fun o => by cases o <;> rfl) (n := 24) rfl ?_
  refine x_aload_n dG_init_24 rfl (n := 25) rfl ?_
  obtain ⟨bc25, bs26, b27, b28, h⟩ := h
  refine x_new dG_init_25 nG_26 (n := 28) rfl b27 b28 fun a29 f30 => ?_
  replace h := h a29 f30 _ rfl
  have k32 := kdN (k := oB 3) f30 k23
  have k33 := kdNs (mR m22 a0 1 (some a13)) a29 (oB 3)
  refine x_dup dG_init_28 rfl (n := 29) rfl ?_
  obtain ⟨bc34, bs35, b36, b37, h⟩ := h
  refine x_invIN (m := (mN (mR m22 a0 1 (some a13)) a29 (oB 3))) dG_init_29 gG_init_29 (as := []) (st := [vR (some a29), vR (some a0)]) rfl rfl (Nat.le_of_ble_eq_true rfl) (n := 32) rfl b36 b37 h kN.no (xBk.N fun m38 h => ?_)
  obtain ⟨k39, h⟩ := h
  replace h := h _ rfl
  refine x_putR rfl dG_init_32 pG_29 k39 (fun o => by cases o <;> rfl) (fun o => by cases o <;> rfl) (n := 35) rfl ?_
  refine x_aload_n dG_init_35 rfl (n := 36) rfl ?_
  refine x_iconst (v := 0) dG_init_36 (by decide) (n := 37) rfl ?_
  replace h := h _ rfl
  refine x_putI rfl dG_init_37 pG_33 k39 rfl rfl (n := 40) rfl ?_
  exact x_vret dG_init_40 rfl h
set_option maxRecDepth 100000 in
set_option maxHeartbeats 4000000 in
theorem bG_fullSegments {l : Launch} {G : xG} {m : XM} {Q : XR → XM → Prop} {a0 : Nat} (hst : l.stackTraces = false)
    (h : kd m a0 = some (oB 2) ∧ Q (.inl (some (vI ((gI m a0 3) / (4 : Int32))))) m) :
    CC l G xG_fullSegments [vR (some a0)] m Q := by
  refine x_entry (by decide +kernel) rfl hst (Nat.le_of_ble_eq_true rfl) (L0 := [some (vR (some a0))]) rfl ?_
  refine x_aload_n dG_fullSegments_0 rfl (n := 1) rfl ?_
  obtain ⟨k1, h⟩ := h
  refine x_getI rfl dG_fullSegments_1 fG_33 k1 (n := 4) rfl ?_
  refine x_iconst (v := 4) dG_fullSegments_4 (by decide) (n := 5) rfl ?_
  refine x_idiv dG_fullSegments_5 (by decide) (n := 6) rfl ?_
  exact x_iret dG_fullSegments_6 rfl h
set_option maxRecDepth 100000 in
set_option maxHeartbeats 4000000 in
theorem bG_hasRoomFor {l : Launch} {G : xG} {m : XM} {Q : XR → XM → Prop} {a0 : Nat} {o1 : Option Nat} (hst : l.stackTraces = false)
    (h : kd m a0 = some (oB 2) ∧ ∃ a2, o1 = some a2 ∧ kd m a2 = some (oB 1) ∧ CC l G xT_words [vR (some a2)] m (kI (fun v6 m5 => ∃ a7, gR m a0 2 = some a7 ∧ kd m5 a7 = some (oB 3) ∧ CC l G xP_hasRoomFor [vR (some a7), vI v6] m5 (kI (fun v11 m10 => ((v11 = 0 ∨ v11 = 1) ∧ Q (.inl (some (vI v11))) m10)) Q)) Q)) :
    CC l G xG_hasRoomFor [vR (some a0), vR o1] m Q := by
  refine x_entry (by decide +kernel) rfl hst (Nat.le_of_ble_eq_true rfl) (L0 := [some (vR (some a0)), some (vR o1)]) rfl ?_
  refine x_aload_n dG_hasRoomFor_0 rfl (n := 1) rfl ?_
  obtain ⟨k1, h⟩ := h
  refine x_getR rfl dG_hasRoomFor_1 fG_29 k1 (n := 4) rfl ?_
  refine x_aload_n dG_hasRoomFor_4 rfl (n := 5) rfl ?_
  obtain ⟨a2, e3, h⟩ := h
  obtain ⟨k4, h⟩ := h
  refine x_invV (m := m) e3 dG_hasRoomFor_5 gG_hasRoomFor_5 (as := []) (st := [vR (gR m a0 2)]) rfl rfl k4 rfl rfl (Nat.le_of_ble_eq_true rfl) (n := 8) rfl rfl rfl h (xBk.I fun v6 m5 h => ?_)
  obtain ⟨a7, e8, h⟩ := h
  obtain ⟨k9, h⟩ := h
  refine x_invV (m := m5) e8 dG_hasRoomFor_8 gG_hasRoomFor_8 (as := [vI v6]) (st := []) rfl rfl k9 rfl rfl (Nat.le_of_ble_eq_true rfl) (n := 11) rfl rfl rfl h (xBk.I fun v11 m10 h => ?_)
  exact x_zret dG_hasRoomFor_11 rfl (nar_b h.1) h.2
set_option maxRecDepth 100000 in
set_option maxHeartbeats 4000000 in
theorem bG_isBeforeWrittenSegment {l : Launch} {G : xG} {m : XM} {Q : XR → XM → Prop} {a0 : Nat} (hst : l.stackTraces = false)
    (h : kd m a0 = some (oB 2) ∧ (((gI m a0 3) < (32 : Int32) → Q (.inl (some (vI (0 : Int32)))) m) ∧ (¬ (gI m a0 3) < (32 : Int32) → ((¬ ((gI m a0 3) - (gI m a0 3) / (4 : Int32) * (4 : Int32)) = 0 → Q (.inl (some (vI (0 : Int32)))) m) ∧ (((gI m a0 3) - (gI m a0 3) / (4 : Int32) * (4 : Int32)) = 0 → Q (.inl (some (vI (1 : Int32)))) m))))) :
    CC l G xG_isBeforeWrittenSegment [vR (some a0)] m Q := by
  refine x_entry (by decide +kernel) rfl hst (Nat.le_of_ble_eq_true rfl) (L0 := [some (vR (some a0))]) rfl ?_
  refine x_aload_n dG_isBeforeWrittenSegment_0 rfl (n := 1) rfl ?_
  obtain ⟨k1, h⟩ := h
  refine x_getI rfl dG_isBeforeWrittenSegment_1 fG_33 k1 (n := 4) rfl ?_
  refine x_bipush (v := 32) dG_isBeforeWrittenSegment_4 (by decide) (n := 6) rfl ?_
  obtain ⟨h, h'⟩ := h
  refine x_icmp_lt (tgt := 22) dG_isBeforeWrittenSegment_6 rfl (n := 9) rfl (fun c3 => ?_) (fun c3 => ?_)
  · replace h := h c3
    refine x_iconst (v := 0) dG_isBeforeWrittenSegment_22 (by decide) (n := 23) rfl ?_
    exact x_zret dG_isBeforeWrittenSegment_23 rfl (by decide) h
  · replace h := h' c3
    refine x_aload_n dG_isBeforeWrittenSegment_9 rfl (n := 10) rfl ?_
    refine x_getI rfl dG_isBeforeWrittenSegment_10 fG_33 k1 (n := 13) rfl ?_
    refine x_iconst (v := 4) dG_isBeforeWrittenSegment_13 (by decide) (n := 14) rfl ?_
    refine x_irem dG_isBeforeWrittenSegment_14 (by decide) (n := 15) rfl ?_
    obtain ⟨h, h'⟩ := h
    refine x_if_ne (tgt := 22) dG_isBeforeWrittenSegment_15 rfl (n := 18) rfl (fun c2 => ?_) (fun c2 => ?_)
    · replace h := h c2
      refine x_iconst (v := 0) dG_isBeforeWrittenSegment_22 (by decide) (n := 23) rfl ?_
      exact x_zret dG_isBeforeWrittenSegment_23 rfl (by decide) h
    · replace h := h' c2
      refine x_iconst (v := 1) dG_isBeforeWrittenSegment_18 (by decide) (n := 19) rfl ?_
      refine x_goto (tgt := 23) dG_isBeforeWrittenSegment_19 rfl ?_
      exact x_zret dG_isBeforeWrittenSegment_23 rfl (by decide) h
set_option maxRecDepth 100000 in
set_option maxHeartbeats 4000000 in
theorem bG_oldestSegmentEnd {l : Launch} {G : xG} {m : XM} {Q : XR → XM → Prop} {a0 : Nat} (hst : l.stackTraces = false)
    (h : kd m a0 = some (oB 2) ∧ Q (.inl (some (vI (((gI m a0 3) - (32 : Int32)) + (4 : Int32))))) m) :
    CC l G xG_oldestSegmentEnd [vR (some a0)] m Q := by
  refine x_entry (by decide +kernel) rfl hst (Nat.le_of_ble_eq_true rfl) (L0 := [some (vR (some a0))]) rfl ?_
  refine x_aload_n dG_oldestSegmentEnd_0 rfl (n := 1) rfl ?_
  obtain ⟨k1, h⟩ := h
  refine x_getI rfl dG_oldestSegmentEnd_1 fG_33 k1 (n := 4) rfl ?_
  refine x_bipush (v := 32) dG_oldestSegmentEnd_4 (by decide) (n := 6) rfl ?_
  refine x_isub dG_oldestSegmentEnd_6 (n := 7) rfl ?_
  refine x_iconst (v := 4) dG_oldestSegmentEnd_7 (by decide) (n := 8) rfl ?_
  refine x_iadd dG_oldestSegmentEnd_8 (n := 9) rfl ?_
  exact x_iret dG_oldestSegmentEnd_9 rfl h
set_option maxRecDepth 100000 in
set_option maxHeartbeats 4000000 in
theorem bG_writeOut {l : Launch} {G : xG} {m : XM} {Q : XR → XM → Prop} {a0 : Nat} (hst : l.stackTraces = false)
    (h : kd m a0 = some (oB 2) ∧ ∃ a2, gR m a0 0 = some a2 ∧ ∃ n5, kd m a2 = some (aR 4 n5) ∧ vp_in ((gI m a0 3) &&& (31 : Int32)) n5 ∧ vp_in ((gI m a0 3) &&& (31 : Int32)) n5 ∧ ∃ a8, gR m a0 2 = some a8 ∧ kd m a8 = some (oB 3) ∧ ∀ m11, m11 = mR m a2 ((gI m a0 3) &&& (31 : Int32)).toNatClampNeg (some a8) → ∃ a12, gR m a2 ((gI m a0 3) &&& (31 : Int32)).toNatClampNeg = some a12 ∧ kd m a12 = some (oB 3) ∧ CC l G xP_wipe [vR (some a12)] m11 (kV (fun m15 => kd m15 a0 = some (oB 2) ∧ ∀ m17, m17 = mR m15 a0 2 (gR m a2 ((gI m a0 3) &&& (31 : Int32)).toNatClampNeg) → ∀ m18, m18 = mI m17 a0 3 ((gI m15 a0 3) + (1 : Int32)) → Q (.inl none) m18) Q)) :
    CC l G xG_writeOut [vR (some a0)] m Q := by
  refine x_entry (by decide +kernel) rfl hst (Nat.le_of_ble_eq_true rfl) (L0 := [some (vR (some a0)), none, none]) rfl ?_
  refine x_aload_n dG_writeOut_0 rfl (n := 1) rfl ?_
  obtain ⟨k1, h⟩ := h
  refine x_getI rfl dG_writeOut_1 fG_33 k1 (n := 4) rfl ?_
  refine x_bipush (v := 31) dG_writeOut_4 (by decide) (n := 6) rfl ?_
  refine x_iand dG_writeOut_6 (n := 7) rfl ?_
  refine x_istore_n dG_writeOut_7 (by decide) (L' := [some (vR (some a0)), some (vI ((gI m a0 3) &&& (31 : Int32))), none]) rfl (n := 8) rfl ?_
  refine x_aload_n dG_writeOut_8 rfl (n := 9) rfl ?_
  refine x_getR rfl dG_writeOut_9 fG_13 k1 (n := 12) rfl ?_
  refine x_iload_n dG_writeOut_12 rfl (n := 13) rfl ?_
  obtain ⟨a2, e3, h⟩ := h
  obtain ⟨n5, k4, h⟩ := h
  obtain ⟨c6, h⟩ := h
  refine x_aald e3 dG_writeOut_13 k4 (by decide) c6 (n := 14) rfl ?_
  refine x_astore_n dG_writeOut_14 (by decide) (L' := [some (vR (some a0)), some (vI ((gI m a0 3) &&& (31 : Int32))), some (vR (gR m a2 ((gI m a0 3) &&& (31 : Int32)).toNatClampNeg))]) rfl (n := 15) rfl ?_
  refine x_aload_n dG_writeOut_15 rfl (n := 16) rfl ?_
  refine x_getR rfl dG_writeOut_16 fG_13 k1 (n := 19) rfl ?_
  refine x_iload_n dG_writeOut_19 rfl (n := 20) rfl ?_
  refine x_aload_n dG_writeOut_20 rfl (n := 21) rfl ?_
  refine x_getR rfl dG_writeOut_21 fG_29 k1 (n := 24) rfl ?_
  obtain ⟨c7, h⟩ := h
  obtain ⟨a8, e9, h⟩ := h
  obtain ⟨k10, h⟩ := h
  replace h := h _ rfl
  refine x_aast e3 e9 dG_writeOut_24 k4 (by decide) k10 c7 (n := 25) rfl ?_
  refine x_aload_n dG_writeOut_25 rfl (n := 26) rfl ?_
  obtain ⟨a12, e13, h⟩ := h
  obtain ⟨k14, h⟩ := h
  refine x_invV (m := (mR m a2 ((gI m a0 3) &&& (31 : Int32)).toNatClampNeg (some a8))) e13 dG_writeOut_26 gG_writeOut_26 (as := []) (st := []) rfl rfl k14 rfl rfl (Nat.le_of_ble_eq_true rfl) (n := 29) rfl rfl rfl h (xBk.V fun m15 h => ?_)
  refine x_aload_n dG_writeOut_29 rfl (n := 30) rfl ?_
  refine x_aload_n dG_writeOut_30 rfl (n := 31) rfl ?_
  obtain ⟨k16, h⟩ := h
  replace h := h _ rfl
  refine x_putR rfl dG_writeOut_31 pG_29 k16 (fun o => by cases o <;> rfl) (fun o => by cases o <;> rfl) (n := 34) rfl ?_
  refine x_aload_n dG_writeOut_34 rfl (n := 35) rfl ?_
  refine x_dup dG_writeOut_35 rfl (n := 36) rfl ?_
  refine x_getI rfl dG_writeOut_36 fG_33 k16 (n := 39) rfl ?_
  refine x_iconst (v := 1) dG_writeOut_39 (by decide) (n := 40) rfl ?_
  refine x_iadd dG_writeOut_40 (n := 41) rfl ?_
  replace h := h _ rfl
  refine x_putI rfl dG_writeOut_41 pG_33 k16 rfl rfl (n := 44) rfl ?_
  exact x_vret dG_writeOut_44 rfl h
set_option maxRecDepth 100000 in
set_option maxHeartbeats 4000000 in
theorem bG_append {l : Launch} {G : xG} {m : XM} {Q : XR → XM → Prop} {a0 : Nat} {o1 : Option Nat} (hst : l.stackTraces = false)
    (h : ∃ a1, o1 = some a1 ∧ kd m a1 = some (oB 1) ∧ ∀ m4, m4 = mI m a1 5 (0 : Int32) → kd m a0 = some (oB 2) ∧ ∀ m6, m6 = mI m4 a1 4 (gI m4 a0 3) → ∃ a7, gR m a0 2 = some a7 ∧ kd m a7 = some (oB 3) ∧ CC l G xP_add [vR (some a7), vR o1] m6 (kV (fun m10 => kd m10 a0 = some (oB 2) ∧ ∃ a12, gR m10 a0 1 = some a12 ∧ kd m10 a12 = some (oB 0) ∧ CC l G xI_add [vR (some a12), vR o1] m10 (kV (fun m15 => Q (.inl none) m15) Q)) Q)) :
    CC l G xG_append [vR (some a0), vR o1] m Q := by
  refine x_entry (by decide +kernel) rfl hst (Nat.le_of_ble_eq_true rfl) (L0 := [some (vR (some a0)), some (vR o1)]) rfl ?_
  refine x_aload_n dG_append_0 rfl (n := 1) rfl ?_
  refine x_iconst (v := 0) dG_append_1 (by decide) (n := 2) rfl ?_
  obtain ⟨a1, e2, h⟩ := h
  obtain ⟨k3, h⟩ := h
  replace h := h _ rfl
  refine x_putI e2 dG_append_2 pG_50 k3 (by decide) (by decide) (n := 5) rfl ?_
  refine x_aload_n dG_append_5 rfl (n := 6) rfl ?_
  refine x_aload_n dG_append_6 rfl (n := 7) rfl ?_
  obtain ⟨k5, h⟩ := h
  refine x_getI rfl dG_append_7 fG_33 k5 (n := 10) rfl ?_
  replace h := h _ rfl
  refine x_putI e2 dG_append_10 pG_47 k3 rfl rfl (n := 13) rfl ?_
  refine x_aload_n dG_append_13 rfl (n := 14) rfl ?_
  refine x_getR rfl dG_append_14 fG_29 k5 (n := 17) rfl ?_
  refine x_aload_n dG_append_17 rfl (n := 18) rfl ?_
  obtain ⟨a7, e8, h⟩ := h
  obtain ⟨k9, h⟩ := h
  refine x_invV (m := (mI (mI m a1 5 (0 : Int32)) a1 4 (gI (mI m a1 5 (0 : Int32)) a0 3))) e8 dG_append_18 gG_append_18 (as := [vR o1]) (st := []) rfl rfl k9 rfl rfl (Nat.le_of_ble_eq_true rfl) (n := 21) rfl rfl rfl h (xBk.V fun m10 h => ?_)
  refine x_aload_n dG_append_21 rfl (n := 22) rfl ?_
  obtain ⟨k11, h⟩ := h
  refine x_getR rfl dG_append_22 fG_22 k11 (n := 25) rfl ?_
  refine x_aload_n dG_append_25 rfl (n := 26) rfl ?_
  obtain ⟨a12, e13, h⟩ := h
  obtain ⟨k14, h⟩ := h
  refine x_invV (m := m10) e13 dG_append_26 gG_append_26 (as := [vR o1]) (st := []) rfl rfl k14 rfl rfl (Nat.le_of_ble_eq_true rfl) (n := 29) rfl rfl rfl h (xBk.V fun m15 h => ?_)
  exact x_vret dG_append_29 rfl h
set_option maxRecDepth 100000 in
set_option maxHeartbeats 4000000 in
theorem bG_hasInOpenPage {l : Launch} {G : xG} {m : XM} {Q : XR → XM → Prop} {a0 : Nat} {o1 : Option Nat} (hst : l.stackTraces = false)
    (h : ∃ a1, o1 = some a1 ∧ kd m a1 = some (oB 1) ∧ kd m a0 = some (oB 2) ∧ ((¬ (gI m a1 4) = (gI m a0 3) → Q (.inl (some (vI (0 : Int32)))) m) ∧ ((gI m a1 4) = (gI m a0 3) → Q (.inl (some (vI (1 : Int32)))) m))) :
    CC l G xG_hasInOpenPage [vR (some a0), vR o1] m Q := by
  refine x_entry (by decide +kernel) rfl hst (Nat.le_of_ble_eq_true rfl) (L0 := [some (vR (some a0)), some (vR o1)]) rfl ?_
  refine x_aload_n dG_hasInOpenPage_0 rfl (n := 1) rfl ?_
  obtain ⟨a1, e2, h⟩ := h
  obtain ⟨k3, h⟩ := h
  refine x_getI e2 dG_hasInOpenPage_1 fG_47 k3 (n := 4) rfl ?_
  refine x_aload_n dG_hasInOpenPage_4 rfl (n := 5) rfl ?_
  obtain ⟨k4, h⟩ := h
  refine x_getI rfl dG_hasInOpenPage_5 fG_33 k4 (n := 8) rfl ?_
  obtain ⟨h, h'⟩ := h
  refine x_icmp_ne (tgt := 15) dG_hasInOpenPage_8 rfl (n := 11) rfl (fun c5 => ?_) (fun c5 => ?_)
  · replace h := h c5
    refine x_iconst (v := 0) dG_hasInOpenPage_15 (by decide) (n := 16) rfl ?_
    exact x_zret dG_hasInOpenPage_16 rfl (by decide) h
  · replace h := h' c5
    refine x_iconst (v := 1) dG_hasInOpenPage_11 (by decide) (n := 12) rfl ?_
    refine x_goto (tgt := 16) dG_hasInOpenPage_12 rfl ?_
    exact x_zret dG_hasInOpenPage_16 rfl (by decide) h
set_option maxRecDepth 100000 in
set_option maxHeartbeats 4000000 in
theorem bG_wipe_2 {l : Launch} {G : xG} {m : XM} {bc bs : Nat} {Q : XR → XM → Prop} {a0 : Nat} {x1 : Int32}
    (h : (((32 : Int32) ≤ x1 → kd m a0 = some (oB 2) ∧ ∃ a2, gR m a0 2 = some a2 ∧ kd m a2 = some (oB 3) ∧ CC l G xP_wipe [vR (some a2)] m (kV (fun m5 => kd m5 a0 = some (oB 2) ∧ ∃ a7, gR m5 a0 1 = some a7 ∧ kd m5 a7 = some (oB 0) ∧ CC l G xI_wipe [vR (some a7)] m5 (kV (fun m10 => kd m10 a0 = some (oB 2) ∧ ∀ m12, m12 = mI m10 a0 3 (0 : Int32) → Q (.inl none) m12) Q)) Q)) ∧ (¬ (32 : Int32) ≤ x1 → kd m a0 = some (oB 2) ∧ ∃ a14, gR m a0 0 = some a14 ∧ ∃ n17, kd m a14 = some (aR 4 n17) ∧ vp_in x1 n17 ∧ ∃ a19, gR m a14 x1.toNatClampNeg = some a19 ∧ kd m a19 = some (oB 3) ∧ CC l G xP_wipe [vR (some a19)] m (kV (fun m22 => WW l G xG_wipe 2 [some (vR (some a0)), some (vI (x1 + 1))] [] m22 bc bs Q) Q)))) :
    WW l G xG_wipe 2 [some (vR (some a0)), some (vI x1)] [] m bc bs Q := by
  refine x_iload_n dG_wipe_2 rfl (n := 3) rfl ?_
  refine x_bipush (v := 32) dG_wipe_3 (by decide) (n := 5) rfl ?_
  obtain ⟨h, h'⟩ := h
  refine x_icmp_ge (tgt := 23) dG_wipe_5 rfl (n := 8) rfl (fun c23 => ?_) (fun c23 => ?_)
  · replace h := h c23
    refine x_aload_n dG_wipe_23 rfl (n := 24) rfl ?_
    obtain ⟨k1, h⟩ := h
    refine x_getR rfl dG_wipe_24 fG_29 k1 (n := 27) rfl ?_
    obtain ⟨a2, e3, h⟩ := h
    obtain ⟨k4, h⟩ := h
    refine x_invV (m := m) e3 dG_wipe_27 gG_wipe_27 (as := []) (st := []) rfl rfl k4 rfl rfl (Nat.le_of_ble_eq_true rfl) (n := 30) rfl rfl rfl h (xBk.V fun m5 h => ?_)
    refine x_aload_n dG_wipe_30 rfl (n := 31) rfl ?_
    obtain ⟨k6, h⟩ := h
    refine x_getR rfl dG_wipe_31 fG_22 k6 (n := 34) rfl ?_
    obtain ⟨a7, e8, h⟩ := h
    obtain ⟨k9, h⟩ := h
    refine x_invV (m := m5) e8 dG_wipe_34 gG_wipe_34 (as := []) (st := []) rfl rfl k9 rfl rfl (Nat.le_of_ble_eq_true rfl) (n := 37) rfl rfl rfl h (xBk.V fun m10 h => ?_)
    refine x_aload_n dG_wipe_37 rfl (n := 38) rfl ?_
    refine x_iconst (v := 0) dG_wipe_38 (by decide) (n := 39) rfl ?_
    obtain ⟨k11, h⟩ := h
    replace h := h _ rfl
    refine x_putI rfl dG_wipe_39 pG_33 k11 rfl rfl (n := 42) rfl ?_
    exact x_vret dG_wipe_42 rfl h
  · replace h := h' c23
    refine x_aload_n dG_wipe_8 rfl (n := 9) rfl ?_
    obtain ⟨k13, h⟩ := h
    refine x_getR rfl dG_wipe_9 fG_13 k13 (n := 12) rfl ?_
    refine x_iload_n dG_wipe_12 rfl (n := 13) rfl ?_
    obtain ⟨a14, e15, h⟩ := h
    obtain ⟨n17, k16, h⟩ := h
    obtain ⟨c18, h⟩ := h
    refine x_aald e15 dG_wipe_13 k16 (by decide) c18 (n := 14) rfl ?_
    obtain ⟨a19, e20, h⟩ := h
    obtain ⟨k21, h⟩ := h
    refine x_invV (m := m) e20 dG_wipe_14 gG_wipe_14 (as := []) (st := []) rfl rfl k21 rfl rfl (Nat.le_of_ble_eq_true rfl) (n := 17) rfl rfl rfl h (xBk.V fun m22 h => ?_)
    refine x_iinc (v := x1 + 1) dG_wipe_17 rfl rfl (by decide) (L' := [some (vR (some a0)), some (vI (x1 + 1))]) rfl (n := 20) rfl ?_
    refine x_goto (tgt := 2) dG_wipe_20 rfl ?_
    exact h
set_option maxRecDepth 100000 in
set_option maxHeartbeats 4000000 in
theorem bG_wipe {l : Launch} {G : xG} {m : XM} {Q : XR → XM → Prop} {a0 : Nat} (hst : l.stackTraces = false)
    (h : WW l G xG_wipe 2 [some (vR (some a0)), some (vI (0 : Int32))] [] m 0 0 Q) :
    CC l G xG_wipe [vR (some a0)] m Q := by
  refine x_entry (by decide +kernel) rfl hst (Nat.le_of_ble_eq_true rfl) (L0 := [some (vR (some a0)), none]) rfl ?_
  refine x_iconst (v := 0) dG_wipe_0 (by decide) (n := 1) rfl ?_
  refine x_istore_n dG_wipe_1 (by decide) (L' := [some (vR (some a0)), some (vI (0 : Int32))]) rfl (n := 2) rfl ?_
  exact h
end
section
set_option maxRecDepth 100000 in
set_option maxHeartbeats 4000000 in
theorem bI_init {l : Launch} {G : xG} {m : XM} {Q : XR → XM → Prop} {a0 : Nat} (hst : l.stackTraces = false)
    (h : ∃ bc1 bs2, 2 = bc1 + 1 ∧ 328 = bs2 + 264 ∧ ∀ a5, kd m a5 = none → ∀ m7, m7 = mN m a5 (aR 3 264) → kd m7 a0 = some (oB 0) ∧ ∀ m10, m10 = mR m7 a0 0 (some a5) → ∃ bc11 bs12, bc1 = bc11 + 1 ∧ bs2 = bs12 + 64 ∧ ∀ a15, kd m7 a15 = none → ∀ m17, m17 = mN m10 a15 (aR 0 64) → ∀ m21, m21 = mR m17 a0 1 (some a15) → ∀ m22, m22 = mI m21 a0 2 (0 : Int32) → Q (.inl none) m22) :
    CC l G xI_init [vR (some a0)] m Q := by
  refine x_entry (by decide +kernel) rfl hst (Nat.le_of_ble_eq_true rfl) (L0 := [some (vR (some a0))]) rfl ?_
  refine x_aload_n dI_init_0 rfl (n := 1) rfl ?_
  refine x_objInit dI_init_1 w_100 w_58 w_59 (by decide) (by decide) (n := 4) rfl ?_
  refine x_aload_n dI_init_4 rfl (n := 5) rfl ?_
  refine x_sipush (v := 264) dI_init_5 (by decide) (n := 8) rfl ?_
  obtain ⟨bc1, bs2, b3, b4, h⟩ := h
  refine x_anew (t := 3) (N := 264) dI_init_8 w_101 (by decide) (by decide) (by decide) (by decide) (n := 11) rfl (by decide) b3 b4 fun a5 f6 => ?_
  replace h := h a5 f6 _ rfl
  have k8 := kdNs m a5 (aR 3 264)
  obtain ⟨k9, h⟩ := h
  replace h := h _ rfl
  refine x_putR rfl dI_init_11 pI_11 k9 (fun o => by cases o <;> rfl) (fun o => by cases o <;> rfl) (n := 14) rfl ?_
  refine x_aload_n dI_init_14 rfl (n := 15) rfl ?_
  refine x_bipush (v := 64) dI_init_15 (by decide) (n := 17) rfl ?_
  obtain ⟨bc11, bs12, b13, b14, h⟩ := h
  refine x_newa (atype := .int) (t := 0) (N := 64) dI_init_17 w_87 (by decide) (by decide) (by decide) (n := 19) rfl (by decide) b13 b14 fun a15 f16 => ?_
  replace h := h a15 f16 _ rfl
  have k18 := kdN (k := aR 0 64) f16 k8
  have k19 := kdN (k := aR 0 64) f16 k9
  have k20 := kdNs (mR (mN m a5 (aR 3 264)) a0 0 (some a5)) a15 (aR 0 64)
  replace h := h _ rfl
  refine x_putR rfl dI_init_19 pI_17 k19 (fun o => by cases o <;> rfl) (fun o => by cases o <;> rfl) (n := 22) rfl ?_
  refine x_aload_n dI_init_22 rfl (n := 23) rfl ?_
  refine x_iconst (v := 0) dI_init_23 (by decide) (n := 24) rfl ?_
  replace h := h _ rfl
  refine x_putI rfl dI_init_24 pI_21 k19 rfl rfl (n := 27) rfl ?_
  exact x_vret dI_init_27 rfl h
set_option maxRecDepth 100000 in
set_option maxHeartbeats 4000000 in
theorem bI_takeGotAlone_8 {l : Launch} {G : xG} {m : XM} {bc bs : Nat} {Q : XR → XM → Prop} {a0 : Nat} {x1 : Int32} {o2 : Option Nat} {x3 : Int32} {x4 : Int32} {x5 : Int32}
    (h : kd m a0 = some (oB 0) ∧ (((gI m a0 2) ≤ x5 → CC l G xI_shrinkTo [vR (some a0), vI x3] m (kV (fun m2 => Q (.inl (some (vI x4))) m2) Q)) ∧ (¬ (gI m a0 2) ≤ x5 → ∃ a3, gR m a0 0 = some a3 ∧ ∃ n6, kd m a3 = some (aR 3 n6) ∧ vp_in x5 n6 ∧ ∃ a8, gR m a3 x5.toNatClampNeg = some a8 ∧ kd m a8 = some (oB 1) ∧ (((gI m a8 5) = 0 → vp_in x3 n6 ∧ ∀ m12, m12 = mR m a3 x3.toNatClampNeg (some a8) → WW l G xI_takeGotAlone 8 [some (vR (some a0)), some (vI x1), some (vR o2), some (vI (x3 + 1)), some (vI x4), some (vI (x5 + 1)), none] [] m12 bc bs Q) ∧ (¬ (gI m a8 5) = 0 → ((x1 ≤ (gI m a8 4) → vp_in x3 n6 ∧ ∀ m14, m14 = mR m a3 x3.toNatClampNeg (some a8) → WW l G xI_takeGotAlone 8 [some (vR (some a0)), some (vI x1), some (vR o2), some (vI (x3 + 1)), some (vI x4), some (vI (x5 + 1)), none] [] m14 bc bs Q) ∧ (¬ x1 ≤ (gI m a8 4) → ∃ a15, gR m a0 1 = some a15 ∧ ∃ n18, kd m a15 = some (aR 0 n18) ∧ vp_in (gI m a8 2) n18 ∧ ((¬ (gI m a15 (gI m a8 2).toNatClampNeg) = (1 : Int32) → vp_in x3 n6 ∧ ∀ m21, m21 = mR m a3 x3.toNatClampNeg (some a8) → WW l G xI_takeGotAlone 8 [some (vR (some a0)), some (vI x1), some (vR o2), some (vI (x3 + 1)), some (vI x4), some (vI (x5 + 1)), none] [] m21 bc bs Q) ∧ ((gI m a15 (gI m a8 2).toNatClampNeg) = (1 : Int32) → ∃ a22, o2 = some a22 ∧ ∃ n25, kd m a22 = some (aR 3 n25) ∧ vp_in x4 n25 ∧ ∀ m27, m27 = mR m a22 x4.toNatClampNeg (some a8) → ∃ a28, gR m27 a0 1 = some a28 ∧ ∃ n31, kd m a28 = some (aR 0 n31) ∧ vp_in (gI m a8 2) n31 ∧ ∀ m33, m33 = mI m27 a28 (gI m a8 2).toNatClampNeg (0 : Int32) → WW l G xI_takeGotAlone 8 [some (vR (some a0)), some (vI x1), some (vR o2), some (vI x3), some (vI (x4 + 1)), some (vI (x5 + 1)), none] [] m33 bc bs Q))))))))) :
    WW l G xI_takeGotAlone 8 [some (vR (some a0)), some (vI x1), some (vR o2), some (vI x3), some (vI x4), some (vI x5), none] [] m bc bs Q := by
  refine x_iload dI_takeGotAlone_8 rfl (n := 10) rfl ?_
  refine x_aload_n dI_takeGotAlone_10 rfl (n := 11) rfl ?_
  obtain ⟨k1, h⟩ := h
  refine x_getI rfl dI_takeGotAlone_11 fI_21 k1 (n := 14) rfl ?_
  obtain ⟨h, h'⟩ := h
  refine x_icmp_ge (tgt := 97) dI_takeGotAlone_14 rfl (n := 17) rfl (fun c37 => ?_) (fun c37 => ?_)
  · replace h := h c37
    refine x_aload_n dI_takeGotAlone_97 rfl (n := 98) rfl ?_
    refine x_iload_n dI_takeGotAlone_98 rfl (n := 99) rfl ?_
    refine x_invV (m := m) rfl dI_takeGotAlone_99 gI_takeGotAlone_99 (as := [vI x3]) (st := []) rfl rfl k1 rfl rfl (Nat.le_of_ble_eq_true rfl) (n := 102) rfl rfl rfl h (xBk.V fun m2 h => ?_)
    refine x_iload dI_takeGotAlone_102 rfl (n := 104) rfl ?_
    exact x_iret dI_takeGotAlone_104 rfl h
  · replace h := h' c37
    refine x_aload_n dI_takeGotAlone_17 rfl (n := 18) rfl ?_
    refine x_getR rfl dI_takeGotAlone_18 fI_11 k1 (n := 21) rfl ?_
    refine x_iload dI_takeGotAlone_21 rfl (n := 23) rfl ?_
    obtain ⟨a3, e4, h⟩ := h
    obtain ⟨n6, k5, h⟩ := h
    obtain ⟨c7, h⟩ := h
    refine x_aald e4 dI_takeGotAlone_23 k5 (by decide) c7 (n := 24) rfl ?_
    refine x_astore dI_takeGotAlone_24 (by decide) (L' := [some (vR (some a0)), some (vI x1), some (vR o2), some (vI x3), some (vI x4), some (vI x5), some (vR (gR m a3 x5.toNatClampNeg))]) rfl (n := 26) rfl ?_
    refine x_aload dI_takeGotAlone_26 rfl (n := 28) rfl ?_
    obtain ⟨a8, e9, h⟩ := h
    obtain ⟨k10, h⟩ := h
    refine x_getI e9 dI_takeGotAlone_28 fI_40 k10 (n := 31) rfl ?_
    obtain ⟨h, h'⟩ := h
    refine x_if_eq (tgt := 80) dI_takeGotAlone_31 rfl (n := 34) rfl (fun c36 => ?_) (fun c36 => ?_)
    · replace h := h c36
      refine x_aload_n dI_takeGotAlone_80 rfl (n := 81) rfl ?_
      refine x_getR rfl dI_takeGotAlone_81 fI_11 k1 (n := 84) rfl ?_
      refine x_iload_n dI_takeGotAlone_84 rfl (n := 85) rfl ?_
      refine x_aload dI_takeGotAlone_85 rfl (n := 87) rfl ?_
      obtain ⟨c11, h⟩ := h
      replace h := h _ rfl
      refine x_aast e4 e9 dI_takeGotAlone_87 k5 (by decide) k10 c11 (n := 88) rfl ?_
      refine x_iinc (v := x3 + 1) dI_takeGotAlone_88 rfl rfl (by decide) (L' := [some (vR (some a0)), some (vI x1), some (vR o2), some (vI (x3 + 1)), some (vI x4), some (vI x5), some (vR (gR m a3 x5.toNatClampNeg))]) rfl (n := 91) rfl ?_
      refine x_iinc (v := x5 + 1) dI_takeGotAlone_91 rfl rfl (by decide) (L' := [some (vR (some a0)), some (vI x1), some (vR o2), some (vI (x3 + 1)), some (vI x4), some (vI (x5 + 1)), some (vR (gR m a3 x5.toNatClampNeg))]) rfl (n := 94) rfl ?_
      refine x_goto (tgt := 8) dI_takeGotAlone_94 rfl ?_
      exact x_weak (b := [true, true, true, true, true, true, false]) rfl h
    · replace h := h' c36
      refine x_aload dI_takeGotAlone_34 rfl (n := 36) rfl ?_
      refine x_getI e9 dI_takeGotAlone_36 fI_44 k10 (n := 39) rfl ?_
      refine x_iload_n dI_takeGotAlone_39 rfl (n := 40) rfl ?_
      obtain ⟨h, h'⟩ := h
      refine x_icmp_ge (tgt := 80) dI_takeGotAlone_40 rfl (n := 43) rfl (fun c35 => ?_) (fun c35 => ?_)
      · replace h := h c35
        refine x_aload_n dI_takeGotAlone_80 rfl (n := 81) rfl ?_
        refine x_getR rfl dI_takeGotAlone_81 fI_11 k1 (n := 84) rfl ?_
        refine x_iload_n dI_takeGotAlone_84 rfl (n := 85) rfl ?_
        refine x_aload dI_takeGotAlone_85 rfl (n := 87) rfl ?_
        obtain ⟨c13, h⟩ := h
        replace h := h _ rfl
        refine x_aast e4 e9 dI_takeGotAlone_87 k5 (by decide) k10 c13 (n := 88) rfl ?_
        refine x_iinc (v := x3 + 1) dI_takeGotAlone_88 rfl rfl (by decide) (L' := [some (vR (some a0)), some (vI x1), some (vR o2), some (vI (x3 + 1)), some (vI x4), some (vI x5), some (vR (gR m a3 x5.toNatClampNeg))]) rfl (n := 91) rfl ?_
        refine x_iinc (v := x5 + 1) dI_takeGotAlone_91 rfl rfl (by decide) (L' := [some (vR (some a0)), some (vI x1), some (vR o2), some (vI (x3 + 1)), some (vI x4), some (vI (x5 + 1)), some (vR (gR m a3 x5.toNatClampNeg))]) rfl (n := 94) rfl ?_
        refine x_goto (tgt := 8) dI_takeGotAlone_94 rfl ?_
        exact x_weak (b := [true, true, true, true, true, true, false]) rfl h
      · replace h := h' c35
        refine x_aload_n dI_takeGotAlone_43 rfl (n := 44) rfl ?_
        refine x_getR rfl dI_takeGotAlone_44 fI_17 k1 (n := 47) rfl ?_
        refine x_aload dI_takeGotAlone_47 rfl (n := 49) rfl ?_
        refine x_getI e9 dI_takeGotAlone_49 fI_33 k10 (n := 52) rfl ?_
        obtain ⟨a15, e16, h⟩ := h
        obtain ⟨n18, k17, h⟩ := h
        obtain ⟨c19, h⟩ := h
        refine x_iald e16 dI_takeGotAlone_52 k17 c19 (n := 53) rfl ?_
        refine x_iconst (v := 1) dI_takeGotAlone_53 (by decide) (n := 54) rfl ?_
        obtain ⟨h, h'⟩ := h
        refine x_icmp_ne (tgt := 80) dI_takeGotAlone_54 rfl (n := 57) rfl (fun c34 => ?_) (fun c34 => ?_)
        · replace h := h c34
          refine x_aload_n dI_takeGotAlone_80 rfl (n := 81) rfl ?_
          refine x_getR rfl dI_takeGotAlone_81 fI_11 k1 (n := 84) rfl ?_
          refine x_iload_n dI_takeGotAlone_84 rfl (n := 85) rfl ?_
          refine x_aload dI_takeGotAlone_85 rfl (n := 87) rfl ?_
          obtain ⟨c20, h⟩ := h
          replace h := h _ rfl
          refine x_aast e4 e9 dI_takeGotAlone_87 k5 (by decide) k10 c20 (n := 88) rfl ?_
          refine x_iinc (v := x3 + 1) dI_takeGotAlone_88 rfl rfl (by decide) (L' := [some (vR (some a0)), some (vI x1), some (vR o2), some (vI (x3 + 1)), some (vI x4), some (vI x5), some (vR (gR m a3 x5.toNatClampNeg))]) rfl (n := 91) rfl ?_
          refine x_iinc (v := x5 + 1) dI_takeGotAlone_91 rfl rfl (by decide) (L' := [some (vR (some a0)), some (vI x1), some (vR o2), some (vI (x3 + 1)), some (vI x4), some (vI (x5 + 1)), some (vR (gR m a3 x5.toNatClampNeg))]) rfl (n := 94) rfl ?_
          refine x_goto (tgt := 8) dI_takeGotAlone_94 rfl ?_
          exact x_weak (b := [true, true, true, true, true, true, false]) rfl h
        · replace h := h' c34
          refine x_aload_n dI_takeGotAlone_57 rfl (n := 58) rfl ?_
          refine x_iload dI_takeGotAlone_58 rfl (n := 60) rfl ?_
          refine x_aload dI_takeGotAlone_60 rfl (n := 62) rfl ?_
          obtain ⟨a22, e23, h⟩ := h
          obtain ⟨n25, k24, h⟩ := h
          obtain ⟨c26, h⟩ := h
          replace h := h _ rfl
          refine x_aast e23 e9 dI_takeGotAlone_62 k24 (by decide) k10 c26 (n := 63) rfl ?_
          refine x_iinc (v := x4 + 1) dI_takeGotAlone_63 rfl rfl (by decide) (L' := [some (vR (some a0)), some (vI x1), some (vR o2), some (vI x3), some (vI (x4 + 1)), some (vI x5), some (vR (gR m a3 x5.toNatClampNeg))]) rfl (n := 66) rfl ?_
          refine x_aload_n dI_takeGotAlone_66 rfl (n := 67) rfl ?_
          refine x_getR rfl dI_takeGotAlone_67 fI_17 k1 (n := 70) rfl ?_
          refine x_aload dI_takeGotAlone_70 rfl (n := 72) rfl ?_
          refine x_getI e9 dI_takeGotAlone_72 fI_33 k10 (n := 75) rfl ?_
          refine x_iconst (v := 0) dI_takeGotAlone_75 (by decide) (n := 76) rfl ?_
          obtain ⟨a28, e29, h⟩ := h
          obtain ⟨n31, k30, h⟩ := h
          obtain ⟨c32, h⟩ := h
          replace h := h _ rfl
          refine x_iast e29 dI_takeGotAlone_76 k30 c32 (n := 77) rfl ?_
          refine x_goto (tgt := 91) dI_takeGotAlone_77 rfl ?_
          refine x_iinc (v := x5 + 1) dI_takeGotAlone_91 rfl rfl (by decide) (L' := [some (vR (some a0)), some (vI x1), some (vR o2), some (vI x3), some (vI (x4 + 1)), some (vI (x5 + 1)), some (vR (gR m a3 x5.toNatClampNeg))]) rfl (n := 94) rfl ?_
          refine x_goto (tgt := 8) dI_takeGotAlone_94 rfl ?_
          exact x_weak (b := [true, true, true, true, true, true, false]) rfl h
set_option maxRecDepth 100000 in
set_option maxHeartbeats 4000000 in
theorem bI_takeGotAlone {l : Launch} {G : xG} {m : XM} {Q : XR → XM → Prop} {a0 : Nat} {x1 : Int32} {o2 : Option Nat} (hst : l.stackTraces = false)
    (h : WW l G xI_takeGotAlone 8 [some (vR (some a0)), some (vI x1), some (vR o2), some (vI (0 : Int32)), some (vI (0 : Int32)), some (vI (0 : Int32)), none] [] m 0 0 Q) :
    CC l G xI_takeGotAlone [vR (some a0), vI x1, vR o2] m Q := by
  refine x_entry (by decide +kernel) rfl hst (Nat.le_of_ble_eq_true rfl) (L0 := [some (vR (some a0)), some (vI x1), some (vR o2), none, none, none, none]) rfl ?_
  refine x_iconst (v := 0) dI_takeGotAlone_0 (by decide) (n := 1) rfl ?_
  refine x_istore_n dI_takeGotAlone_1 (by decide) (L' := [some (vR (some a0)), some (vI x1), some (vR o2), some (vI (0 : Int32)), none, none, none]) rfl (n := 2) rfl ?_
  refine x_iconst (v := 0) dI_takeGotAlone_2 (by decide) (n := 3) rfl ?_
  refine x_istore dI_takeGotAlone_3 (by decide) (L' := [some (vR (some a0)), some (vI x1), some (vR o2), some (vI (0 : Int32)), some (vI (0 : Int32)), none, none]) rfl (n := 5) rfl ?_
  refine x_iconst (v := 0) dI_takeGotAlone_5 (by decide) (n := 6) rfl ?_
  refine x_istore dI_takeGotAlone_6 (by decide) (L' := [some (vR (some a0)), some (vI x1), some (vR o2), some (vI (0 : Int32)), some (vI (0 : Int32)), some (vI (0 : Int32)), none]) rfl (n := 8) rfl ?_
  exact h
set_option maxRecDepth 100000 in
set_option maxHeartbeats 4000000 in
theorem bI_shrinkTo_2 {l : Launch} {G : xG} {m : XM} {bc bs : Nat} {Q : XR → XM → Prop} {a0 : Nat} {x1 : Int32} {x2 : Int32}
    (h : kd m a0 = some (oB 0) ∧ (((gI m a0 2) ≤ x2 → ∀ m2, m2 = mI m a0 2 x1 → Q (.inl none) m2) ∧ (¬ (gI m a0 2) ≤ x2 → ∃ a3, gR m a0 0 = some a3 ∧ ∃ n6, kd m a3 = some (aR 3 n6) ∧ vp_in x2 n6 ∧ ∀ m8, m8 = mR m a3 x2.toNatClampNeg none → WW l G xI_shrinkTo 2 [some (vR (some a0)), some (vI x1), some (vI (x2 + 1))] [] m8 bc bs Q))) :
    WW l G xI_shrinkTo 2 [some (vR (some a0)), some (vI x1), some (vI x2)] [] m bc bs Q := by
  refine x_iload_n dI_shrinkTo_2 rfl (n := 3) rfl ?_
  refine x_aload_n dI_shrinkTo_3 rfl (n := 4) rfl ?_
  obtain ⟨k1, h⟩ := h
  refine x_getI rfl dI_shrinkTo_4 fI_21 k1 (n := 7) rfl ?_
  obtain ⟨h, h'⟩ := h
  refine x_icmp_ge (tgt := 23) dI_shrinkTo_7 rfl (n := 10) rfl (fun c9 => ?_) (fun c9 => ?_)
  · replace h := h c9
    refine x_aload_n dI_shrinkTo_23 rfl (n := 24) rfl ?_
    refine x_iload_n dI_shrinkTo_24 rfl (n := 25) rfl ?_
    replace h := h _ rfl
    refine x_putI rfl dI_shrinkTo_25 pI_21 k1 rfl rfl (n := 28) rfl ?_
    exact x_vret dI_shrinkTo_28 rfl h
  · replace h := h' c9
    refine x_aload_n dI_shrinkTo_10 rfl (n := 11) rfl ?_
    refine x_getR rfl dI_shrinkTo_11 fI_11 k1 (n := 14) rfl ?_
    refine x_iload_n dI_shrinkTo_14 rfl (n := 15) rfl ?_
    refine x_null dI_shrinkTo_15 (n := 16) rfl ?_
    obtain ⟨a3, e4, h⟩ := h
    obtain ⟨n6, k5, h⟩ := h
    obtain ⟨c7, h⟩ := h
    replace h := h _ rfl
    refine x_aastN e4 dI_shrinkTo_16 k5 (by decide) c7 (n := 17) rfl ?_
    refine x_iinc (v := x2 + 1) dI_shrinkTo_17 rfl rfl (by decide) (L' := [some (vR (some a0)), some (vI x1), some (vI (x2 + 1))]) rfl (n := 20) rfl ?_
    refine x_goto (tgt := 2) dI_shrinkTo_20 rfl ?_
    exact h
set_option maxRecDepth 100000 in
set_option maxHeartbeats 4000000 in
theorem bI_shrinkTo {l : Launch} {G : xG} {m : XM} {Q : XR → XM → Prop} {a0 : Nat} {x1 : Int32} (hst : l.stackTraces = false)
    (h : WW l G xI_shrinkTo 2 [some (vR (some a0)), some (vI x1), some (vI x1)] [] m 0 0 Q) :
    CC l G xI_shrinkTo [vR (some a0), vI x1] m Q := by
  refine x_entry (by decide +kernel) rfl hst (Nat.le_of_ble_eq_true rfl) (L0 := [some (vR (some a0)), some (vI x1), none]) rfl ?_
  refine x_iload_n dI_shrinkTo_0 rfl (n := 1) rfl ?_
  refine x_istore_n dI_shrinkTo_1 (by decide) (L' := [some (vR (some a0)), some (vI x1), some (vI x1)]) rfl (n := 2) rfl ?_
  exact h
set_option maxRecDepth 100000 in
set_option maxHeartbeats 4000000 in
theorem bI_setsBefore_5 {l : Launch} {G : xG} {m : XM} {bc bs : Nat} {Q : XR → XM → Prop} {a0 : Nat} {x1 : Int32} {x2 : Int64} {x4 : Int32}
    (h : kd m a0 = some (oB 0) ∧ (((gI m a0 2) ≤ x4 → Q (.inl (some (vL x2))) m) ∧ (¬ (gI m a0 2) ≤ x4 → ∃ a2, gR m a0 0 = some a2 ∧ ∃ n5, kd m a2 = some (aR 3 n5) ∧ vp_in x4 n5 ∧ ∃ a7, gR m a2 x4.toNatClampNeg = some a7 ∧ kd m a7 = some (oB 1) ∧ ((x1 ≤ (gI m a7 4) → WW l G xI_setsBefore 5 [some (vR (some a0)), some (vI x1), some (vL x2), none, some (vI (x4 + 1))] [] m bc bs Q) ∧ (¬ x1 ≤ (gI m a7 4) → vp_in x4 n5 ∧ WW l G xI_setsBefore 5 [some (vR (some a0)), some (vI x1), some (vL (x2 ||| (jshl (1 : Int64) (gI m a7 2)))), none, some (vI (x4 + 1))] [] m bc bs Q))))) :
    WW l G xI_setsBefore 5 [some (vR (some a0)), some (vI x1), some (vL x2), none, some (vI x4)] [] m bc bs Q := by
  refine x_iload dI_setsBefore_5 rfl (n := 7) rfl ?_
  refine x_aload_n dI_setsBefore_7 rfl (n := 8) rfl ?_
  obtain ⟨k1, h⟩ := h
  refine x_getI rfl dI_setsBefore_8 fI_21 k1 (n := 11) rfl ?_
  obtain ⟨h, h'⟩ := h
  refine x_icmp_ge (tgt := 49) dI_setsBefore_11 rfl (n := 14) rfl (fun c12 => ?_) (fun c12 => ?_)
  · replace h := h c12
    refine x_lload_n dI_setsBefore_49 rfl (n := 50) rfl ?_
    exact x_lret dI_setsBefore_50 rfl h
  · replace h := h' c12
    refine x_aload_n dI_setsBefore_14 rfl (n := 15) rfl ?_
    refine x_getR rfl dI_setsBefore_15 fI_11 k1 (n := 18) rfl ?_
    refine x_iload dI_setsBefore_18 rfl (n := 20) rfl ?_
    obtain ⟨a2, e3, h⟩ := h
    obtain ⟨n5, k4, h⟩ := h
    obtain ⟨c6, h⟩ := h
    refine x_aald e3 dI_setsBefore_20 k4 (by decide) c6 (n := 21) rfl ?_
    obtain ⟨a7, e8, h⟩ := h
    obtain ⟨k9, h⟩ := h
    refine x_getI e8 dI_setsBefore_21 fI_44 k9 (n := 24) rfl ?_
    refine x_iload_n dI_setsBefore_24 rfl (n := 25) rfl ?_
    obtain ⟨h, h'⟩ := h
    refine x_icmp_ge (tgt := 43) dI_setsBefore_25 rfl (n := 28) rfl (fun c11 => ?_) (fun c11 => ?_)
    · replace h := h c11
      refine x_iinc (v := x4 + 1) dI_setsBefore_43 rfl rfl (by decide) (L' := [some (vR (some a0)), some (vI x1), some (vL x2), none, some (vI (x4 + 1))]) rfl (n := 46) rfl ?_
      refine x_goto (tgt := 5) dI_setsBefore_46 rfl ?_
      exact h
    · replace h := h' c11
      refine x_lload_n dI_setsBefore_28 rfl (n := 29) rfl ?_
      refine x_lconst (v := 1) dI_setsBefore_29 (by decide) (n := 30) rfl ?_
      refine x_aload_n dI_setsBefore_30 rfl (n := 31) rfl ?_
      refine x_getR rfl dI_setsBefore_31 fI_11 k1 (n := 34) rfl ?_
      refine x_iload dI_setsBefore_34 rfl (n := 36) rfl ?_
      obtain ⟨c10, h⟩ := h
      refine x_aald e3 dI_setsBefore_36 k4 (by decide) c10 (n := 37) rfl ?_
      refine x_getI e8 dI_setsBefore_37 fI_33 k9 (n := 40) rfl ?_
      refine x_lshl dI_setsBefore_40 (n := 41) rfl ?_
      refine x_lor dI_setsBefore_41 (n := 42) rfl ?_
      refine x_lstore_n dI_setsBefore_42 (by decide) (L' := [some (vR (some a0)), some (vI x1), some (vL (x2 ||| (jshl (1 : Int64) (gI m a7 2)))), none, some (vI x4)]) rfl (n := 43) rfl ?_
      refine x_iinc (v := x4 + 1) dI_setsBefore_43 rfl rfl (by decide) (L' := [some (vR (some a0)), some (vI x1), some (vL (x2 ||| (jshl (1 : Int64) (gI m a7 2)))), none, some (vI (x4 + 1))]) rfl (n := 46) rfl ?_
      refine x_goto (tgt := 5) dI_setsBefore_46 rfl ?_
      exact h
set_option maxRecDepth 100000 in
set_option maxHeartbeats 4000000 in
theorem bI_setsBefore {l : Launch} {G : xG} {m : XM} {Q : XR → XM → Prop} {a0 : Nat} {x1 : Int32} (hst : l.stackTraces = false)
    (h : WW l G xI_setsBefore 5 [some (vR (some a0)), some (vI x1), some (vL (0 : Int64)), none, some (vI (0 : Int32))] [] m 0 0 Q) :
    CC l G xI_setsBefore [vR (some a0), vI x1] m Q := by
  refine x_entry (by decide +kernel) rfl hst (Nat.le_of_ble_eq_true rfl) (L0 := [some (vR (some a0)), some (vI x1), none, none, none]) rfl ?_
  refine x_lconst (v := 0) dI_setsBefore_0 (by decide) (n := 1) rfl ?_
  refine x_lstore_n dI_setsBefore_1 (by decide) (L' := [some (vR (some a0)), some (vI x1), some (vL (0 : Int64)), none, none]) rfl (n := 2) rfl ?_
  refine x_iconst (v := 0) dI_setsBefore_2 (by decide) (n := 3) rfl ?_
  refine x_istore dI_setsBefore_3 (by decide) (L' := [some (vR (some a0)), some (vI x1), some (vL (0 : Int64)), none, some (vI (0 : Int32))]) rfl (n := 5) rfl ?_
  exact h
set_option maxRecDepth 100000 in
set_option maxHeartbeats 4000000 in
theorem bI_takeSet_8 {l : Launch} {G : xG} {m : XM} {bc bs : Nat} {Q : XR → XM → Prop} {a0 : Nat} {x1 : Int32} {o2 : Option Nat} {x3 : Int32} {x4 : Int32} {x5 : Int32}
    (h : kd m a0 = some (oB 0) ∧ (((gI m a0 2) ≤ x5 → ∃ a2, gR m a0 1 = some a2 ∧ ∃ n5, kd m a2 = some (aR 0 n5) ∧ vp_in x1 n5 ∧ ∀ m7, m7 = mI m a2 x1.toNatClampNeg (0 : Int32) → CC l G xI_shrinkTo [vR (some a0), vI x3] m7 (kV (fun m8 => Q (.inl (some (vI x4))) m8) Q)) ∧ (¬ (gI m a0 2) ≤ x5 → ∃ a9, gR m a0 0 = some a9 ∧ ∃ n12, kd m a9 = some (aR 3 n12) ∧ vp_in x5 n12 ∧ ∃ a14, gR m a9 x5.toNatClampNeg = some a14 ∧ kd m a14 = some (oB 1) ∧ ((¬ (gI m a14 2) = x1 → vp_in x3 n12 ∧ ∀ m18, m18 = mR m a9 x3.toNatClampNeg (some a14) → WW l G xI_takeSet 8 [some (vR (some a0)), some (vI x1), some (vR o2), some (vI (x3 + 1)), some (vI x4), some (vI (x5 + 1)), none] [] m18 bc bs Q) ∧ ((gI m a14 2) = x1 → ∃ a19, o2 = some a19 ∧ ∃ n22, kd m a19 = some (aR 3 n22) ∧ vp_in x4 n22 ∧ ∀ m24, m24 = mR m a19 x4.toNatClampNeg (some a14) → WW l G xI_takeSet 8 [some (vR (some a0)), some (vI x1), some (vR o2), some (vI x3), some (vI (x4 + 1)), some (vI (x5 + 1)), none] [] m24 bc bs Q))))) :
    WW l G xI_takeSet 8 [some (vR (some a0)), some (vI x1), some (vR o2), some (vI x3), some (vI x4), some (vI x5), none] [] m bc bs Q := by
  refine x_iload dI_takeSet_8 rfl (n := 10) rfl ?_
  refine x_aload_n dI_takeSet_10 rfl (n := 11) rfl ?_
  obtain ⟨k1, h⟩ := h
  refine x_getI rfl dI_takeSet_11 fI_21 k1 (n := 14) rfl ?_
  obtain ⟨h, h'⟩ := h
  refine x_icmp_ge (tgt := 64) dI_takeSet_14 rfl (n := 17) rfl (fun c26 => ?_) (fun c26 => ?_)
  · replace h := h c26
    refine x_aload_n dI_takeSet_64 rfl (n := 65) rfl ?_
    refine x_getR rfl dI_takeSet_65 fI_17 k1 (n := 68) rfl ?_
    refine x_iload_n dI_takeSet_68 rfl (n := 69) rfl ?_
    refine x_iconst (v := 0) dI_takeSet_69 (by decide) (n := 70) rfl ?_
    obtain ⟨a2, e3, h⟩ := h
    obtain ⟨n5, k4, h⟩ := h
    obtain ⟨c6, h⟩ := h
    replace h := h _ rfl
    refine x_iast e3 dI_takeSet_70 k4 c6 (n := 71) rfl ?_
    refine x_aload_n dI_takeSet_71 rfl (n := 72) rfl ?_
    refine x_iload_n dI_takeSet_72 rfl (n := 73) rfl ?_
    refine x_invV (m := (mI m a2 x1.toNatClampNeg (0 : Int32))) rfl dI_takeSet_73 gI_takeSet_73 (as := [vI x3]) (st := []) rfl rfl k1 rfl rfl (Nat.le_of_ble_eq_true rfl) (n := 76) rfl rfl rfl h (xBk.V fun m8 h => ?_)
    refine x_iload dI_takeSet_76 rfl (n := 78) rfl ?_
    exact x_iret dI_takeSet_78 rfl h
  · replace h := h' c26
    refine x_aload_n dI_takeSet_17 rfl (n := 18) rfl ?_
    refine x_getR rfl dI_takeSet_18 fI_11 k1 (n := 21) rfl ?_
    refine x_iload dI_takeSet_21 rfl (n := 23) rfl ?_
    obtain ⟨a9, e10, h⟩ := h
    obtain ⟨n12, k11, h⟩ := h
    obtain ⟨c13, h⟩ := h
    refine x_aald e10 dI_takeSet_23 k11 (by decide) c13 (n := 24) rfl ?_
    refine x_astore dI_takeSet_24 (by decide) (L' := [some (vR (some a0)), some (vI x1), some (vR o2), some (vI x3), some (vI x4), some (vI x5), some (vR (gR m a9 x5.toNatClampNeg))]) rfl (n := 26) rfl ?_
    refine x_aload dI_takeSet_26 rfl (n := 28) rfl ?_
    obtain ⟨a14, e15, h⟩ := h
    obtain ⟨k16, h⟩ := h
    refine x_getI e15 dI_takeSet_28 fI_33 k16 (n := 31) rfl ?_
    refine x_iload_n dI_takeSet_31 rfl (n := 32) rfl ?_
    obtain ⟨h, h'⟩ := h
    refine x_icmp_ne (tgt := 47) dI_takeSet_32 rfl (n := 35) rfl (fun c25 => ?_) (fun c25 => ?_)
    · replace h := h c25
      refine x_aload_n dI_takeSet_47 rfl (n := 48) rfl ?_
      refine x_getR rfl dI_takeSet_48 fI_11 k1 (n := 51) rfl ?_
      refine x_iload_n dI_takeSet_51 rfl (n := 52) rfl ?_
      refine x_aload dI_takeSet_52 rfl (n := 54) rfl ?_
      obtain ⟨c17, h⟩ := h
      replace h := h _ rfl
      refine x_aast e10 e15 dI_takeSet_54 k11 (by decide) k16 c17 (n := 55) rfl ?_
      refine x_iinc (v := x3 + 1) dI_takeSet_55 rfl rfl (by decide) (L' := [some (vR (some a0)), some (vI x1), some (vR o2), some (vI (x3 + 1)), some (vI x4), some (vI x5), some (vR (gR m a9 x5.toNatClampNeg))]) rfl (n := 58) rfl ?_
      refine x_iinc (v := x5 + 1) dI_takeSet_58 rfl rfl (by decide) (L' := [some (vR (some a0)), some (vI x1), some (vR o2), some (vI (x3 + 1)), some (vI x4), some (vI (x5 + 1)), some (vR (gR m a9 x5.toNatClampNeg))]) rfl (n := 61) rfl ?_
      refine x_goto (tgt := 8) dI_takeSet_61 rfl ?_
      exact x_weak (b := [true, true, true, true, true, true, false]) rfl h
    · replace h := h' c25
      refine x_aload_n dI_takeSet_35 rfl (n := 36) rfl ?_
      refine x_iload dI_takeSet_36 rfl (n := 38) rfl ?_
      refine x_aload dI_takeSet_38 rfl (n := 40) rfl ?_
      obtain ⟨a19, e20, h⟩ := h
      obtain ⟨n22, k21, h⟩ := h
      obtain ⟨c23, h⟩ := h
      replace h := h _ rfl
      refine x_aast e20 e15 dI_takeSet_40 k21 (by decide) k16 c23 (n := 41) rfl ?_
      refine x_iinc (v := x4 + 1) dI_takeSet_41 rfl rfl (by decide) (L' := [some (vR (some a0)), some (vI x1), some (vR o2), some (vI x3), some (vI (x4 + 1)), some (vI x5), some (vR (gR m a9 x5.toNatClampNeg))]) rfl (n := 44) rfl ?_
      refine x_goto (tgt := 58) dI_takeSet_44 rfl ?_
      refine x_iinc (v := x5 + 1) dI_takeSet_58 rfl rfl (by decide) (L' := [some (vR (some a0)), some (vI x1), some (vR o2), some (vI x3), some (vI (x4 + 1)), some (vI (x5 + 1)), some (vR (gR m a9 x5.toNatClampNeg))]) rfl (n := 61) rfl ?_
      refine x_goto (tgt := 8) dI_takeSet_61 rfl ?_
      exact x_weak (b := [true, true, true, true, true, true, false]) rfl h
set_option maxRecDepth 100000 in
set_option maxHeartbeats 4000000 in
theorem bI_takeSet {l : Launch} {G : xG} {m : XM} {Q : XR → XM → Prop} {a0 : Nat} {x1 : Int32} {o2 : Option Nat} (hst : l.stackTraces = false)
    (h : WW l G xI_takeSet 8 [some (vR (some a0)), some (vI x1), some (vR o2), some (vI (0 : Int32)), some (vI (0 : Int32)), some (vI (0 : Int32)), none] [] m 0 0 Q) :
    CC l G xI_takeSet [vR (some a0), vI x1, vR o2] m Q := by
  refine x_entry (by decide +kernel) rfl hst (Nat.le_of_ble_eq_true rfl) (L0 := [some (vR (some a0)), some (vI x1), some (vR o2), none, none, none, none]) rfl ?_
  refine x_iconst (v := 0) dI_takeSet_0 (by decide) (n := 1) rfl ?_
  refine x_istore_n dI_takeSet_1 (by decide) (L' := [some (vR (some a0)), some (vI x1), some (vR o2), some (vI (0 : Int32)), none, none, none]) rfl (n := 2) rfl ?_
  refine x_iconst (v := 0) dI_takeSet_2 (by decide) (n := 3) rfl ?_
  refine x_istore dI_takeSet_3 (by decide) (L' := [some (vR (some a0)), some (vI x1), some (vR o2), some (vI (0 : Int32)), some (vI (0 : Int32)), none, none]) rfl (n := 5) rfl ?_
  refine x_iconst (v := 0) dI_takeSet_5 (by decide) (n := 6) rfl ?_
  refine x_istore dI_takeSet_6 (by decide) (L' := [some (vR (some a0)), some (vI x1), some (vR o2), some (vI (0 : Int32)), some (vI (0 : Int32)), some (vI (0 : Int32)), none]) rfl (n := 8) rfl ?_
  exact h
set_option maxRecDepth 100000 in
set_option maxHeartbeats 4000000 in
theorem bI_add {l : Launch} {G : xG} {m : XM} {Q : XR → XM → Prop} {a0 : Nat} {o1 : Option Nat} (hst : l.stackTraces = false)
    (h : ∃ a1, o1 = some a1 ∧ kd m a1 = some (oB 1) ∧ kd m a0 = some (oB 0) ∧ CC l G xI_remove [vR (some a0), vL (gL m a1 0)] m (kI (fun v6 m5 => kd m5 a0 = some (oB 0) ∧ ∃ a8, gR m5 a0 0 = some a8 ∧ ∃ n11, kd m5 a8 = some (aR 3 n11) ∧ vp_in (gI m5 a0 2) n11 ∧ kd m5 a1 = some (oB 1) ∧ ∀ m14, m14 = mR m5 a8 (gI m5 a0 2).toNatClampNeg (some a1) → ∀ m15, m15 = mI m14 a0 2 ((gI m5 a0 2) + (1 : Int32)) → ∃ a16, gR m14 a0 1 = some a16 ∧ ∃ n19, kd m5 a16 = some (aR 0 n19) ∧ vp_in (gI m15 a1 2) n19 ∧ vp_in (gI m15 a1 2) n19 ∧ ∀ m22, m22 = mI m15 a16 (gI m15 a1 2).toNatClampNeg ((gI m15 a16 (gI m15 a1 2).toNatClampNeg) + (1 : Int32)) → Q (.inl none) m22) Q)) :
    CC l G xI_add [vR (some a0), vR o1] m Q := by
  refine x_entry (by decide +kernel) rfl hst (Nat.le_of_ble_eq_true rfl) (L0 := [some (vR (some a0)), some (vR o1)]) rfl ?_
  refine x_aload_n dI_add_0 rfl (n := 1) rfl ?_
  refine x_aload_n dI_add_1 rfl (n := 2) rfl ?_
  obtain ⟨a1, e2, h⟩ := h
  obtain ⟨k3, h⟩ := h
  refine x_getL e2 dI_add_2 fI_25 k3 (n := 5) rfl ?_
  obtain ⟨k4, h⟩ := h
  refine x_invV (m := m) rfl dI_add_5 gI_add_5 (as := [vL (gL m a1 0)]) (st := []) rfl rfl k4 rfl rfl (Nat.le_of_ble_eq_true rfl) (n := 8) rfl rfl rfl h (xBk.I fun v6 m5 h => ?_)
  refine x_pop dI_add_8 rfl (n := 9) rfl ?_
  refine x_aload_n dI_add_9 rfl (n := 10) rfl ?_
  obtain ⟨k7, h⟩ := h
  refine x_getR rfl dI_add_10 fI_11 k7 (n := 13) rfl ?_
  refine x_aload_n dI_add_13 rfl (n := 14) rfl ?_
  refine x_getI rfl dI_add_14 fI_21 k7 (n := 17) rfl ?_
  refine x_aload_n dI_add_17 rfl (n := 18) rfl ?_
  obtain ⟨a8, e9, h⟩ := h
  obtain ⟨n11, k10, h⟩ := h
  obtain ⟨c12, h⟩ := h
  obtain ⟨k13, h⟩ := h
  replace h := h _ rfl
  refine x_aast e9 e2 dI_add_18 k10 (by decide) k13 c12 (n := 19) rfl ?_
  refine x_aload_n dI_add_19 rfl (n := 20) rfl ?_
  refine x_dup dI_add_20 rfl (n := 21) rfl ?_
  refine x_getI rfl dI_add_21 fI_21 k7 (n := 24) rfl ?_
  refine x_iconst (v := 1) dI_add_24 (by decide) (n := 25) rfl ?_
  refine x_iadd dI_add_25 (n := 26) rfl ?_
  replace h := h _ rfl
  refine x_putI rfl dI_add_26 pI_21 k7 rfl rfl (n := 29) rfl ?_
  refine x_aload_n dI_add_29 rfl (n := 30) rfl ?_
  refine x_getR rfl dI_add_30 fI_17 k7 (n := 33) rfl ?_
  refine x_aload_n dI_add_33 rfl (n := 34) rfl ?_
  refine x_getI e2 dI_add_34 fI_33 k13 (n := 37) rfl ?_
  refine x_dup2 dI_add_37 rfl rfl (n := 38) rfl ?_
  obtain ⟨a16, e17, h⟩ := h
  obtain ⟨n19, k18, h⟩ := h
  obtain ⟨c20, h⟩ := h
  refine x_iald e17 dI_add_38 k18 c20 (n := 39) rfl ?_
  refine x_iconst (v := 1) dI_add_39 (by decide) (n := 40) rfl ?_
  refine x_iadd dI_add_40 (n := 41) rfl ?_
  obtain ⟨c21, h⟩ := h
  replace h := h _ rfl
  refine x_iast e17 dI_add_41 k18 c21 (n := 42) rfl ?_
  exact x_vret dI_add_42 rfl h
set_option maxRecDepth 100000 in
set_option maxHeartbeats 4000000 in
theorem bI_remove_11 {l : Launch} {G : xG} {m : XM} {bc bs : Nat} {Q : XR → XM → Prop} {a0 : Nat} {x1 : Int64} {x3 : Int32} {x4 : Int32} {x5 : Int32}
    (h : ((x4 ≤ x5 → kd m a0 = some (oB 0) ∧ CC l G xI_shrinkTo [vR (some a0), vI x3] m (kV (fun m2 => ((x4 ≤ x3 → Q (.inl (some (vI (0 : Int32)))) m2) ∧ (¬ x4 ≤ x3 → Q (.inl (some (vI (1 : Int32)))) m2))) Q)) ∧ (¬ x4 ≤ x5 → kd m a0 = some (oB 0) ∧ ∃ a5, gR m a0 0 = some a5 ∧ ∃ n8, kd m a5 = some (aR 3 n8) ∧ vp_in x5 n8 ∧ ∃ a10, gR m a5 x5.toNatClampNeg = some a10 ∧ kd m a10 = some (oB 1) ∧ ((¬ (lg_cmp (gL m a10 0) x1) = 0 → vp_in x5 n8 ∧ vp_in x3 n8 ∧ ∀ m15, m15 = mR m a5 x3.toNatClampNeg (some a10) → WW l G xI_remove 11 [some (vR (some a0)), some (vL x1), none, some (vI (x3 + 1)), some (vI x4), some (vI (x5 + 1))] [] m15 bc bs Q) ∧ ((lg_cmp (gL m a10 0) x1) = 0 → vp_in x5 n8 ∧ ∃ a17, gR m a0 1 = some a17 ∧ ∃ n20, kd m a17 = some (aR 0 n20) ∧ vp_in (gI m a10 2) n20 ∧ vp_in (gI m a10 2) n20 ∧ ∀ m23, m23 = mI m a17 (gI m a10 2).toNatClampNeg ((gI m a17 (gI m a10 2).toNatClampNeg) - (1 : Int32)) → WW l G xI_remove 11 [some (vR (some a0)), some (vL x1), none, some (vI x3), some (vI x4), some (vI (x5 + 1))] [] m23 bc bs Q))))) :
    WW l G xI_remove 11 [some (vR (some a0)), some (vL x1), none, some (vI x3), some (vI x4), some (vI x5)] [] m bc bs Q := by
  refine x_iload dI_remove_11 rfl (n := 13) rfl ?_
  refine x_iload dI_remove_13 rfl (n := 15) rfl ?_
  obtain ⟨h, h'⟩ := h
  refine x_icmp_ge (tgt := 77) dI_remove_15 rfl (n := 18) rfl (fun c25 => ?_) (fun c25 => ?_)
  · replace h := h c25
    refine x_aload_n dI_remove_77 rfl (n := 78) rfl ?_
    refine x_iload_n dI_remove_78 rfl (n := 79) rfl ?_
    obtain ⟨k1, h⟩ := h
    refine x_invV (m := m) rfl dI_remove_79 gI_remove_79 (as := [vI x3]) (st := []) rfl rfl k1 rfl rfl (Nat.le_of_ble_eq_true rfl) (n := 82) rfl rfl rfl h (xBk.V fun m2 h => ?_)
    refine x_iload_n dI_remove_82 rfl (n := 83) rfl ?_
    refine x_iload dI_remove_83 rfl (n := 85) rfl ?_
    obtain ⟨h, h'⟩ := h
    refine x_icmp_ge (tgt := 92) dI_remove_85 rfl (n := 88) rfl (fun c3 => ?_) (fun c3 => ?_)
    · replace h := h c3
      refine x_iconst (v := 0) dI_remove_92 (by decide) (n := 93) rfl ?_
      exact x_zret dI_remove_93 rfl (by decide) h
    · replace h := h' c3
      refine x_iconst (v := 1) dI_remove_88 (by decide) (n := 89) rfl ?_
      refine x_goto (tgt := 93) dI_remove_89 rfl ?_
      exact x_zret dI_remove_93 rfl (by decide) h
  · replace h := h' c25
    refine x_aload_n dI_remove_18 rfl (n := 19) rfl ?_
    obtain ⟨k4, h⟩ := h
    refine x_getR rfl dI_remove_19 fI_11 k4 (n := 22) rfl ?_
    refine x_iload dI_remove_22 rfl (n := 24) rfl ?_
    obtain ⟨a5, e6, h⟩ := h
    obtain ⟨n8, k7, h⟩ := h
    obtain ⟨c9, h⟩ := h
    refine x_aald e6 dI_remove_24 k7 (by decide) c9 (n := 25) rfl ?_
    obtain ⟨a10, e11, h⟩ := h
    obtain ⟨k12, h⟩ := h
    refine x_getL e11 dI_remove_25 fI_25 k12 (n := 28) rfl ?_
    refine x_lload_n dI_remove_28 rfl (n := 29) rfl ?_
    refine x_lcmp dI_remove_29 (n := 30) rfl ?_
    obtain ⟨h, h'⟩ := h
    refine x_if_ne (tgt := 55) dI_remove_30 rfl (n := 33) rfl (fun c24 => ?_) (fun c24 => ?_)
    · replace h := h c24
      refine x_aload_n dI_remove_55 rfl (n := 56) rfl ?_
      refine x_getR rfl dI_remove_56 fI_11 k4 (n := 59) rfl ?_
      refine x_iload_n dI_remove_59 rfl (n := 60) rfl ?_
      refine x_aload_n dI_remove_60 rfl (n := 61) rfl ?_
      refine x_getR rfl dI_remove_61 fI_11 k4 (n := 64) rfl ?_
      refine x_iload dI_remove_64 rfl (n := 66) rfl ?_
      obtain ⟨c13, h⟩ := h
      refine x_aald e6 dI_remove_66 k7 (by decide) c13 (n := 67) rfl ?_
      obtain ⟨c14, h⟩ := h
      replace h := h _ rfl
      refine x_aast e6 e11 dI_remove_67 k7 (by decide) k12 c14 (n := 68) rfl ?_
      refine x_iinc (v := x3 + 1) dI_remove_68 rfl rfl (by decide) (L' := [some (vR (some a0)), some (vL x1), none, some (vI (x3 + 1)), some (vI x4), some (vI x5)]) rfl (n := 71) rfl ?_
      refine x_iinc (v := x5 + 1) dI_remove_71 rfl rfl (by decide) (L' := [some (vR (some a0)), some (vL x1), none, some (vI (x3 + 1)), some (vI x4), some (vI (x5 + 1))]) rfl (n := 74) rfl ?_
      refine x_goto (tgt := 11) dI_remove_74 rfl ?_
      exact h
    · replace h := h' c24
      refine x_aload_n dI_remove_33 rfl (n := 34) rfl ?_
      refine x_getR rfl dI_remove_34 fI_17 k4 (n := 37) rfl ?_
      refine x_aload_n dI_remove_37 rfl (n := 38) rfl ?_
      refine x_getR rfl dI_remove_38 fI_11 k4 (n := 41) rfl ?_
      refine x_iload dI_remove_41 rfl (n := 43) rfl ?_
      obtain ⟨c16, h⟩ := h
      refine x_aald e6 dI_remove_43 k7 (by decide) c16 (n := 44) rfl ?_
      refine x_getI e11 dI_remove_44 fI_33 k12 (n := 47) rfl ?_
      refine x_dup2 dI_remove_47 rfl rfl (n := 48) rfl ?_
      obtain ⟨a17, e18, h⟩ := h
      obtain ⟨n20, k19, h⟩ := h
      obtain ⟨c21, h⟩ := h
      refine x_iald e18 dI_remove_48 k19 c21 (n := 49) rfl ?_
      refine x_iconst (v := 1) dI_remove_49 (by decide) (n := 50) rfl ?_
      refine x_isub dI_remove_50 (n := 51) rfl ?_
      obtain ⟨c22, h⟩ := h
      replace h := h _ rfl
      refine x_iast e18 dI_remove_51 k19 c22 (n := 52) rfl ?_
      refine x_goto (tgt := 71) dI_remove_52 rfl ?_
      refine x_iinc (v := x5 + 1) dI_remove_71 rfl rfl (by decide) (L' := [some (vR (some a0)), some (vL x1), none, some (vI x3), some (vI x4), some (vI (x5 + 1))]) rfl (n := 74) rfl ?_
      refine x_goto (tgt := 11) dI_remove_74 rfl ?_
      exact h
set_option maxRecDepth 100000 in
set_option maxHeartbeats 4000000 in
theorem bI_remove {l : Launch} {G : xG} {m : XM} {Q : XR → XM → Prop} {a0 : Nat} {x1 : Int64} (hst : l.stackTraces = false)
    (h : kd m a0 = some (oB 0) ∧ WW l G xI_remove 11 [some (vR (some a0)), some (vL x1), none, some (vI (0 : Int32)), some (vI (gI m a0 2)), some (vI (0 : Int32))] [] m 0 0 Q) :
    CC l G xI_remove [vR (some a0), vL x1] m Q := by
  refine x_entry (by decide +kernel) rfl hst (Nat.le_of_ble_eq_true rfl) (L0 := [some (vR (some a0)), some (vL x1), none, none, none, none]) rfl ?_
  refine x_iconst (v := 0) dI_remove_0 (by decide) (n := 1) rfl ?_
  refine x_istore_n dI_remove_1 (by decide) (L' := [some (vR (some a0)), some (vL x1), none, some (vI (0 : Int32)), none, none]) rfl (n := 2) rfl ?_
  refine x_aload_n dI_remove_2 rfl (n := 3) rfl ?_
  obtain ⟨k1, h⟩ := h
  refine x_getI rfl dI_remove_3 fI_21 k1 (n := 6) rfl ?_
  refine x_istore dI_remove_6 (by decide) (L' := [some (vR (some a0)), some (vL x1), none, some (vI (0 : Int32)), some (vI (gI m a0 2)), none]) rfl (n := 8) rfl ?_
  refine x_iconst (v := 0) dI_remove_8 (by decide) (n := 9) rfl ?_
  refine x_istore dI_remove_9 (by decide) (L' := [some (vR (some a0)), some (vL x1), none, some (vI (0 : Int32)), some (vI (gI m a0 2)), some (vI (0 : Int32))]) rfl (n := 11) rfl ?_
  exact h
set_option maxRecDepth 100000 in
set_option maxHeartbeats 4000000 in
theorem bI_find_2 {l : Launch} {G : xG} {m : XM} {bc bs : Nat} {Q : XR → XM → Prop} {a0 : Nat} {x1 : Int64} {x3 : Int32}
    (h : kd m a0 = some (oB 0) ∧ (((gI m a0 2) ≤ x3 → Q (.inl (some (vR none))) m) ∧ (¬ (gI m a0 2) ≤ x3 → ∃ a2, gR m a0 0 = some a2 ∧ ∃ n5, kd m a2 = some (aR 3 n5) ∧ vp_in x3 n5 ∧ ∃ a7, gR m a2 x3.toNatClampNeg = some a7 ∧ kd m a7 = some (oB 1) ∧ ((¬ (lg_cmp (gL m a7 0) x1) = 0 → WW l G xI_find 2 [some (vR (some a0)), some (vL x1), none, some (vI (x3 + 1))] [] m bc bs Q) ∧ ((lg_cmp (gL m a7 0) x1) = 0 → vp_in x3 n5 ∧ Q (.inl (some (vR (gR m a2 x3.toNatClampNeg)))) m))))) :
    WW l G xI_find 2 [some (vR (some a0)), some (vL x1), none, some (vI x3)] [] m bc bs Q := by
  refine x_iload_n dI_find_2 rfl (n := 3) rfl ?_
  refine x_aload_n dI_find_3 rfl (n := 4) rfl ?_
  obtain ⟨k1, h⟩ := h
  refine x_getI rfl dI_find_4 fI_21 k1 (n := 7) rfl ?_
  obtain ⟨h, h'⟩ := h
  refine x_icmp_ge (tgt := 37) dI_find_7 rfl (n := 10) rfl (fun c12 => ?_) (fun c12 => ?_)
  · replace h := h c12
    refine x_null dI_find_37 (n := 38) rfl ?_
    exact x_aret dI_find_38 rfl (Or.inl ⟨_, rfl⟩) h
  · replace h := h' c12
    refine x_aload_n dI_find_10 rfl (n := 11) rfl ?_
    refine x_getR rfl dI_find_11 fI_11 k1 (n := 14) rfl ?_
    refine x_iload_n dI_find_14 rfl (n := 15) rfl ?_
    obtain ⟨a2, e3, h⟩ := h
    obtain ⟨n5, k4, h⟩ := h
    obtain ⟨c6, h⟩ := h
    refine x_aald e3 dI_find_15 k4 (by decide) c6 (n := 16) rfl ?_
    obtain ⟨a7, e8, h⟩ := h
    obtain ⟨k9, h⟩ := h
    refine x_getL e8 dI_find_16 fI_25 k9 (n := 19) rfl ?_
    refine x_lload_n dI_find_19 rfl (n := 20) rfl ?_
    refine x_lcmp dI_find_20 (n := 21) rfl ?_
    obtain ⟨h, h'⟩ := h
    refine x_if_ne (tgt := 31) dI_find_21 rfl (n := 24) rfl (fun c11 => ?_) (fun c11 => ?_)
    · replace h := h c11
      refine x_iinc (v := x3 + 1) dI_find_31 rfl rfl (by decide) (L' := [some (vR (some a0)), some (vL x1), none, some (vI (x3 + 1))]) rfl (n := 34) rfl ?_
      refine x_goto (tgt := 2) dI_find_34 rfl ?_
      exact h
    · replace h := h' c11
      refine x_aload_n dI_find_24 rfl (n := 25) rfl ?_
      refine x_getR rfl dI_find_25 fI_11 k1 (n := 28) rfl ?_
      refine x_iload_n dI_find_28 rfl (n := 29) rfl ?_
      obtain ⟨c10, h⟩ := h
      refine x_aald e3 dI_find_29 k4 (by decide) c10 (n := 30) rfl ?_
      exact x_aret dI_find_30 rfl (Or.inl ⟨_, rfl⟩) h
set_option maxRecDepth 100000 in
set_option maxHeartbeats 4000000 in
theorem bI_find {l : Launch} {G : xG} {m : XM} {Q : XR → XM → Prop} {a0 : Nat} {x1 : Int64} (hst : l.stackTraces = false)
    (h : WW l G xI_find 2 [some (vR (some a0)), some (vL x1), none, some (vI (0 : Int32))] [] m 0 0 Q) :
    CC l G xI_find [vR (some a0), vL x1] m Q := by
  refine x_entry (by decide +kernel) rfl hst (Nat.le_of_ble_eq_true rfl) (L0 := [some (vR (some a0)), some (vL x1), none, none]) rfl ?_
  refine x_iconst (v := 0) dI_find_0 (by decide) (n := 1) rfl ?_
  refine x_istore_n dI_find_1 (by decide) (L' := [some (vR (some a0)), some (vL x1), none, some (vI (0 : Int32))]) rfl (n := 2) rfl ?_
  exact h
set_option maxRecDepth 100000 in
set_option maxHeartbeats 4000000 in
theorem bI_wipe {l : Launch} {G : xG} {m : XM} {Q : XR → XM → Prop} {a0 : Nat} (hst : l.stackTraces = false)
    (h : kd m a0 = some (oB 0) ∧ CC l G xI_shrinkTo [vR (some a0), vI (0 : Int32)] m (kV (fun m2 => kd m2 a0 = some (oB 0) ∧ CC l G xJ_fill [vR (gR m2 a0 1), vI (0 : Int32)] m2 (kV (fun m4 => Q (.inl none) m4) Q)) Q)) :
    CC l G xI_wipe [vR (some a0)] m Q := by
  refine x_entry (by decide +kernel) rfl hst (Nat.le_of_ble_eq_true rfl) (L0 := [some (vR (some a0))]) rfl ?_
  refine x_aload_n dI_wipe_0 rfl (n := 1) rfl ?_
  refine x_iconst (v := 0) dI_wipe_1 (by decide) (n := 2) rfl ?_
  obtain ⟨k1, h⟩ := h
  refine x_invV (m := m) rfl dI_wipe_2 gI_wipe_2 (as := [vI (0 : Int32)]) (st := []) rfl rfl k1 rfl rfl (Nat.le_of_ble_eq_true rfl) (n := 5) rfl rfl rfl h (xBk.V fun m2 h => ?_)
  refine x_aload_n dI_wipe_5 rfl (n := 6) rfl ?_
  obtain ⟨k3, h⟩ := h
  refine x_getR rfl dI_wipe_6 fI_17 k3 (n := 9) rfl ?_
  refine x_iconst (v := 0) dI_wipe_9 (by decide) (n := 10) rfl ?_
  refine x_invS (m := m2) dI_wipe_10 gI_wipe_10 (as := [vR (gR m2 a0 1), vI (0 : Int32)]) (st := []) rfl rfl (Nat.le_of_ble_eq_true rfl) (n := 13) rfl rfl rfl h (xBk.V fun m4 h => ?_)
  exact x_vret dI_wipe_13 rfl h
end
section
/-! a JDK method's entry: by its own name, not its class's -/
section XJdk
variable {l : Launch} {G : xG} {M : xMt} {m : XM} {Q : XR → XM → Prop}
theorem x_entryF {a : List XV} (hy : plainFor M.1 = true) (hh : M.2.2.2.2.2 = []) (hst : l.stackTraces = false) (hlen : (inL a).length ≤ M.2.2.1) {L0 : List (Option XV)} (hL0 : inL a ++ List.replicate (M.2.2.1 - (inL a).length) none = L0)
    (k : WW l G M 0 L0 [] m M.2.2.2.2.1.cells M.2.2.2.2.1.slots Q) : CC l G M a m Q := by
  subst hL0
  have hw : xws M = Cond.code M.1 M.2.1 M.2.2.1 M.2.2.2.1 :: WS := by unfold xws xcw; rw [hh]
  refine MetFree.of_bodySF (code := M.2.1) (maxLocals := M.2.2.1) (ret := M.2.2.2.1) hy ?_ ?_
  · intro args s mid h hn
    obtain ⟨meth, c, h1, h2, h3, h4, h5, h6, -, -⟩ := Cond.code_spec hn (atoms_spec (ws := xws M) h _ (by rw [hw]; exact List.mem_cons_self))
    exact ⟨meth, c, h1, h2, h3, h4, h5, h6⟩
  · intro p e s mid args below meth c s₁ B hml hv _
    have hh0 : s₁.heap = s.heap := by rw [B.state]; rfl
    have htab : c.exceptionTable.toList = tableOf M.2.2.2.2.2 := by
      rw [hh]
      obtain ⟨meth9, c9, h1, h2, -, -, -, -, h7, -⟩ := Cond.code_spec B.named (atoms_spec (ws := xws M) B.pre _ (by rw [hw]; exact List.mem_cons_self))
      cases Option.some.inj (h1.symm.trans B.method)
      cases Option.some.inj (h2.symm.trans (Stand.of_body B).code)
      rw [Array.isEmpty_iff.mp h7]
      rfl
    obtain ⟨rfl, hWd, hSt⟩ := hv
    have hts0 := atoms_spec (ws := xws M) B.pre
    have hts : ∀ w ∈ WS, w.before _ s = true := fun w h => hts0 w (List.mem_cons_of_mem _ h)
    have hown : s.vm.findClass M.1.cls = some mid.cls := findClass_of_methodNamed B.named
    have hW := k p e s mid _ below meth c ⟨B.exec, B.bytes, hml, hown, hts, B.notSynchronized, B.returns, (name_of_methodNamed B.named B.method).1, htab, hSt, hst⟩ s.heap [] 0 0 _ hWd va_S.rf (lh_entry hlen) (by omega) (by omega)
    have hW2 : W p l e M.2.2.2.2.1 s mid (a.map toV).toArray below meth c s.heap [] 0 0 (vx_MQ below (xQc G Q) (xXC G Q) (a.map toV).toArray s M.2.2.2.2.1.cells M.2.2.2.2.1.slots (xA G)) (entryFrame mid (a.map toV).toArray M.2.2.1) := by
      rw [lg_entry_eq]
      exact hW
    obtain ⟨t, a1, o, b1, b2, b3⟩ := hW2 s₁ hh0 (Stand.of_body B)
    exact ⟨t, o, a1, b1, b2, b3⟩
end XJdk
theorem plJ_min : plainFor yJ_min = true := by decide +kernel
theorem plJ_fill : plainFor yJ_fill = true := by decide +kernel
theorem plJ_copyOf : plainFor yJ_copyOf = true := by decide +kernel
end
section
set_option maxRecDepth 100000 in
set_option maxHeartbeats 4000000 in
theorem bJ_min {l : Launch} {G : xG} {m : XM} {Q : XR → XM → Prop} {x0 : Int32} {x1 : Int32} (hst : l.stackTraces = false)
    (h : ((x1 < x0 → Q (.inl (some (vI x1))) m) ∧ (¬ x1 < x0 → Q (.inl (some (vI x0))) m))) :
    CC l G xJ_min [vI x0, vI x1] m Q := by
  refine x_entryF (by decide +kernel) rfl hst (Nat.le_of_ble_eq_true rfl) (L0 := [some (vI x0), some (vI x1)]) rfl ?_
  refine x_iload_n dJ_min_0 rfl (n := 1) rfl ?_
  refine x_iload_n dJ_min_1 rfl (n := 2) rfl ?_
  obtain ⟨h, h'⟩ := h
  refine x_icmp_gt (tgt := 9) dJ_min_2 rfl (n := 5) rfl (fun c1 => ?_) (fun c1 => ?_)
  · replace h := h c1
    refine x_iload_n dJ_min_9 rfl (n := 10) rfl ?_
    exact x_iret dJ_min_10 rfl h
  · replace h := h' c1
    refine x_iload_n dJ_min_5 rfl (n := 6) rfl ?_
    refine x_goto (tgt := 10) dJ_min_6 rfl ?_
    exact x_iret dJ_min_10 rfl h
set_option maxRecDepth 100000 in
set_option maxHeartbeats 4000000 in
theorem bJ_fill_5 {l : Launch} {G : xG} {m : XM} {bc bs : Nat} {Q : XR → XM → Prop} {o0 : Option Nat} {x1 : Int32} {x2 : Int32} {x3 : Int32}
    (h : ((x3 ≤ x2 → Q (.inl none) m) ∧ (¬ x3 ≤ x2 → ∃ a1, o0 = some a1 ∧ ∃ n4, kd m a1 = some (aR 0 n4) ∧ vp_in x2 n4 ∧ ∀ m6, m6 = mI m a1 x2.toNatClampNeg x1 → WW l G xJ_fill 5 [some (vR o0), some (vI x1), some (vI (x2 + 1)), some (vI x3)] [] m6 bc bs Q))) :
    WW l G xJ_fill 5 [some (vR o0), some (vI x1), some (vI x2), some (vI x3)] [] m bc bs Q := by
  refine x_iload_n dJ_fill_5 rfl (n := 6) rfl ?_
  refine x_iload_n dJ_fill_6 rfl (n := 7) rfl ?_
  obtain ⟨h, h'⟩ := h
  refine x_icmp_ge (tgt := 20) dJ_fill_7 rfl (n := 10) rfl (fun c7 => ?_) (fun c7 => ?_)
  · replace h := h c7
    exact x_vret dJ_fill_20 rfl h
  · replace h := h' c7
    refine x_aload_n dJ_fill_10 rfl (n := 11) rfl ?_
    refine x_iload_n dJ_fill_11 rfl (n := 12) rfl ?_
    refine x_iload_n dJ_fill_12 rfl (n := 13) rfl ?_
    obtain ⟨a1, e2, h⟩ := h
    obtain ⟨n4, k3, h⟩ := h
    obtain ⟨c5, h⟩ := h
    replace h := h _ rfl
    refine x_iast e2 dJ_fill_13 k3 c5 (n := 14) rfl ?_
    refine x_iinc (v := x2 + 1) dJ_fill_14 rfl rfl (by decide) (L' := [some (vR o0), some (vI x1), some (vI (x2 + 1)), some (vI x3)]) rfl (n := 17) rfl ?_
    refine x_goto (tgt := 5) dJ_fill_17 rfl ?_
    exact h
set_option maxRecDepth 100000 in
set_option maxHeartbeats 4000000 in
theorem bJ_fill {l : Launch} {G : xG} {m : XM} {Q : XR → XM → Prop} {o0 : Option Nat} {x1 : Int32} (hst : l.stackTraces = false)
    (h : ∃ a1, o0 = some a1 ∧ ∃ n4, kd m a1 = some (aR 0 n4) ∧ WW l G xJ_fill 5 [some (vR o0), some (vI x1), some (vI (0 : Int32)), some (vI (Int32.ofNat n4))] [] m 0 0 Q) :
    CC l G xJ_fill [vR o0, vI x1] m Q := by
  refine x_entryF (by decide +kernel) rfl hst (Nat.le_of_ble_eq_true rfl) (L0 := [some (vR o0), some (vI x1), none, none]) rfl ?_
  refine x_iconst (v := 0) dJ_fill_0 (by decide) (n := 1) rfl ?_
  refine x_istore_n dJ_fill_1 (by decide) (L' := [some (vR o0), some (vI x1), some (vI (0 : Int32)), none]) rfl (n := 2) rfl ?_
  refine x_aload_n dJ_fill_2 rfl (n := 3) rfl ?_
  obtain ⟨a1, e2, h⟩ := h
  obtain ⟨n4, k3, h⟩ := h
  refine x_alen e2 dJ_fill_3 k3 (by decide) (n := 4) rfl ?_
  refine x_istore_n dJ_fill_4 (by decide) (L' := [some (vR o0), some (vI x1), some (vI (0 : Int32)), some (vI (Int32.ofNat n4))]) rfl (n := 5) rfl ?_
  exact h
end
section
set_option maxRecDepth 100000 in
set_option maxHeartbeats 4000000 in
theorem bP_init {l : Launch} {G : xG} {m : XM} {Q : XR → XM → Prop} {a0 : Nat} (hst : l.stackTraces = false)
    (h : ∃ bc1 bs2, 1 = bc1 + 1 ∧ 8 = bs2 + 8 ∧ ∀ a5, kd m a5 = none → ∀ m7, m7 = mN m a5 (aR 3 8) → kd m7 a0 = some (oB 3) ∧ ∀ m10, m10 = mR m7 a0 0 (some a5) → ∀ m11, m11 = mI m10 a0 1 (0 : Int32) → ∀ m12, m12 = mI m11 a0 2 (0 : Int32) → ∀ m13, m13 = mL m12 a0 3 (0 : Int64) → Q (.inl none) m13) :
    CC l G xP_init [vR (some a0)] m Q := by
  refine x_entry (by decide +kernel) rfl hst (Nat.le_of_ble_eq_true rfl) (L0 := [some (vR (some a0))]) rfl ?_
  refine x_aload_n dP_init_0 rfl (n := 1) rfl ?_
  refine x_objInit dP_init_1 w_69 w_58 w_59 (by decide) (by decide) (n := 4) rfl ?_
  refine x_aload_n dP_init_4 rfl (n := 5) rfl ?_
  refine x_bipush (v := 8) dP_init_5 (by decide) (n := 7) rfl ?_
  obtain ⟨bc1, bs2, b3, b4, h⟩ := h
  refine x_anew (t := 3) (N := 8) dP_init_7 w_70 (by decide) (by decide) (by decide) (by decide) (n := 10) rfl (by decide) b3 b4 fun a5 f6 => ?_
  replace h := h a5 f6 _ rfl
  have k8 := kdNs m a5 (aR 3 8)
  obtain ⟨k9, h⟩ := h
  replace h := h _ rfl
  refine x_putR rfl dP_init_10 pP_11 k9 (fun o => by cases o <;> rfl) (fun o => by cases o <;> rfl) (n := 13) rfl ?_
  refine x_aload_n dP_init_13 rfl (n := 14) rfl ?_
  refine x_iconst (v := 0) dP_init_14 (by decide) (n := 15) rfl ?_
  replace h := h _ rfl
  refine x_putI rfl dP_init_15 pP_17 k9 rfl rfl (n := 18) rfl ?_
  refine x_aload_n dP_init_18 rfl (n := 19) rfl ?_
  refine x_iconst (v := 0) dP_init_19 (by decide) (n := 20) rfl ?_
  replace h := h _ rfl
  refine x_putI rfl dP_init_20 pP_21 k9 rfl rfl (n := 23) rfl ?_
  refine x_aload_n dP_init_23 rfl (n := 24) rfl ?_
  refine x_lconst (v := 0) dP_init_24 (by decide) (n := 25) rfl ?_
  replace h := h _ rfl
  refine x_putL rfl dP_init_25 pP_24 k9 rfl rfl (n := 28) rfl ?_
  exact x_vret dP_init_28 rfl h
set_option maxRecDepth 100000 in
set_option maxHeartbeats 4000000 in
theorem bP_hasRoomFor {l : Launch} {G : xG} {m : XM} {Q : XR → XM → Prop} {a0 : Nat} {x1 : Int32} (hst : l.stackTraces = false)
    (h : kd m a0 = some (oB 3) ∧ (((32 : Int32) < ((gI m a0 2) + x1) → Q (.inl (some (vI (0 : Int32)))) m) ∧ (¬ (32 : Int32) < ((gI m a0 2) + x1) → Q (.inl (some (vI (1 : Int32)))) m))) :
    CC l G xP_hasRoomFor [vR (some a0), vI x1] m Q := by
  refine x_entry (by decide +kernel) rfl hst (Nat.le_of_ble_eq_true rfl) (L0 := [some (vR (some a0)), some (vI x1)]) rfl ?_
  refine x_aload_n dP_hasRoomFor_0 rfl (n := 1) rfl ?_
  obtain ⟨k1, h⟩ := h
  refine x_getI rfl dP_hasRoomFor_1 fP_21 k1 (n := 4) rfl ?_
  refine x_iload_n dP_hasRoomFor_4 rfl (n := 5) rfl ?_
  refine x_iadd dP_hasRoomFor_5 (n := 6) rfl ?_
  refine x_bipush (v := 32) dP_hasRoomFor_6 (by decide) (n := 8) rfl ?_
  obtain ⟨h, h'⟩ := h
  refine x_icmp_gt (tgt := 15) dP_hasRoomFor_8 rfl (n := 11) rfl (fun c2 => ?_) (fun c2 => ?_)
  · replace h := h c2
    refine x_iconst (v := 0) dP_hasRoomFor_15 (by decide) (n := 16) rfl ?_
    exact x_zret dP_hasRoomFor_16 rfl (by decide) h
  · replace h := h' c2
    refine x_iconst (v := 1) dP_hasRoomFor_11 (by decide) (n := 12) rfl ?_
    refine x_goto (tgt := 16) dP_hasRoomFor_12 rfl ?_
    exact x_zret dP_hasRoomFor_16 rfl (by decide) h
set_option maxRecDepth 100000 in
set_option maxHeartbeats 4000000 in
theorem bP_find {l : Launch} {G : xG} {m : XM} {Q : XR → XM → Prop} {a0 : Nat} {x1 : Int64} (hst : l.stackTraces = false)
    (h : kd m a0 = some (oB 3) ∧ CC l G xP_placeOf [vR (some a0), vL x1] m (kI (fun v3 m2 => ((¬ v3 = (-1 : Int32) → kd m2 a0 = some (oB 3) ∧ ∃ a5, gR m2 a0 0 = some a5 ∧ ∃ n8, kd m2 a5 = some (aR 3 n8) ∧ vp_in v3 n8 ∧ Q (.inl (some (vR (gR m2 a5 v3.toNatClampNeg)))) m2) ∧ (v3 = (-1 : Int32) → Q (.inl (some (vR none))) m2))) Q)) :
    CC l G xP_find [vR (some a0), vL x1] m Q := by
  refine x_entry (by decide +kernel) rfl hst (Nat.le_of_ble_eq_true rfl) (L0 := [some (vR (some a0)), some (vL x1), none, none]) rfl ?_
  refine x_aload_n dP_find_0 rfl (n := 1) rfl ?_
  refine x_lload_n dP_find_1 rfl (n := 2) rfl ?_
  obtain ⟨k1, h⟩ := h
  refine x_invV (m := m) rfl dP_find_2 gP_find_2 (as := [vL x1]) (st := []) rfl rfl k1 rfl rfl (Nat.le_of_ble_eq_true rfl) (n := 5) rfl rfl rfl h (xBk.I fun v3 m2 h => ?_)
  refine x_istore_n dP_find_5 (by decide) (L' := [some (vR (some a0)), some (vL x1), none, some (vI v3)]) rfl (n := 6) rfl ?_
  refine x_iload_n dP_find_6 rfl (n := 7) rfl ?_
  refine x_iconst (v := -1) dP_find_7 (by decide) (n := 8) rfl ?_
  obtain ⟨h, h'⟩ := h
  refine x_icmp_ne (tgt := 15) dP_find_8 rfl (n := 11) rfl (fun c10 => ?_) (fun c10 => ?_)
  · replace h := h c10
    refine x_aload_n dP_find_15 rfl (n := 16) rfl ?_
    obtain ⟨k4, h⟩ := h
    refine x_getR rfl dP_find_16 fP_11 k4 (n := 19) rfl ?_
    refine x_iload_n dP_find_19 rfl (n := 20) rfl ?_
    obtain ⟨a5, e6, h⟩ := h
    obtain ⟨n8, k7, h⟩ := h
    obtain ⟨c9, h⟩ := h
    refine x_aald e6 dP_find_20 k7 (by decide) c9 (n := 21) rfl ?_
    exact x_aret dP_find_21 rfl (Or.inl ⟨_, rfl⟩) h
  · replace h := h' c10
    refine x_null dP_find_11 (n := 12) rfl ?_
    refine x_goto (tgt := 21) dP_find_12 rfl ?_
    exact x_aret dP_find_21 rfl (Or.inl ⟨_, rfl⟩) h
set_option maxRecDepth 100000 in
set_option maxHeartbeats 4000000 in
theorem bP_placeOf_2 {l : Launch} {G : xG} {m : XM} {bc bs : Nat} {Q : XR → XM → Prop} {a0 : Nat} {x1 : Int64} {x3 : Int32}
    (h : kd m a0 = some (oB 3) ∧ (((gI m a0 1) ≤ x3 → Q (.inl (some (vI (-1 : Int32)))) m) ∧ (¬ (gI m a0 1) ≤ x3 → ∃ a2, gR m a0 0 = some a2 ∧ ∃ n5, kd m a2 = some (aR 3 n5) ∧ vp_in x3 n5 ∧ ∃ a7, gR m a2 x3.toNatClampNeg = some a7 ∧ kd m a7 = some (oB 1) ∧ ((¬ (lg_cmp (gL m a7 0) x1) = 0 → WW l G xP_placeOf 2 [some (vR (some a0)), some (vL x1), none, some (vI (x3 + 1))] [] m bc bs Q) ∧ ((lg_cmp (gL m a7 0) x1) = 0 → Q (.inl (some (vI x3))) m))))) :
    WW l G xP_placeOf 2 [some (vR (some a0)), some (vL x1), none, some (vI x3)] [] m bc bs Q := by
  refine x_iload_n dP_placeOf_2 rfl (n := 3) rfl ?_
  refine x_aload_n dP_placeOf_3 rfl (n := 4) rfl ?_
  obtain ⟨k1, h⟩ := h
  refine x_getI rfl dP_placeOf_4 fP_17 k1 (n := 7) rfl ?_
  obtain ⟨h, h'⟩ := h
  refine x_icmp_ge (tgt := 32) dP_placeOf_7 rfl (n := 10) rfl (fun c11 => ?_) (fun c11 => ?_)
  · replace h := h c11
    refine x_iconst (v := -1) dP_placeOf_32 (by decide) (n := 33) rfl ?_
    exact x_iret dP_placeOf_33 rfl h
  · replace h := h' c11
    refine x_aload_n dP_placeOf_10 rfl (n := 11) rfl ?_
    refine x_getR rfl dP_placeOf_11 fP_11 k1 (n := 14) rfl ?_
    refine x_iload_n dP_placeOf_14 rfl (n := 15) rfl ?_
    obtain ⟨a2, e3, h⟩ := h
    obtain ⟨n5, k4, h⟩ := h
    obtain ⟨c6, h⟩ := h
    refine x_aald e3 dP_placeOf_15 k4 (by decide) c6 (n := 16) rfl ?_
    obtain ⟨a7, e8, h⟩ := h
    obtain ⟨k9, h⟩ := h
    refine x_getL e8 dP_placeOf_16 fP_54 k9 (n := 19) rfl ?_
    refine x_lload_n dP_placeOf_19 rfl (n := 20) rfl ?_
    refine x_lcmp dP_placeOf_20 (n := 21) rfl ?_
    obtain ⟨h, h'⟩ := h
    refine x_if_ne (tgt := 26) dP_placeOf_21 rfl (n := 24) rfl (fun c10 => ?_) (fun c10 => ?_)
    · replace h := h c10
      refine x_iinc (v := x3 + 1) dP_placeOf_26 rfl rfl (by decide) (L' := [some (vR (some a0)), some (vL x1), none, some (vI (x3 + 1))]) rfl (n := 29) rfl ?_
      refine x_goto (tgt := 2) dP_placeOf_29 rfl ?_
      exact h
    · replace h := h' c10
      refine x_iload_n dP_placeOf_24 rfl (n := 25) rfl ?_
      exact x_iret dP_placeOf_25 rfl h
set_option maxRecDepth 100000 in
set_option maxHeartbeats 4000000 in
theorem bP_placeOf {l : Launch} {G : xG} {m : XM} {Q : XR → XM → Prop} {a0 : Nat} {x1 : Int64} (hst : l.stackTraces = false)
    (h : WW l G xP_placeOf 2 [some (vR (some a0)), some (vL x1), none, some (vI (0 : Int32))] [] m 0 0 Q) :
    CC l G xP_placeOf [vR (some a0), vL x1] m Q := by
  refine x_entry (by decide +kernel) rfl hst (Nat.le_of_ble_eq_true rfl) (L0 := [some (vR (some a0)), some (vL x1), none, none]) rfl ?_
  refine x_iconst (v := 0) dP_placeOf_0 (by decide) (n := 1) rfl ?_
  refine x_istore_n dP_placeOf_1 (by decide) (L' := [some (vR (some a0)), some (vL x1), none, some (vI (0 : Int32))]) rfl (n := 2) rfl ?_
  exact h
set_option maxRecDepth 100000 in
set_option maxHeartbeats 4000000 in
theorem bP_remove {l : Launch} {G : xG} {m : XM} {Q : XR → XM → Prop} {a0 : Nat} {x1 : Int64} (hst : l.stackTraces = false)
    (h : kd m a0 = some (oB 3) ∧ CC l G xP_placeOf [vR (some a0), vL x1] m (kI (fun v3 m2 => ((v3 = (-1 : Int32) → Q (.inl none) m2) ∧ (¬ v3 = (-1 : Int32) → kd m2 a0 = some (oB 3) ∧ CC l G xP_removeAt [vR (some a0), vI v3] m2 (kV (fun m5 => Q (.inl none) m5) Q)))) Q)) :
    CC l G xP_remove [vR (some a0), vL x1] m Q := by
  refine x_entry (by decide +kernel) rfl hst (Nat.le_of_ble_eq_true rfl) (L0 := [some (vR (some a0)), some (vL x1), none, none]) rfl ?_
  refine x_aload_n dP_remove_0 rfl (n := 1) rfl ?_
  refine x_lload_n dP_remove_1 rfl (n := 2) rfl ?_
  obtain ⟨k1, h⟩ := h
  refine x_invV (m := m) rfl dP_remove_2 gP_remove_2 (as := [vL x1]) (st := []) rfl rfl k1 rfl rfl (Nat.le_of_ble_eq_true rfl) (n := 5) rfl rfl rfl h (xBk.I fun v3 m2 h => ?_)
  refine x_istore_n dP_remove_5 (by decide) (L' := [some (vR (some a0)), some (vL x1), none, some (vI v3)]) rfl (n := 6) rfl ?_
  refine x_iload_n dP_remove_6 rfl (n := 7) rfl ?_
  refine x_iconst (v := -1) dP_remove_7 (by decide) (n := 8) rfl ?_
  obtain ⟨h, h'⟩ := h
  refine x_icmp_eq (tgt := 16) dP_remove_8 rfl (n := 11) rfl (fun c6 => ?_) (fun c6 => ?_)
  · replace h := h c6
    exact x_vret dP_remove_16 rfl h
  · replace h := h' c6
    refine x_aload_n dP_remove_11 rfl (n := 12) rfl ?_
    refine x_iload_n dP_remove_12 rfl (n := 13) rfl ?_
    obtain ⟨k4, h⟩ := h
    refine x_invV (m := m2) rfl dP_remove_13 gP_remove_13 (as := [vI v3]) (st := []) rfl rfl k4 rfl rfl (Nat.le_of_ble_eq_true rfl) (n := 16) rfl rfl rfl h (xBk.V fun m5 h => ?_)
    exact x_vret dP_remove_16 rfl h
set_option maxRecDepth 100000 in
set_option maxHeartbeats 4000000 in
theorem bP_removeAt_30 {l : Launch} {G : xG} {m : XM} {bc bs : Nat} {Q : XR → XM → Prop} {a0 : Nat} {x1 : Int32} {x2 : Int32}
    (h : kd m a0 = some (oB 3) ∧ (((gI m a0 1) ≤ x2 → ∃ a2, gR m a0 0 = some a2 ∧ ∃ n5, kd m a2 = some (aR 3 n5) ∧ vp_in (gI m a0 1) n5 ∧ ∀ m7, m7 = mR m a2 (gI m a0 1).toNatClampNeg none → ∀ m8, m8 = mL m7 a0 3 (0 : Int64) → WW l G xP_removeAt 75 [some (vR (some a0)), some (vI x1), some (vI (0 : Int32))] [] m8 bc bs Q) ∧ (¬ (gI m a0 1) ≤ x2 → ∃ a9, gR m a0 0 = some a9 ∧ ∃ n12, kd m a9 = some (aR 3 n12) ∧ vp_in (x2 + (1 : Int32)) n12 ∧ vp_in x2 n12 ∧ ∃ a15, gR m a9 (x2 + (1 : Int32)).toNatClampNeg = some a15 ∧ kd m a15 = some (oB 1) ∧ ∀ m18, m18 = mR m a9 x2.toNatClampNeg (some a15) → WW l G xP_removeAt 30 [some (vR (some a0)), some (vI x1), some (vI (x2 + 1))] [] m18 bc bs Q))) :
    WW l G xP_removeAt 30 [some (vR (some a0)), some (vI x1), some (vI x2)] [] m bc bs Q := by
  refine x_iload_n dP_removeAt_30 rfl (n := 31) rfl ?_
  refine x_aload_n dP_removeAt_31 rfl (n := 32) rfl ?_
  obtain ⟨k1, h⟩ := h
  refine x_getI rfl dP_removeAt_32 fP_17 k1 (n := 35) rfl ?_
  obtain ⟨h, h'⟩ := h
  refine x_icmp_ge (tgt := 58) dP_removeAt_35 rfl (n := 38) rfl (fun c19 => ?_) (fun c19 => ?_)
  · replace h := h c19
    refine x_aload_n dP_removeAt_58 rfl (n := 59) rfl ?_
    refine x_getR rfl dP_removeAt_59 fP_11 k1 (n := 62) rfl ?_
    refine x_aload_n dP_removeAt_62 rfl (n := 63) rfl ?_
    refine x_getI rfl dP_removeAt_63 fP_17 k1 (n := 66) rfl ?_
    refine x_null dP_removeAt_66 (n := 67) rfl ?_
    obtain ⟨a2, e3, h⟩ := h
    obtain ⟨n5, k4, h⟩ := h
    obtain ⟨c6, h⟩ := h
    replace h := h _ rfl
    refine x_aastN e3 dP_removeAt_67 k4 (by decide) c6 (n := 68) rfl ?_
    refine x_aload_n dP_removeAt_68 rfl (n := 69) rfl ?_
    refine x_lconst (v := 0) dP_removeAt_69 (by decide) (n := 70) rfl ?_
    replace h := h _ rfl
    refine x_putL rfl dP_removeAt_70 pP_24 k1 rfl rfl (n := 73) rfl ?_
    refine x_iconst (v := 0) dP_removeAt_73 (by decide) (n := 74) rfl ?_
    refine x_istore_n dP_removeAt_74 (by decide) (L' := [some (vR (some a0)), some (vI x1), some (vI (0 : Int32))]) rfl (n := 75) rfl ?_
    exact h
  · replace h := h' c19
    refine x_aload_n dP_removeAt_38 rfl (n := 39) rfl ?_
    refine x_getR rfl dP_removeAt_39 fP_11 k1 (n := 42) rfl ?_
    refine x_iload_n dP_removeAt_42 rfl (n := 43) rfl ?_
    refine x_aload_n dP_removeAt_43 rfl (n := 44) rfl ?_
    refine x_getR rfl dP_removeAt_44 fP_11 k1 (n := 47) rfl ?_
    refine x_iload_n dP_removeAt_47 rfl (n := 48) rfl ?_
    refine x_iconst (v := 1) dP_removeAt_48 (by decide) (n := 49) rfl ?_
    refine x_iadd dP_removeAt_49 (n := 50) rfl ?_
    obtain ⟨a9, e10, h⟩ := h
    obtain ⟨n12, k11, h⟩ := h
    obtain ⟨c13, h⟩ := h
    refine x_aald e10 dP_removeAt_50 k11 (by decide) c13 (n := 51) rfl ?_
    obtain ⟨c14, h⟩ := h
    obtain ⟨a15, e16, h⟩ := h
    obtain ⟨k17, h⟩ := h
    replace h := h _ rfl
    refine x_aast e10 e16 dP_removeAt_51 k11 (by decide) k17 c14 (n := 52) rfl ?_
    refine x_iinc (v := x2 + 1) dP_removeAt_52 rfl rfl (by decide) (L' := [some (vR (some a0)), some (vI x1), some (vI (x2 + 1))]) rfl (n := 55) rfl ?_
    refine x_goto (tgt := 30) dP_removeAt_55 rfl ?_
    exact h
set_option maxRecDepth 100000 in
set_option maxHeartbeats 4000000 in
theorem bP_removeAt_75 {l : Launch} {G : xG} {m : XM} {bc bs : Nat} {Q : XR → XM → Prop} {a0 : Nat} {x1 : Int32} {x2 : Int32}
    (h : kd m a0 = some (oB 3) ∧ (((gI m a0 1) ≤ x2 → Q (.inl none) m) ∧ (¬ (gI m a0 1) ≤ x2 → ∃ a2, gR m a0 0 = some a2 ∧ ∃ n5, kd m a2 = some (aR 3 n5) ∧ vp_in x2 n5 ∧ ∃ a7, gR m a2 x2.toNatClampNeg = some a7 ∧ kd m a7 = some (oB 1) ∧ ∀ m10, m10 = mL m a0 3 ((gL m a0 3) ||| (gL m a7 3)) → WW l G xP_removeAt 75 [some (vR (some a0)), some (vI x1), some (vI (x2 + 1))] [] m10 bc bs Q))) :
    WW l G xP_removeAt 75 [some (vR (some a0)), some (vI x1), some (vI x2)] [] m bc bs Q := by
  refine x_iload_n dP_removeAt_75 rfl (n := 76) rfl ?_
  refine x_aload_n dP_removeAt_76 rfl (n := 77) rfl ?_
  obtain ⟨k1, h⟩ := h
  refine x_getI rfl dP_removeAt_77 fP_17 k1 (n := 80) rfl ?_
  obtain ⟨h, h'⟩ := h
  refine x_icmp_ge (tgt := 107) dP_removeAt_80 rfl (n := 83) rfl (fun c11 => ?_) (fun c11 => ?_)
  · replace h := h c11
    exact x_vret dP_removeAt_107 rfl h
  · replace h := h' c11
    refine x_aload_n dP_removeAt_83 rfl (n := 84) rfl ?_
    refine x_dup dP_removeAt_84 rfl (n := 85) rfl ?_
    refine x_getL rfl dP_removeAt_85 fP_24 k1 (n := 88) rfl ?_
    refine x_aload_n dP_removeAt_88 rfl (n := 89) rfl ?_
    refine x_getR rfl dP_removeAt_89 fP_11 k1 (n := 92) rfl ?_
    refine x_iload_n dP_removeAt_92 rfl (n := 93) rfl ?_
    obtain ⟨a2, e3, h⟩ := h
    obtain ⟨n5, k4, h⟩ := h
    obtain ⟨c6, h⟩ := h
    refine x_aald e3 dP_removeAt_93 k4 (by decide) c6 (n := 94) rfl ?_
    obtain ⟨a7, e8, h⟩ := h
    obtain ⟨k9, h⟩ := h
    refine x_getL e8 dP_removeAt_94 fP_31 k9 (n := 97) rfl ?_
    refine x_lor dP_removeAt_97 (n := 98) rfl ?_
    replace h := h _ rfl
    refine x_putL rfl dP_removeAt_98 pP_24 k1 rfl rfl (n := 101) rfl ?_
    refine x_iinc (v := x2 + 1) dP_removeAt_101 rfl rfl (by decide) (L' := [some (vR (some a0)), some (vI x1), some (vI (x2 + 1))]) rfl (n := 104) rfl ?_
    refine x_goto (tgt := 75) dP_removeAt_104 rfl ?_
    exact h
set_option maxRecDepth 100000 in
set_option maxHeartbeats 4000000 in
theorem bP_removeAt {l : Launch} {G : xG} {m : XM} {Q : XR → XM → Prop} {a0 : Nat} {x1 : Int32} (hst : l.stackTraces = false)
    (h : kd m a0 = some (oB 3) ∧ ∃ a2, gR m a0 0 = some a2 ∧ ∃ n5, kd m a2 = some (aR 3 n5) ∧ vp_in x1 n5 ∧ ∃ a7, gR m a2 x1.toNatClampNeg = some a7 ∧ kd m a7 = some (oB 1) ∧ CC l G xT_words [vR (some a7)] m (kI (fun v11 m10 => kd m10 a0 = some (oB 3) ∧ ∀ m13, m13 = mI m10 a0 2 ((gI m a0 2) - v11) → ∀ m14, m14 = mI m13 a0 1 ((gI m13 a0 1) - (1 : Int32)) → WW l G xP_removeAt 30 [some (vR (some a0)), some (vI x1), some (vI x1)] [] m14 0 0 Q) Q)) :
    CC l G xP_removeAt [vR (some a0), vI x1] m Q := by
  refine x_entry (by decide +kernel) rfl hst (Nat.le_of_ble_eq_true rfl) (L0 := [some (vR (some a0)), some (vI x1), none]) rfl ?_
  refine x_aload_n dP_removeAt_0 rfl (n := 1) rfl ?_
  refine x_dup dP_removeAt_1 rfl (n := 2) rfl ?_
  obtain ⟨k1, h⟩ := h
  refine x_getI rfl dP_removeAt_2 fP_21 k1 (n := 5) rfl ?_
  refine x_aload_n dP_removeAt_5 rfl (n := 6) rfl ?_
  refine x_getR rfl dP_removeAt_6 fP_11 k1 (n := 9) rfl ?_
  refine x_iload_n dP_removeAt_9 rfl (n := 10) rfl ?_
  obtain ⟨a2, e3, h⟩ := h
  obtain ⟨n5, k4, h⟩ := h
  obtain ⟨c6, h⟩ := h
  refine x_aald e3 dP_removeAt_10 k4 (by decide) c6 (n := 11) rfl ?_
  obtain ⟨a7, e8, h⟩ := h
  obtain ⟨k9, h⟩ := h
  refine x_invV (m := m) e8 dP_removeAt_11 gP_removeAt_11 (as := []) (st := [vI (gI m a0 2), vR (some a0)]) rfl rfl k9 rfl rfl (Nat.le_of_ble_eq_true rfl) (n := 14) rfl rfl rfl h (xBk.I fun v11 m10 h => ?_)
  refine x_isub dP_removeAt_14 (n := 15) rfl ?_
  obtain ⟨k12, h⟩ := h
  replace h := h _ rfl
  refine x_putI rfl dP_removeAt_15 pP_21 k12 rfl rfl (n := 18) rfl ?_
  refine x_aload_n dP_removeAt_18 rfl (n := 19) rfl ?_
  refine x_dup dP_removeAt_19 rfl (n := 20) rfl ?_
  refine x_getI rfl dP_removeAt_20 fP_17 k12 (n := 23) rfl ?_
  refine x_iconst (v := 1) dP_removeAt_23 (by decide) (n := 24) rfl ?_
  refine x_isub dP_removeAt_24 (n := 25) rfl ?_
  replace h := h _ rfl
  refine x_putI rfl dP_removeAt_25 pP_17 k12 rfl rfl (n := 28) rfl ?_
  refine x_iload_n dP_removeAt_28 rfl (n := 29) rfl ?_
  refine x_istore_n dP_removeAt_29 (by decide) (L' := [some (vR (some a0)), some (vI x1), some (vI x1)]) rfl (n := 30) rfl ?_
  exact h
set_option maxRecDepth 100000 in
set_option maxHeartbeats 4000000 in
theorem bP_dropFor_11 {l : Launch} {G : xG} {m : XM} {bc bs : Nat} {Q : XR → XM → Prop} {a0 : Nat} {x1 : Int32} {x2 : Int32} {x3 : Int32} {x4 : Int32} {x5 : Int32}
    (h : ((x3 ≤ x5 → kd m a0 = some (oB 3) ∧ Q (.inl (some (vI (x3 - (gI m a0 1))))) m) ∧ (¬ x3 ≤ x5 → kd m a0 = some (oB 3) ∧ CC l G xP_hasRoomFor [vR (some a0), vI x1] m (kI (fun v4 m3 => ((¬ v4 = 0 → kd m3 a0 = some (oB 3) ∧ Q (.inl (some (vI (x3 - (gI m3 a0 1))))) m3) ∧ (v4 = 0 → kd m3 a0 = some (oB 3) ∧ ∃ a7, gR m3 a0 0 = some a7 ∧ ∃ n10, kd m3 a7 = some (aR 3 n10) ∧ vp_in x4 n10 ∧ ∃ a12, gR m3 a7 x4.toNatClampNeg = some a12 ∧ kd m3 a12 = some (oB 1) ∧ ((¬ (gI m3 a12 5) = x2 → WW l G xP_dropFor 11 [some (vR (some a0)), some (vI x1), some (vI x2), some (vI x3), some (vI (x4 + 1)), some (vI (x5 + 1))] [] m3 bc bs Q) ∧ ((gI m3 a12 5) = x2 → CC l G xP_removeAt [vR (some a0), vI x4] m3 (kV (fun m15 => WW l G xP_dropFor 11 [some (vR (some a0)), some (vI x1), some (vI x2), some (vI x3), some (vI x4), some (vI (x5 + 1))] [] m15 bc bs Q) Q)))))) Q)))) :
    WW l G xP_dropFor 11 [some (vR (some a0)), some (vI x1), some (vI x2), some (vI x3), some (vI x4), some (vI x5)] [] m bc bs Q := by
  refine x_iload dP_dropFor_11 rfl (n := 13) rfl ?_
  refine x_iload_n dP_dropFor_13 rfl (n := 14) rfl ?_
  obtain ⟨h, h'⟩ := h
  refine x_icmp_ge (tgt := 57) dP_dropFor_14 rfl (n := 17) rfl (fun c18 => ?_) (fun c18 => ?_)
  · replace h := h c18
    refine x_iload_n dP_dropFor_57 rfl (n := 58) rfl ?_
    refine x_aload_n dP_dropFor_58 rfl (n := 59) rfl ?_
    obtain ⟨k1, h⟩ := h
    refine x_getI rfl dP_dropFor_59 fP_17 k1 (n := 62) rfl ?_
    refine x_isub dP_dropFor_62 (n := 63) rfl ?_
    exact x_iret dP_dropFor_63 rfl h
  · replace h := h' c18
    refine x_aload_n dP_dropFor_17 rfl (n := 18) rfl ?_
    refine x_iload_n dP_dropFor_18 rfl (n := 19) rfl ?_
    obtain ⟨k2, h⟩ := h
    refine x_invV (m := m) rfl dP_dropFor_19 gP_dropFor_19 (as := [vI x1]) (st := []) rfl rfl k2 rfl rfl (Nat.le_of_ble_eq_true rfl) (n := 22) rfl rfl rfl h (xBk.I fun v4 m3 h => ?_)
    obtain ⟨h, h'⟩ := h
    refine x_if_ne (tgt := 57) dP_dropFor_22 rfl (n := 25) rfl (fun c17 => ?_) (fun c17 => ?_)
    · replace h := h c17
      refine x_iload_n dP_dropFor_57 rfl (n := 58) rfl ?_
      refine x_aload_n dP_dropFor_58 rfl (n := 59) rfl ?_
      obtain ⟨k5, h⟩ := h
      refine x_getI rfl dP_dropFor_59 fP_17 k5 (n := 62) rfl ?_
      refine x_isub dP_dropFor_62 (n := 63) rfl ?_
      exact x_iret dP_dropFor_63 rfl h
    · replace h := h' c17
      refine x_aload_n dP_dropFor_25 rfl (n := 26) rfl ?_
      obtain ⟨k6, h⟩ := h
      refine x_getR rfl dP_dropFor_26 fP_11 k6 (n := 29) rfl ?_
      refine x_iload dP_dropFor_29 rfl (n := 31) rfl ?_
      obtain ⟨a7, e8, h⟩ := h
      obtain ⟨n10, k9, h⟩ := h
      obtain ⟨c11, h⟩ := h
      refine x_aald e8 dP_dropFor_31 k9 (by decide) c11 (n := 32) rfl ?_
      obtain ⟨a12, e13, h⟩ := h
      obtain ⟨k14, h⟩ := h
      refine x_getI e13 dP_dropFor_32 fP_46 k14 (n := 35) rfl ?_
      refine x_iload_n dP_dropFor_35 rfl (n := 36) rfl ?_
      obtain ⟨h, h'⟩ := h
      refine x_icmp_ne (tgt := 48) dP_dropFor_36 rfl (n := 39) rfl (fun c16 => ?_) (fun c16 => ?_)
      · replace h := h c16
        refine x_iinc (v := x4 + 1) dP_dropFor_48 rfl rfl (by decide) (L' := [some (vR (some a0)), some (vI x1), some (vI x2), some (vI x3), some (vI (x4 + 1)), some (vI x5)]) rfl (n := 51) rfl ?_
        refine x_iinc (v := x5 + 1) dP_dropFor_51 rfl rfl (by decide) (L' := [some (vR (some a0)), some (vI x1), some (vI x2), some (vI x3), some (vI (x4 + 1)), some (vI (x5 + 1))]) rfl (n := 54) rfl ?_
        refine x_goto (tgt := 11) dP_dropFor_54 rfl ?_
        exact h
      · replace h := h' c16
        refine x_aload_n dP_dropFor_39 rfl (n := 40) rfl ?_
        refine x_iload dP_dropFor_40 rfl (n := 42) rfl ?_
        refine x_invV (m := m3) rfl dP_dropFor_42 gP_dropFor_42 (as := [vI x4]) (st := []) rfl rfl k6 rfl rfl (Nat.le_of_ble_eq_true rfl) (n := 45) rfl rfl rfl h (xBk.V fun m15 h => ?_)
        refine x_goto (tgt := 51) dP_dropFor_45 rfl ?_
        refine x_iinc (v := x5 + 1) dP_dropFor_51 rfl rfl (by decide) (L' := [some (vR (some a0)), some (vI x1), some (vI x2), some (vI x3), some (vI x4), some (vI (x5 + 1))]) rfl (n := 54) rfl ?_
        refine x_goto (tgt := 11) dP_dropFor_54 rfl ?_
        exact h
set_option maxRecDepth 100000 in
set_option maxHeartbeats 4000000 in
theorem bP_dropFor {l : Launch} {G : xG} {m : XM} {Q : XR → XM → Prop} {a0 : Nat} {x1 : Int32} {x2 : Int32} (hst : l.stackTraces = false)
    (h : kd m a0 = some (oB 3) ∧ WW l G xP_dropFor 11 [some (vR (some a0)), some (vI x1), some (vI x2), some (vI (gI m a0 1)), some (vI (0 : Int32)), some (vI (0 : Int32))] [] m 0 0 Q) :
    CC l G xP_dropFor [vR (some a0), vI x1, vI x2] m Q := by
  refine x_entry (by decide +kernel) rfl hst (Nat.le_of_ble_eq_true rfl) (L0 := [some (vR (some a0)), some (vI x1), some (vI x2), none, none, none]) rfl ?_
  refine x_aload_n dP_dropFor_0 rfl (n := 1) rfl ?_
  obtain ⟨k1, h⟩ := h
  refine x_getI rfl dP_dropFor_1 fP_17 k1 (n := 4) rfl ?_
  refine x_istore_n dP_dropFor_4 (by decide) (L' := [some (vR (some a0)), some (vI x1), some (vI x2), some (vI (gI m a0 1)), none, none]) rfl (n := 5) rfl ?_
  refine x_iconst (v := 0) dP_dropFor_5 (by decide) (n := 6) rfl ?_
  refine x_istore dP_dropFor_6 (by decide) (L' := [some (vR (some a0)), some (vI x1), some (vI x2), some (vI (gI m a0 1)), some (vI (0 : Int32)), none]) rfl (n := 8) rfl ?_
  refine x_iconst (v := 0) dP_dropFor_8 (by decide) (n := 9) rfl ?_
  refine x_istore dP_dropFor_9 (by decide) (L' := [some (vR (some a0)), some (vI x1), some (vI x2), some (vI (gI m a0 1)), some (vI (0 : Int32)), some (vI (0 : Int32))]) rfl (n := 11) rfl ?_
  exact h
set_option maxRecDepth 100000 in
set_option maxHeartbeats 4000000 in
theorem bP_add {l : Launch} {G : xG} {m : XM} {Q : XR → XM → Prop} {a0 : Nat} {o1 : Option Nat} (hst : l.stackTraces = false)
    (h : kd m a0 = some (oB 3) ∧ ∃ a2, gR m a0 0 = some a2 ∧ ∃ n5, kd m a2 = some (aR 3 n5) ∧ vp_in (gI m a0 1) n5 ∧ ∃ a7, o1 = some a7 ∧ kd m a7 = some (oB 1) ∧ ∀ m10, m10 = mR m a2 (gI m a0 1).toNatClampNeg (some a7) → ∀ m11, m11 = mI m10 a0 1 ((gI m a0 1) + (1 : Int32)) → CC l G xT_words [vR (some a7)] m11 (kI (fun v13 m12 => kd m12 a0 = some (oB 3) ∧ ∀ m15, m15 = mI m12 a0 2 ((gI m11 a0 2) + v13) → kd m12 a7 = some (oB 1) ∧ ∀ m17, m17 = mL m15 a0 3 ((gL m12 a0 3) ||| (gL m12 a7 3)) → Q (.inl none) m17) Q)) :
    CC l G xP_add [vR (some a0), vR o1] m Q := by
  refine x_entry (by decide +kernel) rfl hst (Nat.le_of_ble_eq_true rfl) (L0 := [some (vR (some a0)), some (vR o1)]) rfl ?_
  refine x_aload_n dP_add_0 rfl (n := 1) rfl ?_
  obtain ⟨k1, h⟩ := h
  refine x_getR rfl dP_add_1 fP_11 k1 (n := 4) rfl ?_
  refine x_aload_n dP_add_4 rfl (n := 5) rfl ?_
  refine x_getI rfl dP_add_5 fP_17 k1 (n := 8) rfl ?_
  refine x_aload_n dP_add_8 rfl (n := 9) rfl ?_
  obtain ⟨a2, e3, h⟩ := h
  obtain ⟨n5, k4, h⟩ := h
  obtain ⟨c6, h⟩ := h
  obtain ⟨a7, e8, h⟩ := h
  obtain ⟨k9, h⟩ := h
  replace h := h _ rfl
  refine x_aast e3 e8 dP_add_9 k4 (by decide) k9 c6 (n := 10) rfl ?_
  refine x_aload_n dP_add_10 rfl (n := 11) rfl ?_
  refine x_dup dP_add_11 rfl (n := 12) rfl ?_
  refine x_getI rfl dP_add_12 fP_17 k1 (n := 15) rfl ?_
  refine x_iconst (v := 1) dP_add_15 (by decide) (n := 16) rfl ?_
  refine x_iadd dP_add_16 (n := 17) rfl ?_
  replace h := h _ rfl
  refine x_putI rfl dP_add_17 pP_17 k1 rfl rfl (n := 20) rfl ?_
  refine x_aload_n dP_add_20 rfl (n := 21) rfl ?_
  refine x_dup dP_add_21 rfl (n := 22) rfl ?_
  refine x_getI rfl dP_add_22 fP_21 k1 (n := 25) rfl ?_
  refine x_aload_n dP_add_25 rfl (n := 26) rfl ?_
  refine x_invV (m := (mI (mR m a2 (gI m a0 1).toNatClampNeg (some a7)) a0 1 ((gI m a0 1) + (1 : Int32)))) e8 dP_add_26 gP_add_26 (as := []) (st := [vI (gI (mI (mR m a2 (gI m a0 1).toNatClampNeg (some a7)) a0 1 ((gI m a0 1) + (1 : Int32))) a0 2), vR (some a0)]) rfl rfl k9 rfl rfl (Nat.le_of_ble_eq_true rfl) (n := 29) rfl rfl rfl h (xBk.I fun v13 m12 h => ?_)
  refine x_iadd dP_add_29 (n := 30) rfl ?_
  obtain ⟨k14, h⟩ := h
  replace h := h _ rfl
  refine x_putI rfl dP_add_30 pP_21 k14 rfl rfl (n := 33) rfl ?_
  refine x_aload_n dP_add_33 rfl (n := 34) rfl ?_
  refine x_dup dP_add_34 rfl (n := 35) rfl ?_
  refine x_getL rfl dP_add_35 fP_24 k14 (n := 38) rfl ?_
  refine x_aload_n dP_add_38 rfl (n := 39) rfl ?_
  obtain ⟨k16, h⟩ := h
  refine x_getL e8 dP_add_39 fP_31 k16 (n := 42) rfl ?_
  refine x_lor dP_add_42 (n := 43) rfl ?_
  replace h := h _ rfl
  refine x_putL rfl dP_add_43 pP_24 k14 rfl rfl (n := 46) rfl ?_
  exact x_vret dP_add_46 rfl h
set_option maxRecDepth 100000 in
set_option maxHeartbeats 4000000 in
theorem bP_clearMarks_2 {l : Launch} {G : xG} {m : XM} {bc bs : Nat} {Q : XR → XM → Prop} {a0 : Nat} {x1 : Int32}
    (h : kd m a0 = some (oB 3) ∧ (((gI m a0 1) ≤ x1 → Q (.inl none) m) ∧ (¬ (gI m a0 1) ≤ x1 → ∃ a2, gR m a0 0 = some a2 ∧ ∃ n5, kd m a2 = some (aR 3 n5) ∧ vp_in x1 n5 ∧ ∃ a7, gR m a2 x1.toNatClampNeg = some a7 ∧ kd m a7 = some (oB 1) ∧ ∀ m10, m10 = mI m a7 5 (0 : Int32) → WW l G xP_clearMarks 2 [some (vR (some a0)), some (vI (x1 + 1))] [] m10 bc bs Q))) :
    WW l G xP_clearMarks 2 [some (vR (some a0)), some (vI x1)] [] m bc bs Q := by
  refine x_iload_n dP_clearMarks_2 rfl (n := 3) rfl ?_
  refine x_aload_n dP_clearMarks_3 rfl (n := 4) rfl ?_
  obtain ⟨k1, h⟩ := h
  refine x_getI rfl dP_clearMarks_4 fP_17 k1 (n := 7) rfl ?_
  obtain ⟨h, h'⟩ := h
  refine x_icmp_ge (tgt := 26) dP_clearMarks_7 rfl (n := 10) rfl (fun c11 => ?_) (fun c11 => ?_)
  · replace h := h c11
    exact x_vret dP_clearMarks_26 rfl h
  · replace h := h' c11
    refine x_aload_n dP_clearMarks_10 rfl (n := 11) rfl ?_
    refine x_getR rfl dP_clearMarks_11 fP_11 k1 (n := 14) rfl ?_
    refine x_iload_n dP_clearMarks_14 rfl (n := 15) rfl ?_
    obtain ⟨a2, e3, h⟩ := h
    obtain ⟨n5, k4, h⟩ := h
    obtain ⟨c6, h⟩ := h
    refine x_aald e3 dP_clearMarks_15 k4 (by decide) c6 (n := 16) rfl ?_
    refine x_iconst (v := 0) dP_clearMarks_16 (by decide) (n := 17) rfl ?_
    obtain ⟨a7, e8, h⟩ := h
    obtain ⟨k9, h⟩ := h
    replace h := h _ rfl
    refine x_putI e8 dP_clearMarks_17 pP_46 k9 (by decide) (by decide) (n := 20) rfl ?_
    refine x_iinc (v := x1 + 1) dP_clearMarks_20 rfl rfl (by decide) (L' := [some (vR (some a0)), some (vI (x1 + 1))]) rfl (n := 23) rfl ?_
    refine x_goto (tgt := 2) dP_clearMarks_23 rfl ?_
    exact h
set_option maxRecDepth 100000 in
set_option maxHeartbeats 4000000 in
theorem bP_clearMarks {l : Launch} {G : xG} {m : XM} {Q : XR → XM → Prop} {a0 : Nat} (hst : l.stackTraces = false)
    (h : WW l G xP_clearMarks 2 [some (vR (some a0)), some (vI (0 : Int32))] [] m 0 0 Q) :
    CC l G xP_clearMarks [vR (some a0)] m Q := by
  refine x_entry (by decide +kernel) rfl hst (Nat.le_of_ble_eq_true rfl) (L0 := [some (vR (some a0)), none]) rfl ?_
  refine x_iconst (v := 0) dP_clearMarks_0 (by decide) (n := 1) rfl ?_
  refine x_istore_n dP_clearMarks_1 (by decide) (L' := [some (vR (some a0)), some (vI (0 : Int32))]) rfl (n := 2) rfl ?_
  exact h
set_option maxRecDepth 100000 in
set_option maxHeartbeats 4000000 in
theorem bP_wipe_2 {l : Launch} {G : xG} {m : XM} {bc bs : Nat} {Q : XR → XM → Prop} {a0 : Nat} {x1 : Int32}
    (h : (((8 : Int32) ≤ x1 → kd m a0 = some (oB 3) ∧ ∀ m2, m2 = mI m a0 1 (0 : Int32) → ∀ m3, m3 = mI m2 a0 2 (0 : Int32) → ∀ m4, m4 = mL m3 a0 3 (0 : Int64) → Q (.inl none) m4) ∧ (¬ (8 : Int32) ≤ x1 → kd m a0 = some (oB 3) ∧ ∃ a6, gR m a0 0 = some a6 ∧ ∃ n9, kd m a6 = some (aR 3 n9) ∧ vp_in x1 n9 ∧ ∀ m11, m11 = mR m a6 x1.toNatClampNeg none → WW l G xP_wipe 2 [some (vR (some a0)), some (vI (x1 + 1))] [] m11 bc bs Q))) :
    WW l G xP_wipe 2 [some (vR (some a0)), some (vI x1)] [] m bc bs Q := by
  refine x_iload_n dP_wipe_2 rfl (n := 3) rfl ?_
  refine x_bipush (v := 8) dP_wipe_3 (by decide) (n := 5) rfl ?_
  obtain ⟨h, h'⟩ := h
  refine x_icmp_ge (tgt := 21) dP_wipe_5 rfl (n := 8) rfl (fun c12 => ?_) (fun c12 => ?_)
  · replace h := h c12
    refine x_aload_n dP_wipe_21 rfl (n := 22) rfl ?_
    refine x_iconst (v := 0) dP_wipe_22 (by decide) (n := 23) rfl ?_
    obtain ⟨k1, h⟩ := h
    replace h := h _ rfl
    refine x_putI rfl dP_wipe_23 pP_17 k1 rfl rfl (n := 26) rfl ?_
    refine x_aload_n dP_wipe_26 rfl (n := 27) rfl ?_
    refine x_iconst (v := 0) dP_wipe_27 (by decide) (n := 28) rfl ?_
    replace h := h _ rfl
    refine x_putI rfl dP_wipe_28 pP_21 k1 rfl rfl (n := 31) rfl ?_
    refine x_aload_n dP_wipe_31 rfl (n := 32) rfl ?_
    refine x_lconst (v := 0) dP_wipe_32 (by decide) (n := 33) rfl ?_
    replace h := h _ rfl
    refine x_putL rfl dP_wipe_33 pP_24 k1 rfl rfl (n := 36) rfl ?_
    exact x_vret dP_wipe_36 rfl h
  · replace h := h' c12
    refine x_aload_n dP_wipe_8 rfl (n := 9) rfl ?_
    obtain ⟨k5, h⟩ := h
    refine x_getR rfl dP_wipe_9 fP_11 k5 (n := 12) rfl ?_
    refine x_iload_n dP_wipe_12 rfl (n := 13) rfl ?_
    refine x_null dP_wipe_13 (n := 14) rfl ?_
    obtain ⟨a6, e7, h⟩ := h
    obtain ⟨n9, k8, h⟩ := h
    obtain ⟨c10, h⟩ := h
    replace h := h _ rfl
    refine x_aastN e7 dP_wipe_14 k8 (by decide) c10 (n := 15) rfl ?_
    refine x_iinc (v := x1 + 1) dP_wipe_15 rfl rfl (by decide) (L' := [some (vR (some a0)), some (vI (x1 + 1))]) rfl (n := 18) rfl ?_
    refine x_goto (tgt := 2) dP_wipe_18 rfl ?_
    exact h
set_option maxRecDepth 100000 in
set_option maxHeartbeats 4000000 in
theorem bP_wipe {l : Launch} {G : xG} {m : XM} {Q : XR → XM → Prop} {a0 : Nat} (hst : l.stackTraces = false)
    (h : WW l G xP_wipe 2 [some (vR (some a0)), some (vI (0 : Int32))] [] m 0 0 Q) :
    CC l G xP_wipe [vR (some a0)] m Q := by
  refine x_entry (by decide +kernel) rfl hst (Nat.le_of_ble_eq_true rfl) (L0 := [some (vR (some a0)), none]) rfl ?_
  refine x_iconst (v := 0) dP_wipe_0 (by decide) (n := 1) rfl ?_
  refine x_istore_n dP_wipe_1 (by decide) (L' := [some (vR (some a0)), some (vI (0 : Int32))]) rfl (n := 2) rfl ?_
  exact h
set_option maxRecDepth 100000 in
set_option maxHeartbeats 4000000 in
theorem bP_wordAt_4 {l : Launch} {G : xG} {m : XM} {bc bs : Nat} {Q : XR → XM → Prop} {a0 : Nat} {x1 : Int32} {x2 : Int32} {x3 : Int32}
    (h : kd m a0 = some (oB 3) ∧ (((gI m a0 1) ≤ x3 → Q (.inl (some (vI (0 : Int32)))) m) ∧ (¬ (gI m a0 1) ≤ x3 → ∃ a2, gR m a0 0 = some a2 ∧ ∃ n5, kd m a2 = some (aR 3 n5) ∧ vp_in x3 n5 ∧ ∃ a7, gR m a2 x3.toNatClampNeg = some a7 ∧ kd m a7 = some (oB 1) ∧ CC l G xT_words [vR (some a7)] m (kI (fun v11 m10 => (((x2 + v11) ≤ x1 → WW l G xP_wordAt 4 [some (vR (some a0)), some (vI x1), some (vI (x2 + v11)), some (vI (x3 + 1)), none] [] m10 bc bs Q) ∧ (¬ (x2 + v11) ≤ x1 → kd m10 a0 = some (oB 3) ∧ ∃ a13, gR m10 a0 0 = some a13 ∧ ∃ n16, kd m10 a13 = some (aR 3 n16) ∧ vp_in x3 n16 ∧ ∃ a18, gR m10 a13 x3.toNatClampNeg = some a18 ∧ kd m10 a18 = some (oB 1) ∧ CC l G xT_wordAt [vR (some a18), vI (x1 - x2)] m10 (kI (fun v22 m21 => Q (.inl (some (vI v22))) m21) Q)))) Q)))) :
    WW l G xP_wordAt 4 [some (vR (some a0)), some (vI x1), some (vI x2), some (vI x3), none] [] m bc bs Q := by
  refine x_iload_n dP_wordAt_4 rfl (n := 5) rfl ?_
  refine x_aload_n dP_wordAt_5 rfl (n := 6) rfl ?_
  obtain ⟨k1, h⟩ := h
  refine x_getI rfl dP_wordAt_6 fP_17 k1 (n := 9) rfl ?_
  obtain ⟨h, h'⟩ := h
  refine x_icmp_ge (tgt := 53) dP_wordAt_9 rfl (n := 12) rfl (fun c24 => ?_) (fun c24 => ?_)
  · replace h := h c24
    refine x_iconst (v := 0) dP_wordAt_53 (by decide) (n := 54) rfl ?_
    exact x_iret dP_wordAt_54 rfl h
  · replace h := h' c24
    refine x_iload_n dP_wordAt_12 rfl (n := 13) rfl ?_
    refine x_aload_n dP_wordAt_13 rfl (n := 14) rfl ?_
    refine x_getR rfl dP_wordAt_14 fP_11 k1 (n := 17) rfl ?_
    refine x_iload_n dP_wordAt_17 rfl (n := 18) rfl ?_
    obtain ⟨a2, e3, h⟩ := h
    obtain ⟨n5, k4, h⟩ := h
    obtain ⟨c6, h⟩ := h
    refine x_aald e3 dP_wordAt_18 k4 (by decide) c6 (n := 19) rfl ?_
    obtain ⟨a7, e8, h⟩ := h
    obtain ⟨k9, h⟩ := h
    refine x_invV (m := m) e8 dP_wordAt_19 gP_wordAt_19 (as := []) (st := [vI x2]) rfl rfl k9 rfl rfl (Nat.le_of_ble_eq_true rfl) (n := 22) rfl rfl rfl h (xBk.I fun v11 m10 h => ?_)
    refine x_iadd dP_wordAt_22 (n := 23) rfl ?_
    refine x_istore dP_wordAt_23 (by decide) (L' := [some (vR (some a0)), some (vI x1), some (vI x2), some (vI x3), some (vI (x2 + v11))]) rfl (n := 25) rfl ?_
    refine x_iload_n dP_wordAt_25 rfl (n := 26) rfl ?_
    refine x_iload dP_wordAt_26 rfl (n := 28) rfl ?_
    obtain ⟨h, h'⟩ := h
    refine x_icmp_ge (tgt := 44) dP_wordAt_28 rfl (n := 31) rfl (fun c23 => ?_) (fun c23 => ?_)
    · replace h := h c23
      refine x_iload dP_wordAt_44 rfl (n := 46) rfl ?_
      refine x_istore_n dP_wordAt_46 (by decide) (L' := [some (vR (some a0)), some (vI x1), some (vI (x2 + v11)), some (vI x3), some (vI (x2 + v11))]) rfl (n := 47) rfl ?_
      refine x_iinc (v := x3 + 1) dP_wordAt_47 rfl rfl (by decide) (L' := [some (vR (some a0)), some (vI x1), some (vI (x2 + v11)), some (vI (x3 + 1)), some (vI (x2 + v11))]) rfl (n := 50) rfl ?_
      refine x_goto (tgt := 4) dP_wordAt_50 rfl ?_
      exact x_weak (b := [true, true, true, true, false]) rfl h
    · replace h := h' c23
      refine x_aload_n dP_wordAt_31 rfl (n := 32) rfl ?_
      obtain ⟨k12, h⟩ := h
      refine x_getR rfl dP_wordAt_32 fP_11 k12 (n := 35) rfl ?_
      refine x_iload_n dP_wordAt_35 rfl (n := 36) rfl ?_
      obtain ⟨a13, e14, h⟩ := h
      obtain ⟨n16, k15, h⟩ := h
      obtain ⟨c17, h⟩ := h
      refine x_aald e14 dP_wordAt_36 k15 (by decide) c17 (n := 37) rfl ?_
      refine x_iload_n dP_wordAt_37 rfl (n := 38) rfl ?_
      refine x_iload_n dP_wordAt_38 rfl (n := 39) rfl ?_
      refine x_isub dP_wordAt_39 (n := 40) rfl ?_
      obtain ⟨a18, e19, h⟩ := h
      obtain ⟨k20, h⟩ := h
      refine x_invV (m := m10) e19 dP_wordAt_40 gP_wordAt_40 (as := [vI (x1 - x2)]) (st := []) rfl rfl k20 rfl rfl (Nat.le_of_ble_eq_true rfl) (n := 43) rfl rfl rfl h (xBk.I fun v22 m21 h => ?_)
      exact x_iret dP_wordAt_43 rfl h
set_option maxRecDepth 100000 in
set_option maxHeartbeats 4000000 in
theorem bP_wordAt {l : Launch} {G : xG} {m : XM} {Q : XR → XM → Prop} {a0 : Nat} {x1 : Int32} (hst : l.stackTraces = false)
    (h : WW l G xP_wordAt 4 [some (vR (some a0)), some (vI x1), some (vI (0 : Int32)), some (vI (0 : Int32)), none] [] m 0 0 Q) :
    CC l G xP_wordAt [vR (some a0), vI x1] m Q := by
  refine x_entry (by decide +kernel) rfl hst (Nat.le_of_ble_eq_true rfl) (L0 := [some (vR (some a0)), some (vI x1), none, none, none]) rfl ?_
  refine x_iconst (v := 0) dP_wordAt_0 (by decide) (n := 1) rfl ?_
  refine x_istore_n dP_wordAt_1 (by decide) (L' := [some (vR (some a0)), some (vI x1), some (vI (0 : Int32)), none, none]) rfl (n := 2) rfl ?_
  refine x_iconst (v := 0) dP_wordAt_2 (by decide) (n := 3) rfl ?_
  refine x_istore_n dP_wordAt_3 (by decide) (L' := [some (vR (some a0)), some (vI x1), some (vI (0 : Int32)), some (vI (0 : Int32)), none]) rfl (n := 4) rfl ?_
  exact h
end
section
set_option maxRecDepth 100000 in
set_option maxHeartbeats 4000000 in
theorem bT_init {l : Launch} {G : xG} {m : XM} {Q : XR → XM → Prop} {a0 : Nat} {x1 : Int64} {o3 : Option Nat} (hst : l.stackTraces = false)
    (h : kd m a0 = some (oB 1) ∧ ∀ m2, m2 = mI m a0 4 (0 : Int32) → ∀ m3, m3 = mI m2 a0 5 (0 : Int32) → CC l G xC_mix [vL x1] m3 (kL (fun v5 m4 => kd m4 a0 = some (oB 1) ∧ ∀ m7, m7 = mL m4 a0 0 x1 → ∀ m8, m8 = mR m7 a0 1 o3 → CC l G xC_setNumber [vL v5] m8 (kI (fun v10 m9 => kd m9 a0 = some (oB 1) ∧ ∀ m12, m12 = mI m9 a0 2 v10 → CC l G xC_filterBit [vL v5] m12 (kL (fun v14 m13 => kd m13 a0 = some (oB 1) ∧ ∀ m16, m16 = mL m13 a0 3 v14 → Q (.inl none) m16) xNo)) xNo)) xNo)) :
    CC l G xT_init [vR (some a0), vL x1, vR o3] m Q := by
  refine x_entry (by decide +kernel) rfl hst (Nat.le_of_ble_eq_true rfl) (L0 := [some (vR (some a0)), some (vL x1), none, some (vR o3), none, none]) rfl ?_
  refine x_aload_n dT_init_0 rfl (n := 1) rfl ?_
  refine x_objInit dT_init_1 w_311 w_58 w_59 (by decide) (by decide) (n := 4) rfl ?_
  refine x_aload_n dT_init_4 rfl (n := 5) rfl ?_
  refine x_iconst (v := 0) dT_init_5 (by decide) (n := 6) rfl ?_
  obtain ⟨k1, h⟩ := h
  replace h := h _ rfl
  refine x_putI rfl dT_init_6 pT_9 k1 rfl rfl (n := 9) rfl ?_
  refine x_aload_n dT_init_9 rfl (n := 10) rfl ?_
  refine x_iconst (v := 0) dT_init_10 (by decide) (n := 11) rfl ?_
  replace h := h _ rfl
  refine x_putI rfl dT_init_11 pT_15 k1 (by decide) (by decide) (n := 14) rfl ?_
  refine x_lload_n dT_init_14 rfl (n := 15) rfl ?_
  refine x_invSN (m := (mI (mI m a0 4 (0 : Int32)) a0 5 (0 : Int32))) dT_init_15 gT_init_15 (as := [vL x1]) (st := []) rfl rfl (Nat.le_of_ble_eq_true rfl) (n := 18) rfl rfl rfl h kL.no (xBk.J0 fun v5 m4 h => ?_)
  refine x_lstore dT_init_18 (by decide) (L' := [some (vR (some a0)), some (vL x1), none, some (vR o3), some (vL v5), none]) rfl (n := 20) rfl ?_
  refine x_aload_n dT_init_20 rfl (n := 21) rfl ?_
  refine x_lload_n dT_init_21 rfl (n := 22) rfl ?_
  obtain ⟨k6, h⟩ := h
  replace h := h _ rfl
  refine x_putL rfl dT_init_22 pT_23 k6 rfl rfl (n := 25) rfl ?_
  refine x_aload_n dT_init_25 rfl (n := 26) rfl ?_
  refine x_aload_n dT_init_26 rfl (n := 27) rfl ?_
  replace h := h _ rfl
  refine x_putR rfl dT_init_27 pT_27 k6 (fun o => by cases o <;> rfl) (fun o => by cases o <;> rfl) (n := 30) rfl ?_
  refine x_aload_n dT_init_30 rfl (n := 31) rfl ?_
  refine x_lload dT_init_31 rfl (n := 33) rfl ?_
  refine x_invSN (m := (mR (mL m4 a0 0 x1) a0 1 o3)) dT_init_33 gT_init_33 (as := [vL v5]) (st := [vR (some a0)]) rfl rfl (Nat.le_of_ble_eq_true rfl) (n := 36) rfl rfl rfl h kI.no (xBk.I0 fun v10 m9 h => ?_)
  obtain ⟨k11, h⟩ := h
  replace h := h _ rfl
  refine x_putI rfl dT_init_36 pT_35 k11 rfl rfl (n := 39) rfl ?_
  refine x_aload_n dT_init_39 rfl (n := 40) rfl ?_
  refine x_lload dT_init_40 rfl (n := 42) rfl ?_
  refine x_invSN (m := (mI m9 a0 2 v10)) dT_init_42 gT_init_42 (as := [vL v5]) (st := [vR (some a0)]) rfl rfl (Nat.le_of_ble_eq_true rfl) (n := 45) rfl rfl rfl h kL.no (xBk.J0 fun v14 m13 h => ?_)
  obtain ⟨k15, h⟩ := h
  replace h := h _ rfl
  refine x_putL rfl dT_init_45 pT_41 k15 rfl rfl (n := 48) rfl ?_
  exact x_vret dT_init_48 rfl h
set_option maxRecDepth 100000 in
set_option maxHeartbeats 4000000 in
theorem bT_words {l : Launch} {G : xG} {m : XM} {Q : XR → XM → Prop} {a0 : Nat} (hst : l.stackTraces = false)
    (h : kd m a0 = some (oB 1) ∧ ∃ a2, gR m a0 1 = some a2 ∧ ∃ n5, kd m a2 = some (aR 0 n5) ∧ Q (.inl (some (vI ((3 : Int32) + (Int32.ofNat n5))))) m) :
    CC l G xT_words [vR (some a0)] m Q := by
  refine x_entry (by decide +kernel) rfl hst (Nat.le_of_ble_eq_true rfl) (L0 := [some (vR (some a0))]) rfl ?_
  refine x_iconst (v := 3) dT_words_0 (by decide) (n := 1) rfl ?_
  refine x_aload_n dT_words_1 rfl (n := 2) rfl ?_
  obtain ⟨k1, h⟩ := h
  refine x_getR rfl dT_words_2 fT_27 k1 (n := 5) rfl ?_
  obtain ⟨a2, e3, h⟩ := h
  obtain ⟨n5, k4, h⟩ := h
  refine x_alen e3 dT_words_5 k4 (by decide) (n := 6) rfl ?_
  refine x_iadd dT_words_6 (n := 7) rfl ?_
  exact x_iret dT_words_7 rfl h
set_option maxRecDepth 100000 in
set_option maxHeartbeats 4000000 in
theorem bT_wordAt {l : Launch} {G : xG} {m : XM} {Q : XR → XM → Prop} {a0 : Nat} {x1 : Int32} (hst : l.stackTraces = false)
    (h : ((x1 = (0 : Int32) → kd m a0 = some (oB 1) ∧ ∃ a3, gR m a0 1 = some a3 ∧ ∃ n6, kd m a3 = some (aR 0 n6) ∧ Q (.inl (some (vI (Int32.ofNat n6)))) m) ∧ (x1 = (1 : Int32) → kd m a0 = some (oB 1) ∧ Q (.inl (some (vI ((jushr (gL m a0 0) (32 : Int32)).toInt32)))) m) ∧ (x1 = (2 : Int32) → kd m a0 = some (oB 1) ∧ Q (.inl (some (vI ((gL m a0 0).toInt32)))) m) ∧ (x1.toInt < 0 ∨ 2 < x1.toInt → kd m a0 = some (oB 1) ∧ ∃ a10, gR m a0 1 = some a10 ∧ ∃ n13, kd m a10 = some (aR 0 n13) ∧ vp_in (x1 - (3 : Int32)) n13 ∧ Q (.inl (some (vI (gI m a10 (x1 - (3 : Int32)).toNatClampNeg)))) m))) :
    CC l G xT_wordAt [vR (some a0), vI x1] m Q := by
  refine x_entry (by decide +kernel) rfl hst (Nat.le_of_ble_eq_true rfl) (L0 := [some (vR (some a0)), some (vI x1)]) rfl ?_
  refine x_iload_n dT_wordAt_0 rfl (n := 1) rfl ?_
  obtain ⟨h15, h16, h17, h18⟩ := h
  rcases sw3 x1 with c1 | c1 | c1 | c1
  · refine x_tableIn (tgt := 28) dT_wordAt_1 (by rw [c1]; decide) (by rw [c1]; decide) (by rw [c1]; rfl) rfl ?_
    replace h := h15 c1
    refine x_aload_n dT_wordAt_28 rfl (n := 29) rfl ?_
    obtain ⟨k2, h⟩ := h
    refine x_getR rfl dT_wordAt_29 fT_27 k2 (n := 32) rfl ?_
    obtain ⟨a3, e4, h⟩ := h
    obtain ⟨n6, k5, h⟩ := h
    refine x_alen e4 dT_wordAt_32 k5 (by decide) (n := 33) rfl ?_
    exact x_iret dT_wordAt_33 rfl h
  · refine x_tableIn (tgt := 34) dT_wordAt_1 (by rw [c1]; decide) (by rw [c1]; decide) (by rw [c1]; rfl) rfl ?_
    replace h := h16 c1
    refine x_aload_n dT_wordAt_34 rfl (n := 35) rfl ?_
    obtain ⟨k7, h⟩ := h
    refine x_getL rfl dT_wordAt_35 fT_23 k7 (n := 38) rfl ?_
    refine x_bipush (v := 32) dT_wordAt_38 (by decide) (n := 40) rfl ?_
    refine x_lushr dT_wordAt_40 (n := 41) rfl ?_
    refine x_l2i dT_wordAt_41 (n := 42) rfl ?_
    exact x_iret dT_wordAt_42 rfl h
  · refine x_tableIn (tgt := 43) dT_wordAt_1 (by rw [c1]; decide) (by rw [c1]; decide) (by rw [c1]; rfl) rfl ?_
    replace h := h17 c1
    refine x_aload_n dT_wordAt_43 rfl (n := 44) rfl ?_
    obtain ⟨k8, h⟩ := h
    refine x_getL rfl dT_wordAt_44 fT_23 k8 (n := 47) rfl ?_
    refine x_l2i dT_wordAt_47 (n := 48) rfl ?_
    exact x_iret dT_wordAt_48 rfl h
  · refine x_tableOut (tgt := 49) dT_wordAt_1 c1 rfl ?_
    replace h := h18 c1
    refine x_aload_n dT_wordAt_43 rfl (n := 44) rfl ?_
    obtain ⟨k8, h⟩ := h
    refine x_getL rfl dT_wordAt_44 fT_23 k8 (n := 47) rfl ?_
    refine x_l2i dT_wordAt_47 (n := 48) rfl ?_
    exact x_iret dT_wordAt_48 rfl h
end
