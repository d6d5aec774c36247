section
-- ===== PART A: goes FIRST, ahead of the names: the tables' words, and 'selects' of the private methods out of them =====
/-- a private method of a class that the tables say can be made, by its rows of tables_1 -/
def lw_okq (q : MethodName × Nat) : Prop := (q.1.cls ≠ "java/lang/invoke/MethodHandle" ∧ q.1.cls ≠ "java/lang/invoke/VarHandle") ∧ Cond.instantiable q.1.cls q.2 ∈ tables_1 ∧ Cond.privateMethod q.1 ∈ tables_1 ∧ Cond.instanceMethod q.1 ∈ tables_1
theorem lw_p0 : lw_okq (⟨"java/lang/Throwable", "fillInStackTrace", "(I)Ljava/lang/Throwable;"⟩, 6) := ⟨⟨by decide +kernel, by decide +kernel⟩, List.mem_of_getElem? (i := 183) (by decide +kernel), List.mem_of_getElem? (i := 181) (by decide +kernel), List.mem_of_getElem? (i := 182) (by decide +kernel)⟩
theorem lw_p1 : lw_okq (⟨"java/util/ArrayList", "add", "(Ljava/lang/Object;[Ljava/lang/Object;I)V"⟩, 3) := ⟨⟨by decide +kernel, by decide +kernel⟩, List.mem_of_getElem? (i := 32) (by decide +kernel), List.mem_of_getElem? (i := 264) (by decide +kernel), List.mem_of_getElem? (i := 265) (by decide +kernel)⟩
theorem lw_p2 : lw_okq (⟨"java/util/ArrayList", "grow", "()[Ljava/lang/Object;"⟩, 3) := ⟨⟨by decide +kernel, by decide +kernel⟩, List.mem_of_getElem? (i := 32) (by decide +kernel), List.mem_of_getElem? (i := 268) (by decide +kernel), List.mem_of_getElem? (i := 269) (by decide +kernel)⟩
theorem lw_p3 : lw_okq (⟨"java/util/ArrayList", "grow", "(I)[Ljava/lang/Object;"⟩, 3) := ⟨⟨by decide +kernel, by decide +kernel⟩, List.mem_of_getElem? (i := 32) (by decide +kernel), List.mem_of_getElem? (i := 272) (by decide +kernel), List.mem_of_getElem? (i := 273) (by decide +kernel)⟩
theorem lw_p4 : lw_okq (⟨"LockHouse", "cardAt", "(I)LLockHouse$Card;"⟩, 6) := ⟨⟨by decide +kernel, by decide +kernel⟩, List.mem_of_getElem? (i := 24) (by decide +kernel), List.mem_of_getElem? (i := 326) (by decide +kernel), List.mem_of_getElem? (i := 327) (by decide +kernel)⟩
theorem lw_p5 : lw_okq (⟨"LockHouse", "isCard", "(I)Z"⟩, 6) := ⟨⟨by decide +kernel, by decide +kernel⟩, List.mem_of_getElem? (i := 24) (by decide +kernel), List.mem_of_getElem? (i := 330) (by decide +kernel), List.mem_of_getElem? (i := 331) (by decide +kernel)⟩
theorem lw_p6 : lw_okq (⟨"LockHouse$Card", "putNext", "(LLockHouse$Image;II)V"⟩, 8) := ⟨⟨by decide +kernel, by decide +kernel⟩, List.mem_of_getElem? (i := 213) (by decide +kernel), List.mem_of_getElem? (i := 425) (by decide +kernel), List.mem_of_getElem? (i := 426) (by decide +kernel)⟩
theorem lw_p7 : lw_okq (⟨"LockHouse$EntryList", "holds", "(I)Z"⟩, 1) := ⟨⟨by decide +kernel, by decide +kernel⟩, List.mem_of_getElem? (i := 58) (by decide +kernel), List.mem_of_getElem? (i := 437) (by decide +kernel), List.mem_of_getElem? (i := 438) (by decide +kernel)⟩
theorem lw_p8 : lw_okq (⟨"LockHouse", "doorAt", "(I)LLockHouse$Door;"⟩, 6) := ⟨⟨by decide +kernel, by decide +kernel⟩, List.mem_of_getElem? (i := 24) (by decide +kernel), List.mem_of_getElem? (i := 450) (by decide +kernel), List.mem_of_getElem? (i := 451) (by decide +kernel)⟩
theorem lw_p9 : lw_okq (⟨"LockHouse", "isDoor", "(I)Z"⟩, 6) := ⟨⟨by decide +kernel, by decide +kernel⟩, List.mem_of_getElem? (i := 24) (by decide +kernel), List.mem_of_getElem? (i := 454) (by decide +kernel), List.mem_of_getElem? (i := 455) (by decide +kernel)⟩
theorem lw_p10 : lw_okq (⟨"LockHouse", "present", "(LLockHouse$Card;LLockHouse$Door;I)I"⟩, 6) := ⟨⟨by decide +kernel, by decide +kernel⟩, List.mem_of_getElem? (i := 24) (by decide +kernel), List.mem_of_getElem? (i := 483) (by decide +kernel), List.mem_of_getElem? (i := 484) (by decide +kernel)⟩
theorem lw_p11 : lw_okq (⟨"LockHouse$Door", "startsRun", "(ILLockHouse$EntryList;)Z"⟩, 5) := ⟨⟨by decide +kernel, by decide +kernel⟩, List.mem_of_getElem? (i := 71) (by decide +kernel), List.mem_of_getElem? (i := 600) (by decide +kernel), List.mem_of_getElem? (i := 601) (by decide +kernel)⟩
theorem lw_p12 : lw_okq (⟨"LockHouseModel", "noCard", "(I)Z"⟩, 18) := ⟨⟨by decide +kernel, by decide +kernel⟩, List.mem_of_getElem? (i := 665) (by decide +kernel), List.mem_of_getElem? (i := 744) (by decide +kernel), List.mem_of_getElem? (i := 745) (by decide +kernel)⟩
theorem lw_p13 : lw_okq (⟨"LockHouseModel", "write", "(IIII)V"⟩, 18) := ⟨⟨by decide +kernel, by decide +kernel⟩, List.mem_of_getElem? (i := 665) (by decide +kernel), List.mem_of_getElem? (i := 756) (by decide +kernel), List.mem_of_getElem? (i := 757) (by decide +kernel)⟩
theorem lw_p14 : lw_okq (⟨"LockHouseModel", "tells", "(IIII)Z"⟩, 18) := ⟨⟨by decide +kernel, by decide +kernel⟩, List.mem_of_getElem? (i := 665) (by decide +kernel), List.mem_of_getElem? (i := 760) (by decide +kernel), List.mem_of_getElem? (i := 761) (by decide +kernel)⟩
theorem lw_p15 : lw_okq (⟨"LockHouseModel", "count", "(I)I"⟩, 18) := ⟨⟨by decide +kernel, by decide +kernel⟩, List.mem_of_getElem? (i := 665) (by decide +kernel), List.mem_of_getElem? (i := 764) (by decide +kernel), List.mem_of_getElem? (i := 765) (by decide +kernel)⟩
def lw_privs_1 : List (MethodName × Nat) := [(⟨"java/lang/Throwable", "fillInStackTrace", "(I)Ljava/lang/Throwable;"⟩, 6), (⟨"java/util/ArrayList", "add", "(Ljava/lang/Object;[Ljava/lang/Object;I)V"⟩, 3), (⟨"java/util/ArrayList", "grow", "()[Ljava/lang/Object;"⟩, 3), (⟨"java/util/ArrayList", "grow", "(I)[Ljava/lang/Object;"⟩, 3), (⟨"LockHouse", "cardAt", "(I)LLockHouse$Card;"⟩, 6), (⟨"LockHouse", "isCard", "(I)Z"⟩, 6), (⟨"LockHouse$Card", "putNext", "(LLockHouse$Image;II)V"⟩, 8), (⟨"LockHouse$EntryList", "holds", "(I)Z"⟩, 1), (⟨"LockHouse", "doorAt", "(I)LLockHouse$Door;"⟩, 6), (⟨"LockHouse", "isDoor", "(I)Z"⟩, 6), (⟨"LockHouse", "present", "(LLockHouse$Card;LLockHouse$Door;I)I"⟩, 6), (⟨"LockHouse$Door", "startsRun", "(ILLockHouse$EntryList;)Z"⟩, 5), (⟨"LockHouseModel", "noCard", "(I)Z"⟩, 18), (⟨"LockHouseModel", "write", "(IIII)V"⟩, 18), (⟨"LockHouseModel", "tells", "(IIII)Z"⟩, 18), (⟨"LockHouseModel", "count", "(I)I"⟩, 18)]
theorem lw_r1 : ∀ q ∈ lw_privs_1, lw_okq q := List.forall_mem_cons.mpr ⟨lw_p0, List.forall_mem_cons.mpr ⟨lw_p1, List.forall_mem_cons.mpr ⟨lw_p2, List.forall_mem_cons.mpr ⟨lw_p3, List.forall_mem_cons.mpr ⟨lw_p4, List.forall_mem_cons.mpr ⟨lw_p5, List.forall_mem_cons.mpr ⟨lw_p6, List.forall_mem_cons.mpr ⟨lw_p7, List.forall_mem_cons.mpr ⟨lw_p8, List.forall_mem_cons.mpr ⟨lw_p9, List.forall_mem_cons.mpr ⟨lw_p10, List.forall_mem_cons.mpr ⟨lw_p11, List.forall_mem_cons.mpr ⟨lw_p12, List.forall_mem_cons.mpr ⟨lw_p13, List.forall_mem_cons.mpr ⟨lw_p14, List.forall_mem_cons.mpr ⟨lw_p15, fun _ h => absurd h List.not_mem_nil⟩⟩⟩⟩⟩⟩⟩⟩⟩⟩⟩⟩⟩⟩⟩⟩
theorem lw_p16 : lw_okq (⟨"LockHouseModel", "current", "(I)I"⟩, 18) := ⟨⟨by decide +kernel, by decide +kernel⟩, List.mem_of_getElem? (i := 665) (by decide +kernel), List.mem_of_getElem? (i := 768) (by decide +kernel), List.mem_of_getElem? (i := 769) (by decide +kernel)⟩
theorem lw_p17 : lw_okq (⟨"LockHouseModel", "whole", "(II)Z"⟩, 18) := ⟨⟨by decide +kernel, by decide +kernel⟩, List.mem_of_getElem? (i := 665) (by decide +kernel), List.mem_of_getElem? (i := 772) (by decide +kernel), List.mem_of_getElem? (i := 773) (by decide +kernel)⟩
theorem lw_p18 : lw_okq (⟨"LockHouseModel", "wordAt", "(III)I"⟩, 18) := ⟨⟨by decide +kernel, by decide +kernel⟩, List.mem_of_getElem? (i := 665) (by decide +kernel), List.mem_of_getElem? (i := 776) (by decide +kernel), List.mem_of_getElem? (i := 777) (by decide +kernel)⟩
theorem lw_p19 : lw_okq (⟨"LockHouseModel", "sequence", "(II)I"⟩, 18) := ⟨⟨by decide +kernel, by decide +kernel⟩, List.mem_of_getElem? (i := 665) (by decide +kernel), List.mem_of_getElem? (i := 780) (by decide +kernel), List.mem_of_getElem? (i := 781) (by decide +kernel)⟩
theorem lw_p20 : lw_okq (⟨"LockHouseModel", "first", "(I)I"⟩, 18) := ⟨⟨by decide +kernel, by decide +kernel⟩, List.mem_of_getElem? (i := 665) (by decide +kernel), List.mem_of_getElem? (i := 784) (by decide +kernel), List.mem_of_getElem? (i := 785) (by decide +kernel)⟩
theorem lw_p21 : lw_okq (⟨"LockHouseModel", "seen", "(I)I"⟩, 18) := ⟨⟨by decide +kernel, by decide +kernel⟩, List.mem_of_getElem? (i := 665) (by decide +kernel), List.mem_of_getElem? (i := 788) (by decide +kernel), List.mem_of_getElem? (i := 789) (by decide +kernel)⟩
theorem lw_p22 : lw_okq (⟨"LockHouseModel", "give", "(IIII)V"⟩, 18) := ⟨⟨by decide +kernel, by decide +kernel⟩, List.mem_of_getElem? (i := 665) (by decide +kernel), List.mem_of_getElem? (i := 792) (by decide +kernel), List.mem_of_getElem? (i := 793) (by decide +kernel)⟩
theorem lw_p23 : lw_okq (⟨"LockHouseModel", "visitAt", "(III)I"⟩, 18) := ⟨⟨by decide +kernel, by decide +kernel⟩, List.mem_of_getElem? (i := 665) (by decide +kernel), List.mem_of_getElem? (i := 807) (by decide +kernel), List.mem_of_getElem? (i := 808) (by decide +kernel)⟩
theorem lw_p24 : lw_okq (⟨"LockHouseModel", "revokedAt", "(II)Z"⟩, 18) := ⟨⟨by decide +kernel, by decide +kernel⟩, List.mem_of_getElem? (i := 665) (by decide +kernel), List.mem_of_getElem? (i := 811) (by decide +kernel), List.mem_of_getElem? (i := 812) (by decide +kernel)⟩
theorem lw_p25 : lw_okq (⟨"LockHouseModel", "greatest", "(I)I"⟩, 18) := ⟨⟨by decide +kernel, by decide +kernel⟩, List.mem_of_getElem? (i := 665) (by decide +kernel), List.mem_of_getElem? (i := 815) (by decide +kernel), List.mem_of_getElem? (i := 816) (by decide +kernel)⟩
theorem lw_p26 : lw_okq (⟨"LockHouseModel", "complete", "(I)I"⟩, 18) := ⟨⟨by decide +kernel, by decide +kernel⟩, List.mem_of_getElem? (i := 665) (by decide +kernel), List.mem_of_getElem? (i := 843) (by decide +kernel), List.mem_of_getElem? (i := 844) (by decide +kernel)⟩
theorem lw_p27 : lw_okq (⟨"LockHouseModel", "marks", "(I)I"⟩, 18) := ⟨⟨by decide +kernel, by decide +kernel⟩, List.mem_of_getElem? (i := 665) (by decide +kernel), List.mem_of_getElem? (i := 847) (by decide +kernel), List.mem_of_getElem? (i := 848) (by decide +kernel)⟩
theorem lw_p28 : lw_okq (⟨"LockHouseModel", "runs", "(I)I"⟩, 18) := ⟨⟨by decide +kernel, by decide +kernel⟩, List.mem_of_getElem? (i := 665) (by decide +kernel), List.mem_of_getElem? (i := 851) (by decide +kernel), List.mem_of_getElem? (i := 852) (by decide +kernel)⟩
def lw_privs_2 : List (MethodName × Nat) := [(⟨"LockHouseModel", "current", "(I)I"⟩, 18), (⟨"LockHouseModel", "whole", "(II)Z"⟩, 18), (⟨"LockHouseModel", "wordAt", "(III)I"⟩, 18), (⟨"LockHouseModel", "sequence", "(II)I"⟩, 18), (⟨"LockHouseModel", "first", "(I)I"⟩, 18), (⟨"LockHouseModel", "seen", "(I)I"⟩, 18), (⟨"LockHouseModel", "give", "(IIII)V"⟩, 18), (⟨"LockHouseModel", "visitAt", "(III)I"⟩, 18), (⟨"LockHouseModel", "revokedAt", "(II)Z"⟩, 18), (⟨"LockHouseModel", "greatest", "(I)I"⟩, 18), (⟨"LockHouseModel", "complete", "(I)I"⟩, 18), (⟨"LockHouseModel", "marks", "(I)I"⟩, 18), (⟨"LockHouseModel", "runs", "(I)I"⟩, 18)]
theorem lw_r2 : ∀ q ∈ lw_privs_2, lw_okq q := List.forall_mem_cons.mpr ⟨lw_p16, List.forall_mem_cons.mpr ⟨lw_p17, List.forall_mem_cons.mpr ⟨lw_p18, List.forall_mem_cons.mpr ⟨lw_p19, List.forall_mem_cons.mpr ⟨lw_p20, List.forall_mem_cons.mpr ⟨lw_p21, List.forall_mem_cons.mpr ⟨lw_p22, List.forall_mem_cons.mpr ⟨lw_p23, List.forall_mem_cons.mpr ⟨lw_p24, List.forall_mem_cons.mpr ⟨lw_p25, List.forall_mem_cons.mpr ⟨lw_p26, List.forall_mem_cons.mpr ⟨lw_p27, List.forall_mem_cons.mpr ⟨lw_p28, fun _ h => absurd h List.not_mem_nil⟩⟩⟩⟩⟩⟩⟩⟩⟩⟩⟩⟩⟩
def lw_privs : List (MethodName × Nat) := lw_privs_1 ++ (lw_privs_2)
def lw_tbl : List Cond := k2_sels lw_privs ++ tables_1
theorem lw_privs_ok : ∀ q ∈ lw_privs, lw_okq q := by
  show ∀ q ∈ lw_privs_1 ++ (lw_privs_2), lw_okq q
  exact List.forall_mem_append.mpr ⟨lw_r1, lw_r2⟩
end
section
/-! ===== BEGIN words of one list among another's, by their places ===== -/
theorem goodIn_r {big : List Cond} (ws : List Cond) (ps : List Nat) (hp : ws = ps.filterMap (fun i => big[i]?)) (h : ws.all goodWord = true) : GoodIn big ws := by
  intro w hw
  have h1 := List.all_eq_true.mp h w hw
  rw [hp] at hw
  obtain ⟨i, -, hi⟩ := List.mem_filterMap.mp hw
  have hm : w ∈ big := by first | exact List.mem_of_getElem? hi | exact List.getElem?_mem hi
  exact ⟨hm, good_of_word h1⟩
theorem goodIn_app {big a b : List Cond} (ha : GoodIn big a) (hb : GoodIn big b) : GoodIn big (a ++ b) := fun w h => (List.mem_append.mp h).elim (ha w) (hb w)
theorem goodIn_ca {big a b : List Cond} {c : Cond} (ha : GoodIn big (c :: a)) (hb : GoodIn big b) : GoodIn big (c :: (a ++ b)) := fun w h => (List.mem_cons.mp h).elim (fun e => ha w (List.mem_cons.mpr (Or.inl e))) (fun h => (List.mem_append.mp h).elim (fun h => ha w (List.mem_cons.mpr (Or.inr h))) (hb w))
theorem goodIn_sub {big ws : List Cond} (hm : ∀ w ∈ ws, w ∈ big) (h : ws.all goodWord = true) : GoodIn big ws := fun w hw => ⟨hm w hw, good_of_word (List.all_eq_true.mp h w hw)⟩
/-! ===== END ===== -/

/-! ===== BEGIN exceptions that leave a method, and their catching by the caller (launches without stack traces) ===== -/
section VXA
/-! The laws vx_back, vx_callV, vx_callS, vx_callSW, vx_throw0, vx_throwS follow proofs of the library, with one case more: JvmDerived/Free/Laws.lean (Back.of_free), Shelf42/LK1.lean (callV, callS), Shelf/KitTraced.lean (throwNew0V, throwNewS). -/
/-- where a method has thrown q: the class by its name, the cell, what was written, the world -/
def vx_T (XC : String → State → State → Prop) (st : State) (q : Addr) (t : State) (mc ms : Nat) (free : Addr → Prop) : Prop :=
  ∃ (E : String) (ce : Cell) (L : List Loc), XC E st t ∧ t.heap[q]? = some ce ∧ ce.vm = .none ∧ st.vm.findClass E = some ce.cls ∧ st.WarmedH t.vm ∧ st.sameButNew ({ t with vm := st.vm } : State) L mc ms ∧ ∀ z ∈ L, free z.base
def vx_Q (Qc : Array Value → State → Outcome → State → Prop) (XC : String → State → State → Prop) (mc ms : Nat) (free : Addr → Prop) : Array Value → State → Outcome → State → Prop := fun a st o t =>
  (Qc a st o t ∧ ∃ L, FrameEnd st o t L mc ms ∧ ∀ q ∈ L, free q.base) ∨ ∃ q, o = .threw q ∧ vx_T XC st q t mc ms free
/-- a callee that returns or throws -/
def vx_Met (l : Launch) (y : MethodName) (ws : List Cond) (rm : Room) (Pc : Array Value → State → Prop) (Qc : Array Value → State → Outcome → State → Prop) (XC : String → State → State → Prop) (mc ms : Nat) (free : Addr → Prop) : Prop :=
  MetFree l y (headSpec ws rm) Pc (fun _ _ _ _ _ => True) (vx_Q Qc XC mc ms free)
def vx_Post (XC : String → State → State → Prop) (mc ms : Nat) (free : Addr → Prop) : Pt → Array Value → Addr → Pt → Prop := fun A a q B =>
  ∃ (g : JFrame) (mk : MethodId) (t : State) (L : List Loc) (E : String) (ce : Cell), B.U.heap = t.heap ∧ B.U.vm = t.vm ∧ XC E (A.U.calling g mk a) t ∧ t.heap[q]? = some ce ∧ ce.vm = .none ∧ A.U.vm.findClass E = some ce.cls ∧ B.locs = A.locs ++ L ∧ (∀ z ∈ L, free z.base) ∧ B.cells = A.cells + mc ∧ B.slots = A.slots + ms
def vx_Back (l : Launch) (R : Room) (p : Program) (e : Env) (below : List Frame) (s : State) (sargs : Array Value) (y : MethodName) (len W9 : Nat)
    (Pre : Pt → Array Value → Prop) (Post : Pt → Array Value → Option Value → Pt → Prop) (PostX : Pt → Array Value → Addr → Pt → Prop) : Prop :=
  ∀ (m : MethodId) (meth : Method) (c : Code) (A : Pt) (g : JFrame) (ig : Instr) (mk : MethodId) (a : Array Value),
    Stand p l e R s m sargs below meth c A.U A.locs A.cells A.slots → g.method = m → g.locals.size = c.maxLocals → decode c.code g.pc = .ok (ig, len) →
    2 * g.monitorRoom + (g.stack.map fun v => v.category).sum ≤ W9 → A.U.methodNamed? y = some mk → Pre A a →
    (∃ (v : Option Value) (B : Pt), Stand p l e R s m sargs below meth c B.U B.locs B.cells B.slots ∧ Post A a v B ∧
      Steps p.tables e below (doInvoke e (A.U.setTop g) [] mk a).1 (B.U.setTop { g with pc := g.pc + len, stack := v.toList ++ g.stack })) ∨
    (∃ (q : Addr) (B : Pt), Stand p l e R s m sargs below meth c B.U B.locs B.cells B.slots ∧ PostX A a q B ∧
      Steps p.tables e below (doInvoke e (A.U.setTop g) [] mk a).1 ((B.U.setTop g).pushFrame (.throwing q)))
section Payer
variable {l : Launch} {R : Room} {p : Program} {e : Env} {below : List Frame} {s : State} {sargs : Array Value} {y : MethodName} {len W9 : Nat}
theorem vx_back {ws : List Cond} {rm : Room} {Pc : Array Value → State → Prop} {Qc : Array Value → State → Outcome → State → Prop} {XC : String → State → State → Prop} {mc ms : Nat} {free : Addr → Prop} {bytes : ByteArray} {maxL : Nat} {ret : Option FieldType}
    (hM : vx_Met l y ws rm Pc Qc XC mc ms free) (hblind : FrameBlind Pc) (hrc : rm.cells = mc) (hrs : rm.slots = ms)
    (hframes : rm.frames + 1 ≤ R.frames) (hlocals : W9 + (maxL + 11) + rm.locals ≤ R.locals)
    (hws : ∀ w ∈ ws, ∀ a' U, s.WarmedH U.vm → w.before a' U = true) (hcode : Cond.code y bytes maxL ret ∈ ws) (hinit : ∀ a' U, s.WarmedH U.vm → (Cond.initialized y.cls).before a' U = true) :
    vx_Back l R p e below s sargs y len W9 (PreOf R mc ms Pc) (PostOf Qc mc ms free) (vx_Post XC mc ms free) := by
  intro m meth c A g ig mk a X hg hsize hdg hW hn hp
  have h1 : (headSpec ws rm).pre.before a A.U = true := atoms_intro fun w hw => hws w hw _ _ X.warmed
  have h2 : (Cond.code y bytes maxL ret).before a A.U = true := hws _ hcode _ _ X.warmed
  have h3 : (Cond.initialized y.cls).before a A.U = true := hinit _ _ X.warmed
  have h4 : A.cells + (headSpec ws rm).room.cells ≤ R.cells := by rw [show (headSpec ws rm).room.cells = mc from hrc]; exact hp.1
  have h5 : A.slots + (headSpec ws rm).room.slots ≤ R.slots := by rw [show (headSpec ws rm).room.slots = ms from hrs]; exact hp.2.1
  have hPc : Pc a (A.U.calling g mk a) := hblind _ _ _ _ hp.2.2
  obtain ⟨U, Ls, c0, s0⟩ := A
  dsimp only [Pt.U, Pt.locs, Pt.cells, Pt.slots] at h1 h2 h3 h4 h5 X hn hPc ⊢
  obtain ⟨methY, cY, hmY, hcY, -, hlY, -, -, -, -⟩ := Cond.code_spec hn h2
  obtain ⟨kY, hkY, -⟩ := className_of_methodNamed hn
  have hinitY : kY.init = .initialized := Cond.initialized_spec (findClass_of_methodNamed hn) hkY h3
  have h : At U g.method c below := by rw [hg]; exact X.here
  have hlocals9 : W9 + (maxL + 11) + (headSpec ws rm).room.locals ≤ R.locals := hlocals
  have happ : (headSpec ws rm).appliesLoose y e.platform (U.calling g mk a) = true :=
    Spec.appliesLoose_calling (g := g) h hdg hn hkY hinitY
      (X.room_calling (g := g) (R' := (headSpec ws rm).room) hsize hmY hcY hframes (by rw [hlY]; omega) h4 h5) h1
  obtain ⟨mid, hmid⟩ := h.above
  have hfr : (U.setTop g).frames = (.java g :: mid) ++ below := by rw [State.frames_setTop' g h.top, hmid]; rfl
  obtain ⟨o, s₂, hsteps, -, hend, hq⟩ := Steps.callFree hM p X.admits X.cas X.clock (acts := []) hfr happ hPc trivial
  have hq' : vx_Q Qc XC mc ms free a (U.calling g mk a) o s₂ := hq
  rw [State.frames_setTop' g h.top] at hend
  obtain ⟨g₀, hg0⟩ := Option.isSome_iff_exists.mp h.top
  obtain ⟨r, hr⟩ := State.topJava?_eq_some.mp hg0
  have hr' : (({ U with heap := s₂.heap, slotsUsed := s₂.slotsUsed } : State).setVm s₂.vm).frames = .java g₀ :: r := hr
  rcases hq' with ⟨hqc, L, hfe, hL⟩ | ⟨q, rfl, E, ce, L, hx, hce, hcv, hcl, hW₂, hsm, hL⟩
  · obtain ⟨⟨v, rfl⟩, hW₂, e2, q2, q3, q4, q5, q6⟩ := id hfe
    have e3 : s₂ = ({ (U.calling g mk a).setFrames s₂.frames with heap := s₂.heap, slotsUsed := s₂.slotsUsed } : State).setVm s₂.vm := by
      have : s₂ = ({ s₂ with vm := (U.calling g mk a).vm } : State).setVm s₂.vm := rfl
      rw [e2] at this
      exact this
    obtain ⟨c₂, i₂, len₂, hc₂, hd₂, hf₂⟩ := hend
    have hW' : U.WarmedH s₂.vm := hW₂
    have hcc : c₂ = c := by
      have h1 : s₂.code? g.method = U.code? g.method := by
        rw [State.code?_eq, State.code?_eq, hW'.alike.method?]
      exact Option.some.inj (hc₂.symm.trans (h1.trans h.code))
    subst hcc
    have hlen : len₂ = len := by rw [hdg] at hd₂; cases hd₂; rfl
    subst hlen
    have hs₂ : s₂ = (({ U with heap := s₂.heap, slotsUsed := s₂.slotsUsed } : State).setVm s₂.vm).setTop { g with pc := g.pc + len₂, stack := v.toList ++ g.stack } := by
      refine e3.trans ?_
      rw [hf₂, State.calling_eq h.top, State.setFrames_setFrames, State.setTop_of_frames _ hr', hr]
      rfl
    have hsame : U.sameButNew ({ U with heap := s₂.heap, slotsUsed := s₂.slotsUsed } : State) L mc ms := by
      refine ⟨?_, q2, q3, q4, q5, q6⟩
      obtain ⟨t, ht, -⟩ := State.frames_cons hr
      show ({ U with heap := s₂.heap, slotsUsed := s₂.slotsUsed } : State) = { U.setFrames U.frames with heap := s₂.heap, slotsUsed := s₂.slotsUsed }
      rw [State.setFrames_self ht]
    subst hg
    refine Or.inl ⟨v, ⟨(({ U with heap := s₂.heap, slotsUsed := s₂.slotsUsed } : State).setVm s₂.vm), Ls ++ L, c0 + mc, s0 + ms⟩,
      ⟨X.admits, X.cas, X.clock, X.frames, X.room, X.hears, X.method, X.code, (X.here.setHeapUsed s₂.heap s₂.slotsUsed).setVm hW'.alike, X.tail, State.WarmedH.trans X.warmed hW', X.limits, X.bytes, X.same.trans (hsame.setVm s.vm)⟩,
      ⟨g, mk, s₂, L, rfl, rfl, hqc, rfl, hL, rfl, rfl⟩, ?_⟩
    show Steps p.tables e below _ ((({ U with heap := s₂.heap, slotsUsed := s₂.slotsUsed } : State).setVm s₂.vm).setTop { g with pc := g.pc + len₂, stack := v.toList ++ g.stack })
    rw [← hs₂]
    exact hsteps
  · obtain ⟨e2, q2, q3, q4, q5, q6⟩ := id hsm
    have e3 : s₂ = ({ (U.calling g mk a).setFrames s₂.frames with heap := s₂.heap, slotsUsed := s₂.slotsUsed } : State).setVm s₂.vm := by
      have : s₂ = ({ s₂ with vm := (U.calling g mk a).vm } : State).setVm s₂.vm := rfl
      rw [e2] at this
      exact this
    have hf₂ : s₂.frames = .throwing q :: .java g :: U.frames.tail := hend
    have hW' : U.WarmedH s₂.vm := hW₂
    have hs₂ : s₂ = ((({ U with heap := s₂.heap, slotsUsed := s₂.slotsUsed } : State).setVm s₂.vm).setTop g).pushFrame (.throwing q) := by
      refine e3.trans ?_
      rw [hf₂, State.calling_eq h.top, State.setFrames_setFrames, State.pushFrame, State.frames_setTop _ hr', State.setTop_of_frames _ hr', State.setFrames_setFrames, hr]
      rfl
    have hsame : U.sameButNew ({ U with heap := s₂.heap, slotsUsed := s₂.slotsUsed } : State) L mc ms := by
      refine ⟨?_, q2, q3, q4, q5, q6⟩
      obtain ⟨t, ht, -⟩ := State.frames_cons hr
      show ({ U with heap := s₂.heap, slotsUsed := s₂.slotsUsed } : State) = { U.setFrames U.frames with heap := s₂.heap, slotsUsed := s₂.slotsUsed }
      rw [State.setFrames_self ht]
    subst hg
    refine Or.inr ⟨q, ⟨(({ U with heap := s₂.heap, slotsUsed := s₂.slotsUsed } : State).setVm s₂.vm), Ls ++ L, c0 + mc, s0 + ms⟩,
      ⟨X.admits, X.cas, X.clock, X.frames, X.room, X.hears, X.method, X.code, (X.here.setHeapUsed s₂.heap s₂.slotsUsed).setVm hW'.alike, X.tail, State.WarmedH.trans X.warmed hW', X.limits, X.bytes, X.same.trans (hsame.setVm s.vm)⟩,
      ⟨g, mk, s₂, L, E, ce, rfl, rfl, hx, hce, hcv, hcl, rfl, hL, rfl, rfl⟩, ?_⟩
    show Steps p.tables e below _ (((({ U with heap := s₂.heap, slotsUsed := s₂.slotsUsed } : State).setVm s₂.vm).setTop g).pushFrame (.throwing q))
    rw [← hs₂]
    exact hsteps
end Payer
section Calls
variable {p : Program} {l : Launch} {e : Env} {R : Room} {s : State} {m : MethodId} {args : Array Value} {below : List Frame} {meth : Method} {c : Code} {T : State} {locs : List Loc} {cells slots : Nat}
theorem vx_callV (X : Stand p l e R s m args below meth c T locs cells slots) (hexec : p.tables.exec = Jvm.exec) {own C : String} {index : Nat} {y : MethodName} {bytes : ByteArray} {maxL : Nat} {ret : Option FieldType}
    (hown : s.vm.findClass own = some m.cls) (hlink : (Cond.methodLink own index y).before args s = true) (hinst : (Cond.instanceMethod y).before args s = true) (hsel : (Cond.selects C y y).before args s = true)
    (hcode : (Cond.code y bytes maxL ret).before args s = true) (hy : y.cls ≠ "java/lang/invoke/MethodHandle" ∧ y.cls ≠ "java/lang/invoke/VarHandle")
    {W9 : Nat} {Pre : Pt → Array Value → Prop} {Post : Pt → Array Value → Option Value → Pt → Prop} {PostX : Pt → Array Value → Addr → Pt → Prop} (hK : vx_Back l R p e below s args y 3 W9 Pre Post PostX)
    {b : Addr} {cellB : Cell} (hcell : T.heap[b]? = some cellB) (hobj : cellB.vm.isStatics = false) (hcls : s.vm.findClass C = some cellB.cls)
    {g : JFrame} (hg : g.method = m) (hsize : g.locals.size = c.maxLocals) {argsL rest : List Value} (hlen : ∀ sig, parseMethodDescriptor y.desc = some sig → argsL.length = sig.parameters.length)
    (hstack : g.stack = argsL.reverse ++ .ref b :: rest) (hW : 2 * g.monitorRoom + (rest.map fun v => v.category).sum ≤ W9) (hdg : decode c.code g.pc = .ok (.invokevirtual index, 3))
    (hpre : ∀ vm₁, s.WarmedH vm₁ → Pre ⟨T.setVm vm₁, locs, cells, slots⟩ (Value.ref b :: argsL).toArray) :
    (∃ (v : Option Value) (vm₁ : Vm) (B : Pt), s.WarmedH vm₁ ∧ Stand p l e R s m args below meth c B.U B.locs B.cells B.slots ∧ Post ⟨T.setVm vm₁, locs, cells, slots⟩ (Value.ref b :: argsL).toArray v B ∧
      ∀ target, Steps p.tables e below (B.U.setTop { g with pc := g.pc + 3, stack := v.toList ++ rest }) target → Steps p.tables e below (T.setTop g) target) ∨
    (∃ (q : Addr) (vm₁ : Vm) (B : Pt), s.WarmedH vm₁ ∧ Stand p l e R s m args below meth c B.U B.locs B.cells B.slots ∧ PostX ⟨T.setVm vm₁, locs, cells, slots⟩ (Value.ref b :: argsL).toArray q B ∧
      Steps p.tables e below (T.setTop g) ((B.U.setTop { g with stack := rest }).pushFrame (.throwing q))) := by
  obtain ⟨mk, methM, hnamed, hmethM, hstM, habM⟩ := Cond.instanceMethod_spec hinst
  obtain ⟨methM', cM, hmethM', -, -, -, -, -, -, hsigM⟩ := Cond.code_spec hnamed hcode
  cases hmethM.symm.trans hmethM'
  obtain ⟨c2, r2, m2, q1, q2, q3, q4, kP, hkP, hkPi⟩ := Cond.selects_spec hsel
  cases hcls.symm.trans q1
  cases (State.methodFound?_of_named hnamed hy).symm.trans q2
  cases hnamed.symm.trans q3
  have hselP : selectMethod e.platform s.vm cellB.cls mk = .method mk := by rw [Launch.admits_selectMethod X.admits]; exact q4
  obtain ⟨vm₁, X₁, hstep₁⟩ := X.invokevirtual hexec hown hlink hnamed hmethM hstM hkP hkPi hy (a := b) (cell := cellB) hcell
    (fun z h => by rw [h] at hobj; cases hobj) hselP hmethM habM hkP hkPi (g := g) hg (argsL := argsL) (rest := rest) (hlen _ hsigM) hstack hdg
  rcases hK m meth c ⟨T.setVm vm₁, locs, cells, slots⟩ { g with stack := rest } (.invokevirtual index) mk (Value.ref b :: argsL).toArray X₁ hg hsize hdg hW (X₁.named hnamed) (hpre vm₁ X₁.warmed) with ⟨v, B, X', hpost, hsteps⟩ | ⟨q, B, X', hpost, hsteps⟩
  · exact Or.inl ⟨v, vm₁, B, X₁.warmed, X', hpost, fun target h => hstep₁ _ fun acts => by rw [doInvoke_state]; exact hsteps.trans h⟩
  · exact Or.inr ⟨q, vm₁, B, X₁.warmed, X', hpost, hstep₁ _ fun acts => by rw [doInvoke_state]; exact hsteps⟩
theorem vx_callS (X : Stand p l e R s m args below meth c T locs cells slots) (hexec : p.tables.exec = Jvm.exec) {own : String} {index : Nat} {y : MethodName} {bytes : ByteArray} {maxL : Nat} {ret : Option FieldType}
    (hown : s.vm.findClass own = some m.cls) (hlink : (Cond.methodLink own index y).before args s = true) (hstat : (Cond.static y).before args s = true) (hinit : (Cond.initialized y.cls).before args s = true)
    (hcode : (Cond.code y bytes maxL ret).before args s = true) (hy : y.cls ≠ "java/lang/invoke/MethodHandle" ∧ y.cls ≠ "java/lang/invoke/VarHandle")
    {W9 : Nat} {Pre : Pt → Array Value → Prop} {Post : Pt → Array Value → Option Value → Pt → Prop} {PostX : Pt → Array Value → Addr → Pt → Prop} (hK : vx_Back l R p e below s args y 3 W9 Pre Post PostX)
    {g : JFrame} (hg : g.method = m) (hsize : g.locals.size = c.maxLocals) {argsL rest : List Value} (hlen : ∀ sig, parseMethodDescriptor y.desc = some sig → argsL.length = sig.parameters.length)
    (hstack : g.stack = argsL.reverse ++ rest) (hW : 2 * g.monitorRoom + (rest.map fun v => v.category).sum ≤ W9) (hdg : decode c.code g.pc = .ok (.invokestatic index, 3))
    (hpre : ∀ vm₁, s.WarmedH vm₁ → Pre ⟨T.setVm vm₁, locs, cells, slots⟩ argsL.toArray) :
    (∃ (v : Option Value) (vm₁ : Vm) (B : Pt), s.WarmedH vm₁ ∧ Stand p l e R s m args below meth c B.U B.locs B.cells B.slots ∧ Post ⟨T.setVm vm₁, locs, cells, slots⟩ argsL.toArray v B ∧
      ∀ target, Steps p.tables e below (B.U.setTop { g with pc := g.pc + 3, stack := v.toList ++ rest }) target → Steps p.tables e below (T.setTop g) target) ∨
    (∃ (q : Addr) (vm₁ : Vm) (B : Pt), s.WarmedH vm₁ ∧ Stand p l e R s m args below meth c B.U B.locs B.cells B.slots ∧ PostX ⟨T.setVm vm₁, locs, cells, slots⟩ argsL.toArray q B ∧
      Steps p.tables e below (T.setTop g) ((B.U.setTop { g with stack := rest }).pushFrame (.throwing q))) := by
  obtain ⟨mk, hnamed⟩ := Cond.code_named hcode
  obtain ⟨methM, cM, hmethM, -, -, -, -, -, -, hsigM⟩ := Cond.code_spec hnamed hcode
  have hstatic : methM.isStatic = true := Cond.static_spec hnamed hmethM hstat
  obtain ⟨kP, hkP, -⟩ := className_of_methodNamed hnamed
  have hinitP : kP.init = .initialized := Cond.initialized_spec (findClass_of_methodNamed hnamed) hkP hinit
  obtain ⟨vm₁, X₁, hstep₁⟩ := X.invokestatic hexec hown hlink hnamed hmethM hstatic hkP hinitP hy (g := g) hg (argsL := argsL) (rest := rest) (hlen _ hsigM) hstack hdg
  rcases hK m meth c ⟨T.setVm vm₁, locs, cells, slots⟩ { g with stack := rest } (.invokestatic index) mk argsL.toArray X₁ hg hsize hdg hW (X₁.named hnamed) (hpre vm₁ X₁.warmed) with ⟨v, B, X', hpost, hsteps⟩ | ⟨q, B, X', hpost, hsteps⟩
  · exact Or.inl ⟨v, vm₁, B, X₁.warmed, X', hpost, fun target h => hstep₁ _ fun acts => by rw [doInvoke_state]; exact hsteps.trans h⟩
  · exact Or.inr ⟨q, vm₁, B, X₁.warmed, X', hpost, hstep₁ _ fun acts => by rw [doInvoke_state]; exact hsteps⟩
end Calls
theorem vx_cls {s : State} {T : State} {vm₁ : Vm} {E : String} {k : ClassId} (hW : s.WarmedH vm₁) (h : (T.setVm vm₁).vm.findClass E = some k) : s.vm.findClass E = some k := by
  have h1 : vm₁.findClass E = some k := h
  rw [hW.alike.findClass] at h1
  exact h1
/-- the method's frame g, with q thrown over it -/
def vx_W (p : Program) (l : Launch) (e : Env) (R : Room) (s : State) (m : MethodId) (args : Array Value) (below : List Frame) (meth : Method) (c : Code) (H : Heap) (locs : List Loc) (cells slots : Nat) (Q : State → Prop) (g : JFrame) (q : Addr) : Prop :=
  ∀ T : State, T.heap = H → Stand p l e R s m args below meth c T locs cells slots → ∃ t, Steps p.tables e below ((T.setTop g).pushFrame (.throwing q)) t ∧ Q t
def vx_Run (p : Program) (l : Launch) (e : Env) (R : Room) (s : State) (m : MethodId) (args : Array Value) (below : List Frame) (meth : Method) (c : Code) (H : Heap) (locs : List Loc) (cells slots mc ms : Nat) (g : JFrame) (rest : List Value) (Qa : State → Outcome → State → Prop) (XC : String → State → State → Prop) (free : Addr → Prop) : Prop :=
  ∀ T : State, T.heap = H → Stand p l e R s m args below meth c T locs cells slots →
    (∃ (v : Option Value) (st₀ t T' : State) (L : List Loc), st₀.heap = H ∧ Stand p l e R s m args below meth c T' (locs ++ L) (cells + mc) (slots + ms) ∧ (∀ q ∈ L, free q.base) ∧ T'.heap = t.heap ∧ T'.vm = t.vm ∧ Qa st₀ (.returned v) t ∧
      Goes p e below T g T' { g with pc := g.pc + 3, stack := v.toList ++ rest }) ∨
    (∃ (q : Addr) (st₀ t T' : State) (L : List Loc) (E : String) (ce : Cell), st₀.heap = H ∧ Stand p l e R s m args below meth c T' (locs ++ L) (cells + mc) (slots + ms) ∧ (∀ z ∈ L, free z.base) ∧ T'.heap = t.heap ∧ T'.vm = t.vm ∧ XC E st₀ t ∧ t.heap[q]? = some ce ∧ ce.vm = .none ∧ s.vm.findClass E = some ce.cls ∧
      Steps p.tables e below (T.setTop g) ((T'.setTop { g with stack := rest }).pushFrame (.throwing q)))
def vx_X {S : Type} (px : S → Prop) (B : String → S → State → Prop) (A : Nat → Prop) : String → State → State → Prop := fun E st t => ∃ u : S, px u ∧ B E u t ∧ va_F A st t
section Runs
variable {p : Program} {l : Launch} {e : Env} {R : Room} {s : State} {m : MethodId} {args : Array Value} {below : List Frame} {meth : Method} {c : Code} {H : Heap} {locs : List Loc} {cells slots : Nat}
variable {y : MethodName} {bytes cc : ByteArray} {maxL nL mc ms n index : Nat} {ret : Option FieldType} {ws : List Cond} {rm : Room} {Pc : Array Value → State → Prop} {Qc : Array Value → State → Outcome → State → Prop} {XC : String → State → State → Prop} {free : Addr → Prop} {Ts : List Cond} {own C : String} {b : Addr} {As rest : List Value} {g : JFrame}
theorem vx_callBack (cb : CallB R s args own index y bytes maxL ret ws rm mc ms n) (hM : vx_Met l y ws rm Pc Qc XC mc ms free) (hbl : FrameBlind Pc) : vx_Back l R p e below s args y 3 8 (PreOf R mc ms Pc) (PostOf Qc mc ms free) (vx_Post XC mc ms free) := by
  obtain ⟨hrc, hrs, hfr, hlo, hws, hcw, -, hini, -⟩ := cb
  exact vx_back (bytes := bytes) (maxL := maxL) (ret := ret) hM hbl hrc hrs hfr hlo hws hcw (fun a' U hW => word_at hW (Or.inl (by first | rfl | simp [Cond.onTables, Cond.keeps, Cond.steady])) hini)
theorem vx_runV (S : CallFix p m c cc nL s args Ts own) (hM : vx_Met l y ws rm Pc Qc XC mc ms free) (cw : CallW R s args own C index y bytes maxL ret ws rm mc ms n) (hp : PreV s H C b Pc As)
    (hg : g.method = m) (hn : As.length = n) (hsize : g.locals.size = nL) (hstack : g.stack = As.reverse ++ .ref b :: rest) (hW : 2 * g.monitorRoom + (rest.map fun v => v.category).sum ≤ 8) (hdg : decode cc g.pc = .ok (.invokevirtual index, 3)) (hf : cells + mc ≤ R.cells ∧ slots + ms ≤ R.slots) :
    vx_Run p l e R s m args below meth c H locs cells slots mc ms g rest (Qc (Value.ref b :: As).toArray) XC free := by
  have hK : vx_Back l R p e below s args y 3 8 (PreOf R mc ms Pc) (PostOf Qc mc ms free) (vx_Post XC mc ms free) := vx_callBack cw.1 hM hp.1
  obtain ⟨⟨-, -, -, -, -, -, hcode, -, hy, hlen, hl⟩, hin, hse⟩ := cw
  obtain ⟨hx, hb, hml, ho, -⟩ := S
  obtain ⟨-, ⟨cellB, hcB, hoB, hclB⟩, hPc⟩ := hp
  intro T hT X
  rcases vx_callV X hx (C := C) (bytes := bytes) (maxL := maxL) (ret := ret) ho hl hin hse hcode hy hK (by rw [hT]; exact hcB) hoB hclB hg (hsize.trans hml.symm) (argsL := As) (rest := rest) (fun sig h => hn.trans (hlen sig h)) hstack hW (by rw [hb]; exact hdg)
    (fun vm₁ hW₁ => ⟨hf.1, hf.2, hPc (T.setVm vm₁) hT hW₁⟩) with ⟨v, vm₁, ⟨U', l2, c2, s2⟩, hW₁, X', ⟨g', mk, t, L, e1, e2, hq, h1, hL, h2, h3⟩, st⟩ | ⟨q, vm₁, ⟨U', l2, c2, s2⟩, hW₁, X', ⟨g', mk, t, L, E, ce, e1, e2, hq, hce, hcv, hcl, h1, hL, h2, h3⟩, st⟩
  · dsimp only [Pt.U, Pt.locs, Pt.cells, Pt.slots] at X' e1 e2 h1 h2 h3 st
    subst h1; subst h2; subst h3
    exact Or.inl ⟨v, (T.setVm vm₁).calling g' mk (Value.ref b :: As).toArray, t, U', L, hT, X', hL, e1, e2, hq, st⟩
  · dsimp only [Pt.U, Pt.locs, Pt.cells, Pt.slots] at X' e1 e2 h1 h2 h3 st hcl
    subst h1; subst h2; subst h3
    exact Or.inr ⟨q, (T.setVm vm₁).calling g' mk (Value.ref b :: As).toArray, t, U', L, E, ce, hT, X', hL, e1, e2, hq, hce, hcv, vx_cls hW₁ hcl, st⟩
theorem vx_runS (S : CallFix p m c cc nL s args Ts own) (hM : vx_Met l y ws rm Pc Qc XC mc ms free) (cw : CallB R s args own index y bytes maxL ret ws rm mc ms n ∧ (Cond.static y).before args s = true) (hp : PreS s H Pc As)
    (hg : g.method = m) (hn : As.length = n) (hsize : g.locals.size = nL) (hstack : g.stack = As.reverse ++ rest) (hW : 2 * g.monitorRoom + (rest.map fun v => v.category).sum ≤ 8) (hdg : decode cc g.pc = .ok (.invokestatic index, 3)) (hf : cells + mc ≤ R.cells ∧ slots + ms ≤ R.slots) :
    vx_Run p l e R s m args below meth c H locs cells slots mc ms g rest (Qc As.toArray) XC free := by
  have hK : vx_Back l R p e below s args y 3 8 (PreOf R mc ms Pc) (PostOf Qc mc ms free) (vx_Post XC mc ms free) := vx_callBack cw.1 hM hp.1
  obtain ⟨⟨-, -, -, -, -, -, hcode, hini, hy, hlen, hl⟩, hstt⟩ := cw
  obtain ⟨hx, hb, hml, ho, -⟩ := S
  intro T hT X
  rcases vx_callS X hx (bytes := bytes) (maxL := maxL) (ret := ret) ho hl hstt hini hcode hy hK hg (hsize.trans hml.symm) (argsL := As) (rest := rest) (fun sig h => hn.trans (hlen sig h)) hstack hW (by rw [hb]; exact hdg)
    (fun vm₁ hW₁ => ⟨hf.1, hf.2, hp.2 (T.setVm vm₁) hT hW₁⟩) with ⟨v, vm₁, ⟨U', l2, c2, s2⟩, hW₁, X', ⟨g', mk, t, L, e1, e2, hq, h1, hL, h2, h3⟩, st⟩ | ⟨q, vm₁, ⟨U', l2, c2, s2⟩, hW₁, X', ⟨g', mk, t, L, E, ce, e1, e2, hq, hce, hcv, hcl, h1, hL, h2, h3⟩, st⟩
  · dsimp only [Pt.U, Pt.locs, Pt.cells, Pt.slots] at X' e1 e2 h1 h2 h3 st
    subst h1; subst h2; subst h3
    exact Or.inl ⟨v, (T.setVm vm₁).calling g' mk As.toArray, t, U', L, hT, X', hL, e1, e2, hq, st⟩
  · dsimp only [Pt.U, Pt.locs, Pt.cells, Pt.slots] at X' e1 e2 h1 h2 h3 st hcl
    subst h1; subst h2; subst h3
    exact Or.inr ⟨q, (T.setVm vm₁).calling g' mk As.toArray, t, U', L, E, ce, hT, X', hL, e1, e2, hq, hce, hcv, vx_cls hW₁ hcl, st⟩
end Runs
section Rows
variable {p : Program} {l : Launch} {e : Env} {R : Room} {s : State} {m : MethodId} {args : Array Value} {below : List Frame} {meth : Method} {c : Code} {H : Heap} {locs : List Loc} {cells slots : Nat} {Q : State → Prop}
variable {mc ms : Nat} {free : Addr → Prop} {A0 A1 : Nat → Prop} {H0 : Heap} {a : Array Value} {pc : Nat} {ls : Array Slot} {st0 rest : List Value}
theorem vx_keep {st₀ t T' : State} {L : List Loc} (h0 : st₀.heap = H) (e1 : T'.heap = t.heap) (hS : va_S A0 H0 H locs) (hA : ∀ q, q < H.size → A1 q → A0 q) (hf : ∀ q, free q → A0 q) (hL : ∀ q ∈ L, free q.base) (hF : va_F A1 st₀ t) :
    H.size ≤ T'.heap.size ∧ (∀ q : Nat, q < H.size → ¬ A1 q → T'.heap[q]? = H[q]?) ∧ va_S A0 H0 T'.heap (locs ++ L) := by
  obtain ⟨hz, hk⟩ := hF
  rw [h0] at hz hk
  exact ⟨by rw [e1]; exact hz, fun q h1 h2 => by rw [e1]; exact hk q h1 h2,
    ⟨Nat.le_trans hS.1 (by rw [e1]; exact hz), fun q h1 h2 => by rw [e1, hk q (Nat.lt_of_lt_of_le h1 hS.1) (fun z => h2 (hA q (Nat.lt_of_lt_of_le h1 hS.1) z))]; exact hS.2.1 q h1 h2, fun q hq => by
      rcases List.mem_append.mp hq with h | h
      · exact hS.2.2 q h
      · exact hf _ (hL q h)⟩⟩
theorem vx_calli {S SX : Type} {post : Int32 → S → Prop} {px : SX → Prop} {B : S → State → Prop} {BX : String → SX → State → Prop} {AX : Nat → Prop} (hr : vx_Run p l e R s m args below meth c H locs cells slots mc ms (F0 m pc ls st0) rest (va_Qi post B A1 a) (vx_X px BX AX) free) (hS : va_S A0 H0 H locs) (hA : ∀ q, q < H.size → A1 q → A0 q) (hf : ∀ q, free q → A0 q) (hAX : ∀ q, q < H.size → AX q → A0 q)
    (kx : ∀ (E : String) (ce : Cell) (q9 : Addr) (u : SX) (t : State) (H1 : Heap) (locs1 : List Loc), t.heap = H1 → s.vm.Alike t.vm → px u → BX E u t → H.size ≤ H1.size → (∀ q : Nat, q < H.size → ¬ AX q → H1[q]? = H[q]?) → va_S A0 H0 H1 locs1 → H1[q9]? = some ce → ce.vm = .none → s.vm.findClass E = some ce.cls → vx_W p l e R s m args below meth c H1 locs1 (cells + mc) (slots + ms) Q (F0 m pc ls rest) q9)
    (kk : ∀ (r : Int32) (u : S) (t : State) (H1 : Heap) (locs1 : List Loc), t.heap = H1 → s.vm.Alike t.vm → post r u → B u t → H.size ≤ H1.size → (∀ q : Nat, q < H.size → ¬ A1 q → H1[q]? = H[q]?) → va_S A0 H0 H1 locs1 → W p l e R s m args below meth c H1 locs1 (cells + mc) (slots + ms) Q (F0 m (pc + 3) ls (.int r :: rest))) : W p l e R s m args below meth c H locs cells slots Q (F0 m pc ls st0) := by
  intro T hT X
  rcases hr T hT X with ⟨v, st₀, t, T', L, h0, X', hL, e1, e2, ⟨⟨r, u, hv, hp, hb⟩, hF⟩, st⟩ | ⟨q, st₀, t, T', L, E, ce, h0, X', hL, e1, e2, ⟨u, hp, hb, hF⟩, hce, hcv, hcl, st⟩
  · cases hv
    obtain ⟨k1, k2, k3⟩ := vx_keep h0 e1 hS hA hf hL hF
    obtain ⟨t2, a1, b1⟩ := kk r u t T'.heap (locs ++ L) e1.symm (by rw [← e2]; exact X'.warmed.alike) hp hb k1 k2 k3 T' rfl X'
    exact ⟨t2, st t2 a1, b1⟩
  · obtain ⟨k1, k2, k3⟩ := vx_keep h0 e1 hS hAX hf hL hF
    obtain ⟨t2, a1, b1⟩ := kx E ce q u t T'.heap (locs ++ L) e1.symm (by rw [← e2]; exact X'.warmed.alike) hp hb k1 k2 k3 (by rw [e1]; exact hce) hcv hcl T' rfl X'
    exact ⟨t2, st.trans a1, b1⟩
theorem vx_calll {S SX : Type} {post : Int64 → S → Prop} {px : SX → Prop} {B : S → State → Prop} {BX : String → SX → State → Prop} {AX : Nat → Prop} (hr : vx_Run p l e R s m args below meth c H locs cells slots mc ms (F0 m pc ls st0) rest (va_Ql post B A1 a) (vx_X px BX AX) free) (hS : va_S A0 H0 H locs) (hA : ∀ q, q < H.size → A1 q → A0 q) (hf : ∀ q, free q → A0 q) (hAX : ∀ q, q < H.size → AX q → A0 q)
    (kx : ∀ (E : String) (ce : Cell) (q9 : Addr) (u : SX) (t : State) (H1 : Heap) (locs1 : List Loc), t.heap = H1 → s.vm.Alike t.vm → px u → BX E u t → H.size ≤ H1.size → (∀ q : Nat, q < H.size → ¬ AX q → H1[q]? = H[q]?) → va_S A0 H0 H1 locs1 → H1[q9]? = some ce → ce.vm = .none → s.vm.findClass E = some ce.cls → vx_W p l e R s m args below meth c H1 locs1 (cells + mc) (slots + ms) Q (F0 m pc ls rest) q9)
    (kk : ∀ (r : Int64) (u : S) (t : State) (H1 : Heap) (locs1 : List Loc), t.heap = H1 → s.vm.Alike t.vm → post r u → B u t → H.size ≤ H1.size → (∀ q : Nat, q < H.size → ¬ A1 q → H1[q]? = H[q]?) → va_S A0 H0 H1 locs1 → W p l e R s m args below meth c H1 locs1 (cells + mc) (slots + ms) Q (F0 m (pc + 3) ls (.long r :: rest))) : W p l e R s m args below meth c H locs cells slots Q (F0 m pc ls st0) := by
  intro T hT X
  rcases hr T hT X with ⟨v, st₀, t, T', L, h0, X', hL, e1, e2, ⟨⟨r, u, hv, hp, hb⟩, hF⟩, st⟩ | ⟨q, st₀, t, T', L, E, ce, h0, X', hL, e1, e2, ⟨u, hp, hb, hF⟩, hce, hcv, hcl, st⟩
  · cases hv
    obtain ⟨k1, k2, k3⟩ := vx_keep h0 e1 hS hA hf hL hF
    obtain ⟨t2, a1, b1⟩ := kk r u t T'.heap (locs ++ L) e1.symm (by rw [← e2]; exact X'.warmed.alike) hp hb k1 k2 k3 T' rfl X'
    exact ⟨t2, st t2 a1, b1⟩
  · obtain ⟨k1, k2, k3⟩ := vx_keep h0 e1 hS hAX hf hL hF
    obtain ⟨t2, a1, b1⟩ := kx E ce q u t T'.heap (locs ++ L) e1.symm (by rw [← e2]; exact X'.warmed.alike) hp hb k1 k2 k3 (by rw [e1]; exact hce) hcv hcl T' rfl X'
    exact ⟨t2, st.trans a1, b1⟩
theorem vx_callf {S SX : Type} {post : UInt32 → S → Prop} {px : SX → Prop} {B : S → State → Prop} {BX : String → SX → State → Prop} {AX : Nat → Prop} (hr : vx_Run p l e R s m args below meth c H locs cells slots mc ms (F0 m pc ls st0) rest (va_Qf post B A1 a) (vx_X px BX AX) free) (hS : va_S A0 H0 H locs) (hA : ∀ q, q < H.size → A1 q → A0 q) (hf : ∀ q, free q → A0 q) (hAX : ∀ q, q < H.size → AX q → A0 q)
    (kx : ∀ (E : String) (ce : Cell) (q9 : Addr) (u : SX) (t : State) (H1 : Heap) (locs1 : List Loc), t.heap = H1 → s.vm.Alike t.vm → px u → BX E u t → H.size ≤ H1.size → (∀ q : Nat, q < H.size → ¬ AX q → H1[q]? = H[q]?) → va_S A0 H0 H1 locs1 → H1[q9]? = some ce → ce.vm = .none → s.vm.findClass E = some ce.cls → vx_W p l e R s m args below meth c H1 locs1 (cells + mc) (slots + ms) Q (F0 m pc ls rest) q9)
    (kk : ∀ (r : UInt32) (u : S) (t : State) (H1 : Heap) (locs1 : List Loc), t.heap = H1 → s.vm.Alike t.vm → post r u → B u t → H.size ≤ H1.size → (∀ q : Nat, q < H.size → ¬ A1 q → H1[q]? = H[q]?) → va_S A0 H0 H1 locs1 → W p l e R s m args below meth c H1 locs1 (cells + mc) (slots + ms) Q (F0 m (pc + 3) ls (.float r :: rest))) : W p l e R s m args below meth c H locs cells slots Q (F0 m pc ls st0) := by
  intro T hT X
  rcases hr T hT X with ⟨v, st₀, t, T', L, h0, X', hL, e1, e2, ⟨⟨r, u, hv, hp, hb⟩, hF⟩, st⟩ | ⟨q, st₀, t, T', L, E, ce, h0, X', hL, e1, e2, ⟨u, hp, hb, hF⟩, hce, hcv, hcl, st⟩
  · cases hv
    obtain ⟨k1, k2, k3⟩ := vx_keep h0 e1 hS hA hf hL hF
    obtain ⟨t2, a1, b1⟩ := kk r u t T'.heap (locs ++ L) e1.symm (by rw [← e2]; exact X'.warmed.alike) hp hb k1 k2 k3 T' rfl X'
    exact ⟨t2, st t2 a1, b1⟩
  · obtain ⟨k1, k2, k3⟩ := vx_keep h0 e1 hS hAX hf hL hF
    obtain ⟨t2, a1, b1⟩ := kx E ce q u t T'.heap (locs ++ L) e1.symm (by rw [← e2]; exact X'.warmed.alike) hp hb k1 k2 k3 (by rw [e1]; exact hce) hcv hcl T' rfl X'
    exact ⟨t2, st.trans a1, b1⟩
theorem vx_calld {S SX : Type} {post : UInt64 → S → Prop} {px : SX → Prop} {B : S → State → Prop} {BX : String → SX → State → Prop} {AX : Nat → Prop} (hr : vx_Run p l e R s m args below meth c H locs cells slots mc ms (F0 m pc ls st0) rest (va_Qd post B A1 a) (vx_X px BX AX) free) (hS : va_S A0 H0 H locs) (hA : ∀ q, q < H.size → A1 q → A0 q) (hf : ∀ q, free q → A0 q) (hAX : ∀ q, q < H.size → AX q → A0 q)
    (kx : ∀ (E : String) (ce : Cell) (q9 : Addr) (u : SX) (t : State) (H1 : Heap) (locs1 : List Loc), t.heap = H1 → s.vm.Alike t.vm → px u → BX E u t → H.size ≤ H1.size → (∀ q : Nat, q < H.size → ¬ AX q → H1[q]? = H[q]?) → va_S A0 H0 H1 locs1 → H1[q9]? = some ce → ce.vm = .none → s.vm.findClass E = some ce.cls → vx_W p l e R s m args below meth c H1 locs1 (cells + mc) (slots + ms) Q (F0 m pc ls rest) q9)
    (kk : ∀ (r : UInt64) (u : S) (t : State) (H1 : Heap) (locs1 : List Loc), t.heap = H1 → s.vm.Alike t.vm → post r u → B u t → H.size ≤ H1.size → (∀ q : Nat, q < H.size → ¬ A1 q → H1[q]? = H[q]?) → va_S A0 H0 H1 locs1 → W p l e R s m args below meth c H1 locs1 (cells + mc) (slots + ms) Q (F0 m (pc + 3) ls (.double r :: rest))) : W p l e R s m args below meth c H locs cells slots Q (F0 m pc ls st0) := by
  intro T hT X
  rcases hr T hT X with ⟨v, st₀, t, T', L, h0, X', hL, e1, e2, ⟨⟨r, u, hv, hp, hb⟩, hF⟩, st⟩ | ⟨q, st₀, t, T', L, E, ce, h0, X', hL, e1, e2, ⟨u, hp, hb, hF⟩, hce, hcv, hcl, st⟩
  · cases hv
    obtain ⟨k1, k2, k3⟩ := vx_keep h0 e1 hS hA hf hL hF
    obtain ⟨t2, a1, b1⟩ := kk r u t T'.heap (locs ++ L) e1.symm (by rw [← e2]; exact X'.warmed.alike) hp hb k1 k2 k3 T' rfl X'
    exact ⟨t2, st t2 a1, b1⟩
  · obtain ⟨k1, k2, k3⟩ := vx_keep h0 e1 hS hAX hf hL hF
    obtain ⟨t2, a1, b1⟩ := kx E ce q u t T'.heap (locs ++ L) e1.symm (by rw [← e2]; exact X'.warmed.alike) hp hb k1 k2 k3 (by rw [e1]; exact hce) hcv hcl T' rfl X'
    exact ⟨t2, st.trans a1, b1⟩
theorem vx_callv {S SX : Type} {post : S → Prop} {px : SX → Prop} {B : S → State → Prop} {BX : String → SX → State → Prop} {AX : Nat → Prop} (hr : vx_Run p l e R s m args below meth c H locs cells slots mc ms (F0 m pc ls st0) rest (va_Qv post B A1 a) (vx_X px BX AX) free) (hS : va_S A0 H0 H locs) (hA : ∀ q, q < H.size → A1 q → A0 q) (hf : ∀ q, free q → A0 q) (hAX : ∀ q, q < H.size → AX q → A0 q)
    (kx : ∀ (E : String) (ce : Cell) (q9 : Addr) (u : SX) (t : State) (H1 : Heap) (locs1 : List Loc), t.heap = H1 → s.vm.Alike t.vm → px u → BX E u t → H.size ≤ H1.size → (∀ q : Nat, q < H.size → ¬ AX q → H1[q]? = H[q]?) → va_S A0 H0 H1 locs1 → H1[q9]? = some ce → ce.vm = .none → s.vm.findClass E = some ce.cls → vx_W p l e R s m args below meth c H1 locs1 (cells + mc) (slots + ms) Q (F0 m pc ls rest) q9)
    (kk : ∀ (u : S) (t : State) (H1 : Heap) (locs1 : List Loc), t.heap = H1 → s.vm.Alike t.vm → post u → B u t → H.size ≤ H1.size → (∀ q : Nat, q < H.size → ¬ A1 q → H1[q]? = H[q]?) → va_S A0 H0 H1 locs1 → W p l e R s m args below meth c H1 locs1 (cells + mc) (slots + ms) Q (F0 m (pc + 3) ls (rest))) : W p l e R s m args below meth c H locs cells slots Q (F0 m pc ls st0) := by
  intro T hT X
  rcases hr T hT X with ⟨v, st₀, t, T', L, h0, X', hL, e1, e2, ⟨⟨u, hv, hp, hb⟩, hF⟩, st⟩ | ⟨q, st₀, t, T', L, E, ce, h0, X', hL, e1, e2, ⟨u, hp, hb, hF⟩, hce, hcv, hcl, st⟩
  · cases hv
    obtain ⟨k1, k2, k3⟩ := vx_keep h0 e1 hS hA hf hL hF
    obtain ⟨t2, a1, b1⟩ := kk u t T'.heap (locs ++ L) e1.symm (by rw [← e2]; exact X'.warmed.alike) hp hb k1 k2 k3 T' rfl X'
    exact ⟨t2, st t2 a1, b1⟩
  · obtain ⟨k1, k2, k3⟩ := vx_keep h0 e1 hS hAX hf hL hF
    obtain ⟨t2, a1, b1⟩ := kx E ce q u t T'.heap (locs ++ L) e1.symm (by rw [← e2]; exact X'.warmed.alike) hp hb k1 k2 k3 (by rw [e1]; exact hce) hcv hcl T' rfl X'
    exact ⟨t2, st.trans a1, b1⟩
/-- caught by the row x of this method's table; the rows ahead don't take it -/
theorem vx_catch {own name : String} {E : String} {ce : Cell} {q : Addr} (hown : s.vm.findClass own = some m.cls) (pre : List ExceptionTableEntry) (x : ExceptionTableEntry) (suf : List ExceptionTableEntry) (hsplit : c.exceptionTable.toList = pre ++ x :: suf)
    (hpass : ∀ z ∈ pre, covers z pc = false ∨ (z.catchType ≠ 0 ∧ ∃ nm : String, (Cond.classLink own z.catchType nm).before args s = true ∧ va_Nc E nm s)) (hx : covers x pc = true) (h0 : x.catchType ≠ 0)
    (hlink : (Cond.classLink own x.catchType name).before args s = true) (hcast : (Cond.castable E name).before args s = true) (hcell : H[q]? = some ce) (hv : ce.vm = .none) (hcl : s.vm.findClass E = some ce.cls)
    (kk : W p l e R s m args below meth c H locs cells slots Q (F0 m x.handlerPc ls [.ref q])) : vx_W p l e R s m args below meth c H locs cells slots Q (F0 m pc ls rest) q := by
  intro T hT X
  have hpl : e.platform.magicAccessors = ({} : Platform).magicAccessors := by rw [X.admits.platform]
  obtain ⟨c3, c4, hc3, hc4, hasg⟩ := Cond.castable_spec hcast
  cases Option.some.inj (hc3.symm.trans hcl)
  obtain ⟨c5, hc5, hcl5⟩ := Cond.classLink_spec hown hlink e.platform hpl
  cases Option.some.inj (hc4.symm.trans hc5)
  obtain ⟨vm', X', st⟩ := X.thenCaughtThrough q (g := F0 m pc ls rest) rfl (Steps.refl _) (by rw [hT]; exact hcell) (by rw [hv]; rfl) (by obtain ⟨k9, h9, -⟩ := Vm.findClass_spec hcl; exact ⟨k9, h9⟩) pre x suf hsplit
    (fun z hz => by
      rcases hpass z hz with h | ⟨hz0, nm, hl1, hn1⟩
      · exact Or.inl h
      · obtain ⟨c6, hc6, hcl6⟩ := Cond.classLink_spec hown hl1 e.platform hpl
        obtain ⟨a8, b8, h1, h2, h3⟩ := hn1
        cases Option.some.inj (h1.symm.trans hcl)
        cases Option.some.inj (h2.symm.trans hc6)
        exact Or.inr ⟨hz0, _, hcl6, h3⟩) hx (Or.inr ⟨h0, c4, hcl5, hasg⟩)
  obtain ⟨t, a1, b1⟩ := kk (T.setVm vm') hT X'
  exact ⟨t, st.trans a1, b1⟩
end Rows
section Ends
variable {p : Program} {l : Launch} {e : Env} {R : Room} {s : State} {m : MethodId} {args : Array Value} {below : List Frame} {meth : Method} {c : Code} {H : Heap} {locs : List Loc} {cells slots : Nat} {Q : State → Prop}
variable {mc ms : Nat} {free : Addr → Prop} {A0 A1 : Nat → Prop} {H0 : Heap} {a : Array Value} {ls : Array Slot} {st0 rest : List Value}
variable {Qc : Array Value → State → Outcome → State → Prop} {XC : String → State → State → Prop}
/-- what a body that may throw owes at its end -/
def vx_MQ (below : List Frame) (Qc : Array Value → State → Outcome → State → Prop) (XC : String → State → State → Prop) (a : Array Value) (s : State) (mc ms : Nat) (free : Addr → Prop) : State → Prop := fun t =>
  ∃ o, t.status = .running ∧ Ended t below o ∧ vx_Q Qc XC mc ms free a s o t
theorem vx_ret {g : JFrame} {mc ms : Nat} (k : W p l e R s m args below meth c H locs cells slots (MQ below Qc args s mc ms free) g) : W p l e R s m args below meth c H locs cells slots (vx_MQ below Qc XC args s mc ms free) g := by
  intro T hT X
  obtain ⟨t, a1, o, b1, b2, b3, b4⟩ := k T hT X
  exact ⟨t, a1, o, b1, b2, Or.inl ⟨b3, b4⟩⟩
/-- not caught here: it goes on to the caller -/
theorem vx_widen {g : JFrame} {q : Addr} {k n : Nat} (h1 : cells ≤ k) (h2 : slots ≤ n) (kk : vx_W p l e R s m args below meth c H locs k n Q g q) : vx_W p l e R s m args below meth c H locs cells slots Q g q := fun T hT X => kk T hT (stand_widen X h1 h2)
theorem vx_out {pc : Nat} {E : String} {ce : Cell} {q : Addr} {mc ms : Nat} (hout : ∀ x ∈ c.exceptionTable.toList, covers x pc = false) (hlocks : meth.locks = false) (hcell : H[q]? = some ce) (hv : ce.vm = .none) (hcl : s.vm.findClass E = some ce.cls)
    (hx : ∀ t : State, t.heap = H → s.vm.Alike t.vm → XC E s t) (hf : ∀ z ∈ locs, free z.base) (hc : cells ≤ mc) (hs : slots ≤ ms) :
    vx_W p l e R s m args below meth c H locs cells slots (vx_MQ below Qc XC args s mc ms free) (F0 m pc ls rest) q := by
  intro T hT X
  obtain ⟨st1, hrun, hend, hW, hsm⟩ := X.leaveThrown q (g := F0 m pc ls rest) rfl rfl rfl hout hlocks
  have hcell9 : (T.setFrames (.throwing q :: below)).heap[q]? = some ce := by
    show T.heap[q]? = some ce
    rw [hT]; exact hcell
  exact ⟨_, st1, .threw q, hrun, hend, Or.inr ⟨q, rfl, E, ce, locs, hx _ hT hW.alike, hcell9, hv, hcl, hW, hsm.mono hc hs, hf⟩⟩
theorem vx_frame {U : State} {k n : Nat} (h : s.sameButNew ({ U with vm := s.vm } : State) locs k n) : s.heap.size ≤ U.heap.size ∧ ∀ q : Nat, q < s.heap.size → (∀ z ∈ locs, z.base ≠ q) → U.heap[q]? = s.heap[q]? := by
  obtain ⟨-, h2, -, -, -, h6⟩ := h
  refine ⟨h2, fun q hq hz => ?_⟩
  obtain ⟨c9, e1, e2, e3, e4⟩ := h6 q _ (Array.getElem?_eq_getElem hq)
  have hs : c9.slots = (s.heap[q]).slots := Array.ext_getElem? fun i => e4 i fun hm => hz _ hm rfl
  have h9 : c9 = s.heap[q] := by
    rw [hs] at e2
    exact e2
  have e5 : U.heap[q]? = some c9 := e1
  rw [e5, h9, Array.getElem?_eq_getElem hq]
/-- the words of a throw but the four that speak of the heap -/
def vx_no (w : Cond) : Bool := decide (w ≠ .isRef (.static Bundle.tN "UNASSIGNED_STACK" Bundle.steD)) && decide (w ≠ .isRef (.static Bundle.tN "SUPPRESSED_SENTINEL" Bundle.listD)) && decide (w ≠ .laysStatic Bundle.tN "UNASSIGNED_STACK" Bundle.steD) && decide (w ≠ .laysStatic Bundle.tN "SUPPRESSED_SENTINEL" Bundle.listD)
def vx_at0 (own : String) (ic : Nat) (X : String) (names : List String) : List Cond := (Bundle.ownAtoms0 own ic X names).filter vx_no
def vx_atS (own : String) (ic : Nat) (X : String) (names : List String) : List Cond := (Bundle.ownAtoms own ic X names).filter vx_no
/-- a word that the tables alone decide, or a good one -/
def vx_ot (w : Cond) : Bool := w.onTables || goodWord w
theorem vx_ot_at {args a' : Array Value} {s U : State} {w : Cond} (hW : s.WarmedH U.vm) (hvm : s.vm = U.vm) (hg : vx_ot w = true) (h : w.before args s = true) : w.before a' U = true := by
  simp only [vx_ot, Bool.or_eq_true] at hg
  rcases hg with hg | hg
  · exact va_tabs hg hvm h
  · exact word_at hW (good_of_word hg) h
/-- a list's words: the good ones out of the method's own list, the others by premises of their own -/
theorem vx_hat {args : Array Value} {s : State} {L B : List Cond} (h1 : ∀ w ∈ L.filter goodWord, w.before args s = true) (h2 : ∀ w ∈ L.filter (fun w => !goodWord w), w ∈ B) (h3 : ∀ w ∈ B, w.before args s = true) : ∀ w ∈ L, w.before args s = true := by
  intro w hw
  by_cases g : goodWord w = true
  · exact h1 w (List.mem_filter.mpr ⟨hw, g⟩)
  · refine h3 w (h2 w (List.mem_filter.mpr ⟨hw, ?_⟩))
    show (!goodWord w) = true
    cases hgw : goodWord w
    · rfl
    · exact absurd hgw g
theorem vx_c {args : Array Value} {s : State} {w : Cond} {B : List Cond} (h : w.before args s = true) (t : ∀ w ∈ B, w.before args s = true) : ∀ w' ∈ w :: B, w'.before args s = true := fun w' h' => (List.mem_cons.mp h').elim (fun e => by rw [e]; exact h) (t w')
theorem vx_n {args : Array Value} {s : State} : ∀ w ∈ ([] : List Cond), w.before args s = true := fun _ h => nomatch h
theorem vx_own {args : Array Value} {s : State} {L : List Cond} (h1 : ∀ w ∈ L.filter vx_no, w.before args s = true)
    (hU : (Cond.isRef (.static Bundle.tN "UNASSIGNED_STACK" Bundle.steD)).before args s = true) (hN : (Cond.isRef (.static Bundle.tN "SUPPRESSED_SENTINEL" Bundle.listD)).before args s = true)
    (lU : (Cond.laysStatic Bundle.tN "UNASSIGNED_STACK" Bundle.steD).before args s = true) (lN : (Cond.laysStatic Bundle.tN "SUPPRESSED_SENTINEL" Bundle.listD).before args s = true) : ∀ w ∈ L, w.before args s = true := by
  intro w hw
  by_cases e1 : w = .isRef (.static Bundle.tN "UNASSIGNED_STACK" Bundle.steD)
  · rw [e1]; exact hU
  · by_cases e2 : w = .isRef (.static Bundle.tN "SUPPRESSED_SENTINEL" Bundle.listD)
    · rw [e2]; exact hN
    · by_cases e3 : w = .laysStatic Bundle.tN "UNASSIGNED_STACK" Bundle.steD
      · rw [e3]; exact lU
      · by_cases e4 : w = .laysStatic Bundle.tN "SUPPRESSED_SENTINEL" Bundle.listD
        · rw [e4]; exact lN
        · exact h1 w (List.mem_filter.mpr ⟨hw, by unfold vx_no; rw [decide_eq_true e1, decide_eq_true e2, decide_eq_true e3, decide_eq_true e4]; rfl⟩)
/-- where a static field lies, its class's statics cell in H -/
def vx_L (C n d : String) (A : Nat → Prop) (U : State) (H : Heap) : Prop := ∃ (c : ClassId) (k : Class) (i : Nat) (f : Field) (a : Nat) (cell : Cell), U.vm.findClass C = some c ∧ U.fieldFound? C n d = some (c, k, i, f) ∧ f.isStatic = true ∧ k.statics = some a ∧ H[a]? = some cell ∧ cell.vm.isStatics = true ∧ cell.cls = c ∧ f.slot < cell.slots.size ∧ k.staticTypes[f.slot]? = some f.type ∧ ¬ A a
theorem vx_L.moved {C n d : String} {A : Nat → Prop} {u U : State} {H : Heap} (hvm : u.vm.Alike U.vm) (h : vx_L C n d A u H) : vx_L C n d A U H := by
  obtain ⟨c, k, i, f, a, cell, h1, h2, h3, h4, h5, h6, h7, h8, h9, h10⟩ := h
  obtain ⟨k', hi', he⟩ := State.fieldFound?_setVm hvm h2
  exact ⟨c, k', i, f, a, cell, by rw [hvm.findClass]; exact h1, hi', h3, by rw [he]; exact h4, h5, h6, h7, h8, by rw [he]; exact h9, h10⟩
theorem vx_L.kept {C n d : String} {A : Nat → Prop} {U : State} {H H1 : Heap} (h : vx_L C n d A U H) (hq : ∀ a : Nat, a < H.size → ¬ A a → H1[a]? = H[a]?) : vx_L C n d A U H1 := by
  obtain ⟨c, k, i, f, a, cell, h1, h2, h3, h4, h5, h6, h7, h8, h9, h10⟩ := h
  exact ⟨c, k, i, f, a, cell, h1, h2, h3, h4, by rw [hq a (Array.getElem?_eq_some_iff.mp h5).1 h10]; exact h5, h6, h7, h8, h9, h10⟩
theorem vx_L.narrow {C n d : String} {A B : Nat → Prop} {U : State} {H : Heap} (h : vx_L C n d A U H) (hAB : ∀ q, B q → A q) : vx_L C n d B U H := by
  obtain ⟨c, k, i, f, a, cell, h1, h2, h3, h4, h5, h6, h7, h8, h9, h10⟩ := h
  exact ⟨c, k, i, f, a, cell, h1, h2, h3, h4, h5, h6, h7, h8, h9, fun z => h10 (hAB _ z)⟩
theorem vx_L.word {C n d : String} {A : Nat → Prop} {s : State} {args : Array Value} (h : vx_L C n d A s s.heap) : (Cond.laysStatic C n d).before args s = true := by
  obtain ⟨c, k, i, f, a, cell, h1, h2, h3, h4, h5, h6, h7, h8, h9, -⟩ := h
  show (Cond.laysStatic C n d).holds args s none s [] = true
  exact Cond.laysStatic_of h1 h2 h3 h4 h5 h6 h7 h8 h9
/-- .. and what it holds: null or some reference -/
def vx_Zq (C n d : String) (A : Nat → Prop) (U : State) (H : Heap) : Prop := va_Zq C n d A U H ∧ vx_L C n d A U H
theorem vx_Zq.moved {C n d : String} {A : Nat → Prop} {u U : State} {H : Heap} (hvm : u.vm.Alike U.vm) (h : vx_Zq C n d A u H) : vx_Zq C n d A U H := ⟨va_Zq.moved hvm h.1, vx_L.moved hvm h.2⟩
theorem vx_Zq.kept {C n d : String} {A : Nat → Prop} {U : State} {H H1 : Heap} (h : vx_Zq C n d A U H) (hq : ∀ a : Nat, a < H.size → ¬ A a → H1[a]? = H[a]?) : vx_Zq C n d A U H1 := ⟨va_Zq.kept h.1 hq, vx_L.kept h.2 hq⟩
theorem vx_Zq.narrow {C n d : String} {A B : Nat → Prop} {U : State} {H : Heap} (h : vx_Zq C n d A U H) (hAB : ∀ q, B q → A q) : vx_Zq C n d B U H := ⟨va_Zq.narrow h.1 hAB, vx_L.narrow h.2 hAB⟩
theorem vx_Zqof {args : Array Value} {s : State} {C n d : String} {A : Nat → Prop} (hl : (Cond.laysStatic C n d).before args s = true) (hini : (Cond.initialized C).before args s = true) (h : (Cond.isRef (.static C n d)).before args s = true) (hA : ∀ a : Nat, a < s.heap.size → ¬ A a) : vx_Zq C n d A s s.heap := by
  refine ⟨va_Zqof hl hini h hA, ?_⟩
  obtain ⟨c, k, i, f, a, cell, h1, h2, h3, h4, h5, h6, h7, h8, h9⟩ := Cond.laysStatic_spec hl
  exact ⟨c, k, i, f, a, cell, h1, h2, h3, h4, h5, h6, h7, h8, h9, hA a (Array.getElem?_eq_some_iff.mp h5).1⟩
theorem vx_isRef {C n d : String} {v : Value} {A : Nat → Prop} {s : State} {args : Array Value} (h : va_Z C n d v A s s.heap) (hv : v.isRef = true) : (Cond.isRef (.static C n d)).before args s = true := by
  obtain ⟨cf, kf, fi, f, a, cell, h1, h2, h3, h4, h5, h6, h7, -⟩ := h
  have he : (Term.static C n d).eval args s none [] s = some v := by
    simp [Term.eval, State.fieldNamed?, h1, h2, h4, h5, h6, h7]
  simp only [Cond.before, Cond.holds, Cond.value, he]
  cases v <;> simp_all [Value.isRef]
theorem vx_isRefq {C n d : String} {A : Nat → Prop} {s : State} {args : Array Value} (h : va_Zq C n d A s s.heap) : (Cond.isRef (.static C n d)).before args s = true := by
  rcases h with h | ⟨t, h⟩
  · exact vx_isRef h rfl
  · exact vx_isRef h rfl
/-- the same frame, seen from here: as if the method were called anew in this heap -/
theorem vx_rebase {T : State} (X : Stand p l e R s m args below meth c T locs cells slots) {R' : Room} (hf : R'.frames ≤ R.frames) (hl : R'.locals ≤ R.locals) (hc : cells + R'.cells ≤ R.cells) (hs : slots + R'.slots ≤ R.slots) :
    Stand p l e R' ((T.setVm s.vm).setFrames (.invoking m args :: below)) m args below meth c T [] 0 0 := by
  have htop : (T.setVm s.vm).topJava?.isSome := X.here.top
  have hF : ((T.setVm s.vm).setFrames (.invoking m args :: below)).frames = .invoking m args :: below := State.frames_setFrames _ (State.cur_lt_of_top htop)
  obtain ⟨g₀, hg0⟩ := Option.isSome_iff_exists.mp htop
  obtain ⟨r, hr⟩ := State.topJava?_eq_some.mp hg0
  have hl9 : e.platform.stackLimits (T.setVm s.vm).me = e.platform.stackLimits s.me := X.limits
  have hb9 : (T.setVm s.vm).me.stackBytes = s.me.stackBytes := X.bytes
  refine ⟨X.admits, X.cas, X.clock, hF, ?_, X.hears, X.method, X.code, X.here, X.tail, X.warmed, ?_, ?_, ?_⟩
  · have h := X.room
    have hU : ((T.setVm s.vm).setFrames (.invoking m args :: below)).localsInUse = s.localsInUse := by
      rw [State.localsInUse_invoking hF (meth := meth) (c := c) X.method X.code, State.localsInUse_invoking X.frames X.method X.code]
    simp only [State.hasRoom, Bool.and_eq_true, decide_eq_true_eq] at h ⊢
    obtain ⟨⟨⟨⟨h1, h2, h3, h4, h5, h6⟩, h7⟩, h8⟩, h9⟩ := h
    rw [X.frames, List.length_cons] at h2 h3
    have q1 := X.heapSize
    have q2 := X.used
    simp only [hF, hU, List.length_cons, State.stackLimits_setFrames, State.stackBytes_setFrames, hl9, hb9]
    refine ⟨⟨⟨⟨by omega, by omega, by omega, by omega, by omega, h6⟩, ?_⟩, ?_⟩, X.book⟩
    · show T.heap.size + R'.cells ≤ e.platform.maxCells
      omega
    · show T.slotsUsed + R'.slots ≤ e.platform.maxSlots
      omega
  · rw [State.stackLimits_setFrames]; rfl
  · rw [State.stackBytes_setFrames]; rfl
  · refine ⟨?_, Nat.le_refl _, Nat.le_refl _, ?_, ?_, fun a c9 h9 => ⟨c9, h9, rfl, rfl, fun _ _ => rfl⟩⟩
    · obtain ⟨t, ht, -⟩ := State.frames_cons hr
      show T.setVm s.vm = { ((T.setVm s.vm).setFrames (.invoking m args :: below)).setFrames (T.setVm s.vm).frames with heap := T.heap, slotsUsed := T.slotsUsed }
      rw [State.setFrames_setFrames, State.setFrames_self ht]
      rfl
    · show T.slotsUsed = T.slotsUsed + ((T.heap.toList.drop T.heap.size).map (·.slots.size)).sum
      rw [List.drop_eq_nil_of_le (Nat.le_of_eq Array.length_toList)]
      rfl
    · show ((T.heap.toList.drop T.heap.size).map (·.slots.size)).sum ≤ 0
      rw [List.drop_eq_nil_of_le (Nat.le_of_eq Array.length_toList)]
      exact Nat.le_refl _
/-- 'throw new E()': new; dup; invokespecial; athrow -/
theorem vx_throw0 {cc : ByteArray} {pc : Nat} (hexec : p.tables.exec = Jvm.exec) (hb : c.code = cc) (hl : l.stackTraces = false) {own cls : String} {names : List String} {ik ic mc ms : Nat} {A : Nat → Prop}
    (hown : s.vm.findClass own = some m.cls) (hcls : Bundle.fit cls = true) (hnames : ∀ n ∈ names, Bundle.fit n = true)
    (hk : (Cond.classLink own ik cls).before args s = true) (hini : (Cond.initialized cls).before args s = true) (hat : ∀ w ∈ vx_at0 own ic cls names, w.before args s = true)
    (hgood : ∀ w ∈ Cond.classLink own ik cls :: Cond.initialized cls :: vx_at0 own ic cls names, vx_ot w = true)
    (hU : vx_Zq Bundle.tN "UNASSIGNED_STACK" Bundle.steD A s s.heap) (hN : vx_Zq Bundle.tN "SUPPRESSED_SENTINEL" Bundle.listD A s s.heap) (hS : va_S A s.heap H locs) (hsize : ls.size = c.maxLocals)
    (d0 : decode cc pc = .ok (.new ik, 3)) (d3 : decode cc (pc + 3) = .ok (.dup, 1)) (d4 : decode cc (pc + 4) = .ok (.invokespecial ic, 3)) (d7 : decode cc (pc + 7) = .ok (.athrow, 1))
    (hout : ∀ x ∈ c.exceptionTable.toList, covers x (pc + 7) = false)
    (hRframes : names.length + 3 < R.frames) (hRlocals : (rest.map fun v => v.category).sum + (13 * (names.length + 1) + 42) ≤ R.locals) (hRcells : cells + 1 ≤ R.cells) (hRslots : slots + 6 ≤ R.slots) (hlocks : meth.locks = false)
    (hx : ∀ t : State, s.vm.Alike t.vm → H.size ≤ t.heap.size → (∀ q : Nat, q < H.size → t.heap[q]? = H[q]?) → XC cls s t)
    (hf : ∀ z ∈ locs, free z.base) (hc : cells + 1 ≤ mc) (hs : slots + 6 ≤ ms) :
    W p l e R s m args below meth c H locs cells slots (vx_MQ below Qc XC args s mc ms free) (F0 m pc ls rest) := by
  intro T hT X
  have htr : e.platform.stackTraces = false := (show e.platform.stackTraces = l.stackTraces by rw [X.admits.platform]).trans hl
  have Y := vx_rebase X (R' := { frames := R.frames, locals := R.locals, cells := 1, slots := 6 }) (Nat.le_refl _) (Nat.le_refl _) hRcells hRslots
  obtain ⟨s', hA⟩ : ∃ z, z = (T.setVm s.vm).setFrames (.invoking m args :: below) := ⟨_, rfl⟩
  rw [← hA] at Y
  have hvm : s'.vm = s.vm := by rw [hA]; rfl
  have hhp : s'.heap = H := by rw [hA]; exact hT
  have hW0 : s.WarmedH s'.vm := by rw [hvm]; exact State.WarmedH.refl s
  have hat' : ∀ w ∈ vx_at0 own ic cls names, w.before args s' = true := fun w hw => vx_ot_at hW0 hvm.symm (hgood w (List.mem_cons_of_mem _ (List.mem_cons_of_mem _ hw))) (hat w hw)
  have hk' : (Cond.classLink own ik cls).before args s' = true := vx_ot_at hW0 hvm.symm (hgood _ List.mem_cons_self) hk
  have hini' : (Cond.initialized cls).before args s' = true := vx_ot_at hW0 hvm.symm (hgood _ (List.mem_cons_of_mem _ List.mem_cons_self)) hini
  have hU' : vx_Zq Bundle.tN "UNASSIGNED_STACK" Bundle.steD A s' s'.heap := by rw [hhp]; exact vx_Zq.moved hW0.alike (hU.kept hS.2.1)
  have hN' : vx_Zq Bundle.tN "SUPPRESSED_SENTINEL" Bundle.listD A s' s'.heap := by rw [hhp]; exact vx_Zq.moved hW0.alike (hN.kept hS.2.1)
  have h : ∀ w ∈ Bundle.ownAtoms0 own ic cls names, w.before args s' = true := vx_own hat' (vx_isRefq hU'.1) (vx_isRefq hN'.1) hU'.2.word hN'.2.word
  have hown' : s'.vm.findClass own = some m.cls := by rw [hvm]; exact hown
  have hins : (Cond.instantiable cls 6).before args s' = true := h _ (by simp [Bundle.ownAtoms0])
  obtain ⟨vm₁, cX, kX, hfX, hkX, -, -, X₁, st1⟩ := Y.newCold hexec (own := own) (C := cls) (index := ik) (n := 6) hown' hk' hins hini'
    (g := F0 m pc ls rest) rfl (by rw [hb]; exact d0) (Nat.le_refl _) (Nat.le_refl _)
  generalize hT1 : (T.setVm vm₁).pushCell { cls := cX, slots := kX.instanceTypes.map defaultValue, vm := .none } = T1 at X₁ st1
  have hcat : (Value.ref T.heap.size).category = 1 := rfl
  have hcellA : T1.heap[T.heap.size]? = some (freshCell cX kX) := by rw [← hT1]; exact State.heap_pushCell_size _ _
  have d3' : decode c.code (pc + 3) = .ok (.dup, 1) := by rw [hb]; exact d3
  obtain ⟨U, hsteps, hrun, hend, hW, hsame, ce, hce, hO⟩ := X₁.ctorThrow0 hexec htr (own := own) (cls := cls) (names := names) (ic := ic) hown' hcls hnames h (fun x hx => nomatch hx) hfX hkX hcellA (by rw [hhp, hT]; exact Nat.le_refl _)
    (g := { method := m, pc := pc + 4, locals := ls, stack := .ref T.heap.size :: .ref T.heap.size :: rest, locked := none }) rfl hsize rfl rfl (rest := rest) rfl
    (by rw [hb]; exact d4) (by rw [hb]; exact d7) hout hRframes (by simp only [List.map_cons, List.sum_cons, hcat]; omega) hlocks
  obtain ⟨f1, f2⟩ := vx_frame hsame
  rw [hhp] at f1 f2
  have hWs : s.WarmedH U.vm := State.WarmedH.trans hW0 hW
  have hcl : s.vm.findClass cls = some ce.cls := by
    have h9 := hO.cls
    rw [hvm] at h9
    exact h9
  have hall : s.sameButNew ({ U with vm := s.vm } : State) locs mc ms := by
    subst hA
    obtain ⟨e1, e2⟩ := hsame
    rw [State.setFrames_setFrames] at e1
    have h2 : (T.setVm s.vm).sameButNew ({ U with vm := s.vm } : State) [] (0 + 1) (0 + 6) := ⟨e1, e2⟩
    have h3 := X.same.trans h2
    rw [List.append_nil] at h3
    exact h3.mono hc hs
  refine ⟨U, ?_, .threw T.heap.size, hrun, hend, Or.inr ⟨T.heap.size, rfl, cls, ce, locs, hx U hWs.alike f1 (fun q hq => f2 q hq (fun z hz => nomatch hz)), hce, hO.vm, hcl, hWs, hall, hf⟩⟩
  refine st1 _ ?_
  show Steps p.tables e below (T1.setTop { method := m, pc := pc + 3, locals := ls, stack := .ref T.heap.size :: rest, locked := none }) _
  jvm_step X₁.here [X₁.here.top, hexec, d3', Value.category]
  exact hsteps
/-- 'throw new E("text")': new; dup; ldc; invokespecial; athrow -/
theorem vx_throwS {cc : ByteArray} {pc : Nat} (hexec : p.tables.exec = Jvm.exec) (hb : c.code = cc) (hl : l.stackTraces = false) {own cls text : String} {names : List String} {ik is ic mc ms sa : Nat} {A : Nat → Prop}
    (hown : s.vm.findClass own = some m.cls) (hcls : Bundle.fit cls = true) (hnames : ∀ n ∈ names, Bundle.fit n = true)
    (hk : (Cond.classLink own ik cls).before args s = true) (hini : (Cond.initialized cls).before args s = true) (hstr : vk_R own is text sa s) (hat : ∀ w ∈ vx_atS own ic cls names, w.before args s = true)
    (hgood : ∀ w ∈ Cond.classLink own ik cls :: Cond.initialized cls :: vx_atS own ic cls names, vx_ot w = true)
    (hU : vx_Zq Bundle.tN "UNASSIGNED_STACK" Bundle.steD A s s.heap) (hN : vx_Zq Bundle.tN "SUPPRESSED_SENTINEL" Bundle.listD A s s.heap) (hS : va_S A s.heap H locs) (hsize : ls.size = c.maxLocals)
    (d0 : decode cc pc = .ok (.new ik, 3)) (d3 : decode cc (pc + 3) = .ok (.dup, 1)) (d4 : decode cc (pc + 4) = .ok (.ldc is, 2)) (d6 : decode cc (pc + 6) = .ok (.invokespecial ic, 3)) (d9 : decode cc (pc + 9) = .ok (.athrow, 1))
    (hout : ∀ x ∈ c.exceptionTable.toList, covers x (pc + 9) = false)
    (hRframes : names.length + 3 < R.frames) (hRlocals : (rest.map fun v => v.category).sum + (13 * (names.length + 1) + 43) ≤ R.locals) (hRcells : cells + 1 ≤ R.cells) (hRslots : slots + 6 ≤ R.slots) (hlocks : meth.locks = false)
    (hx : ∀ t : State, s.vm.Alike t.vm → H.size ≤ t.heap.size → (∀ q : Nat, q < H.size → t.heap[q]? = H[q]?) → XC cls s t)
    (hf : ∀ z ∈ locs, free z.base) (hc : cells + 1 ≤ mc) (hs : slots + 6 ≤ ms) :
    W p l e R s m args below meth c H locs cells slots (vx_MQ below Qc XC args s mc ms free) (F0 m pc ls rest) := by
  intro T hT X
  have htr : e.platform.stackTraces = false := (show e.platform.stackTraces = l.stackTraces by rw [X.admits.platform]).trans hl
  have Y := vx_rebase X (R' := { frames := R.frames, locals := R.locals, cells := 1, slots := 6 }) (Nat.le_refl _) (Nat.le_refl _) hRcells hRslots
  obtain ⟨s', hA⟩ : ∃ z, z = (T.setVm s.vm).setFrames (.invoking m args :: below) := ⟨_, rfl⟩
  rw [← hA] at Y
  have hvm : s'.vm = s.vm := by rw [hA]; rfl
  have hhp : s'.heap = H := by rw [hA]; exact hT
  have hW0 : s.WarmedH s'.vm := by rw [hvm]; exact State.WarmedH.refl s
  have hat' : ∀ w ∈ vx_atS own ic cls names, w.before args s' = true := fun w hw => vx_ot_at hW0 hvm.symm (hgood w (List.mem_cons_of_mem _ (List.mem_cons_of_mem _ hw))) (hat w hw)
  have hk' : (Cond.classLink own ik cls).before args s' = true := vx_ot_at hW0 hvm.symm (hgood _ List.mem_cons_self) hk
  have hini' : (Cond.initialized cls).before args s' = true := vx_ot_at hW0 hvm.symm (hgood _ (List.mem_cons_of_mem _ List.mem_cons_self)) hini
  have hU' : vx_Zq Bundle.tN "UNASSIGNED_STACK" Bundle.steD A s' s'.heap := by rw [hhp]; exact vx_Zq.moved hW0.alike (hU.kept hS.2.1)
  have hN' : vx_Zq Bundle.tN "SUPPRESSED_SENTINEL" Bundle.listD A s' s'.heap := by rw [hhp]; exact vx_Zq.moved hW0.alike (hN.kept hS.2.1)
  have h : ∀ w ∈ Bundle.ownAtoms own ic cls names, w.before args s' = true := vx_own hat' (vx_isRefq hU'.1) (vx_isRefq hN'.1) hU'.2.word hN'.2.word
  have hown' : s'.vm.findClass own = some m.cls := by rw [hvm]; exact hown
  have hins : (Cond.instantiable cls 6).before args s' = true := h _ (by simp [Bundle.ownAtoms])
  obtain ⟨vm₁, cX, kX, hfX, hkX, -, -, X₁, st1⟩ := Y.newCold hexec (own := own) (C := cls) (index := ik) (n := 6) hown' hk' hins hini'
    (g := F0 m pc ls rest) rfl (by rw [hb]; exact d0) (Nat.le_refl _) (Nat.le_refl _)
  generalize hT1 : (T.setVm vm₁).pushCell { cls := cX, slots := kX.instanceTypes.map defaultValue, vm := .none } = T1 at X₁ st1
  have hcat : (Value.ref T.heap.size).category = 1 := rfl
  have hcellA : T1.heap[T.heap.size]? = some (freshCell cX kX) := by rw [← hT1]; exact State.heap_pushCell_size _ _
  have d3' : decode c.code (pc + 3) = .ok (.dup, 1) := by rw [hb]; exact d3
  have d4' : decode c.code (pc + 4) = .ok (.ldc is, 2) := by rw [hb]; exact d4
  have hstr' : vk_R own is text sa s' := vk_R.warm hW0 hstr
  obtain ⟨U, hsteps, hrun, hend, hW, hsame, ce, hce, hO⟩ := X₁.ctorThrowS hexec htr (own := own) (cls := cls) (names := names) (ic := ic) hown' hcls hnames h (fun x hx => nomatch hx) hfX hkX hcellA (by rw [hhp, hT]; exact Nat.le_refl _) (msg := .ref sa) rfl
    (g := { method := m, pc := pc + 6, locals := ls, stack := .ref sa :: .ref T.heap.size :: .ref T.heap.size :: rest, locked := none }) rfl hsize rfl rfl (rest := rest) rfl
    (by rw [hb]; exact d6) (by rw [hb]; exact d9) hout hRframes (by simp only [List.map_cons, List.sum_cons, hcat]; omega) hlocks
  obtain ⟨f1, f2⟩ := vx_frame hsame
  rw [hhp] at f1 f2
  have hWs : s.WarmedH U.vm := State.WarmedH.trans hW0 hW
  have hcl : s.vm.findClass cls = some ce.cls := by
    have h9 := hO.cls
    rw [hvm] at h9
    exact h9
  have hall : s.sameButNew ({ U with vm := s.vm } : State) locs mc ms := by
    subst hA
    obtain ⟨e1, e2⟩ := hsame
    rw [State.setFrames_setFrames] at e1
    have h2 : (T.setVm s.vm).sameButNew ({ U with vm := s.vm } : State) [] (0 + 1) (0 + 6) := ⟨e1, e2⟩
    have h3 := X.same.trans h2
    rw [List.append_nil] at h3
    exact h3.mono hc hs
  refine ⟨U, ?_, .threw T.heap.size, hrun, hend, Or.inr ⟨T.heap.size, rfl, cls, ce, locs, hx U hWs.alike f1 (fun q hq => f2 q hq (fun z hz => nomatch hz)), hce, hO.vm, hcl, hWs, hall, hf⟩⟩
  refine st1 _ ?_
  show Steps p.tables e below (T1.setTop { method := m, pc := pc + 3, locals := ls, stack := .ref T.heap.size :: rest, locked := none }) _
  jvm_step X₁.here [X₁.here.top, hexec, d3', Value.category]
  exact X₁.ldcString hexec (own := own) (text := text) (index := is) (a := sa) hown' hstr'.1 hstr'.2
    (g := { method := m, pc := pc + 4, locals := ls, stack := .ref T.heap.size :: .ref T.heap.size :: rest, locked := none }) rfl d4' _ hsteps
/-- 'throw new E("text")', the text by a wide index -/
theorem vx_throwSW {cc : ByteArray} {pc : Nat} (hexec : p.tables.exec = Jvm.exec) (hb : c.code = cc) (hl : l.stackTraces = false) {own cls text : String} {names : List String} {ik is ic mc ms sa : Nat} {A : Nat → Prop}
    (hown : s.vm.findClass own = some m.cls) (hcls : Bundle.fit cls = true) (hnames : ∀ n ∈ names, Bundle.fit n = true)
    (hk : (Cond.classLink own ik cls).before args s = true) (hini : (Cond.initialized cls).before args s = true) (hstr : vk_R own is text sa s) (hat : ∀ w ∈ vx_atS own ic cls names, w.before args s = true)
    (hgood : ∀ w ∈ Cond.classLink own ik cls :: Cond.initialized cls :: vx_atS own ic cls names, vx_ot w = true)
    (hU : vx_Zq Bundle.tN "UNASSIGNED_STACK" Bundle.steD A s s.heap) (hN : vx_Zq Bundle.tN "SUPPRESSED_SENTINEL" Bundle.listD A s s.heap) (hS : va_S A s.heap H locs) (hsize : ls.size = c.maxLocals)
    (d0 : decode cc pc = .ok (.new ik, 3)) (d3 : decode cc (pc + 3) = .ok (.dup, 1)) (d4 : decode cc (pc + 4) = .ok (.ldc_w is, 3)) (d7 : decode cc (pc + 7) = .ok (.invokespecial ic, 3)) (d10 : decode cc (pc + 10) = .ok (.athrow, 1))
    (hout : ∀ x ∈ c.exceptionTable.toList, covers x (pc + 10) = false)
    (hRframes : names.length + 3 < R.frames) (hRlocals : (rest.map fun v => v.category).sum + (13 * (names.length + 1) + 43) ≤ R.locals) (hRcells : cells + 1 ≤ R.cells) (hRslots : slots + 6 ≤ R.slots) (hlocks : meth.locks = false)
    (hx : ∀ t : State, s.vm.Alike t.vm → H.size ≤ t.heap.size → (∀ q : Nat, q < H.size → t.heap[q]? = H[q]?) → XC cls s t)
    (hf : ∀ z ∈ locs, free z.base) (hc : cells + 1 ≤ mc) (hs : slots + 6 ≤ ms) :
    W p l e R s m args below meth c H locs cells slots (vx_MQ below Qc XC args s mc ms free) (F0 m pc ls rest) := by
  intro T hT X
  have htr : e.platform.stackTraces = false := (show e.platform.stackTraces = l.stackTraces by rw [X.admits.platform]).trans hl
  have Y := vx_rebase X (R' := { frames := R.frames, locals := R.locals, cells := 1, slots := 6 }) (Nat.le_refl _) (Nat.le_refl _) hRcells hRslots
  obtain ⟨s', hA⟩ : ∃ z, z = (T.setVm s.vm).setFrames (.invoking m args :: below) := ⟨_, rfl⟩
  rw [← hA] at Y
  have hvm : s'.vm = s.vm := by rw [hA]; rfl
  have hhp : s'.heap = H := by rw [hA]; exact hT
  have hW0 : s.WarmedH s'.vm := by rw [hvm]; exact State.WarmedH.refl s
  have hat' : ∀ w ∈ vx_atS own ic cls names, w.before args s' = true := fun w hw => vx_ot_at hW0 hvm.symm (hgood w (List.mem_cons_of_mem _ (List.mem_cons_of_mem _ hw))) (hat w hw)
  have hk' : (Cond.classLink own ik cls).before args s' = true := vx_ot_at hW0 hvm.symm (hgood _ List.mem_cons_self) hk
  have hini' : (Cond.initialized cls).before args s' = true := vx_ot_at hW0 hvm.symm (hgood _ (List.mem_cons_of_mem _ List.mem_cons_self)) hini
  have hU' : vx_Zq Bundle.tN "UNASSIGNED_STACK" Bundle.steD A s' s'.heap := by rw [hhp]; exact vx_Zq.moved hW0.alike (hU.kept hS.2.1)
  have hN' : vx_Zq Bundle.tN "SUPPRESSED_SENTINEL" Bundle.listD A s' s'.heap := by rw [hhp]; exact vx_Zq.moved hW0.alike (hN.kept hS.2.1)
  have h : ∀ w ∈ Bundle.ownAtoms own ic cls names, w.before args s' = true := vx_own hat' (vx_isRefq hU'.1) (vx_isRefq hN'.1) hU'.2.word hN'.2.word
  have hown' : s'.vm.findClass own = some m.cls := by rw [hvm]; exact hown
  have hins : (Cond.instantiable cls 6).before args s' = true := h _ (by simp [Bundle.ownAtoms])
  obtain ⟨vm₁, cX, kX, hfX, hkX, -, -, X₁, st1⟩ := Y.newCold hexec (own := own) (C := cls) (index := ik) (n := 6) hown' hk' hins hini'
    (g := F0 m pc ls rest) rfl (by rw [hb]; exact d0) (Nat.le_refl _) (Nat.le_refl _)
  generalize hT1 : (T.setVm vm₁).pushCell { cls := cX, slots := kX.instanceTypes.map defaultValue, vm := .none } = T1 at X₁ st1
  have hcat : (Value.ref T.heap.size).category = 1 := rfl
  have hcellA : T1.heap[T.heap.size]? = some (freshCell cX kX) := by rw [← hT1]; exact State.heap_pushCell_size _ _
  have d3' : decode c.code (pc + 3) = .ok (.dup, 1) := by rw [hb]; exact d3
  have d4' : decode c.code (pc + 4) = .ok (.ldc_w is, 3) := by rw [hb]; exact d4
  have hstr' : vk_R own is text sa s' := vk_R.warm hW0 hstr
  obtain ⟨U, hsteps, hrun, hend, hW, hsame, ce, hce, hO⟩ := X₁.ctorThrowS hexec htr (own := own) (cls := cls) (names := names) (ic := ic) hown' hcls hnames h (fun x hx => nomatch hx) hfX hkX hcellA (by rw [hhp, hT]; exact Nat.le_refl _) (msg := .ref sa) rfl
    (g := { method := m, pc := pc + 7, locals := ls, stack := .ref sa :: .ref T.heap.size :: .ref T.heap.size :: rest, locked := none }) rfl hsize rfl rfl (rest := rest) rfl
    (by rw [hb]; exact d7) (by rw [hb]; exact d10) hout hRframes (by simp only [List.map_cons, List.sum_cons, hcat]; omega) hlocks
  obtain ⟨f1, f2⟩ := vx_frame hsame
  rw [hhp] at f1 f2
  have hWs : s.WarmedH U.vm := State.WarmedH.trans hW0 hW
  have hcl : s.vm.findClass cls = some ce.cls := by
    have h9 := hO.cls
    rw [hvm] at h9
    exact h9
  have hall : s.sameButNew ({ U with vm := s.vm } : State) locs mc ms := by
    subst hA
    obtain ⟨e1, e2⟩ := hsame
    rw [State.setFrames_setFrames] at e1
    have h2 : (T.setVm s.vm).sameButNew ({ U with vm := s.vm } : State) [] (0 + 1) (0 + 6) := ⟨e1, e2⟩
    have h3 := X.same.trans h2
    rw [List.append_nil] at h3
    exact h3.mono hc hs
  refine ⟨U, ?_, .threw T.heap.size, hrun, hend, Or.inr ⟨T.heap.size, rfl, cls, ce, locs, hx U hWs.alike f1 (fun q hq => f2 q hq (fun z hz => nomatch hz)), hce, hO.vm, hcl, hWs, hall, hf⟩⟩
  refine st1 _ ?_
  show Steps p.tables e below (T1.setTop { method := m, pc := pc + 3, locals := ls, stack := .ref T.heap.size :: rest, locked := none }) _
  jvm_step X₁.here [X₁.here.top, hexec, d3', Value.category]
  exact X₁.ldcStringW hexec (own := own) (text := text) (index := is) (a := sa) hown' hstr'.1 hstr'.2
    (g := { method := m, pc := pc + 4, locals := ls, stack := .ref T.heap.size :: .ref T.heap.size :: rest, locked := none }) rfl d4' _ hsteps
end Ends
section Bodies
variable {l : Launch}
theorem vx_ofW {y : MethodName} {ws ws' : List Cond} {rm : Room} {Pc : Array Value → State → Prop} {Qc : Array Value → State → Outcome → State → Prop} {XC : String → State → State → Prop} {mc ms : Nat} {free : Addr → Prop} {cc : ByteArray} {maxL : Nat} {ret : Option FieldType}
    (hy : plainName y.cls = true) (hw : ws = Cond.code y cc maxL ret :: ws')
    (body : ∀ p e s m args below meth c s₁, BodyLoose p l y (headSpec ws rm) cc maxL ret e s m args below meth c s₁ → c.maxLocals = maxL → (∀ x ∈ c.exceptionTable.toList, False) → Pc args s →
      W p l e (headSpec ws rm).room s m args below meth c s.heap [] 0 0 (vx_MQ below Qc XC args s mc ms free) (entryFrame m args maxL)) : vx_Met l y ws rm Pc Qc XC mc ms free := by
  refine MetFree.of_bodyS (code := cc) (maxLocals := maxL) (ret := ret) hy ?_ ?_
  · intro args s m h hn
    obtain ⟨meth, c, h1, h2, h3, h4, h5, h6, -, -⟩ := Cond.code_spec hn (atoms_spec (ws := ws) h _ (by rw [hw]; exact List.mem_cons_self))
    exact ⟨meth, c, h1, h2, h3, h4, h5, h6⟩
  · intro p e s m args below meth c s₁ B hml hP _
    have hh0 : s₁.heap = s.heap := by rw [B.state]; rfl
    have ht : ∀ x ∈ c.exceptionTable.toList, False := by
      obtain ⟨meth9, c9, h1, h2, -, -, -, -, h7, -⟩ := Cond.code_spec B.named (atoms_spec (ws := ws) B.pre _ (by rw [hw]; exact List.mem_cons_self))
      cases Option.some.inj (h1.symm.trans B.method)
      cases Option.some.inj (h2.symm.trans (Stand.of_body B).code)
      intro x hx
      rw [Array.isEmpty_iff.mp h7] at hx
      cases hx
    obtain ⟨t, a1, o, b1, b2, b3⟩ := body p e s m args below meth c s₁ B hml ht hP s₁ hh0 (Stand.of_body B)
    exact ⟨t, o, a1, b1, b2, b3⟩
/-- the table of a body with handlers -/
theorem vx_table {p : Program} {x y : MethodName} {S : Spec} {cc bytes : ByteArray} {maxL maxL' : Nat} {ret ret' : Option FieldType} {e : Env} {s s₁ : State} {m : MethodId} {args : Array Value} {below : List Frame} {meth : Method} {c : Code} {hh : List (Nat × Nat × Nat × Nat)}
    (B : BodyLoose p l y S cc maxL ret e s m args below meth c s₁) (h : (Cond.codeWith y bytes maxL' ret' hh).before args s = true) : c.exceptionTable.toList = tableOf hh := by
  obtain ⟨m9, meth9, c9, hn9, h1, h2, -, -, h6, -⟩ := Cond.codeWith_spec h
  cases Option.some.inj (hn9.symm.trans B.named)
  cases Option.some.inj (h1.symm.trans B.method)
  cases Option.some.inj (h2.symm.trans (Stand.of_body B).code)
  rw [← h6, table_eq]
end Bodies
end VXA
/-! ===== END ===== -/
/-! ===== BEGIN a static call of a method with an exception table ===== -/
section VXS
variable {p : Program} {l : Launch} {e : Env} {R : Room} {s : State} {m : MethodId} {args : Array Value} {below : List Frame} {meth : Method} {c : Code} {T : State} {H : Heap} {locs : List Loc} {cells slots : Nat}
abbrev vx_CSW (R : Room) (s : State) (args : Array Value) (own : String) (index : Nat) (y : MethodName) (bytes : ByteArray) (maxL : Nat) (ret : Option FieldType) (hh : List (Nat × Nat × Nat × Nat)) (ws : List Cond) (rm : Room) (mc ms n : Nat) : Prop :=
  (rm.cells = mc ∧ rm.slots = ms ∧ rm.frames + 1 ≤ R.frames ∧ 8 + (maxL + 11) + rm.locals ≤ R.locals ∧ (∀ w ∈ ws, ∀ (a' : Array Value) (U : State), s.WarmedH U.vm → w.before a' U = true) ∧ Cond.codeWith y bytes maxL ret hh ∈ ws) ∧
  (Cond.codeWith y bytes maxL ret hh).before args s = true ∧ (Cond.initialized y.cls).before args s = true ∧ (y.cls ≠ "java/lang/invoke/MethodHandle" ∧ y.cls ≠ "java/lang/invoke/VarHandle") ∧
  (∀ sig, parseMethodDescriptor y.desc = some sig → n = sig.parameters.length) ∧ (Cond.methodLink own index y).before args s = true ∧ (Cond.static y).before args s = true
theorem vx_cwSW {own : String} {index maxL mc ms : Nat} {y : MethodName} {bytes : ByteArray} {ret : Option FieldType} {hh : List (Nat × Nat × Nat × Nat)} {Ts ws ws' : List Cond} {rm : Room} (n : Nat) (ht : ∀ w ∈ Ts, w.before args s = true) (hT : GoodIn Ts (va_wsS own index y ws)) (hw : ws = Cond.codeWith y bytes maxL ret hh :: ws') (hrc : rm.cells = mc) (hrs : rm.slots = ms)
    (hd : y.cls ≠ "java/lang/invoke/MethodHandle" ∧ y.cls ≠ "java/lang/invoke/VarHandle" ∧ (parseMethodDescriptor y.desc).map (fun d => d.parameters.length) = some n) (hR : rm.frames + 1 ≤ R.frames ∧ 8 + (maxL + 11) + rm.locals ≤ R.locals) :
    vx_CSW R s args own index y bytes maxL ret hh ws rm mc ms n := by
  have ok : ∀ w ∈ va_wsS own index y ws, w.before args s = true := fun w h => ht w (hT w h).1
  have hG : GoodIn Ts ws := fun w h => hT w (by unfold va_wsS; exact List.mem_append_right _ h)
  have hc : Cond.codeWith y bytes maxL ret hh ∈ ws := by rw [hw]; exact List.mem_cons_self
  refine ⟨⟨hrc, hrs, hR.1, hR.2, pay_in ht hG, hc⟩, ht _ (hG _ hc).1, ok _ (by simp [va_wsS]), ⟨hd.1, hd.2.1⟩, fun sig h => ?_, ok _ (by simp [va_wsS]), ok _ (by simp [va_wsS])⟩
  have h2 := hd.2.2
  rw [h] at h2
  exact (Option.some.inj h2).symm
theorem vx_callSW (X : Stand p l e R s m args below meth c T locs cells slots) (hexec : p.tables.exec = Jvm.exec) {own : String} {index : Nat} {y : MethodName} {bytes : ByteArray} {maxL : Nat} {ret : Option FieldType} {hh : List (Nat × Nat × Nat × Nat)}
    (hown : s.vm.findClass own = some m.cls) (hlink : (Cond.methodLink own index y).before args s = true) (hstat : (Cond.static y).before args s = true) (hinit : (Cond.initialized y.cls).before args s = true)
    (hcode : (Cond.codeWith y bytes maxL ret hh).before args s = true) (hy : y.cls ≠ "java/lang/invoke/MethodHandle" ∧ y.cls ≠ "java/lang/invoke/VarHandle")
    {W9 : Nat} {Pre : Pt → Array Value → Prop} {Post : Pt → Array Value → Option Value → Pt → Prop} (hK : Back l R p e below s args y 3 W9 Pre Post)
    {g : JFrame} (hg : g.method = m) (hsize : g.locals.size = c.maxLocals) {argsL rest : List Value} (hlen : ∀ sig, parseMethodDescriptor y.desc = some sig → argsL.length = sig.parameters.length)
    (hstack : g.stack = argsL.reverse ++ rest) (hW : 2 * g.monitorRoom + (rest.map fun v => v.category).sum ≤ W9) (hdg : decode c.code g.pc = .ok (.invokestatic index, 3))
    (hpre : ∀ vm₁, s.WarmedH vm₁ → Pre ⟨T.setVm vm₁, locs, cells, slots⟩ argsL.toArray) :
    ∃ (v : Option Value) (vm₁ : Vm) (B : Pt), s.WarmedH vm₁ ∧ Stand p l e R s m args below meth c B.U B.locs B.cells B.slots ∧ Post ⟨T.setVm vm₁, locs, cells, slots⟩ argsL.toArray v B ∧
      ∀ target, Steps p.tables e below (B.U.setTop { g with pc := g.pc + 3, stack := v.toList ++ rest }) target → Steps p.tables e below (T.setTop g) target := by
  obtain ⟨mk, methM, cM, hnamed, hmethM, -, -, -, -, -, -, hsigM⟩ := Cond.codeWith_spec hcode
  have hstatic : methM.isStatic = true := Cond.static_spec hnamed hmethM hstat
  obtain ⟨kP, hkP, -⟩ := className_of_methodNamed hnamed
  have hinitP : kP.init = .initialized := Cond.initialized_spec (findClass_of_methodNamed hnamed) hkP hinit
  obtain ⟨vm₁, X₁, hstep₁⟩ := X.invokestatic hexec hown hlink hnamed hmethM hstatic hkP hinitP hy (g := g) hg (argsL := argsL) (rest := rest) (hlen _ hsigM) hstack hdg
  obtain ⟨v, B, X', hpost, hsteps⟩ := hK m meth c ⟨T.setVm vm₁, locs, cells, slots⟩ { g with stack := rest } (.invokestatic index) mk argsL.toArray X₁ hg hsize hdg hW (X₁.named hnamed) (hpre vm₁ X₁.warmed)
  exact ⟨v, vm₁, B, X₁.warmed, X', hpost, fun target h => hstep₁ _ fun acts => by rw [doInvoke_state]; exact hsteps.trans h⟩
theorem vx_runSW {y : MethodName} {bytes cc : ByteArray} {maxL nL mc ms n index : Nat} {ret : Option FieldType} {hh : List (Nat × Nat × Nat × Nat)} {ws : List Cond} {rm : Room} {Pc : Array Value → State → Prop} {Qc : Array Value → State → Outcome → State → Prop} {free : Addr → Prop} {Ts : List Cond} {own : String} {As rest : List Value} {g : JFrame}
    (S : CallFix p m c cc nL s args Ts own) (hM : Met l y ws rm Pc Qc mc ms free) (cw : vx_CSW R s args own index y bytes maxL ret hh ws rm mc ms n) (hp : PreS s H Pc As)
    (hg : g.method = m) (hn : As.length = n) (hsize : g.locals.size = nL) (hstack : g.stack = As.reverse ++ rest) (hW : 2 * g.monitorRoom + (rest.map fun v => v.category).sum ≤ 8) (hdg : decode cc g.pc = .ok (.invokestatic index, 3)) (hf : cells + mc ≤ R.cells ∧ slots + ms ≤ R.slots) :
    va_Run p l e R s m args below meth c H locs cells slots mc ms g rest (Qc As.toArray) (free) := by
  obtain ⟨⟨hrc, hrs, hfr, hlo, hws, hcw⟩, hcode, hini, hy, hlen, hl, hstt⟩ := cw
  have hK : Back l R p e below s args y 3 8 (PreOf R mc ms Pc) (PostOf Qc mc ms free) := va_backW (hh := hh) (bytes := bytes) (maxL := maxL) (ret := ret) hM hp.1 hrc hrs hfr hlo hws hcw (fun a' U hW => word_at hW (Or.inl (by first | rfl | simp [Cond.onTables, Cond.keeps, Cond.steady])) hini)
  obtain ⟨hx, hb, hml, ho, -⟩ := S
  intro T hT X
  obtain ⟨v, vm₁, ⟨U', l2, c2, s2⟩, hW₁, X', ⟨g', mk, t, L, e1, e2, hq, h1, hL, h2, h3⟩, st⟩ := vx_callSW X hx (hh := hh) (bytes := bytes) (maxL := maxL) (ret := ret) ho hl hstt hini hcode hy hK hg (hsize.trans hml.symm) (argsL := As) (rest := rest) (fun sig h => hn.trans (hlen sig h)) hstack hW (by rw [hb]; exact hdg)
    (fun vm₁ hW₁ => ⟨hf.1, hf.2, hp.2 (T.setVm vm₁) hT hW₁⟩)
  dsimp only [Pt.U, Pt.locs, Pt.cells, Pt.slots] at X' e1 e2 h1 h2 h3 st
  subst h1; subst h2; subst h3
  exact ⟨v, (T.setVm vm₁).calling g' mk As.toArray, t, U', L, hT, X', hL, e1, e2, hq, st⟩
/-- not caught here, past rows that name other classes: it goes on to the caller -/
theorem vx_outP {p : Program} {l : Launch} {e : Env} {R : Room} {s : State} {m : MethodId} {args : Array Value} {below : List Frame} {meth : Method} {c : Code} {H : Heap} {locs : List Loc} {cells slots : Nat} {free : Addr → Prop} {ls : Array Slot} {rest : List Value} {Qc : Array Value → State → Outcome → State → Prop} {XC : String → State → State → Prop}
    {pc : Nat} {own E : String} {ce : Cell} {q : Addr} {mc ms : Nat} (hown : s.vm.findClass own = some m.cls) (hlocks : meth.locks = false)
    (hpass : ∀ z ∈ c.exceptionTable.toList, covers z pc = false ∨ (z.catchType ≠ 0 ∧ ∃ nm : String, (Cond.classLink own z.catchType nm).before args s = true ∧ va_Nc E nm s)) (hcell : H[q]? = some ce) (hv : ce.vm = .none) (hcl : s.vm.findClass E = some ce.cls)
    (hx : ∀ t : State, t.heap = H → s.vm.Alike t.vm → XC E s t) (hf : ∀ z ∈ locs, free z.base) (hc : cells ≤ mc) (hs : slots ≤ ms) :
    vx_W p l e R s m args below meth c H locs cells slots (vx_MQ below Qc XC args s mc ms free) (F0 m pc ls rest) q := by
  intro T hT X
  have hpl : e.platform.magicAccessors = ({} : Platform).magicAccessors := by rw [X.admits.platform]
  obtain ⟨vm', hW', X', st⟩ := X.outThrough hlocks q (g := F0 m pc ls rest) rfl rfl rfl (cell := ce) (by rw [hT]; exact hcell) (by rw [hv]; rfl)
    (by obtain ⟨k9, h9, -⟩ := Vm.findClass_spec hcl; exact ⟨k9, h9⟩) (fun z hz => by
      rcases hpass z hz with h | ⟨hz0, nm, hl1, hn1⟩
      · exact Or.inl h
      · obtain ⟨c6, hc6, hcl6⟩ := Cond.classLink_spec hown hl1 e.platform hpl
        obtain ⟨a8, b8, h1, h2, h3⟩ := hn1
        cases Option.some.inj (h1.symm.trans hcl)
        cases Option.some.inj (h2.symm.trans hc6)
        exact Or.inr ⟨hz0, _, hcl6, h3⟩)
  obtain ⟨g₀, hfr⟩ := X'.frames_eq
  have hcell9 : ((T.setVm vm').setFrames (.throwing q :: below)).heap[q]? = some ce := by
    show T.heap[q]? = some ce
    rw [hT]; exact hcell
  have hend : Ended ((T.setVm vm').setFrames (.throwing q :: below)) below (.threw q) := State.frames_setFrames _ (State.cur_lt_of_frames hfr)
  refine ⟨(T.setVm vm').setFrames (.throwing q :: below), ?_, .threw q, X'.here.running, hend, Or.inr ⟨q, rfl, E, ce, locs, hx _ hT (X'.ends _).1.alike, hcell9, hv, hcl, (X'.ends _).1, (X'.ends _).2.mono hc hs, hf⟩⟩
  rw [X.pushThrowing_eq]
  exact st
/-- a thing of a world lies in the heap -/
theorem vx_lt {D : va_G} {cl : List vw_C} {ws : va_W} {H1 : Heap} (h : va_P D cl ws H1) {k : Nat} {q : Nat × va_E} (hk : ws[k]? = some q) : q.1 < H1.size := (h k q hk).lt
end VXS
/-! ===== END ===== -/
/-! ===== BEGIN methods with a table of their own: called by a name, returning or throwing ===== -/
section VXH
/-! vx_backW, vx_callVX, vx_callSX, vx_callVW, vx_runVW, vx_runVX, vx_runSX, vx_ofWH follow the same proofs as their sisters above (Free/Laws.lean, Shelf42/LK1.lean); vx_outP calls Shelf42/NT130.lean (outThrough). -/
section
variable {l : Launch} {R : Room} {p : Program} {e : Env} {below : List Frame} {s : State} {sargs : Array Value} {y : MethodName} {len W9 : Nat}
theorem vx_backW {ws : List Cond} {rm : Room} {Pc : Array Value → State → Prop} {Qc : Array Value → State → Outcome → State → Prop} {XC : String → State → State → Prop} {mc ms : Nat} {free : Addr → Prop} {bytes : ByteArray} {maxL : Nat} {ret : Option FieldType} {hh : List (Nat × Nat × Nat × Nat)}
    (hM : vx_Met l y ws rm Pc Qc XC mc ms free) (hblind : FrameBlind Pc) (hrc : rm.cells = mc) (hrs : rm.slots = ms)
    (hframes : rm.frames + 1 ≤ R.frames) (hlocals : W9 + (maxL + 11) + rm.locals ≤ R.locals)
    (hws : ∀ w ∈ ws, ∀ a' U, s.WarmedH U.vm → w.before a' U = true) (hcode : Cond.codeWith y bytes maxL ret hh ∈ ws) (hinit : ∀ a' U, s.WarmedH U.vm → (Cond.initialized y.cls).before a' U = true) :
    vx_Back l R p e below s sargs y len W9 (PreOf R mc ms Pc) (PostOf Qc mc ms free) (vx_Post XC mc ms free) := by
  intro m meth c A g ig mk a X hg hsize hdg hW hn hp
  have h1 : (headSpec ws rm).pre.before a A.U = true := atoms_intro fun w hw => hws w hw _ _ X.warmed
  have h2 : (Cond.codeWith y bytes maxL ret hh).before a A.U = true := hws _ hcode _ _ X.warmed
  have h3 : (Cond.initialized y.cls).before a A.U = true := hinit _ _ X.warmed
  have h4 : A.cells + (headSpec ws rm).room.cells ≤ R.cells := by rw [show (headSpec ws rm).room.cells = mc from hrc]; exact hp.1
  have h5 : A.slots + (headSpec ws rm).room.slots ≤ R.slots := by rw [show (headSpec ws rm).room.slots = ms from hrs]; exact hp.2.1
  have hPc : Pc a (A.U.calling g mk a) := hblind _ _ _ _ hp.2.2
  obtain ⟨U, Ls, c0, s0⟩ := A
  dsimp only [Pt.U, Pt.locs, Pt.cells, Pt.slots] at h1 h2 h3 h4 h5 X hn hPc ⊢
  obtain ⟨m9, methY, cY, hn9, hmY, hcY, -, hlY, -⟩ := Cond.codeWith_spec h2
  cases Option.some.inj (hn9.symm.trans hn)
  obtain ⟨kY, hkY, -⟩ := className_of_methodNamed hn
  have hinitY : kY.init = .initialized := Cond.initialized_spec (findClass_of_methodNamed hn) hkY h3
  have h : At U g.method c below := by rw [hg]; exact X.here
  have hlocals9 : W9 + (maxL + 11) + (headSpec ws rm).room.locals ≤ R.locals := hlocals
  have happ : (headSpec ws rm).appliesLoose y e.platform (U.calling g mk a) = true :=
    Spec.appliesLoose_calling (g := g) h hdg hn hkY hinitY
      (X.room_calling (g := g) (R' := (headSpec ws rm).room) hsize hmY hcY hframes (by rw [hlY]; omega) h4 h5) h1
  obtain ⟨mid, hmid⟩ := h.above
  have hfr : (U.setTop g).frames = (.java g :: mid) ++ below := by rw [State.frames_setTop' g h.top, hmid]; rfl
  obtain ⟨o, s₂, hsteps, -, hend, hq⟩ := Steps.callFree hM p X.admits X.cas X.clock (acts := []) hfr happ hPc trivial
  have hq' : vx_Q Qc XC mc ms free a (U.calling g mk a) o s₂ := hq
  rw [State.frames_setTop' g h.top] at hend
  obtain ⟨g₀, hg0⟩ := Option.isSome_iff_exists.mp h.top
  obtain ⟨r, hr⟩ := State.topJava?_eq_some.mp hg0
  have hr' : (({ U with heap := s₂.heap, slotsUsed := s₂.slotsUsed } : State).setVm s₂.vm).frames = .java g₀ :: r := hr
  rcases hq' with ⟨hqc, L, hfe, hL⟩ | ⟨q, rfl, E, ce, L, hx, hce, hcv, hcl, hW₂, hsm, hL⟩
  · obtain ⟨⟨v, rfl⟩, hW₂, e2, q2, q3, q4, q5, q6⟩ := id hfe
    have e3 : s₂ = ({ (U.calling g mk a).setFrames s₂.frames with heap := s₂.heap, slotsUsed := s₂.slotsUsed } : State).setVm s₂.vm := by
      have : s₂ = ({ s₂ with vm := (U.calling g mk a).vm } : State).setVm s₂.vm := rfl
      rw [e2] at this
      exact this
    obtain ⟨c₂, i₂, len₂, hc₂, hd₂, hf₂⟩ := hend
    have hW' : U.WarmedH s₂.vm := hW₂
    have hcc : c₂ = c := by
      have h1 : s₂.code? g.method = U.code? g.method := by
        rw [State.code?_eq, State.code?_eq, hW'.alike.method?]
      exact Option.some.inj (hc₂.symm.trans (h1.trans h.code))
    subst hcc
    have hlen : len₂ = len := by rw [hdg] at hd₂; cases hd₂; rfl
    subst hlen
    have hs₂ : s₂ = (({ U with heap := s₂.heap, slotsUsed := s₂.slotsUsed } : State).setVm s₂.vm).setTop { g with pc := g.pc + len₂, stack := v.toList ++ g.stack } := by
      refine e3.trans ?_
      rw [hf₂, State.calling_eq h.top, State.setFrames_setFrames, State.setTop_of_frames _ hr', hr]
      rfl
    have hsame : U.sameButNew ({ U with heap := s₂.heap, slotsUsed := s₂.slotsUsed } : State) L mc ms := by
      refine ⟨?_, q2, q3, q4, q5, q6⟩
      obtain ⟨t, ht, -⟩ := State.frames_cons hr
      show ({ U with heap := s₂.heap, slotsUsed := s₂.slotsUsed } : State) = { U.setFrames U.frames with heap := s₂.heap, slotsUsed := s₂.slotsUsed }
      rw [State.setFrames_self ht]
    subst hg
    refine Or.inl ⟨v, ⟨(({ U with heap := s₂.heap, slotsUsed := s₂.slotsUsed } : State).setVm s₂.vm), Ls ++ L, c0 + mc, s0 + ms⟩,
      ⟨X.admits, X.cas, X.clock, X.frames, X.room, X.hears, X.method, X.code, (X.here.setHeapUsed s₂.heap s₂.slotsUsed).setVm hW'.alike, X.tail, State.WarmedH.trans X.warmed hW', X.limits, X.bytes, X.same.trans (hsame.setVm s.vm)⟩,
      ⟨g, mk, s₂, L, rfl, rfl, hqc, rfl, hL, rfl, rfl⟩, ?_⟩
    show Steps p.tables e below _ ((({ U with heap := s₂.heap, slotsUsed := s₂.slotsUsed } : State).setVm s₂.vm).setTop { g with pc := g.pc + len₂, stack := v.toList ++ g.stack })
    rw [← hs₂]
    exact hsteps
  · obtain ⟨e2, q2, q3, q4, q5, q6⟩ := id hsm
    have e3 : s₂ = ({ (U.calling g mk a).setFrames s₂.frames with heap := s₂.heap, slotsUsed := s₂.slotsUsed } : State).setVm s₂.vm := by
      have : s₂ = ({ s₂ with vm := (U.calling g mk a).vm } : State).setVm s₂.vm := rfl
      rw [e2] at this
      exact this
    have hf₂ : s₂.frames = .throwing q :: .java g :: U.frames.tail := hend
    have hW' : U.WarmedH s₂.vm := hW₂
    have hs₂ : s₂ = ((({ U with heap := s₂.heap, slotsUsed := s₂.slotsUsed } : State).setVm s₂.vm).setTop g).pushFrame (.throwing q) := by
      refine e3.trans ?_
      rw [hf₂, State.calling_eq h.top, State.setFrames_setFrames, State.pushFrame, State.frames_setTop _ hr', State.setTop_of_frames _ hr', State.setFrames_setFrames, hr]
      rfl
    have hsame : U.sameButNew ({ U with heap := s₂.heap, slotsUsed := s₂.slotsUsed } : State) L mc ms := by
      refine ⟨?_, q2, q3, q4, q5, q6⟩
      obtain ⟨t, ht, -⟩ := State.frames_cons hr
      show ({ U with heap := s₂.heap, slotsUsed := s₂.slotsUsed } : State) = { U.setFrames U.frames with heap := s₂.heap, slotsUsed := s₂.slotsUsed }
      rw [State.setFrames_self ht]
    subst hg
    refine Or.inr ⟨q, ⟨(({ U with heap := s₂.heap, slotsUsed := s₂.slotsUsed } : State).setVm s₂.vm), Ls ++ L, c0 + mc, s0 + ms⟩,
      ⟨X.admits, X.cas, X.clock, X.frames, X.room, X.hears, X.method, X.code, (X.here.setHeapUsed s₂.heap s₂.slotsUsed).setVm hW'.alike, X.tail, State.WarmedH.trans X.warmed hW', X.limits, X.bytes, X.same.trans (hsame.setVm s.vm)⟩,
      ⟨g, mk, s₂, L, E, ce, rfl, rfl, hx, hce, hcv, hcl, rfl, hL, rfl, rfl⟩, ?_⟩
    show Steps p.tables e below _ (((({ U with heap := s₂.heap, slotsUsed := s₂.slotsUsed } : State).setVm s₂.vm).setTop g).pushFrame (.throwing q))
    rw [← hs₂]
    exact hsteps
end
variable {p : Program} {l : Launch} {e : Env} {R : Room} {s : State} {m : MethodId} {args : Array Value} {below : List Frame} {meth : Method} {c : Code} {T : State} {H : Heap} {locs : List Loc} {cells slots : Nat}
theorem vx_callVX (X : Stand p l e R s m args below meth c T locs cells slots) (hexec : p.tables.exec = Jvm.exec) {own C : String} {index : Nat} {y : MethodName} {bytes : ByteArray} {maxL : Nat} {ret : Option FieldType} {hh : List (Nat × Nat × Nat × Nat)}
    (hown : s.vm.findClass own = some m.cls) (hlink : (Cond.methodLink own index y).before args s = true) (hinst : (Cond.instanceMethod y).before args s = true) (hsel : (Cond.selects C y y).before args s = true)
    (hcode : (Cond.codeWith y bytes maxL ret hh).before args s = true) (hy : y.cls ≠ "java/lang/invoke/MethodHandle" ∧ y.cls ≠ "java/lang/invoke/VarHandle")
    {W9 : Nat} {Pre : Pt → Array Value → Prop} {Post : Pt → Array Value → Option Value → Pt → Prop} {PostX : Pt → Array Value → Addr → Pt → Prop} (hK : vx_Back l R p e below s args y 3 W9 Pre Post PostX)
    {b : Addr} {cellB : Cell} (hcell : T.heap[b]? = some cellB) (hobj : cellB.vm.isStatics = false) (hcls : s.vm.findClass C = some cellB.cls)
    {g : JFrame} (hg : g.method = m) (hsize : g.locals.size = c.maxLocals) {argsL rest : List Value} (hlen : ∀ sig, parseMethodDescriptor y.desc = some sig → argsL.length = sig.parameters.length)
    (hstack : g.stack = argsL.reverse ++ .ref b :: rest) (hW : 2 * g.monitorRoom + (rest.map fun v => v.category).sum ≤ W9) (hdg : decode c.code g.pc = .ok (.invokevirtual index, 3))
    (hpre : ∀ vm₁, s.WarmedH vm₁ → Pre ⟨T.setVm vm₁, locs, cells, slots⟩ (Value.ref b :: argsL).toArray) :
    (∃ (v : Option Value) (vm₁ : Vm) (B : Pt), s.WarmedH vm₁ ∧ Stand p l e R s m args below meth c B.U B.locs B.cells B.slots ∧ Post ⟨T.setVm vm₁, locs, cells, slots⟩ (Value.ref b :: argsL).toArray v B ∧
      ∀ target, Steps p.tables e below (B.U.setTop { g with pc := g.pc + 3, stack := v.toList ++ rest }) target → Steps p.tables e below (T.setTop g) target) ∨
    (∃ (q : Addr) (vm₁ : Vm) (B : Pt), s.WarmedH vm₁ ∧ Stand p l e R s m args below meth c B.U B.locs B.cells B.slots ∧ PostX ⟨T.setVm vm₁, locs, cells, slots⟩ (Value.ref b :: argsL).toArray q B ∧
      Steps p.tables e below (T.setTop g) ((B.U.setTop { g with stack := rest }).pushFrame (.throwing q))) := by
  obtain ⟨mk, methM, hnamed, hmethM, hstM, habM⟩ := Cond.instanceMethod_spec hinst
  obtain ⟨m8, methM', cM, hn8, hmethM', -, -, -, -, -, -, hsigM⟩ := Cond.codeWith_spec hcode
  cases Option.some.inj (hn8.symm.trans hnamed)
  cases hmethM.symm.trans hmethM'
  obtain ⟨c2, r2, m2, q1, q2, q3, q4, kP, hkP, hkPi⟩ := Cond.selects_spec hsel
  cases hcls.symm.trans q1
  cases (State.methodFound?_of_named hnamed hy).symm.trans q2
  cases hnamed.symm.trans q3
  have hselP : selectMethod e.platform s.vm cellB.cls mk = .method mk := by rw [Launch.admits_selectMethod X.admits]; exact q4
  obtain ⟨vm₁, X₁, hstep₁⟩ := X.invokevirtual hexec hown hlink hnamed hmethM hstM hkP hkPi hy (a := b) (cell := cellB) hcell
    (fun z h => by rw [h] at hobj; cases hobj) hselP hmethM habM hkP hkPi (g := g) hg (argsL := argsL) (rest := rest) (hlen _ hsigM) hstack hdg
  rcases hK m meth c ⟨T.setVm vm₁, locs, cells, slots⟩ { g with stack := rest } (.invokevirtual index) mk (Value.ref b :: argsL).toArray X₁ hg hsize hdg hW (X₁.named hnamed) (hpre vm₁ X₁.warmed) with ⟨v, B, X', hpost, hsteps⟩ | ⟨q, B, X', hpost, hsteps⟩
  · exact Or.inl ⟨v, vm₁, B, X₁.warmed, X', hpost, fun target h => hstep₁ _ fun acts => by rw [doInvoke_state]; exact hsteps.trans h⟩
  · exact Or.inr ⟨q, vm₁, B, X₁.warmed, X', hpost, hstep₁ _ fun acts => by rw [doInvoke_state]; exact hsteps⟩
theorem vx_callSX (X : Stand p l e R s m args below meth c T locs cells slots) (hexec : p.tables.exec = Jvm.exec) {own : String} {index : Nat} {y : MethodName} {bytes : ByteArray} {maxL : Nat} {ret : Option FieldType} {hh : List (Nat × Nat × Nat × Nat)}
    (hown : s.vm.findClass own = some m.cls) (hlink : (Cond.methodLink own index y).before args s = true) (hstat : (Cond.static y).before args s = true) (hinit : (Cond.initialized y.cls).before args s = true)
    (hcode : (Cond.codeWith y bytes maxL ret hh).before args s = true) (hy : y.cls ≠ "java/lang/invoke/MethodHandle" ∧ y.cls ≠ "java/lang/invoke/VarHandle")
    {W9 : Nat} {Pre : Pt → Array Value → Prop} {Post : Pt → Array Value → Option Value → Pt → Prop} {PostX : Pt → Array Value → Addr → Pt → Prop} (hK : vx_Back l R p e below s args y 3 W9 Pre Post PostX)
    {g : JFrame} (hg : g.method = m) (hsize : g.locals.size = c.maxLocals) {argsL rest : List Value} (hlen : ∀ sig, parseMethodDescriptor y.desc = some sig → argsL.length = sig.parameters.length)
    (hstack : g.stack = argsL.reverse ++ rest) (hW : 2 * g.monitorRoom + (rest.map fun v => v.category).sum ≤ W9) (hdg : decode c.code g.pc = .ok (.invokestatic index, 3))
    (hpre : ∀ vm₁, s.WarmedH vm₁ → Pre ⟨T.setVm vm₁, locs, cells, slots⟩ argsL.toArray) :
    (∃ (v : Option Value) (vm₁ : Vm) (B : Pt), s.WarmedH vm₁ ∧ Stand p l e R s m args below meth c B.U B.locs B.cells B.slots ∧ Post ⟨T.setVm vm₁, locs, cells, slots⟩ argsL.toArray v B ∧
      ∀ target, Steps p.tables e below (B.U.setTop { g with pc := g.pc + 3, stack := v.toList ++ rest }) target → Steps p.tables e below (T.setTop g) target) ∨
    (∃ (q : Addr) (vm₁ : Vm) (B : Pt), s.WarmedH vm₁ ∧ Stand p l e R s m args below meth c B.U B.locs B.cells B.slots ∧ PostX ⟨T.setVm vm₁, locs, cells, slots⟩ argsL.toArray q B ∧
      Steps p.tables e below (T.setTop g) ((B.U.setTop { g with stack := rest }).pushFrame (.throwing q))) := by
  obtain ⟨mk, methM, cM, hnamed, hmethM, -, -, -, -, -, -, hsigM⟩ := Cond.codeWith_spec hcode
  have hstatic : methM.isStatic = true := Cond.static_spec hnamed hmethM hstat
  obtain ⟨kP, hkP, -⟩ := className_of_methodNamed hnamed
  have hinitP : kP.init = .initialized := Cond.initialized_spec (findClass_of_methodNamed hnamed) hkP hinit
  obtain ⟨vm₁, X₁, hstep₁⟩ := X.invokestatic hexec hown hlink hnamed hmethM hstatic hkP hinitP hy (g := g) hg (argsL := argsL) (rest := rest) (hlen _ hsigM) hstack hdg
  rcases hK m meth c ⟨T.setVm vm₁, locs, cells, slots⟩ { g with stack := rest } (.invokestatic index) mk argsL.toArray X₁ hg hsize hdg hW (X₁.named hnamed) (hpre vm₁ X₁.warmed) with ⟨v, B, X', hpost, hsteps⟩ | ⟨q, B, X', hpost, hsteps⟩
  · exact Or.inl ⟨v, vm₁, B, X₁.warmed, X', hpost, fun target h => hstep₁ _ fun acts => by rw [doInvoke_state]; exact hsteps.trans h⟩
  · exact Or.inr ⟨q, vm₁, B, X₁.warmed, X', hpost, hstep₁ _ fun acts => by rw [doInvoke_state]; exact hsteps⟩
theorem vx_callVW (X : Stand p l e R s m args below meth c T locs cells slots) (hexec : p.tables.exec = Jvm.exec) {own C : String} {index : Nat} {y : MethodName} {bytes : ByteArray} {maxL : Nat} {ret : Option FieldType} {hh : List (Nat × Nat × Nat × Nat)}
    (hown : s.vm.findClass own = some m.cls) (hlink : (Cond.methodLink own index y).before args s = true) (hinst : (Cond.instanceMethod y).before args s = true) (hsel : (Cond.selects C y y).before args s = true)
    (hcode : (Cond.codeWith y bytes maxL ret hh).before args s = true) (hy : y.cls ≠ "java/lang/invoke/MethodHandle" ∧ y.cls ≠ "java/lang/invoke/VarHandle")
    {W9 : Nat} {Pre : Pt → Array Value → Prop} {Post : Pt → Array Value → Option Value → Pt → Prop} (hK : Back l R p e below s args y 3 W9 Pre Post)
    {b : Addr} {cellB : Cell} (hcell : T.heap[b]? = some cellB) (hobj : cellB.vm.isStatics = false) (hcls : s.vm.findClass C = some cellB.cls)
    {g : JFrame} (hg : g.method = m) (hsize : g.locals.size = c.maxLocals) {argsL rest : List Value} (hlen : ∀ sig, parseMethodDescriptor y.desc = some sig → argsL.length = sig.parameters.length)
    (hstack : g.stack = argsL.reverse ++ .ref b :: rest) (hW : 2 * g.monitorRoom + (rest.map fun v => v.category).sum ≤ W9) (hdg : decode c.code g.pc = .ok (.invokevirtual index, 3))
    (hpre : ∀ vm₁, s.WarmedH vm₁ → Pre ⟨T.setVm vm₁, locs, cells, slots⟩ (Value.ref b :: argsL).toArray) :
    ∃ (v : Option Value) (vm₁ : Vm) (B : Pt), s.WarmedH vm₁ ∧ Stand p l e R s m args below meth c B.U B.locs B.cells B.slots ∧ Post ⟨T.setVm vm₁, locs, cells, slots⟩ (Value.ref b :: argsL).toArray v B ∧
      ∀ target, Steps p.tables e below (B.U.setTop { g with pc := g.pc + 3, stack := v.toList ++ rest }) target → Steps p.tables e below (T.setTop g) target := by
  obtain ⟨mk, methM, hnamed, hmethM, hstM, habM⟩ := Cond.instanceMethod_spec hinst
  obtain ⟨m8, methM', cM, hn8, hmethM', -, -, -, -, -, -, hsigM⟩ := Cond.codeWith_spec hcode
  cases Option.some.inj (hn8.symm.trans hnamed)
  cases hmethM.symm.trans hmethM'
  obtain ⟨c2, r2, m2, q1, q2, q3, q4, kP, hkP, hkPi⟩ := Cond.selects_spec hsel
  cases hcls.symm.trans q1
  cases (State.methodFound?_of_named hnamed hy).symm.trans q2
  cases hnamed.symm.trans q3
  have hselP : selectMethod e.platform s.vm cellB.cls mk = .method mk := by rw [Launch.admits_selectMethod X.admits]; exact q4
  obtain ⟨vm₁, X₁, hstep₁⟩ := X.invokevirtual hexec hown hlink hnamed hmethM hstM hkP hkPi hy (a := b) (cell := cellB) hcell
    (fun z h => by rw [h] at hobj; cases hobj) hselP hmethM habM hkP hkPi (g := g) hg (argsL := argsL) (rest := rest) (hlen _ hsigM) hstack hdg
  obtain ⟨v, B, X', hpost, hsteps⟩ := hK m meth c ⟨T.setVm vm₁, locs, cells, slots⟩ { g with stack := rest } (.invokevirtual index) mk (Value.ref b :: argsL).toArray X₁ hg hsize hdg hW (X₁.named hnamed) (hpre vm₁ X₁.warmed)
  exact ⟨v, vm₁, B, X₁.warmed, X', hpost, fun target h => hstep₁ _ fun acts => by rw [doInvoke_state]; exact hsteps.trans h⟩
abbrev vx_CVW (R : Room) (s : State) (args : Array Value) (own C : String) (index : Nat) (y : MethodName) (bytes : ByteArray) (maxL : Nat) (ret : Option FieldType) (hh : List (Nat × Nat × Nat × Nat)) (ws : List Cond) (rm : Room) (mc ms n : Nat) : Prop :=
  (rm.cells = mc ∧ rm.slots = ms ∧ rm.frames + 1 ≤ R.frames ∧ 8 + (maxL + 11) + rm.locals ≤ R.locals ∧ (∀ w ∈ ws, ∀ (a' : Array Value) (U : State), s.WarmedH U.vm → w.before a' U = true) ∧ Cond.codeWith y bytes maxL ret hh ∈ ws) ∧
  (Cond.codeWith y bytes maxL ret hh).before args s = true ∧ (Cond.initialized y.cls).before args s = true ∧ (y.cls ≠ "java/lang/invoke/MethodHandle" ∧ y.cls ≠ "java/lang/invoke/VarHandle") ∧
  (∀ sig, parseMethodDescriptor y.desc = some sig → n = sig.parameters.length) ∧ (Cond.methodLink own index y).before args s = true ∧ (Cond.instanceMethod y).before args s = true ∧ (Cond.selects C y y).before args s = true
theorem vx_cwVW {own C : String} {index maxL mc ms : Nat} {y : MethodName} {bytes : ByteArray} {ret : Option FieldType} {hh : List (Nat × Nat × Nat × Nat)} {Ts ws ws' : List Cond} {rm : Room} (n : Nat) (ht : ∀ w ∈ Ts, w.before args s = true) (hT : GoodIn Ts (wsV own index C y ws)) (hw : ws = Cond.codeWith y bytes maxL ret hh :: ws') (hrc : rm.cells = mc) (hrs : rm.slots = ms)
    (hd : y.cls = C ∧ y.cls ≠ "java/lang/invoke/MethodHandle" ∧ y.cls ≠ "java/lang/invoke/VarHandle" ∧ (parseMethodDescriptor y.desc).map (fun d => d.parameters.length) = some n) (hR : rm.frames + 1 ≤ R.frames ∧ 8 + (maxL + 11) + rm.locals ≤ R.locals) :
    vx_CVW R s args own C index y bytes maxL ret hh ws rm mc ms n := by
  obtain ⟨hC, hd⟩ := hd
  subst hC
  have ok : ∀ w ∈ wsV own index y.cls y ws, w.before args s = true := fun w h => ht w (hT w h).1
  have hG : GoodIn Ts ws := fun w h => hT w (by unfold wsV; exact List.mem_append_right _ h)
  have hc : Cond.codeWith y bytes maxL ret hh ∈ ws := by rw [hw]; exact List.mem_cons_self
  refine ⟨⟨hrc, hrs, hR.1, hR.2, pay_in ht hG, hc⟩, ht _ (hG _ hc).1, ok _ (by simp [wsV]), ⟨hd.1, hd.2.1⟩, fun sig h => ?_, ok _ (by simp [wsV]), ok _ (by simp [wsV]), ok _ (by simp [wsV])⟩
  have h2 := hd.2.2
  rw [h] at h2
  exact (Option.some.inj h2).symm
theorem vx_runVW {y : MethodName} {bytes cc : ByteArray} {maxL nL mc ms n index : Nat} {ret : Option FieldType} {hh : List (Nat × Nat × Nat × Nat)} {ws : List Cond} {rm : Room} {Pc : Array Value → State → Prop} {Qc : Array Value → State → Outcome → State → Prop} {free : Addr → Prop} {Ts : List Cond} {own C : String} {b : Addr} {As rest : List Value} {g : JFrame}
    (S : CallFix p m c cc nL s args Ts own) (hM : Met l y ws rm Pc Qc mc ms free) (cw : vx_CVW R s args own C index y bytes maxL ret hh ws rm mc ms n) (hp : PreV s H C b Pc As)
    (hg : g.method = m) (hn : As.length = n) (hsize : g.locals.size = nL) (hstack : g.stack = As.reverse ++ .ref b :: rest) (hW : 2 * g.monitorRoom + (rest.map fun v => v.category).sum ≤ 8) (hdg : decode cc g.pc = .ok (.invokevirtual index, 3)) (hf : cells + mc ≤ R.cells ∧ slots + ms ≤ R.slots) :
    va_Run p l e R s m args below meth c H locs cells slots mc ms g rest (Qc (Value.ref b :: As).toArray) free := by
  obtain ⟨⟨hrc, hrs, hfr, hlo, hws, hcw⟩, hcode, hini, hy, hlen, hl, hin, hse⟩ := cw
  have hK : Back l R p e below s args y 3 8 (PreOf R mc ms Pc) (PostOf Qc mc ms free) := va_backW (hh := hh) (bytes := bytes) (maxL := maxL) (ret := ret) hM hp.1 hrc hrs hfr hlo hws hcw (fun a' U hW => word_at hW (Or.inl (by first | rfl | simp [Cond.onTables, Cond.keeps, Cond.steady])) hini)
  obtain ⟨hx, hb, hml, ho, -⟩ := S
  obtain ⟨-, ⟨cellB, hcB, hoB, hclB⟩, hPc⟩ := hp
  intro T hT X
  obtain ⟨v, vm₁, ⟨U', l2, c2, s2⟩, hW₁, X', ⟨g', mk, t, L, e1, e2, hq, h1, hL, h2, h3⟩, st⟩ := vx_callVW X hx (C := C) (hh := hh) (bytes := bytes) (maxL := maxL) (ret := ret) ho hl hin hse hcode hy hK (by rw [hT]; exact hcB) hoB hclB hg (hsize.trans hml.symm) (argsL := As) (rest := rest) (fun sig h => hn.trans (hlen sig h)) hstack hW (by rw [hb]; exact hdg)
    (fun vm₁ hW₁ => ⟨hf.1, hf.2, hPc (T.setVm vm₁) hT hW₁⟩)
  dsimp only [Pt.U, Pt.locs, Pt.cells, Pt.slots] at X' e1 e2 h1 h2 h3 st
  subst h1; subst h2; subst h3
  exact ⟨v, (T.setVm vm₁).calling g' mk (Value.ref b :: As).toArray, t, U', L, hT, X', hL, e1, e2, hq, st⟩
section
variable {y : MethodName} {bytes cc : ByteArray} {maxL nL mc ms n index : Nat} {ret : Option FieldType} {ws : List Cond} {rm : Room} {Pc : Array Value → State → Prop} {Qc : Array Value → State → Outcome → State → Prop} {XC : String → State → State → Prop} {free : Addr → Prop} {Ts : List Cond} {own C : String} {b : Addr} {As rest : List Value} {g : JFrame}
theorem vx_runVX {hh : List (Nat × Nat × Nat × Nat)} (S : CallFix p m c cc nL s args Ts own) (hM : vx_Met l y ws rm Pc Qc XC mc ms free) (cw : vx_CVW R s args own C index y bytes maxL ret hh ws rm mc ms n) (hp : PreV s H C b Pc As)
    (hg : g.method = m) (hn : As.length = n) (hsize : g.locals.size = nL) (hstack : g.stack = As.reverse ++ .ref b :: rest) (hW : 2 * g.monitorRoom + (rest.map fun v => v.category).sum ≤ 8) (hdg : decode cc g.pc = .ok (.invokevirtual index, 3)) (hf : cells + mc ≤ R.cells ∧ slots + ms ≤ R.slots) :
    vx_Run p l e R s m args below meth c H locs cells slots mc ms g rest (Qc (Value.ref b :: As).toArray) XC free := by
  obtain ⟨⟨hrc, hrs, hfr, hlo, hws, hcw⟩, hcode, hini, hy, hlen, hl, hin, hse⟩ := cw
  have hK : vx_Back l R p e below s args y 3 8 (PreOf R mc ms Pc) (PostOf Qc mc ms free) (vx_Post XC mc ms free) := vx_backW (hh := hh) (bytes := bytes) (maxL := maxL) (ret := ret) hM hp.1 hrc hrs hfr hlo hws hcw (fun a' U hW => word_at hW (Or.inl (by first | rfl | simp [Cond.onTables, Cond.keeps, Cond.steady])) hini)
  obtain ⟨hx, hb, hml, ho, -⟩ := S
  obtain ⟨-, ⟨cellB, hcB, hoB, hclB⟩, hPc⟩ := hp
  intro T hT X
  rcases vx_callVX X hx (C := C) (hh := hh) (bytes := bytes) (maxL := maxL) (ret := ret) ho hl hin hse hcode hy hK (by rw [hT]; exact hcB) hoB hclB hg (hsize.trans hml.symm) (argsL := As) (rest := rest) (fun sig h => hn.trans (hlen sig h)) hstack hW (by rw [hb]; exact hdg)
    (fun vm₁ hW₁ => ⟨hf.1, hf.2, hPc (T.setVm vm₁) hT hW₁⟩) with ⟨v, vm₁, ⟨U', l2, c2, s2⟩, hW₁, X', ⟨g', mk, t, L, e1, e2, hq, h1, hL, h2, h3⟩, st⟩ | ⟨q, vm₁, ⟨U', l2, c2, s2⟩, hW₁, X', ⟨g', mk, t, L, E, ce, e1, e2, hq, hce, hcv, hcl, h1, hL, h2, h3⟩, st⟩
  · dsimp only [Pt.U, Pt.locs, Pt.cells, Pt.slots] at X' e1 e2 h1 h2 h3 st
    subst h1; subst h2; subst h3
    exact Or.inl ⟨v, (T.setVm vm₁).calling g' mk (Value.ref b :: As).toArray, t, U', L, hT, X', hL, e1, e2, hq, st⟩
  · dsimp only [Pt.U, Pt.locs, Pt.cells, Pt.slots] at X' e1 e2 h1 h2 h3 st hcl
    subst h1; subst h2; subst h3
    exact Or.inr ⟨q, (T.setVm vm₁).calling g' mk (Value.ref b :: As).toArray, t, U', L, E, ce, hT, X', hL, e1, e2, hq, hce, hcv, vx_cls hW₁ hcl, st⟩
theorem vx_runSX {hh : List (Nat × Nat × Nat × Nat)} (S : CallFix p m c cc nL s args Ts own) (hM : vx_Met l y ws rm Pc Qc XC mc ms free) (cw : vx_CSW R s args own index y bytes maxL ret hh ws rm mc ms n) (hp : PreS s H Pc As)
    (hg : g.method = m) (hn : As.length = n) (hsize : g.locals.size = nL) (hstack : g.stack = As.reverse ++ rest) (hW : 2 * g.monitorRoom + (rest.map fun v => v.category).sum ≤ 8) (hdg : decode cc g.pc = .ok (.invokestatic index, 3)) (hf : cells + mc ≤ R.cells ∧ slots + ms ≤ R.slots) :
    vx_Run p l e R s m args below meth c H locs cells slots mc ms g rest (Qc As.toArray) XC free := by
  obtain ⟨⟨hrc, hrs, hfr, hlo, hws, hcw⟩, hcode, hini, hy, hlen, hl, hstt⟩ := cw
  have hK : vx_Back l R p e below s args y 3 8 (PreOf R mc ms Pc) (PostOf Qc mc ms free) (vx_Post XC mc ms free) := vx_backW (hh := hh) (bytes := bytes) (maxL := maxL) (ret := ret) hM hp.1 hrc hrs hfr hlo hws hcw (fun a' U hW => word_at hW (Or.inl (by first | rfl | simp [Cond.onTables, Cond.keeps, Cond.steady])) hini)
  obtain ⟨hx, hb, hml, ho, -⟩ := S
  intro T hT X
  rcases vx_callSX X hx (hh := hh) (bytes := bytes) (maxL := maxL) (ret := ret) ho hl hstt hini hcode hy hK hg (hsize.trans hml.symm) (argsL := As) (rest := rest) (fun sig h => hn.trans (hlen sig h)) hstack hW (by rw [hb]; exact hdg)
    (fun vm₁ hW₁ => ⟨hf.1, hf.2, hp.2 (T.setVm vm₁) hT hW₁⟩) with ⟨v, vm₁, ⟨U', l2, c2, s2⟩, hW₁, X', ⟨g', mk, t, L, e1, e2, hq, h1, hL, h2, h3⟩, st⟩ | ⟨q, vm₁, ⟨U', l2, c2, s2⟩, hW₁, X', ⟨g', mk, t, L, E, ce, e1, e2, hq, hce, hcv, hcl, h1, hL, h2, h3⟩, st⟩
  · dsimp only [Pt.U, Pt.locs, Pt.cells, Pt.slots] at X' e1 e2 h1 h2 h3 st
    subst h1; subst h2; subst h3
    exact Or.inl ⟨v, (T.setVm vm₁).calling g' mk As.toArray, t, U', L, hT, X', hL, e1, e2, hq, st⟩
  · dsimp only [Pt.U, Pt.locs, Pt.cells, Pt.slots] at X' e1 e2 h1 h2 h3 st hcl
    subst h1; subst h2; subst h3
    exact Or.inr ⟨q, (T.setVm vm₁).calling g' mk As.toArray, t, U', L, E, ce, hT, X', hL, e1, e2, hq, hce, hcv, vx_cls hW₁ hcl, st⟩
end
end VXH
theorem vx_ofWH {l : Launch} {y : MethodName} {ws ws' : List Cond} {rm : Room} {Pc : Array Value → State → Prop} {Qc : Array Value → State → Outcome → State → Prop} {XC : String → State → State → Prop} {mc ms : Nat} {free : Addr → Prop} {cc : ByteArray} {maxL : Nat} {ret : Option FieldType} {hh : List (Nat × Nat × Nat × Nat)}
    (hy : plainName y.cls = true) (hw : ws = Cond.codeWith y cc maxL ret hh :: ws')
    (body : ∀ p e s m args below meth c s₁, BodyLoose p l y (headSpec ws rm) cc maxL ret e s m args below meth c s₁ → c.maxLocals = maxL → Pc args s →
      W p l e (headSpec ws rm).room s m args below meth c s.heap [] 0 0 (vx_MQ below Qc XC args s mc ms free) (entryFrame m args maxL)) : vx_Met l y ws rm Pc Qc XC mc ms free := by
  refine MetFree.of_bodyS (code := cc) (maxLocals := maxL) (ret := ret) hy ?_ ?_
  · intro args s m h hn
    obtain ⟨m9, meth, c, hn9, h1, h2, h3, h4, -, h5, h6, -⟩ := Cond.codeWith_spec (atoms_spec (ws := ws) h _ (by rw [hw]; exact List.mem_cons_self))
    cases hn.symm.trans hn9
    exact ⟨meth, c, h1, h2, h3, h4, h5, h6⟩
  · intro p e s m args below meth c s₁ B hml hP _
    have hh0 : s₁.heap = s.heap := by rw [B.state]; rfl
    obtain ⟨t, a1, o, b1, b2, b3⟩ := body p e s m args below meth c s₁ B hml hP s₁ hh0 (Stand.of_body B)
    exact ⟨t, o, a1, b1, b2, b3⟩
/-! ===== END ===== -/
end
section
/-! The words of the tables by name (by program). -/
def TT : List Cond := lw_tbl.filter goodWord
theorem tt_mem {w : Cond} (h : w ∈ lw_tbl) (hg : goodWord w = true) : w ∈ TT := List.mem_filter.mpr ⟨h, hg⟩
theorem tt_good {w : Cond} (h : w ∈ TT) : goodWord w = true := (List.mem_filter.mp h).2
theorem tt_lw {w : Cond} (h : w ∈ TT) : w ∈ lw_tbl := (List.mem_filter.mp h).1
theorem tt_in (c1 : Cond) {c2 : Cond} (h2 : c2 ∈ TT) : GoodIn (c1 :: TT) (c2 :: TT) := fun w hw => by
  have h : w ∈ TT := by
    rcases List.mem_cons.mp hw with rfl | h
    · exact h2
    · exact h
  exact ⟨List.mem_cons_of_mem _ h, good_of_word (tt_good h)⟩
theorem tb1 {w : Cond} (h : w ∈ tables_1_1) : w ∈ lw_tbl := List.mem_append_right _ (show w ∈ tables_1 from List.mem_append_left _ h)
theorem tb2 {w : Cond} (h : w ∈ tables_1_2) : w ∈ lw_tbl := List.mem_append_right _ (show w ∈ tables_1 from List.mem_append_right _ (List.mem_append_left _ h))
theorem tb3 {w : Cond} (h : w ∈ tables_1_3) : w ∈ lw_tbl := List.mem_append_right _ (show w ∈ tables_1 from List.mem_append_right _ (List.mem_append_right _ (List.mem_append_left _ h)))
theorem tb4 {w : Cond} (h : w ∈ tables_1_4) : w ∈ lw_tbl := List.mem_append_right _ (show w ∈ tables_1 from List.mem_append_right _ (List.mem_append_right _ (List.mem_append_right _ (h))))
theorem w0 : (Cond.initialized "LockHouseLaw") ∈ TT := tt_mem (tb1 (List.mem_of_getElem? (i := 0) rfl)) rfl
theorem w1 : (Cond.initialized "LockHouse") ∈ TT := tt_mem (tb1 (List.mem_of_getElem? (i := 1) rfl)) rfl
theorem w2 : (Cond.initialized "java/util/AbstractCollection") ∈ TT := tt_mem (tb1 (List.mem_of_getElem? (i := 2) rfl)) rfl
theorem w3 : (Cond.initialized "java/util/AbstractList") ∈ TT := tt_mem (tb1 (List.mem_of_getElem? (i := 3) rfl)) rfl
theorem w4 : (Cond.initialized "java/util/ArrayList") ∈ TT := tt_mem (tb1 (List.mem_of_getElem? (i := 4) rfl)) rfl
theorem w5 : (Cond.initialized "LockHouse$EntryList") ∈ TT := tt_mem (tb1 (List.mem_of_getElem? (i := 5) rfl)) rfl
theorem w6 : (Cond.initialized "LockHouse$Door") ∈ TT := tt_mem (tb1 (List.mem_of_getElem? (i := 6) rfl)) rfl
theorem w7 : (Cond.initialized "java/util/Arrays") ∈ TT := tt_mem (tb1 (List.mem_of_getElem? (i := 7) rfl)) rfl
theorem w8 : (Cond.initialized "LockHouseModel") ∈ TT := tt_mem (tb1 (List.mem_of_getElem? (i := 8) rfl)) rfl
theorem w9 : (Cond.initialized "java/lang/Throwable") ∈ TT := tt_mem (tb1 (List.mem_of_getElem? (i := 9) rfl)) rfl
theorem w10 : (Cond.initialized "java/lang/Exception") ∈ TT := tt_mem (tb1 (List.mem_of_getElem? (i := 10) rfl)) rfl
theorem w11 : (Cond.initialized "java/lang/RuntimeException") ∈ TT := tt_mem (tb1 (List.mem_of_getElem? (i := 11) rfl)) rfl
theorem w12 : (Cond.initialized "java/lang/IllegalStateException") ∈ TT := tt_mem (tb1 (List.mem_of_getElem? (i := 12) rfl)) rfl
theorem w13 : (Cond.initialized "LockHouse$Card") ∈ TT := tt_mem (tb1 (List.mem_of_getElem? (i := 13) rfl)) rfl
theorem w14 : (Cond.initialized "LockHouse$Image") ∈ TT := tt_mem (tb1 (List.mem_of_getElem? (i := 14) rfl)) rfl
theorem w15 : (Cond.initialized "jdk/internal/util/ArraysSupport") ∈ TT := tt_mem (tb1 (List.mem_of_getElem? (i := 15) rfl)) rfl
theorem w16 : (Cond.initialized "java/lang/Math") ∈ TT := tt_mem (tb1 (List.mem_of_getElem? (i := 16) rfl)) rfl
theorem w17 : (Cond.initialized "java/lang/System") ∈ TT := tt_mem (tb1 (List.mem_of_getElem? (i := 17) rfl)) rfl
theorem w18 : (Cond.initialized "java/lang/IndexOutOfBoundsException") ∈ TT := tt_mem (tb1 (List.mem_of_getElem? (i := 18) rfl)) rfl
theorem w19 : (Cond.initialized "java/util/Objects") ∈ TT := tt_mem (tb1 (List.mem_of_getElem? (i := 19) rfl)) rfl
theorem w20 : (Cond.initialized "jdk/internal/util/Preconditions") ∈ TT := tt_mem (tb1 (List.mem_of_getElem? (i := 20) rfl)) rfl
theorem w21 : (Cond.initialized "LockHouse$Entry") ∈ TT := tt_mem (tb1 (List.mem_of_getElem? (i := 21) rfl)) rfl
theorem w22 : (Cond.initialized "java/lang/IllegalArgumentException") ∈ TT := tt_mem (tb1 (List.mem_of_getElem? (i := 22) rfl)) rfl
theorem w23 : (Cond.classLink "LockHouseLaw" (8 : Nat) "LockHouse") ∈ TT := tt_mem (tb1 (List.mem_of_getElem? (i := 23) rfl)) rfl
theorem w24 : (Cond.instantiable "LockHouse" (6 : Nat)) ∈ TT := tt_mem (tb1 (List.mem_of_getElem? (i := 24) rfl)) rfl
theorem w25 : (Cond.methodLink "LockHouseLaw" (74 : Nat) ({ cls := "LockHouse", name := "<init>", desc := "()V" } : MethodName)) ∈ TT := tt_mem (tb1 (List.mem_of_getElem? (i := 25) rfl)) rfl
theorem w26 : (Cond.instanceMethod ({ cls := "LockHouse", name := "<init>", desc := "()V" } : MethodName)) ∈ TT := tt_mem (tb1 (List.mem_of_getElem? (i := 26) rfl)) rfl
theorem w27 : (Cond.code ({ cls := "LockHouse", name := "<init>", desc := "()V" } : MethodName) prog_1_method_1_code (2 : Nat) (Option.none : Option FieldType)) ∈ TT := tt_mem (tb1 (List.mem_of_getElem? (i := 27) rfl)) rfl
theorem w28 : (Cond.methodLink "LockHouse" (1 : Nat) ({ cls := "java/lang/Object", name := "<init>", desc := "()V" } : MethodName)) ∈ TT := tt_mem (tb1 (List.mem_of_getElem? (i := 28) rfl)) rfl
theorem w29 : (Cond.instanceMethod ({ cls := "java/lang/Object", name := "<init>", desc := "()V" } : MethodName)) ∈ TT := tt_mem (tb1 (List.mem_of_getElem? (i := 29) rfl)) rfl
theorem w30 : (Cond.code ({ cls := "java/lang/Object", name := "<init>", desc := "()V" } : MethodName) object_method_1_code (1 : Nat) (Option.none : Option FieldType)) ∈ TT := tt_mem (tb1 (List.mem_of_getElem? (i := 30) rfl)) rfl
theorem w31 : (Cond.classLink "LockHouse" (7 : Nat) "java/util/ArrayList") ∈ TT := tt_mem (tb1 (List.mem_of_getElem? (i := 31) rfl)) rfl
theorem w32 : (Cond.instantiable "java/util/ArrayList" (3 : Nat)) ∈ TT := tt_mem (tb1 (List.mem_of_getElem? (i := 32) rfl)) rfl
theorem w33 : (Cond.methodLink "LockHouse" (9 : Nat) ({ cls := "java/util/ArrayList", name := "<init>", desc := "()V" } : MethodName)) ∈ TT := tt_mem (tb1 (List.mem_of_getElem? (i := 33) rfl)) rfl
theorem w34 : (Cond.instanceMethod ({ cls := "java/util/ArrayList", name := "<init>", desc := "()V" } : MethodName)) ∈ TT := tt_mem (tb1 (List.mem_of_getElem? (i := 34) rfl)) rfl
theorem w35 : (Cond.code ({ cls := "java/util/ArrayList", name := "<init>", desc := "()V" } : MethodName) prog_23_method_2_code (1 : Nat) (Option.none : Option FieldType)) ∈ TT := tt_mem (tb1 (List.mem_of_getElem? (i := 35) rfl)) rfl
theorem w36 : (Cond.methodLink "java/util/ArrayList" (1 : Nat) ({ cls := "java/util/AbstractList", name := "<init>", desc := "()V" } : MethodName)) ∈ TT := tt_mem (tb1 (List.mem_of_getElem? (i := 36) rfl)) rfl
theorem w37 : (Cond.instanceMethod ({ cls := "java/util/AbstractList", name := "<init>", desc := "()V" } : MethodName)) ∈ TT := tt_mem (tb1 (List.mem_of_getElem? (i := 37) rfl)) rfl
theorem w38 : (Cond.code ({ cls := "java/util/AbstractList", name := "<init>", desc := "()V" } : MethodName) prog_22_method_1_code (1 : Nat) (Option.none : Option FieldType)) ∈ TT := tt_mem (tb1 (List.mem_of_getElem? (i := 38) rfl)) rfl
theorem w39 : (Cond.methodLink "java/util/AbstractList" (1 : Nat) ({ cls := "java/util/AbstractCollection", name := "<init>", desc := "()V" } : MethodName)) ∈ TT := tt_mem (tb1 (List.mem_of_getElem? (i := 39) rfl)) rfl
theorem w40 : (Cond.instanceMethod ({ cls := "java/util/AbstractCollection", name := "<init>", desc := "()V" } : MethodName)) ∈ TT := tt_mem (tb1 (List.mem_of_getElem? (i := 40) rfl)) rfl
theorem w41 : (Cond.code ({ cls := "java/util/AbstractCollection", name := "<init>", desc := "()V" } : MethodName) prog_21_method_1_code (1 : Nat) (Option.none : Option FieldType)) ∈ TT := tt_mem (tb1 (List.mem_of_getElem? (i := 41) rfl)) rfl
theorem w42 : (Cond.methodLink "java/util/AbstractCollection" (1 : Nat) ({ cls := "java/lang/Object", name := "<init>", desc := "()V" } : MethodName)) ∈ TT := tt_mem (tb1 (List.mem_of_getElem? (i := 42) rfl)) rfl
theorem w43 : (Cond.fieldLink "java/util/ArrayList" (39 : Nat) "java/util/ArrayList" "DEFAULTCAPACITY_EMPTY_ELEMENTDATA" "[Ljava/lang/Object;") ∈ TT := tt_mem (tb1 (List.mem_of_getElem? (i := 43) rfl)) rfl
theorem u44 : (Cond.laysStatic "java/util/ArrayList" "DEFAULTCAPACITY_EMPTY_ELEMENTDATA" "[Ljava/lang/Object;") ∈ lw_tbl := tb1 (List.mem_of_getElem? (i := 44) rfl)
theorem w45 : (Cond.fieldLink "java/util/ArrayList" (9 : Nat) "java/util/ArrayList" "elementData" "[Ljava/lang/Object;") ∈ TT := tt_mem (tb1 (List.mem_of_getElem? (i := 45) rfl)) rfl
theorem w46 : (Cond.fieldLink "java/util/ArrayList" (48 : Nat) "java/util/ArrayList" "size" "I") ∈ TT := tt_mem (tb1 (List.mem_of_getElem? (i := 46) rfl)) rfl
theorem w47 : (Cond.fieldLink "java/util/AbstractList" (7 : Nat) "java/util/AbstractList" "modCount" "I") ∈ TT := tt_mem (tb1 (List.mem_of_getElem? (i := 47) rfl)) rfl
theorem w48 : (Cond.fieldLink "java/util/ArrayList" (63 : Nat) "java/util/ArrayList" "modCount" "I") ∈ TT := tt_mem (tb1 (List.mem_of_getElem? (i := 48) rfl)) rfl
theorem w49 : (Cond.sameField "java/util/ArrayList" "java/util/AbstractList" "modCount" "I") ∈ TT := tt_mem (tb1 (List.mem_of_getElem? (i := 49) rfl)) rfl
theorem w50 : (Cond.lays "java/util/ArrayList" "java/util/ArrayList" "elementData" "[Ljava/lang/Object;") ∈ TT := tt_mem (tb1 (List.mem_of_getElem? (i := 50) rfl)) rfl
theorem w51 : (Cond.soleField "java/util/ArrayList" "elementData") ∈ TT := tt_mem (tb1 (List.mem_of_getElem? (i := 51) rfl)) rfl
theorem w52 : (Cond.lays "java/util/ArrayList" "java/util/ArrayList" "size" "I") ∈ TT := tt_mem (tb1 (List.mem_of_getElem? (i := 52) rfl)) rfl
theorem w53 : (Cond.soleField "java/util/ArrayList" "size") ∈ TT := tt_mem (tb1 (List.mem_of_getElem? (i := 53) rfl)) rfl
theorem w54 : (Cond.lays "java/util/ArrayList" "java/util/AbstractList" "modCount" "I") ∈ TT := tt_mem (tb1 (List.mem_of_getElem? (i := 54) rfl)) rfl
theorem w55 : (Cond.soleField "java/util/AbstractList" "modCount") ∈ TT := tt_mem (tb1 (List.mem_of_getElem? (i := 55) rfl)) rfl
theorem w56 : (Cond.superclass "java/util/ArrayList" "java/util/AbstractList") ∈ TT := tt_mem (tb1 (List.mem_of_getElem? (i := 56) rfl)) rfl
theorem w57 : (Cond.classLink "LockHouse" (16 : Nat) "LockHouse$EntryList") ∈ TT := tt_mem (tb1 (List.mem_of_getElem? (i := 57) rfl)) rfl
theorem w58 : (Cond.instantiable "LockHouse$EntryList" (1 : Nat)) ∈ TT := tt_mem (tb1 (List.mem_of_getElem? (i := 58) rfl)) rfl
theorem u59 : (Cond.methodLinkNest "LockHouse" (18 : Nat) ({ cls := "LockHouse$EntryList", name := "<init>", desc := "()V" } : MethodName) "LockHouse") ∈ lw_tbl := tb1 (List.mem_of_getElem? (i := 59) rfl)
theorem w60 : (Cond.instanceMethod ({ cls := "LockHouse$EntryList", name := "<init>", desc := "()V" } : MethodName)) ∈ TT := tt_mem (tb1 (List.mem_of_getElem? (i := 60) rfl)) rfl
theorem w61 : (Cond.code ({ cls := "LockHouse$EntryList", name := "<init>", desc := "()V" } : MethodName) prog_5_method_1_code (1 : Nat) (Option.none : Option FieldType)) ∈ TT := tt_mem (tb1 (List.mem_of_getElem? (i := 61) rfl)) rfl
theorem w62 : (Cond.methodLink "LockHouse$EntryList" (3 : Nat) ({ cls := "java/lang/Object", name := "<init>", desc := "()V" } : MethodName)) ∈ TT := tt_mem (tb1 (List.mem_of_getElem? (i := 62) rfl)) rfl
theorem w63 : (Cond.classLink "LockHouse$EntryList" (9 : Nat) "java/util/ArrayList") ∈ TT := tt_mem (tb1 (List.mem_of_getElem? (i := 63) rfl)) rfl
theorem w64 : (Cond.methodLink "LockHouse$EntryList" (11 : Nat) ({ cls := "java/util/ArrayList", name := "<init>", desc := "()V" } : MethodName)) ∈ TT := tt_mem (tb1 (List.mem_of_getElem? (i := 64) rfl)) rfl
theorem w65 : (Cond.fieldLink "LockHouse$EntryList" (12 : Nat) "LockHouse$EntryList" "inOrder" "Ljava/util/ArrayList;") ∈ TT := tt_mem (tb1 (List.mem_of_getElem? (i := 65) rfl)) rfl
theorem w66 : (Cond.laysFinal "LockHouse$EntryList" "LockHouse$EntryList" "inOrder" "Ljava/util/ArrayList;") ∈ TT := tt_mem (tb1 (List.mem_of_getElem? (i := 66) rfl)) rfl
theorem w67 : (Cond.soleField "LockHouse$EntryList" "inOrder") ∈ TT := tt_mem (tb1 (List.mem_of_getElem? (i := 67) rfl)) rfl
theorem w68 : (Cond.superclass "LockHouse$EntryList" "java/lang/Object") ∈ TT := tt_mem (tb1 (List.mem_of_getElem? (i := 68) rfl)) rfl
theorem w69 : (Cond.classLink "LockHouse" (23 : Nat) "LockHouse$Door") ∈ TT := tt_mem (tb1 (List.mem_of_getElem? (i := 69) rfl)) rfl
theorem u70 : (Cond.arrayOver (FieldType.object "LockHouse$Door")) ∈ lw_tbl := tb1 (List.mem_of_getElem? (i := 70) rfl)
theorem w71 : (Cond.instantiable "LockHouse$Door" (5 : Nat)) ∈ TT := tt_mem (tb1 (List.mem_of_getElem? (i := 71) rfl)) rfl
theorem w72 : (Cond.methodLink "LockHouse" (39 : Nat) ({ cls := "LockHouse$Door", name := "<init>", desc := "(I)V" } : MethodName)) ∈ TT := tt_mem (tb1 (List.mem_of_getElem? (i := 72) rfl)) rfl
theorem w73 : (Cond.instanceMethod ({ cls := "LockHouse$Door", name := "<init>", desc := "(I)V" } : MethodName)) ∈ TT := tt_mem (tb1 (List.mem_of_getElem? (i := 73) rfl)) rfl
theorem w74 : (Cond.code ({ cls := "LockHouse$Door", name := "<init>", desc := "(I)V" } : MethodName) prog_3_method_1_code (2 : Nat) (Option.none : Option FieldType)) ∈ TT := tt_mem (tb1 (List.mem_of_getElem? (i := 74) rfl)) rfl
theorem w75 : (Cond.methodLink "LockHouse$Door" (3 : Nat) ({ cls := "java/lang/Object", name := "<init>", desc := "()V" } : MethodName)) ∈ TT := tt_mem (tb1 (List.mem_of_getElem? (i := 75) rfl)) rfl
theorem w76 : (Cond.fieldLink "LockHouse$Door" (25 : Nat) "LockHouse$Door" "number" "I") ∈ TT := tt_mem (tb1 (List.mem_of_getElem? (i := 76) rfl)) rfl
theorem w77 : (Cond.fieldLink "LockHouse$Door" (9 : Nat) "LockHouse$Door" "zone" "I") ∈ TT := tt_mem (tb1 (List.mem_of_getElem? (i := 77) rfl)) rfl
theorem u78 : (Cond.fieldLinkNest "LockHouse" (110 : Nat) "LockHouse$Door" "zone" "I" "LockHouse") ∈ lw_tbl := tb1 (List.mem_of_getElem? (i := 78) rfl)
theorem w79 : (Cond.fieldLink "LockHouse$Door" (15 : Nat) "LockHouse$Door" "heard" "I") ∈ TT := tt_mem (tb1 (List.mem_of_getElem? (i := 79) rfl)) rfl
theorem u80 : (Cond.fieldLinkNest "LockHouse" (160 : Nat) "LockHouse$Door" "heard" "I" "LockHouse") ∈ lw_tbl := tb1 (List.mem_of_getElem? (i := 80) rfl)
theorem w81 : (Cond.fieldLink "LockHouse$Door" (18 : Nat) "LockHouse$Door" "greatest" "I") ∈ TT := tt_mem (tb1 (List.mem_of_getElem? (i := 81) rfl)) rfl
theorem u82 : (Cond.fieldLinkNest "LockHouse" (157 : Nat) "LockHouse$Door" "greatest" "I" "LockHouse") ∈ lw_tbl := tb1 (List.mem_of_getElem? (i := 82) rfl)
theorem w83 : (Cond.fieldLink "LockHouse$Door" (21 : Nat) "LockHouse$Door" "used" "Z") ∈ TT := tt_mem (tb1 (List.mem_of_getElem? (i := 83) rfl)) rfl
theorem u84 : (Cond.fieldLinkNest "LockHouse" (104 : Nat) "LockHouse$Door" "used" "Z" "LockHouse") ∈ lw_tbl := tb1 (List.mem_of_getElem? (i := 84) rfl)
theorem w85 : (Cond.laysFinal "LockHouse$Door" "LockHouse$Door" "number" "I") ∈ TT := tt_mem (tb1 (List.mem_of_getElem? (i := 85) rfl)) rfl
theorem w86 : (Cond.soleField "LockHouse$Door" "number") ∈ TT := tt_mem (tb1 (List.mem_of_getElem? (i := 86) rfl)) rfl
theorem w87 : (Cond.lays "LockHouse$Door" "LockHouse$Door" "zone" "I") ∈ TT := tt_mem (tb1 (List.mem_of_getElem? (i := 87) rfl)) rfl
theorem w88 : (Cond.soleField "LockHouse$Door" "zone") ∈ TT := tt_mem (tb1 (List.mem_of_getElem? (i := 88) rfl)) rfl
theorem w89 : (Cond.lays "LockHouse$Door" "LockHouse$Door" "heard" "I") ∈ TT := tt_mem (tb1 (List.mem_of_getElem? (i := 89) rfl)) rfl
theorem w90 : (Cond.soleField "LockHouse$Door" "heard") ∈ TT := tt_mem (tb1 (List.mem_of_getElem? (i := 90) rfl)) rfl
theorem w91 : (Cond.lays "LockHouse$Door" "LockHouse$Door" "greatest" "I") ∈ TT := tt_mem (tb1 (List.mem_of_getElem? (i := 91) rfl)) rfl
theorem w92 : (Cond.soleField "LockHouse$Door" "greatest") ∈ TT := tt_mem (tb1 (List.mem_of_getElem? (i := 92) rfl)) rfl
theorem w93 : (Cond.lays "LockHouse$Door" "LockHouse$Door" "used" "Z") ∈ TT := tt_mem (tb1 (List.mem_of_getElem? (i := 93) rfl)) rfl
theorem w94 : (Cond.soleField "LockHouse$Door" "used") ∈ TT := tt_mem (tb1 (List.mem_of_getElem? (i := 94) rfl)) rfl
theorem w95 : (Cond.superclass "LockHouse$Door" "java/lang/Object") ∈ TT := tt_mem (tb1 (List.mem_of_getElem? (i := 95) rfl)) rfl
theorem w96 : (Cond.arrayClass FieldType.int) ∈ TT := tt_mem (tb1 (List.mem_of_getElem? (i := 96) rfl)) rfl
theorem w97 : (Cond.methodLink "LockHouse" (42 : Nat) ({ cls := "java/util/Arrays", name := "fill", desc := "([II)V" } : MethodName)) ∈ TT := tt_mem (tb1 (List.mem_of_getElem? (i := 97) rfl)) rfl
theorem w98 : (Cond.static ({ cls := "java/util/Arrays", name := "fill", desc := "([II)V" } : MethodName)) ∈ TT := tt_mem (tb1 (List.mem_of_getElem? (i := 98) rfl)) rfl
theorem w99 : (Cond.code ({ cls := "java/util/Arrays", name := "fill", desc := "([II)V" } : MethodName) prog_24_method_103_code (4 : Nat) (Option.none : Option FieldType)) ∈ TT := tt_mem (tb1 (List.mem_of_getElem? (i := 99) rfl)) rfl
theorem w100 : (Cond.fieldLink "LockHouse" (10 : Nat) "LockHouse" "issued" "Ljava/util/ArrayList;") ∈ TT := tt_mem (tb1 (List.mem_of_getElem? (i := 100) rfl)) rfl
theorem w101 : (Cond.fieldLink "LockHouse" (19 : Nat) "LockHouse" "list" "LLockHouse$EntryList;") ∈ TT := tt_mem (tb1 (List.mem_of_getElem? (i := 101) rfl)) rfl
theorem w102 : (Cond.fieldLink "LockHouse" (25 : Nat) "LockHouse" "doors" "[LLockHouse$Door;") ∈ TT := tt_mem (tb1 (List.mem_of_getElem? (i := 102) rfl)) rfl
theorem w103 : (Cond.fieldLink "LockHouse" (29 : Nat) "LockHouse" "visitCard" "[I") ∈ TT := tt_mem (tb1 (List.mem_of_getElem? (i := 103) rfl)) rfl
theorem w104 : (Cond.fieldLink "LockHouse" (33 : Nat) "LockHouse" "visitDoor" "[I") ∈ TT := tt_mem (tb1 (List.mem_of_getElem? (i := 104) rfl)) rfl
theorem w105 : (Cond.fieldLink "LockHouse" (36 : Nat) "LockHouse" "visitDay" "[I") ∈ TT := tt_mem (tb1 (List.mem_of_getElem? (i := 105) rfl)) rfl
theorem w106 : (Cond.laysFinal "LockHouse" "LockHouse" "issued" "Ljava/util/ArrayList;") ∈ TT := tt_mem (tb1 (List.mem_of_getElem? (i := 106) rfl)) rfl
theorem w107 : (Cond.soleField "LockHouse" "issued") ∈ TT := tt_mem (tb1 (List.mem_of_getElem? (i := 107) rfl)) rfl
theorem w108 : (Cond.laysFinal "LockHouse" "LockHouse" "list" "LLockHouse$EntryList;") ∈ TT := tt_mem (tb1 (List.mem_of_getElem? (i := 108) rfl)) rfl
theorem w109 : (Cond.soleField "LockHouse" "list") ∈ TT := tt_mem (tb1 (List.mem_of_getElem? (i := 109) rfl)) rfl
theorem w110 : (Cond.laysFinal "LockHouse" "LockHouse" "doors" "[LLockHouse$Door;") ∈ TT := tt_mem (tb1 (List.mem_of_getElem? (i := 110) rfl)) rfl
theorem w111 : (Cond.soleField "LockHouse" "doors") ∈ TT := tt_mem (tb1 (List.mem_of_getElem? (i := 111) rfl)) rfl
theorem w112 : (Cond.laysFinal "LockHouse" "LockHouse" "visitCard" "[I") ∈ TT := tt_mem (tb1 (List.mem_of_getElem? (i := 112) rfl)) rfl
theorem w113 : (Cond.soleField "LockHouse" "visitCard") ∈ TT := tt_mem (tb1 (List.mem_of_getElem? (i := 113) rfl)) rfl
theorem w114 : (Cond.laysFinal "LockHouse" "LockHouse" "visitDoor" "[I") ∈ TT := tt_mem (tb1 (List.mem_of_getElem? (i := 114) rfl)) rfl
theorem w115 : (Cond.soleField "LockHouse" "visitDoor") ∈ TT := tt_mem (tb1 (List.mem_of_getElem? (i := 115) rfl)) rfl
theorem w116 : (Cond.laysFinal "LockHouse" "LockHouse" "visitDay" "[I") ∈ TT := tt_mem (tb1 (List.mem_of_getElem? (i := 116) rfl)) rfl
theorem w117 : (Cond.soleField "LockHouse" "visitDay") ∈ TT := tt_mem (tb1 (List.mem_of_getElem? (i := 117) rfl)) rfl
theorem w118 : (Cond.superclass "LockHouse" "java/lang/Object") ∈ TT := tt_mem (tb1 (List.mem_of_getElem? (i := 118) rfl)) rfl
theorem w119 : (Cond.methodLink "LockHouseLaw" (88 : Nat) ({ cls := "LockHouse", name := "cards", desc := "()I" } : MethodName)) ∈ TT := tt_mem (tb1 (List.mem_of_getElem? (i := 119) rfl)) rfl
theorem w120 : (Cond.instanceMethod ({ cls := "LockHouse", name := "cards", desc := "()I" } : MethodName)) ∈ TT := tt_mem (tb1 (List.mem_of_getElem? (i := 120) rfl)) rfl
theorem w121 : (Cond.selects "LockHouse" ({ cls := "LockHouse", name := "cards", desc := "()I" } : MethodName) ({ cls := "LockHouse", name := "cards", desc := "()I" } : MethodName)) ∈ TT := tt_mem (tb1 (List.mem_of_getElem? (i := 121) rfl)) rfl
theorem w122 : (Cond.code ({ cls := "LockHouse", name := "cards", desc := "()I" } : MethodName) prog_1_method_3_code (1 : Nat) (Option.some FieldType.int)) ∈ TT := tt_mem (tb1 (List.mem_of_getElem? (i := 122) rfl)) rfl
theorem w123 : (Cond.methodLink "LockHouse" (48 : Nat) ({ cls := "java/util/ArrayList", name := "size", desc := "()I" } : MethodName)) ∈ TT := tt_mem (tb1 (List.mem_of_getElem? (i := 123) rfl)) rfl
theorem w124 : (Cond.instanceMethod ({ cls := "java/util/ArrayList", name := "size", desc := "()I" } : MethodName)) ∈ TT := tt_mem (tb1 (List.mem_of_getElem? (i := 124) rfl)) rfl
theorem w125 : (Cond.selects "java/util/ArrayList" ({ cls := "java/util/ArrayList", name := "size", desc := "()I" } : MethodName) ({ cls := "java/util/ArrayList", name := "size", desc := "()I" } : MethodName)) ∈ TT := tt_mem (tb1 (List.mem_of_getElem? (i := 125) rfl)) rfl
theorem w126 : (Cond.code ({ cls := "java/util/ArrayList", name := "size", desc := "()I" } : MethodName) prog_23_method_8_code (1 : Nat) (Option.some FieldType.int)) ∈ TT := tt_mem (tb1 (List.mem_of_getElem? (i := 126) rfl)) rfl
theorem w127 : (Cond.methodLink "LockHouseLaw" (96 : Nat) ({ cls := "LockHouse", name := "entries", desc := "()I" } : MethodName)) ∈ TT := tt_mem (tb1 (List.mem_of_getElem? (i := 127) rfl)) rfl
theorem w128 : (Cond.instanceMethod ({ cls := "LockHouse", name := "entries", desc := "()I" } : MethodName)) ∈ TT := tt_mem (tb1 (List.mem_of_getElem? (i := 128) rfl)) rfl
theorem w129 : (Cond.selects "LockHouse" ({ cls := "LockHouse", name := "entries", desc := "()I" } : MethodName) ({ cls := "LockHouse", name := "entries", desc := "()I" } : MethodName)) ∈ TT := tt_mem (tb1 (List.mem_of_getElem? (i := 129) rfl)) rfl
theorem w130 : (Cond.code ({ cls := "LockHouse", name := "entries", desc := "()I" } : MethodName) prog_1_method_5_code (1 : Nat) (Option.some FieldType.int)) ∈ TT := tt_mem (tb1 (List.mem_of_getElem? (i := 130) rfl)) rfl
theorem w131 : (Cond.methodLink "LockHouse" (76 : Nat) ({ cls := "LockHouse$EntryList", name := "made", desc := "()I" } : MethodName)) ∈ TT := tt_mem (tb1 (List.mem_of_getElem? (i := 131) rfl)) rfl
theorem w132 : (Cond.instanceMethod ({ cls := "LockHouse$EntryList", name := "made", desc := "()I" } : MethodName)) ∈ TT := tt_mem (tb1 (List.mem_of_getElem? (i := 132) rfl)) rfl
theorem w133 : (Cond.selects "LockHouse$EntryList" ({ cls := "LockHouse$EntryList", name := "made", desc := "()I" } : MethodName) ({ cls := "LockHouse$EntryList", name := "made", desc := "()I" } : MethodName)) ∈ TT := tt_mem (tb1 (List.mem_of_getElem? (i := 133) rfl)) rfl
theorem w134 : (Cond.code ({ cls := "LockHouse$EntryList", name := "made", desc := "()I" } : MethodName) prog_5_method_2_code (1 : Nat) (Option.some FieldType.int)) ∈ TT := tt_mem (tb1 (List.mem_of_getElem? (i := 134) rfl)) rfl
theorem w135 : (Cond.methodLink "LockHouse$EntryList" (18 : Nat) ({ cls := "java/util/ArrayList", name := "size", desc := "()I" } : MethodName)) ∈ TT := tt_mem (tb1 (List.mem_of_getElem? (i := 135) rfl)) rfl
theorem w136 : (Cond.methodLink "LockHouseLaw" (78 : Nat) ({ cls := "LockHouseLaw", name := "issue", desc := "(LLockHouse;II[J)I" } : MethodName)) ∈ TT := tt_mem (tb1 (List.mem_of_getElem? (i := 136) rfl)) rfl
theorem w137 : (Cond.static ({ cls := "LockHouseLaw", name := "issue", desc := "(LLockHouse;II[J)I" } : MethodName)) ∈ TT := tt_mem (tb1 (List.mem_of_getElem? (i := 137) rfl)) rfl
theorem w138 : (Cond.codeWith ({ cls := "LockHouseLaw", name := "issue", desc := "(LLockHouse;II[J)I" } : MethodName) method_3_code (5 : Nat) (Option.some FieldType.int) [((0 : Nat), (10 : Nat), (13 : Nat), (13 : Nat))]) ∈ TT := tt_mem (tb1 (List.mem_of_getElem? (i := 138) rfl)) rfl
theorem w139 : (Cond.classLink "LockHouseLaw" (13 : Nat) "java/lang/IllegalStateException") ∈ TT := tt_mem (tb1 (List.mem_of_getElem? (i := 139) rfl)) rfl
theorem w140 : (Cond.methodLink "LockHouseLaw" (7 : Nat) ({ cls := "LockHouse", name := "issue", desc := "(II)I" } : MethodName)) ∈ TT := tt_mem (tb1 (List.mem_of_getElem? (i := 140) rfl)) rfl
theorem w141 : (Cond.instanceMethod ({ cls := "LockHouse", name := "issue", desc := "(II)I" } : MethodName)) ∈ TT := tt_mem (tb1 (List.mem_of_getElem? (i := 141) rfl)) rfl
theorem w142 : (Cond.selects "LockHouse" ({ cls := "LockHouse", name := "issue", desc := "(II)I" } : MethodName) ({ cls := "LockHouse", name := "issue", desc := "(II)I" } : MethodName)) ∈ TT := tt_mem (tb1 (List.mem_of_getElem? (i := 142) rfl)) rfl
theorem w143 : (Cond.code ({ cls := "LockHouse", name := "issue", desc := "(II)I" } : MethodName) prog_1_method_2_code (3 : Nat) (Option.some FieldType.int)) ∈ TT := tt_mem (tb1 (List.mem_of_getElem? (i := 143) rfl)) rfl
theorem w144 : (Cond.classLink "LockHouse" (52 : Nat) "java/lang/IllegalStateException") ∈ TT := tt_mem (tb1 (List.mem_of_getElem? (i := 144) rfl)) rfl
theorem w145 : (Cond.instantiable "java/lang/IllegalStateException" (6 : Nat)) ∈ TT := tt_mem (tb1 (List.mem_of_getElem? (i := 145) rfl)) rfl
theorem u146 : (Cond.castable "java/lang/IllegalStateException" "java/lang/IllegalStateException") ∈ lw_tbl := tb1 (List.mem_of_getElem? (i := 146) rfl)
theorem u147 : (Cond.declares ({ cls := "java/lang/RuntimeException", name := "<init>", desc := "()V" } : MethodName)) ∈ lw_tbl := tb1 (List.mem_of_getElem? (i := 147) rfl)
theorem u148 : (Cond.declares ({ cls := "java/lang/RuntimeException", name := "<init>", desc := "(Ljava/lang/String;)V" } : MethodName)) ∈ lw_tbl := tb1 (List.mem_of_getElem? (i := 148) rfl)
theorem u149 : (Cond.declares ({ cls := "java/lang/Exception", name := "<init>", desc := "()V" } : MethodName)) ∈ lw_tbl := tb1 (List.mem_of_getElem? (i := 149) rfl)
theorem u150 : (Cond.declares ({ cls := "java/lang/Exception", name := "<init>", desc := "(Ljava/lang/String;)V" } : MethodName)) ∈ lw_tbl := tb1 (List.mem_of_getElem? (i := 150) rfl)
theorem u151 : (Cond.declares ({ cls := "java/lang/Throwable", name := "<init>", desc := "()V" } : MethodName)) ∈ lw_tbl := tb1 (List.mem_of_getElem? (i := 151) rfl)
theorem u152 : (Cond.declares ({ cls := "java/lang/Throwable", name := "<init>", desc := "(Ljava/lang/String;)V" } : MethodName)) ∈ lw_tbl := tb1 (List.mem_of_getElem? (i := 152) rfl)
theorem w153 : (Cond.selects "java/lang/IllegalStateException" ({ cls := "java/lang/Throwable", name := "fillInStackTrace", desc := "(I)Ljava/lang/Throwable;" } : MethodName) ({ cls := "java/lang/Throwable", name := "fillInStackTrace", desc := "(I)Ljava/lang/Throwable;" } : MethodName)) ∈ TT := tt_mem (tb1 (List.mem_of_getElem? (i := 153) rfl)) rfl
theorem w154 : (Cond.selects "java/lang/IllegalStateException" ({ cls := "java/lang/Throwable", name := "fillInStackTrace", desc := "()Ljava/lang/Throwable;" } : MethodName) ({ cls := "java/lang/Throwable", name := "fillInStackTrace", desc := "()Ljava/lang/Throwable;" } : MethodName)) ∈ TT := tt_mem (tb1 (List.mem_of_getElem? (i := 154) rfl)) rfl
theorem w155 : (Cond.lays "java/lang/IllegalStateException" "java/lang/Throwable" "cause" "Ljava/lang/Throwable;") ∈ TT := tt_mem (tb1 (List.mem_of_getElem? (i := 155) rfl)) rfl
theorem w156 : (Cond.lays "java/lang/Throwable" "java/lang/Throwable" "cause" "Ljava/lang/Throwable;") ∈ TT := tt_mem (tb1 (List.mem_of_getElem? (i := 156) rfl)) rfl
theorem w157 : (Cond.lays "java/lang/IllegalStateException" "java/lang/Throwable" "stackTrace" "[Ljava/lang/StackTraceElement;") ∈ TT := tt_mem (tb1 (List.mem_of_getElem? (i := 157) rfl)) rfl
theorem w158 : (Cond.lays "java/lang/Throwable" "java/lang/Throwable" "stackTrace" "[Ljava/lang/StackTraceElement;") ∈ TT := tt_mem (tb1 (List.mem_of_getElem? (i := 158) rfl)) rfl
theorem w159 : (Cond.lays "java/lang/IllegalStateException" "java/lang/Throwable" "suppressedExceptions" "Ljava/util/List;") ∈ TT := tt_mem (tb1 (List.mem_of_getElem? (i := 159) rfl)) rfl
theorem w160 : (Cond.lays "java/lang/Throwable" "java/lang/Throwable" "suppressedExceptions" "Ljava/util/List;") ∈ TT := tt_mem (tb1 (List.mem_of_getElem? (i := 160) rfl)) rfl
theorem w161 : (Cond.lays "java/lang/IllegalStateException" "java/lang/Throwable" "detailMessage" "Ljava/lang/String;") ∈ TT := tt_mem (tb1 (List.mem_of_getElem? (i := 161) rfl)) rfl
theorem w162 : (Cond.lays "java/lang/Throwable" "java/lang/Throwable" "detailMessage" "Ljava/lang/String;") ∈ TT := tt_mem (tb1 (List.mem_of_getElem? (i := 162) rfl)) rfl
theorem w163 : (Cond.lays "java/lang/IllegalStateException" "java/lang/Throwable" "backtrace" "Ljava/lang/Object;") ∈ TT := tt_mem (tb1 (List.mem_of_getElem? (i := 163) rfl)) rfl
theorem w164 : (Cond.lays "java/lang/Throwable" "java/lang/Throwable" "backtrace" "Ljava/lang/Object;") ∈ TT := tt_mem (tb1 (List.mem_of_getElem? (i := 164) rfl)) rfl
theorem w165 : (Cond.fieldLink "java/lang/Throwable" (198 : Nat) "java/lang/Throwable" "backtrace" "Ljava/lang/Object;") ∈ TT := tt_mem (tb1 (List.mem_of_getElem? (i := 165) rfl)) rfl
theorem w166 : (Cond.superclass "java/lang/Throwable" "java/lang/Object") ∈ TT := tt_mem (tb1 (List.mem_of_getElem? (i := 166) rfl)) rfl
theorem w167 : (Cond.instanceMethod ({ cls := "java/lang/Throwable", name := "<init>", desc := "()V" } : MethodName)) ∈ TT := tt_mem (tb1 (List.mem_of_getElem? (i := 167) rfl)) rfl
theorem w168 : (Cond.code ({ cls := "java/lang/Throwable", name := "<init>", desc := "()V" } : MethodName) prog_20_method_1_code (1 : Nat) (Option.none : Option FieldType)) ∈ TT := tt_mem (tb1 (List.mem_of_getElem? (i := 168) rfl)) rfl
theorem w169 : (Cond.methodLink "java/lang/Throwable" (1 : Nat) ({ cls := "java/lang/Object", name := "<init>", desc := "()V" } : MethodName)) ∈ TT := tt_mem (tb1 (List.mem_of_getElem? (i := 169) rfl)) rfl
theorem w170 : (Cond.fieldLink "java/lang/Throwable" (13 : Nat) "java/lang/Throwable" "UNASSIGNED_STACK" "[Ljava/lang/StackTraceElement;") ∈ TT := tt_mem (tb1 (List.mem_of_getElem? (i := 170) rfl)) rfl
theorem u171 : (Cond.laysStatic "java/lang/Throwable" "UNASSIGNED_STACK" "[Ljava/lang/StackTraceElement;") ∈ lw_tbl := tb1 (List.mem_of_getElem? (i := 171) rfl)
theorem w172 : (Cond.fieldLink "java/lang/Throwable" (20 : Nat) "java/lang/Throwable" "SUPPRESSED_SENTINEL" "Ljava/util/List;") ∈ TT := tt_mem (tb1 (List.mem_of_getElem? (i := 172) rfl)) rfl
theorem u173 : (Cond.laysStatic "java/lang/Throwable" "SUPPRESSED_SENTINEL" "Ljava/util/List;") ∈ lw_tbl := tb1 (List.mem_of_getElem? (i := 173) rfl)
theorem w174 : (Cond.methodLink "java/lang/Throwable" (27 : Nat) ({ cls := "java/lang/Throwable", name := "fillInStackTrace", desc := "()Ljava/lang/Throwable;" } : MethodName)) ∈ TT := tt_mem (tb1 (List.mem_of_getElem? (i := 174) rfl)) rfl
theorem w175 : (Cond.instanceMethod ({ cls := "java/lang/Throwable", name := "fillInStackTrace", desc := "()Ljava/lang/Throwable;" } : MethodName)) ∈ TT := tt_mem (tb1 (List.mem_of_getElem? (i := 175) rfl)) rfl
theorem w176 : (Cond.sameMethod "java/lang/Throwable" "java/lang/Throwable" "fillInStackTrace" "()Ljava/lang/Throwable;") ∈ TT := tt_mem (tb1 (List.mem_of_getElem? (i := 176) rfl)) rfl
theorem w177 : (Cond.selects "java/lang/IllegalArgumentException" ({ cls := "java/lang/Throwable", name := "fillInStackTrace", desc := "()Ljava/lang/Throwable;" } : MethodName) ({ cls := "java/lang/Throwable", name := "fillInStackTrace", desc := "()Ljava/lang/Throwable;" } : MethodName)) ∈ TT := tt_mem (tb1 (List.mem_of_getElem? (i := 177) rfl)) rfl
theorem w178 : (Cond.selects "java/lang/IndexOutOfBoundsException" ({ cls := "java/lang/Throwable", name := "fillInStackTrace", desc := "()Ljava/lang/Throwable;" } : MethodName) ({ cls := "java/lang/Throwable", name := "fillInStackTrace", desc := "()Ljava/lang/Throwable;" } : MethodName)) ∈ TT := tt_mem (tb1 (List.mem_of_getElem? (i := 178) rfl)) rfl
theorem w179 : (Cond.codeSync ({ cls := "java/lang/Throwable", name := "fillInStackTrace", desc := "()Ljava/lang/Throwable;" } : MethodName) prog_20_method_18_code (1 : Nat) (Option.some (FieldType.object "java/lang/Throwable"))) ∈ TT := tt_mem (tb1 (List.mem_of_getElem? (i := 179) rfl)) rfl
theorem w180 : (Cond.methodLink "java/lang/Throwable" (202 : Nat) ({ cls := "java/lang/Throwable", name := "fillInStackTrace", desc := "(I)Ljava/lang/Throwable;" } : MethodName)) ∈ TT := tt_mem (tb1 (List.mem_of_getElem? (i := 180) rfl)) rfl
theorem u181 : (Cond.privateMethod ({ cls := "java/lang/Throwable", name := "fillInStackTrace", desc := "(I)Ljava/lang/Throwable;" } : MethodName)) ∈ lw_tbl := tb1 (List.mem_of_getElem? (i := 181) rfl)
theorem w182 : (Cond.instanceMethod ({ cls := "java/lang/Throwable", name := "fillInStackTrace", desc := "(I)Ljava/lang/Throwable;" } : MethodName)) ∈ TT := tt_mem (tb1 (List.mem_of_getElem? (i := 182) rfl)) rfl
theorem w183 : (Cond.instantiable "java/lang/Throwable" (6 : Nat)) ∈ TT := tt_mem (tb1 (List.mem_of_getElem? (i := 183) rfl)) rfl
theorem u184 : (Cond.native ({ cls := "java/lang/Throwable", name := "fillInStackTrace", desc := "(I)Ljava/lang/Throwable;" } : MethodName)) ∈ lw_tbl := tb1 (List.mem_of_getElem? (i := 184) rfl)
theorem u185 : (Cond.stringRef "LockHouse" (54 : Nat) "no more cards can be issued") ∈ lw_tbl := tb1 (List.mem_of_getElem? (i := 185) rfl)
theorem w186 : (Cond.methodLink "LockHouse" (56 : Nat) ({ cls := "java/lang/IllegalStateException", name := "<init>", desc := "(Ljava/lang/String;)V" } : MethodName)) ∈ TT := tt_mem (tb1 (List.mem_of_getElem? (i := 186) rfl)) rfl
theorem w187 : (Cond.instanceMethod ({ cls := "java/lang/IllegalStateException", name := "<init>", desc := "(Ljava/lang/String;)V" } : MethodName)) ∈ TT := tt_mem (tb1 (List.mem_of_getElem? (i := 187) rfl)) rfl
theorem w188 : (Cond.code ({ cls := "java/lang/IllegalStateException", name := "<init>", desc := "(Ljava/lang/String;)V" } : MethodName) prog_13_method_2_code (2 : Nat) (Option.none : Option FieldType)) ∈ TT := tt_mem (tb1 (List.mem_of_getElem? (i := 188) rfl)) rfl
theorem w189 : (Cond.methodLink "java/lang/IllegalStateException" (7 : Nat) ({ cls := "java/lang/RuntimeException", name := "<init>", desc := "(Ljava/lang/String;)V" } : MethodName)) ∈ TT := tt_mem (tb1 (List.mem_of_getElem? (i := 189) rfl)) rfl
theorem w190 : (Cond.instanceMethod ({ cls := "java/lang/RuntimeException", name := "<init>", desc := "(Ljava/lang/String;)V" } : MethodName)) ∈ TT := tt_mem (tb1 (List.mem_of_getElem? (i := 190) rfl)) rfl
theorem w191 : (Cond.code ({ cls := "java/lang/RuntimeException", name := "<init>", desc := "(Ljava/lang/String;)V" } : MethodName) prog_17_method_2_code (2 : Nat) (Option.none : Option FieldType)) ∈ TT := tt_mem (tb1 (List.mem_of_getElem? (i := 191) rfl)) rfl
theorem w192 : (Cond.methodLink "java/lang/RuntimeException" (7 : Nat) ({ cls := "java/lang/Exception", name := "<init>", desc := "(Ljava/lang/String;)V" } : MethodName)) ∈ TT := tt_mem (tb1 (List.mem_of_getElem? (i := 192) rfl)) rfl
theorem w193 : (Cond.instanceMethod ({ cls := "java/lang/Exception", name := "<init>", desc := "(Ljava/lang/String;)V" } : MethodName)) ∈ TT := tt_mem (tb1 (List.mem_of_getElem? (i := 193) rfl)) rfl
theorem w194 : (Cond.code ({ cls := "java/lang/Exception", name := "<init>", desc := "(Ljava/lang/String;)V" } : MethodName) prog_11_method_2_code (2 : Nat) (Option.none : Option FieldType)) ∈ TT := tt_mem (tb1 (List.mem_of_getElem? (i := 194) rfl)) rfl
theorem w195 : (Cond.methodLink "java/lang/Exception" (7 : Nat) ({ cls := "java/lang/Throwable", name := "<init>", desc := "(Ljava/lang/String;)V" } : MethodName)) ∈ TT := tt_mem (tb1 (List.mem_of_getElem? (i := 195) rfl)) rfl
theorem w196 : (Cond.instanceMethod ({ cls := "java/lang/Throwable", name := "<init>", desc := "(Ljava/lang/String;)V" } : MethodName)) ∈ TT := tt_mem (tb1 (List.mem_of_getElem? (i := 196) rfl)) rfl
theorem w197 : (Cond.code ({ cls := "java/lang/Throwable", name := "<init>", desc := "(Ljava/lang/String;)V" } : MethodName) prog_20_method_2_code (2 : Nat) (Option.none : Option FieldType)) ∈ TT := tt_mem (tb1 (List.mem_of_getElem? (i := 197) rfl)) rfl
theorem w198 : (Cond.fieldLink "java/lang/Throwable" (198 : Nat) "java/lang/Throwable" "backtrace" "Ljava/lang/Object;") ∈ TT := tt_mem (tb1 (List.mem_of_getElem? (i := 198) rfl)) rfl
theorem w199 : (Cond.fieldLink "java/lang/Throwable" (31 : Nat) "java/lang/Throwable" "detailMessage" "Ljava/lang/String;") ∈ TT := tt_mem (tb1 (List.mem_of_getElem? (i := 199) rfl)) rfl
theorem w200 : (Cond.fieldLink "java/lang/Throwable" (7 : Nat) "java/lang/Throwable" "cause" "Ljava/lang/Throwable;") ∈ TT := tt_mem (tb1 (List.mem_of_getElem? (i := 200) rfl)) rfl
theorem w201 : (Cond.fieldLink "java/lang/Throwable" (17 : Nat) "java/lang/Throwable" "stackTrace" "[Ljava/lang/StackTraceElement;") ∈ TT := tt_mem (tb1 (List.mem_of_getElem? (i := 201) rfl)) rfl
theorem w202 : (Cond.fieldLink "java/lang/Throwable" (24 : Nat) "java/lang/Throwable" "suppressedExceptions" "Ljava/util/List;") ∈ TT := tt_mem (tb1 (List.mem_of_getElem? (i := 202) rfl)) rfl
theorem w203 : (Cond.soleField "java/lang/Throwable" "backtrace") ∈ TT := tt_mem (tb1 (List.mem_of_getElem? (i := 203) rfl)) rfl
theorem w204 : (Cond.soleField "java/lang/Throwable" "detailMessage") ∈ TT := tt_mem (tb1 (List.mem_of_getElem? (i := 204) rfl)) rfl
theorem w205 : (Cond.soleField "java/lang/Throwable" "cause") ∈ TT := tt_mem (tb1 (List.mem_of_getElem? (i := 205) rfl)) rfl
theorem w206 : (Cond.soleField "java/lang/Throwable" "stackTrace") ∈ TT := tt_mem (tb1 (List.mem_of_getElem? (i := 206) rfl)) rfl
theorem w207 : (Cond.lays "java/lang/IllegalStateException" "java/lang/Throwable" "depth" "I") ∈ TT := tt_mem (tb1 (List.mem_of_getElem? (i := 207) rfl)) rfl
theorem w208 : (Cond.soleField "java/lang/Throwable" "depth") ∈ TT := tt_mem (tb1 (List.mem_of_getElem? (i := 208) rfl)) rfl
theorem w209 : (Cond.soleField "java/lang/Throwable" "suppressedExceptions") ∈ TT := tt_mem (tb1 (List.mem_of_getElem? (i := 209) rfl)) rfl
theorem w210 : (Cond.superclass "java/lang/IllegalStateException" "java/lang/RuntimeException") ∈ TT := tt_mem (tb1 (List.mem_of_getElem? (i := 210) rfl)) rfl
theorem w211 : (Cond.arrayClass FieldType.byte) ∈ TT := tt_mem (tb1 (List.mem_of_getElem? (i := 211) rfl)) rfl
theorem w212 : (Cond.classLink "LockHouse" (59 : Nat) "LockHouse$Card") ∈ TT := tt_mem (tb1 (List.mem_of_getElem? (i := 212) rfl)) rfl
theorem w213 : (Cond.instantiable "LockHouse$Card" (8 : Nat)) ∈ TT := tt_mem (tb1 (List.mem_of_getElem? (i := 213) rfl)) rfl
theorem w214 : (Cond.methodLink "LockHouse" (61 : Nat) ({ cls := "LockHouse$Card", name := "<init>", desc := "(II)V" } : MethodName)) ∈ TT := tt_mem (tb1 (List.mem_of_getElem? (i := 214) rfl)) rfl
theorem w215 : (Cond.instanceMethod ({ cls := "LockHouse$Card", name := "<init>", desc := "(II)V" } : MethodName)) ∈ TT := tt_mem (tb1 (List.mem_of_getElem? (i := 215) rfl)) rfl
theorem w216 : (Cond.code ({ cls := "LockHouse$Card", name := "<init>", desc := "(II)V" } : MethodName) prog_2_method_1_code (3 : Nat) (Option.none : Option FieldType)) ∈ TT := tt_mem (tb1 (List.mem_of_getElem? (i := 216) rfl)) rfl
theorem w217 : (Cond.methodLink "LockHouse$Card" (1 : Nat) ({ cls := "java/lang/Object", name := "<init>", desc := "()V" } : MethodName)) ∈ TT := tt_mem (tb1 (List.mem_of_getElem? (i := 217) rfl)) rfl
theorem w218 : (Cond.classLink "LockHouse$Card" (7 : Nat) "LockHouse$Image") ∈ TT := tt_mem (tb1 (List.mem_of_getElem? (i := 218) rfl)) rfl
theorem w219 : (Cond.instantiable "LockHouse$Image" (1 : Nat)) ∈ TT := tt_mem (tb1 (List.mem_of_getElem? (i := 219) rfl)) rfl
theorem u220 : (Cond.methodLinkNest "LockHouse$Card" (9 : Nat) ({ cls := "LockHouse$Image", name := "<init>", desc := "()V" } : MethodName) "LockHouse") ∈ lw_tbl := tb1 (List.mem_of_getElem? (i := 220) rfl)
theorem w221 : (Cond.instanceMethod ({ cls := "LockHouse$Image", name := "<init>", desc := "()V" } : MethodName)) ∈ TT := tt_mem (tb1 (List.mem_of_getElem? (i := 221) rfl)) rfl
theorem w222 : (Cond.code ({ cls := "LockHouse$Image", name := "<init>", desc := "()V" } : MethodName) prog_6_method_1_code (1 : Nat) (Option.none : Option FieldType)) ∈ TT := tt_mem (tb1 (List.mem_of_getElem? (i := 222) rfl)) rfl
theorem w223 : (Cond.methodLink "LockHouse$Image" (1 : Nat) ({ cls := "java/lang/Object", name := "<init>", desc := "()V" } : MethodName)) ∈ TT := tt_mem (tb1 (List.mem_of_getElem? (i := 223) rfl)) rfl
theorem w224 : (Cond.fieldLink "LockHouse$Image" (9 : Nat) "LockHouse$Image" "words" "[S") ∈ TT := tt_mem (tb1 (List.mem_of_getElem? (i := 224) rfl)) rfl
theorem w225 : (Cond.laysFinal "LockHouse$Image" "LockHouse$Image" "words" "[S") ∈ TT := tt_mem (tb1 (List.mem_of_getElem? (i := 225) rfl)) rfl
theorem w226 : (Cond.soleField "LockHouse$Image" "words") ∈ TT := tt_mem (tb1 (List.mem_of_getElem? (i := 226) rfl)) rfl
theorem w227 : (Cond.superclass "LockHouse$Image" "java/lang/Object") ∈ TT := tt_mem (tb1 (List.mem_of_getElem? (i := 227) rfl)) rfl
theorem w228 : (Cond.arrayClass FieldType.short) ∈ TT := tt_mem (tb1 (List.mem_of_getElem? (i := 228) rfl)) rfl
theorem w229 : (Cond.fieldLink "LockHouse$Card" (32 : Nat) "LockHouse$Card" "zones" "I") ∈ TT := tt_mem (tb1 (List.mem_of_getElem? (i := 229) rfl)) rfl
theorem w230 : (Cond.fieldLink "LockHouse$Card" (35 : Nat) "LockHouse$Card" "endDay" "I") ∈ TT := tt_mem (tb1 (List.mem_of_getElem? (i := 230) rfl)) rfl
theorem u231 : (Cond.fieldLinkNest "LockHouse$Door" (63 : Nat) "LockHouse$Card" "endDay" "I" "LockHouse") ∈ lw_tbl := tb1 (List.mem_of_getElem? (i := 231) rfl)
theorem w232 : (Cond.fieldLink "LockHouse$Card" (10 : Nat) "LockHouse$Card" "image0" "LLockHouse$Image;") ∈ TT := tt_mem (tb1 (List.mem_of_getElem? (i := 232) rfl)) rfl
theorem w233 : (Cond.fieldLink "LockHouse$Card" (16 : Nat) "LockHouse$Card" "image1" "LLockHouse$Image;") ∈ TT := tt_mem (tb1 (List.mem_of_getElem? (i := 233) rfl)) rfl
theorem w234 : (Cond.fieldLink "LockHouse$Card" (19 : Nat) "LockHouse$Card" "entry" "I") ∈ TT := tt_mem (tb1 (List.mem_of_getElem? (i := 234) rfl)) rfl
theorem u235 : (Cond.fieldLinkNest "LockHouse$Door" (54 : Nat) "LockHouse$Card" "entry" "I" "LockHouse") ∈ lw_tbl := tb1 (List.mem_of_getElem? (i := 235) rfl)
theorem u236 : (Cond.fieldLinkNest "LockHouse" (72 : Nat) "LockHouse$Card" "entry" "I" "LockHouse") ∈ lw_tbl := tb1 (List.mem_of_getElem? (i := 236) rfl)
theorem w237 : (Cond.fieldLink "LockHouse$Card" (23 : Nat) "LockHouse$Card" "keep" "I") ∈ TT := tt_mem (tb1 (List.mem_of_getElem? (i := 237) rfl)) rfl
theorem u238 : (Cond.fieldLinkNest "LockHouse" (119 : Nat) "LockHouse$Card" "keep" "I" "LockHouse") ∈ lw_tbl := tb1 (List.mem_of_getElem? (i := 238) rfl)
theorem w239 : (Cond.fieldLink "LockHouse$Card" (26 : Nat) "LockHouse$Card" "wordsLeft" "I") ∈ TT := tt_mem (tb1 (List.mem_of_getElem? (i := 239) rfl)) rfl
theorem w240 : (Cond.fieldLink "LockHouse$Card" (29 : Nat) "LockHouse$Card" "wordsWritten" "I") ∈ TT := tt_mem (tb2 (List.mem_of_getElem? (i := 0) rfl)) rfl
theorem u241 : (Cond.fieldLinkNest "LockHouse" (122 : Nat) "LockHouse$Card" "wordsWritten" "I" "LockHouse") ∈ lw_tbl := tb2 (List.mem_of_getElem? (i := 1) rfl)
theorem w242 : (Cond.laysFinal "LockHouse$Card" "LockHouse$Card" "zones" "I") ∈ TT := tt_mem (tb2 (List.mem_of_getElem? (i := 2) rfl)) rfl
theorem w243 : (Cond.soleField "LockHouse$Card" "zones") ∈ TT := tt_mem (tb2 (List.mem_of_getElem? (i := 3) rfl)) rfl
theorem w244 : (Cond.laysFinal "LockHouse$Card" "LockHouse$Card" "endDay" "I") ∈ TT := tt_mem (tb2 (List.mem_of_getElem? (i := 4) rfl)) rfl
theorem w245 : (Cond.soleField "LockHouse$Card" "endDay") ∈ TT := tt_mem (tb2 (List.mem_of_getElem? (i := 5) rfl)) rfl
theorem w246 : (Cond.laysFinal "LockHouse$Card" "LockHouse$Card" "image0" "LLockHouse$Image;") ∈ TT := tt_mem (tb2 (List.mem_of_getElem? (i := 6) rfl)) rfl
theorem w247 : (Cond.soleField "LockHouse$Card" "image0") ∈ TT := tt_mem (tb2 (List.mem_of_getElem? (i := 7) rfl)) rfl
theorem w248 : (Cond.laysFinal "LockHouse$Card" "LockHouse$Card" "image1" "LLockHouse$Image;") ∈ TT := tt_mem (tb2 (List.mem_of_getElem? (i := 8) rfl)) rfl
theorem w249 : (Cond.soleField "LockHouse$Card" "image1") ∈ TT := tt_mem (tb2 (List.mem_of_getElem? (i := 9) rfl)) rfl
theorem w250 : (Cond.lays "LockHouse$Card" "LockHouse$Card" "entry" "I") ∈ TT := tt_mem (tb2 (List.mem_of_getElem? (i := 10) rfl)) rfl
theorem w251 : (Cond.soleField "LockHouse$Card" "entry") ∈ TT := tt_mem (tb2 (List.mem_of_getElem? (i := 11) rfl)) rfl
theorem w252 : (Cond.lays "LockHouse$Card" "LockHouse$Card" "keep" "I") ∈ TT := tt_mem (tb2 (List.mem_of_getElem? (i := 12) rfl)) rfl
theorem w253 : (Cond.soleField "LockHouse$Card" "keep") ∈ TT := tt_mem (tb2 (List.mem_of_getElem? (i := 13) rfl)) rfl
theorem w254 : (Cond.lays "LockHouse$Card" "LockHouse$Card" "wordsLeft" "I") ∈ TT := tt_mem (tb2 (List.mem_of_getElem? (i := 14) rfl)) rfl
theorem w255 : (Cond.soleField "LockHouse$Card" "wordsLeft") ∈ TT := tt_mem (tb2 (List.mem_of_getElem? (i := 15) rfl)) rfl
theorem w256 : (Cond.lays "LockHouse$Card" "LockHouse$Card" "wordsWritten" "I") ∈ TT := tt_mem (tb2 (List.mem_of_getElem? (i := 16) rfl)) rfl
theorem w257 : (Cond.soleField "LockHouse$Card" "wordsWritten") ∈ TT := tt_mem (tb2 (List.mem_of_getElem? (i := 17) rfl)) rfl
theorem w258 : (Cond.superclass "LockHouse$Card" "java/lang/Object") ∈ TT := tt_mem (tb2 (List.mem_of_getElem? (i := 18) rfl)) rfl
theorem w259 : (Cond.methodLink "LockHouse" (64 : Nat) ({ cls := "java/util/ArrayList", name := "add", desc := "(Ljava/lang/Object;)Z" } : MethodName)) ∈ TT := tt_mem (tb2 (List.mem_of_getElem? (i := 19) rfl)) rfl
theorem w260 : (Cond.instanceMethod ({ cls := "java/util/ArrayList", name := "add", desc := "(Ljava/lang/Object;)Z" } : MethodName)) ∈ TT := tt_mem (tb2 (List.mem_of_getElem? (i := 20) rfl)) rfl
theorem w261 : (Cond.selects "java/util/ArrayList" ({ cls := "java/util/ArrayList", name := "add", desc := "(Ljava/lang/Object;)Z" } : MethodName) ({ cls := "java/util/ArrayList", name := "add", desc := "(Ljava/lang/Object;)Z" } : MethodName)) ∈ TT := tt_mem (tb2 (List.mem_of_getElem? (i := 21) rfl)) rfl
theorem w262 : (Cond.code ({ cls := "java/util/ArrayList", name := "add", desc := "(Ljava/lang/Object;)Z" } : MethodName) prog_23_method_25_code (2 : Nat) (Option.some FieldType.boolean)) ∈ TT := tt_mem (tb2 (List.mem_of_getElem? (i := 22) rfl)) rfl
theorem w263 : (Cond.methodLink "java/util/ArrayList" (131 : Nat) ({ cls := "java/util/ArrayList", name := "add", desc := "(Ljava/lang/Object;[Ljava/lang/Object;I)V" } : MethodName)) ∈ TT := tt_mem (tb2 (List.mem_of_getElem? (i := 23) rfl)) rfl
theorem u264 : (Cond.privateMethod ({ cls := "java/util/ArrayList", name := "add", desc := "(Ljava/lang/Object;[Ljava/lang/Object;I)V" } : MethodName)) ∈ lw_tbl := tb2 (List.mem_of_getElem? (i := 24) rfl)
theorem w265 : (Cond.instanceMethod ({ cls := "java/util/ArrayList", name := "add", desc := "(Ljava/lang/Object;[Ljava/lang/Object;I)V" } : MethodName)) ∈ TT := tt_mem (tb2 (List.mem_of_getElem? (i := 25) rfl)) rfl
theorem w266 : (Cond.code ({ cls := "java/util/ArrayList", name := "add", desc := "(Ljava/lang/Object;[Ljava/lang/Object;I)V" } : MethodName) prog_23_method_24_code (4 : Nat) (Option.none : Option FieldType)) ∈ TT := tt_mem (tb2 (List.mem_of_getElem? (i := 26) rfl)) rfl
theorem w267 : (Cond.methodLink "java/util/ArrayList" (129 : Nat) ({ cls := "java/util/ArrayList", name := "grow", desc := "()[Ljava/lang/Object;" } : MethodName)) ∈ TT := tt_mem (tb2 (List.mem_of_getElem? (i := 27) rfl)) rfl
theorem u268 : (Cond.privateMethod ({ cls := "java/util/ArrayList", name := "grow", desc := "()[Ljava/lang/Object;" } : MethodName)) ∈ lw_tbl := tb2 (List.mem_of_getElem? (i := 28) rfl)
theorem w269 : (Cond.instanceMethod ({ cls := "java/util/ArrayList", name := "grow", desc := "()[Ljava/lang/Object;" } : MethodName)) ∈ TT := tt_mem (tb2 (List.mem_of_getElem? (i := 29) rfl)) rfl
theorem w270 : (Cond.code ({ cls := "java/util/ArrayList", name := "grow", desc := "()[Ljava/lang/Object;" } : MethodName) prog_23_method_7_code (1 : Nat) (Option.some (FieldType.array (FieldType.object "java/lang/Object")))) ∈ TT := tt_mem (tb2 (List.mem_of_getElem? (i := 30) rfl)) rfl
theorem w271 : (Cond.methodLink "java/util/ArrayList" (69 : Nat) ({ cls := "java/util/ArrayList", name := "grow", desc := "(I)[Ljava/lang/Object;" } : MethodName)) ∈ TT := tt_mem (tb2 (List.mem_of_getElem? (i := 31) rfl)) rfl
theorem u272 : (Cond.privateMethod ({ cls := "java/util/ArrayList", name := "grow", desc := "(I)[Ljava/lang/Object;" } : MethodName)) ∈ lw_tbl := tb2 (List.mem_of_getElem? (i := 32) rfl)
theorem w273 : (Cond.instanceMethod ({ cls := "java/util/ArrayList", name := "grow", desc := "(I)[Ljava/lang/Object;" } : MethodName)) ∈ TT := tt_mem (tb2 (List.mem_of_getElem? (i := 33) rfl)) rfl
theorem w274 : (Cond.code ({ cls := "java/util/ArrayList", name := "grow", desc := "(I)[Ljava/lang/Object;" } : MethodName) prog_23_method_6_code (4 : Nat) (Option.some (FieldType.array (FieldType.object "java/lang/Object")))) ∈ TT := tt_mem (tb2 (List.mem_of_getElem? (i := 34) rfl)) rfl
theorem w275 : (Cond.methodLink "java/util/ArrayList" (73 : Nat) ({ cls := "jdk/internal/util/ArraysSupport", name := "newLength", desc := "(III)I" } : MethodName)) ∈ TT := tt_mem (tb2 (List.mem_of_getElem? (i := 35) rfl)) rfl
theorem w276 : (Cond.static ({ cls := "jdk/internal/util/ArraysSupport", name := "newLength", desc := "(III)I" } : MethodName)) ∈ TT := tt_mem (tb2 (List.mem_of_getElem? (i := 36) rfl)) rfl
theorem w277 : (Cond.code ({ cls := "jdk/internal/util/ArraysSupport", name := "newLength", desc := "(III)I" } : MethodName) prog_30_method_27_code (4 : Nat) (Option.some FieldType.int)) ∈ TT := tt_mem (tb2 (List.mem_of_getElem? (i := 37) rfl)) rfl
theorem w278 : (Cond.methodLink "jdk/internal/util/ArraysSupport" (194 : Nat) ({ cls := "java/lang/Math", name := "max", desc := "(II)I" } : MethodName)) ∈ TT := tt_mem (tb2 (List.mem_of_getElem? (i := 38) rfl)) rfl
theorem w279 : (Cond.static ({ cls := "java/lang/Math", name := "max", desc := "(II)I" } : MethodName)) ∈ TT := tt_mem (tb2 (List.mem_of_getElem? (i := 39) rfl)) rfl
theorem w280 : (Cond.code ({ cls := "java/lang/Math", name := "max", desc := "(II)I" } : MethodName) prog_16_method_65_code (2 : Nat) (Option.some FieldType.int)) ∈ TT := tt_mem (tb2 (List.mem_of_getElem? (i := 40) rfl)) rfl
theorem w281 : (Cond.constant "jdk/internal/util/ArraysSupport" (200 : Nat) (2147483639 : Int32)) ∈ TT := tt_mem (tb2 (List.mem_of_getElem? (i := 41) rfl)) rfl
theorem w282 : (Cond.methodLink "jdk/internal/util/ArraysSupport" (201 : Nat) ({ cls := "jdk/internal/util/ArraysSupport", name := "hugeLength", desc := "(II)I" } : MethodName)) ∈ TT := tt_mem (tb2 (List.mem_of_getElem? (i := 42) rfl)) rfl
theorem w283 : (Cond.static ({ cls := "jdk/internal/util/ArraysSupport", name := "hugeLength", desc := "(II)I" } : MethodName)) ∈ TT := tt_mem (tb2 (List.mem_of_getElem? (i := 43) rfl)) rfl
theorem w284 : (Cond.code ({ cls := "jdk/internal/util/ArraysSupport", name := "hugeLength", desc := "(II)I" } : MethodName) prog_30_method_28_code (3 : Nat) (Option.some FieldType.int)) ∈ TT := tt_mem (tb2 (List.mem_of_getElem? (i := 44) rfl)) rfl
theorem w285 : (Cond.methodLink "java/util/ArrayList" (66 : Nat) ({ cls := "java/util/Arrays", name := "copyOf", desc := "([Ljava/lang/Object;I)[Ljava/lang/Object;" } : MethodName)) ∈ TT := tt_mem (tb2 (List.mem_of_getElem? (i := 45) rfl)) rfl
theorem w286 : (Cond.static ({ cls := "java/util/Arrays", name := "copyOf", desc := "([Ljava/lang/Object;I)[Ljava/lang/Object;" } : MethodName)) ∈ TT := tt_mem (tb2 (List.mem_of_getElem? (i := 46) rfl)) rfl
theorem w287 : (Cond.code ({ cls := "java/util/Arrays", name := "copyOf", desc := "([Ljava/lang/Object;I)[Ljava/lang/Object;" } : MethodName) prog_24_method_119_code (2 : Nat) (Option.some (FieldType.array (FieldType.object "java/lang/Object")))) ∈ TT := tt_mem (tb2 (List.mem_of_getElem? (i := 47) rfl)) rfl
theorem w288 : (Cond.methodLink "java/util/Arrays" (86 : Nat) ({ cls := "java/lang/Object", name := "getClass", desc := "()Ljava/lang/Class;" } : MethodName)) ∈ TT := tt_mem (tb2 (List.mem_of_getElem? (i := 48) rfl)) rfl
theorem w289 : (Cond.instanceMethod ({ cls := "java/lang/Object", name := "getClass", desc := "()Ljava/lang/Class;" } : MethodName)) ∈ TT := tt_mem (tb2 (List.mem_of_getElem? (i := 49) rfl)) rfl
theorem w290 : (Cond.sameMethod "java/lang/Object" "java/lang/Object" "getClass" "()Ljava/lang/Class;") ∈ TT := tt_mem (tb2 (List.mem_of_getElem? (i := 50) rfl)) rfl
theorem w291 : (Cond.selects "LockHouse" ({ cls := "java/lang/Object", name := "getClass", desc := "()Ljava/lang/Class;" } : MethodName) ({ cls := "java/lang/Object", name := "getClass", desc := "()Ljava/lang/Class;" } : MethodName)) ∈ TT := tt_mem (tb2 (List.mem_of_getElem? (i := 51) rfl)) rfl
theorem w292 : (Cond.selects "LockHouse$Card" ({ cls := "java/lang/Object", name := "getClass", desc := "()Ljava/lang/Class;" } : MethodName) ({ cls := "java/lang/Object", name := "getClass", desc := "()Ljava/lang/Class;" } : MethodName)) ∈ TT := tt_mem (tb2 (List.mem_of_getElem? (i := 52) rfl)) rfl
theorem w293 : (Cond.selects "LockHouse$Door" ({ cls := "java/lang/Object", name := "getClass", desc := "()Ljava/lang/Class;" } : MethodName) ({ cls := "java/lang/Object", name := "getClass", desc := "()Ljava/lang/Class;" } : MethodName)) ∈ TT := tt_mem (tb2 (List.mem_of_getElem? (i := 53) rfl)) rfl
theorem w294 : (Cond.selects "LockHouse$Entry" ({ cls := "java/lang/Object", name := "getClass", desc := "()Ljava/lang/Class;" } : MethodName) ({ cls := "java/lang/Object", name := "getClass", desc := "()Ljava/lang/Class;" } : MethodName)) ∈ TT := tt_mem (tb2 (List.mem_of_getElem? (i := 54) rfl)) rfl
theorem w295 : (Cond.selects "LockHouse$EntryList" ({ cls := "java/lang/Object", name := "getClass", desc := "()Ljava/lang/Class;" } : MethodName) ({ cls := "java/lang/Object", name := "getClass", desc := "()Ljava/lang/Class;" } : MethodName)) ∈ TT := tt_mem (tb2 (List.mem_of_getElem? (i := 55) rfl)) rfl
theorem w296 : (Cond.selects "LockHouse$Image" ({ cls := "java/lang/Object", name := "getClass", desc := "()Ljava/lang/Class;" } : MethodName) ({ cls := "java/lang/Object", name := "getClass", desc := "()Ljava/lang/Class;" } : MethodName)) ∈ TT := tt_mem (tb2 (List.mem_of_getElem? (i := 56) rfl)) rfl
theorem w297 : (Cond.selects "LockHouseModel" ({ cls := "java/lang/Object", name := "getClass", desc := "()Ljava/lang/Class;" } : MethodName) ({ cls := "java/lang/Object", name := "getClass", desc := "()Ljava/lang/Class;" } : MethodName)) ∈ TT := tt_mem (tb2 (List.mem_of_getElem? (i := 57) rfl)) rfl
theorem w298 : (Cond.selects "java/lang/IllegalArgumentException" ({ cls := "java/lang/Object", name := "getClass", desc := "()Ljava/lang/Class;" } : MethodName) ({ cls := "java/lang/Object", name := "getClass", desc := "()Ljava/lang/Class;" } : MethodName)) ∈ TT := tt_mem (tb2 (List.mem_of_getElem? (i := 58) rfl)) rfl
theorem w299 : (Cond.selects "java/lang/IllegalStateException" ({ cls := "java/lang/Object", name := "getClass", desc := "()Ljava/lang/Class;" } : MethodName) ({ cls := "java/lang/Object", name := "getClass", desc := "()Ljava/lang/Class;" } : MethodName)) ∈ TT := tt_mem (tb2 (List.mem_of_getElem? (i := 59) rfl)) rfl
theorem w300 : (Cond.selects "java/lang/IndexOutOfBoundsException" ({ cls := "java/lang/Object", name := "getClass", desc := "()Ljava/lang/Class;" } : MethodName) ({ cls := "java/lang/Object", name := "getClass", desc := "()Ljava/lang/Class;" } : MethodName)) ∈ TT := tt_mem (tb2 (List.mem_of_getElem? (i := 60) rfl)) rfl
theorem w301 : (Cond.selects "java/util/ArrayList" ({ cls := "java/lang/Object", name := "getClass", desc := "()Ljava/lang/Class;" } : MethodName) ({ cls := "java/lang/Object", name := "getClass", desc := "()Ljava/lang/Class;" } : MethodName)) ∈ TT := tt_mem (tb2 (List.mem_of_getElem? (i := 61) rfl)) rfl
theorem u302 : (Cond.native ({ cls := "java/lang/Object", name := "getClass", desc := "()Ljava/lang/Class;" } : MethodName)) ∈ lw_tbl := tb2 (List.mem_of_getElem? (i := 62) rfl)
theorem w303 : (Cond.methodLink "java/util/Arrays" (300 : Nat) ({ cls := "java/util/Arrays", name := "copyOf", desc := "([Ljava/lang/Object;ILjava/lang/Class;)[Ljava/lang/Object;" } : MethodName)) ∈ TT := tt_mem (tb2 (List.mem_of_getElem? (i := 63) rfl)) rfl
theorem w304 : (Cond.static ({ cls := "java/util/Arrays", name := "copyOf", desc := "([Ljava/lang/Object;ILjava/lang/Class;)[Ljava/lang/Object;" } : MethodName)) ∈ TT := tt_mem (tb2 (List.mem_of_getElem? (i := 64) rfl)) rfl
theorem w305 : (Cond.code ({ cls := "java/util/Arrays", name := "copyOf", desc := "([Ljava/lang/Object;ILjava/lang/Class;)[Ljava/lang/Object;" } : MethodName) prog_24_method_120_code (4 : Nat) (Option.some (FieldType.array (FieldType.object "java/lang/Object")))) ∈ TT := tt_mem (tb2 (List.mem_of_getElem? (i := 65) rfl)) rfl
theorem w306 : (Cond.classLink "java/util/Arrays" (110 : Nat) "[Ljava/lang/Object;") ∈ TT := tt_mem (tb2 (List.mem_of_getElem? (i := 66) rfl)) rfl
theorem u307 : (Cond.arrayOver (FieldType.object "java/lang/Object")) ∈ lw_tbl := tb2 (List.mem_of_getElem? (i := 67) rfl)
theorem w308 : (Cond.classLink "java/util/Arrays" (2 : Nat) "java/lang/Object") ∈ TT := tt_mem (tb2 (List.mem_of_getElem? (i := 68) rfl)) rfl
theorem w309 : (Cond.methodLink "java/util/Arrays" (304 : Nat) ({ cls := "java/lang/Math", name := "min", desc := "(II)I" } : MethodName)) ∈ TT := tt_mem (tb2 (List.mem_of_getElem? (i := 69) rfl)) rfl
theorem w310 : (Cond.static ({ cls := "java/lang/Math", name := "min", desc := "(II)I" } : MethodName)) ∈ TT := tt_mem (tb2 (List.mem_of_getElem? (i := 70) rfl)) rfl
theorem w311 : (Cond.code ({ cls := "java/lang/Math", name := "min", desc := "(II)I" } : MethodName) prog_16_method_69_code (2 : Nat) (Option.some FieldType.int)) ∈ TT := tt_mem (tb2 (List.mem_of_getElem? (i := 71) rfl)) rfl
theorem w312 : (Cond.methodLink "java/util/Arrays" (150 : Nat) ({ cls := "java/lang/System", name := "arraycopy", desc := "(Ljava/lang/Object;ILjava/lang/Object;II)V" } : MethodName)) ∈ TT := tt_mem (tb2 (List.mem_of_getElem? (i := 72) rfl)) rfl
theorem w313 : (Cond.static ({ cls := "java/lang/System", name := "arraycopy", desc := "(Ljava/lang/Object;ILjava/lang/Object;II)V" } : MethodName)) ∈ TT := tt_mem (tb2 (List.mem_of_getElem? (i := 73) rfl)) rfl
theorem u314 : (Cond.native ({ cls := "java/lang/System", name := "arraycopy", desc := "(Ljava/lang/Object;ILjava/lang/Object;II)V" } : MethodName)) ∈ lw_tbl := tb2 (List.mem_of_getElem? (i := 74) rfl)
theorem w315 : (Cond.methodLink "java/util/ArrayList" (79 : Nat) ({ cls := "java/lang/Math", name := "max", desc := "(II)I" } : MethodName)) ∈ TT := tt_mem (tb2 (List.mem_of_getElem? (i := 75) rfl)) rfl
theorem w316 : (Cond.classLink "java/util/ArrayList" (7 : Nat) "java/lang/Object") ∈ TT := tt_mem (tb2 (List.mem_of_getElem? (i := 76) rfl)) rfl
theorem w317 : (Cond.methodLink "LockHouseLaw" (92 : Nat) ({ cls := "LockHouseLaw", name := "revoke", desc := "(LLockHouse;I[J)I" } : MethodName)) ∈ TT := tt_mem (tb2 (List.mem_of_getElem? (i := 77) rfl)) rfl
theorem w318 : (Cond.static ({ cls := "LockHouseLaw", name := "revoke", desc := "(LLockHouse;I[J)I" } : MethodName)) ∈ TT := tt_mem (tb2 (List.mem_of_getElem? (i := 78) rfl)) rfl
theorem w319 : (Cond.codeWith ({ cls := "LockHouseLaw", name := "revoke", desc := "(LLockHouse;I[J)I" } : MethodName) method_4_code (4 : Nat) (Option.some FieldType.int) [((0 : Nat), (9 : Nat), (12 : Nat), (19 : Nat)), ((0 : Nat), (9 : Nat), (15 : Nat), (13 : Nat))]) ∈ TT := tt_mem (tb2 (List.mem_of_getElem? (i := 79) rfl)) rfl
theorem w320 : (Cond.classLink "LockHouseLaw" (19 : Nat) "java/lang/IndexOutOfBoundsException") ∈ TT := tt_mem (tb2 (List.mem_of_getElem? (i := 80) rfl)) rfl
theorem w321 : (Cond.methodLink "LockHouseLaw" (15 : Nat) ({ cls := "LockHouse", name := "revoke", desc := "(I)I" } : MethodName)) ∈ TT := tt_mem (tb2 (List.mem_of_getElem? (i := 81) rfl)) rfl
theorem w322 : (Cond.instanceMethod ({ cls := "LockHouse", name := "revoke", desc := "(I)I" } : MethodName)) ∈ TT := tt_mem (tb2 (List.mem_of_getElem? (i := 82) rfl)) rfl
theorem w323 : (Cond.selects "LockHouse" ({ cls := "LockHouse", name := "revoke", desc := "(I)I" } : MethodName) ({ cls := "LockHouse", name := "revoke", desc := "(I)I" } : MethodName)) ∈ TT := tt_mem (tb2 (List.mem_of_getElem? (i := 83) rfl)) rfl
theorem w324 : (Cond.code ({ cls := "LockHouse", name := "revoke", desc := "(I)I" } : MethodName) prog_1_method_4_code (3 : Nat) (Option.some FieldType.int)) ∈ TT := tt_mem (tb2 (List.mem_of_getElem? (i := 84) rfl)) rfl
theorem w325 : (Cond.methodLink "LockHouse" (68 : Nat) ({ cls := "LockHouse", name := "cardAt", desc := "(I)LLockHouse$Card;" } : MethodName)) ∈ TT := tt_mem (tb2 (List.mem_of_getElem? (i := 85) rfl)) rfl
theorem u326 : (Cond.privateMethod ({ cls := "LockHouse", name := "cardAt", desc := "(I)LLockHouse$Card;" } : MethodName)) ∈ lw_tbl := tb2 (List.mem_of_getElem? (i := 86) rfl)
theorem w327 : (Cond.instanceMethod ({ cls := "LockHouse", name := "cardAt", desc := "(I)LLockHouse$Card;" } : MethodName)) ∈ TT := tt_mem (tb2 (List.mem_of_getElem? (i := 87) rfl)) rfl
theorem w328 : (Cond.code ({ cls := "LockHouse", name := "cardAt", desc := "(I)LLockHouse$Card;" } : MethodName) prog_1_method_23_code (2 : Nat) (Option.some (FieldType.object "LockHouse$Card"))) ∈ TT := tt_mem (tb2 (List.mem_of_getElem? (i := 88) rfl)) rfl
theorem w329 : (Cond.methodLink "LockHouse" (192 : Nat) ({ cls := "LockHouse", name := "isCard", desc := "(I)Z" } : MethodName)) ∈ TT := tt_mem (tb2 (List.mem_of_getElem? (i := 89) rfl)) rfl
theorem u330 : (Cond.privateMethod ({ cls := "LockHouse", name := "isCard", desc := "(I)Z" } : MethodName)) ∈ lw_tbl := tb2 (List.mem_of_getElem? (i := 90) rfl)
theorem w331 : (Cond.instanceMethod ({ cls := "LockHouse", name := "isCard", desc := "(I)Z" } : MethodName)) ∈ TT := tt_mem (tb2 (List.mem_of_getElem? (i := 91) rfl)) rfl
theorem w332 : (Cond.code ({ cls := "LockHouse", name := "isCard", desc := "(I)Z" } : MethodName) prog_1_method_21_code (2 : Nat) (Option.some FieldType.boolean)) ∈ TT := tt_mem (tb2 (List.mem_of_getElem? (i := 92) rfl)) rfl
theorem w333 : (Cond.classLink "LockHouse" (127 : Nat) "java/lang/IndexOutOfBoundsException") ∈ TT := tt_mem (tb2 (List.mem_of_getElem? (i := 93) rfl)) rfl
theorem w334 : (Cond.instantiable "java/lang/IndexOutOfBoundsException" (6 : Nat)) ∈ TT := tt_mem (tb2 (List.mem_of_getElem? (i := 94) rfl)) rfl
theorem u335 : (Cond.castable "java/lang/IndexOutOfBoundsException" "java/lang/IndexOutOfBoundsException") ∈ lw_tbl := tb2 (List.mem_of_getElem? (i := 95) rfl)
theorem w336 : (Cond.selects "java/lang/IndexOutOfBoundsException" ({ cls := "java/lang/Throwable", name := "fillInStackTrace", desc := "(I)Ljava/lang/Throwable;" } : MethodName) ({ cls := "java/lang/Throwable", name := "fillInStackTrace", desc := "(I)Ljava/lang/Throwable;" } : MethodName)) ∈ TT := tt_mem (tb2 (List.mem_of_getElem? (i := 96) rfl)) rfl
theorem w337 : (Cond.lays "java/lang/IndexOutOfBoundsException" "java/lang/Throwable" "cause" "Ljava/lang/Throwable;") ∈ TT := tt_mem (tb2 (List.mem_of_getElem? (i := 97) rfl)) rfl
theorem w338 : (Cond.lays "java/lang/IndexOutOfBoundsException" "java/lang/Throwable" "stackTrace" "[Ljava/lang/StackTraceElement;") ∈ TT := tt_mem (tb2 (List.mem_of_getElem? (i := 98) rfl)) rfl
theorem w339 : (Cond.lays "java/lang/IndexOutOfBoundsException" "java/lang/Throwable" "suppressedExceptions" "Ljava/util/List;") ∈ TT := tt_mem (tb2 (List.mem_of_getElem? (i := 99) rfl)) rfl
theorem w340 : (Cond.lays "java/lang/IndexOutOfBoundsException" "java/lang/Throwable" "detailMessage" "Ljava/lang/String;") ∈ TT := tt_mem (tb2 (List.mem_of_getElem? (i := 100) rfl)) rfl
theorem w341 : (Cond.lays "java/lang/IndexOutOfBoundsException" "java/lang/Throwable" "backtrace" "Ljava/lang/Object;") ∈ TT := tt_mem (tb2 (List.mem_of_getElem? (i := 101) rfl)) rfl
theorem u342 : (Cond.stringRef "LockHouse" (207 : Nat) "no such card") ∈ lw_tbl := tb2 (List.mem_of_getElem? (i := 102) rfl)
theorem w343 : (Cond.methodLink "LockHouse" (131 : Nat) ({ cls := "java/lang/IndexOutOfBoundsException", name := "<init>", desc := "(Ljava/lang/String;)V" } : MethodName)) ∈ TT := tt_mem (tb2 (List.mem_of_getElem? (i := 103) rfl)) rfl
theorem w344 : (Cond.instanceMethod ({ cls := "java/lang/IndexOutOfBoundsException", name := "<init>", desc := "(Ljava/lang/String;)V" } : MethodName)) ∈ TT := tt_mem (tb2 (List.mem_of_getElem? (i := 104) rfl)) rfl
theorem w345 : (Cond.code ({ cls := "java/lang/IndexOutOfBoundsException", name := "<init>", desc := "(Ljava/lang/String;)V" } : MethodName) prog_14_method_2_code (2 : Nat) (Option.none : Option FieldType)) ∈ TT := tt_mem (tb2 (List.mem_of_getElem? (i := 105) rfl)) rfl
theorem w346 : (Cond.methodLink "java/lang/IndexOutOfBoundsException" (7 : Nat) ({ cls := "java/lang/RuntimeException", name := "<init>", desc := "(Ljava/lang/String;)V" } : MethodName)) ∈ TT := tt_mem (tb2 (List.mem_of_getElem? (i := 106) rfl)) rfl
theorem w347 : (Cond.lays "java/lang/IndexOutOfBoundsException" "java/lang/Throwable" "depth" "I") ∈ TT := tt_mem (tb2 (List.mem_of_getElem? (i := 107) rfl)) rfl
theorem w348 : (Cond.superclass "java/lang/IndexOutOfBoundsException" "java/lang/RuntimeException") ∈ TT := tt_mem (tb2 (List.mem_of_getElem? (i := 108) rfl)) rfl
theorem w349 : (Cond.methodLink "LockHouse" (203 : Nat) ({ cls := "java/util/ArrayList", name := "get", desc := "(I)Ljava/lang/Object;" } : MethodName)) ∈ TT := tt_mem (tb2 (List.mem_of_getElem? (i := 109) rfl)) rfl
theorem w350 : (Cond.instanceMethod ({ cls := "java/util/ArrayList", name := "get", desc := "(I)Ljava/lang/Object;" } : MethodName)) ∈ TT := tt_mem (tb2 (List.mem_of_getElem? (i := 110) rfl)) rfl
theorem w351 : (Cond.selects "java/util/ArrayList" ({ cls := "java/util/ArrayList", name := "get", desc := "(I)Ljava/lang/Object;" } : MethodName) ({ cls := "java/util/ArrayList", name := "get", desc := "(I)Ljava/lang/Object;" } : MethodName)) ∈ TT := tt_mem (tb2 (List.mem_of_getElem? (i := 111) rfl)) rfl
theorem w352 : (Cond.code ({ cls := "java/util/ArrayList", name := "get", desc := "(I)Ljava/lang/Object;" } : MethodName) prog_23_method_20_code (2 : Nat) (Option.some (FieldType.object "java/lang/Object"))) ∈ TT := tt_mem (tb2 (List.mem_of_getElem? (i := 112) rfl)) rfl
theorem w353 : (Cond.methodLink "java/util/ArrayList" (118 : Nat) ({ cls := "java/util/Objects", name := "checkIndex", desc := "(II)I" } : MethodName)) ∈ TT := tt_mem (tb2 (List.mem_of_getElem? (i := 113) rfl)) rfl
theorem w354 : (Cond.static ({ cls := "java/util/Objects", name := "checkIndex", desc := "(II)I" } : MethodName)) ∈ TT := tt_mem (tb2 (List.mem_of_getElem? (i := 114) rfl)) rfl
theorem w355 : (Cond.code ({ cls := "java/util/Objects", name := "checkIndex", desc := "(II)I" } : MethodName) prog_27_method_17_code (2 : Nat) (Option.some FieldType.int)) ∈ TT := tt_mem (tb2 (List.mem_of_getElem? (i := 115) rfl)) rfl
theorem w356 : (Cond.methodLink "java/util/Objects" (105 : Nat) ({ cls := "jdk/internal/util/Preconditions", name := "checkIndex", desc := "(IILjava/util/function/BiFunction;)I" } : MethodName)) ∈ TT := tt_mem (tb2 (List.mem_of_getElem? (i := 116) rfl)) rfl
theorem w357 : (Cond.static ({ cls := "jdk/internal/util/Preconditions", name := "checkIndex", desc := "(IILjava/util/function/BiFunction;)I" } : MethodName)) ∈ TT := tt_mem (tb2 (List.mem_of_getElem? (i := 117) rfl)) rfl
theorem w358 : (Cond.code ({ cls := "jdk/internal/util/Preconditions", name := "checkIndex", desc := "(IILjava/util/function/BiFunction;)I" } : MethodName) prog_31_method_11_code (3 : Nat) (Option.some FieldType.int)) ∈ TT := tt_mem (tb2 (List.mem_of_getElem? (i := 118) rfl)) rfl
theorem w359 : (Cond.methodLink "java/util/ArrayList" (123 : Nat) ({ cls := "java/util/ArrayList", name := "elementData", desc := "(I)Ljava/lang/Object;" } : MethodName)) ∈ TT := tt_mem (tb2 (List.mem_of_getElem? (i := 119) rfl)) rfl
theorem w360 : (Cond.instanceMethod ({ cls := "java/util/ArrayList", name := "elementData", desc := "(I)Ljava/lang/Object;" } : MethodName)) ∈ TT := tt_mem (tb2 (List.mem_of_getElem? (i := 120) rfl)) rfl
theorem w361 : (Cond.selects "java/util/ArrayList" ({ cls := "java/util/ArrayList", name := "elementData", desc := "(I)Ljava/lang/Object;" } : MethodName) ({ cls := "java/util/ArrayList", name := "elementData", desc := "(I)Ljava/lang/Object;" } : MethodName)) ∈ TT := tt_mem (tb2 (List.mem_of_getElem? (i := 121) rfl)) rfl
theorem w362 : (Cond.code ({ cls := "java/util/ArrayList", name := "elementData", desc := "(I)Ljava/lang/Object;" } : MethodName) prog_23_method_18_code (2 : Nat) (Option.some (FieldType.object "java/lang/Object"))) ∈ TT := tt_mem (tb2 (List.mem_of_getElem? (i := 122) rfl)) rfl
theorem u363 : (Cond.stringRef "LockHouse" (79 : Nat) "no more entries can be made") ∈ lw_tbl := tb2 (List.mem_of_getElem? (i := 123) rfl)
theorem w364 : (Cond.methodLink "LockHouse" (81 : Nat) ({ cls := "LockHouse$EntryList", name := "append", desc := "(I)I" } : MethodName)) ∈ TT := tt_mem (tb2 (List.mem_of_getElem? (i := 124) rfl)) rfl
theorem w365 : (Cond.instanceMethod ({ cls := "LockHouse$EntryList", name := "append", desc := "(I)I" } : MethodName)) ∈ TT := tt_mem (tb2 (List.mem_of_getElem? (i := 125) rfl)) rfl
theorem w366 : (Cond.selects "LockHouse$EntryList" ({ cls := "LockHouse$EntryList", name := "append", desc := "(I)I" } : MethodName) ({ cls := "LockHouse$EntryList", name := "append", desc := "(I)I" } : MethodName)) ∈ TT := tt_mem (tb2 (List.mem_of_getElem? (i := 126) rfl)) rfl
theorem w367 : (Cond.code ({ cls := "LockHouse$EntryList", name := "append", desc := "(I)I" } : MethodName) prog_5_method_3_code (2 : Nat) (Option.some FieldType.int)) ∈ TT := tt_mem (tb2 (List.mem_of_getElem? (i := 127) rfl)) rfl
theorem w368 : (Cond.classLink "LockHouse$EntryList" (22 : Nat) "LockHouse$Entry") ∈ TT := tt_mem (tb2 (List.mem_of_getElem? (i := 128) rfl)) rfl
theorem w369 : (Cond.instantiable "LockHouse$Entry" (2 : Nat)) ∈ TT := tt_mem (tb2 (List.mem_of_getElem? (i := 129) rfl)) rfl
theorem w370 : (Cond.methodLink "LockHouse$EntryList" (24 : Nat) ({ cls := "LockHouse$Entry", name := "<init>", desc := "(I)V" } : MethodName)) ∈ TT := tt_mem (tb2 (List.mem_of_getElem? (i := 130) rfl)) rfl
theorem w371 : (Cond.instanceMethod ({ cls := "LockHouse$Entry", name := "<init>", desc := "(I)V" } : MethodName)) ∈ TT := tt_mem (tb2 (List.mem_of_getElem? (i := 131) rfl)) rfl
theorem w372 : (Cond.code ({ cls := "LockHouse$Entry", name := "<init>", desc := "(I)V" } : MethodName) prog_4_method_1_code (2 : Nat) (Option.none : Option FieldType)) ∈ TT := tt_mem (tb2 (List.mem_of_getElem? (i := 132) rfl)) rfl
theorem w373 : (Cond.methodLink "LockHouse$Entry" (3 : Nat) ({ cls := "java/lang/Object", name := "<init>", desc := "()V" } : MethodName)) ∈ TT := tt_mem (tb2 (List.mem_of_getElem? (i := 133) rfl)) rfl
theorem w374 : (Cond.fieldLink "LockHouse$Entry" (15 : Nat) "LockHouse$Entry" "card" "I") ∈ TT := tt_mem (tb2 (List.mem_of_getElem? (i := 134) rfl)) rfl
theorem u375 : (Cond.fieldLinkNest "LockHouse$EntryList" (39 : Nat) "LockHouse$Entry" "card" "I" "LockHouse") ∈ lw_tbl := tb2 (List.mem_of_getElem? (i := 135) rfl)
theorem w376 : (Cond.fieldLink "LockHouse$Entry" (9 : Nat) "LockHouse$Entry" "atDoor" "[Z") ∈ TT := tt_mem (tb2 (List.mem_of_getElem? (i := 136) rfl)) rfl
theorem w377 : (Cond.laysFinal "LockHouse$Entry" "LockHouse$Entry" "card" "I") ∈ TT := tt_mem (tb2 (List.mem_of_getElem? (i := 137) rfl)) rfl
theorem w378 : (Cond.soleField "LockHouse$Entry" "card") ∈ TT := tt_mem (tb2 (List.mem_of_getElem? (i := 138) rfl)) rfl
theorem w379 : (Cond.laysFinal "LockHouse$Entry" "LockHouse$Entry" "atDoor" "[Z") ∈ TT := tt_mem (tb2 (List.mem_of_getElem? (i := 139) rfl)) rfl
theorem w380 : (Cond.soleField "LockHouse$Entry" "atDoor") ∈ TT := tt_mem (tb2 (List.mem_of_getElem? (i := 140) rfl)) rfl
theorem w381 : (Cond.superclass "LockHouse$Entry" "java/lang/Object") ∈ TT := tt_mem (tb2 (List.mem_of_getElem? (i := 141) rfl)) rfl
theorem w382 : (Cond.arrayClass FieldType.boolean) ∈ TT := tt_mem (tb2 (List.mem_of_getElem? (i := 142) rfl)) rfl
theorem w383 : (Cond.methodLink "LockHouse$EntryList" (27 : Nat) ({ cls := "java/util/ArrayList", name := "add", desc := "(Ljava/lang/Object;)Z" } : MethodName)) ∈ TT := tt_mem (tb2 (List.mem_of_getElem? (i := 143) rfl)) rfl
theorem w384 : (Cond.methodLink "LockHouseLaw" (100 : Nat) ({ cls := "LockHouseLaw", name := "gate", desc := "(LLockHouse;I)I" } : MethodName)) ∈ TT := tt_mem (tb2 (List.mem_of_getElem? (i := 144) rfl)) rfl
theorem w385 : (Cond.static ({ cls := "LockHouseLaw", name := "gate", desc := "(LLockHouse;I)I" } : MethodName)) ∈ TT := tt_mem (tb2 (List.mem_of_getElem? (i := 145) rfl)) rfl
theorem w386 : (Cond.codeWith ({ cls := "LockHouseLaw", name := "gate", desc := "(LLockHouse;I)I" } : MethodName) method_5_code (3 : Nat) (Option.some FieldType.int) [((0 : Nat), (5 : Nat), (8 : Nat), (19 : Nat))]) ∈ TT := tt_mem (tb2 (List.mem_of_getElem? (i := 146) rfl)) rfl
theorem w387 : (Cond.methodLink "LockHouseLaw" (21 : Nat) ({ cls := "LockHouse", name := "gate", desc := "(I)V" } : MethodName)) ∈ TT := tt_mem (tb2 (List.mem_of_getElem? (i := 147) rfl)) rfl
theorem w388 : (Cond.instanceMethod ({ cls := "LockHouse", name := "gate", desc := "(I)V" } : MethodName)) ∈ TT := tt_mem (tb2 (List.mem_of_getElem? (i := 148) rfl)) rfl
theorem w389 : (Cond.selects "LockHouse" ({ cls := "LockHouse", name := "gate", desc := "(I)V" } : MethodName) ({ cls := "LockHouse", name := "gate", desc := "(I)V" } : MethodName)) ∈ TT := tt_mem (tb2 (List.mem_of_getElem? (i := 149) rfl)) rfl
theorem w390 : (Cond.code ({ cls := "LockHouse", name := "gate", desc := "(I)V" } : MethodName) prog_1_method_6_code (6 : Nat) (Option.none : Option FieldType)) ∈ TT := tt_mem (tb2 (List.mem_of_getElem? (i := 150) rfl)) rfl
theorem w391 : (Cond.methodLink "LockHouse" (85 : Nat) ({ cls := "java/lang/Math", name := "min", desc := "(II)I" } : MethodName)) ∈ TT := tt_mem (tb2 (List.mem_of_getElem? (i := 151) rfl)) rfl
theorem w392 : (Cond.methodLink "LockHouse" (91 : Nat) ({ cls := "LockHouse$Card", name := "store", desc := "(IIILLockHouse$EntryList;)V" } : MethodName)) ∈ TT := tt_mem (tb2 (List.mem_of_getElem? (i := 152) rfl)) rfl
theorem w393 : (Cond.instanceMethod ({ cls := "LockHouse$Card", name := "store", desc := "(IIILLockHouse$EntryList;)V" } : MethodName)) ∈ TT := tt_mem (tb2 (List.mem_of_getElem? (i := 153) rfl)) rfl
theorem w394 : (Cond.selects "LockHouse$Card" ({ cls := "LockHouse$Card", name := "store", desc := "(IIILLockHouse$EntryList;)V" } : MethodName) ({ cls := "LockHouse$Card", name := "store", desc := "(IIILLockHouse$EntryList;)V" } : MethodName)) ∈ TT := tt_mem (tb2 (List.mem_of_getElem? (i := 154) rfl)) rfl
theorem w395 : (Cond.code ({ cls := "LockHouse$Card", name := "store", desc := "(IIILLockHouse$EntryList;)V" } : MethodName) prog_2_method_5_code (10 : Nat) (Option.none : Option FieldType)) ∈ TT := tt_mem (tb2 (List.mem_of_getElem? (i := 155) rfl)) rfl
theorem w396 : (Cond.methodLink "LockHouse$Card" (46 : Nat) ({ cls := "LockHouse$Card", name := "currentIndex", desc := "()I" } : MethodName)) ∈ TT := tt_mem (tb2 (List.mem_of_getElem? (i := 156) rfl)) rfl
theorem w397 : (Cond.instanceMethod ({ cls := "LockHouse$Card", name := "currentIndex", desc := "()I" } : MethodName)) ∈ TT := tt_mem (tb2 (List.mem_of_getElem? (i := 157) rfl)) rfl
theorem w398 : (Cond.selects "LockHouse$Card" ({ cls := "LockHouse$Card", name := "currentIndex", desc := "()I" } : MethodName) ({ cls := "LockHouse$Card", name := "currentIndex", desc := "()I" } : MethodName)) ∈ TT := tt_mem (tb2 (List.mem_of_getElem? (i := 158) rfl)) rfl
theorem w399 : (Cond.code ({ cls := "LockHouse$Card", name := "currentIndex", desc := "()I" } : MethodName) prog_2_method_3_code (2 : Nat) (Option.some FieldType.int)) ∈ TT := tt_mem (tb2 (List.mem_of_getElem? (i := 159) rfl)) rfl
theorem w400 : (Cond.methodLink "LockHouse$Card" (38 : Nat) ({ cls := "LockHouse$Image", name := "isWhole", desc := "()Z" } : MethodName)) ∈ TT := tt_mem (tb2 (List.mem_of_getElem? (i := 160) rfl)) rfl
theorem w401 : (Cond.instanceMethod ({ cls := "LockHouse$Image", name := "isWhole", desc := "()Z" } : MethodName)) ∈ TT := tt_mem (tb2 (List.mem_of_getElem? (i := 161) rfl)) rfl
theorem w402 : (Cond.selects "LockHouse$Image" ({ cls := "LockHouse$Image", name := "isWhole", desc := "()Z" } : MethodName) ({ cls := "LockHouse$Image", name := "isWhole", desc := "()Z" } : MethodName)) ∈ TT := tt_mem (tb2 (List.mem_of_getElem? (i := 162) rfl)) rfl
theorem w403 : (Cond.code ({ cls := "LockHouse$Image", name := "isWhole", desc := "()Z" } : MethodName) prog_6_method_4_code (1 : Nat) (Option.some FieldType.boolean)) ∈ TT := tt_mem (tb2 (List.mem_of_getElem? (i := 163) rfl)) rfl
theorem w404 : (Cond.methodLink "LockHouse$Image" (13 : Nat) ({ cls := "LockHouse$Image", name := "at", desc := "(I)I" } : MethodName)) ∈ TT := tt_mem (tb2 (List.mem_of_getElem? (i := 164) rfl)) rfl
theorem w405 : (Cond.instanceMethod ({ cls := "LockHouse$Image", name := "at", desc := "(I)I" } : MethodName)) ∈ TT := tt_mem (tb2 (List.mem_of_getElem? (i := 165) rfl)) rfl
theorem w406 : (Cond.selects "LockHouse$Image" ({ cls := "LockHouse$Image", name := "at", desc := "(I)I" } : MethodName) ({ cls := "LockHouse$Image", name := "at", desc := "(I)I" } : MethodName)) ∈ TT := tt_mem (tb2 (List.mem_of_getElem? (i := 166) rfl)) rfl
theorem w407 : (Cond.code ({ cls := "LockHouse$Image", name := "at", desc := "(I)I" } : MethodName) prog_6_method_2_code (2 : Nat) (Option.some FieldType.int)) ∈ TT := tt_mem (tb2 (List.mem_of_getElem? (i := 167) rfl)) rfl
theorem w408 : (Cond.methodLink "LockHouse$Card" (42 : Nat) ({ cls := "LockHouse$Image", name := "sequence", desc := "()I" } : MethodName)) ∈ TT := tt_mem (tb2 (List.mem_of_getElem? (i := 168) rfl)) rfl
theorem w409 : (Cond.instanceMethod ({ cls := "LockHouse$Image", name := "sequence", desc := "()I" } : MethodName)) ∈ TT := tt_mem (tb2 (List.mem_of_getElem? (i := 169) rfl)) rfl
theorem w410 : (Cond.selects "LockHouse$Image" ({ cls := "LockHouse$Image", name := "sequence", desc := "()I" } : MethodName) ({ cls := "LockHouse$Image", name := "sequence", desc := "()I" } : MethodName)) ∈ TT := tt_mem (tb2 (List.mem_of_getElem? (i := 170) rfl)) rfl
theorem w411 : (Cond.code ({ cls := "LockHouse$Image", name := "sequence", desc := "()I" } : MethodName) prog_6_method_5_code (1 : Nat) (Option.some FieldType.int)) ∈ TT := tt_mem (tb2 (List.mem_of_getElem? (i := 171) rfl)) rfl
theorem w412 : (Cond.methodLink "LockHouse$Card" (49 : Nat) ({ cls := "LockHouse$Card", name := "image", desc := "(I)LLockHouse$Image;" } : MethodName)) ∈ TT := tt_mem (tb2 (List.mem_of_getElem? (i := 172) rfl)) rfl
theorem w413 : (Cond.instanceMethod ({ cls := "LockHouse$Card", name := "image", desc := "(I)LLockHouse$Image;" } : MethodName)) ∈ TT := tt_mem (tb2 (List.mem_of_getElem? (i := 173) rfl)) rfl
theorem w414 : (Cond.selects "LockHouse$Card" ({ cls := "LockHouse$Card", name := "image", desc := "(I)LLockHouse$Image;" } : MethodName) ({ cls := "LockHouse$Card", name := "image", desc := "(I)LLockHouse$Image;" } : MethodName)) ∈ TT := tt_mem (tb2 (List.mem_of_getElem? (i := 174) rfl)) rfl
theorem w415 : (Cond.code ({ cls := "LockHouse$Card", name := "image", desc := "(I)LLockHouse$Image;" } : MethodName) prog_2_method_2_code (2 : Nat) (Option.some (FieldType.object "LockHouse$Image"))) ∈ TT := tt_mem (tb2 (List.mem_of_getElem? (i := 175) rfl)) rfl
theorem w416 : (Cond.methodLink "LockHouse$Card" (53 : Nat) ({ cls := "LockHouse$Image", name := "tells", desc := "(III)Z" } : MethodName)) ∈ TT := tt_mem (tb2 (List.mem_of_getElem? (i := 176) rfl)) rfl
theorem w417 : (Cond.instanceMethod ({ cls := "LockHouse$Image", name := "tells", desc := "(III)Z" } : MethodName)) ∈ TT := tt_mem (tb2 (List.mem_of_getElem? (i := 177) rfl)) rfl
theorem w418 : (Cond.selects "LockHouse$Image" ({ cls := "LockHouse$Image", name := "tells", desc := "(III)Z" } : MethodName) ({ cls := "LockHouse$Image", name := "tells", desc := "(III)Z" } : MethodName)) ∈ TT := tt_mem (tb2 (List.mem_of_getElem? (i := 178) rfl)) rfl
theorem w419 : (Cond.code ({ cls := "LockHouse$Image", name := "tells", desc := "(III)Z" } : MethodName) prog_6_method_7_code (4 : Nat) (Option.some FieldType.boolean)) ∈ TT := tt_mem (tb2 (List.mem_of_getElem? (i := 179) rfl)) rfl
theorem w420 : (Cond.methodLink "LockHouse$Image" (17 : Nat) ({ cls := "LockHouse$Image", name := "count", desc := "()I" } : MethodName)) ∈ TT := tt_mem (tb2 (List.mem_of_getElem? (i := 180) rfl)) rfl
theorem w421 : (Cond.instanceMethod ({ cls := "LockHouse$Image", name := "count", desc := "()I" } : MethodName)) ∈ TT := tt_mem (tb2 (List.mem_of_getElem? (i := 181) rfl)) rfl
theorem w422 : (Cond.selects "LockHouse$Image" ({ cls := "LockHouse$Image", name := "count", desc := "()I" } : MethodName) ({ cls := "LockHouse$Image", name := "count", desc := "()I" } : MethodName)) ∈ TT := tt_mem (tb2 (List.mem_of_getElem? (i := 182) rfl)) rfl
theorem w423 : (Cond.code ({ cls := "LockHouse$Image", name := "count", desc := "()I" } : MethodName) prog_6_method_6_code (1 : Nat) (Option.some FieldType.int)) ∈ TT := tt_mem (tb2 (List.mem_of_getElem? (i := 183) rfl)) rfl
theorem w424 : (Cond.methodLink "LockHouse$Card" (57 : Nat) ({ cls := "LockHouse$Card", name := "putNext", desc := "(LLockHouse$Image;II)V" } : MethodName)) ∈ TT := tt_mem (tb2 (List.mem_of_getElem? (i := 184) rfl)) rfl
theorem u425 : (Cond.privateMethod ({ cls := "LockHouse$Card", name := "putNext", desc := "(LLockHouse$Image;II)V" } : MethodName)) ∈ lw_tbl := tb2 (List.mem_of_getElem? (i := 185) rfl)
theorem w426 : (Cond.instanceMethod ({ cls := "LockHouse$Card", name := "putNext", desc := "(LLockHouse$Image;II)V" } : MethodName)) ∈ TT := tt_mem (tb2 (List.mem_of_getElem? (i := 186) rfl)) rfl
theorem w427 : (Cond.code ({ cls := "LockHouse$Card", name := "putNext", desc := "(LLockHouse$Image;II)V" } : MethodName) prog_2_method_6_code (4 : Nat) (Option.none : Option FieldType)) ∈ TT := tt_mem (tb2 (List.mem_of_getElem? (i := 187) rfl)) rfl
theorem w428 : (Cond.methodLink "LockHouse$Card" (67 : Nat) ({ cls := "LockHouse$Image", name := "put", desc := "(II)V" } : MethodName)) ∈ TT := tt_mem (tb2 (List.mem_of_getElem? (i := 188) rfl)) rfl
theorem w429 : (Cond.instanceMethod ({ cls := "LockHouse$Image", name := "put", desc := "(II)V" } : MethodName)) ∈ TT := tt_mem (tb2 (List.mem_of_getElem? (i := 189) rfl)) rfl
theorem w430 : (Cond.selects "LockHouse$Image" ({ cls := "LockHouse$Image", name := "put", desc := "(II)V" } : MethodName) ({ cls := "LockHouse$Image", name := "put", desc := "(II)V" } : MethodName)) ∈ TT := tt_mem (tb2 (List.mem_of_getElem? (i := 190) rfl)) rfl
theorem w431 : (Cond.code ({ cls := "LockHouse$Image", name := "put", desc := "(II)V" } : MethodName) prog_6_method_3_code (3 : Nat) (Option.none : Option FieldType)) ∈ TT := tt_mem (tb2 (List.mem_of_getElem? (i := 191) rfl)) rfl
theorem w432 : (Cond.methodLink "LockHouse$Card" (61 : Nat) ({ cls := "LockHouse$EntryList", name := "cardOf", desc := "(I)I" } : MethodName)) ∈ TT := tt_mem (tb2 (List.mem_of_getElem? (i := 192) rfl)) rfl
theorem w433 : (Cond.instanceMethod ({ cls := "LockHouse$EntryList", name := "cardOf", desc := "(I)I" } : MethodName)) ∈ TT := tt_mem (tb2 (List.mem_of_getElem? (i := 193) rfl)) rfl
theorem w434 : (Cond.selects "LockHouse$EntryList" ({ cls := "LockHouse$EntryList", name := "cardOf", desc := "(I)I" } : MethodName) ({ cls := "LockHouse$EntryList", name := "cardOf", desc := "(I)I" } : MethodName)) ∈ TT := tt_mem (tb2 (List.mem_of_getElem? (i := 194) rfl)) rfl
theorem w435 : (Cond.code ({ cls := "LockHouse$EntryList", name := "cardOf", desc := "(I)I" } : MethodName) prog_5_method_5_code (2 : Nat) (Option.some FieldType.int)) ∈ TT := tt_mem (tb2 (List.mem_of_getElem? (i := 195) rfl)) rfl
theorem w436 : (Cond.methodLink "LockHouse$EntryList" (31 : Nat) ({ cls := "LockHouse$EntryList", name := "holds", desc := "(I)Z" } : MethodName)) ∈ TT := tt_mem (tb2 (List.mem_of_getElem? (i := 196) rfl)) rfl
theorem u437 : (Cond.privateMethod ({ cls := "LockHouse$EntryList", name := "holds", desc := "(I)Z" } : MethodName)) ∈ lw_tbl := tb2 (List.mem_of_getElem? (i := 197) rfl)
theorem w438 : (Cond.instanceMethod ({ cls := "LockHouse$EntryList", name := "holds", desc := "(I)Z" } : MethodName)) ∈ TT := tt_mem (tb2 (List.mem_of_getElem? (i := 198) rfl)) rfl
theorem w439 : (Cond.code ({ cls := "LockHouse$EntryList", name := "holds", desc := "(I)Z" } : MethodName) prog_5_method_4_code (2 : Nat) (Option.some FieldType.boolean)) ∈ TT := tt_mem (tb2 (List.mem_of_getElem? (i := 199) rfl)) rfl
theorem w440 : (Cond.methodLink "LockHouse$EntryList" (35 : Nat) ({ cls := "java/util/ArrayList", name := "get", desc := "(I)Ljava/lang/Object;" } : MethodName)) ∈ TT := tt_mem (tb2 (List.mem_of_getElem? (i := 200) rfl)) rfl
theorem w441 : (Cond.methodLink "LockHouseLaw" (104 : Nat) ({ cls := "LockHouseLaw", name := "zoneOf", desc := "(LLockHouse;II)I" } : MethodName)) ∈ TT := tt_mem (tb2 (List.mem_of_getElem? (i := 201) rfl)) rfl
theorem w442 : (Cond.static ({ cls := "LockHouseLaw", name := "zoneOf", desc := "(LLockHouse;II)I" } : MethodName)) ∈ TT := tt_mem (tb2 (List.mem_of_getElem? (i := 202) rfl)) rfl
theorem w443 : (Cond.codeWith ({ cls := "LockHouseLaw", name := "zoneOf", desc := "(LLockHouse;II)I" } : MethodName) method_6_code (4 : Nat) (Option.some FieldType.int) [((0 : Nat), (6 : Nat), (9 : Nat), (19 : Nat)), ((0 : Nat), (6 : Nat), (12 : Nat), (29 : Nat)), ((0 : Nat), (6 : Nat), (15 : Nat), (13 : Nat))]) ∈ TT := tt_mem (tb2 (List.mem_of_getElem? (i := 203) rfl)) rfl
theorem w444 : (Cond.classLink "LockHouseLaw" (29 : Nat) "java/lang/IllegalArgumentException") ∈ TT := tt_mem (tb2 (List.mem_of_getElem? (i := 204) rfl)) rfl
theorem w445 : (Cond.methodLink "LockHouseLaw" (25 : Nat) ({ cls := "LockHouse", name := "zoneOf", desc := "(II)V" } : MethodName)) ∈ TT := tt_mem (tb2 (List.mem_of_getElem? (i := 205) rfl)) rfl
theorem w446 : (Cond.instanceMethod ({ cls := "LockHouse", name := "zoneOf", desc := "(II)V" } : MethodName)) ∈ TT := tt_mem (tb2 (List.mem_of_getElem? (i := 206) rfl)) rfl
theorem w447 : (Cond.selects "LockHouse" ({ cls := "LockHouse", name := "zoneOf", desc := "(II)V" } : MethodName) ({ cls := "LockHouse", name := "zoneOf", desc := "(II)V" } : MethodName)) ∈ TT := tt_mem (tb2 (List.mem_of_getElem? (i := 207) rfl)) rfl
theorem w448 : (Cond.code ({ cls := "LockHouse", name := "zoneOf", desc := "(II)V" } : MethodName) prog_1_method_7_code (4 : Nat) (Option.none : Option FieldType)) ∈ TT := tt_mem (tb2 (List.mem_of_getElem? (i := 208) rfl)) rfl
theorem w449 : (Cond.methodLink "LockHouse" (95 : Nat) ({ cls := "LockHouse", name := "doorAt", desc := "(I)LLockHouse$Door;" } : MethodName)) ∈ TT := tt_mem (tb2 (List.mem_of_getElem? (i := 209) rfl)) rfl
theorem u450 : (Cond.privateMethod ({ cls := "LockHouse", name := "doorAt", desc := "(I)LLockHouse$Door;" } : MethodName)) ∈ lw_tbl := tb2 (List.mem_of_getElem? (i := 210) rfl)
theorem w451 : (Cond.instanceMethod ({ cls := "LockHouse", name := "doorAt", desc := "(I)LLockHouse$Door;" } : MethodName)) ∈ TT := tt_mem (tb2 (List.mem_of_getElem? (i := 211) rfl)) rfl
theorem w452 : (Cond.code ({ cls := "LockHouse", name := "doorAt", desc := "(I)LLockHouse$Door;" } : MethodName) prog_1_method_24_code (2 : Nat) (Option.some (FieldType.object "LockHouse$Door"))) ∈ TT := tt_mem (tb2 (List.mem_of_getElem? (i := 212) rfl)) rfl
theorem w453 : (Cond.methodLink "LockHouse" (196 : Nat) ({ cls := "LockHouse", name := "isDoor", desc := "(I)Z" } : MethodName)) ∈ TT := tt_mem (tb2 (List.mem_of_getElem? (i := 213) rfl)) rfl
theorem u454 : (Cond.privateMethod ({ cls := "LockHouse", name := "isDoor", desc := "(I)Z" } : MethodName)) ∈ lw_tbl := tb2 (List.mem_of_getElem? (i := 214) rfl)
theorem w455 : (Cond.instanceMethod ({ cls := "LockHouse", name := "isDoor", desc := "(I)Z" } : MethodName)) ∈ TT := tt_mem (tb2 (List.mem_of_getElem? (i := 215) rfl)) rfl
theorem w456 : (Cond.code ({ cls := "LockHouse", name := "isDoor", desc := "(I)Z" } : MethodName) prog_1_method_22_code (2 : Nat) (Option.some FieldType.boolean)) ∈ TT := tt_mem (tb2 (List.mem_of_getElem? (i := 216) rfl)) rfl
theorem u457 : (Cond.stringRef "LockHouse" (209 : Nat) "no such door") ∈ lw_tbl := tb2 (List.mem_of_getElem? (i := 217) rfl)
theorem w458 : (Cond.classLink "LockHouse" (99 : Nat) "java/lang/IllegalArgumentException") ∈ TT := tt_mem (tb2 (List.mem_of_getElem? (i := 218) rfl)) rfl
theorem w459 : (Cond.instantiable "java/lang/IllegalArgumentException" (6 : Nat)) ∈ TT := tt_mem (tb2 (List.mem_of_getElem? (i := 219) rfl)) rfl
theorem u460 : (Cond.castable "java/lang/IllegalArgumentException" "java/lang/IllegalArgumentException") ∈ lw_tbl := tb2 (List.mem_of_getElem? (i := 220) rfl)
theorem w461 : (Cond.selects "java/lang/IllegalArgumentException" ({ cls := "java/lang/Throwable", name := "fillInStackTrace", desc := "(I)Ljava/lang/Throwable;" } : MethodName) ({ cls := "java/lang/Throwable", name := "fillInStackTrace", desc := "(I)Ljava/lang/Throwable;" } : MethodName)) ∈ TT := tt_mem (tb2 (List.mem_of_getElem? (i := 221) rfl)) rfl
theorem w462 : (Cond.lays "java/lang/IllegalArgumentException" "java/lang/Throwable" "cause" "Ljava/lang/Throwable;") ∈ TT := tt_mem (tb2 (List.mem_of_getElem? (i := 222) rfl)) rfl
theorem w463 : (Cond.lays "java/lang/IllegalArgumentException" "java/lang/Throwable" "stackTrace" "[Ljava/lang/StackTraceElement;") ∈ TT := tt_mem (tb2 (List.mem_of_getElem? (i := 223) rfl)) rfl
theorem w464 : (Cond.lays "java/lang/IllegalArgumentException" "java/lang/Throwable" "suppressedExceptions" "Ljava/util/List;") ∈ TT := tt_mem (tb2 (List.mem_of_getElem? (i := 224) rfl)) rfl
theorem w465 : (Cond.lays "java/lang/IllegalArgumentException" "java/lang/Throwable" "detailMessage" "Ljava/lang/String;") ∈ TT := tt_mem (tb2 (List.mem_of_getElem? (i := 225) rfl)) rfl
theorem w466 : (Cond.lays "java/lang/IllegalArgumentException" "java/lang/Throwable" "backtrace" "Ljava/lang/Object;") ∈ TT := tt_mem (tb2 (List.mem_of_getElem? (i := 226) rfl)) rfl
theorem u467 : (Cond.stringRef "LockHouse" (101 : Nat) "no such zone") ∈ lw_tbl := tb2 (List.mem_of_getElem? (i := 227) rfl)
theorem w468 : (Cond.methodLink "LockHouse" (103 : Nat) ({ cls := "java/lang/IllegalArgumentException", name := "<init>", desc := "(Ljava/lang/String;)V" } : MethodName)) ∈ TT := tt_mem (tb2 (List.mem_of_getElem? (i := 228) rfl)) rfl
theorem w469 : (Cond.instanceMethod ({ cls := "java/lang/IllegalArgumentException", name := "<init>", desc := "(Ljava/lang/String;)V" } : MethodName)) ∈ TT := tt_mem (tb2 (List.mem_of_getElem? (i := 229) rfl)) rfl
theorem w470 : (Cond.code ({ cls := "java/lang/IllegalArgumentException", name := "<init>", desc := "(Ljava/lang/String;)V" } : MethodName) prog_12_method_2_code (2 : Nat) (Option.none : Option FieldType)) ∈ TT := tt_mem (tb2 (List.mem_of_getElem? (i := 230) rfl)) rfl
theorem w471 : (Cond.methodLink "java/lang/IllegalArgumentException" (7 : Nat) ({ cls := "java/lang/RuntimeException", name := "<init>", desc := "(Ljava/lang/String;)V" } : MethodName)) ∈ TT := tt_mem (tb2 (List.mem_of_getElem? (i := 231) rfl)) rfl
theorem w472 : (Cond.lays "java/lang/IllegalArgumentException" "java/lang/Throwable" "depth" "I") ∈ TT := tt_mem (tb2 (List.mem_of_getElem? (i := 232) rfl)) rfl
theorem w473 : (Cond.superclass "java/lang/IllegalArgumentException" "java/lang/RuntimeException") ∈ TT := tt_mem (tb2 (List.mem_of_getElem? (i := 233) rfl)) rfl
theorem u474 : (Cond.stringRef "LockHouse" (108 : Nat) "a card was shown there already") ∈ lw_tbl := tb2 (List.mem_of_getElem? (i := 234) rfl)
theorem w475 : (Cond.methodLink "LockHouseLaw" (108 : Nat) ({ cls := "LockHouseLaw", name := "show", desc := "(LLockHouse;III[J)I" } : MethodName)) ∈ TT := tt_mem (tb2 (List.mem_of_getElem? (i := 235) rfl)) rfl
theorem w476 : (Cond.static ({ cls := "LockHouseLaw", name := "show", desc := "(LLockHouse;III[J)I" } : MethodName)) ∈ TT := tt_mem (tb2 (List.mem_of_getElem? (i := 236) rfl)) rfl
theorem w477 : (Cond.codeWith ({ cls := "LockHouseLaw", name := "show", desc := "(LLockHouse;III[J)I" } : MethodName) method_7_code (6 : Nat) (Option.some FieldType.int) [((0 : Nat), (12 : Nat), (15 : Nat), (19 : Nat))]) ∈ TT := tt_mem (tb2 (List.mem_of_getElem? (i := 237) rfl)) rfl
theorem w478 : (Cond.methodLink "LockHouseLaw" (31 : Nat) ({ cls := "LockHouse", name := "show", desc := "(III)I" } : MethodName)) ∈ TT := tt_mem (tb2 (List.mem_of_getElem? (i := 238) rfl)) rfl
theorem w479 : (Cond.instanceMethod ({ cls := "LockHouse", name := "show", desc := "(III)I" } : MethodName)) ∈ TT := tt_mem (tb2 (List.mem_of_getElem? (i := 239) rfl)) rfl
theorem w480 : (Cond.selects "LockHouse" ({ cls := "LockHouse", name := "show", desc := "(III)I" } : MethodName) ({ cls := "LockHouse", name := "show", desc := "(III)I" } : MethodName)) ∈ TT := tt_mem (tb3 (List.mem_of_getElem? (i := 0) rfl)) rfl
theorem w481 : (Cond.code ({ cls := "LockHouse", name := "show", desc := "(III)I" } : MethodName) prog_1_method_8_code (6 : Nat) (Option.some FieldType.int)) ∈ TT := tt_mem (tb3 (List.mem_of_getElem? (i := 1) rfl)) rfl
theorem w482 : (Cond.methodLink "LockHouse" (113 : Nat) ({ cls := "LockHouse", name := "present", desc := "(LLockHouse$Card;LLockHouse$Door;I)I" } : MethodName)) ∈ TT := tt_mem (tb3 (List.mem_of_getElem? (i := 2) rfl)) rfl
theorem u483 : (Cond.privateMethod ({ cls := "LockHouse", name := "present", desc := "(LLockHouse$Card;LLockHouse$Door;I)I" } : MethodName)) ∈ lw_tbl := tb3 (List.mem_of_getElem? (i := 3) rfl)
theorem w484 : (Cond.instanceMethod ({ cls := "LockHouse", name := "present", desc := "(LLockHouse$Card;LLockHouse$Door;I)I" } : MethodName)) ∈ TT := tt_mem (tb3 (List.mem_of_getElem? (i := 4) rfl)) rfl
theorem w485 : (Cond.code ({ cls := "LockHouse", name := "present", desc := "(LLockHouse$Card;LLockHouse$Door;I)I" } : MethodName) prog_1_method_25_code (5 : Nat) (Option.some FieldType.int)) ∈ TT := tt_mem (tb3 (List.mem_of_getElem? (i := 5) rfl)) rfl
theorem w486 : (Cond.methodLink "LockHouse" (142 : Nat) ({ cls := "LockHouse$Card", name := "current", desc := "()LLockHouse$Image;" } : MethodName)) ∈ TT := tt_mem (tb3 (List.mem_of_getElem? (i := 6) rfl)) rfl
theorem w487 : (Cond.instanceMethod ({ cls := "LockHouse$Card", name := "current", desc := "()LLockHouse$Image;" } : MethodName)) ∈ TT := tt_mem (tb3 (List.mem_of_getElem? (i := 7) rfl)) rfl
theorem w488 : (Cond.selects "LockHouse$Card" ({ cls := "LockHouse$Card", name := "current", desc := "()LLockHouse$Image;" } : MethodName) ({ cls := "LockHouse$Card", name := "current", desc := "()LLockHouse$Image;" } : MethodName)) ∈ TT := tt_mem (tb3 (List.mem_of_getElem? (i := 8) rfl)) rfl
theorem w489 : (Cond.code ({ cls := "LockHouse$Card", name := "current", desc := "()LLockHouse$Image;" } : MethodName) prog_2_method_4_code (1 : Nat) (Option.some (FieldType.object "LockHouse$Image"))) ∈ TT := tt_mem (tb3 (List.mem_of_getElem? (i := 9) rfl)) rfl
theorem w490 : (Cond.methodLink "LockHouse" (211 : Nat) ({ cls := "LockHouse$Door", name := "take", desc := "(LLockHouse$Image;LLockHouse$EntryList;)V" } : MethodName)) ∈ TT := tt_mem (tb3 (List.mem_of_getElem? (i := 10) rfl)) rfl
theorem w491 : (Cond.instanceMethod ({ cls := "LockHouse$Door", name := "take", desc := "(LLockHouse$Image;LLockHouse$EntryList;)V" } : MethodName)) ∈ TT := tt_mem (tb3 (List.mem_of_getElem? (i := 11) rfl)) rfl
theorem w492 : (Cond.selects "LockHouse$Door" ({ cls := "LockHouse$Door", name := "take", desc := "(LLockHouse$Image;LLockHouse$EntryList;)V" } : MethodName) ({ cls := "LockHouse$Door", name := "take", desc := "(LLockHouse$Image;LLockHouse$EntryList;)V" } : MethodName)) ∈ TT := tt_mem (tb3 (List.mem_of_getElem? (i := 12) rfl)) rfl
theorem w493 : (Cond.code ({ cls := "LockHouse$Door", name := "take", desc := "(LLockHouse$Image;LLockHouse$EntryList;)V" } : MethodName) prog_3_method_3_code (6 : Nat) (Option.none : Option FieldType)) ∈ TT := tt_mem (tb3 (List.mem_of_getElem? (i := 13) rfl)) rfl
theorem w494 : (Cond.methodLink "LockHouse$Door" (36 : Nat) ({ cls := "LockHouse$Image", name := "at", desc := "(I)I" } : MethodName)) ∈ TT := tt_mem (tb3 (List.mem_of_getElem? (i := 14) rfl)) rfl
theorem w495 : (Cond.methodLink "LockHouse$Door" (40 : Nat) ({ cls := "LockHouse$Image", name := "count", desc := "()I" } : MethodName)) ∈ TT := tt_mem (tb3 (List.mem_of_getElem? (i := 15) rfl)) rfl
theorem w496 : (Cond.methodLink "LockHouse$Door" (44 : Nat) ({ cls := "LockHouse$EntryList", name := "bringTo", desc := "(II)V" } : MethodName)) ∈ TT := tt_mem (tb3 (List.mem_of_getElem? (i := 16) rfl)) rfl
theorem w497 : (Cond.instanceMethod ({ cls := "LockHouse$EntryList", name := "bringTo", desc := "(II)V" } : MethodName)) ∈ TT := tt_mem (tb3 (List.mem_of_getElem? (i := 17) rfl)) rfl
theorem w498 : (Cond.selects "LockHouse$EntryList" ({ cls := "LockHouse$EntryList", name := "bringTo", desc := "(II)V" } : MethodName) ({ cls := "LockHouse$EntryList", name := "bringTo", desc := "(II)V" } : MethodName)) ∈ TT := tt_mem (tb3 (List.mem_of_getElem? (i := 18) rfl)) rfl
theorem w499 : (Cond.code ({ cls := "LockHouse$EntryList", name := "bringTo", desc := "(II)V" } : MethodName) prog_5_method_7_code (3 : Nat) (Option.none : Option FieldType)) ∈ TT := tt_mem (tb3 (List.mem_of_getElem? (i := 19) rfl)) rfl
theorem w500 : (Cond.methodLink "LockHouse$EntryList" (46 : Nat) ({ cls := "LockHouse$Entry", name := "bringTo", desc := "(I)V" } : MethodName)) ∈ TT := tt_mem (tb3 (List.mem_of_getElem? (i := 20) rfl)) rfl
theorem w501 : (Cond.instanceMethod ({ cls := "LockHouse$Entry", name := "bringTo", desc := "(I)V" } : MethodName)) ∈ TT := tt_mem (tb3 (List.mem_of_getElem? (i := 21) rfl)) rfl
theorem w502 : (Cond.selects "LockHouse$Entry" ({ cls := "LockHouse$Entry", name := "bringTo", desc := "(I)V" } : MethodName) ({ cls := "LockHouse$Entry", name := "bringTo", desc := "(I)V" } : MethodName)) ∈ TT := tt_mem (tb3 (List.mem_of_getElem? (i := 22) rfl)) rfl
theorem w503 : (Cond.code ({ cls := "LockHouse$Entry", name := "bringTo", desc := "(I)V" } : MethodName) prog_4_method_3_code (2 : Nat) (Option.none : Option FieldType)) ∈ TT := tt_mem (tb3 (List.mem_of_getElem? (i := 23) rfl)) rfl
theorem w504 : (Cond.methodLink "LockHouse$Door" (48 : Nat) ({ cls := "java/lang/Math", name := "max", desc := "(II)I" } : MethodName)) ∈ TT := tt_mem (tb3 (List.mem_of_getElem? (i := 24) rfl)) rfl
theorem w505 : (Cond.methodLink "LockHouse" (215 : Nat) ({ cls := "LockHouse$Door", name := "judge", desc := "(LLockHouse$Card;ILLockHouse$EntryList;)I" } : MethodName)) ∈ TT := tt_mem (tb3 (List.mem_of_getElem? (i := 25) rfl)) rfl
theorem w506 : (Cond.instanceMethod ({ cls := "LockHouse$Door", name := "judge", desc := "(LLockHouse$Card;ILLockHouse$EntryList;)I" } : MethodName)) ∈ TT := tt_mem (tb3 (List.mem_of_getElem? (i := 26) rfl)) rfl
theorem w507 : (Cond.selects "LockHouse$Door" ({ cls := "LockHouse$Door", name := "judge", desc := "(LLockHouse$Card;ILLockHouse$EntryList;)I" } : MethodName) ({ cls := "LockHouse$Door", name := "judge", desc := "(LLockHouse$Card;ILLockHouse$EntryList;)I" } : MethodName)) ∈ TT := tt_mem (tb3 (List.mem_of_getElem? (i := 27) rfl)) rfl
theorem w508 : (Cond.code ({ cls := "LockHouse$Door", name := "judge", desc := "(LLockHouse$Card;ILLockHouse$EntryList;)I" } : MethodName) prog_3_method_4_code (4 : Nat) (Option.some FieldType.int)) ∈ TT := tt_mem (tb3 (List.mem_of_getElem? (i := 28) rfl)) rfl
theorem w509 : (Cond.methodLink "LockHouse$Door" (59 : Nat) ({ cls := "LockHouse$Door", name := "has", desc := "(ILLockHouse$EntryList;)Z" } : MethodName)) ∈ TT := tt_mem (tb3 (List.mem_of_getElem? (i := 29) rfl)) rfl
theorem w510 : (Cond.instanceMethod ({ cls := "LockHouse$Door", name := "has", desc := "(ILLockHouse$EntryList;)Z" } : MethodName)) ∈ TT := tt_mem (tb3 (List.mem_of_getElem? (i := 30) rfl)) rfl
theorem w511 : (Cond.selects "LockHouse$Door" ({ cls := "LockHouse$Door", name := "has", desc := "(ILLockHouse$EntryList;)Z" } : MethodName) ({ cls := "LockHouse$Door", name := "has", desc := "(ILLockHouse$EntryList;)Z" } : MethodName)) ∈ TT := tt_mem (tb3 (List.mem_of_getElem? (i := 31) rfl)) rfl
theorem w512 : (Cond.code ({ cls := "LockHouse$Door", name := "has", desc := "(ILLockHouse$EntryList;)Z" } : MethodName) prog_3_method_2_code (3 : Nat) (Option.some FieldType.boolean)) ∈ TT := tt_mem (tb3 (List.mem_of_getElem? (i := 32) rfl)) rfl
theorem w513 : (Cond.methodLink "LockHouse$Door" (28 : Nat) ({ cls := "LockHouse$EntryList", name := "isAt", desc := "(II)Z" } : MethodName)) ∈ TT := tt_mem (tb3 (List.mem_of_getElem? (i := 33) rfl)) rfl
theorem w514 : (Cond.instanceMethod ({ cls := "LockHouse$EntryList", name := "isAt", desc := "(II)Z" } : MethodName)) ∈ TT := tt_mem (tb3 (List.mem_of_getElem? (i := 34) rfl)) rfl
theorem w515 : (Cond.selects "LockHouse$EntryList" ({ cls := "LockHouse$EntryList", name := "isAt", desc := "(II)Z" } : MethodName) ({ cls := "LockHouse$EntryList", name := "isAt", desc := "(II)Z" } : MethodName)) ∈ TT := tt_mem (tb3 (List.mem_of_getElem? (i := 35) rfl)) rfl
theorem w516 : (Cond.code ({ cls := "LockHouse$EntryList", name := "isAt", desc := "(II)Z" } : MethodName) prog_5_method_6_code (3 : Nat) (Option.some FieldType.boolean)) ∈ TT := tt_mem (tb3 (List.mem_of_getElem? (i := 36) rfl)) rfl
theorem w517 : (Cond.methodLink "LockHouse$EntryList" (43 : Nat) ({ cls := "LockHouse$Entry", name := "isAt", desc := "(I)Z" } : MethodName)) ∈ TT := tt_mem (tb3 (List.mem_of_getElem? (i := 37) rfl)) rfl
theorem w518 : (Cond.instanceMethod ({ cls := "LockHouse$Entry", name := "isAt", desc := "(I)Z" } : MethodName)) ∈ TT := tt_mem (tb3 (List.mem_of_getElem? (i := 38) rfl)) rfl
theorem w519 : (Cond.selects "LockHouse$Entry" ({ cls := "LockHouse$Entry", name := "isAt", desc := "(I)Z" } : MethodName) ({ cls := "LockHouse$Entry", name := "isAt", desc := "(I)Z" } : MethodName)) ∈ TT := tt_mem (tb3 (List.mem_of_getElem? (i := 39) rfl)) rfl
theorem w520 : (Cond.code ({ cls := "LockHouse$Entry", name := "isAt", desc := "(I)Z" } : MethodName) prog_4_method_2_code (2 : Nat) (Option.some FieldType.boolean)) ∈ TT := tt_mem (tb3 (List.mem_of_getElem? (i := 40) rfl)) rfl
theorem w521 : (Cond.methodLink "LockHouse$Door" (66 : Nat) ({ cls := "LockHouse$Card", name := "opens", desc := "(I)Z" } : MethodName)) ∈ TT := tt_mem (tb3 (List.mem_of_getElem? (i := 41) rfl)) rfl
theorem w522 : (Cond.instanceMethod ({ cls := "LockHouse$Card", name := "opens", desc := "(I)Z" } : MethodName)) ∈ TT := tt_mem (tb3 (List.mem_of_getElem? (i := 42) rfl)) rfl
theorem w523 : (Cond.selects "LockHouse$Card" ({ cls := "LockHouse$Card", name := "opens", desc := "(I)Z" } : MethodName) ({ cls := "LockHouse$Card", name := "opens", desc := "(I)Z" } : MethodName)) ∈ TT := tt_mem (tb3 (List.mem_of_getElem? (i := 43) rfl)) rfl
theorem w524 : (Cond.code ({ cls := "LockHouse$Card", name := "opens", desc := "(I)Z" } : MethodName) prog_2_method_7_code (2 : Nat) (Option.some FieldType.boolean)) ∈ TT := tt_mem (tb3 (List.mem_of_getElem? (i := 44) rfl)) rfl
theorem w525 : (Cond.methodLink "LockHouse" (219 : Nat) ({ cls := "LockHouse$Door", name := "pass", desc := "(LLockHouse$Card;LLockHouse$EntryList;)V" } : MethodName)) ∈ TT := tt_mem (tb3 (List.mem_of_getElem? (i := 45) rfl)) rfl
theorem w526 : (Cond.instanceMethod ({ cls := "LockHouse$Door", name := "pass", desc := "(LLockHouse$Card;LLockHouse$EntryList;)V" } : MethodName)) ∈ TT := tt_mem (tb3 (List.mem_of_getElem? (i := 46) rfl)) rfl
theorem w527 : (Cond.selects "LockHouse$Door" ({ cls := "LockHouse$Door", name := "pass", desc := "(LLockHouse$Card;LLockHouse$EntryList;)V" } : MethodName) ({ cls := "LockHouse$Door", name := "pass", desc := "(LLockHouse$Card;LLockHouse$EntryList;)V" } : MethodName)) ∈ TT := tt_mem (tb3 (List.mem_of_getElem? (i := 47) rfl)) rfl
theorem w528 : (Cond.code ({ cls := "LockHouse$Door", name := "pass", desc := "(LLockHouse$Card;LLockHouse$EntryList;)V" } : MethodName) prog_3_method_5_code (4 : Nat) (Option.none : Option FieldType)) ∈ TT := tt_mem (tb3 (List.mem_of_getElem? (i := 48) rfl)) rfl
theorem w529 : (Cond.methodLink "LockHouse$Door" (70 : Nat) ({ cls := "LockHouse$Card", name := "current", desc := "()LLockHouse$Image;" } : MethodName)) ∈ TT := tt_mem (tb3 (List.mem_of_getElem? (i := 49) rfl)) rfl
theorem w530 : (Cond.methodLink "LockHouse$Door" (74 : Nat) ({ cls := "LockHouse$Card", name := "store", desc := "(IIILLockHouse$EntryList;)V" } : MethodName)) ∈ TT := tt_mem (tb3 (List.mem_of_getElem? (i := 50) rfl)) rfl
theorem w531 : (Cond.methodLink "LockHouseLaw" (112 : Nat) ({ cls := "LockHouseLaw", name := "tear", desc := "(LLockHouse;II)I" } : MethodName)) ∈ TT := tt_mem (tb3 (List.mem_of_getElem? (i := 51) rfl)) rfl
theorem w532 : (Cond.static ({ cls := "LockHouseLaw", name := "tear", desc := "(LLockHouse;II)I" } : MethodName)) ∈ TT := tt_mem (tb3 (List.mem_of_getElem? (i := 52) rfl)) rfl
theorem w533 : (Cond.codeWith ({ cls := "LockHouseLaw", name := "tear", desc := "(LLockHouse;II)I" } : MethodName) method_8_code (4 : Nat) (Option.some FieldType.int) [((0 : Nat), (6 : Nat), (9 : Nat), (19 : Nat)), ((0 : Nat), (6 : Nat), (12 : Nat), (29 : Nat))]) ∈ TT := tt_mem (tb3 (List.mem_of_getElem? (i := 53) rfl)) rfl
theorem w534 : (Cond.methodLink "LockHouseLaw" (35 : Nat) ({ cls := "LockHouse", name := "tear", desc := "(II)V" } : MethodName)) ∈ TT := tt_mem (tb3 (List.mem_of_getElem? (i := 54) rfl)) rfl
theorem w535 : (Cond.instanceMethod ({ cls := "LockHouse", name := "tear", desc := "(II)V" } : MethodName)) ∈ TT := tt_mem (tb3 (List.mem_of_getElem? (i := 55) rfl)) rfl
theorem w536 : (Cond.selects "LockHouse" ({ cls := "LockHouse", name := "tear", desc := "(II)V" } : MethodName) ({ cls := "LockHouse", name := "tear", desc := "(II)V" } : MethodName)) ∈ TT := tt_mem (tb3 (List.mem_of_getElem? (i := 56) rfl)) rfl
theorem w537 : (Cond.code ({ cls := "LockHouse", name := "tear", desc := "(II)V" } : MethodName) prog_1_method_9_code (4 : Nat) (Option.none : Option FieldType)) ∈ TT := tt_mem (tb3 (List.mem_of_getElem? (i := 57) rfl)) rfl
theorem u538 : (Cond.stringRef "LockHouse" (117 : Nat) "no such number of words") ∈ lw_tbl := tb3 (List.mem_of_getElem? (i := 58) rfl)
theorem w539 : (Cond.methodLink "LockHouseLaw" (115 : Nat) ({ cls := "LockHouseLaw", name := "written", desc := "(LLockHouse;I[J)I" } : MethodName)) ∈ TT := tt_mem (tb3 (List.mem_of_getElem? (i := 59) rfl)) rfl
theorem w540 : (Cond.static ({ cls := "LockHouseLaw", name := "written", desc := "(LLockHouse;I[J)I" } : MethodName)) ∈ TT := tt_mem (tb3 (List.mem_of_getElem? (i := 60) rfl)) rfl
theorem w541 : (Cond.codeWith ({ cls := "LockHouseLaw", name := "written", desc := "(LLockHouse;I[J)I" } : MethodName) method_9_code (4 : Nat) (Option.some FieldType.int) [((0 : Nat), (9 : Nat), (12 : Nat), (19 : Nat))]) ∈ TT := tt_mem (tb3 (List.mem_of_getElem? (i := 61) rfl)) rfl
theorem w542 : (Cond.methodLink "LockHouseLaw" (38 : Nat) ({ cls := "LockHouse", name := "written", desc := "(I)I" } : MethodName)) ∈ TT := tt_mem (tb3 (List.mem_of_getElem? (i := 62) rfl)) rfl
theorem w543 : (Cond.instanceMethod ({ cls := "LockHouse", name := "written", desc := "(I)I" } : MethodName)) ∈ TT := tt_mem (tb3 (List.mem_of_getElem? (i := 63) rfl)) rfl
theorem w544 : (Cond.selects "LockHouse" ({ cls := "LockHouse", name := "written", desc := "(I)I" } : MethodName) ({ cls := "LockHouse", name := "written", desc := "(I)I" } : MethodName)) ∈ TT := tt_mem (tb3 (List.mem_of_getElem? (i := 64) rfl)) rfl
theorem w545 : (Cond.code ({ cls := "LockHouse", name := "written", desc := "(I)I" } : MethodName) prog_1_method_10_code (2 : Nat) (Option.some FieldType.int)) ∈ TT := tt_mem (tb3 (List.mem_of_getElem? (i := 65) rfl)) rfl
theorem w546 : (Cond.methodLink "LockHouseLaw" (118 : Nat) ({ cls := "LockHouseLaw", name := "word", desc := "(LLockHouse;III[J)I" } : MethodName)) ∈ TT := tt_mem (tb3 (List.mem_of_getElem? (i := 66) rfl)) rfl
theorem w547 : (Cond.static ({ cls := "LockHouseLaw", name := "word", desc := "(LLockHouse;III[J)I" } : MethodName)) ∈ TT := tt_mem (tb3 (List.mem_of_getElem? (i := 67) rfl)) rfl
theorem w548 : (Cond.codeWith ({ cls := "LockHouseLaw", name := "word", desc := "(LLockHouse;III[J)I" } : MethodName) method_10_code (6 : Nat) (Option.some FieldType.int) [((0 : Nat), (12 : Nat), (15 : Nat), (19 : Nat))]) ∈ TT := tt_mem (tb3 (List.mem_of_getElem? (i := 68) rfl)) rfl
theorem w549 : (Cond.methodLink "LockHouseLaw" (41 : Nat) ({ cls := "LockHouse", name := "word", desc := "(III)I" } : MethodName)) ∈ TT := tt_mem (tb3 (List.mem_of_getElem? (i := 69) rfl)) rfl
theorem w550 : (Cond.instanceMethod ({ cls := "LockHouse", name := "word", desc := "(III)I" } : MethodName)) ∈ TT := tt_mem (tb3 (List.mem_of_getElem? (i := 70) rfl)) rfl
theorem w551 : (Cond.selects "LockHouse" ({ cls := "LockHouse", name := "word", desc := "(III)I" } : MethodName) ({ cls := "LockHouse", name := "word", desc := "(III)I" } : MethodName)) ∈ TT := tt_mem (tb3 (List.mem_of_getElem? (i := 71) rfl)) rfl
theorem w552 : (Cond.code ({ cls := "LockHouse", name := "word", desc := "(III)I" } : MethodName) prog_1_method_11_code (5 : Nat) (Option.some FieldType.int)) ∈ TT := tt_mem (tb3 (List.mem_of_getElem? (i := 72) rfl)) rfl
theorem u553 : (Cond.stringRef "LockHouse" (129 : Nat) "no such word") ∈ lw_tbl := tb3 (List.mem_of_getElem? (i := 73) rfl)
theorem w554 : (Cond.methodLink "LockHouse" (132 : Nat) ({ cls := "LockHouse$Card", name := "image", desc := "(I)LLockHouse$Image;" } : MethodName)) ∈ TT := tt_mem (tb3 (List.mem_of_getElem? (i := 74) rfl)) rfl
theorem w555 : (Cond.methodLink "LockHouse" (136 : Nat) ({ cls := "LockHouse$Image", name := "at", desc := "(I)I" } : MethodName)) ∈ TT := tt_mem (tb3 (List.mem_of_getElem? (i := 75) rfl)) rfl
theorem w556 : (Cond.methodLink "LockHouseLaw" (121 : Nat) ({ cls := "LockHouseLaw", name := "carries", desc := "(LLockHouse;II[J)I" } : MethodName)) ∈ TT := tt_mem (tb3 (List.mem_of_getElem? (i := 76) rfl)) rfl
theorem w557 : (Cond.static ({ cls := "LockHouseLaw", name := "carries", desc := "(LLockHouse;II[J)I" } : MethodName)) ∈ TT := tt_mem (tb3 (List.mem_of_getElem? (i := 77) rfl)) rfl
theorem w558 : (Cond.codeWith ({ cls := "LockHouseLaw", name := "carries", desc := "(LLockHouse;II[J)I" } : MethodName) method_11_code (5 : Nat) (Option.some FieldType.int) [((0 : Nat), (10 : Nat), (13 : Nat), (19 : Nat)), ((0 : Nat), (10 : Nat), (17 : Nat), (29 : Nat))]) ∈ TT := tt_mem (tb3 (List.mem_of_getElem? (i := 78) rfl)) rfl
theorem w559 : (Cond.methodLink "LockHouseLaw" (44 : Nat) ({ cls := "LockHouse", name := "carries", desc := "(II)I" } : MethodName)) ∈ TT := tt_mem (tb3 (List.mem_of_getElem? (i := 79) rfl)) rfl
theorem w560 : (Cond.instanceMethod ({ cls := "LockHouse", name := "carries", desc := "(II)I" } : MethodName)) ∈ TT := tt_mem (tb3 (List.mem_of_getElem? (i := 80) rfl)) rfl
theorem w561 : (Cond.selects "LockHouse" ({ cls := "LockHouse", name := "carries", desc := "(II)I" } : MethodName) ({ cls := "LockHouse", name := "carries", desc := "(II)I" } : MethodName)) ∈ TT := tt_mem (tb3 (List.mem_of_getElem? (i := 81) rfl)) rfl
theorem w562 : (Cond.code ({ cls := "LockHouse", name := "carries", desc := "(II)I" } : MethodName) prog_1_method_12_code (4 : Nat) (Option.some FieldType.int)) ∈ TT := tt_mem (tb3 (List.mem_of_getElem? (i := 82) rfl)) rfl
theorem w563 : (Cond.methodLink "LockHouse" (139 : Nat) ({ cls := "LockHouse$Card", name := "currentIndex", desc := "()I" } : MethodName)) ∈ TT := tt_mem (tb3 (List.mem_of_getElem? (i := 83) rfl)) rfl
theorem w564 : (Cond.methodLink "LockHouse" (146 : Nat) ({ cls := "LockHouse$Image", name := "count", desc := "()I" } : MethodName)) ∈ TT := tt_mem (tb3 (List.mem_of_getElem? (i := 84) rfl)) rfl
theorem u565 : (Cond.stringRef "LockHouse" (149 : Nat) "a card carries no such thing") ∈ lw_tbl := tb3 (List.mem_of_getElem? (i := 85) rfl)
theorem w566 : (Cond.methodLink "LockHouseLaw" (124 : Nat) ({ cls := "LockHouseLaw", name := "memory", desc := "(LLockHouse;II[J)I" } : MethodName)) ∈ TT := tt_mem (tb3 (List.mem_of_getElem? (i := 86) rfl)) rfl
theorem w567 : (Cond.static ({ cls := "LockHouseLaw", name := "memory", desc := "(LLockHouse;II[J)I" } : MethodName)) ∈ TT := tt_mem (tb3 (List.mem_of_getElem? (i := 87) rfl)) rfl
theorem w568 : (Cond.codeWith ({ cls := "LockHouseLaw", name := "memory", desc := "(LLockHouse;II[J)I" } : MethodName) method_12_code (5 : Nat) (Option.some FieldType.int) [((0 : Nat), (10 : Nat), (13 : Nat), (19 : Nat))]) ∈ TT := tt_mem (tb3 (List.mem_of_getElem? (i := 88) rfl)) rfl
theorem w569 : (Cond.methodLink "LockHouseLaw" (47 : Nat) ({ cls := "LockHouse", name := "memory", desc := "(II)I" } : MethodName)) ∈ TT := tt_mem (tb3 (List.mem_of_getElem? (i := 89) rfl)) rfl
theorem w570 : (Cond.instanceMethod ({ cls := "LockHouse", name := "memory", desc := "(II)I" } : MethodName)) ∈ TT := tt_mem (tb3 (List.mem_of_getElem? (i := 90) rfl)) rfl
theorem w571 : (Cond.selects "LockHouse" ({ cls := "LockHouse", name := "memory", desc := "(II)I" } : MethodName) ({ cls := "LockHouse", name := "memory", desc := "(II)I" } : MethodName)) ∈ TT := tt_mem (tb3 (List.mem_of_getElem? (i := 91) rfl)) rfl
theorem w572 : (Cond.code ({ cls := "LockHouse", name := "memory", desc := "(II)I" } : MethodName) prog_1_method_13_code (4 : Nat) (Option.some FieldType.int)) ∈ TT := tt_mem (tb3 (List.mem_of_getElem? (i := 92) rfl)) rfl
theorem u573 : (Cond.stringRef "LockHouse" (151 : Nat) "no such entry on the card") ∈ lw_tbl := tb3 (List.mem_of_getElem? (i := 93) rfl)
theorem w574 : (Cond.methodLink "LockHouseLaw" (127 : Nat) ({ cls := "LockHouseLaw", name := "about", desc := "(LLockHouse;II[J)I" } : MethodName)) ∈ TT := tt_mem (tb3 (List.mem_of_getElem? (i := 94) rfl)) rfl
theorem w575 : (Cond.static ({ cls := "LockHouseLaw", name := "about", desc := "(LLockHouse;II[J)I" } : MethodName)) ∈ TT := tt_mem (tb3 (List.mem_of_getElem? (i := 95) rfl)) rfl
theorem w576 : (Cond.codeWith ({ cls := "LockHouseLaw", name := "about", desc := "(LLockHouse;II[J)I" } : MethodName) method_13_code (5 : Nat) (Option.some FieldType.int) [((0 : Nat), (10 : Nat), (13 : Nat), (19 : Nat)), ((0 : Nat), (10 : Nat), (17 : Nat), (29 : Nat))]) ∈ TT := tt_mem (tb3 (List.mem_of_getElem? (i := 96) rfl)) rfl
theorem w577 : (Cond.methodLink "LockHouseLaw" (50 : Nat) ({ cls := "LockHouse", name := "about", desc := "(II)I" } : MethodName)) ∈ TT := tt_mem (tb3 (List.mem_of_getElem? (i := 97) rfl)) rfl
theorem w578 : (Cond.instanceMethod ({ cls := "LockHouse", name := "about", desc := "(II)I" } : MethodName)) ∈ TT := tt_mem (tb3 (List.mem_of_getElem? (i := 98) rfl)) rfl
theorem w579 : (Cond.selects "LockHouse" ({ cls := "LockHouse", name := "about", desc := "(II)I" } : MethodName) ({ cls := "LockHouse", name := "about", desc := "(II)I" } : MethodName)) ∈ TT := tt_mem (tb3 (List.mem_of_getElem? (i := 99) rfl)) rfl
theorem w580 : (Cond.code ({ cls := "LockHouse", name := "about", desc := "(II)I" } : MethodName) prog_1_method_14_code (4 : Nat) (Option.some FieldType.int)) ∈ TT := tt_mem (tb3 (List.mem_of_getElem? (i := 100) rfl)) rfl
theorem w581 : (Cond.methodLink "LockHouse" (153 : Nat) ({ cls := "LockHouse$Door", name := "complete", desc := "(LLockHouse$EntryList;)I" } : MethodName)) ∈ TT := tt_mem (tb3 (List.mem_of_getElem? (i := 101) rfl)) rfl
theorem w582 : (Cond.instanceMethod ({ cls := "LockHouse$Door", name := "complete", desc := "(LLockHouse$EntryList;)I" } : MethodName)) ∈ TT := tt_mem (tb3 (List.mem_of_getElem? (i := 102) rfl)) rfl
theorem w583 : (Cond.selects "LockHouse$Door" ({ cls := "LockHouse$Door", name := "complete", desc := "(LLockHouse$EntryList;)I" } : MethodName) ({ cls := "LockHouse$Door", name := "complete", desc := "(LLockHouse$EntryList;)I" } : MethodName)) ∈ TT := tt_mem (tb3 (List.mem_of_getElem? (i := 103) rfl)) rfl
theorem w584 : (Cond.code ({ cls := "LockHouse$Door", name := "complete", desc := "(LLockHouse$EntryList;)I" } : MethodName) prog_3_method_6_code (2 : Nat) (Option.some FieldType.int)) ∈ TT := tt_mem (tb3 (List.mem_of_getElem? (i := 104) rfl)) rfl
theorem w585 : (Cond.methodLink "LockHouse$Door" (78 : Nat) ({ cls := "LockHouse$Door", name := "endOfRun", desc := "(ILLockHouse$EntryList;)I" } : MethodName)) ∈ TT := tt_mem (tb3 (List.mem_of_getElem? (i := 105) rfl)) rfl
theorem w586 : (Cond.instanceMethod ({ cls := "LockHouse$Door", name := "endOfRun", desc := "(ILLockHouse$EntryList;)I" } : MethodName)) ∈ TT := tt_mem (tb3 (List.mem_of_getElem? (i := 106) rfl)) rfl
theorem w587 : (Cond.selects "LockHouse$Door" ({ cls := "LockHouse$Door", name := "endOfRun", desc := "(ILLockHouse$EntryList;)I" } : MethodName) ({ cls := "LockHouse$Door", name := "endOfRun", desc := "(ILLockHouse$EntryList;)I" } : MethodName)) ∈ TT := tt_mem (tb3 (List.mem_of_getElem? (i := 107) rfl)) rfl
theorem w588 : (Cond.code ({ cls := "LockHouse$Door", name := "endOfRun", desc := "(ILLockHouse$EntryList;)I" } : MethodName) prog_3_method_10_code (4 : Nat) (Option.some FieldType.int)) ∈ TT := tt_mem (tb3 (List.mem_of_getElem? (i := 108) rfl)) rfl
theorem w589 : (Cond.methodLink "LockHouse$Door" (82 : Nat) ({ cls := "LockHouse$EntryList", name := "made", desc := "()I" } : MethodName)) ∈ TT := tt_mem (tb3 (List.mem_of_getElem? (i := 109) rfl)) rfl
theorem w590 : (Cond.methodLink "LockHouse" (163 : Nat) ({ cls := "java/lang/Math", name := "max", desc := "(II)I" } : MethodName)) ∈ TT := tt_mem (tb3 (List.mem_of_getElem? (i := 110) rfl)) rfl
theorem w591 : (Cond.methodLink "LockHouse" (166 : Nat) ({ cls := "LockHouse$Door", name := "countEntries", desc := "(LLockHouse$EntryList;)I" } : MethodName)) ∈ TT := tt_mem (tb3 (List.mem_of_getElem? (i := 111) rfl)) rfl
theorem w592 : (Cond.instanceMethod ({ cls := "LockHouse$Door", name := "countEntries", desc := "(LLockHouse$EntryList;)I" } : MethodName)) ∈ TT := tt_mem (tb3 (List.mem_of_getElem? (i := 112) rfl)) rfl
theorem w593 : (Cond.selects "LockHouse$Door" ({ cls := "LockHouse$Door", name := "countEntries", desc := "(LLockHouse$EntryList;)I" } : MethodName) ({ cls := "LockHouse$Door", name := "countEntries", desc := "(LLockHouse$EntryList;)I" } : MethodName)) ∈ TT := tt_mem (tb3 (List.mem_of_getElem? (i := 113) rfl)) rfl
theorem w594 : (Cond.code ({ cls := "LockHouse$Door", name := "countEntries", desc := "(LLockHouse$EntryList;)I" } : MethodName) prog_3_method_7_code (4 : Nat) (Option.some FieldType.int)) ∈ TT := tt_mem (tb3 (List.mem_of_getElem? (i := 114) rfl)) rfl
theorem w595 : (Cond.methodLink "LockHouse" (169 : Nat) ({ cls := "LockHouse$Door", name := "countRuns", desc := "(LLockHouse$EntryList;)I" } : MethodName)) ∈ TT := tt_mem (tb3 (List.mem_of_getElem? (i := 115) rfl)) rfl
theorem w596 : (Cond.instanceMethod ({ cls := "LockHouse$Door", name := "countRuns", desc := "(LLockHouse$EntryList;)I" } : MethodName)) ∈ TT := tt_mem (tb3 (List.mem_of_getElem? (i := 116) rfl)) rfl
theorem w597 : (Cond.selects "LockHouse$Door" ({ cls := "LockHouse$Door", name := "countRuns", desc := "(LLockHouse$EntryList;)I" } : MethodName) ({ cls := "LockHouse$Door", name := "countRuns", desc := "(LLockHouse$EntryList;)I" } : MethodName)) ∈ TT := tt_mem (tb3 (List.mem_of_getElem? (i := 117) rfl)) rfl
theorem w598 : (Cond.code ({ cls := "LockHouse$Door", name := "countRuns", desc := "(LLockHouse$EntryList;)I" } : MethodName) prog_3_method_8_code (4 : Nat) (Option.some FieldType.int)) ∈ TT := tt_mem (tb3 (List.mem_of_getElem? (i := 118) rfl)) rfl
theorem w599 : (Cond.methodLink "LockHouse$Door" (85 : Nat) ({ cls := "LockHouse$Door", name := "startsRun", desc := "(ILLockHouse$EntryList;)Z" } : MethodName)) ∈ TT := tt_mem (tb3 (List.mem_of_getElem? (i := 119) rfl)) rfl
theorem u600 : (Cond.privateMethod ({ cls := "LockHouse$Door", name := "startsRun", desc := "(ILLockHouse$EntryList;)Z" } : MethodName)) ∈ lw_tbl := tb3 (List.mem_of_getElem? (i := 120) rfl)
theorem w601 : (Cond.instanceMethod ({ cls := "LockHouse$Door", name := "startsRun", desc := "(ILLockHouse$EntryList;)Z" } : MethodName)) ∈ TT := tt_mem (tb3 (List.mem_of_getElem? (i := 121) rfl)) rfl
theorem w602 : (Cond.code ({ cls := "LockHouse$Door", name := "startsRun", desc := "(ILLockHouse$EntryList;)Z" } : MethodName) prog_3_method_11_code (3 : Nat) (Option.some FieldType.boolean)) ∈ TT := tt_mem (tb3 (List.mem_of_getElem? (i := 122) rfl)) rfl
theorem u603 : (Cond.stringRef "LockHouse" (172 : Nat) "there is no such thing about a door") ∈ lw_tbl := tb3 (List.mem_of_getElem? (i := 123) rfl)
theorem w604 : (Cond.methodLink "LockHouseLaw" (130 : Nat) ({ cls := "LockHouseLaw", name := "run", desc := "(LLockHouse;IIZ[J)I" } : MethodName)) ∈ TT := tt_mem (tb3 (List.mem_of_getElem? (i := 124) rfl)) rfl
theorem w605 : (Cond.static ({ cls := "LockHouseLaw", name := "run", desc := "(LLockHouse;IIZ[J)I" } : MethodName)) ∈ TT := tt_mem (tb3 (List.mem_of_getElem? (i := 125) rfl)) rfl
theorem w606 : (Cond.codeWith ({ cls := "LockHouseLaw", name := "run", desc := "(LLockHouse;IIZ[J)I" } : MethodName) method_14_code (6 : Nat) (Option.some FieldType.int) [((0 : Nat), (12 : Nat), (15 : Nat), (19 : Nat))]) ∈ TT := tt_mem (tb3 (List.mem_of_getElem? (i := 126) rfl)) rfl
theorem w607 : (Cond.methodLink "LockHouseLaw" (53 : Nat) ({ cls := "LockHouse", name := "run", desc := "(IIZ)I" } : MethodName)) ∈ TT := tt_mem (tb3 (List.mem_of_getElem? (i := 127) rfl)) rfl
theorem w608 : (Cond.instanceMethod ({ cls := "LockHouse", name := "run", desc := "(IIZ)I" } : MethodName)) ∈ TT := tt_mem (tb3 (List.mem_of_getElem? (i := 128) rfl)) rfl
theorem w609 : (Cond.selects "LockHouse" ({ cls := "LockHouse", name := "run", desc := "(IIZ)I" } : MethodName) ({ cls := "LockHouse", name := "run", desc := "(IIZ)I" } : MethodName)) ∈ TT := tt_mem (tb3 (List.mem_of_getElem? (i := 129) rfl)) rfl
theorem w610 : (Cond.code ({ cls := "LockHouse", name := "run", desc := "(IIZ)I" } : MethodName) prog_1_method_15_code (6 : Nat) (Option.some FieldType.int)) ∈ TT := tt_mem (tb3 (List.mem_of_getElem? (i := 130) rfl)) rfl
theorem w611 : (Cond.methodLink "LockHouse" (174 : Nat) ({ cls := "LockHouse$Door", name := "startOfRun", desc := "(ILLockHouse$EntryList;)I" } : MethodName)) ∈ TT := tt_mem (tb3 (List.mem_of_getElem? (i := 131) rfl)) rfl
theorem w612 : (Cond.instanceMethod ({ cls := "LockHouse$Door", name := "startOfRun", desc := "(ILLockHouse$EntryList;)I" } : MethodName)) ∈ TT := tt_mem (tb3 (List.mem_of_getElem? (i := 132) rfl)) rfl
theorem w613 : (Cond.selects "LockHouse$Door" ({ cls := "LockHouse$Door", name := "startOfRun", desc := "(ILLockHouse$EntryList;)I" } : MethodName) ({ cls := "LockHouse$Door", name := "startOfRun", desc := "(ILLockHouse$EntryList;)I" } : MethodName)) ∈ TT := tt_mem (tb3 (List.mem_of_getElem? (i := 133) rfl)) rfl
theorem w614 : (Cond.code ({ cls := "LockHouse$Door", name := "startOfRun", desc := "(ILLockHouse$EntryList;)I" } : MethodName) prog_3_method_9_code (5 : Nat) (Option.some FieldType.int)) ∈ TT := tt_mem (tb3 (List.mem_of_getElem? (i := 134) rfl)) rfl
theorem u615 : (Cond.stringRef "LockHouse" (178 : Nat) "no such run") ∈ lw_tbl := tb3 (List.mem_of_getElem? (i := 135) rfl)
theorem w616 : (Cond.methodLink "LockHouse" (180 : Nat) ({ cls := "LockHouse$Door", name := "endOfRun", desc := "(ILLockHouse$EntryList;)I" } : MethodName)) ∈ TT := tt_mem (tb3 (List.mem_of_getElem? (i := 136) rfl)) rfl
theorem w617 : (Cond.methodLink "LockHouseLaw" (134 : Nat) ({ cls := "LockHouseLaw", name := "refuses", desc := "(LLockHouse;II[J)I" } : MethodName)) ∈ TT := tt_mem (tb3 (List.mem_of_getElem? (i := 137) rfl)) rfl
theorem w618 : (Cond.static ({ cls := "LockHouseLaw", name := "refuses", desc := "(LLockHouse;II[J)I" } : MethodName)) ∈ TT := tt_mem (tb3 (List.mem_of_getElem? (i := 138) rfl)) rfl
theorem w619 : (Cond.codeWith ({ cls := "LockHouseLaw", name := "refuses", desc := "(LLockHouse;II[J)I" } : MethodName) method_15_code (5 : Nat) (Option.some FieldType.int) [((0 : Nat), (17 : Nat), (20 : Nat), (19 : Nat))]) ∈ TT := tt_mem (tb3 (List.mem_of_getElem? (i := 139) rfl)) rfl
theorem w620 : (Cond.methodLink "LockHouseLaw" (57 : Nat) ({ cls := "LockHouse", name := "refuses", desc := "(II)Z" } : MethodName)) ∈ TT := tt_mem (tb3 (List.mem_of_getElem? (i := 140) rfl)) rfl
theorem w621 : (Cond.instanceMethod ({ cls := "LockHouse", name := "refuses", desc := "(II)Z" } : MethodName)) ∈ TT := tt_mem (tb3 (List.mem_of_getElem? (i := 141) rfl)) rfl
theorem w622 : (Cond.selects "LockHouse" ({ cls := "LockHouse", name := "refuses", desc := "(II)Z" } : MethodName) ({ cls := "LockHouse", name := "refuses", desc := "(II)Z" } : MethodName)) ∈ TT := tt_mem (tb3 (List.mem_of_getElem? (i := 142) rfl)) rfl
theorem w623 : (Cond.code ({ cls := "LockHouse", name := "refuses", desc := "(II)Z" } : MethodName) prog_1_method_16_code (4 : Nat) (Option.some FieldType.boolean)) ∈ TT := tt_mem (tb3 (List.mem_of_getElem? (i := 143) rfl)) rfl
theorem w624 : (Cond.methodLink "LockHouse" (183 : Nat) ({ cls := "LockHouse$Door", name := "has", desc := "(ILLockHouse$EntryList;)Z" } : MethodName)) ∈ TT := tt_mem (tb3 (List.mem_of_getElem? (i := 144) rfl)) rfl
theorem w625 : (Cond.methodLink "LockHouseLaw" (137 : Nat) ({ cls := "LockHouseLaw", name := "reach", desc := "(LLockHouse;I[J)I" } : MethodName)) ∈ TT := tt_mem (tb3 (List.mem_of_getElem? (i := 145) rfl)) rfl
theorem w626 : (Cond.static ({ cls := "LockHouseLaw", name := "reach", desc := "(LLockHouse;I[J)I" } : MethodName)) ∈ TT := tt_mem (tb3 (List.mem_of_getElem? (i := 146) rfl)) rfl
theorem w627 : (Cond.codeWith ({ cls := "LockHouseLaw", name := "reach", desc := "(LLockHouse;I[J)I" } : MethodName) method_16_code (4 : Nat) (Option.some FieldType.int) [((0 : Nat), (9 : Nat), (12 : Nat), (19 : Nat))]) ∈ TT := tt_mem (tb3 (List.mem_of_getElem? (i := 147) rfl)) rfl
theorem w628 : (Cond.methodLink "LockHouseLaw" (61 : Nat) ({ cls := "LockHouse", name := "reach", desc := "(I)I" } : MethodName)) ∈ TT := tt_mem (tb3 (List.mem_of_getElem? (i := 148) rfl)) rfl
theorem w629 : (Cond.instanceMethod ({ cls := "LockHouse", name := "reach", desc := "(I)I" } : MethodName)) ∈ TT := tt_mem (tb3 (List.mem_of_getElem? (i := 149) rfl)) rfl
theorem w630 : (Cond.selects "LockHouse" ({ cls := "LockHouse", name := "reach", desc := "(I)I" } : MethodName) ({ cls := "LockHouse", name := "reach", desc := "(I)I" } : MethodName)) ∈ TT := tt_mem (tb3 (List.mem_of_getElem? (i := 150) rfl)) rfl
theorem w631 : (Cond.code ({ cls := "LockHouse", name := "reach", desc := "(I)I" } : MethodName) prog_1_method_17_code (2 : Nat) (Option.some FieldType.int)) ∈ TT := tt_mem (tb3 (List.mem_of_getElem? (i := 151) rfl)) rfl
theorem u632 : (Cond.stringRef "LockHouse" (187 : Nat) "no such entry") ∈ lw_tbl := tb3 (List.mem_of_getElem? (i := 152) rfl)
theorem w633 : (Cond.methodLink "LockHouse" (189 : Nat) ({ cls := "LockHouse$EntryList", name := "countDoorsWith", desc := "(I)I" } : MethodName)) ∈ TT := tt_mem (tb3 (List.mem_of_getElem? (i := 153) rfl)) rfl
theorem w634 : (Cond.instanceMethod ({ cls := "LockHouse$EntryList", name := "countDoorsWith", desc := "(I)I" } : MethodName)) ∈ TT := tt_mem (tb3 (List.mem_of_getElem? (i := 154) rfl)) rfl
theorem w635 : (Cond.selects "LockHouse$EntryList" ({ cls := "LockHouse$EntryList", name := "countDoorsWith", desc := "(I)I" } : MethodName) ({ cls := "LockHouse$EntryList", name := "countDoorsWith", desc := "(I)I" } : MethodName)) ∈ TT := tt_mem (tb3 (List.mem_of_getElem? (i := 155) rfl)) rfl
theorem w636 : (Cond.code ({ cls := "LockHouse$EntryList", name := "countDoorsWith", desc := "(I)I" } : MethodName) prog_5_method_8_code (2 : Nat) (Option.some FieldType.int)) ∈ TT := tt_mem (tb3 (List.mem_of_getElem? (i := 156) rfl)) rfl
theorem w637 : (Cond.methodLink "LockHouse$EntryList" (49 : Nat) ({ cls := "LockHouse$Entry", name := "countDoors", desc := "()I" } : MethodName)) ∈ TT := tt_mem (tb3 (List.mem_of_getElem? (i := 157) rfl)) rfl
theorem w638 : (Cond.instanceMethod ({ cls := "LockHouse$Entry", name := "countDoors", desc := "()I" } : MethodName)) ∈ TT := tt_mem (tb3 (List.mem_of_getElem? (i := 158) rfl)) rfl
theorem w639 : (Cond.selects "LockHouse$Entry" ({ cls := "LockHouse$Entry", name := "countDoors", desc := "()I" } : MethodName) ({ cls := "LockHouse$Entry", name := "countDoors", desc := "()I" } : MethodName)) ∈ TT := tt_mem (tb3 (List.mem_of_getElem? (i := 159) rfl)) rfl
theorem w640 : (Cond.code ({ cls := "LockHouse$Entry", name := "countDoors", desc := "()I" } : MethodName) prog_4_method_4_code (6 : Nat) (Option.some FieldType.int)) ∈ TT := tt_mem (tb3 (List.mem_of_getElem? (i := 160) rfl)) rfl
theorem w641 : (Cond.methodLink "LockHouseLaw" (140 : Nat) ({ cls := "LockHouseLaw", name := "loseBattery", desc := "(LLockHouse;I)I" } : MethodName)) ∈ TT := tt_mem (tb3 (List.mem_of_getElem? (i := 161) rfl)) rfl
theorem w642 : (Cond.static ({ cls := "LockHouseLaw", name := "loseBattery", desc := "(LLockHouse;I)I" } : MethodName)) ∈ TT := tt_mem (tb3 (List.mem_of_getElem? (i := 162) rfl)) rfl
theorem w643 : (Cond.codeWith ({ cls := "LockHouseLaw", name := "loseBattery", desc := "(LLockHouse;I)I" } : MethodName) method_17_code (3 : Nat) (Option.some FieldType.int) [((0 : Nat), (5 : Nat), (8 : Nat), (19 : Nat))]) ∈ TT := tt_mem (tb3 (List.mem_of_getElem? (i := 163) rfl)) rfl
theorem w644 : (Cond.methodLink "LockHouseLaw" (64 : Nat) ({ cls := "LockHouse", name := "loseBattery", desc := "(I)V" } : MethodName)) ∈ TT := tt_mem (tb3 (List.mem_of_getElem? (i := 164) rfl)) rfl
theorem w645 : (Cond.instanceMethod ({ cls := "LockHouse", name := "loseBattery", desc := "(I)V" } : MethodName)) ∈ TT := tt_mem (tb3 (List.mem_of_getElem? (i := 165) rfl)) rfl
theorem w646 : (Cond.selects "LockHouse" ({ cls := "LockHouse", name := "loseBattery", desc := "(I)V" } : MethodName) ({ cls := "LockHouse", name := "loseBattery", desc := "(I)V" } : MethodName)) ∈ TT := tt_mem (tb3 (List.mem_of_getElem? (i := 166) rfl)) rfl
theorem w647 : (Cond.code ({ cls := "LockHouse", name := "loseBattery", desc := "(I)V" } : MethodName) prog_1_method_18_code (2 : Nat) (Option.none : Option FieldType)) ∈ TT := tt_mem (tb3 (List.mem_of_getElem? (i := 167) rfl)) rfl
theorem w648 : (Cond.methodLink "LockHouseLaw" (143 : Nat) ({ cls := "LockHouseLaw", name := "visit", desc := "(LLockHouse;IIII)I" } : MethodName)) ∈ TT := tt_mem (tb3 (List.mem_of_getElem? (i := 168) rfl)) rfl
theorem w649 : (Cond.static ({ cls := "LockHouseLaw", name := "visit", desc := "(LLockHouse;IIII)I" } : MethodName)) ∈ TT := tt_mem (tb3 (List.mem_of_getElem? (i := 169) rfl)) rfl
theorem w650 : (Cond.codeWith ({ cls := "LockHouseLaw", name := "visit", desc := "(LLockHouse;IIII)I" } : MethodName) method_18_code (6 : Nat) (Option.some FieldType.int) [((0 : Nat), (9 : Nat), (12 : Nat), (19 : Nat))]) ∈ TT := tt_mem (tb3 (List.mem_of_getElem? (i := 170) rfl)) rfl
theorem w651 : (Cond.methodLink "LockHouseLaw" (67 : Nat) ({ cls := "LockHouse", name := "visit", desc := "(IIII)V" } : MethodName)) ∈ TT := tt_mem (tb3 (List.mem_of_getElem? (i := 171) rfl)) rfl
theorem w652 : (Cond.instanceMethod ({ cls := "LockHouse", name := "visit", desc := "(IIII)V" } : MethodName)) ∈ TT := tt_mem (tb3 (List.mem_of_getElem? (i := 172) rfl)) rfl
theorem w653 : (Cond.selects "LockHouse" ({ cls := "LockHouse", name := "visit", desc := "(IIII)V" } : MethodName) ({ cls := "LockHouse", name := "visit", desc := "(IIII)V" } : MethodName)) ∈ TT := tt_mem (tb3 (List.mem_of_getElem? (i := 173) rfl)) rfl
theorem w654 : (Cond.code ({ cls := "LockHouse", name := "visit", desc := "(IIII)V" } : MethodName) prog_1_method_19_code (5 : Nat) (Option.none : Option FieldType)) ∈ TT := tt_mem (tb3 (List.mem_of_getElem? (i := 174) rfl)) rfl
theorem u655 : (Cond.stringRef "LockHouse" (199 : Nat) "no such visit, card or door") ∈ lw_tbl := tb3 (List.mem_of_getElem? (i := 175) rfl)
theorem w656 : (Cond.methodLink "LockHouseLaw" (147 : Nat) ({ cls := "LockHouseLaw", name := "spread", desc := "(LLockHouse;I[J)I" } : MethodName)) ∈ TT := tt_mem (tb3 (List.mem_of_getElem? (i := 176) rfl)) rfl
theorem w657 : (Cond.static ({ cls := "LockHouseLaw", name := "spread", desc := "(LLockHouse;I[J)I" } : MethodName)) ∈ TT := tt_mem (tb3 (List.mem_of_getElem? (i := 177) rfl)) rfl
theorem w658 : (Cond.codeWith ({ cls := "LockHouseLaw", name := "spread", desc := "(LLockHouse;I[J)I" } : MethodName) method_19_code (4 : Nat) (Option.some FieldType.int) [((0 : Nat), (9 : Nat), (12 : Nat), (29 : Nat))]) ∈ TT := tt_mem (tb3 (List.mem_of_getElem? (i := 178) rfl)) rfl
theorem w659 : (Cond.methodLink "LockHouseLaw" (71 : Nat) ({ cls := "LockHouse", name := "spread", desc := "(I)I" } : MethodName)) ∈ TT := tt_mem (tb3 (List.mem_of_getElem? (i := 179) rfl)) rfl
theorem w660 : (Cond.instanceMethod ({ cls := "LockHouse", name := "spread", desc := "(I)I" } : MethodName)) ∈ TT := tt_mem (tb3 (List.mem_of_getElem? (i := 180) rfl)) rfl
theorem w661 : (Cond.selects "LockHouse" ({ cls := "LockHouse", name := "spread", desc := "(I)I" } : MethodName) ({ cls := "LockHouse", name := "spread", desc := "(I)I" } : MethodName)) ∈ TT := tt_mem (tb3 (List.mem_of_getElem? (i := 181) rfl)) rfl
theorem w662 : (Cond.code ({ cls := "LockHouse", name := "spread", desc := "(I)I" } : MethodName) prog_1_method_20_code (4 : Nat) (Option.some FieldType.int)) ∈ TT := tt_mem (tb3 (List.mem_of_getElem? (i := 182) rfl)) rfl
theorem u663 : (Cond.stringRef "LockHouse" (201 : Nat) "no such number of visits") ∈ lw_tbl := tb3 (List.mem_of_getElem? (i := 183) rfl)
theorem w664 : (Cond.classLink "LockHouseLaw" (75 : Nat) "LockHouseModel") ∈ TT := tt_mem (tb3 (List.mem_of_getElem? (i := 184) rfl)) rfl
theorem w665 : (Cond.instantiable "LockHouseModel" (18 : Nat)) ∈ TT := tt_mem (tb3 (List.mem_of_getElem? (i := 185) rfl)) rfl
theorem w666 : (Cond.methodLink "LockHouseLaw" (77 : Nat) ({ cls := "LockHouseModel", name := "<init>", desc := "()V" } : MethodName)) ∈ TT := tt_mem (tb3 (List.mem_of_getElem? (i := 186) rfl)) rfl
theorem w667 : (Cond.instanceMethod ({ cls := "LockHouseModel", name := "<init>", desc := "()V" } : MethodName)) ∈ TT := tt_mem (tb3 (List.mem_of_getElem? (i := 187) rfl)) rfl
theorem w668 : (Cond.code ({ cls := "LockHouseModel", name := "<init>", desc := "()V" } : MethodName) prog_8_method_1_code (1 : Nat) (Option.none : Option FieldType)) ∈ TT := tt_mem (tb3 (List.mem_of_getElem? (i := 188) rfl)) rfl
theorem w669 : (Cond.methodLink "LockHouseModel" (1 : Nat) ({ cls := "java/lang/Object", name := "<init>", desc := "()V" } : MethodName)) ∈ TT := tt_mem (tb3 (List.mem_of_getElem? (i := 189) rfl)) rfl
theorem w670 : (Cond.constant "LockHouseModel" (22 : Nat) (352000 : Int32)) ∈ TT := tt_mem (tb3 (List.mem_of_getElem? (i := 190) rfl)) rfl
theorem w671 : (Cond.constant "LockHouseModel" (33 : Nat) (600200 : Int32)) ∈ TT := tt_mem (tb3 (List.mem_of_getElem? (i := 191) rfl)) rfl
theorem w672 : (Cond.fieldLink "LockHouseModel" (59 : Nat) "LockHouseModel" "code" "I") ∈ TT := tt_mem (tb3 (List.mem_of_getElem? (i := 192) rfl)) rfl
theorem w673 : (Cond.fieldLink "LockHouseModel" (63 : Nat) "LockHouseModel" "cards" "I") ∈ TT := tt_mem (tb3 (List.mem_of_getElem? (i := 193) rfl)) rfl
theorem w674 : (Cond.fieldLink "LockHouseModel" (7 : Nat) "LockHouseModel" "zones" "[I") ∈ TT := tt_mem (tb3 (List.mem_of_getElem? (i := 194) rfl)) rfl
theorem w675 : (Cond.fieldLink "LockHouseModel" (13 : Nat) "LockHouseModel" "endDay" "[I") ∈ TT := tt_mem (tb3 (List.mem_of_getElem? (i := 195) rfl)) rfl
theorem w676 : (Cond.fieldLink "LockHouseModel" (16 : Nat) "LockHouseModel" "keep" "[I") ∈ TT := tt_mem (tb3 (List.mem_of_getElem? (i := 196) rfl)) rfl
theorem w677 : (Cond.fieldLink "LockHouseModel" (19 : Nat) "LockHouseModel" "written" "[I") ∈ TT := tt_mem (tb3 (List.mem_of_getElem? (i := 197) rfl)) rfl
theorem w678 : (Cond.fieldLink "LockHouseModel" (23 : Nat) "LockHouseModel" "words" "[S") ∈ TT := tt_mem (tb3 (List.mem_of_getElem? (i := 198) rfl)) rfl
theorem w679 : (Cond.fieldLink "LockHouseModel" (27 : Nat) "LockHouseModel" "entryFor" "[I") ∈ TT := tt_mem (tb3 (List.mem_of_getElem? (i := 199) rfl)) rfl
theorem w680 : (Cond.fieldLink "LockHouseModel" (30 : Nat) "LockHouseModel" "cardOf" "[I") ∈ TT := tt_mem (tb3 (List.mem_of_getElem? (i := 200) rfl)) rfl
theorem w681 : (Cond.fieldLink "LockHouseModel" (70 : Nat) "LockHouseModel" "entries" "I") ∈ TT := tt_mem (tb3 (List.mem_of_getElem? (i := 201) rfl)) rfl
theorem w682 : (Cond.fieldLink "LockHouseModel" (34 : Nat) "LockHouseModel" "has" "[Z") ∈ TT := tt_mem (tb3 (List.mem_of_getElem? (i := 202) rfl)) rfl
theorem w683 : (Cond.fieldLink "LockHouseModel" (38 : Nat) "LockHouseModel" "zone" "[I") ∈ TT := tt_mem (tb3 (List.mem_of_getElem? (i := 203) rfl)) rfl
theorem w684 : (Cond.fieldLink "LockHouseModel" (41 : Nat) "LockHouseModel" "used" "[Z") ∈ TT := tt_mem (tb3 (List.mem_of_getElem? (i := 204) rfl)) rfl
theorem w685 : (Cond.fieldLink "LockHouseModel" (44 : Nat) "LockHouseModel" "heard" "[I") ∈ TT := tt_mem (tb3 (List.mem_of_getElem? (i := 205) rfl)) rfl
theorem w686 : (Cond.fieldLink "LockHouseModel" (47 : Nat) "LockHouseModel" "some" "[Z") ∈ TT := tt_mem (tb3 (List.mem_of_getElem? (i := 206) rfl)) rfl
theorem w687 : (Cond.fieldLink "LockHouseModel" (50 : Nat) "LockHouseModel" "visitCard" "[I") ∈ TT := tt_mem (tb3 (List.mem_of_getElem? (i := 207) rfl)) rfl
theorem w688 : (Cond.fieldLink "LockHouseModel" (53 : Nat) "LockHouseModel" "visitDoor" "[I") ∈ TT := tt_mem (tb3 (List.mem_of_getElem? (i := 208) rfl)) rfl
theorem w689 : (Cond.fieldLink "LockHouseModel" (56 : Nat) "LockHouseModel" "visitDay" "[I") ∈ TT := tt_mem (tb3 (List.mem_of_getElem? (i := 209) rfl)) rfl
theorem w690 : (Cond.lays "LockHouseModel" "LockHouseModel" "code" "I") ∈ TT := tt_mem (tb3 (List.mem_of_getElem? (i := 210) rfl)) rfl
theorem w691 : (Cond.soleField "LockHouseModel" "code") ∈ TT := tt_mem (tb3 (List.mem_of_getElem? (i := 211) rfl)) rfl
theorem w692 : (Cond.lays "LockHouseModel" "LockHouseModel" "cards" "I") ∈ TT := tt_mem (tb3 (List.mem_of_getElem? (i := 212) rfl)) rfl
theorem w693 : (Cond.soleField "LockHouseModel" "cards") ∈ TT := tt_mem (tb3 (List.mem_of_getElem? (i := 213) rfl)) rfl
theorem w694 : (Cond.laysFinal "LockHouseModel" "LockHouseModel" "zones" "[I") ∈ TT := tt_mem (tb3 (List.mem_of_getElem? (i := 214) rfl)) rfl
theorem w695 : (Cond.soleField "LockHouseModel" "zones") ∈ TT := tt_mem (tb3 (List.mem_of_getElem? (i := 215) rfl)) rfl
theorem w696 : (Cond.laysFinal "LockHouseModel" "LockHouseModel" "endDay" "[I") ∈ TT := tt_mem (tb3 (List.mem_of_getElem? (i := 216) rfl)) rfl
theorem w697 : (Cond.soleField "LockHouseModel" "endDay") ∈ TT := tt_mem (tb3 (List.mem_of_getElem? (i := 217) rfl)) rfl
theorem w698 : (Cond.laysFinal "LockHouseModel" "LockHouseModel" "keep" "[I") ∈ TT := tt_mem (tb3 (List.mem_of_getElem? (i := 218) rfl)) rfl
theorem w699 : (Cond.soleField "LockHouseModel" "keep") ∈ TT := tt_mem (tb3 (List.mem_of_getElem? (i := 219) rfl)) rfl
theorem w700 : (Cond.laysFinal "LockHouseModel" "LockHouseModel" "written" "[I") ∈ TT := tt_mem (tb3 (List.mem_of_getElem? (i := 220) rfl)) rfl
theorem w701 : (Cond.soleField "LockHouseModel" "written") ∈ TT := tt_mem (tb3 (List.mem_of_getElem? (i := 221) rfl)) rfl
theorem w702 : (Cond.laysFinal "LockHouseModel" "LockHouseModel" "words" "[S") ∈ TT := tt_mem (tb3 (List.mem_of_getElem? (i := 222) rfl)) rfl
theorem w703 : (Cond.soleField "LockHouseModel" "words") ∈ TT := tt_mem (tb3 (List.mem_of_getElem? (i := 223) rfl)) rfl
theorem w704 : (Cond.laysFinal "LockHouseModel" "LockHouseModel" "entryFor" "[I") ∈ TT := tt_mem (tb3 (List.mem_of_getElem? (i := 224) rfl)) rfl
theorem w705 : (Cond.soleField "LockHouseModel" "entryFor") ∈ TT := tt_mem (tb3 (List.mem_of_getElem? (i := 225) rfl)) rfl
theorem w706 : (Cond.laysFinal "LockHouseModel" "LockHouseModel" "cardOf" "[I") ∈ TT := tt_mem (tb3 (List.mem_of_getElem? (i := 226) rfl)) rfl
theorem w707 : (Cond.soleField "LockHouseModel" "cardOf") ∈ TT := tt_mem (tb3 (List.mem_of_getElem? (i := 227) rfl)) rfl
theorem w708 : (Cond.lays "LockHouseModel" "LockHouseModel" "entries" "I") ∈ TT := tt_mem (tb3 (List.mem_of_getElem? (i := 228) rfl)) rfl
theorem w709 : (Cond.soleField "LockHouseModel" "entries") ∈ TT := tt_mem (tb3 (List.mem_of_getElem? (i := 229) rfl)) rfl
theorem w710 : (Cond.laysFinal "LockHouseModel" "LockHouseModel" "has" "[Z") ∈ TT := tt_mem (tb3 (List.mem_of_getElem? (i := 230) rfl)) rfl
theorem w711 : (Cond.soleField "LockHouseModel" "has") ∈ TT := tt_mem (tb3 (List.mem_of_getElem? (i := 231) rfl)) rfl
theorem w712 : (Cond.laysFinal "LockHouseModel" "LockHouseModel" "zone" "[I") ∈ TT := tt_mem (tb3 (List.mem_of_getElem? (i := 232) rfl)) rfl
theorem w713 : (Cond.soleField "LockHouseModel" "zone") ∈ TT := tt_mem (tb3 (List.mem_of_getElem? (i := 233) rfl)) rfl
theorem w714 : (Cond.laysFinal "LockHouseModel" "LockHouseModel" "used" "[Z") ∈ TT := tt_mem (tb3 (List.mem_of_getElem? (i := 234) rfl)) rfl
theorem w715 : (Cond.soleField "LockHouseModel" "used") ∈ TT := tt_mem (tb3 (List.mem_of_getElem? (i := 235) rfl)) rfl
theorem w716 : (Cond.laysFinal "LockHouseModel" "LockHouseModel" "heard" "[I") ∈ TT := tt_mem (tb3 (List.mem_of_getElem? (i := 236) rfl)) rfl
theorem w717 : (Cond.soleField "LockHouseModel" "heard") ∈ TT := tt_mem (tb3 (List.mem_of_getElem? (i := 237) rfl)) rfl
theorem w718 : (Cond.laysFinal "LockHouseModel" "LockHouseModel" "some" "[Z") ∈ TT := tt_mem (tb3 (List.mem_of_getElem? (i := 238) rfl)) rfl
theorem w719 : (Cond.soleField "LockHouseModel" "some") ∈ TT := tt_mem (tb3 (List.mem_of_getElem? (i := 239) rfl)) rfl
theorem w720 : (Cond.laysFinal "LockHouseModel" "LockHouseModel" "visitCard" "[I") ∈ TT := tt_mem (tb4 (List.mem_of_getElem? (i := 0) rfl)) rfl
theorem w721 : (Cond.soleField "LockHouseModel" "visitCard") ∈ TT := tt_mem (tb4 (List.mem_of_getElem? (i := 1) rfl)) rfl
theorem w722 : (Cond.laysFinal "LockHouseModel" "LockHouseModel" "visitDoor" "[I") ∈ TT := tt_mem (tb4 (List.mem_of_getElem? (i := 2) rfl)) rfl
theorem w723 : (Cond.soleField "LockHouseModel" "visitDoor") ∈ TT := tt_mem (tb4 (List.mem_of_getElem? (i := 3) rfl)) rfl
theorem w724 : (Cond.laysFinal "LockHouseModel" "LockHouseModel" "visitDay" "[I") ∈ TT := tt_mem (tb4 (List.mem_of_getElem? (i := 4) rfl)) rfl
theorem w725 : (Cond.soleField "LockHouseModel" "visitDay") ∈ TT := tt_mem (tb4 (List.mem_of_getElem? (i := 5) rfl)) rfl
theorem w726 : (Cond.superclass "LockHouseModel" "java/lang/Object") ∈ TT := tt_mem (tb4 (List.mem_of_getElem? (i := 6) rfl)) rfl
theorem w727 : (Cond.methodLink "LockHouseLaw" (84 : Nat) ({ cls := "LockHouseModel", name := "thrown", desc := "()I" } : MethodName)) ∈ TT := tt_mem (tb4 (List.mem_of_getElem? (i := 7) rfl)) rfl
theorem w728 : (Cond.instanceMethod ({ cls := "LockHouseModel", name := "thrown", desc := "()I" } : MethodName)) ∈ TT := tt_mem (tb4 (List.mem_of_getElem? (i := 8) rfl)) rfl
theorem w729 : (Cond.selects "LockHouseModel" ({ cls := "LockHouseModel", name := "thrown", desc := "()I" } : MethodName) ({ cls := "LockHouseModel", name := "thrown", desc := "()I" } : MethodName)) ∈ TT := tt_mem (tb4 (List.mem_of_getElem? (i := 9) rfl)) rfl
theorem w730 : (Cond.code ({ cls := "LockHouseModel", name := "thrown", desc := "()I" } : MethodName) prog_8_method_2_code (1 : Nat) (Option.some FieldType.int)) ∈ TT := tt_mem (tb4 (List.mem_of_getElem? (i := 10) rfl)) rfl
theorem w731 : (Cond.methodLink "LockHouseLaw" (83 : Nat) ({ cls := "LockHouseModel", name := "issue", desc := "(II)I" } : MethodName)) ∈ TT := tt_mem (tb4 (List.mem_of_getElem? (i := 11) rfl)) rfl
theorem w732 : (Cond.instanceMethod ({ cls := "LockHouseModel", name := "issue", desc := "(II)I" } : MethodName)) ∈ TT := tt_mem (tb4 (List.mem_of_getElem? (i := 12) rfl)) rfl
theorem w733 : (Cond.selects "LockHouseModel" ({ cls := "LockHouseModel", name := "issue", desc := "(II)I" } : MethodName) ({ cls := "LockHouseModel", name := "issue", desc := "(II)I" } : MethodName)) ∈ TT := tt_mem (tb4 (List.mem_of_getElem? (i := 13) rfl)) rfl
theorem w734 : (Cond.code ({ cls := "LockHouseModel", name := "issue", desc := "(II)I" } : MethodName) prog_8_method_5_code (3 : Nat) (Option.some FieldType.int)) ∈ TT := tt_mem (tb4 (List.mem_of_getElem? (i := 14) rfl)) rfl
theorem w735 : (Cond.methodLink "LockHouseLaw" (91 : Nat) ({ cls := "LockHouseModel", name := "cards", desc := "()I" } : MethodName)) ∈ TT := tt_mem (tb4 (List.mem_of_getElem? (i := 15) rfl)) rfl
theorem w736 : (Cond.instanceMethod ({ cls := "LockHouseModel", name := "cards", desc := "()I" } : MethodName)) ∈ TT := tt_mem (tb4 (List.mem_of_getElem? (i := 16) rfl)) rfl
theorem w737 : (Cond.selects "LockHouseModel" ({ cls := "LockHouseModel", name := "cards", desc := "()I" } : MethodName) ({ cls := "LockHouseModel", name := "cards", desc := "()I" } : MethodName)) ∈ TT := tt_mem (tb4 (List.mem_of_getElem? (i := 17) rfl)) rfl
theorem w738 : (Cond.code ({ cls := "LockHouseModel", name := "cards", desc := "()I" } : MethodName) prog_8_method_6_code (1 : Nat) (Option.some FieldType.int)) ∈ TT := tt_mem (tb4 (List.mem_of_getElem? (i := 18) rfl)) rfl
theorem w739 : (Cond.methodLink "LockHouseLaw" (95 : Nat) ({ cls := "LockHouseModel", name := "revoke", desc := "(I)I" } : MethodName)) ∈ TT := tt_mem (tb4 (List.mem_of_getElem? (i := 19) rfl)) rfl
theorem w740 : (Cond.instanceMethod ({ cls := "LockHouseModel", name := "revoke", desc := "(I)I" } : MethodName)) ∈ TT := tt_mem (tb4 (List.mem_of_getElem? (i := 20) rfl)) rfl
theorem w741 : (Cond.selects "LockHouseModel" ({ cls := "LockHouseModel", name := "revoke", desc := "(I)I" } : MethodName) ({ cls := "LockHouseModel", name := "revoke", desc := "(I)I" } : MethodName)) ∈ TT := tt_mem (tb4 (List.mem_of_getElem? (i := 21) rfl)) rfl
theorem w742 : (Cond.code ({ cls := "LockHouseModel", name := "revoke", desc := "(I)I" } : MethodName) prog_8_method_7_code (2 : Nat) (Option.some FieldType.int)) ∈ TT := tt_mem (tb4 (List.mem_of_getElem? (i := 22) rfl)) rfl
theorem w743 : (Cond.methodLink "LockHouseModel" (66 : Nat) ({ cls := "LockHouseModel", name := "noCard", desc := "(I)Z" } : MethodName)) ∈ TT := tt_mem (tb4 (List.mem_of_getElem? (i := 23) rfl)) rfl
theorem u744 : (Cond.privateMethod ({ cls := "LockHouseModel", name := "noCard", desc := "(I)Z" } : MethodName)) ∈ lw_tbl := tb4 (List.mem_of_getElem? (i := 24) rfl)
theorem w745 : (Cond.instanceMethod ({ cls := "LockHouseModel", name := "noCard", desc := "(I)Z" } : MethodName)) ∈ TT := tt_mem (tb4 (List.mem_of_getElem? (i := 25) rfl)) rfl
theorem w746 : (Cond.code ({ cls := "LockHouseModel", name := "noCard", desc := "(I)Z" } : MethodName) prog_8_method_3_code (2 : Nat) (Option.some FieldType.boolean)) ∈ TT := tt_mem (tb4 (List.mem_of_getElem? (i := 26) rfl)) rfl
theorem w747 : (Cond.methodLink "LockHouseLaw" (99 : Nat) ({ cls := "LockHouseModel", name := "entries", desc := "()I" } : MethodName)) ∈ TT := tt_mem (tb4 (List.mem_of_getElem? (i := 27) rfl)) rfl
theorem w748 : (Cond.instanceMethod ({ cls := "LockHouseModel", name := "entries", desc := "()I" } : MethodName)) ∈ TT := tt_mem (tb4 (List.mem_of_getElem? (i := 28) rfl)) rfl
theorem w749 : (Cond.selects "LockHouseModel" ({ cls := "LockHouseModel", name := "entries", desc := "()I" } : MethodName) ({ cls := "LockHouseModel", name := "entries", desc := "()I" } : MethodName)) ∈ TT := tt_mem (tb4 (List.mem_of_getElem? (i := 29) rfl)) rfl
theorem w750 : (Cond.code ({ cls := "LockHouseModel", name := "entries", desc := "()I" } : MethodName) prog_8_method_8_code (1 : Nat) (Option.some FieldType.int)) ∈ TT := tt_mem (tb4 (List.mem_of_getElem? (i := 30) rfl)) rfl
theorem w751 : (Cond.methodLink "LockHouseLaw" (103 : Nat) ({ cls := "LockHouseModel", name := "gate", desc := "(I)V" } : MethodName)) ∈ TT := tt_mem (tb4 (List.mem_of_getElem? (i := 31) rfl)) rfl
theorem w752 : (Cond.instanceMethod ({ cls := "LockHouseModel", name := "gate", desc := "(I)V" } : MethodName)) ∈ TT := tt_mem (tb4 (List.mem_of_getElem? (i := 32) rfl)) rfl
theorem w753 : (Cond.selects "LockHouseModel" ({ cls := "LockHouseModel", name := "gate", desc := "(I)V" } : MethodName) ({ cls := "LockHouseModel", name := "gate", desc := "(I)V" } : MethodName)) ∈ TT := tt_mem (tb4 (List.mem_of_getElem? (i := 33) rfl)) rfl
theorem w754 : (Cond.code ({ cls := "LockHouseModel", name := "gate", desc := "(I)V" } : MethodName) prog_8_method_19_code (2 : Nat) (Option.none : Option FieldType)) ∈ TT := tt_mem (tb4 (List.mem_of_getElem? (i := 34) rfl)) rfl
theorem w755 : (Cond.methodLink "LockHouseModel" (102 : Nat) ({ cls := "LockHouseModel", name := "write", desc := "(IIII)V" } : MethodName)) ∈ TT := tt_mem (tb4 (List.mem_of_getElem? (i := 35) rfl)) rfl
theorem u756 : (Cond.privateMethod ({ cls := "LockHouseModel", name := "write", desc := "(IIII)V" } : MethodName)) ∈ lw_tbl := tb4 (List.mem_of_getElem? (i := 36) rfl)
theorem w757 : (Cond.instanceMethod ({ cls := "LockHouseModel", name := "write", desc := "(IIII)V" } : MethodName)) ∈ TT := tt_mem (tb4 (List.mem_of_getElem? (i := 37) rfl)) rfl
theorem w758 : (Cond.code ({ cls := "LockHouseModel", name := "write", desc := "(IIII)V" } : MethodName) prog_8_method_17_code (11 : Nat) (Option.none : Option FieldType)) ∈ TT := tt_mem (tb4 (List.mem_of_getElem? (i := 38) rfl)) rfl
theorem w759 : (Cond.methodLink "LockHouseModel" (98 : Nat) ({ cls := "LockHouseModel", name := "tells", desc := "(IIII)Z" } : MethodName)) ∈ TT := tt_mem (tb4 (List.mem_of_getElem? (i := 39) rfl)) rfl
theorem u760 : (Cond.privateMethod ({ cls := "LockHouseModel", name := "tells", desc := "(IIII)Z" } : MethodName)) ∈ lw_tbl := tb4 (List.mem_of_getElem? (i := 40) rfl)
theorem w761 : (Cond.instanceMethod ({ cls := "LockHouseModel", name := "tells", desc := "(IIII)Z" } : MethodName)) ∈ TT := tt_mem (tb4 (List.mem_of_getElem? (i := 41) rfl)) rfl
theorem w762 : (Cond.code ({ cls := "LockHouseModel", name := "tells", desc := "(IIII)Z" } : MethodName) prog_8_method_16_code (7 : Nat) (Option.some FieldType.boolean)) ∈ TT := tt_mem (tb4 (List.mem_of_getElem? (i := 42) rfl)) rfl
theorem w763 : (Cond.methodLink "LockHouseModel" (89 : Nat) ({ cls := "LockHouseModel", name := "count", desc := "(I)I" } : MethodName)) ∈ TT := tt_mem (tb4 (List.mem_of_getElem? (i := 43) rfl)) rfl
theorem u764 : (Cond.privateMethod ({ cls := "LockHouseModel", name := "count", desc := "(I)I" } : MethodName)) ∈ lw_tbl := tb4 (List.mem_of_getElem? (i := 44) rfl)
theorem w765 : (Cond.instanceMethod ({ cls := "LockHouseModel", name := "count", desc := "(I)I" } : MethodName)) ∈ TT := tt_mem (tb4 (List.mem_of_getElem? (i := 45) rfl)) rfl
theorem w766 : (Cond.code ({ cls := "LockHouseModel", name := "count", desc := "(I)I" } : MethodName) prog_8_method_13_code (2 : Nat) (Option.some FieldType.int)) ∈ TT := tt_mem (tb4 (List.mem_of_getElem? (i := 46) rfl)) rfl
theorem w767 : (Cond.methodLink "LockHouseModel" (85 : Nat) ({ cls := "LockHouseModel", name := "current", desc := "(I)I" } : MethodName)) ∈ TT := tt_mem (tb4 (List.mem_of_getElem? (i := 47) rfl)) rfl
theorem u768 : (Cond.privateMethod ({ cls := "LockHouseModel", name := "current", desc := "(I)I" } : MethodName)) ∈ lw_tbl := tb4 (List.mem_of_getElem? (i := 48) rfl)
theorem w769 : (Cond.instanceMethod ({ cls := "LockHouseModel", name := "current", desc := "(I)I" } : MethodName)) ∈ TT := tt_mem (tb4 (List.mem_of_getElem? (i := 49) rfl)) rfl
theorem w770 : (Cond.code ({ cls := "LockHouseModel", name := "current", desc := "(I)I" } : MethodName) prog_8_method_12_code (3 : Nat) (Option.some FieldType.int)) ∈ TT := tt_mem (tb4 (List.mem_of_getElem? (i := 50) rfl)) rfl
theorem w771 : (Cond.methodLink "LockHouseModel" (77 : Nat) ({ cls := "LockHouseModel", name := "whole", desc := "(II)Z" } : MethodName)) ∈ TT := tt_mem (tb4 (List.mem_of_getElem? (i := 51) rfl)) rfl
theorem u772 : (Cond.privateMethod ({ cls := "LockHouseModel", name := "whole", desc := "(II)Z" } : MethodName)) ∈ lw_tbl := tb4 (List.mem_of_getElem? (i := 52) rfl)
theorem w773 : (Cond.instanceMethod ({ cls := "LockHouseModel", name := "whole", desc := "(II)Z" } : MethodName)) ∈ TT := tt_mem (tb4 (List.mem_of_getElem? (i := 53) rfl)) rfl
theorem w774 : (Cond.code ({ cls := "LockHouseModel", name := "whole", desc := "(II)Z" } : MethodName) prog_8_method_10_code (3 : Nat) (Option.some FieldType.boolean)) ∈ TT := tt_mem (tb4 (List.mem_of_getElem? (i := 54) rfl)) rfl
theorem w775 : (Cond.methodLink "LockHouseModel" (73 : Nat) ({ cls := "LockHouseModel", name := "wordAt", desc := "(III)I" } : MethodName)) ∈ TT := tt_mem (tb4 (List.mem_of_getElem? (i := 55) rfl)) rfl
theorem u776 : (Cond.privateMethod ({ cls := "LockHouseModel", name := "wordAt", desc := "(III)I" } : MethodName)) ∈ lw_tbl := tb4 (List.mem_of_getElem? (i := 56) rfl)
theorem w777 : (Cond.instanceMethod ({ cls := "LockHouseModel", name := "wordAt", desc := "(III)I" } : MethodName)) ∈ TT := tt_mem (tb4 (List.mem_of_getElem? (i := 57) rfl)) rfl
theorem w778 : (Cond.code ({ cls := "LockHouseModel", name := "wordAt", desc := "(III)I" } : MethodName) prog_8_method_9_code (4 : Nat) (Option.some FieldType.int)) ∈ TT := tt_mem (tb4 (List.mem_of_getElem? (i := 58) rfl)) rfl
theorem w779 : (Cond.methodLink "LockHouseModel" (81 : Nat) ({ cls := "LockHouseModel", name := "sequence", desc := "(II)I" } : MethodName)) ∈ TT := tt_mem (tb4 (List.mem_of_getElem? (i := 59) rfl)) rfl
theorem u780 : (Cond.privateMethod ({ cls := "LockHouseModel", name := "sequence", desc := "(II)I" } : MethodName)) ∈ lw_tbl := tb4 (List.mem_of_getElem? (i := 60) rfl)
theorem w781 : (Cond.instanceMethod ({ cls := "LockHouseModel", name := "sequence", desc := "(II)I" } : MethodName)) ∈ TT := tt_mem (tb4 (List.mem_of_getElem? (i := 61) rfl)) rfl
theorem w782 : (Cond.code ({ cls := "LockHouseModel", name := "sequence", desc := "(II)I" } : MethodName) prog_8_method_11_code (3 : Nat) (Option.some FieldType.int)) ∈ TT := tt_mem (tb4 (List.mem_of_getElem? (i := 62) rfl)) rfl
theorem w783 : (Cond.methodLink "LockHouseModel" (92 : Nat) ({ cls := "LockHouseModel", name := "first", desc := "(I)I" } : MethodName)) ∈ TT := tt_mem (tb4 (List.mem_of_getElem? (i := 63) rfl)) rfl
theorem u784 : (Cond.privateMethod ({ cls := "LockHouseModel", name := "first", desc := "(I)I" } : MethodName)) ∈ lw_tbl := tb4 (List.mem_of_getElem? (i := 64) rfl)
theorem w785 : (Cond.instanceMethod ({ cls := "LockHouseModel", name := "first", desc := "(I)I" } : MethodName)) ∈ TT := tt_mem (tb4 (List.mem_of_getElem? (i := 65) rfl)) rfl
theorem w786 : (Cond.code ({ cls := "LockHouseModel", name := "first", desc := "(I)I" } : MethodName) prog_8_method_14_code (2 : Nat) (Option.some FieldType.int)) ∈ TT := tt_mem (tb4 (List.mem_of_getElem? (i := 66) rfl)) rfl
theorem w787 : (Cond.methodLink "LockHouseModel" (95 : Nat) ({ cls := "LockHouseModel", name := "seen", desc := "(I)I" } : MethodName)) ∈ TT := tt_mem (tb4 (List.mem_of_getElem? (i := 67) rfl)) rfl
theorem u788 : (Cond.privateMethod ({ cls := "LockHouseModel", name := "seen", desc := "(I)I" } : MethodName)) ∈ lw_tbl := tb4 (List.mem_of_getElem? (i := 68) rfl)
theorem w789 : (Cond.instanceMethod ({ cls := "LockHouseModel", name := "seen", desc := "(I)I" } : MethodName)) ∈ TT := tt_mem (tb4 (List.mem_of_getElem? (i := 69) rfl)) rfl
theorem w790 : (Cond.code ({ cls := "LockHouseModel", name := "seen", desc := "(I)I" } : MethodName) prog_8_method_15_code (2 : Nat) (Option.some FieldType.int)) ∈ TT := tt_mem (tb4 (List.mem_of_getElem? (i := 70) rfl)) rfl
theorem w791 : (Cond.methodLink "LockHouseModel" (106 : Nat) ({ cls := "LockHouseModel", name := "give", desc := "(IIII)V" } : MethodName)) ∈ TT := tt_mem (tb4 (List.mem_of_getElem? (i := 71) rfl)) rfl
theorem u792 : (Cond.privateMethod ({ cls := "LockHouseModel", name := "give", desc := "(IIII)V" } : MethodName)) ∈ lw_tbl := tb4 (List.mem_of_getElem? (i := 72) rfl)
theorem w793 : (Cond.instanceMethod ({ cls := "LockHouseModel", name := "give", desc := "(IIII)V" } : MethodName)) ∈ TT := tt_mem (tb4 (List.mem_of_getElem? (i := 73) rfl)) rfl
theorem w794 : (Cond.code ({ cls := "LockHouseModel", name := "give", desc := "(IIII)V" } : MethodName) prog_8_method_18_code (6 : Nat) (Option.none : Option FieldType)) ∈ TT := tt_mem (tb4 (List.mem_of_getElem? (i := 74) rfl)) rfl
theorem w795 : (Cond.methodLink "LockHouseLaw" (107 : Nat) ({ cls := "LockHouseModel", name := "zoneOf", desc := "(II)V" } : MethodName)) ∈ TT := tt_mem (tb4 (List.mem_of_getElem? (i := 75) rfl)) rfl
theorem w796 : (Cond.instanceMethod ({ cls := "LockHouseModel", name := "zoneOf", desc := "(II)V" } : MethodName)) ∈ TT := tt_mem (tb4 (List.mem_of_getElem? (i := 76) rfl)) rfl
theorem w797 : (Cond.selects "LockHouseModel" ({ cls := "LockHouseModel", name := "zoneOf", desc := "(II)V" } : MethodName) ({ cls := "LockHouseModel", name := "zoneOf", desc := "(II)V" } : MethodName)) ∈ TT := tt_mem (tb4 (List.mem_of_getElem? (i := 77) rfl)) rfl
theorem w798 : (Cond.code ({ cls := "LockHouseModel", name := "zoneOf", desc := "(II)V" } : MethodName) prog_8_method_20_code (3 : Nat) (Option.none : Option FieldType)) ∈ TT := tt_mem (tb4 (List.mem_of_getElem? (i := 78) rfl)) rfl
theorem w799 : (Cond.methodLink "LockHouseModel" (109 : Nat) ({ cls := "LockHouseModel", name := "noDoor", desc := "(I)Z" } : MethodName)) ∈ TT := tt_mem (tb4 (List.mem_of_getElem? (i := 79) rfl)) rfl
theorem w800 : (Cond.static ({ cls := "LockHouseModel", name := "noDoor", desc := "(I)Z" } : MethodName)) ∈ TT := tt_mem (tb4 (List.mem_of_getElem? (i := 80) rfl)) rfl
theorem w801 : (Cond.code ({ cls := "LockHouseModel", name := "noDoor", desc := "(I)Z" } : MethodName) prog_8_method_4_code (1 : Nat) (Option.some FieldType.boolean)) ∈ TT := tt_mem (tb4 (List.mem_of_getElem? (i := 81) rfl)) rfl
theorem w802 : (Cond.methodLink "LockHouseLaw" (111 : Nat) ({ cls := "LockHouseModel", name := "show", desc := "(III)I" } : MethodName)) ∈ TT := tt_mem (tb4 (List.mem_of_getElem? (i := 82) rfl)) rfl
theorem w803 : (Cond.instanceMethod ({ cls := "LockHouseModel", name := "show", desc := "(III)I" } : MethodName)) ∈ TT := tt_mem (tb4 (List.mem_of_getElem? (i := 83) rfl)) rfl
theorem w804 : (Cond.selects "LockHouseModel" ({ cls := "LockHouseModel", name := "show", desc := "(III)I" } : MethodName) ({ cls := "LockHouseModel", name := "show", desc := "(III)I" } : MethodName)) ∈ TT := tt_mem (tb4 (List.mem_of_getElem? (i := 84) rfl)) rfl
theorem w805 : (Cond.code ({ cls := "LockHouseModel", name := "show", desc := "(III)I" } : MethodName) prog_8_method_25_code (4 : Nat) (Option.some FieldType.int)) ∈ TT := tt_mem (tb4 (List.mem_of_getElem? (i := 85) rfl)) rfl
theorem w806 : (Cond.methodLink "LockHouseModel" (118 : Nat) ({ cls := "LockHouseModel", name := "visitAt", desc := "(III)I" } : MethodName)) ∈ TT := tt_mem (tb4 (List.mem_of_getElem? (i := 86) rfl)) rfl
theorem u807 : (Cond.privateMethod ({ cls := "LockHouseModel", name := "visitAt", desc := "(III)I" } : MethodName)) ∈ lw_tbl := tb4 (List.mem_of_getElem? (i := 87) rfl)
theorem w808 : (Cond.instanceMethod ({ cls := "LockHouseModel", name := "visitAt", desc := "(III)I" } : MethodName)) ∈ TT := tt_mem (tb4 (List.mem_of_getElem? (i := 88) rfl)) rfl
theorem w809 : (Cond.code ({ cls := "LockHouseModel", name := "visitAt", desc := "(III)I" } : MethodName) prog_8_method_23_code (9 : Nat) (Option.some FieldType.int)) ∈ TT := tt_mem (tb4 (List.mem_of_getElem? (i := 89) rfl)) rfl
theorem w810 : (Cond.methodLink "LockHouseModel" (112 : Nat) ({ cls := "LockHouseModel", name := "revokedAt", desc := "(II)Z" } : MethodName)) ∈ TT := tt_mem (tb4 (List.mem_of_getElem? (i := 90) rfl)) rfl
theorem u811 : (Cond.privateMethod ({ cls := "LockHouseModel", name := "revokedAt", desc := "(II)Z" } : MethodName)) ∈ lw_tbl := tb4 (List.mem_of_getElem? (i := 91) rfl)
theorem w812 : (Cond.instanceMethod ({ cls := "LockHouseModel", name := "revokedAt", desc := "(II)Z" } : MethodName)) ∈ TT := tt_mem (tb4 (List.mem_of_getElem? (i := 92) rfl)) rfl
theorem w813 : (Cond.code ({ cls := "LockHouseModel", name := "revokedAt", desc := "(II)Z" } : MethodName) prog_8_method_24_code (3 : Nat) (Option.some FieldType.boolean)) ∈ TT := tt_mem (tb4 (List.mem_of_getElem? (i := 93) rfl)) rfl
theorem w814 : (Cond.methodLink "LockHouseModel" (115 : Nat) ({ cls := "LockHouseModel", name := "greatest", desc := "(I)I" } : MethodName)) ∈ TT := tt_mem (tb4 (List.mem_of_getElem? (i := 94) rfl)) rfl
theorem u815 : (Cond.privateMethod ({ cls := "LockHouseModel", name := "greatest", desc := "(I)I" } : MethodName)) ∈ lw_tbl := tb4 (List.mem_of_getElem? (i := 95) rfl)
theorem w816 : (Cond.instanceMethod ({ cls := "LockHouseModel", name := "greatest", desc := "(I)I" } : MethodName)) ∈ TT := tt_mem (tb4 (List.mem_of_getElem? (i := 96) rfl)) rfl
theorem w817 : (Cond.code ({ cls := "LockHouseModel", name := "greatest", desc := "(I)I" } : MethodName) prog_8_method_21_code (3 : Nat) (Option.some FieldType.int)) ∈ TT := tt_mem (tb4 (List.mem_of_getElem? (i := 97) rfl)) rfl
theorem w818 : (Cond.methodLink "LockHouseLaw" (114 : Nat) ({ cls := "LockHouseModel", name := "tear", desc := "(II)V" } : MethodName)) ∈ TT := tt_mem (tb4 (List.mem_of_getElem? (i := 98) rfl)) rfl
theorem w819 : (Cond.instanceMethod ({ cls := "LockHouseModel", name := "tear", desc := "(II)V" } : MethodName)) ∈ TT := tt_mem (tb4 (List.mem_of_getElem? (i := 99) rfl)) rfl
theorem w820 : (Cond.selects "LockHouseModel" ({ cls := "LockHouseModel", name := "tear", desc := "(II)V" } : MethodName) ({ cls := "LockHouseModel", name := "tear", desc := "(II)V" } : MethodName)) ∈ TT := tt_mem (tb4 (List.mem_of_getElem? (i := 100) rfl)) rfl
theorem w821 : (Cond.code ({ cls := "LockHouseModel", name := "tear", desc := "(II)V" } : MethodName) prog_8_method_26_code (3 : Nat) (Option.none : Option FieldType)) ∈ TT := tt_mem (tb4 (List.mem_of_getElem? (i := 101) rfl)) rfl
theorem w822 : (Cond.methodLink "LockHouseLaw" (117 : Nat) ({ cls := "LockHouseModel", name := "written", desc := "(I)I" } : MethodName)) ∈ TT := tt_mem (tb4 (List.mem_of_getElem? (i := 102) rfl)) rfl
theorem w823 : (Cond.instanceMethod ({ cls := "LockHouseModel", name := "written", desc := "(I)I" } : MethodName)) ∈ TT := tt_mem (tb4 (List.mem_of_getElem? (i := 103) rfl)) rfl
theorem w824 : (Cond.selects "LockHouseModel" ({ cls := "LockHouseModel", name := "written", desc := "(I)I" } : MethodName) ({ cls := "LockHouseModel", name := "written", desc := "(I)I" } : MethodName)) ∈ TT := tt_mem (tb4 (List.mem_of_getElem? (i := 104) rfl)) rfl
theorem w825 : (Cond.code ({ cls := "LockHouseModel", name := "written", desc := "(I)I" } : MethodName) prog_8_method_27_code (2 : Nat) (Option.some FieldType.int)) ∈ TT := tt_mem (tb4 (List.mem_of_getElem? (i := 105) rfl)) rfl
theorem w826 : (Cond.methodLink "LockHouseLaw" (120 : Nat) ({ cls := "LockHouseModel", name := "word", desc := "(III)I" } : MethodName)) ∈ TT := tt_mem (tb4 (List.mem_of_getElem? (i := 106) rfl)) rfl
theorem w827 : (Cond.instanceMethod ({ cls := "LockHouseModel", name := "word", desc := "(III)I" } : MethodName)) ∈ TT := tt_mem (tb4 (List.mem_of_getElem? (i := 107) rfl)) rfl
theorem w828 : (Cond.selects "LockHouseModel" ({ cls := "LockHouseModel", name := "word", desc := "(III)I" } : MethodName) ({ cls := "LockHouseModel", name := "word", desc := "(III)I" } : MethodName)) ∈ TT := tt_mem (tb4 (List.mem_of_getElem? (i := 108) rfl)) rfl
theorem w829 : (Cond.code ({ cls := "LockHouseModel", name := "word", desc := "(III)I" } : MethodName) prog_8_method_28_code (4 : Nat) (Option.some FieldType.int)) ∈ TT := tt_mem (tb4 (List.mem_of_getElem? (i := 109) rfl)) rfl
theorem w830 : (Cond.methodLink "LockHouseLaw" (123 : Nat) ({ cls := "LockHouseModel", name := "carries", desc := "(II)I" } : MethodName)) ∈ TT := tt_mem (tb4 (List.mem_of_getElem? (i := 110) rfl)) rfl
theorem w831 : (Cond.instanceMethod ({ cls := "LockHouseModel", name := "carries", desc := "(II)I" } : MethodName)) ∈ TT := tt_mem (tb4 (List.mem_of_getElem? (i := 111) rfl)) rfl
theorem w832 : (Cond.selects "LockHouseModel" ({ cls := "LockHouseModel", name := "carries", desc := "(II)I" } : MethodName) ({ cls := "LockHouseModel", name := "carries", desc := "(II)I" } : MethodName)) ∈ TT := tt_mem (tb4 (List.mem_of_getElem? (i := 112) rfl)) rfl
theorem w833 : (Cond.code ({ cls := "LockHouseModel", name := "carries", desc := "(II)I" } : MethodName) prog_8_method_29_code (3 : Nat) (Option.some FieldType.int)) ∈ TT := tt_mem (tb4 (List.mem_of_getElem? (i := 113) rfl)) rfl
theorem w834 : (Cond.methodLink "LockHouseLaw" (126 : Nat) ({ cls := "LockHouseModel", name := "memory", desc := "(II)I" } : MethodName)) ∈ TT := tt_mem (tb4 (List.mem_of_getElem? (i := 114) rfl)) rfl
theorem w835 : (Cond.instanceMethod ({ cls := "LockHouseModel", name := "memory", desc := "(II)I" } : MethodName)) ∈ TT := tt_mem (tb4 (List.mem_of_getElem? (i := 115) rfl)) rfl
theorem w836 : (Cond.selects "LockHouseModel" ({ cls := "LockHouseModel", name := "memory", desc := "(II)I" } : MethodName) ({ cls := "LockHouseModel", name := "memory", desc := "(II)I" } : MethodName)) ∈ TT := tt_mem (tb4 (List.mem_of_getElem? (i := 116) rfl)) rfl
theorem w837 : (Cond.code ({ cls := "LockHouseModel", name := "memory", desc := "(II)I" } : MethodName) prog_8_method_30_code (3 : Nat) (Option.some FieldType.int)) ∈ TT := tt_mem (tb4 (List.mem_of_getElem? (i := 117) rfl)) rfl
theorem w838 : (Cond.methodLink "LockHouseLaw" (129 : Nat) ({ cls := "LockHouseModel", name := "about", desc := "(II)I" } : MethodName)) ∈ TT := tt_mem (tb4 (List.mem_of_getElem? (i := 118) rfl)) rfl
theorem w839 : (Cond.instanceMethod ({ cls := "LockHouseModel", name := "about", desc := "(II)I" } : MethodName)) ∈ TT := tt_mem (tb4 (List.mem_of_getElem? (i := 119) rfl)) rfl
theorem w840 : (Cond.selects "LockHouseModel" ({ cls := "LockHouseModel", name := "about", desc := "(II)I" } : MethodName) ({ cls := "LockHouseModel", name := "about", desc := "(II)I" } : MethodName)) ∈ TT := tt_mem (tb4 (List.mem_of_getElem? (i := 120) rfl)) rfl
theorem w841 : (Cond.code ({ cls := "LockHouseModel", name := "about", desc := "(II)I" } : MethodName) prog_8_method_33_code (5 : Nat) (Option.some FieldType.int)) ∈ TT := tt_mem (tb4 (List.mem_of_getElem? (i := 121) rfl)) rfl
theorem w842 : (Cond.methodLink "LockHouseModel" (121 : Nat) ({ cls := "LockHouseModel", name := "complete", desc := "(I)I" } : MethodName)) ∈ TT := tt_mem (tb4 (List.mem_of_getElem? (i := 122) rfl)) rfl
theorem u843 : (Cond.privateMethod ({ cls := "LockHouseModel", name := "complete", desc := "(I)I" } : MethodName)) ∈ lw_tbl := tb4 (List.mem_of_getElem? (i := 123) rfl)
theorem w844 : (Cond.instanceMethod ({ cls := "LockHouseModel", name := "complete", desc := "(I)I" } : MethodName)) ∈ TT := tt_mem (tb4 (List.mem_of_getElem? (i := 124) rfl)) rfl
theorem w845 : (Cond.code ({ cls := "LockHouseModel", name := "complete", desc := "(I)I" } : MethodName) prog_8_method_22_code (3 : Nat) (Option.some FieldType.int)) ∈ TT := tt_mem (tb4 (List.mem_of_getElem? (i := 125) rfl)) rfl
theorem w846 : (Cond.methodLink "LockHouseModel" (124 : Nat) ({ cls := "LockHouseModel", name := "marks", desc := "(I)I" } : MethodName)) ∈ TT := tt_mem (tb4 (List.mem_of_getElem? (i := 126) rfl)) rfl
theorem u847 : (Cond.privateMethod ({ cls := "LockHouseModel", name := "marks", desc := "(I)I" } : MethodName)) ∈ lw_tbl := tb4 (List.mem_of_getElem? (i := 127) rfl)
theorem w848 : (Cond.instanceMethod ({ cls := "LockHouseModel", name := "marks", desc := "(I)I" } : MethodName)) ∈ TT := tt_mem (tb4 (List.mem_of_getElem? (i := 128) rfl)) rfl
theorem w849 : (Cond.code ({ cls := "LockHouseModel", name := "marks", desc := "(I)I" } : MethodName) prog_8_method_31_code (4 : Nat) (Option.some FieldType.int)) ∈ TT := tt_mem (tb4 (List.mem_of_getElem? (i := 129) rfl)) rfl
theorem w850 : (Cond.methodLink "LockHouseModel" (127 : Nat) ({ cls := "LockHouseModel", name := "runs", desc := "(I)I" } : MethodName)) ∈ TT := tt_mem (tb4 (List.mem_of_getElem? (i := 130) rfl)) rfl
theorem u851 : (Cond.privateMethod ({ cls := "LockHouseModel", name := "runs", desc := "(I)I" } : MethodName)) ∈ lw_tbl := tb4 (List.mem_of_getElem? (i := 131) rfl)
theorem w852 : (Cond.instanceMethod ({ cls := "LockHouseModel", name := "runs", desc := "(I)I" } : MethodName)) ∈ TT := tt_mem (tb4 (List.mem_of_getElem? (i := 132) rfl)) rfl
theorem w853 : (Cond.code ({ cls := "LockHouseModel", name := "runs", desc := "(I)I" } : MethodName) prog_8_method_32_code (4 : Nat) (Option.some FieldType.int)) ∈ TT := tt_mem (tb4 (List.mem_of_getElem? (i := 133) rfl)) rfl
theorem w854 : (Cond.methodLink "LockHouseLaw" (133 : Nat) ({ cls := "LockHouseModel", name := "run", desc := "(IIZ)I" } : MethodName)) ∈ TT := tt_mem (tb4 (List.mem_of_getElem? (i := 134) rfl)) rfl
theorem w855 : (Cond.instanceMethod ({ cls := "LockHouseModel", name := "run", desc := "(IIZ)I" } : MethodName)) ∈ TT := tt_mem (tb4 (List.mem_of_getElem? (i := 135) rfl)) rfl
theorem w856 : (Cond.selects "LockHouseModel" ({ cls := "LockHouseModel", name := "run", desc := "(IIZ)I" } : MethodName) ({ cls := "LockHouseModel", name := "run", desc := "(IIZ)I" } : MethodName)) ∈ TT := tt_mem (tb4 (List.mem_of_getElem? (i := 136) rfl)) rfl
theorem w857 : (Cond.code ({ cls := "LockHouseModel", name := "run", desc := "(IIZ)I" } : MethodName) prog_8_method_34_code (6 : Nat) (Option.some FieldType.int)) ∈ TT := tt_mem (tb4 (List.mem_of_getElem? (i := 137) rfl)) rfl
theorem w858 : (Cond.methodLink "LockHouseLaw" (136 : Nat) ({ cls := "LockHouseModel", name := "refuses", desc := "(II)Z" } : MethodName)) ∈ TT := tt_mem (tb4 (List.mem_of_getElem? (i := 138) rfl)) rfl
theorem w859 : (Cond.instanceMethod ({ cls := "LockHouseModel", name := "refuses", desc := "(II)Z" } : MethodName)) ∈ TT := tt_mem (tb4 (List.mem_of_getElem? (i := 139) rfl)) rfl
theorem w860 : (Cond.selects "LockHouseModel" ({ cls := "LockHouseModel", name := "refuses", desc := "(II)Z" } : MethodName) ({ cls := "LockHouseModel", name := "refuses", desc := "(II)Z" } : MethodName)) ∈ TT := tt_mem (tb4 (List.mem_of_getElem? (i := 140) rfl)) rfl
theorem w861 : (Cond.code ({ cls := "LockHouseModel", name := "refuses", desc := "(II)Z" } : MethodName) prog_8_method_35_code (3 : Nat) (Option.some FieldType.boolean)) ∈ TT := tt_mem (tb4 (List.mem_of_getElem? (i := 141) rfl)) rfl
theorem w862 : (Cond.methodLink "LockHouseLaw" (139 : Nat) ({ cls := "LockHouseModel", name := "reach", desc := "(I)I" } : MethodName)) ∈ TT := tt_mem (tb4 (List.mem_of_getElem? (i := 142) rfl)) rfl
theorem w863 : (Cond.instanceMethod ({ cls := "LockHouseModel", name := "reach", desc := "(I)I" } : MethodName)) ∈ TT := tt_mem (tb4 (List.mem_of_getElem? (i := 143) rfl)) rfl
theorem w864 : (Cond.selects "LockHouseModel" ({ cls := "LockHouseModel", name := "reach", desc := "(I)I" } : MethodName) ({ cls := "LockHouseModel", name := "reach", desc := "(I)I" } : MethodName)) ∈ TT := tt_mem (tb4 (List.mem_of_getElem? (i := 144) rfl)) rfl
theorem w865 : (Cond.code ({ cls := "LockHouseModel", name := "reach", desc := "(I)I" } : MethodName) prog_8_method_36_code (4 : Nat) (Option.some FieldType.int)) ∈ TT := tt_mem (tb4 (List.mem_of_getElem? (i := 145) rfl)) rfl
theorem w866 : (Cond.methodLink "LockHouseLaw" (142 : Nat) ({ cls := "LockHouseModel", name := "loseBattery", desc := "(I)V" } : MethodName)) ∈ TT := tt_mem (tb4 (List.mem_of_getElem? (i := 146) rfl)) rfl
theorem w867 : (Cond.instanceMethod ({ cls := "LockHouseModel", name := "loseBattery", desc := "(I)V" } : MethodName)) ∈ TT := tt_mem (tb4 (List.mem_of_getElem? (i := 147) rfl)) rfl
theorem w868 : (Cond.selects "LockHouseModel" ({ cls := "LockHouseModel", name := "loseBattery", desc := "(I)V" } : MethodName) ({ cls := "LockHouseModel", name := "loseBattery", desc := "(I)V" } : MethodName)) ∈ TT := tt_mem (tb4 (List.mem_of_getElem? (i := 148) rfl)) rfl
theorem w869 : (Cond.code ({ cls := "LockHouseModel", name := "loseBattery", desc := "(I)V" } : MethodName) prog_8_method_37_code (2 : Nat) (Option.none : Option FieldType)) ∈ TT := tt_mem (tb4 (List.mem_of_getElem? (i := 149) rfl)) rfl
theorem w870 : (Cond.methodLink "LockHouseLaw" (146 : Nat) ({ cls := "LockHouseModel", name := "visit", desc := "(IIII)V" } : MethodName)) ∈ TT := tt_mem (tb4 (List.mem_of_getElem? (i := 150) rfl)) rfl
theorem w871 : (Cond.instanceMethod ({ cls := "LockHouseModel", name := "visit", desc := "(IIII)V" } : MethodName)) ∈ TT := tt_mem (tb4 (List.mem_of_getElem? (i := 151) rfl)) rfl
theorem w872 : (Cond.selects "LockHouseModel" ({ cls := "LockHouseModel", name := "visit", desc := "(IIII)V" } : MethodName) ({ cls := "LockHouseModel", name := "visit", desc := "(IIII)V" } : MethodName)) ∈ TT := tt_mem (tb4 (List.mem_of_getElem? (i := 152) rfl)) rfl
theorem w873 : (Cond.code ({ cls := "LockHouseModel", name := "visit", desc := "(IIII)V" } : MethodName) prog_8_method_38_code (5 : Nat) (Option.none : Option FieldType)) ∈ TT := tt_mem (tb4 (List.mem_of_getElem? (i := 153) rfl)) rfl
theorem w874 : (Cond.methodLink "LockHouseLaw" (149 : Nat) ({ cls := "LockHouseModel", name := "spread", desc := "(I)I" } : MethodName)) ∈ TT := tt_mem (tb4 (List.mem_of_getElem? (i := 154) rfl)) rfl
theorem w875 : (Cond.instanceMethod ({ cls := "LockHouseModel", name := "spread", desc := "(I)I" } : MethodName)) ∈ TT := tt_mem (tb4 (List.mem_of_getElem? (i := 155) rfl)) rfl
theorem w876 : (Cond.selects "LockHouseModel" ({ cls := "LockHouseModel", name := "spread", desc := "(I)I" } : MethodName) ({ cls := "LockHouseModel", name := "spread", desc := "(I)I" } : MethodName)) ∈ TT := tt_mem (tb4 (List.mem_of_getElem? (i := 156) rfl)) rfl
theorem w877 : (Cond.code ({ cls := "LockHouseModel", name := "spread", desc := "(I)I" } : MethodName) prog_8_method_39_code (4 : Nat) (Option.some FieldType.int)) ∈ TT := tt_mem (tb4 (List.mem_of_getElem? (i := 157) rfl)) rfl
theorem w878 : (Cond.arrayClass FieldType.long) ∈ TT := tt_mem (tb4 (List.mem_of_getElem? (i := 158) rfl)) rfl
theorem w879 : (Cond.sameMethod "java/lang/Throwable" "java/lang/Throwable" "fillInStackTrace" "(I)Ljava/lang/Throwable;") ∈ TT := tt_mem (tb4 (List.mem_of_getElem? (i := 159) rfl)) rfl
theorem u880 : (Cond.castable "LockHouse$Card" "LockHouse$Card") ∈ lw_tbl := tb4 (List.mem_of_getElem? (i := 160) rfl)
theorem u881 : (Cond.castable "LockHouse$Entry" "LockHouse$Entry") ∈ lw_tbl := tb4 (List.mem_of_getElem? (i := 161) rfl)
theorem w882 : (Cond.sameMethod "[Ljava/lang/Object;" "java/lang/Object" "getClass" "()Ljava/lang/Class;") ∈ TT := tt_mem (tb4 (List.mem_of_getElem? (i := 162) rfl)) rfl
theorem w883 : (Cond.selects "[Ljava/lang/Object;" ({ cls := "java/lang/Object", name := "getClass", desc := "()Ljava/lang/Class;" } : MethodName) ({ cls := "java/lang/Object", name := "getClass", desc := "()Ljava/lang/Class;" } : MethodName)) ∈ TT := tt_mem (tb4 (List.mem_of_getElem? (i := 163) rfl)) rfl
theorem u884 : (Cond.declares ({ cls := "java/lang/Object", name := "getClass", desc := "()Ljava/lang/Class;" } : MethodName)) ∈ lw_tbl := tb4 (List.mem_of_getElem? (i := 164) rfl)
theorem u885 : (Cond.castable "LockHouse" "java/lang/Object") ∈ lw_tbl := tb4 (List.mem_of_getElem? (i := 165) rfl)
theorem u886 : (Cond.castable "LockHouse$EntryList" "java/lang/Object") ∈ lw_tbl := tb4 (List.mem_of_getElem? (i := 166) rfl)
theorem u887 : (Cond.castable "LockHouse$Door" "java/lang/Object") ∈ lw_tbl := tb4 (List.mem_of_getElem? (i := 167) rfl)
theorem u888 : (Cond.castable "LockHouseModel" "java/lang/Object") ∈ lw_tbl := tb4 (List.mem_of_getElem? (i := 168) rfl)
theorem u889 : (Cond.castable "LockHouse$Card" "java/lang/Object") ∈ lw_tbl := tb4 (List.mem_of_getElem? (i := 169) rfl)
theorem u890 : (Cond.castable "LockHouse$Image" "java/lang/Object") ∈ lw_tbl := tb4 (List.mem_of_getElem? (i := 170) rfl)
theorem u891 : (Cond.castable "LockHouse$Entry" "java/lang/Object") ∈ lw_tbl := tb4 (List.mem_of_getElem? (i := 171) rfl)
theorem u892 : (Cond.castable "java/lang/String" "java/lang/Object") ∈ lw_tbl := tb4 (List.mem_of_getElem? (i := 172) rfl)
end
