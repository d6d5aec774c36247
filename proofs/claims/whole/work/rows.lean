section
-- ===== PART A: goes FIRST, ahead of the names: the tables' words, and 'selects' of the private methods out of them =====
/-- a private method of a class that the tables say can be made, by its rows of tables_1 -/
def lw_okq (q : MethodName × Nat) : Prop := (q.1.cls ≠ "java/lang/invoke/MethodHandle" ∧ q.1.cls ≠ "java/lang/invoke/VarHandle") ∧ Cond.instantiable q.1.cls q.2 ∈ tables_1 ∧ Cond.privateMethod q.1 ∈ tables_1 ∧ Cond.instanceMethod q.1 ∈ tables_1
theorem lw_p0 : lw_okq (⟨"java/lang/Throwable", "fillInStackTrace", "(I)Ljava/lang/Throwable;"⟩, 6) := ⟨⟨by decide +kernel, by decide +kernel⟩, List.mem_of_getElem? (i := 183) (by decide +kernel), List.mem_of_getElem? (i := 181) (by decide +kernel), List.mem_of_getElem? (i := 182) (by decide +kernel)⟩
theorem lw_p1 : lw_okq (⟨"java/util/ArrayList", "add", "(Ljava/lang/Object;[Ljava/lang/Object;I)V"⟩, 3) := ⟨⟨by decide +kernel, by decide +kernel⟩, List.mem_of_getElem? (i := 32) (by decide +kernel), List.mem_of_getElem? (i := 264) (by decide +kernel), List.mem_of_getElem? (i := 265) (by decide +kernel)⟩
theorem lw_p2 : lw_okq (⟨"java/util/ArrayList", "grow", "()[Ljava/lang/Object;"⟩, 3) := ⟨⟨by decide +kernel, by decide +kernel⟩, List.mem_of_getElem? (i := 32) (by decide +kernel), List.mem_of_getElem? (i := 268) (by decide +kernel), List.mem_of_getElem? (i := 269) (by decide +kernel)⟩
theorem lw_p3 : lw_okq (⟨"java/util/ArrayList", "grow", "(I)[Ljava/lang/Object;"⟩, 3) := ⟨⟨by decide +kernel, by decide +kernel⟩, List.mem_of_getElem? (i := 32) (by decide +kernel), List.mem_of_getElem? (i := 272) (by decide +kernel), List.mem_of_getElem? (i := 273) (by decide +kernel)⟩
theorem lw_p4 : lw_okq (⟨"LockHouse", "cardAt", "(I)LLockHouse$Card;"⟩, 6) := ⟨⟨by decide +kernel, by decide +kernel⟩, List.mem_of_getElem? (i := 24) (by decide +kernel), List.mem_of_getElem? (i := 326) (by decide +kernel), List.mem_of_getElem? (i := 327) (by decide +kernel)⟩
theorem lw_p5 : lw_okq (⟨"LockHouse", "isCard", "(I)Z"⟩, 6) := ⟨⟨by decide +kernel, by decide +kernel⟩, List.mem_of_getElem? (i := 24) (by decide +kernel), List.mem_of_getElem? (i := 330) (by decide +kernel), List.mem_of_getElem? (i := 331) (by decide +kernel)⟩
theorem lw_p6 : lw_okq (⟨"LockHouse$Card", "putNext", "(LLockHouse$Image;II)V"⟩, 8) := ⟨⟨by decide +kernel, by decide +kernel⟩, List.mem_of_getElem? (i := 213) (by decide +kernel), List.mem_of_getElem? (i := 425) (by decide +kernel), List.mem_of_getElem? (i := 426) (by decide +kernel)⟩
theorem lw_p7 : lw_okq (⟨"LockHouse$EntryList", "holds", "(I)Z"⟩, 1) := ⟨⟨by decide +kernel, by decide +kernel⟩, List.mem_of_getElem? (i := 58) (by decide +kernel), List.mem_of_getElem? (i := 437) (by decide +kernel), List.mem_of_getElem? (i := 438) (by decide +kernel)⟩
theorem lw_p8 : lw_okq (⟨"LockHouse", "doorAt", "(I)LLockHouse$Door;"⟩, 6) := ⟨⟨by decide +kernel, by decide +kernel⟩, List.mem_of_getElem? (i := 24) (by decide +kernel), List.mem_of_getElem? (i := 450) (by decide +kernel), List.mem_of_getElem? (i := 451) (by decide +kernel)⟩
theorem lw_p9 : lw_okq (⟨"LockHouse", "isDoor", "(I)Z"⟩, 6) := ⟨⟨by decide +kernel, by decide +kernel⟩, List.mem_of_getElem? (i := 24) (by decide +kernel), List.mem_of_getElem? (i := 454) (by decide +kernel), List.mem_of_getElem? (i := 455) (by decide +kernel)⟩
theorem lw_p10 : lw_okq (⟨"LockHouse", "present", "(LLockHouse$Card;LLockHouse$Door;I)I"⟩, 6) := ⟨⟨by decide +kernel, by decide +kernel⟩, List.mem_of_getElem? (i := 24) (by decide +kernel), List.mem_of_getElem? (i := 483) (by decide +kernel), List.mem_of_getElem? (i := 484) (by decide +kernel)⟩
theorem lw_p11 : lw_okq (⟨"LockHouse$Door", "startsRun", "(ILLockHouse$EntryList;)Z"⟩, 5) := ⟨⟨by decide +kernel, by decide +kernel⟩, List.mem_of_getElem? (i := 71) (by decide +kernel), List.mem_of_getElem? (i := 600) (by decide +kernel), List.mem_of_getElem? (i := 601) (by decide +kernel)⟩
theorem lw_p12 : lw_okq (⟨"LockHouseModel", "noCard", "(I)Z"⟩, 18) := ⟨⟨by decide +kernel, by decide +kernel⟩, List.mem_of_getElem? (i := 665) (by decide +kernel), List.mem_of_getElem? (i := 744) (by decide +kernel), List.mem_of_getElem? (i := 745) (by decide +kernel)⟩
theorem lw_p13 : lw_okq (⟨"LockHouseModel", "write", "(IIII)V"⟩, 18) := ⟨⟨by decide +kernel, by decide +kernel⟩, List.mem_of_getElem? (i := 665) (by decide +kernel), List.mem_of_getElem? (i := 756) (by decide +kernel), List.mem_of_getElem? (i := 757) (by decide +kernel)⟩
theorem lw_p14 : lw_okq (⟨"LockHouseModel", "tells", "(IIII)Z"⟩, 18) := ⟨⟨by decide +kernel, by decide +kernel⟩, List.mem_of_getElem? (i := 665) (by decide +kernel), List.mem_of_getElem? (i := 760) (by decide +kernel), List.mem_of_getElem? (i := 761) (by decide +kernel)⟩
theorem lw_p15 : lw_okq (⟨"LockHouseModel", "count", "(I)I"⟩, 18) := ⟨⟨by decide +kernel, by decide +kernel⟩, List.mem_of_getElem? (i := 665) (by decide +kernel), List.mem_of_getElem? (i := 764) (by decide +kernel), List.mem_of_getElem? (i := 765) (by decide +kernel)⟩
def lw_privs_1 : List (MethodName × Nat) := [(⟨"java/lang/Throwable", "fillInStackTrace", "(I)Ljava/lang/Throwable;"⟩, 6), (⟨"java/util/ArrayList", "add", "(Ljava/lang/Object;[Ljava/lang/Object;I)V"⟩, 3), (⟨"java/util/ArrayList", "grow", "()[Ljava/lang/Object;"⟩, 3), (⟨"java/util/ArrayList", "grow", "(I)[Ljava/lang/Object;"⟩, 3), (⟨"LockHouse", "cardAt", "(I)LLockHouse$Card;"⟩, 6), (⟨"LockHouse", "isCard", "(I)Z"⟩, 6), (⟨"LockHouse$Card", "putNext", "(LLockHouse$Image;II)V"⟩, 8), (⟨"LockHouse$EntryList", "holds", "(I)Z"⟩, 1), (⟨"LockHouse", "doorAt", "(I)LLockHouse$Door;"⟩, 6), (⟨"LockHouse", "isDoor", "(I)Z"⟩, 6), (⟨"LockHouse", "present", "(LLockHouse$Card;LLockHouse$Door;I)I"⟩, 6), (⟨"LockHouse$Door", "startsRun", "(ILLockHouse$EntryList;)Z"⟩, 5), (⟨"LockHouseModel", "noCard", "(I)Z"⟩, 18), (⟨"LockHouseModel", "write", "(IIII)V"⟩, 18), (⟨"LockHouseModel", "tells", "(IIII)Z"⟩, 18), (⟨"LockHouseModel", "count", "(I)I"⟩, 18)]
theorem lw_r1 : ∀ q ∈ lw_privs_1, lw_okq q := List.forall_mem_cons.mpr ⟨lw_p0, List.forall_mem_cons.mpr ⟨lw_p1, List.forall_mem_cons.mpr ⟨lw_p2, List.forall_mem_cons.mpr ⟨lw_p3, List.forall_mem_cons.mpr ⟨lw_p4, List.forall_mem_cons.mpr ⟨lw_p5, List.forall_mem_cons.mpr ⟨lw_p6, List.forall_mem_cons.mpr ⟨lw_p7, List.forall_mem_cons.mpr ⟨lw_p8, List.forall_mem_cons.mpr ⟨lw_p9, List.forall_mem_cons.mpr ⟨lw_p10, List.forall_mem_cons.mpr ⟨lw_p11, List.forall_mem_cons.mpr ⟨lw_p12, List.forall_mem_cons.mpr ⟨lw_p13, List.forall_mem_cons.mpr ⟨lw_p14, List.forall_mem_cons.mpr ⟨lw_p15, fun _ h => absurd h List.not_mem_nil⟩⟩⟩⟩⟩⟩⟩⟩⟩⟩⟩⟩⟩⟩⟩⟩
theorem lw_p16 : lw_okq (⟨"LockHouseModel", "current", "(I)I"⟩, 18) := ⟨⟨by decide +kernel, by decide +kernel⟩, List.mem_of_getElem? (i := 665) (by decide +kernel), List.mem_of_getElem? (i := 768) (by decide +kernel), List.mem_of_getElem? (i := 769) (by decide +kernel)⟩
theorem lw_p17 : lw_okq (⟨"LockHouseModel", "whole", "(II)Z"⟩, 18) := ⟨⟨by decide +kernel, by decide +kernel⟩, List.mem_of_getElem? (i := 665) (by decide +kernel), List.mem_of_getElem? (i := 772) (by decide +kernel), List.mem_of_getElem? (i := 773) (by decide +kernel)⟩
theorem lw_p18 : lw_okq (⟨"LockHouseModel", "wordAt", "(III)I"⟩, 18) := ⟨⟨by decide +kernel, by decide +kernel⟩, List.mem_of_getElem? (i := 665) (by decide +kernel), List.mem_of_getElem? (i := 776) (by decide +kernel), List.mem_of_getElem? (i := 777) (by decide +kernel)⟩
theorem lw_p19 : lw_okq (⟨"LockHouseModel", "sequence", "(II)I"⟩, 18) := ⟨⟨by decide +kernel, by decide +kernel⟩, List.mem_of_getElem? (i := 665) (by decide +kernel), List.mem_of_getElem? (i := 780) (by decide +kernel), List.mem_of_getElem? (i := 781) (by decide +kernel)⟩
theorem lw_p20 : lw_okq (⟨"LockHouseModel", "first", "(I)I"⟩, 18) := ⟨⟨by decide +kernel, by decide +kernel⟩, List.mem_of_getElem? (i := 665) (by decide +kernel), List.mem_of_getElem? (i := 784) (by decide +kernel), List.mem_of_getElem? (i := 785) (by decide +kernel)⟩
theorem lw_p21 : lw_okq (⟨"LockHouseModel", "seen", "(I)I"⟩, 18) := ⟨⟨by decide +kernel, by decide +kernel⟩, List.mem_of_getElem? (i := 665) (by decide +kernel), List.mem_of_getElem? (i := 788) (by decide +kernel), List.mem_of_getElem? (i := 789) (by decide +kernel)⟩
theorem lw_p22 : lw_okq (⟨"LockHouseModel", "give", "(IIII)V"⟩, 18) := ⟨⟨by decide +kernel, by decide +kernel⟩, List.mem_of_getElem? (i := 665) (by decide +kernel), List.mem_of_getElem? (i := 792) (by decide +kernel), List.mem_of_getElem? (i := 793) (by decide +kernel)⟩
theorem lw_p23 : lw_okq (⟨"LockHouseModel", "visitAt", "(III)I"⟩, 18) := ⟨⟨by decide +kernel, by decide +kernel⟩, List.mem_of_getElem? (i := 665) (by decide +kernel), List.mem_of_getElem? (i := 807) (by decide +kernel), List.mem_of_getElem? (i := 808) (by decide +kernel)⟩
theorem lw_p24 : lw_okq (⟨"LockHouseModel", "revokedAt", "(II)Z"⟩, 18) := ⟨⟨by decide +kernel, by decide +kernel⟩, List.mem_of_getElem? (i := 665) (by decide +kernel), List.mem_of_getElem? (i := 811) (by decide +kernel), List.mem_of_getElem? (i := 812) (by decide +kernel)⟩
theorem lw_p25 : lw_okq (⟨"LockHouseModel", "greatest", "(I)I"⟩, 18) := ⟨⟨by decide +kernel, by decide +kernel⟩, List.mem_of_getElem? (i := 665) (by decide +kernel), List.mem_of_getElem? (i := 815) (by decide +kernel), List.mem_of_getElem? (i := 816) (by decide +kernel)⟩
theorem lw_p26 : lw_okq (⟨"LockHouseModel", "complete", "(I)I"⟩, 18) := ⟨⟨by decide +kernel, by decide +kernel⟩, List.mem_of_getElem? (i := 665) (by decide +kernel), List.mem_of_getElem? (i := 843) (by decide +kernel), List.mem_of_getElem? (i := 844) (by decide +kernel)⟩
theorem lw_p27 : lw_okq (⟨"LockHouseModel", "marks", "(I)I"⟩, 18) := ⟨⟨by decide +kernel, by decide +kernel⟩, List.mem_of_getElem? (i := 665) (by decide +kernel), List.mem_of_getElem? (i := 847) (by decide +kernel), List.mem_of_getElem? (i := 848) (by decide +kernel)⟩
theorem lw_p28 : lw_okq (⟨"LockHouseModel", "runs", "(I)I"⟩, 18) := ⟨⟨by decide +kernel, by decide +kernel⟩, List.mem_of_getElem? (i := 665) (by decide +kernel), List.mem_of_getElem? (i := 851) (by decide +kernel), List.mem_of_getElem? (i := 852) (by decide +kernel)⟩
def lw_privs_2 : List (MethodName × Nat) := [(⟨"LockHouseModel", "current", "(I)I"⟩, 18), (⟨"LockHouseModel", "whole", "(II)Z"⟩, 18), (⟨"LockHouseModel", "wordAt", "(III)I"⟩, 18), (⟨"LockHouseModel", "sequence", "(II)I"⟩, 18), (⟨"LockHouseModel", "first", "(I)I"⟩, 18), (⟨"LockHouseModel", "seen", "(I)I"⟩, 18), (⟨"LockHouseModel", "give", "(IIII)V"⟩, 18), (⟨"LockHouseModel", "visitAt", "(III)I"⟩, 18), (⟨"LockHouseModel", "revokedAt", "(II)Z"⟩, 18), (⟨"LockHouseModel", "greatest", "(I)I"⟩, 18), (⟨"LockHouseModel", "complete", "(I)I"⟩, 18), (⟨"LockHouseModel", "marks", "(I)I"⟩, 18), (⟨"LockHouseModel", "runs", "(I)I"⟩, 18)]
theorem lw_r2 : ∀ q ∈ lw_privs_2, lw_okq q := List.forall_mem_cons.mpr ⟨lw_p16, List.forall_mem_cons.mpr ⟨lw_p17, List.forall_mem_cons.mpr ⟨lw_p18, List.forall_mem_cons.mpr ⟨lw_p19, List.forall_mem_cons.mpr ⟨lw_p20, List.forall_mem_cons.mpr ⟨lw_p21, List.forall_mem_cons.mpr ⟨lw_p22, List.forall_mem_cons.mpr ⟨lw_p23, List.forall_mem_cons.mpr ⟨lw_p24, List.forall_mem_cons.mpr ⟨lw_p25, List.forall_mem_cons.mpr ⟨lw_p26, List.forall_mem_cons.mpr ⟨lw_p27, List.forall_mem_cons.mpr ⟨lw_p28, fun _ h => absurd h List.not_mem_nil⟩⟩⟩⟩⟩⟩⟩⟩⟩⟩⟩⟩⟩
def lw_privs : List (MethodName × Nat) := lw_privs_1 ++ (lw_privs_2)
def lw_tbl : List Cond := k2_sels lw_privs ++ tables_1
theorem lw_privs_ok : ∀ q ∈ lw_privs, lw_okq q := by
  show ∀ q ∈ lw_privs_1 ++ (lw_privs_2), lw_okq q
  exact List.forall_mem_append.mpr ⟨lw_r1, lw_r2⟩
end
section
/-! ===== BEGIN words of one list among another's, by their places ===== -/
theorem goodIn_r {big : List Cond} (ws : List Cond) (ps : List Nat) (hp : ws = ps.filterMap (fun i => big[i]?)) (h : ws.all goodWord = true) : GoodIn big ws := by
  intro w hw
  have h1 := List.all_eq_true.mp h w hw
  rw [hp] at hw
  obtain ⟨i, -, hi⟩ := List.mem_filterMap.mp hw
  have hm : w ∈ big := by first | exact List.mem_of_getElem? hi | exact List.getElem?_mem hi
  exact ⟨hm, good_of_word h1⟩
theorem goodIn_app {big a b : List Cond} (ha : GoodIn big a) (hb : GoodIn big b) : GoodIn big (a ++ b) := fun w h => (List.mem_append.mp h).elim (ha w) (hb w)
theorem goodIn_ca {big a b : List Cond} {c : Cond} (ha : GoodIn big (c :: a)) (hb : GoodIn big b) : GoodIn big (c :: (a ++ b)) := fun w h => (List.mem_cons.mp h).elim (fun e => ha w (List.mem_cons.mpr (Or.inl e))) (fun h => (List.mem_append.mp h).elim (fun h => ha w (List.mem_cons.mpr (Or.inr h))) (hb w))
theorem goodIn_sub {big ws : List Cond} (hm : ∀ w ∈ ws, w ∈ big) (h : ws.all goodWord = true) : GoodIn big ws := fun w hw => ⟨hm w hw, good_of_word (List.all_eq_true.mp h w hw)⟩
/-! ===== END ===== -/

/-! ===== BEGIN exceptions that leave a method, and their catching by the caller (launches without stack traces) ===== -/
section VXA
/-! The laws vx_back, vx_callV, vx_callS, vx_callSW, vx_throw0, vx_throwS follow proofs of the library, with one case more: JvmDerived/Free/Laws.lean (Back.of_free), Shelf42/LK1.lean (callV, callS), Shelf/KitTraced.lean (throwNew0V, throwNewS). -/
/-- where a method has thrown q: the class by its name, the cell, what was written, the world -/
def vx_T (XC : String → State → State → Prop) (st : State) (q : Addr) (t : State) (mc ms : Nat) (free : Addr → Prop) : Prop :=
  ∃ (E : String) (ce : Cell) (L : List Loc), XC E st t ∧ t.heap[q]? = some ce ∧ ce.vm = .none ∧ st.vm.findClass E = some ce.cls ∧ st.WarmedH t.vm ∧ st.sameButNew ({ t with vm := st.vm } : State) L mc ms ∧ ∀ z ∈ L, free z.base
def vx_Q (Qc : Array Value → State → Outcome → State → Prop) (XC : String → State → State → Prop) (mc ms : Nat) (free : Addr → Prop) : Array Value → State → Outcome → State → Prop := fun a st o t =>
  (Qc a st o t ∧ ∃ L, FrameEnd st o t L mc ms ∧ ∀ q ∈ L, free q.base) ∨ ∃ q, o = .threw q ∧ vx_T XC st q t mc ms free
/-- a callee that returns or throws -/
def vx_Met (l : Launch) (y : MethodName) (ws : List Cond) (rm : Room) (Pc : Array Value → State → Prop) (Qc : Array Value → State → Outcome → State → Prop) (XC : String → State → State → Prop) (mc ms : Nat) (free : Addr → Prop) : Prop :=
  MetFree l y (headSpec ws rm) Pc (fun _ _ _ _ _ => True) (vx_Q Qc XC mc ms free)
def vx_Post (XC : String → State → State → Prop) (mc ms : Nat) (free : Addr → Prop) : Pt → Array Value → Addr → Pt → Prop := fun A a q B =>
  ∃ (g : JFrame) (mk : MethodId) (t : State) (L : List Loc) (E : String) (ce : Cell), B.U.heap = t.heap ∧ B.U.vm = t.vm ∧ XC E (A.U.calling g mk a) t ∧ t.heap[q]? = some ce ∧ ce.vm = .none ∧ A.U.vm.findClass E = some ce.cls ∧ B.locs = A.locs ++ L ∧ (∀ z ∈ L, free z.base) ∧ B.cells = A.cells + mc ∧ B.slots = A.slots + ms
def vx_Back (l : Launch) (R : Room) (p : Program) (e : Env) (below : List Frame) (s : State) (sargs : Array Value) (y : MethodName) (len W9 : Nat)
    (Pre : Pt → Array Value → Prop) (Post : Pt → Array Value → Option Value → Pt → Prop) (PostX : Pt → Array Value → Addr → Pt → Prop) : Prop :=
  ∀ (m : MethodId) (meth : Method) (c : Code) (A : Pt) (g : JFrame) (ig : Instr) (mk : MethodId) (a : Array Value),
    Stand p l e R s m sargs below meth c A.U A.locs A.cells A.slots → g.method = m → g.locals.size = c.maxLocals → decode c.code g.pc = .ok (ig, len) →
    2 * g.monitorRoom + (g.stack.map fun v => v.category).sum ≤ W9 → A.U.methodNamed? y = some mk → Pre A a →
    (∃ (v : Option Value) (B : Pt), Stand p l e R s m sargs below meth c B.U B.locs B.cells B.slots ∧ Post A a v B ∧
      Steps p.tables e below (doInvoke e (A.U.setTop g) [] mk a).1 (B.U.setTop { g with pc := g.pc + len, stack := v.toList ++ g.stack })) ∨
    (∃ (q : Addr) (B : Pt), Stand p l e R s m sargs below meth c B.U B.locs B.cells B.slots ∧ PostX A a q B ∧
      Steps p.tables e below (doInvoke e (A.U.setTop g) [] mk a).1 ((B.U.setTop g).pushFrame (.throwing q)))
section Payer
variable {l : Launch} {R : Room} {p : Program} {e : Env} {below : List Frame} {s : State} {sargs : Array Value} {y : MethodName} {len W9 : Nat}
theorem vx_back {ws : List Cond} {rm : Room} {Pc : Array Value → State → Prop} {Qc : Array Value → State → Outcome → State → Prop} {XC : String → State → State → Prop} {mc ms : Nat} {free : Addr → Prop} {bytes : ByteArray} {maxL : Nat} {ret : Option FieldType}
    (hM : vx_Met l y ws rm Pc Qc XC mc ms free) (hblind : FrameBlind Pc) (hrc : rm.cells = mc) (hrs : rm.slots = ms)
    (hframes : rm.frames + 1 ≤ R.frames) (hlocals : W9 + (maxL + 11) + rm.locals ≤ R.locals)
    (hws : ∀ w ∈ ws, ∀ a' U, s.WarmedH U.vm → w.before a' U = true) (hcode : Cond.code y bytes maxL ret ∈ ws) (hinit : ∀ a' U, s.WarmedH U.vm → (Cond.initialized y.cls).before a' U = true) :
    vx_Back l R p e below s sargs y len W9 (PreOf R mc ms Pc) (PostOf Qc mc ms free) (vx_Post XC mc ms free) := by
  intro m meth c A g ig mk a X hg hsize hdg hW hn hp
  have h1 : (headSpec ws rm).pre.before a A.U = true := atoms_intro fun w hw => hws w hw _ _ X.warmed
  have h2 : (Cond.code y bytes maxL ret).before a A.U = true := hws _ hcode _ _ X.warmed
  have h3 : (Cond.initialized y.cls).before a A.U = true := hinit _ _ X.warmed
  have h4 : A.cells + (headSpec ws rm).room.cells ≤ R.cells := by rw [show (headSpec ws rm).room.cells = mc from hrc]; exact hp.1
  have h5 : A.slots + (headSpec ws rm).room.slots ≤ R.slots := by rw [show (headSpec ws rm).room.slots = ms from hrs]; exact hp.2.1
  have hPc : Pc a (A.U.calling g mk a) := hblind _ _ _ _ hp.2.2
  obtain ⟨U, Ls, c0, s0⟩ := A
  dsimp only [Pt.U, Pt.locs, Pt.cells, Pt.slots] at h1 h2 h3 h4 h5 X hn hPc ⊢
  obtain ⟨methY, cY, hmY, hcY, -, hlY, -, -, -, -⟩ := Cond.code_spec hn h2
  obtain ⟨kY, hkY, -⟩ := className_of_methodNamed hn
  have hinitY : kY.init = .initialized := Cond.initialized_spec (findClass_of_methodNamed hn) hkY h3
  have h : At U g.method c below := by rw [hg]; exact X.here
  have hlocals9 : W9 + (maxL + 11) + (headSpec ws rm).room.locals ≤ R.locals := hlocals
  have happ : (headSpec ws rm).appliesLoose y e.platform (U.calling g mk a) = true :=
    Spec.appliesLoose_calling (g := g) h hdg hn hkY hinitY
      (X.room_calling (g := g) (R' := (headSpec ws rm).room) hsize hmY hcY hframes (by rw [hlY]; omega) h4 h5) h1
  obtain ⟨mid, hmid⟩ := h.above
  have hfr : (U.setTop g).frames = (.java g :: mid) ++ below := by rw [State.frames_setTop' g h.top, hmid]; rfl
  obtain ⟨o, s₂, hsteps, -, hend, hq⟩ := Steps.callFree hM p X.admits X.cas X.clock (acts := []) hfr happ hPc trivial
  have hq' : vx_Q Qc XC mc ms free a (U.calling g mk a) o s₂ := hq
  rw [State.frames_setTop' g h.top] at hend
  obtain ⟨g₀, hg0⟩ := Option.isSome_iff_exists.mp h.top
  obtain ⟨r, hr⟩ := State.topJava?_eq_some.mp hg0
  have hr' : (({ U with heap := s₂.heap, slotsUsed := s₂.slotsUsed } : State).setVm s₂.vm).frames = .java g₀ :: r := hr
  rcases hq' with ⟨hqc, L, hfe, hL⟩ | ⟨q, rfl, E, ce, L, hx, hce, hcv, hcl, hW₂, hsm, hL⟩
  · obtain ⟨⟨v, rfl⟩, hW₂, e2, q2, q3, q4, q5, q6⟩ := id hfe
    have e3 : s₂ = ({ (U.calling g mk a).setFrames s₂.frames with heap := s₂.heap, slotsUsed := s₂.slotsUsed } : State).setVm s₂.vm := by
      have : s₂ = ({ s₂ with vm := (U.calling g mk a).vm } : State).setVm s₂.vm := rfl
      rw [e2] at this
      exact this
    obtain ⟨c₂, i₂, len₂, hc₂, hd₂, hf₂⟩ := hend
    have hW' : U.WarmedH s₂.vm := hW₂
    have hcc : c₂ = c := by
      have h1 : s₂.code? g.method = U.code? g.method := by
        rw [State.code?_eq, State.code?_eq, hW'.alike.method?]
      exact Option.some.inj (hc₂.symm.trans (h1.trans h.code))
    subst hcc
    have hlen : len₂ = len := by rw [hdg] at hd₂; cases hd₂; rfl
    subst hlen
    have hs₂ : s₂ = (({ U with heap := s₂.heap, slotsUsed := s₂.slotsUsed } : State).setVm s₂.vm).setTop { g with pc := g.pc + len₂, stack := v.toList ++ g.stack } := by
      refine e3.trans ?_
      rw [hf₂, State.calling_eq h.top, State.setFrames_setFrames, State.setTop_of_frames _ hr', hr]
      rfl
    have hsame : U.sameButNew ({ U with heap := s₂.heap, slotsUsed := s₂.slotsUsed } : State) L mc ms := by
      refine ⟨?_, q2, q3, q4, q5, q6⟩
      obtain ⟨t, ht, -⟩ := State.frames_cons hr
      show ({ U with heap := s₂.heap, slotsUsed := s₂.slotsUsed } : State) = { U.setFrames U.frames with heap := s₂.heap, slotsUsed := s₂.slotsUsed }
      rw [State.setFrames_self ht]
    subst hg
    refine Or.inl ⟨v, ⟨(({ U with heap := s₂.heap, slotsUsed := s₂.slotsUsed } : State).setVm s₂.vm), Ls ++ L, c0 + mc, s0 + ms⟩,
      ⟨X.admits, X.cas, X.clock, X.frames, X.room, X.hears, X.method, X.code, (X.here.setHeapUsed s₂.heap s₂.slotsUsed).setVm hW'.alike, X.tail, State.WarmedH.trans X.warmed hW', X.limits, X.bytes, X.same.trans (hsame.setVm s.vm)⟩,
      ⟨g, mk, s₂, L, rfl, rfl, hqc, rfl, hL, rfl, rfl⟩, ?_⟩
    show Steps p.tables e below _ ((({ U with heap := s₂.heap, slotsUsed := s₂.slotsUsed } : State).setVm s₂.vm).setTop { g with pc := g.pc + len₂, stack := v.toList ++ g.stack })
    rw [← hs₂]
    exact hsteps
  · obtain ⟨e2, q2, q3, q4, q5, q6⟩ := id hsm
    have e3 : s₂ = ({ (U.calling g mk a).setFrames s₂.frames with heap := s₂.heap, slotsUsed := s₂.slotsUsed } : State).setVm s₂.vm := by
      have : s₂ = ({ s₂ with vm := (U.calling g mk a).vm } : State).setVm s₂.vm := rfl
      rw [e2] at this
      exact this
    have hf₂ : s₂.frames = .throwing q :: .java g :: U.frames.tail := hend
    have hW' : U.WarmedH s₂.vm := hW₂
    have hs₂ : s₂ = ((({ U with heap := s₂.heap, slotsUsed := s₂.slotsUsed } : State).setVm s₂.vm).setTop g).pushFrame (.throwing q) := by
      refine e3.trans ?_
      rw [hf₂, State.calling_eq h.top, State.setFrames_setFrames, State.pushFrame, State.frames_setTop _ hr', State.setTop_of_frames _ hr', State.setFrames_setFrames, hr]
      rfl
    have hsame : U.sameButNew ({ U with heap := s₂.heap, slotsUsed := s₂.slotsUsed } : State) L mc ms := by
      refine ⟨?_, q2, q3, q4, q5, q6⟩
      obtain ⟨t, ht, -⟩ := State.frames_cons hr
      show ({ U with heap := s₂.heap, slotsUsed := s₂.slotsUsed } : State) = { U.setFrames U.frames with heap := s₂.heap, slotsUsed := s₂.slotsUsed }
      rw [State.setFrames_self ht]
    subst hg
    refine Or.inr ⟨q, ⟨(({ U with heap := s₂.heap, slotsUsed := s₂.slotsUsed } : State).setVm s₂.vm), Ls ++ L, c0 + mc, s0 + ms⟩,
      ⟨X.admits, X.cas, X.clock, X.frames, X.room, X.hears, X.method, X.code, (X.here.setHeapUsed s₂.heap s₂.slotsUsed).setVm hW'.alike, X.tail, State.WarmedH.trans X.warmed hW', X.limits, X.bytes, X.same.trans (hsame.setVm s.vm)⟩,
      ⟨g, mk, s₂, L, E, ce, rfl, rfl, hx, hce, hcv, hcl, rfl, hL, rfl, rfl⟩, ?_⟩
    show Steps p.tables e below _ (((({ U with heap := s₂.heap, slotsUsed := s₂.slotsUsed } : State).setVm s₂.vm).setTop g).pushFrame (.throwing q))
    rw [← hs₂]
    exact hsteps
end Payer
section Calls
variable {p : Program} {l : Launch} {e : Env} {R : Room} {s : State} {m : MethodId} {args : Array Value} {below : List Frame} {meth : Method} {c : Code} {T : State} {locs : List Loc} {cells slots : Nat}
theorem vx_callV (X : Stand p l e R s m args below meth c T locs cells slots) (hexec : p.tables.exec = Jvm.exec) {own C : String} {index : Nat} {y : MethodName} {bytes : ByteArray} {maxL : Nat} {ret : Option FieldType}
    (hown : s.vm.findClass own = some m.cls) (hlink : (Cond.methodLink own index y).before args s = true) (hinst : (Cond.instanceMethod y).before args s = true) (hsel : (Cond.selects C y y).before args s = true)
    (hcode : (Cond.code y bytes maxL ret).before args s = true) (hy : y.cls ≠ "java/lang/invoke/MethodHandle" ∧ y.cls ≠ "java/lang/invoke/VarHandle")
    {W9 : Nat} {Pre : Pt → Array Value → Prop} {Post : Pt → Array Value → Option Value → Pt → Prop} {PostX : Pt → Array Value → Addr → Pt → Prop} (hK : vx_Back l R p e below s args y 3 W9 Pre Post PostX)
    {b : Addr} {cellB : Cell} (hcell : T.heap[b]? = some cellB) (hobj : cellB.vm.isStatics = false) (hcls : s.vm.findClass C = some cellB.cls)
    {g : JFrame} (hg : g.method = m) (hsize : g.locals.size = c.maxLocals) {argsL rest : List Value} (hlen : ∀ sig, parseMethodDescriptor y.desc = some sig → argsL.length = sig.parameters.length)
    (hstack : g.stack = argsL.reverse ++ .ref b :: rest) (hW : 2 * g.monitorRoom + (rest.map fun v => v.category).sum ≤ W9) (hdg : decode c.code g.pc = .ok (.invokevirtual index, 3))
    (hpre : ∀ vm₁, s.WarmedH vm₁ → Pre ⟨T.setVm vm₁, locs, cells, slots⟩ (Value.ref b :: argsL).toArray) :
    (∃ (v : Option Value) (vm₁ : Vm) (B : Pt), s.WarmedH vm₁ ∧ Stand p l e R s m args below meth c B.U B.locs B.cells B.slots ∧ Post ⟨T.setVm vm₁, locs, cells, slots⟩ (Value.ref b :: argsL).toArray v B ∧
      ∀ target, Steps p.tables e below (B.U.setTop { g with pc := g.pc + 3, stack := v.toList ++ rest }) target → Steps p.tables e below (T.setTop g) target) ∨
    (∃ (q : Addr) (vm₁ : Vm) (B : Pt), s.WarmedH vm₁ ∧ Stand p l e R s m args below meth c B.U B.locs B.cells B.slots ∧ PostX ⟨T.setVm vm₁, locs, cells, slots⟩ (Value.ref b :: argsL).toArray q B ∧
      Steps p.tables e below (T.setTop g) ((B.U.setTop { g with stack := rest }).pushFrame (.throwing q))) := by
  obtain ⟨mk, methM, hnamed, hmethM, hstM, habM⟩ := Cond.instanceMethod_spec hinst
  obtain ⟨methM', cM, hmethM', -, -, -, -, -, -, hsigM⟩ := Cond.code_spec hnamed hcode
  cases hmethM.symm.trans hmethM'
  obtain ⟨c2, r2, m2, q1, q2, q3, q4, kP, hkP, hkPi⟩ := Cond.selects_spec hsel
  cases hcls.symm.trans q1
  cases (State.methodFound?_of_named hnamed hy).symm.trans q2
  cases hnamed.symm.trans q3
  have hselP : selectMethod e.platform s.vm cellB.cls mk = .method mk := by rw [Launch.admits_selectMethod X.admits]; exact q4
  obtain ⟨vm₁, X₁, hstep₁⟩ := X.invokevirtual hexec hown hlink hnamed hmethM hstM hkP hkPi hy (a := b) (cell := cellB) hcell
    (fun z h => by rw [h] at hobj; cases hobj) hselP hmethM habM hkP hkPi (g := g) hg (argsL := argsL) (rest := rest) (hlen _ hsigM) hstack hdg
  rcases hK m meth c ⟨T.setVm vm₁, locs, cells, slots⟩ { g with stack := rest } (.invokevirtual index) mk (Value.ref b :: argsL).toArray X₁ hg hsize hdg hW (X₁.named hnamed) (hpre vm₁ X₁.warmed) with ⟨v, B, X', hpost, hsteps⟩ | ⟨q, B, X', hpost, hsteps⟩
  · exact Or.inl ⟨v, vm₁, B, X₁.warmed, X', hpost, fun target h => hstep₁ _ fun acts => by rw [doInvoke_state]; exact hsteps.trans h⟩
  · exact Or.inr ⟨q, vm₁, B, X₁.warmed, X', hpost, hstep₁ _ fun acts => by rw [doInvoke_state]; exact hsteps⟩
theorem vx_callS (X : Stand p l e R s m args below meth c T locs cells slots) (hexec : p.tables.exec = Jvm.exec) {own : String} {index : Nat} {y : MethodName} {bytes : ByteArray} {maxL : Nat} {ret : Option FieldType}
    (hown : s.vm.findClass own = some m.cls) (hlink : (Cond.methodLink own index y).before args s = true) (hstat : (Cond.static y).before args s = true) (hinit : (Cond.initialized y.cls).before args s = true)
    (hcode : (Cond.code y bytes maxL ret).before args s = true) (hy : y.cls ≠ "java/lang/invoke/MethodHandle" ∧ y.cls ≠ "java/lang/invoke/VarHandle")
    {W9 : Nat} {Pre : Pt → Array Value → Prop} {Post : Pt → Array Value → Option Value → Pt → Prop} {PostX : Pt → Array Value → Addr → Pt → Prop} (hK : vx_Back l R p e below s args y 3 W9 Pre Post PostX)
    {g : JFrame} (hg : g.method = m) (hsize : g.locals.size = c.maxLocals) {argsL rest : List Value} (hlen : ∀ sig, parseMethodDescriptor y.desc = some sig → argsL.length = sig.parameters.length)
    (hstack : g.stack = argsL.reverse ++ rest) (hW : 2 * g.monitorRoom + (rest.map fun v => v.category).sum ≤ W9) (hdg : decode c.code g.pc = .ok (.invokestatic index, 3))
    (hpre : ∀ vm₁, s.WarmedH vm₁ → Pre ⟨T.setVm vm₁, locs, cells, slots⟩ argsL.toArray) :
    (∃ (v : Option Value) (vm₁ : Vm) (B : Pt), s.WarmedH vm₁ ∧ Stand p l e R s m args below meth c B.U B.locs B.cells B.slots ∧ Post ⟨T.setVm vm₁, locs, cells, slots⟩ argsL.toArray v B ∧
      ∀ target, Steps p.tables e below (B.U.setTop { g with pc := g.pc + 3, stack := v.toList ++ rest }) target → Steps p.tables e below (T.setTop g) target) ∨
    (∃ (q : Addr) (vm₁ : Vm) (B : Pt), s.WarmedH vm₁ ∧ Stand p l e R s m args below meth c B.U B.locs B.cells B.slots ∧ PostX ⟨T.setVm vm₁, locs, cells, slots⟩ argsL.toArray q B ∧
      Steps p.tables e below (T.setTop g) ((B.U.setTop { g with stack := rest }).pushFrame (.throwing q))) := by
  obtain ⟨mk, hnamed⟩ := Cond.code_named hcode
  obtain ⟨methM, cM, hmethM, -, -, -, -, -, -, hsigM⟩ := Cond.code_spec hnamed hcode
  have hstatic : methM.isStatic = true := Cond.static_spec hnamed hmethM hstat
  obtain ⟨kP, hkP, -⟩ := className_of_methodNamed hnamed
  have hinitP : kP.init = .initialized := Cond.initialized_spec (findClass_of_methodNamed hnamed) hkP hinit
  obtain ⟨vm₁, X₁, hstep₁⟩ := X.invokestatic hexec hown hlink hnamed hmethM hstatic hkP hinitP hy (g := g) hg (argsL := argsL) (rest := rest) (hlen _ hsigM) hstack hdg
  rcases hK m meth c ⟨T.setVm vm₁, locs, cells, slots⟩ { g with stack := rest } (.invokestatic index) mk argsL.toArray X₁ hg hsize hdg hW (X₁.named hnamed) (hpre vm₁ X₁.warmed) with ⟨v, B, X', hpost, hsteps⟩ | ⟨q, B, X', hpost, hsteps⟩
  · exact Or.inl ⟨v, vm₁, B, X₁.warmed, X', hpost, fun target h => hstep₁ _ fun acts => by rw [doInvoke_state]; exact hsteps.trans h⟩
  · exact Or.inr ⟨q, vm₁, B, X₁.warmed, X', hpost, hstep₁ _ fun acts => by rw [doInvoke_state]; exact hsteps⟩
end Calls
theorem vx_cls {s : State} {T : State} {vm₁ : Vm} {E : String} {k : ClassId} (hW : s.WarmedH vm₁) (h : (T.setVm vm₁).vm.findClass E = some k) : s.vm.findClass E = some k := by
  have h1 : vm₁.findClass E = some k := h
  rw [hW.alike.findClass] at h1
  exact h1
/-- the method's frame g, with q thrown over it -/
def vx_W (p : Program) (l : Launch) (e : Env) (R : Room) (s : State) (m : MethodId) (args : Array Value) (below : List Frame) (meth : Method) (c : Code) (H : Heap) (locs : List Loc) (cells slots : Nat) (Q : State → Prop) (g : JFrame) (q : Addr) : Prop :=
  ∀ T : State, T.heap = H → Stand p l e R s m args below meth c T locs cells slots → ∃ t, Steps p.tables e below ((T.setTop g).pushFrame (.throwing q)) t ∧ Q t
def vx_Run (p : Program) (l : Launch) (e : Env) (R : Room) (s : State) (m : MethodId) (args : Array Value) (below : List Frame) (meth : Method) (c : Code) (H : Heap) (locs : List Loc) (cells slots mc ms : Nat) (g : JFrame) (rest : List Value) (Qa : State → Outcome → State → Prop) (XC : String → State → State → Prop) (free : Addr → Prop) : Prop :=
  ∀ T : State, T.heap = H → Stand p l e R s m args below meth c T locs cells slots →
    (∃ (v : Option Value) (st₀ t T' : State) (L : List Loc), st₀.heap = H ∧ Stand p l e R s m args below meth c T' (locs ++ L) (cells + mc) (slots + ms) ∧ (∀ q ∈ L, free q.base) ∧ T'.heap = t.heap ∧ T'.vm = t.vm ∧ Qa st₀ (.returned v) t ∧
      Goes p e below T g T' { g with pc := g.pc + 3, stack := v.toList ++ rest }) ∨
    (∃ (q : Addr) (st₀ t T' : State) (L : List Loc) (E : String) (ce : Cell), st₀.heap = H ∧ Stand p l e R s m args below meth c T' (locs ++ L) (cells + mc) (slots + ms) ∧ (∀ z ∈ L, free z.base) ∧ T'.heap = t.heap ∧ T'.vm = t.vm ∧ XC E st₀ t ∧ t.heap[q]? = some ce ∧ ce.vm = .none ∧ s.vm.findClass E = some ce.cls ∧
      Steps p.tables e below (T.setTop g) ((T'.setTop { g with stack := rest }).pushFrame (.throwing q)))
def vx_X {S : Type} (px : S → Prop) (B : String → S → State → Prop) (A : Nat → Prop) : String → State → State → Prop := fun E st t => ∃ u : S, px u ∧ B E u t ∧ va_F A st t
section Runs
variable {p : Program} {l : Launch} {e : Env} {R : Room} {s : State} {m : MethodId} {args : Array Value} {below : List Frame} {meth : Method} {c : Code} {H : Heap} {locs : List Loc} {cells slots : Nat}
variable {y : MethodName} {bytes cc : ByteArray} {maxL nL mc ms n index : Nat} {ret : Option FieldType} {ws : List Cond} {rm : Room} {Pc : Array Value → State → Prop} {Qc : Array Value → State → Outcome → State → Prop} {XC : String → State → State → Prop} {free : Addr → Prop} {Ts : List Cond} {own C : String} {b : Addr} {As rest : List Value} {g : JFrame}
theorem vx_callBack (cb : CallB R s args own index y bytes maxL ret ws rm mc ms n) (hM : vx_Met l y ws rm Pc Qc XC mc ms free) (hbl : FrameBlind Pc) : vx_Back l R p e below s args y 3 8 (PreOf R mc ms Pc) (PostOf Qc mc ms free) (vx_Post XC mc ms free) := by
  obtain ⟨hrc, hrs, hfr, hlo, hws, hcw, -, hini, -⟩ := cb
  exact vx_back (bytes := bytes) (maxL := maxL) (ret := ret) hM hbl hrc hrs hfr hlo hws hcw (fun a' U hW => word_at hW (Or.inl (by first | rfl | simp [Cond.onTables, Cond.keeps, Cond.steady])) hini)
theorem vx_runV (S : CallFix p m c cc nL s args Ts own) (hM : vx_Met l y ws rm Pc Qc XC mc ms free) (cw : CallW R s args own C index y bytes maxL ret ws rm mc ms n) (hp : PreV s H C b Pc As)
    (hg : g.method = m) (hn : As.length = n) (hsize : g.locals.size = nL) (hstack : g.stack = As.reverse ++ .ref b :: rest) (hW : 2 * g.monitorRoom + (rest.map fun v => v.category).sum ≤ 8) (hdg : decode cc g.pc = .ok (.invokevirtual index, 3)) (hf : cells + mc ≤ R.cells ∧ slots + ms ≤ R.slots) :
    vx_Run p l e R s m args below meth c H locs cells slots mc ms g rest (Qc (Value.ref b :: As).toArray) XC free := by
  have hK : vx_Back l R p e below s args y 3 8 (PreOf R mc ms Pc) (PostOf Qc mc ms free) (vx_Post XC mc ms free) := vx_callBack cw.1 hM hp.1
  obtain ⟨⟨-, -, -, -, -, -, hcode, -, hy, hlen, hl⟩, hin, hse⟩ := cw
  obtain ⟨hx, hb, hml, ho, -⟩ := S
  obtain ⟨-, ⟨cellB, hcB, hoB, hclB⟩, hPc⟩ := hp
  intro T hT X
  rcases vx_callV X hx (C := C) (bytes := bytes) (maxL := maxL) (ret := ret) ho hl hin hse hcode hy hK (by rw [hT]; exact hcB) hoB hclB hg (hsize.trans hml.symm) (argsL := As) (rest := rest) (fun sig h => hn.trans (hlen sig h)) hstack hW (by rw [hb]; exact hdg)
    (fun vm₁ hW₁ => ⟨hf.1, hf.2, hPc (T.setVm vm₁) hT hW₁⟩) with ⟨v, vm₁, ⟨U', l2, c2, s2⟩, hW₁, X', ⟨g', mk, t, L, e1, e2, hq, h1, hL, h2, h3⟩, st⟩ | ⟨q, vm₁, ⟨U', l2, c2, s2⟩, hW₁, X', ⟨g', mk, t, L, E, ce, e1, e2, hq, hce, hcv, hcl, h1, hL, h2, h3⟩, st⟩
  · dsimp only [Pt.U, Pt.locs, Pt.cells, Pt.slots] at X' e1 e2 h1 h2 h3 st
    subst h1; subst h2; subst h3
    exact Or.inl ⟨v, (T.setVm vm₁).calling g' mk (Value.ref b :: As).toArray, t, U', L, hT, X', hL, e1, e2, hq, st⟩
  · dsimp only [Pt.U, Pt.locs, Pt.cells, Pt.slots] at X' e1 e2 h1 h2 h3 st hcl
    subst h1; subst h2; subst h3
    exact Or.inr ⟨q, (T.setVm vm₁).calling g' mk (Value.ref b :: As).toArray, t, U', L, E, ce, hT, X', hL, e1, e2, hq, hce, hcv, vx_cls hW₁ hcl, st⟩
theorem vx_runS (S : CallFix p m c cc nL s args Ts own) (hM : vx_Met l y ws rm Pc Qc XC mc ms free) (cw : CallB R s args own index y bytes maxL ret ws rm mc ms n ∧ (Cond.static y).before args s = true) (hp : PreS s H Pc As)
    (hg : g.method = m) (hn : As.length = n) (hsize : g.locals.size = nL) (hstack : g.stack = As.reverse ++ rest) (hW : 2 * g.monitorRoom + (rest.map fun v => v.category).sum ≤ 8) (hdg : decode cc g.pc = .ok (.invokestatic index, 3)) (hf : cells + mc ≤ R.cells ∧ slots + ms ≤ R.slots) :
    vx_Run p l e R s m args below meth c H locs cells slots mc ms g rest (Qc As.toArray) XC free := by
  have hK : vx_Back l R p e below s args y 3 8 (PreOf R mc ms Pc) (PostOf Qc mc ms free) (vx_Post XC mc ms free) := vx_callBack cw.1 hM hp.1
  obtain ⟨⟨-, -, -, -, -, -, hcode, hini, hy, hlen, hl⟩, hstt⟩ := cw
  obtain ⟨hx, hb, hml, ho, -⟩ := S
  intro T hT X
  rcases vx_callS X hx (bytes := bytes) (maxL := maxL) (ret := ret) ho hl hstt hini hcode hy hK hg (hsize.trans hml.symm) (argsL := As) (rest := rest) (fun sig h => hn.trans (hlen sig h)) hstack hW (by rw [hb]; exact hdg)
    (fun vm₁ hW₁ => ⟨hf.1, hf.2, hp.2 (T.setVm vm₁) hT hW₁⟩) with ⟨v, vm₁, ⟨U', l2, c2, s2⟩, hW₁, X', ⟨g', mk, t, L, e1, e2, hq, h1, hL, h2, h3⟩, st⟩ | ⟨q, vm₁, ⟨U', l2, c2, s2⟩, hW₁, X', ⟨g', mk, t, L, E, ce, e1, e2, hq, hce, hcv, hcl, h1, hL, h2, h3⟩, st⟩
  · dsimp only [Pt.U, Pt.locs, Pt.cells, Pt.slots] at X' e1 e2 h1 h2 h3 st
    subst h1; subst h2; subst h3
    exact Or.inl ⟨v, (T.setVm vm₁).calling g' mk As.toArray, t, U', L, hT, X', hL, e1, e2, hq, st⟩
  · dsimp only [Pt.U, Pt.locs, Pt.cells, Pt.slots] at X' e1 e2 h1 h2 h3 st hcl
    subst h1; subst h2; subst h3
    exact Or.inr ⟨q, (T.setVm vm₁).calling g' mk As.toArray, t, U', L, E, ce, hT, X', hL, e1, e2, hq, hce, hcv, vx_cls hW₁ hcl, st⟩
end Runs
section Rows
variable {p : Program} {l : Launch} {e : Env} {R : Room} {s : State} {m : MethodId} {args : Array Value} {below : List Frame} {meth : Method} {c : Code} {H : Heap} {locs : List Loc} {cells slots : Nat} {Q : State → Prop}
variable {mc ms : Nat} {free : Addr → Prop} {A0 A1 : Nat → Prop} {H0 : Heap} {a : Array Value} {pc : Nat} {ls : Array Slot} {st0 rest : List Value}
theorem vx_keep {st₀ t T' : State} {L : List Loc} (h0 : st₀.heap = H) (e1 : T'.heap = t.heap) (hS : va_S A0 H0 H locs) (hA : ∀ q, q < H.size → A1 q → A0 q) (hf : ∀ q, free q → A0 q) (hL : ∀ q ∈ L, free q.base) (hF : va_F A1 st₀ t) :
    H.size ≤ T'.heap.size ∧ (∀ q : Nat, q < H.size → ¬ A1 q → T'.heap[q]? = H[q]?) ∧ va_S A0 H0 T'.heap (locs ++ L) := by
  obtain ⟨hz, hk⟩ := hF
  rw [h0] at hz hk
  exact ⟨by rw [e1]; exact hz, fun q h1 h2 => by rw [e1]; exact hk q h1 h2,
    ⟨Nat.le_trans hS.1 (by rw [e1]; exact hz), fun q h1 h2 => by rw [e1, hk q (Nat.lt_of_lt_of_le h1 hS.1) (fun z => h2 (hA q (Nat.lt_of_lt_of_le h1 hS.1) z))]; exact hS.2.1 q h1 h2, fun q hq => by
      rcases List.mem_append.mp hq with h | h
      · exact hS.2.2 q h
      · exact hf _ (hL q h)⟩⟩
theorem vx_calli {S SX : Type} {post : Int32 → S → Prop} {px : SX → Prop} {B : S → State → Prop} {BX : String → SX → State → Prop} {AX : Nat → Prop} (hr : vx_Run p l e R s m args below meth c H locs cells slots mc ms (F0 m pc ls st0) rest (va_Qi post B A1 a) (vx_X px BX AX) free) (hS : va_S A0 H0 H locs) (hA : ∀ q, q < H.size → A1 q → A0 q) (hf : ∀ q, free q → A0 q) (hAX : ∀ q, q < H.size → AX q → A0 q)
    (kx : ∀ (E : String) (ce : Cell) (q9 : Addr) (u : SX) (t : State) (H1 : Heap) (locs1 : List Loc), t.heap = H1 → s.vm.Alike t.vm → px u → BX E u t → H.size ≤ H1.size → (∀ q : Nat, q < H.size → ¬ AX q → H1[q]? = H[q]?) → va_S A0 H0 H1 locs1 → H1[q9]? = some ce → ce.vm = .none → s.vm.findClass E = some ce.cls → vx_W p l e R s m args below meth c H1 locs1 (cells + mc) (slots + ms) Q (F0 m pc ls rest) q9)
    (kk : ∀ (r : Int32) (u : S) (t : State) (H1 : Heap) (locs1 : List Loc), t.heap = H1 → s.vm.Alike t.vm → post r u → B u t → H.size ≤ H1.size → (∀ q : Nat, q < H.size → ¬ A1 q → H1[q]? = H[q]?) → va_S A0 H0 H1 locs1 → W p l e R s m args below meth c H1 locs1 (cells + mc) (slots + ms) Q (F0 m (pc + 3) ls (.int r :: rest))) : W p l e R s m args below meth c H locs cells slots Q (F0 m pc ls st0) := by
  intro T hT X
  rcases hr T hT X with ⟨v, st₀, t, T', L, h0, X', hL, e1, e2, ⟨⟨r, u, hv, hp, hb⟩, hF⟩, st⟩ | ⟨q, st₀, t, T', L, E, ce, h0, X', hL, e1, e2, ⟨u, hp, hb, hF⟩, hce, hcv, hcl, st⟩
  · cases hv
    obtain ⟨k1, k2, k3⟩ := vx_keep h0 e1 hS hA hf hL hF
    obtain ⟨t2, a1, b1⟩ := kk r u t T'.heap (locs ++ L) e1.symm (by rw [← e2]; exact X'.warmed.alike) hp hb k1 k2 k3 T' rfl X'
    exact ⟨t2, st t2 a1, b1⟩
  · obtain ⟨k1, k2, k3⟩ := vx_keep h0 e1 hS hAX hf hL hF
    obtain ⟨t2, a1, b1⟩ := kx E ce q u t T'.heap (locs ++ L) e1.symm (by rw [← e2]; exact X'.warmed.alike) hp hb k1 k2 k3 (by rw [e1]; exact hce) hcv hcl T' rfl X'
    exact ⟨t2, st.trans a1, b1⟩
theorem vx_calll {S SX : Type} {post : Int64 → S → Prop} {px : SX → Prop} {B : S → State → Prop} {BX : String → SX → State → Prop} {AX : Nat → Prop} (hr : vx_Run p l e R s m args below meth c H locs cells slots mc ms (F0 m pc ls st0) rest (va_Ql post B A1 a) (vx_X px BX AX) free) (hS : va_S A0 H0 H locs) (hA : ∀ q, q < H.size → A1 q → A0 q) (hf : ∀ q, free q → A0 q) (hAX : ∀ q, q < H.size → AX q → A0 q)
    (kx : ∀ (E : String) (ce : Cell) (q9 : Addr) (u : SX) (t : State) (H1 : Heap) (locs1 : List Loc), t.heap = H1 → s.vm.Alike t.vm → px u → BX E u t → H.size ≤ H1.size → (∀ q : Nat, q < H.size → ¬ AX q → H1[q]? = H[q]?) → va_S A0 H0 H1 locs1 → H1[q9]? = some ce → ce.vm = .none → s.vm.findClass E = some ce.cls → vx_W p l e R s m args below meth c H1 locs1 (cells + mc) (slots + ms) Q (F0 m pc ls rest) q9)
    (kk : ∀ (r : Int64) (u : S) (t : State) (H1 : Heap) (locs1 : List Loc), t.heap = H1 → s.vm.Alike t.vm → post r u → B u t → H.size ≤ H1.size → (∀ q : Nat, q < H.size → ¬ A1 q → H1[q]? = H[q]?) → va_S A0 H0 H1 locs1 → W p l e R s m args below meth c H1 locs1 (cells + mc) (slots + ms) Q (F0 m (pc + 3) ls (.long r :: rest))) : W p l e R s m args below meth c H locs cells slots Q (F0 m pc ls st0) := by
  intro T hT X
  rcases hr T hT X with ⟨v, st₀, t, T', L, h0, X', hL, e1, e2, ⟨⟨r, u, hv, hp, hb⟩, hF⟩, st⟩ | ⟨q, st₀, t, T', L, E, ce, h0, X', hL, e1, e2, ⟨u, hp, hb, hF⟩, hce, hcv, hcl, st⟩
  · cases hv
    obtain ⟨k1, k2, k3⟩ := vx_keep h0 e1 hS hA hf hL hF
    obtain ⟨t2, a1, b1⟩ := kk r u t T'.heap (locs ++ L) e1.symm (by rw [← e2]; exact X'.warmed.alike) hp hb k1 k2 k3 T' rfl X'
    exact ⟨t2, st t2 a1, b1⟩
  · obtain ⟨k1, k2, k3⟩ := vx_keep h0 e1 hS hAX hf hL hF
    obtain ⟨t2, a1, b1⟩ := kx E ce q u t T'.heap (locs ++ L) e1.symm (by rw [← e2]; exact X'.warmed.alike) hp hb k1 k2 k3 (by rw [e1]; exact hce) hcv hcl T' rfl X'
    exact ⟨t2, st.trans a1, b1⟩
theorem vx_callf {S SX : Type} {post : UInt32 → S → Prop} {px : SX → Prop} {B : S → State → Prop} {BX : String → SX → State → Prop} {AX : Nat → Prop} (hr : vx_Run p l e R s m args below meth c H locs cells slots mc ms (F0 m pc ls st0) rest (va_Qf post B A1 a) (vx_X px BX AX) free) (hS : va_S A0 H0 H locs) (hA : ∀ q, q < H.size → A1 q → A0 q) (hf : ∀ q, free q → A0 q) (hAX : ∀ q, q < H.size → AX q → A0 q)
    (kx : ∀ (E : String) (ce : Cell) (q9 : Addr) (u : SX) (t : State) (H1 : Heap) (locs1 : List Loc), t.heap = H1 → s.vm.Alike t.vm → px u → BX E u t → H.size ≤ H1.size → (∀ q : Nat, q < H.size → ¬ AX q → H1[q]? = H[q]?) → va_S A0 H0 H1 locs1 → H1[q9]? = some ce → ce.vm = .none → s.vm.findClass E = some ce.cls → vx_W p l e R s m args below meth c H1 locs1 (cells + mc) (slots + ms) Q (F0 m pc ls rest) q9)
    (kk : ∀ (r : UInt32) (u : S) (t : State) (H1 : Heap) (locs1 : List Loc), t.heap = H1 → s.vm.Alike t.vm → post r u → B u t → H.size ≤ H1.size → (∀ q : Nat, q < H.size → ¬ A1 q → H1[q]? = H[q]?) → va_S A0 H0 H1 locs1 → W p l e R s m args below meth c H1 locs1 (cells + mc) (slots + ms) Q (F0 m (pc + 3) ls (.float r :: rest))) : W p l e R s m args below meth c H locs cells slots Q (F0 m pc ls st0) := by
  intro T hT X
  rcases hr T hT X with ⟨v, st₀, t, T', L, h0, X', hL, e1, e2, ⟨⟨r, u, hv, hp, hb⟩, hF⟩, st⟩ | ⟨q, st₀, t, T', L, E, ce, h0, X', hL, e1, e2, ⟨u, hp, hb, hF⟩, hce, hcv, hcl, st⟩
  · cases hv
    obtain ⟨k1, k2, k3⟩ := vx_keep h0 e1 hS hA hf hL hF
    obtain ⟨t2, a1, b1⟩ := kk r u t T'.heap (locs ++ L) e1.symm (by rw [← e2]; exact X'.warmed.alike) hp hb k1 k2 k3 T' rfl X'
    exact ⟨t2, st t2 a1, b1⟩
  · obtain ⟨k1, k2, k3⟩ := vx_keep h0 e1 hS hAX hf hL hF
    obtain ⟨t2, a1, b1⟩ := kx E ce q u t T'.heap (locs ++ L) e1.symm (by rw [← e2]; exact X'.warmed.alike) hp hb k1 k2 k3 (by rw [e1]; exact hce) hcv hcl T' rfl X'
    exact ⟨t2, st.trans a1, b1⟩
theorem vx_calld {S SX : Type} {post : UInt64 → S → Prop} {px : SX → Prop} {B : S → State → Prop} {BX : String → SX → State → Prop} {AX : Nat → Prop} (hr : vx_Run p l e R s m args below meth c H locs cells slots mc ms (F0 m pc ls st0) rest (va_Qd post B A1 a) (vx_X px BX AX) free) (hS : va_S A0 H0 H locs) (hA : ∀ q, q < H.size → A1 q → A0 q) (hf : ∀ q, free q → A0 q) (hAX : ∀ q, q < H.size → AX q → A0 q)
    (kx : ∀ (E : String) (ce : Cell) (q9 : Addr) (u : SX) (t : State) (H1 : Heap) (locs1 : List Loc), t.heap = H1 → s.vm.Alike t.vm → px u → BX E u t → H.size ≤ H1.size → (∀ q : Nat, q < H.size → ¬ AX q → H1[q]? = H[q]?) → va_S A0 H0 H1 locs1 → H1[q9]? = some ce → ce.vm = .none → s.vm.findClass E = some ce.cls → vx_W p l e R s m args below meth c H1 locs1 (cells + mc) (slots + ms) Q (F0 m pc ls rest) q9)
    (kk : ∀ (r : UInt64) (u : S) (t : State) (H1 : Heap) (locs1 : List Loc), t.heap = H1 → s.vm.Alike t.vm → post r u → B u t → H.size ≤ H1.size → (∀ q : Nat, q < H.size → ¬ A1 q → H1[q]? = H[q]?) → va_S A0 H0 H1 locs1 → W p l e R s m args below meth c H1 locs1 (cells + mc) (slots + ms) Q (F0 m (pc + 3) ls (.double r :: rest))) : W p l e R s m args below meth c H locs cells slots Q (F0 m pc ls st0) := by
  intro T hT X
  rcases hr T hT X with ⟨v, st₀, t, T', L, h0, X', hL, e1, e2, ⟨⟨r, u, hv, hp, hb⟩, hF⟩, st⟩ | ⟨q, st₀, t, T', L, E, ce, h0, X', hL, e1, e2, ⟨u, hp, hb, hF⟩, hce, hcv, hcl, st⟩
  · cases hv
    obtain ⟨k1, k2, k3⟩ := vx_keep h0 e1 hS hA hf hL hF
    obtain ⟨t2, a1, b1⟩ := kk r u t T'.heap (locs ++ L) e1.symm (by rw [← e2]; exact X'.warmed.alike) hp hb k1 k2 k3 T' rfl X'
    exact ⟨t2, st t2 a1, b1⟩
  · obtain ⟨k1, k2, k3⟩ := vx_keep h0 e1 hS hAX hf hL hF
    obtain ⟨t2, a1, b1⟩ := kx E ce q u t T'.heap (locs ++ L) e1.symm (by rw [← e2]; exact X'.warmed.alike) hp hb k1 k2 k3 (by rw [e1]; exact hce) hcv hcl T' rfl X'
    exact ⟨t2, st.trans a1, b1⟩
theorem vx_callv {S SX : Type} {post : S → Prop} {px : SX → Prop} {B : S → State → Prop} {BX : String → SX → State → Prop} {AX : Nat → Prop} (hr : vx_Run p l e R s m args below meth c H locs cells slots mc ms (F0 m pc ls st0) rest (va_Qv post B A1 a) (vx_X px BX AX) free) (hS : va_S A0 H0 H locs) (hA : ∀ q, q < H.size → A1 q → A0 q) (hf : ∀ q, free q → A0 q) (hAX : ∀ q, q < H.size → AX q → A0 q)
    (kx : ∀ (E : String) (ce : Cell) (q9 : Addr) (u : SX) (t : State) (H1 : Heap) (locs1 : List Loc), t.heap = H1 → s.vm.Alike t.vm → px u → BX E u t → H.size ≤ H1.size → (∀ q : Nat, q < H.size → ¬ AX q → H1[q]? = H[q]?) → va_S A0 H0 H1 locs1 → H1[q9]? = some ce → ce.vm = .none → s.vm.findClass E = some ce.cls → vx_W p l e R s m args below meth c H1 locs1 (cells + mc) (slots + ms) Q (F0 m pc ls rest) q9)
    (kk : ∀ (u : S) (t : State) (H1 : Heap) (locs1 : List Loc), t.heap = H1 → s.vm.Alike t.vm → post u → B u t → H.size ≤ H1.size → (∀ q : Nat, q < H.size → ¬ A1 q → H1[q]? = H[q]?) → va_S A0 H0 H1 locs1 → W p l e R s m args below meth c H1 locs1 (cells + mc) (slots + ms) Q (F0 m (pc + 3) ls (rest))) : W p l e R s m args below meth c H locs cells slots Q (F0 m pc ls st0) := by
  intro T hT X
  rcases hr T hT X with ⟨v, st₀, t, T', L, h0, X', hL, e1, e2, ⟨⟨u, hv, hp, hb⟩, hF⟩, st⟩ | ⟨q, st₀, t, T', L, E, ce, h0, X', hL, e1, e2, ⟨u, hp, hb, hF⟩, hce, hcv, hcl, st⟩
  · cases hv
    obtain ⟨k1, k2, k3⟩ := vx_keep h0 e1 hS hA hf hL hF
    obtain ⟨t2, a1, b1⟩ := kk u t T'.heap (locs ++ L) e1.symm (by rw [← e2]; exact X'.warmed.alike) hp hb k1 k2 k3 T' rfl X'
    exact ⟨t2, st t2 a1, b1⟩
  · obtain ⟨k1, k2, k3⟩ := vx_keep h0 e1 hS hAX hf hL hF
    obtain ⟨t2, a1, b1⟩ := kx E ce q u t T'.heap (locs ++ L) e1.symm (by rw [← e2]; exact X'.warmed.alike) hp hb k1 k2 k3 (by rw [e1]; exact hce) hcv hcl T' rfl X'
    exact ⟨t2, st.trans a1, b1⟩
/-- caught by the row x of this method's table; the rows ahead don't take it -/
theorem vx_catch {own name : String} {E : String} {ce : Cell} {q : Addr} (hown : s.vm.findClass own = some m.cls) (pre : List ExceptionTableEntry) (x : ExceptionTableEntry) (suf : List ExceptionTableEntry) (hsplit : c.exceptionTable.toList = pre ++ x :: suf)
    (hpass : ∀ z ∈ pre, covers z pc = false ∨ (z.catchType ≠ 0 ∧ ∃ nm : String, (Cond.classLink own z.catchType nm).before args s = true ∧ va_Nc E nm s)) (hx : covers x pc = true) (h0 : x.catchType ≠ 0)
    (hlink : (Cond.classLink own x.catchType name).before args s = true) (hcast : (Cond.castable E name).before args s = true) (hcell : H[q]? = some ce) (hv : ce.vm = .none) (hcl : s.vm.findClass E = some ce.cls)
    (kk : W p l e R s m args below meth c H locs cells slots Q (F0 m x.handlerPc ls [.ref q])) : vx_W p l e R s m args below meth c H locs cells slots Q (F0 m pc ls rest) q := by
  intro T hT X
  have hpl : e.platform.magicAccessors = ({} : Platform).magicAccessors := by rw [X.admits.platform]
  obtain ⟨c3, c4, hc3, hc4, hasg⟩ := Cond.castable_spec hcast
  cases Option.some.inj (hc3.symm.trans hcl)
  obtain ⟨c5, hc5, hcl5⟩ := Cond.classLink_spec hown hlink e.platform hpl
  cases Option.some.inj (hc4.symm.trans hc5)
  obtain ⟨vm', X', st⟩ := X.thenCaughtThrough q (g := F0 m pc ls rest) rfl (Steps.refl _) (by rw [hT]; exact hcell) (by rw [hv]; rfl) (by obtain ⟨k9, h9, -⟩ := Vm.findClass_spec hcl; exact ⟨k9, h9⟩) pre x suf hsplit
    (fun z hz => by
      rcases hpass z hz with h | ⟨hz0, nm, hl1, hn1⟩
      · exact Or.inl h
      · obtain ⟨c6, hc6, hcl6⟩ := Cond.classLink_spec hown hl1 e.platform hpl
        obtain ⟨a8, b8, h1, h2, h3⟩ := hn1
        cases Option.some.inj (h1.symm.trans hcl)
        cases Option.some.inj (h2.symm.trans hc6)
        exact Or.inr ⟨hz0, _, hcl6, h3⟩) hx (Or.inr ⟨h0, c4, hcl5, hasg⟩)
  obtain ⟨t, a1, b1⟩ := kk (T.setVm vm') hT X'
  exact ⟨t, st.trans a1, b1⟩
end Rows
section Ends
variable {p : Program} {l : Launch} {e : Env} {R : Room} {s : State} {m : MethodId} {args : Array Value} {below : List Frame} {meth : Method} {c : Code} {H : Heap} {locs : List Loc} {cells slots : Nat} {Q : State → Prop}
variable {mc ms : Nat} {free : Addr → Prop} {A0 A1 : Nat → Prop} {H0 : Heap} {a : Array Value} {ls : Array Slot} {st0 rest : List Value}
variable {Qc : Array Value → State → Outcome → State → Prop} {XC : String → State → State → Prop}
/-- what a body that may throw owes at its end -/
def vx_MQ (below : List Frame) (Qc : Array Value → State → Outcome → State → Prop) (XC : String → State → State → Prop) (a : Array Value) (s : State) (mc ms : Nat) (free : Addr → Prop) : State → Prop := fun t =>
  ∃ o, t.status = .running ∧ Ended t below o ∧ vx_Q Qc XC mc ms free a s o t
theorem vx_ret {g : JFrame} {mc ms : Nat} (k : W p l e R s m args below meth c H locs cells slots (MQ below Qc args s mc ms free) g) : W p l e R s m args below meth c H locs cells slots (vx_MQ below Qc XC args s mc ms free) g := by
  intro T hT X
  obtain ⟨t, a1, o, b1, b2, b3, b4⟩ := k T hT X
  exact ⟨t, a1, o, b1, b2, Or.inl ⟨b3, b4⟩⟩
/-- not caught here: it goes on to the caller -/
theorem vx_widen {g : JFrame} {q : Addr} {k n : Nat} (h1 : cells ≤ k) (h2 : slots ≤ n) (kk : vx_W p l e R s m args below meth c H locs k n Q g q) : vx_W p l e R s m args below meth c H locs cells slots Q g q := fun T hT X => kk T hT (stand_widen X h1 h2)
theorem vx_out {pc : Nat} {E : String} {ce : Cell} {q : Addr} {mc ms : Nat} (hout : ∀ x ∈ c.exceptionTable.toList, covers x pc = false) (hlocks : meth.locks = false) (hcell : H[q]? = some ce) (hv : ce.vm = .none) (hcl : s.vm.findClass E = some ce.cls)
    (hx : ∀ t : State, t.heap = H → s.vm.Alike t.vm → XC E s t) (hf : ∀ z ∈ locs, free z.base) (hc : cells ≤ mc) (hs : slots ≤ ms) :
    vx_W p l e R s m args below meth c H locs cells slots (vx_MQ below Qc XC args s mc ms free) (F0 m pc ls rest) q := by
  intro T hT X
  obtain ⟨st1, hrun, hend, hW, hsm⟩ := X.leaveThrown q (g := F0 m pc ls rest) rfl rfl rfl hout hlocks
  have hcell9 : (T.setFrames (.throwing q :: below)).heap[q]? = some ce := by
    show T.heap[q]? = some ce
    rw [hT]; exact hcell
  exact ⟨_, st1, .threw q, hrun, hend, Or.inr ⟨q, rfl, E, ce, locs, hx _ hT hW.alike, hcell9, hv, hcl, hW, hsm.mono hc hs, hf⟩⟩
theorem vx_frame {U : State} {k n : Nat} (h : s.sameButNew ({ U with vm := s.vm } : State) locs k n) : s.heap.size ≤ U.heap.size ∧ ∀ q : Nat, q < s.heap.size → (∀ z ∈ locs, z.base ≠ q) → U.heap[q]? = s.heap[q]? := by
  obtain ⟨-, h2, -, -, -, h6⟩ := h
  refine ⟨h2, fun q hq hz => ?_⟩
  obtain ⟨c9, e1, e2, e3, e4⟩ := h6 q _ (Array.getElem?_eq_getElem hq)
  have hs : c9.slots = (s.heap[q]).slots := Array.ext_getElem? fun i => e4 i fun hm => hz _ hm rfl
  have h9 : c9 = s.heap[q] := by
    rw [hs] at e2
    exact e2
  have e5 : U.heap[q]? = some c9 := e1
  rw [e5, h9, Array.getElem?_eq_getElem hq]
/-- the words of a throw but the four that speak of the heap -/
def vx_no (w : Cond) : Bool := decide (w ≠ .isRef (.static Bundle.tN "UNASSIGNED_STACK" Bundle.steD)) && decide (w ≠ .isRef (.static Bundle.tN "SUPPRESSED_SENTINEL" Bundle.listD)) && decide (w ≠ .laysStatic Bundle.tN "UNASSIGNED_STACK" Bundle.steD) && decide (w ≠ .laysStatic Bundle.tN "SUPPRESSED_SENTINEL" Bundle.listD)
def vx_at0 (own : String) (ic : Nat) (X : String) (names : List String) : List Cond := (Bundle.ownAtoms0 own ic X names).filter vx_no
def vx_atS (own : String) (ic : Nat) (X : String) (names : List String) : List Cond := (Bundle.ownAtoms own ic X names).filter vx_no
/-- a word that the tables alone decide, or a good one -/
def vx_ot (w : Cond) : Bool := w.onTables || goodWord w
theorem vx_ot_at {args a' : Array Value} {s U : State} {w : Cond} (hW : s.WarmedH U.vm) (hvm : s.vm = U.vm) (hg : vx_ot w = true) (h : w.before args s = true) : w.before a' U = true := by
  simp only [vx_ot, Bool.or_eq_true] at hg
  rcases hg with hg | hg
  · exact va_tabs hg hvm h
  · exact word_at hW (good_of_word hg) h
/-- a list's words: the good ones out of the method's own list, the others by premises of their own -/
theorem vx_hat {args : Array Value} {s : State} {L B : List Cond} (h1 : ∀ w ∈ L.filter goodWord, w.before args s = true) (h2 : ∀ w ∈ L.filter (fun w => !goodWord w), w ∈ B) (h3 : ∀ w ∈ B, w.before args s = true) : ∀ w ∈ L, w.before args s = true := by
  intro w hw
  by_cases g : goodWord w = true
  · exact h1 w (List.mem_filter.mpr ⟨hw, g⟩)
  · refine h3 w (h2 w (List.mem_filter.mpr ⟨hw, ?_⟩))
    show (!goodWord w) = true
    cases hgw : goodWord w
    · rfl
    · exact absurd hgw g
theorem vx_c {args : Array Value} {s : State} {w : Cond} {B : List Cond} (h : w.before args s = true) (t : ∀ w ∈ B, w.before args s = true) : ∀ w' ∈ w :: B, w'.before args s = true := fun w' h' => (List.mem_cons.mp h').elim (fun e => by rw [e]; exact h) (t w')
theorem vx_n {args : Array Value} {s : State} : ∀ w ∈ ([] : List Cond), w.before args s = true := fun _ h => nomatch h
theorem vx_own {args : Array Value} {s : State} {L : List Cond} (h1 : ∀ w ∈ L.filter vx_no, w.before args s = true)
    (hU : (Cond.isRef (.static Bundle.tN "UNASSIGNED_STACK" Bundle.steD)).before args s = true) (hN : (Cond.isRef (.static Bundle.tN "SUPPRESSED_SENTINEL" Bundle.listD)).before args s = true)
    (lU : (Cond.laysStatic Bundle.tN "UNASSIGNED_STACK" Bundle.steD).before args s = true) (lN : (Cond.laysStatic Bundle.tN "SUPPRESSED_SENTINEL" Bundle.listD).before args s = true) : ∀ w ∈ L, w.before args s = true := by
  intro w hw
  by_cases e1 : w = .isRef (.static Bundle.tN "UNASSIGNED_STACK" Bundle.steD)
  · rw [e1]; exact hU
  · by_cases e2 : w = .isRef (.static Bundle.tN "SUPPRESSED_SENTINEL" Bundle.listD)
    · rw [e2]; exact hN
    · by_cases e3 : w = .laysStatic Bundle.tN "UNASSIGNED_STACK" Bundle.steD
      · rw [e3]; exact lU
      · by_cases e4 : w = .laysStatic Bundle.tN "SUPPRESSED_SENTINEL" Bundle.listD
        · rw [e4]; exact lN
        · exact h1 w (List.mem_filter.mpr ⟨hw, by unfold vx_no; rw [decide_eq_true e1, decide_eq_true e2, decide_eq_true e3, decide_eq_true e4]; rfl⟩)
/-- where a static field lies, its class's statics cell in H -/
def vx_L (C n d : String) (A : Nat → Prop) (U : State) (H : Heap) : Prop := ∃ (c : ClassId) (k : Class) (i : Nat) (f : Field) (a : Nat) (cell : Cell), U.vm.findClass C = some c ∧ U.fieldFound? C n d = some (c, k, i, f) ∧ f.isStatic = true ∧ k.statics = some a ∧ H[a]? = some cell ∧ cell.vm.isStatics = true ∧ cell.cls = c ∧ f.slot < cell.slots.size ∧ k.staticTypes[f.slot]? = some f.type ∧ ¬ A a
theorem vx_L.moved {C n d : String} {A : Nat → Prop} {u U : State} {H : Heap} (hvm : u.vm.Alike U.vm) (h : vx_L C n d A u H) : vx_L C n d A U H := by
  obtain ⟨c, k, i, f, a, cell, h1, h2, h3, h4, h5, h6, h7, h8, h9, h10⟩ := h
  obtain ⟨k', hi', he⟩ := State.fieldFound?_setVm hvm h2
  exact ⟨c, k', i, f, a, cell, by rw [hvm.findClass]; exact h1, hi', h3, by rw [he]; exact h4, h5, h6, h7, h8, by rw [he]; exact h9, h10⟩
theorem vx_L.kept {C n d : String} {A : Nat → Prop} {U : State} {H H1 : Heap} (h : vx_L C n d A U H) (hq : ∀ a : Nat, a < H.size → ¬ A a → H1[a]? = H[a]?) : vx_L C n d A U H1 := by
  obtain ⟨c, k, i, f, a, cell, h1, h2, h3, h4, h5, h6, h7, h8, h9, h10⟩ := h
  exact ⟨c, k, i, f, a, cell, h1, h2, h3, h4, by rw [hq a (Array.getElem?_eq_some_iff.mp h5).1 h10]; exact h5, h6, h7, h8, h9, h10⟩
theorem vx_L.narrow {C n d : String} {A B : Nat → Prop} {U : State} {H : Heap} (h : vx_L C n d A U H) (hAB : ∀ q, B q → A q) : vx_L C n d B U H := by
  obtain ⟨c, k, i, f, a, cell, h1, h2, h3, h4, h5, h6, h7, h8, h9, h10⟩ := h
  exact ⟨c, k, i, f, a, cell, h1, h2, h3, h4, h5, h6, h7, h8, h9, fun z => h10 (hAB _ z)⟩
theorem vx_L.word {C n d : String} {A : Nat → Prop} {s : State} {args : Array Value} (h : vx_L C n d A s s.heap) : (Cond.laysStatic C n d).before args s = true := by
  obtain ⟨c, k, i, f, a, cell, h1, h2, h3, h4, h5, h6, h7, h8, h9, -⟩ := h
  show (Cond.laysStatic C n d).holds args s none s [] = true
  exact Cond.laysStatic_of h1 h2 h3 h4 h5 h6 h7 h8 h9
/-- .. and what it holds: null or some reference -/
def vx_Zq (C n d : String) (A : Nat → Prop) (U : State) (H : Heap) : Prop := va_Zq C n d A U H ∧ vx_L C n d A U H
theorem vx_Zq.moved {C n d : String} {A : Nat → Prop} {u U : State} {H : Heap} (hvm : u.vm.Alike U.vm) (h : vx_Zq C n d A u H) : vx_Zq C n d A U H := ⟨va_Zq.moved hvm h.1, vx_L.moved hvm h.2⟩
theorem vx_Zq.kept {C n d : String} {A : Nat → Prop} {U : State} {H H1 : Heap} (h : vx_Zq C n d A U H) (hq : ∀ a : Nat, a < H.size → ¬ A a → H1[a]? = H[a]?) : vx_Zq C n d A U H1 := ⟨va_Zq.kept h.1 hq, vx_L.kept h.2 hq⟩
theorem vx_Zq.narrow {C n d : String} {A B : Nat → Prop} {U : State} {H : Heap} (h : vx_Zq C n d A U H) (hAB : ∀ q, B q → A q) : vx_Zq C n d B U H := ⟨va_Zq.narrow h.1 hAB, vx_L.narrow h.2 hAB⟩
theorem vx_Zqof {args : Array Value} {s : State} {C n d : String} {A : Nat → Prop} (hl : (Cond.laysStatic C n d).before args s = true) (hini : (Cond.initialized C).before args s = true) (h : (Cond.isRef (.static C n d)).before args s = true) (hA : ∀ a : Nat, a < s.heap.size → ¬ A a) : vx_Zq C n d A s s.heap := by
  refine ⟨va_Zqof hl hini h hA, ?_⟩
  obtain ⟨c, k, i, f, a, cell, h1, h2, h3, h4, h5, h6, h7, h8, h9⟩ := Cond.laysStatic_spec hl
  exact ⟨c, k, i, f, a, cell, h1, h2, h3, h4, h5, h6, h7, h8, h9, hA a (Array.getElem?_eq_some_iff.mp h5).1⟩
theorem vx_isRef {C n d : String} {v : Value} {A : Nat → Prop} {s : State} {args : Array Value} (h : va_Z C n d v A s s.heap) (hv : v.isRef = true) : (Cond.isRef (.static C n d)).before args s = true := by
  obtain ⟨cf, kf, fi, f, a, cell, h1, h2, h3, h4, h5, h6, h7, -⟩ := h
  have he : (Term.static C n d).eval args s none [] s = some v := by
    simp [Term.eval, State.fieldNamed?, h1, h2, h4, h5, h6, h7]
  simp only [Cond.before, Cond.holds, Cond.value, he]
  cases v <;> simp_all [Value.isRef]
theorem vx_isRefq {C n d : String} {A : Nat → Prop} {s : State} {args : Array Value} (h : va_Zq C n d A s s.heap) : (Cond.isRef (.static C n d)).before args s = true := by
  rcases h with h | ⟨t, h⟩
  · exact vx_isRef h rfl
  · exact vx_isRef h rfl
/-- the same frame, seen from here: as if the method were called anew in this heap -/
theorem vx_rebase {T : State} (X : Stand p l e R s m args below meth c T locs cells slots) {R' : Room} (hf : R'.frames ≤ R.frames) (hl : R'.locals ≤ R.locals) (hc : cells + R'.cells ≤ R.cells) (hs : slots + R'.slots ≤ R.slots) :
    Stand p l e R' ((T.setVm s.vm).setFrames (.invoking m args :: below)) m args below meth c T [] 0 0 := by
  have htop : (T.setVm s.vm).topJava?.isSome := X.here.top
  have hF : ((T.setVm s.vm).setFrames (.invoking m args :: below)).frames = .invoking m args :: below := State.frames_setFrames _ (State.cur_lt_of_top htop)
  obtain ⟨g₀, hg0⟩ := Option.isSome_iff_exists.mp htop
  obtain ⟨r, hr⟩ := State.topJava?_eq_some.mp hg0
  have hl9 : e.platform.stackLimits (T.setVm s.vm).me = e.platform.stackLimits s.me := X.limits
  have hb9 : (T.setVm s.vm).me.stackBytes = s.me.stackBytes := X.bytes
  refine ⟨X.admits, X.cas, X.clock, hF, ?_, X.hears, X.method, X.code, X.here, X.tail, X.warmed, ?_, ?_, ?_⟩
  · have h := X.room
    have hU : ((T.setVm s.vm).setFrames (.invoking m args :: below)).localsInUse = s.localsInUse := by
      rw [State.localsInUse_invoking hF (meth := meth) (c := c) X.method X.code, State.localsInUse_invoking X.frames X.method X.code]
    simp only [State.hasRoom, Bool.and_eq_true, decide_eq_true_eq] at h ⊢
    obtain ⟨⟨⟨⟨h1, h2, h3, h4, h5, h6⟩, h7⟩, h8⟩, h9⟩ := h
    rw [X.frames, List.length_cons] at h2 h3
    have q1 := X.heapSize
    have q2 := X.used
    simp only [hF, hU, List.length_cons, State.stackLimits_setFrames, State.stackBytes_setFrames, hl9, hb9]
    refine ⟨⟨⟨⟨by omega, by omega, by omega, by omega, by omega, h6⟩, ?_⟩, ?_⟩, X.book⟩
    · show T.heap.size + R'.cells ≤ e.platform.maxCells
      omega
    · show T.slotsUsed + R'.slots ≤ e.platform.maxSlots
      omega
  · rw [State.stackLimits_setFrames]; rfl
  · rw [State.stackBytes_setFrames]; rfl
  · refine ⟨?_, Nat.le_refl _, Nat.le_refl _, ?_, ?_, fun a c9 h9 => ⟨c9, h9, rfl, rfl, fun _ _ => rfl⟩⟩
    · obtain ⟨t, ht, -⟩ := State.frames_cons hr
      show T.setVm s.vm = { ((T.setVm s.vm).setFrames (.invoking m args :: below)).setFrames (T.setVm s.vm).frames with heap := T.heap, slotsUsed := T.slotsUsed }
      rw [State.setFrames_setFrames, State.setFrames_self ht]
      rfl
    · show T.slotsUsed = T.slotsUsed + ((T.heap.toList.drop T.heap.size).map (·.slots.size)).sum
      rw [List.drop_eq_nil_of_le (Nat.le_of_eq Array.length_toList)]
      rfl
    · show ((T.heap.toList.drop T.heap.size).map (·.slots.size)).sum ≤ 0
      rw [List.drop_eq_nil_of_le (Nat.le_of_eq Array.length_toList)]
      exact Nat.le_refl _
/-- 'throw new E()': new; dup; invokespecial; athrow -/
theorem vx_throw0 {cc : ByteArray} {pc : Nat} (hexec : p.tables.exec = Jvm.exec) (hb : c.code = cc) (hl : l.stackTraces = false) {own cls : String} {names : List String} {ik ic mc ms : Nat} {A : Nat → Prop}
    (hown : s.vm.findClass own = some m.cls) (hcls : Bundle.fit cls = true) (hnames : ∀ n ∈ names, Bundle.fit n = true)
    (hk : (Cond.classLink own ik cls).before args s = true) (hini : (Cond.initialized cls).before args s = true) (hat : ∀ w ∈ vx_at0 own ic cls names, w.before args s = true)
    (hgood : ∀ w ∈ Cond.classLink own ik cls :: Cond.initialized cls :: vx_at0 own ic cls names, vx_ot w = true)
    (hU : vx_Zq Bundle.tN "UNASSIGNED_STACK" Bundle.steD A s s.heap) (hN : vx_Zq Bundle.tN "SUPPRESSED_SENTINEL" Bundle.listD A s s.heap) (hS : va_S A s.heap H locs) (hsize : ls.size = c.maxLocals)
    (d0 : decode cc pc = .ok (.new ik, 3)) (d3 : decode cc (pc + 3) = .ok (.dup, 1)) (d4 : decode cc (pc + 4) = .ok (.invokespecial ic, 3)) (d7 : decode cc (pc + 7) = .ok (.athrow, 1))
    (hout : ∀ x ∈ c.exceptionTable.toList, covers x (pc + 7) = false)
    (hRframes : names.length + 3 < R.frames) (hRlocals : (rest.map fun v => v.category).sum + (13 * (names.length + 1) + 42) ≤ R.locals) (hRcells : cells + 1 ≤ R.cells) (hRslots : slots + 6 ≤ R.slots) (hlocks : meth.locks = false)
    (hx : ∀ t : State, s.vm.Alike t.vm → H.size ≤ t.heap.size → (∀ q : Nat, q < H.size → t.heap[q]? = H[q]?) → XC cls s t)
    (hf : ∀ z ∈ locs, free z.base) (hc : cells + 1 ≤ mc) (hs : slots + 6 ≤ ms) :
    W p l e R s m args below meth c H locs cells slots (vx_MQ below Qc XC args s mc ms free) (F0 m pc ls rest) := by
  intro T hT X
  have htr : e.platform.stackTraces = false := (show e.platform.stackTraces = l.stackTraces by rw [X.admits.platform]).trans hl
  have Y := vx_rebase X (R' := { frames := R.frames, locals := R.locals, cells := 1, slots := 6 }) (Nat.le_refl _) (Nat.le_refl _) hRcells hRslots
  obtain ⟨s', hA⟩ : ∃ z, z = (T.setVm s.vm).setFrames (.invoking m args :: below) := ⟨_, rfl⟩
  rw [← hA] at Y
  have hvm : s'.vm = s.vm := by rw [hA]; rfl
  have hhp : s'.heap = H := by rw [hA]; exact hT
  have hW0 : s.WarmedH s'.vm := by rw [hvm]; exact State.WarmedH.refl s
  have hat' : ∀ w ∈ vx_at0 own ic cls names, w.before args s' = true := fun w hw => vx_ot_at hW0 hvm.symm (hgood w (List.mem_cons_of_mem _ (List.mem_cons_of_mem _ hw))) (hat w hw)
  have hk' : (Cond.classLink own ik cls).before args s' = true := vx_ot_at hW0 hvm.symm (hgood _ List.mem_cons_self) hk
  have hini' : (Cond.initialized cls).before args s' = true := vx_ot_at hW0 hvm.symm (hgood _ (List.mem_cons_of_mem _ List.mem_cons_self)) hini
  have hU' : vx_Zq Bundle.tN "UNASSIGNED_STACK" Bundle.steD A s' s'.heap := by rw [hhp]; exact vx_Zq.moved hW0.alike (hU.kept hS.2.1)
  have hN' : vx_Zq Bundle.tN "SUPPRESSED_SENTINEL" Bundle.listD A s' s'.heap := by rw [hhp]; exact vx_Zq.moved hW0.alike (hN.kept hS.2.1)
  have h : ∀ w ∈ Bundle.ownAtoms0 own ic cls names, w.before args s' = true := vx_own hat' (vx_isRefq hU'.1) (vx_isRefq hN'.1) hU'.2.word hN'.2.word
  have hown' : s'.vm.findClass own = some m.cls := by rw [hvm]; exact hown
  have hins : (Cond.instantiable cls 6).before args s' = true := h _ (by simp [Bundle.ownAtoms0])
  obtain ⟨vm₁, cX, kX, hfX, hkX, -, -, X₁, st1⟩ := Y.newCold hexec (own := own) (C := cls) (index := ik) (n := 6) hown' hk' hins hini'
    (g := F0 m pc ls rest) rfl (by rw [hb]; exact d0) (Nat.le_refl _) (Nat.le_refl _)
  generalize hT1 : (T.setVm vm₁).pushCell { cls := cX, slots := kX.instanceTypes.map defaultValue, vm := .none } = T1 at X₁ st1
  have hcat : (Value.ref T.heap.size).category = 1 := rfl
  have hcellA : T1.heap[T.heap.size]? = some (freshCell cX kX) := by rw [← hT1]; exact State.heap_pushCell_size _ _
  have d3' : decode c.code (pc + 3) = .ok (.dup, 1) := by rw [hb]; exact d3
  obtain ⟨U, hsteps, hrun, hend, hW, hsame, ce, hce, hO⟩ := X₁.ctorThrow0 hexec htr (own := own) (cls := cls) (names := names) (ic := ic) hown' hcls hnames h (fun x hx => nomatch hx) hfX hkX hcellA (by rw [hhp, hT]; exact Nat.le_refl _)
    (g := { method := m, pc := pc + 4, locals := ls, stack := .ref T.heap.size :: .ref T.heap.size :: rest, locked := none }) rfl hsize rfl rfl (rest := rest) rfl
    (by rw [hb]; exact d4) (by rw [hb]; exact d7) hout hRframes (by simp only [List.map_cons, List.sum_cons, hcat]; omega) hlocks
  obtain ⟨f1, f2⟩ := vx_frame hsame
  rw [hhp] at f1 f2
  have hWs : s.WarmedH U.vm := State.WarmedH.trans hW0 hW
  have hcl : s.vm.findClass cls = some ce.cls := by
    have h9 := hO.cls
    rw [hvm] at h9
    exact h9
  have hall : s.sameButNew ({ U with vm := s.vm } : State) locs mc ms := by
    subst hA
    obtain ⟨e1, e2⟩ := hsame
    rw [State.setFrames_setFrames] at e1
    have h2 : (T.setVm s.vm).sameButNew ({ U with vm := s.vm } : State) [] (0 + 1) (0 + 6) := ⟨e1, e2⟩
    have h3 := X.same.trans h2
    rw [List.append_nil] at h3
    exact h3.mono hc hs
  refine ⟨U, ?_, .threw T.heap.size, hrun, hend, Or.inr ⟨T.heap.size, rfl, cls, ce, locs, hx U hWs.alike f1 (fun q hq => f2 q hq (fun z hz => nomatch hz)), hce, hO.vm, hcl, hWs, hall, hf⟩⟩
  refine st1 _ ?_
  show Steps p.tables e below (T1.setTop { method := m, pc := pc + 3, locals := ls, stack := .ref T.heap.size :: rest, locked := none }) _
  jvm_step X₁.here [X₁.here.top, hexec, d3', Value.category]
  exact hsteps
/-- 'throw new E("text")': new; dup; ldc; invokespecial; athrow -/
theorem vx_throwS {cc : ByteArray} {pc : Nat} (hexec : p.tables.exec = Jvm.exec) (hb : c.code = cc) (hl : l.stackTraces = false) {own cls text : String} {names : List String} {ik is ic mc ms sa : Nat} {A : Nat → Prop}
    (hown : s.vm.findClass own = some m.cls) (hcls : Bundle.fit cls = true) (hnames : ∀ n ∈ names, Bundle.fit n = true)
    (hk : (Cond.classLink own ik cls).before args s = true) (hini : (Cond.initialized cls).before args s = true) (hstr : vk_R own is text sa s) (hat : ∀ w ∈ vx_atS own ic cls names, w.before args s = true)
    (hgood : ∀ w ∈ Cond.classLink own ik cls :: Cond.initialized cls :: vx_atS own ic cls names, vx_ot w = true)
    (hU : vx_Zq Bundle.tN "UNASSIGNED_STACK" Bundle.steD A s s.heap) (hN : vx_Zq Bundle.tN "SUPPRESSED_SENTINEL" Bundle.listD A s s.heap) (hS : va_S A s.heap H locs) (hsize : ls.size = c.maxLocals)
    (d0 : decode cc pc = .ok (.new ik, 3)) (d3 : decode cc (pc + 3) = .ok (.dup, 1)) (d4 : decode cc (pc + 4) = .ok (.ldc is, 2)) (d6 : decode cc (pc + 6) = .ok (.invokespecial ic, 3)) (d9 : decode cc (pc + 9) = .ok (.athrow, 1))
    (hout : ∀ x ∈ c.exceptionTable.toList, covers x (pc + 9) = false)
    (hRframes : names.length + 3 < R.frames) (hRlocals : (rest.map fun v => v.category).sum + (13 * (names.length + 1) + 43) ≤ R.locals) (hRcells : cells + 1 ≤ R.cells) (hRslots : slots + 6 ≤ R.slots) (hlocks : meth.locks = false)
    (hx : ∀ t : State, s.vm.Alike t.vm → H.size ≤ t.heap.size → (∀ q : Nat, q < H.size → t.heap[q]? = H[q]?) → XC cls s t)
    (hf : ∀ z ∈ locs, free z.base) (hc : cells + 1 ≤ mc) (hs : slots + 6 ≤ ms) :
    W p l e R s m args below meth c H locs cells slots (vx_MQ below Qc XC args s mc ms free) (F0 m pc ls rest) := by
  intro T hT X
  have htr : e.platform.stackTraces = false := (show e.platform.stackTraces = l.stackTraces by rw [X.admits.platform]).trans hl
  have Y := vx_rebase X (R' := { frames := R.frames, locals := R.locals, cells := 1, slots := 6 }) (Nat.le_refl _) (Nat.le_refl _) hRcells hRslots
  obtain ⟨s', hA⟩ : ∃ z, z = (T.setVm s.vm).setFrames (.invoking m args :: below) := ⟨_, rfl⟩
  rw [← hA] at Y
  have hvm : s'.vm = s.vm := by rw [hA]; rfl
  have hhp : s'.heap = H := by rw [hA]; exact hT
  have hW0 : s.WarmedH s'.vm := by rw [hvm]; exact State.WarmedH.refl s
  have hat' : ∀ w ∈ vx_atS own ic cls names, w.before args s' = true := fun w hw => vx_ot_at hW0 hvm.symm (hgood w (List.mem_cons_of_mem _ (List.mem_cons_of_mem _ hw))) (hat w hw)
  have hk' : (Cond.classLink own ik cls).before args s' = true := vx_ot_at hW0 hvm.symm (hgood _ List.mem_cons_self) hk
  have hini' : (Cond.initialized cls).before args s' = true := vx_ot_at hW0 hvm.symm (hgood _ (List.mem_cons_of_mem _ List.mem_cons_self)) hini
  have hU' : vx_Zq Bundle.tN "UNASSIGNED_STACK" Bundle.steD A s' s'.heap := by rw [hhp]; exact vx_Zq.moved hW0.alike (hU.kept hS.2.1)
  have hN' : vx_Zq Bundle.tN "SUPPRESSED_SENTINEL" Bundle.listD A s' s'.heap := by rw [hhp]; exact vx_Zq.moved hW0.alike (hN.kept hS.2.1)
  have h : ∀ w ∈ Bundle.ownAtoms own ic cls names, w.before args s' = true := vx_own hat' (vx_isRefq hU'.1) (vx_isRefq hN'.1) hU'.2.word hN'.2.word
  have hown' : s'.vm.findClass own = some m.cls := by rw [hvm]; exact hown
  have hins : (Cond.instantiable cls 6).before args s' = true := h _ (by simp [Bundle.ownAtoms])
  obtain ⟨vm₁, cX, kX, hfX, hkX, -, -, X₁, st1⟩ := Y.newCold hexec (own := own) (C := cls) (index := ik) (n := 6) hown' hk' hins hini'
    (g := F0 m pc ls rest) rfl (by rw [hb]; exact d0) (Nat.le_refl _) (Nat.le_refl _)
  generalize hT1 : (T.setVm vm₁).pushCell { cls := cX, slots := kX.instanceTypes.map defaultValue, vm := .none } = T1 at X₁ st1
  have hcat : (Value.ref T.heap.size).category = 1 := rfl
  have hcellA : T1.heap[T.heap.size]? = some (freshCell cX kX) := by rw [← hT1]; exact State.heap_pushCell_size _ _
  have d3' : decode c.code (pc + 3) = .ok (.dup, 1) := by rw [hb]; exact d3
  have d4' : decode c.code (pc + 4) = .ok (.ldc is, 2) := by rw [hb]; exact d4
  have hstr' : vk_R own is text sa s' := vk_R.warm hW0 hstr
  obtain ⟨U, hsteps, hrun, hend, hW, hsame, ce, hce, hO⟩ := X₁.ctorThrowS hexec htr (own := own) (cls := cls) (names := names) (ic := ic) hown' hcls hnames h (fun x hx => nomatch hx) hfX hkX hcellA (by rw [hhp, hT]; exact Nat.le_refl _) (msg := .ref sa) rfl
    (g := { method := m, pc := pc + 6, locals := ls, stack := .ref sa :: .ref T.heap.size :: .ref T.heap.size :: rest, locked := none }) rfl hsize rfl rfl (rest := rest) rfl
    (by rw [hb]; exact d6) (by rw [hb]; exact d9) hout hRframes (by simp only [List.map_cons, List.sum_cons, hcat]; omega) hlocks
  obtain ⟨f1, f2⟩ := vx_frame hsame
  rw [hhp] at f1 f2
  have hWs : s.WarmedH U.vm := State.WarmedH.trans hW0 hW
  have hcl : s.vm.findClass cls = some ce.cls := by
    have h9 := hO.cls
    rw [hvm] at h9
    exact h9
  have hall : s.sameButNew ({ U with vm := s.vm } : State) locs mc ms := by
    subst hA
    obtain ⟨e1, e2⟩ := hsame
    rw [State.setFrames_setFrames] at e1
    have h2 : (T.setVm s.vm).sameButNew ({ U with vm := s.vm } : State) [] (0 + 1) (0 + 6) := ⟨e1, e2⟩
    have h3 := X.same.trans h2
    rw [List.append_nil] at h3
    exact h3.mono hc hs
  refine ⟨U, ?_, .threw T.heap.size, hrun, hend, Or.inr ⟨T.heap.size, rfl, cls, ce, locs, hx U hWs.alike f1 (fun q hq => f2 q hq (fun z hz => nomatch hz)), hce, hO.vm, hcl, hWs, hall, hf⟩⟩
  refine st1 _ ?_
  show Steps p.tables e below (T1.setTop { method := m, pc := pc + 3, locals := ls, stack := .ref T.heap.size :: rest, locked := none }) _
  jvm_step X₁.here [X₁.here.top, hexec, d3', Value.category]
  exact X₁.ldcString hexec (own := own) (text := text) (index := is) (a := sa) hown' hstr'.1 hstr'.2
    (g := { method := m, pc := pc + 4, locals := ls, stack := .ref T.heap.size :: .ref T.heap.size :: rest, locked := none }) rfl d4' _ hsteps
/-- 'throw new E("text")', the text by a wide index -/
theorem vx_throwSW {cc : ByteArray} {pc : Nat} (hexec : p.tables.exec = Jvm.exec) (hb : c.code = cc) (hl : l.stackTraces = false) {own cls text : String} {names : List String} {ik is ic mc ms sa : Nat} {A : Nat → Prop}
    (hown : s.vm.findClass own = some m.cls) (hcls : Bundle.fit cls = true) (hnames : ∀ n ∈ names, Bundle.fit n = true)
    (hk : (Cond.classLink own ik cls).before args s = true) (hini : (Cond.initialized cls).before args s = true) (hstr : vk_R own is text sa s) (hat : ∀ w ∈ vx_atS own ic cls names, w.before args s = true)
    (hgood : ∀ w ∈ Cond.classLink own ik cls :: Cond.initialized cls :: vx_atS own ic cls names, vx_ot w = true)
    (hU : vx_Zq Bundle.tN "UNASSIGNED_STACK" Bundle.steD A s s.heap) (hN : vx_Zq Bundle.tN "SUPPRESSED_SENTINEL" Bundle.listD A s s.heap) (hS : va_S A s.heap H locs) (hsize : ls.size = c.maxLocals)
    (d0 : decode cc pc = .ok (.new ik, 3)) (d3 : decode cc (pc + 3) = .ok (.dup, 1)) (d4 : decode cc (pc + 4) = .ok (.ldc_w is, 3)) (d7 : decode cc (pc + 7) = .ok (.invokespecial ic, 3)) (d10 : decode cc (pc + 10) = .ok (.athrow, 1))
    (hout : ∀ x ∈ c.exceptionTable.toList, covers x (pc + 10) = false)
    (hRframes : names.length + 3 < R.frames) (hRlocals : (rest.map fun v => v.category).sum + (13 * (names.length + 1) + 43) ≤ R.locals) (hRcells : cells + 1 ≤ R.cells) (hRslots : slots + 6 ≤ R.slots) (hlocks : meth.locks = false)
    (hx : ∀ t : State, s.vm.Alike t.vm → H.size ≤ t.heap.size → (∀ q : Nat, q < H.size → t.heap[q]? = H[q]?) → XC cls s t)
    (hf : ∀ z ∈ locs, free z.base) (hc : cells + 1 ≤ mc) (hs : slots + 6 ≤ ms) :
    W p l e R s m args below meth c H locs cells slots (vx_MQ below Qc XC args s mc ms free) (F0 m pc ls rest) := by
  intro T hT X
  have htr : e.platform.stackTraces = false := (show e.platform.stackTraces = l.stackTraces by rw [X.admits.platform]).trans hl
  have Y := vx_rebase X (R' := { frames := R.frames, locals := R.locals, cells := 1, slots := 6 }) (Nat.le_refl _) (Nat.le_refl _) hRcells hRslots
  obtain ⟨s', hA⟩ : ∃ z, z = (T.setVm s.vm).setFrames (.invoking m args :: below) := ⟨_, rfl⟩
  rw [← hA] at Y
  have hvm : s'.vm = s.vm := by rw [hA]; rfl
  have hhp : s'.heap = H := by rw [hA]; exact hT
  have hW0 : s.WarmedH s'.vm := by rw [hvm]; exact State.WarmedH.refl s
  have hat' : ∀ w ∈ vx_atS own ic cls names, w.before args s' = true := fun w hw => vx_ot_at hW0 hvm.symm (hgood w (List.mem_cons_of_mem _ (List.mem_cons_of_mem _ hw))) (hat w hw)
  have hk' : (Cond.classLink own ik cls).before args s' = true := vx_ot_at hW0 hvm.symm (hgood _ List.mem_cons_self) hk
  have hini' : (Cond.initialized cls).before args s' = true := vx_ot_at hW0 hvm.symm (hgood _ (List.mem_cons_of_mem _ List.mem_cons_self)) hini
  have hU' : vx_Zq Bundle.tN "UNASSIGNED_STACK" Bundle.steD A s' s'.heap := by rw [hhp]; exact vx_Zq.moved hW0.alike (hU.kept hS.2.1)
  have hN' : vx_Zq Bundle.tN "SUPPRESSED_SENTINEL" Bundle.listD A s' s'.heap := by rw [hhp]; exact vx_Zq.moved hW0.alike (hN.kept hS.2.1)
  have h : ∀ w ∈ Bundle.ownAtoms own ic cls names, w.before args s' = true := vx_own hat' (vx_isRefq hU'.1) (vx_isRefq hN'.1) hU'.2.word hN'.2.word
  have hown' : s'.vm.findClass own = some m.cls := by rw [hvm]; exact hown
  have hins : (Cond.instantiable cls 6).before args s' = true := h _ (by simp [Bundle.ownAtoms])
  obtain ⟨vm₁, cX, kX, hfX, hkX, -, -, X₁, st1⟩ := Y.newCold hexec (own := own) (C := cls) (index := ik) (n := 6) hown' hk' hins hini'
    (g := F0 m pc ls rest) rfl (by rw [hb]; exact d0) (Nat.le_refl _) (Nat.le_refl _)
  generalize hT1 : (T.setVm vm₁).pushCell { cls := cX, slots := kX.instanceTypes.map defaultValue, vm := .none } = T1 at X₁ st1
  have hcat : (Value.ref T.heap.size).category = 1 := rfl
  have hcellA : T1.heap[T.heap.size]? = some (freshCell cX kX) := by rw [← hT1]; exact State.heap_pushCell_size _ _
  have d3' : decode c.code (pc + 3) = .ok (.dup, 1) := by rw [hb]; exact d3
  have d4' : decode c.code (pc + 4) = .ok (.ldc_w is, 3) := by rw [hb]; exact d4
  have hstr' : vk_R own is text sa s' := vk_R.warm hW0 hstr
  obtain ⟨U, hsteps, hrun, hend, hW, hsame, ce, hce, hO⟩ := X₁.ctorThrowS hexec htr (own := own) (cls := cls) (names := names) (ic := ic) hown' hcls hnames h (fun x hx => nomatch hx) hfX hkX hcellA (by rw [hhp, hT]; exact Nat.le_refl _) (msg := .ref sa) rfl
    (g := { method := m, pc := pc + 7, locals := ls, stack := .ref sa :: .ref T.heap.size :: .ref T.heap.size :: rest, locked := none }) rfl hsize rfl rfl (rest := rest) rfl
    (by rw [hb]; exact d7) (by rw [hb]; exact d10) hout hRframes (by simp only [List.map_cons, List.sum_cons, hcat]; omega) hlocks
  obtain ⟨f1, f2⟩ := vx_frame hsame
  rw [hhp] at f1 f2
  have hWs : s.WarmedH U.vm := State.WarmedH.trans hW0 hW
  have hcl : s.vm.findClass cls = some ce.cls := by
    have h9 := hO.cls
    rw [hvm] at h9
    exact h9
  have hall : s.sameButNew ({ U with vm := s.vm } : State) locs mc ms := by
    subst hA
    obtain ⟨e1, e2⟩ := hsame
    rw [State.setFrames_setFrames] at e1
    have h2 : (T.setVm s.vm).sameButNew ({ U with vm := s.vm } : State) [] (0 + 1) (0 + 6) := ⟨e1, e2⟩
    have h3 := X.same.trans h2
    rw [List.append_nil] at h3
    exact h3.mono hc hs
  refine ⟨U, ?_, .threw T.heap.size, hrun, hend, Or.inr ⟨T.heap.size, rfl, cls, ce, locs, hx U hWs.alike f1 (fun q hq => f2 q hq (fun z hz => nomatch hz)), hce, hO.vm, hcl, hWs, hall, hf⟩⟩
  refine st1 _ ?_
  show Steps p.tables e below (T1.setTop { method := m, pc := pc + 3, locals := ls, stack := .ref T.heap.size :: rest, locked := none }) _
  jvm_step X₁.here [X₁.here.top, hexec, d3', Value.category]
  exact X₁.ldcStringW hexec (own := own) (text := text) (index := is) (a := sa) hown' hstr'.1 hstr'.2
    (g := { method := m, pc := pc + 4, locals := ls, stack := .ref T.heap.size :: .ref T.heap.size :: rest, locked := none }) rfl d4' _ hsteps
end Ends
section Bodies
variable {l : Launch}
theorem vx_ofW {y : MethodName} {ws ws' : List Cond} {rm : Room} {Pc : Array Value → State → Prop} {Qc : Array Value → State → Outcome → State → Prop} {XC : String → State → State → Prop} {mc ms : Nat} {free : Addr → Prop} {cc : ByteArray} {maxL : Nat} {ret : Option FieldType}
    (hy : plainName y.cls = true) (hw : ws = Cond.code y cc maxL ret :: ws')
    (body : ∀ p e s m args below meth c s₁, BodyLoose p l y (headSpec ws rm) cc maxL ret e s m args below meth c s₁ → c.maxLocals = maxL → (∀ x ∈ c.exceptionTable.toList, False) → Pc args s →
      W p l e (headSpec ws rm).room s m args below meth c s.heap [] 0 0 (vx_MQ below Qc XC args s mc ms free) (entryFrame m args maxL)) : vx_Met l y ws rm Pc Qc XC mc ms free := by
  refine MetFree.of_bodyS (code := cc) (maxLocals := maxL) (ret := ret) hy ?_ ?_
  · intro args s m h hn
    obtain ⟨meth, c, h1, h2, h3, h4, h5, h6, -, -⟩ := Cond.code_spec hn (atoms_spec (ws := ws) h _ (by rw [hw]; exact List.mem_cons_self))
    exact ⟨meth, c, h1, h2, h3, h4, h5, h6⟩
  · intro p e s m args below meth c s₁ B hml hP _
    have hh0 : s₁.heap = s.heap := by rw [B.state]; rfl
    have ht : ∀ x ∈ c.exceptionTable.toList, False := by
      obtain ⟨meth9, c9, h1, h2, -, -, -, -, h7, -⟩ := Cond.code_spec B.named (atoms_spec (ws := ws) B.pre _ (by rw [hw]; exact List.mem_cons_self))
      cases Option.some.inj (h1.symm.trans B.method)
      cases Option.some.inj (h2.symm.trans (Stand.of_body B).code)
      intro x hx
      rw [Array.isEmpty_iff.mp h7] at hx
      cases hx
    obtain ⟨t, a1, o, b1, b2, b3⟩ := body p e s m args below meth c s₁ B hml ht hP s₁ hh0 (Stand.of_body B)
    exact ⟨t, o, a1, b1, b2, b3⟩
/-- the table of a body with handlers -/
theorem vx_table {p : Program} {x y : MethodName} {S : Spec} {cc bytes : ByteArray} {maxL maxL' : Nat} {ret ret' : Option FieldType} {e : Env} {s s₁ : State} {m : MethodId} {args : Array Value} {below : List Frame} {meth : Method} {c : Code} {hh : List (Nat × Nat × Nat × Nat)}
    (B : BodyLoose p l y S cc maxL ret e s m args below meth c s₁) (h : (Cond.codeWith y bytes maxL' ret' hh).before args s = true) : c.exceptionTable.toList = tableOf hh := by
  obtain ⟨m9, meth9, c9, hn9, h1, h2, -, -, h6, -⟩ := Cond.codeWith_spec h
  cases Option.some.inj (hn9.symm.trans B.named)
  cases Option.some.inj (h1.symm.trans B.method)
  cases Option.some.inj (h2.symm.trans (Stand.of_body B).code)
  rw [← h6, table_eq]
end Bodies
end VXA
/-! ===== END ===== -/
/-! ===== BEGIN a static call of a method with an exception table ===== -/
section VXS
variable {p : Program} {l : Launch} {e : Env} {R : Room} {s : State} {m : MethodId} {args : Array Value} {below : List Frame} {meth : Method} {c : Code} {T : State} {H : Heap} {locs : List Loc} {cells slots : Nat}
abbrev vx_CSW (R : Room) (s : State) (args : Array Value) (own : String) (index : Nat) (y : MethodName) (bytes : ByteArray) (maxL : Nat) (ret : Option FieldType) (hh : List (Nat × Nat × Nat × Nat)) (ws : List Cond) (rm : Room) (mc ms n : Nat) : Prop :=
  (rm.cells = mc ∧ rm.slots = ms ∧ rm.frames + 1 ≤ R.frames ∧ 8 + (maxL + 11) + rm.locals ≤ R.locals ∧ (∀ w ∈ ws, ∀ (a' : Array Value) (U : State), s.WarmedH U.vm → w.before a' U = true) ∧ Cond.codeWith y bytes maxL ret hh ∈ ws) ∧
  (Cond.codeWith y bytes maxL ret hh).before args s = true ∧ (Cond.initialized y.cls).before args s = true ∧ (y.cls ≠ "java/lang/invoke/MethodHandle" ∧ y.cls ≠ "java/lang/invoke/VarHandle") ∧
  (∀ sig, parseMethodDescriptor y.desc = some sig → n = sig.parameters.length) ∧ (Cond.methodLink own index y).before args s = true ∧ (Cond.static y).before args s = true
theorem vx_cwSW {own : String} {index maxL mc ms : Nat} {y : MethodName} {bytes : ByteArray} {ret : Option FieldType} {hh : List (Nat × Nat × Nat × Nat)} {Ts ws ws' : List Cond} {rm : Room} (n : Nat) (ht : ∀ w ∈ Ts, w.before args s = true) (hT : GoodIn Ts (va_wsS own index y ws)) (hw : ws = Cond.codeWith y bytes maxL ret hh :: ws') (hrc : rm.cells = mc) (hrs : rm.slots = ms)
    (hd : y.cls ≠ "java/lang/invoke/MethodHandle" ∧ y.cls ≠ "java/lang/invoke/VarHandle" ∧ (parseMethodDescriptor y.desc).map (fun d => d.parameters.length) = some n) (hR : rm.frames + 1 ≤ R.frames ∧ 8 + (maxL + 11) + rm.locals ≤ R.locals) :
    vx_CSW R s args own index y bytes maxL ret hh ws rm mc ms n := by
  have ok : ∀ w ∈ va_wsS own index y ws, w.before args s = true := fun w h => ht w (hT w h).1
  have hG : GoodIn Ts ws := fun w h => hT w (by unfold va_wsS; exact List.mem_append_right _ h)
  have hc : Cond.codeWith y bytes maxL ret hh ∈ ws := by rw [hw]; exact List.mem_cons_self
  refine ⟨⟨hrc, hrs, hR.1, hR.2, pay_in ht hG, hc⟩, ht _ (hG _ hc).1, ok _ (by simp [va_wsS]), ⟨hd.1, hd.2.1⟩, fun sig h => ?_, ok _ (by simp [va_wsS]), ok _ (by simp [va_wsS])⟩
  have h2 := hd.2.2
  rw [h] at h2
  exact (Option.some.inj h2).symm
theorem vx_callSW (X : Stand p l e R s m args below meth c T locs cells slots) (hexec : p.tables.exec = Jvm.exec) {own : String} {index : Nat} {y : MethodName} {bytes : ByteArray} {maxL : Nat} {ret : Option FieldType} {hh : List (Nat × Nat × Nat × Nat)}
    (hown : s.vm.findClass own = some m.cls) (hlink : (Cond.methodLink own index y).before args s = true) (hstat : (Cond.static y).before args s = true) (hinit : (Cond.initialized y.cls).before args s = true)
    (hcode : (Cond.codeWith y bytes maxL ret hh).before args s = true) (hy : y.cls ≠ "java/lang/invoke/MethodHandle" ∧ y.cls ≠ "java/lang/invoke/VarHandle")
    {W9 : Nat} {Pre : Pt → Array Value → Prop} {Post : Pt → Array Value → Option Value → Pt → Prop} (hK : Back l R p e below s args y 3 W9 Pre Post)
    {g : JFrame} (hg : g.method = m) (hsize : g.locals.size = c.maxLocals) {argsL rest : List Value} (hlen : ∀ sig, parseMethodDescriptor y.desc = some sig → argsL.length = sig.parameters.length)
    (hstack : g.stack = argsL.reverse ++ rest) (hW : 2 * g.monitorRoom + (rest.map fun v => v.category).sum ≤ W9) (hdg : decode c.code g.pc = .ok (.invokestatic index, 3))
    (hpre : ∀ vm₁, s.WarmedH vm₁ → Pre ⟨T.setVm vm₁, locs, cells, slots⟩ argsL.toArray) :
    ∃ (v : Option Value) (vm₁ : Vm) (B : Pt), s.WarmedH vm₁ ∧ Stand p l e R s m args below meth c B.U B.locs B.cells B.slots ∧ Post ⟨T.setVm vm₁, locs, cells, slots⟩ argsL.toArray v B ∧
      ∀ target, Steps p.tables e below (B.U.setTop { g with pc := g.pc + 3, stack := v.toList ++ rest }) target → Steps p.tables e below (T.setTop g) target := by
  obtain ⟨mk, methM, cM, hnamed, hmethM, -, -, -, -, -, -, hsigM⟩ := Cond.codeWith_spec hcode
  have hstatic : methM.isStatic = true := Cond.static_spec hnamed hmethM hstat
  obtain ⟨kP, hkP, -⟩ := className_of_methodNamed hnamed
  have hinitP : kP.init = .initialized := Cond.initialized_spec (findClass_of_methodNamed hnamed) hkP hinit
  obtain ⟨vm₁, X₁, hstep₁⟩ := X.invokestatic hexec hown hlink hnamed hmethM hstatic hkP hinitP hy (g := g) hg (argsL := argsL) (rest := rest) (hlen _ hsigM) hstack hdg
  obtain ⟨v, B, X', hpost, hsteps⟩ := hK m meth c ⟨T.setVm vm₁, locs, cells, slots⟩ { g with stack := rest } (.invokestatic index) mk argsL.toArray X₁ hg hsize hdg hW (X₁.named hnamed) (hpre vm₁ X₁.warmed)
  exact ⟨v, vm₁, B, X₁.warmed, X', hpost, fun target h => hstep₁ _ fun acts => by rw [doInvoke_state]; exact hsteps.trans h⟩
theorem vx_runSW {y : MethodName} {bytes cc : ByteArray} {maxL nL mc ms n index : Nat} {ret : Option FieldType} {hh : List (Nat × Nat × Nat × Nat)} {ws : List Cond} {rm : Room} {Pc : Array Value → State → Prop} {Qc : Array Value → State → Outcome → State → Prop} {free : Addr → Prop} {Ts : List Cond} {own : String} {As rest : List Value} {g : JFrame}
    (S : CallFix p m c cc nL s args Ts own) (hM : Met l y ws rm Pc Qc mc ms free) (cw : vx_CSW R s args own index y bytes maxL ret hh ws rm mc ms n) (hp : PreS s H Pc As)
    (hg : g.method = m) (hn : As.length = n) (hsize : g.locals.size = nL) (hstack : g.stack = As.reverse ++ rest) (hW : 2 * g.monitorRoom + (rest.map fun v => v.category).sum ≤ 8) (hdg : decode cc g.pc = .ok (.invokestatic index, 3)) (hf : cells + mc ≤ R.cells ∧ slots + ms ≤ R.slots) :
    va_Run p l e R s m args below meth c H locs cells slots mc ms g rest (Qc As.toArray) (free) := by
  obtain ⟨⟨hrc, hrs, hfr, hlo, hws, hcw⟩, hcode, hini, hy, hlen, hl, hstt⟩ := cw
  have hK : Back l R p e below s args y 3 8 (PreOf R mc ms Pc) (PostOf Qc mc ms free) := va_backW (hh := hh) (bytes := bytes) (maxL := maxL) (ret := ret) hM hp.1 hrc hrs hfr hlo hws hcw (fun a' U hW => word_at hW (Or.inl (by first | rfl | simp [Cond.onTables, Cond.keeps, Cond.steady])) hini)
  obtain ⟨hx, hb, hml, ho, -⟩ := S
  intro T hT X
  obtain ⟨v, vm₁, ⟨U', l2, c2, s2⟩, hW₁, X', ⟨g', mk, t, L, e1, e2, hq, h1, hL, h2, h3⟩, st⟩ := vx_callSW X hx (hh := hh) (bytes := bytes) (maxL := maxL) (ret := ret) ho hl hstt hini hcode hy hK hg (hsize.trans hml.symm) (argsL := As) (rest := rest) (fun sig h => hn.trans (hlen sig h)) hstack hW (by rw [hb]; exact hdg)
    (fun vm₁ hW₁ => ⟨hf.1, hf.2, hp.2 (T.setVm vm₁) hT hW₁⟩)
  dsimp only [Pt.U, Pt.locs, Pt.cells, Pt.slots] at X' e1 e2 h1 h2 h3 st
  subst h1; subst h2; subst h3
  exact ⟨v, (T.setVm vm₁).calling g' mk As.toArray, t, U', L, hT, X', hL, e1, e2, hq, st⟩
/-- not caught here, past rows that name other classes: it goes on to the caller -/
theorem vx_outP {p : Program} {l : Launch} {e : Env} {R : Room} {s : State} {m : MethodId} {args : Array Value} {below : List Frame} {meth : Method} {c : Code} {H : Heap} {locs : List Loc} {cells slots : Nat} {free : Addr → Prop} {ls : Array Slot} {rest : List Value} {Qc : Array Value → State → Outcome → State → Prop} {XC : String → State → State → Prop}
    {pc : Nat} {own E : String} {ce : Cell} {q : Addr} {mc ms : Nat} (hown : s.vm.findClass own = some m.cls) (hlocks : meth.locks = false)
    (hpass : ∀ z ∈ c.exceptionTable.toList, covers z pc = false ∨ (z.catchType ≠ 0 ∧ ∃ nm : String, (Cond.classLink own z.catchType nm).before args s = true ∧ va_Nc E nm s)) (hcell : H[q]? = some ce) (hv : ce.vm = .none) (hcl : s.vm.findClass E = some ce.cls)
    (hx : ∀ t : State, t.heap = H → s.vm.Alike t.vm → XC E s t) (hf : ∀ z ∈ locs, free z.base) (hc : cells ≤ mc) (hs : slots ≤ ms) :
    vx_W p l e R s m args below meth c H locs cells slots (vx_MQ below Qc XC args s mc ms free) (F0 m pc ls rest) q := by
  intro T hT X
  have hpl : e.platform.magicAccessors = ({} : Platform).magicAccessors := by rw [X.admits.platform]
  obtain ⟨vm', hW', X', st⟩ := X.outThrough hlocks q (g := F0 m pc ls rest) rfl rfl rfl (cell := ce) (by rw [hT]; exact hcell) (by rw [hv]; rfl)
    (by obtain ⟨k9, h9, -⟩ := Vm.findClass_spec hcl; exact ⟨k9, h9⟩) (fun z hz => by
      rcases hpass z hz with h | ⟨hz0, nm, hl1, hn1⟩
      · exact Or.inl h
      · obtain ⟨c6, hc6, hcl6⟩ := Cond.classLink_spec hown hl1 e.platform hpl
        obtain ⟨a8, b8, h1, h2, h3⟩ := hn1
        cases Option.some.inj (h1.symm.trans hcl)
        cases Option.some.inj (h2.symm.trans hc6)
        exact Or.inr ⟨hz0, _, hcl6, h3⟩)
  obtain ⟨g₀, hfr⟩ := X'.frames_eq
  have hcell9 : ((T.setVm vm').setFrames (.throwing q :: below)).heap[q]? = some ce := by
    show T.heap[q]? = some ce
    rw [hT]; exact hcell
  have hend : Ended ((T.setVm vm').setFrames (.throwing q :: below)) below (.threw q) := State.frames_setFrames _ (State.cur_lt_of_frames hfr)
  refine ⟨(T.setVm vm').setFrames (.throwing q :: below), ?_, .threw q, X'.here.running, hend, Or.inr ⟨q, rfl, E, ce, locs, hx _ hT (X'.ends _).1.alike, hcell9, hv, hcl, (X'.ends _).1, (X'.ends _).2.mono hc hs, hf⟩⟩
  rw [X.pushThrowing_eq]
  exact st
/-- a thing of a world lies in the heap -/
theorem vx_lt {D : va_G} {cl : List vw_C} {ws : va_W} {H1 : Heap} (h : va_P D cl ws H1) {k : Nat} {q : Nat × va_E} (hk : ws[k]? = some q) : q.1 < H1.size := (h k q hk).lt
end VXS
/-! ===== END ===== -/
/-! ===== BEGIN methods with a table of their own: called by a name, returning or throwing ===== -/
section VXH
/-! vx_backW, vx_callVX, vx_callSX, vx_callVW, vx_runVW, vx_runVX, vx_runSX, vx_ofWH follow the same proofs as their sisters above (Free/Laws.lean, Shelf42/LK1.lean); vx_outP calls Shelf42/NT130.lean (outThrough). -/
section
variable {l : Launch} {R : Room} {p : Program} {e : Env} {below : List Frame} {s : State} {sargs : Array Value} {y : MethodName} {len W9 : Nat}
theorem vx_backW {ws : List Cond} {rm : Room} {Pc : Array Value → State → Prop} {Qc : Array Value → State → Outcome → State → Prop} {XC : String → State → State → Prop} {mc ms : Nat} {free : Addr → Prop} {bytes : ByteArray} {maxL : Nat} {ret : Option FieldType} {hh : List (Nat × Nat × Nat × Nat)}
    (hM : vx_Met l y ws rm Pc Qc XC mc ms free) (hblind : FrameBlind Pc) (hrc : rm.cells = mc) (hrs : rm.slots = ms)
    (hframes : rm.frames + 1 ≤ R.frames) (hlocals : W9 + (maxL + 11) + rm.locals ≤ R.locals)
    (hws : ∀ w ∈ ws, ∀ a' U, s.WarmedH U.vm → w.before a' U = true) (hcode : Cond.codeWith y bytes maxL ret hh ∈ ws) (hinit : ∀ a' U, s.WarmedH U.vm → (Cond.initialized y.cls).before a' U = true) :
    vx_Back l R p e below s sargs y len W9 (PreOf R mc ms Pc) (PostOf Qc mc ms free) (vx_Post XC mc ms free) := by
  intro m meth c A g ig mk a X hg hsize hdg hW hn hp
  have h1 : (headSpec ws rm).pre.before a A.U = true := atoms_intro fun w hw => hws w hw _ _ X.warmed
  have h2 : (Cond.codeWith y bytes maxL ret hh).before a A.U = true := hws _ hcode _ _ X.warmed
  have h3 : (Cond.initialized y.cls).before a A.U = true := hinit _ _ X.warmed
  have h4 : A.cells + (headSpec ws rm).room.cells ≤ R.cells := by rw [show (headSpec ws rm).room.cells = mc from hrc]; exact hp.1
  have h5 : A.slots + (headSpec ws rm).room.slots ≤ R.slots := by rw [show (headSpec ws rm).room.slots = ms from hrs]; exact hp.2.1
  have hPc : Pc a (A.U.calling g mk a) := hblind _ _ _ _ hp.2.2
  obtain ⟨U, Ls, c0, s0⟩ := A
  dsimp only [Pt.U, Pt.locs, Pt.cells, Pt.slots] at h1 h2 h3 h4 h5 X hn hPc ⊢
  obtain ⟨m9, methY, cY, hn9, hmY, hcY, -, hlY, -⟩ := Cond.codeWith_spec h2
  cases Option.some.inj (hn9.symm.trans hn)
  obtain ⟨kY, hkY, -⟩ := className_of_methodNamed hn
  have hinitY : kY.init = .initialized := Cond.initialized_spec (findClass_of_methodNamed hn) hkY h3
  have h : At U g.method c below := by rw [hg]; exact X.here
  have hlocals9 : W9 + (maxL + 11) + (headSpec ws rm).room.locals ≤ R.locals := hlocals
  have happ : (headSpec ws rm).appliesLoose y e.platform (U.calling g mk a) = true :=
    Spec.appliesLoose_calling (g := g) h hdg hn hkY hinitY
      (X.room_calling (g := g) (R' := (headSpec ws rm).room) hsize hmY hcY hframes (by rw [hlY]; omega) h4 h5) h1
  obtain ⟨mid, hmid⟩ := h.above
  have hfr : (U.setTop g).frames = (.java g :: mid) ++ below := by rw [State.frames_setTop' g h.top, hmid]; rfl
  obtain ⟨o, s₂, hsteps, -, hend, hq⟩ := Steps.callFree hM p X.admits X.cas X.clock (acts := []) hfr happ hPc trivial
  have hq' : vx_Q Qc XC mc ms free a (U.calling g mk a) o s₂ := hq
  rw [State.frames_setTop' g h.top] at hend
  obtain ⟨g₀, hg0⟩ := Option.isSome_iff_exists.mp h.top
  obtain ⟨r, hr⟩ := State.topJava?_eq_some.mp hg0
  have hr' : (({ U with heap := s₂.heap, slotsUsed := s₂.slotsUsed } : State).setVm s₂.vm).frames = .java g₀ :: r := hr
  rcases hq' with ⟨hqc, L, hfe, hL⟩ | ⟨q, rfl, E, ce, L, hx, hce, hcv, hcl, hW₂, hsm, hL⟩
  · obtain ⟨⟨v, rfl⟩, hW₂, e2, q2, q3, q4, q5, q6⟩ := id hfe
    have e3 : s₂ = ({ (U.calling g mk a).setFrames s₂.frames with heap := s₂.heap, slotsUsed := s₂.slotsUsed } : State).setVm s₂.vm := by
      have : s₂ = ({ s₂ with vm := (U.calling g mk a).vm } : State).setVm s₂.vm := rfl
      rw [e2] at this
      exact this
    obtain ⟨c₂, i₂, len₂, hc₂, hd₂, hf₂⟩ := hend
    have hW' : U.WarmedH s₂.vm := hW₂
    have hcc : c₂ = c := by
      have h1 : s₂.code? g.method = U.code? g.method := by
        rw [State.code?_eq, State.code?_eq, hW'.alike.method?]
      exact Option.some.inj (hc₂.symm.trans (h1.trans h.code))
    subst hcc
    have hlen : len₂ = len := by rw [hdg] at hd₂; cases hd₂; rfl
    subst hlen
    have hs₂ : s₂ = (({ U with heap := s₂.heap, slotsUsed := s₂.slotsUsed } : State).setVm s₂.vm).setTop { g with pc := g.pc + len₂, stack := v.toList ++ g.stack } := by
      refine e3.trans ?_
      rw [hf₂, State.calling_eq h.top, State.setFrames_setFrames, State.setTop_of_frames _ hr', hr]
      rfl
    have hsame : U.sameButNew ({ U with heap := s₂.heap, slotsUsed := s₂.slotsUsed } : State) L mc ms := by
      refine ⟨?_, q2, q3, q4, q5, q6⟩
      obtain ⟨t, ht, -⟩ := State.frames_cons hr
      show ({ U with heap := s₂.heap, slotsUsed := s₂.slotsUsed } : State) = { U.setFrames U.frames with heap := s₂.heap, slotsUsed := s₂.slotsUsed }
      rw [State.setFrames_self ht]
    subst hg
    refine Or.inl ⟨v, ⟨(({ U with heap := s₂.heap, slotsUsed := s₂.slotsUsed } : State).setVm s₂.vm), Ls ++ L, c0 + mc, s0 + ms⟩,
      ⟨X.admits, X.cas, X.clock, X.frames, X.room, X.hears, X.method, X.code, (X.here.setHeapUsed s₂.heap s₂.slotsUsed).setVm hW'.alike, X.tail, State.WarmedH.trans X.warmed hW', X.limits, X.bytes, X.same.trans (hsame.setVm s.vm)⟩,
      ⟨g, mk, s₂, L, rfl, rfl, hqc, rfl, hL, rfl, rfl⟩, ?_⟩
    show Steps p.tables e below _ ((({ U with heap := s₂.heap, slotsUsed := s₂.slotsUsed } : State).setVm s₂.vm).setTop { g with pc := g.pc + len₂, stack := v.toList ++ g.stack })
    rw [← hs₂]
    exact hsteps
  · obtain ⟨e2, q2, q3, q4, q5, q6⟩ := id hsm
    have e3 : s₂ = ({ (U.calling g mk a).setFrames s₂.frames with heap := s₂.heap, slotsUsed := s₂.slotsUsed } : State).setVm s₂.vm := by
      have : s₂ = ({ s₂ with vm := (U.calling g mk a).vm } : State).setVm s₂.vm := rfl
      rw [e2] at this
      exact this
    have hf₂ : s₂.frames = .throwing q :: .java g :: U.frames.tail := hend
    have hW' : U.WarmedH s₂.vm := hW₂
    have hs₂ : s₂ = ((({ U with heap := s₂.heap, slotsUsed := s₂.slotsUsed } : State).setVm s₂.vm).setTop g).pushFrame (.throwing q) := by
      refine e3.trans ?_
      rw [hf₂, State.calling_eq h.top, State.setFrames_setFrames, State.pushFrame, State.frames_setTop _ hr', State.setTop_of_frames _ hr', State.setFrames_setFrames, hr]
      rfl
    have hsame : U.sameButNew ({ U with heap := s₂.heap, slotsUsed := s₂.slotsUsed } : State) L mc ms := by
      refine ⟨?_, q2, q3, q4, q5, q6⟩
      obtain ⟨t, ht, -⟩ := State.frames_cons hr
      show ({ U with heap := s₂.heap, slotsUsed := s₂.slotsUsed } : State) = { U.setFrames U.frames with heap := s₂.heap, slotsUsed := s₂.slotsUsed }
      rw [State.setFrames_self ht]
    subst hg
    refine Or.inr ⟨q, ⟨(({ U with heap := s₂.heap, slotsUsed := s₂.slotsUsed } : State).setVm s₂.vm), Ls ++ L, c0 + mc, s0 + ms⟩,
      ⟨X.admits, X.cas, X.clock, X.frames, X.room, X.hears, X.method, X.code, (X.here.setHeapUsed s₂.heap s₂.slotsUsed).setVm hW'.alike, X.tail, State.WarmedH.trans X.warmed hW', X.limits, X.bytes, X.same.trans (hsame.setVm s.vm)⟩,
      ⟨g, mk, s₂, L, E, ce, rfl, rfl, hx, hce, hcv, hcl, rfl, hL, rfl, rfl⟩, ?_⟩
    show Steps p.tables e below _ (((({ U with heap := s₂.heap, slotsUsed := s₂.slotsUsed } : State).setVm s₂.vm).setTop g).pushFrame (.throwing q))
    rw [← hs₂]
    exact hsteps
end
variable {p : Program} {l : Launch} {e : Env} {R : Room} {s : State} {m : MethodId} {args : Array Value} {below : List Frame} {meth : Method} {c : Code} {T : State} {H : Heap} {locs : List Loc} {cells slots : Nat}
theorem vx_callVX (X : Stand p l e R s m args below meth c T locs cells slots) (hexec : p.tables.exec = Jvm.exec) {own C : String} {index : Nat} {y : MethodName} {bytes : ByteArray} {maxL : Nat} {ret : Option FieldType} {hh : List (Nat × Nat × Nat × Nat)}
    (hown : s.vm.findClass own = some m.cls) (hlink : (Cond.methodLink own index y).before args s = true) (hinst : (Cond.instanceMethod y).before args s = true) (hsel : (Cond.selects C y y).before args s = true)
    (hcode : (Cond.codeWith y bytes maxL ret hh).before args s = true) (hy : y.cls ≠ "java/lang/invoke/MethodHandle" ∧ y.cls ≠ "java/lang/invoke/VarHandle")
    {W9 : Nat} {Pre : Pt → Array Value → Prop} {Post : Pt → Array Value → Option Value → Pt → Prop} {PostX : Pt → Array Value → Addr → Pt → Prop} (hK : vx_Back l R p e below s args y 3 W9 Pre Post PostX)
    {b : Addr} {cellB : Cell} (hcell : T.heap[b]? = some cellB) (hobj : cellB.vm.isStatics = false) (hcls : s.vm.findClass C = some cellB.cls)
    {g : JFrame} (hg : g.method = m) (hsize : g.locals.size = c.maxLocals) {argsL rest : List Value} (hlen : ∀ sig, parseMethodDescriptor y.desc = some sig → argsL.length = sig.parameters.length)
    (hstack : g.stack = argsL.reverse ++ .ref b :: rest) (hW : 2 * g.monitorRoom + (rest.map fun v => v.category).sum ≤ W9) (hdg : decode c.code g.pc = .ok (.invokevirtual index, 3))
    (hpre : ∀ vm₁, s.WarmedH vm₁ → Pre ⟨T.setVm vm₁, locs, cells, slots⟩ (Value.ref b :: argsL).toArray) :
    (∃ (v : Option Value) (vm₁ : Vm) (B : Pt), s.WarmedH vm₁ ∧ Stand p l e R s m args below meth c B.U B.locs B.cells B.slots ∧ Post ⟨T.setVm vm₁, locs, cells, slots⟩ (Value.ref b :: argsL).toArray v B ∧
      ∀ target, Steps p.tables e below (B.U.setTop { g with pc := g.pc + 3, stack := v.toList ++ rest }) target → Steps p.tables e below (T.setTop g) target) ∨
    (∃ (q : Addr) (vm₁ : Vm) (B : Pt), s.WarmedH vm₁ ∧ Stand p l e R s m args below meth c B.U B.locs B.cells B.slots ∧ PostX ⟨T.setVm vm₁, locs, cells, slots⟩ (Value.ref b :: argsL).toArray q B ∧
      Steps p.tables e below (T.setTop g) ((B.U.setTop { g with stack := rest }).pushFrame (.throwing q))) := by
  obtain ⟨mk, methM, hnamed, hmethM, hstM, habM⟩ := Cond.instanceMethod_spec hinst
  obtain ⟨m8, methM', cM, hn8, hmethM', -, -, -, -, -, -, hsigM⟩ := Cond.codeWith_spec hcode
  cases Option.some.inj (hn8.symm.trans hnamed)
  cases hmethM.symm.trans hmethM'
  obtain ⟨c2, r2, m2, q1, q2, q3, q4, kP, hkP, hkPi⟩ := Cond.selects_spec hsel
  cases hcls.symm.trans q1
  cases (State.methodFound?_of_named hnamed hy).symm.trans q2
  cases hnamed.symm.trans q3
  have hselP : selectMethod e.platform s.vm cellB.cls mk = .method mk := by rw [Launch.admits_selectMethod X.admits]; exact q4
  obtain ⟨vm₁, X₁, hstep₁⟩ := X.invokevirtual hexec hown hlink hnamed hmethM hstM hkP hkPi hy (a := b) (cell := cellB) hcell
    (fun z h => by rw [h] at hobj; cases hobj) hselP hmethM habM hkP hkPi (g := g) hg (argsL := argsL) (rest := rest) (hlen _ hsigM) hstack hdg
  rcases hK m meth c ⟨T.setVm vm₁, locs, cells, slots⟩ { g with stack := rest } (.invokevirtual index) mk (Value.ref b :: argsL).toArray X₁ hg hsize hdg hW (X₁.named hnamed) (hpre vm₁ X₁.warmed) with ⟨v, B, X', hpost, hsteps⟩ | ⟨q, B, X', hpost, hsteps⟩
  · exact Or.inl ⟨v, vm₁, B, X₁.warmed, X', hpost, fun target h => hstep₁ _ fun acts => by rw [doInvoke_state]; exact hsteps.trans h⟩
  · exact Or.inr ⟨q, vm₁, B, X₁.warmed, X', hpost, hstep₁ _ fun acts => by rw [doInvoke_state]; exact hsteps⟩
theorem vx_callSX (X : Stand p l e R s m args below meth c T locs cells slots) (hexec : p.tables.exec = Jvm.exec) {own : String} {index : Nat} {y : MethodName} {bytes : ByteArray} {maxL : Nat} {ret : Option FieldType} {hh : List (Nat × Nat × Nat × Nat)}
    (hown : s.vm.findClass own = some m.cls) (hlink : (Cond.methodLink own index y).before args s = true) (hstat : (Cond.static y).before args s = true) (hinit : (Cond.initialized y.cls).before args s = true)
    (hcode : (Cond.codeWith y bytes maxL ret hh).before args s = true) (hy : y.cls ≠ "java/lang/invoke/MethodHandle" ∧ y.cls ≠ "java/lang/invoke/VarHandle")
    {W9 : Nat} {Pre : Pt → Array Value → Prop} {Post : Pt → Array Value → Option Value → Pt → Prop} {PostX : Pt → Array Value → Addr → Pt → Prop} (hK : vx_Back l R p e below s args y 3 W9 Pre Post PostX)
    {g : JFrame} (hg : g.method = m) (hsize : g.locals.size = c.maxLocals) {argsL rest : List Value} (hlen : ∀ sig, parseMethodDescriptor y.desc = some sig → argsL.length = sig.parameters.length)
    (hstack : g.stack = argsL.reverse ++ rest) (hW : 2 * g.monitorRoom + (rest.map fun v => v.category).sum ≤ W9) (hdg : decode c.code g.pc = .ok (.invokestatic index, 3))
    (hpre : ∀ vm₁, s.WarmedH vm₁ → Pre ⟨T.setVm vm₁, locs, cells, slots⟩ argsL.toArray) :
    (∃ (v : Option Value) (vm₁ : Vm) (B : Pt), s.WarmedH vm₁ ∧ Stand p l e R s m args below meth c B.U B.locs B.cells B.slots ∧ Post ⟨T.setVm vm₁, locs, cells, slots⟩ argsL.toArray v B ∧
      ∀ target, Steps p.tables e below (B.U.setTop { g with pc := g.pc + 3, stack := v.toList ++ rest }) target → Steps p.tables e below (T.setTop g) target) ∨
    (∃ (q : Addr) (vm₁ : Vm) (B : Pt), s.WarmedH vm₁ ∧ Stand p l e R s m args below meth c B.U B.locs B.cells B.slots ∧ PostX ⟨T.setVm vm₁, locs, cells, slots⟩ argsL.toArray q B ∧
      Steps p.tables e below (T.setTop g) ((B.U.setTop { g with stack := rest }).pushFrame (.throwing q))) := by
  obtain ⟨mk, methM, cM, hnamed, hmethM, -, -, -, -, -, -, hsigM⟩ := Cond.codeWith_spec hcode
  have hstatic : methM.isStatic = true := Cond.static_spec hnamed hmethM hstat
  obtain ⟨kP, hkP, -⟩ := className_of_methodNamed hnamed
  have hinitP : kP.init = .initialized := Cond.initialized_spec (findClass_of_methodNamed hnamed) hkP hinit
  obtain ⟨vm₁, X₁, hstep₁⟩ := X.invokestatic hexec hown hlink hnamed hmethM hstatic hkP hinitP hy (g := g) hg (argsL := argsL) (rest := rest) (hlen _ hsigM) hstack hdg
  rcases hK m meth c ⟨T.setVm vm₁, locs, cells, slots⟩ { g with stack := rest } (.invokestatic index) mk argsL.toArray X₁ hg hsize hdg hW (X₁.named hnamed) (hpre vm₁ X₁.warmed) with ⟨v, B, X', hpost, hsteps⟩ | ⟨q, B, X', hpost, hsteps⟩
  · exact Or.inl ⟨v, vm₁, B, X₁.warmed, X', hpost, fun target h => hstep₁ _ fun acts => by rw [doInvoke_state]; exact hsteps.trans h⟩
  · exact Or.inr ⟨q, vm₁, B, X₁.warmed, X', hpost, hstep₁ _ fun acts => by rw [doInvoke_state]; exact hsteps⟩
theorem vx_callVW (X : Stand p l e R s m args below meth c T locs cells slots) (hexec : p.tables.exec = Jvm.exec) {own C : String} {index : Nat} {y : MethodName} {bytes : ByteArray} {maxL : Nat} {ret : Option FieldType} {hh : List (Nat × Nat × Nat × Nat)}
    (hown : s.vm.findClass own = some m.cls) (hlink : (Cond.methodLink own index y).before args s = true) (hinst : (Cond.instanceMethod y).before args s = true) (hsel : (Cond.selects C y y).before args s = true)
    (hcode : (Cond.codeWith y bytes maxL ret hh).before args s = true) (hy : y.cls ≠ "java/lang/invoke/MethodHandle" ∧ y.cls ≠ "java/lang/invoke/VarHandle")
    {W9 : Nat} {Pre : Pt → Array Value → Prop} {Post : Pt → Array Value → Option Value → Pt → Prop} (hK : Back l R p e below s args y 3 W9 Pre Post)
    {b : Addr} {cellB : Cell} (hcell : T.heap[b]? = some cellB) (hobj : cellB.vm.isStatics = false) (hcls : s.vm.findClass C = some cellB.cls)
    {g : JFrame} (hg : g.method = m) (hsize : g.locals.size = c.maxLocals) {argsL rest : List Value} (hlen : ∀ sig, parseMethodDescriptor y.desc = some sig → argsL.length = sig.parameters.length)
    (hstack : g.stack = argsL.reverse ++ .ref b :: rest) (hW : 2 * g.monitorRoom + (rest.map fun v => v.category).sum ≤ W9) (hdg : decode c.code g.pc = .ok (.invokevirtual index, 3))
    (hpre : ∀ vm₁, s.WarmedH vm₁ → Pre ⟨T.setVm vm₁, locs, cells, slots⟩ (Value.ref b :: argsL).toArray) :
    ∃ (v : Option Value) (vm₁ : Vm) (B : Pt), s.WarmedH vm₁ ∧ Stand p l e R s m args below meth c B.U B.locs B.cells B.slots ∧ Post ⟨T.setVm vm₁, locs, cells, slots⟩ (Value.ref b :: argsL).toArray v B ∧
      ∀ target, Steps p.tables e below (B.U.setTop { g with pc := g.pc + 3, stack := v.toList ++ rest }) target → Steps p.tables e below (T.setTop g) target := by
  obtain ⟨mk, methM, hnamed, hmethM, hstM, habM⟩ := Cond.instanceMethod_spec hinst
  obtain ⟨m8, methM', cM, hn8, hmethM', -, -, -, -, -, -, hsigM⟩ := Cond.codeWith_spec hcode
  cases Option.some.inj (hn8.symm.trans hnamed)
  cases hmethM.symm.trans hmethM'
  obtain ⟨c2, r2, m2, q1, q2, q3, q4, kP, hkP, hkPi⟩ := Cond.selects_spec hsel
  cases hcls.symm.trans q1
  cases (State.methodFound?_of_named hnamed hy).symm.trans q2
  cases hnamed.symm.trans q3
  have hselP : selectMethod e.platform s.vm cellB.cls mk = .method mk := by rw [Launch.admits_selectMethod X.admits]; exact q4
  obtain ⟨vm₁, X₁, hstep₁⟩ := X.invokevirtual hexec hown hlink hnamed hmethM hstM hkP hkPi hy (a := b) (cell := cellB) hcell
    (fun z h => by rw [h] at hobj; cases hobj) hselP hmethM habM hkP hkPi (g := g) hg (argsL := argsL) (rest := rest) (hlen _ hsigM) hstack hdg
  obtain ⟨v, B, X', hpost, hsteps⟩ := hK m meth c ⟨T.setVm vm₁, locs, cells, slots⟩ { g with stack := rest } (.invokevirtual index) mk (Value.ref b :: argsL).toArray X₁ hg hsize hdg hW (X₁.named hnamed) (hpre vm₁ X₁.warmed)
  exact ⟨v, vm₁, B, X₁.warmed, X', hpost, fun target h => hstep₁ _ fun acts => by rw [doInvoke_state]; exact hsteps.trans h⟩
abbrev vx_CVW (R : Room) (s : State) (args : Array Value) (own C : String) (index : Nat) (y : MethodName) (bytes : ByteArray) (maxL : Nat) (ret : Option FieldType) (hh : List (Nat × Nat × Nat × Nat)) (ws : List Cond) (rm : Room) (mc ms n : Nat) : Prop :=
  (rm.cells = mc ∧ rm.slots = ms ∧ rm.frames + 1 ≤ R.frames ∧ 8 + (maxL + 11) + rm.locals ≤ R.locals ∧ (∀ w ∈ ws, ∀ (a' : Array Value) (U : State), s.WarmedH U.vm → w.before a' U = true) ∧ Cond.codeWith y bytes maxL ret hh ∈ ws) ∧
  (Cond.codeWith y bytes maxL ret hh).before args s = true ∧ (Cond.initialized y.cls).before args s = true ∧ (y.cls ≠ "java/lang/invoke/MethodHandle" ∧ y.cls ≠ "java/lang/invoke/VarHandle") ∧
  (∀ sig, parseMethodDescriptor y.desc = some sig → n = sig.parameters.length) ∧ (Cond.methodLink own index y).before args s = true ∧ (Cond.instanceMethod y).before args s = true ∧ (Cond.selects C y y).before args s = true
theorem vx_cwVW {own C : String} {index maxL mc ms : Nat} {y : MethodName} {bytes : ByteArray} {ret : Option FieldType} {hh : List (Nat × Nat × Nat × Nat)} {Ts ws ws' : List Cond} {rm : Room} (n : Nat) (ht : ∀ w ∈ Ts, w.before args s = true) (hT : GoodIn Ts (wsV own index C y ws)) (hw : ws = Cond.codeWith y bytes maxL ret hh :: ws') (hrc : rm.cells = mc) (hrs : rm.slots = ms)
    (hd : y.cls = C ∧ y.cls ≠ "java/lang/invoke/MethodHandle" ∧ y.cls ≠ "java/lang/invoke/VarHandle" ∧ (parseMethodDescriptor y.desc).map (fun d => d.parameters.length) = some n) (hR : rm.frames + 1 ≤ R.frames ∧ 8 + (maxL + 11) + rm.locals ≤ R.locals) :
    vx_CVW R s args own C index y bytes maxL ret hh ws rm mc ms n := by
  obtain ⟨hC, hd⟩ := hd
  subst hC
  have ok : ∀ w ∈ wsV own index y.cls y ws, w.before args s = true := fun w h => ht w (hT w h).1
  have hG : GoodIn Ts ws := fun w h => hT w (by unfold wsV; exact List.mem_append_right _ h)
  have hc : Cond.codeWith y bytes maxL ret hh ∈ ws := by rw [hw]; exact List.mem_cons_self
  refine ⟨⟨hrc, hrs, hR.1, hR.2, pay_in ht hG, hc⟩, ht _ (hG _ hc).1, ok _ (by simp [wsV]), ⟨hd.1, hd.2.1⟩, fun sig h => ?_, ok _ (by simp [wsV]), ok _ (by simp [wsV]), ok _ (by simp [wsV])⟩
  have h2 := hd.2.2
  rw [h] at h2
  exact (Option.some.inj h2).symm
theorem vx_runVW {y : MethodName} {bytes cc : ByteArray} {maxL nL mc ms n index : Nat} {ret : Option FieldType} {hh : List (Nat × Nat × Nat × Nat)} {ws : List Cond} {rm : Room} {Pc : Array Value → State → Prop} {Qc : Array Value → State → Outcome → State → Prop} {free : Addr → Prop} {Ts : List Cond} {own C : String} {b : Addr} {As rest : List Value} {g : JFrame}
    (S : CallFix p m c cc nL s args Ts own) (hM : Met l y ws rm Pc Qc mc ms free) (cw : vx_CVW R s args own C index y bytes maxL ret hh ws rm mc ms n) (hp : PreV s H C b Pc As)
    (hg : g.method = m) (hn : As.length = n) (hsize : g.locals.size = nL) (hstack : g.stack = As.reverse ++ .ref b :: rest) (hW : 2 * g.monitorRoom + (rest.map fun v => v.category).sum ≤ 8) (hdg : decode cc g.pc = .ok (.invokevirtual index, 3)) (hf : cells + mc ≤ R.cells ∧ slots + ms ≤ R.slots) :
    va_Run p l e R s m args below meth c H locs cells slots mc ms g rest (Qc (Value.ref b :: As).toArray) free := by
  obtain ⟨⟨hrc, hrs, hfr, hlo, hws, hcw⟩, hcode, hini, hy, hlen, hl, hin, hse⟩ := cw
  have hK : Back l R p e below s args y 3 8 (PreOf R mc ms Pc) (PostOf Qc mc ms free) := va_backW (hh := hh) (bytes := bytes) (maxL := maxL) (ret := ret) hM hp.1 hrc hrs hfr hlo hws hcw (fun a' U hW => word_at hW (Or.inl (by first | rfl | simp [Cond.onTables, Cond.keeps, Cond.steady])) hini)
  obtain ⟨hx, hb, hml, ho, -⟩ := S
  obtain ⟨-, ⟨cellB, hcB, hoB, hclB⟩, hPc⟩ := hp
  intro T hT X
  obtain ⟨v, vm₁, ⟨U', l2, c2, s2⟩, hW₁, X', ⟨g', mk, t, L, e1, e2, hq, h1, hL, h2, h3⟩, st⟩ := vx_callVW X hx (C := C) (hh := hh) (bytes := bytes) (maxL := maxL) (ret := ret) ho hl hin hse hcode hy hK (by rw [hT]; exact hcB) hoB hclB hg (hsize.trans hml.symm) (argsL := As) (rest := rest) (fun sig h => hn.trans (hlen sig h)) hstack hW (by rw [hb]; exact hdg)
    (fun vm₁ hW₁ => ⟨hf.1, hf.2, hPc (T.setVm vm₁) hT hW₁⟩)
  dsimp only [Pt.U, Pt.locs, Pt.cells, Pt.slots] at X' e1 e2 h1 h2 h3 st
  subst h1; subst h2; subst h3
  exact ⟨v, (T.setVm vm₁).calling g' mk (Value.ref b :: As).toArray, t, U', L, hT, X', hL, e1, e2, hq, st⟩
section
variable {y : MethodName} {bytes cc : ByteArray} {maxL nL mc ms n index : Nat} {ret : Option FieldType} {ws : List Cond} {rm : Room} {Pc : Array Value → State → Prop} {Qc : Array Value → State → Outcome → State → Prop} {XC : String → State → State → Prop} {free : Addr → Prop} {Ts : List Cond} {own C : String} {b : Addr} {As rest : List Value} {g : JFrame}
theorem vx_runVX {hh : List (Nat × Nat × Nat × Nat)} (S : CallFix p m c cc nL s args Ts own) (hM : vx_Met l y ws rm Pc Qc XC mc ms free) (cw : vx_CVW R s args own C index y bytes maxL ret hh ws rm mc ms n) (hp : PreV s H C b Pc As)
    (hg : g.method = m) (hn : As.length = n) (hsize : g.locals.size = nL) (hstack : g.stack = As.reverse ++ .ref b :: rest) (hW : 2 * g.monitorRoom + (rest.map fun v => v.category).sum ≤ 8) (hdg : decode cc g.pc = .ok (.invokevirtual index, 3)) (hf : cells + mc ≤ R.cells ∧ slots + ms ≤ R.slots) :
    vx_Run p l e R s m args below meth c H locs cells slots mc ms g rest (Qc (Value.ref b :: As).toArray) XC free := by
  obtain ⟨⟨hrc, hrs, hfr, hlo, hws, hcw⟩, hcode, hini, hy, hlen, hl, hin, hse⟩ := cw
  have hK : vx_Back l R p e below s args y 3 8 (PreOf R mc ms Pc) (PostOf Qc mc ms free) (vx_Post XC mc ms free) := vx_backW (hh := hh) (bytes := bytes) (maxL := maxL) (ret := ret) hM hp.1 hrc hrs hfr hlo hws hcw (fun a' U hW => word_at hW (Or.inl (by first | rfl | simp [Cond.onTables, Cond.keeps, Cond.steady])) hini)
  obtain ⟨hx, hb, hml, ho, -⟩ := S
  obtain ⟨-, ⟨cellB, hcB, hoB, hclB⟩, hPc⟩ := hp
  intro T hT X
  rcases vx_callVX X hx (C := C) (hh := hh) (bytes := bytes) (maxL := maxL) (ret := ret) ho hl hin hse hcode hy hK (by rw [hT]; exact hcB) hoB hclB hg (hsize.trans hml.symm) (argsL := As) (rest := rest) (fun sig h => hn.trans (hlen sig h)) hstack hW (by rw [hb]; exact hdg)
    (fun vm₁ hW₁ => ⟨hf.1, hf.2, hPc (T.setVm vm₁) hT hW₁⟩) with ⟨v, vm₁, ⟨U', l2, c2, s2⟩, hW₁, X', ⟨g', mk, t, L, e1, e2, hq, h1, hL, h2, h3⟩, st⟩ | ⟨q, vm₁, ⟨U', l2, c2, s2⟩, hW₁, X', ⟨g', mk, t, L, E, ce, e1, e2, hq, hce, hcv, hcl, h1, hL, h2, h3⟩, st⟩
  · dsimp only [Pt.U, Pt.locs, Pt.cells, Pt.slots] at X' e1 e2 h1 h2 h3 st
    subst h1; subst h2; subst h3
    exact Or.inl ⟨v, (T.setVm vm₁).calling g' mk (Value.ref b :: As).toArray, t, U', L, hT, X', hL, e1, e2, hq, st⟩
  · dsimp only [Pt.U, Pt.locs, Pt.cells, Pt.slots] at X' e1 e2 h1 h2 h3 st hcl
    subst h1; subst h2; subst h3
    exact Or.inr ⟨q, (T.setVm vm₁).calling g' mk (Value.ref b :: As).toArray, t, U', L, E, ce, hT, X', hL, e1, e2, hq, hce, hcv, vx_cls hW₁ hcl, st⟩
theorem vx_runSX {hh : List (Nat × Nat × Nat × Nat)} (S : CallFix p m c cc nL s args Ts own) (hM : vx_Met l y ws rm Pc Qc XC mc ms free) (cw : vx_CSW R s args own index y bytes maxL ret hh ws rm mc ms n) (hp : PreS s H Pc As)
    (hg : g.method = m) (hn : As.length = n) (hsize : g.locals.size = nL) (hstack : g.stack = As.reverse ++ rest) (hW : 2 * g.monitorRoom + (rest.map fun v => v.category).sum ≤ 8) (hdg : decode cc g.pc = .ok (.invokestatic index, 3)) (hf : cells + mc ≤ R.cells ∧ slots + ms ≤ R.slots) :
    vx_Run p l e R s m args below meth c H locs cells slots mc ms g rest (Qc As.toArray) XC free := by
  obtain ⟨⟨hrc, hrs, hfr, hlo, hws, hcw⟩, hcode, hini, hy, hlen, hl, hstt⟩ := cw
  have hK : vx_Back l R p e below s args y 3 8 (PreOf R mc ms Pc) (PostOf Qc mc ms free) (vx_Post XC mc ms free) := vx_backW (hh := hh) (bytes := bytes) (maxL := maxL) (ret := ret) hM hp.1 hrc hrs hfr hlo hws hcw (fun a' U hW => word_at hW (Or.inl (by first | rfl | simp [Cond.onTables, Cond.keeps, Cond.steady])) hini)
  obtain ⟨hx, hb, hml, ho, -⟩ := S
  intro T hT X
  rcases vx_callSX X hx (hh := hh) (bytes := bytes) (maxL := maxL) (ret := ret) ho hl hstt hini hcode hy hK hg (hsize.trans hml.symm) (argsL := As) (rest := rest) (fun sig h => hn.trans (hlen sig h)) hstack hW (by rw [hb]; exact hdg)
    (fun vm₁ hW₁ => ⟨hf.1, hf.2, hp.2 (T.setVm vm₁) hT hW₁⟩) with ⟨v, vm₁, ⟨U', l2, c2, s2⟩, hW₁, X', ⟨g', mk, t, L, e1, e2, hq, h1, hL, h2, h3⟩, st⟩ | ⟨q, vm₁, ⟨U', l2, c2, s2⟩, hW₁, X', ⟨g', mk, t, L, E, ce, e1, e2, hq, hce, hcv, hcl, h1, hL, h2, h3⟩, st⟩
  · dsimp only [Pt.U, Pt.locs, Pt.cells, Pt.slots] at X' e1 e2 h1 h2 h3 st
    subst h1; subst h2; subst h3
    exact Or.inl ⟨v, (T.setVm vm₁).calling g' mk As.toArray, t, U', L, hT, X', hL, e1, e2, hq, st⟩
  · dsimp only [Pt.U, Pt.locs, Pt.cells, Pt.slots] at X' e1 e2 h1 h2 h3 st hcl
    subst h1; subst h2; subst h3
    exact Or.inr ⟨q, (T.setVm vm₁).calling g' mk As.toArray, t, U', L, E, ce, hT, X', hL, e1, e2, hq, hce, hcv, vx_cls hW₁ hcl, st⟩
end
end VXH
theorem vx_ofWH {l : Launch} {y : MethodName} {ws ws' : List Cond} {rm : Room} {Pc : Array Value → State → Prop} {Qc : Array Value → State → Outcome → State → Prop} {XC : String → State → State → Prop} {mc ms : Nat} {free : Addr → Prop} {cc : ByteArray} {maxL : Nat} {ret : Option FieldType} {hh : List (Nat × Nat × Nat × Nat)}
    (hy : plainName y.cls = true) (hw : ws = Cond.codeWith y cc maxL ret hh :: ws')
    (body : ∀ p e s m args below meth c s₁, BodyLoose p l y (headSpec ws rm) cc maxL ret e s m args below meth c s₁ → c.maxLocals = maxL → Pc args s →
      W p l e (headSpec ws rm).room s m args below meth c s.heap [] 0 0 (vx_MQ below Qc XC args s mc ms free) (entryFrame m args maxL)) : vx_Met l y ws rm Pc Qc XC mc ms free := by
  refine MetFree.of_bodyS (code := cc) (maxLocals := maxL) (ret := ret) hy ?_ ?_
  · intro args s m h hn
    obtain ⟨m9, meth, c, hn9, h1, h2, h3, h4, -, h5, h6, -⟩ := Cond.codeWith_spec (atoms_spec (ws := ws) h _ (by rw [hw]; exact List.mem_cons_self))
    cases hn.symm.trans hn9
    exact ⟨meth, c, h1, h2, h3, h4, h5, h6⟩
  · intro p e s m args below meth c s₁ B hml hP _
    have hh0 : s₁.heap = s.heap := by rw [B.state]; rfl
    obtain ⟨t, a1, o, b1, b2, b3⟩ := body p e s m args below meth c s₁ B hml hP s₁ hh0 (Stand.of_body B)
    exact ⟨t, o, a1, b1, b2, b3⟩
/-! ===== END ===== -/
end
section
/-! The words of the tables by name (by program). -/
def TT : List Cond := lw_tbl.filter goodWord
theorem tt_mem {w : Cond} (h : w ∈ lw_tbl) (hg : goodWord w = true) : w ∈ TT := List.mem_filter.mpr ⟨h, hg⟩
theorem tt_good {w : Cond} (h : w ∈ TT) : goodWord w = true := (List.mem_filter.mp h).2
theorem tt_lw {w : Cond} (h : w ∈ TT) : w ∈ lw_tbl := (List.mem_filter.mp h).1
theorem tt_in (c1 : Cond) {c2 : Cond} (h2 : c2 ∈ TT) : GoodIn (c1 :: TT) (c2 :: TT) := fun w hw => by
  have h : w ∈ TT := by
    rcases List.mem_cons.mp hw with rfl | h
    · exact h2
    · exact h
  exact ⟨List.mem_cons_of_mem _ h, good_of_word (tt_good h)⟩
theorem tb1 {w : Cond} (h : w ∈ tables_1_1) : w ∈ lw_tbl := List.mem_append_right _ (show w ∈ tables_1 from List.mem_append_left _ h)
theorem tb2 {w : Cond} (h : w ∈ tables_1_2) : w ∈ lw_tbl := List.mem_append_right _ (show w ∈ tables_1 from List.mem_append_right _ (List.mem_append_left _ h))
theorem tb3 {w : Cond} (h : w ∈ tables_1_3) : w ∈ lw_tbl := List.mem_append_right _ (show w ∈ tables_1 from List.mem_append_right _ (List.mem_append_right _ (List.mem_append_left _ h)))
theorem tb4 {w : Cond} (h : w ∈ tables_1_4) : w ∈ lw_tbl := List.mem_append_right _ (show w ∈ tables_1 from List.mem_append_right _ (List.mem_append_right _ (List.mem_append_right _ (h))))
theorem w0 : (Cond.initialized "LockHouseLaw") ∈ TT := tt_mem (tb1 (List.mem_of_getElem? (i := 0) rfl)) rfl
theorem w1 : (Cond.initialized "LockHouse") ∈ TT := tt_mem (tb1 (List.mem_of_getElem? (i := 1) rfl)) rfl
theorem w2 : (Cond.initialized "java/util/AbstractCollection") ∈ TT := tt_mem (tb1 (List.mem_of_getElem? (i := 2) rfl)) rfl
theorem w3 : (Cond.initialized "java/util/AbstractList") ∈ TT := tt_mem (tb1 (List.mem_of_getElem? (i := 3) rfl)) rfl
theorem w4 : (Cond.initialized "java/util/ArrayList") ∈ TT := tt_mem (tb1 (List.mem_of_getElem? (i := 4) rfl)) rfl
theorem w5 : (Cond.initialized "LockHouse$EntryList") ∈ TT := tt_mem (tb1 (List.mem_of_getElem? (i := 5) rfl)) rfl
theorem w6 : (Cond.initialized "LockHouse$Door") ∈ TT := tt_mem (tb1 (List.mem_of_getElem? (i := 6) rfl)) rfl
theorem w7 : (Cond.initialized "java/util/Arrays") ∈ TT := tt_mem (tb1 (List.mem_of_getElem? (i := 7) rfl)) rfl
theorem w8 : (Cond.initialized "LockHouseModel") ∈ TT := tt_mem (tb1 (List.mem_of_getElem? (i := 8) rfl)) rfl
theorem w9 : (Cond.initialized "java/lang/Throwable") ∈ TT := tt_mem (tb1 (List.mem_of_getElem? (i := 9) rfl)) rfl
theorem w10 : (Cond.initialized "java/lang/Exception") ∈ TT := tt_mem (tb1 (List.mem_of_getElem? (i := 10) rfl)) rfl
theorem w11 : (Cond.initialized "java/lang/RuntimeException") ∈ TT := tt_mem (tb1 (List.mem_of_getElem? (i := 11) rfl)) rfl
theorem w12 : (Cond.initialized "java/lang/IllegalStateException") ∈ TT := tt_mem (tb1 (List.mem_of_getElem? (i := 12) rfl)) rfl
theorem w13 : (Cond.initialized "LockHouse$Card") ∈ TT := tt_mem (tb1 (List.mem_of_getElem? (i := 13) rfl)) rfl
theorem w14 : (Cond.initialized "LockHouse$Image") ∈ TT := tt_mem (tb1 (List.mem_of_getElem? (i := 14) rfl)) rfl
theorem w15 : (Cond.initialized "jdk/internal/util/ArraysSupport") ∈ TT := tt_mem (tb1 (List.mem_of_getElem? (i := 15) rfl)) rfl
theorem w16 : (Cond.initialized "java/lang/Math") ∈ TT := tt_mem (tb1 (List.mem_of_getElem? (i := 16) rfl)) rfl
theorem w17 : (Cond.initialized "java/lang/System") ∈ TT := tt_mem (tb1 (List.mem_of_getElem? (i := 17) rfl)) rfl
theorem w18 : (Cond.initialized "java/lang/IndexOutOfBoundsException") ∈ TT := tt_mem (tb1 (List.mem_of_getElem? (i := 18) rfl)) rfl
theorem w19 : (Cond.initialized "java/util/Objects") ∈ TT := tt_mem (tb1 (List.mem_of_getElem? (i := 19) rfl)) rfl
theorem w20 : (Cond.initialized "jdk/internal/util/Preconditions") ∈ TT := tt_mem (tb1 (List.mem_of_getElem? (i := 20) rfl)) rfl
theorem w21 : (Cond.initialized "LockHouse$Entry") ∈ TT := tt_mem (tb1 (List.mem_of_getElem? (i := 21) rfl)) rfl
theorem w22 : (Cond.initialized "java/lang/IllegalArgumentException") ∈ TT := tt_mem (tb1 (List.mem_of_getElem? (i := 22) rfl)) rfl
theorem w23 : (Cond.classLink "LockHouseLaw" (8 : Nat) "LockHouse") ∈ TT := tt_mem (tb1 (List.mem_of_getElem? (i := 23) rfl)) rfl
theorem w24 : (Cond.instantiable "LockHouse" (6 : Nat)) ∈ TT := tt_mem (tb1 (List.mem_of_getElem? (i := 24) rfl)) rfl
theorem w25 : (Cond.methodLink "LockHouseLaw" (74 : Nat) ({ cls := "LockHouse", name := "<init>", desc := "()V" } : MethodName)) ∈ TT := tt_mem (tb1 (List.mem_of_getElem? (i := 25) rfl)) rfl
theorem w26 : (Cond.instanceMethod ({ cls := "LockHouse", name := "<init>", desc := "()V" } : MethodName)) ∈ TT := tt_mem (tb1 (List.mem_of_getElem? (i := 26) rfl)) rfl
theorem w27 : (Cond.code ({ cls := "LockHouse", name := "<init>", desc := "()V" } : MethodName) prog_1_method_1_code (2 : Nat) (Option.none : Option FieldType)) ∈ TT := tt_mem (tb1 (List.mem_of_getElem? (i := 27) rfl)) rfl
theorem w28 : (Cond.methodLink "LockHouse" (1 : Nat) ({ cls := "java/lang/Object", name := "<init>", desc := "()V" } : MethodName)) ∈ TT := tt_mem (tb1 (List.mem_of_getElem? (i := 28) rfl)) rfl
theorem w29 : (Cond.instanceMethod ({ cls := "java/lang/Object", name := "<init>", desc := "()V" } : MethodName)) ∈ TT := tt_mem (tb1 (List.mem_of_getElem? (i := 29) rfl)) rfl
theorem w30 : (Cond.code ({ cls := "java/lang/Object", name := "<init>", desc := "()V" } : MethodName) object_method_1_code (1 : Nat) (Option.none : Option FieldType)) ∈ TT := tt_mem (tb1 (List.mem_of_getElem? (i := 30) rfl)) rfl
theorem w31 : (Cond.classLink "LockHouse" (7 : Nat) "java/util/ArrayList") ∈ TT := tt_mem (tb1 (List.mem_of_getElem? (i := 31) rfl)) rfl
theorem w32 : (Cond.instantiable "java/util/ArrayList" (3 : Nat)) ∈ TT := tt_mem (tb1 (List.mem_of_getElem? (i := 32) rfl)) rfl
theorem w33 : (Cond.methodLink "LockHouse" (9 : Nat) ({ cls := "java/util/ArrayList", name := "<init>", desc := "()V" } : MethodName)) ∈ TT := tt_mem (tb1 (List.mem_of_getElem? (i := 33) rfl)) rfl
theorem w34 : (Cond.instanceMethod ({ cls := "java/util/ArrayList", name := "<init>", desc := "()V" } : MethodName)) ∈ TT := tt_mem (tb1 (List.mem_of_getElem? (i := 34) rfl)) rfl
theorem w35 : (Cond.code ({ cls := "java/util/ArrayList", name := "<init>", desc := "()V" } : MethodName) prog_23_method_2_code (1 : Nat) (Option.none : Option FieldType)) ∈ TT := tt_mem (tb1 (List.mem_of_getElem? (i := 35) rfl)) rfl
theorem w36 : (Cond.methodLink "java/util/ArrayList" (1 : Nat) ({ cls := "java/util/AbstractList", name := "<init>", desc := "()V" } : MethodName)) ∈ TT := tt_mem (tb1 (List.mem_of_getElem? (i := 36) rfl)) rfl
theorem w37 : (Cond.instanceMethod ({ cls := "java/util/AbstractList", name := "<init>", desc := "()V" } : MethodName)) ∈ TT := tt_mem (tb1 (List.mem_of_getElem? (i := 37) rfl)) rfl
theorem w38 : (Cond.code ({ cls := "java/util/AbstractList", name := "<init>", desc := "()V" } : MethodName) prog_22_method_1_code (1 : Nat) (Option.none : Option FieldType)) ∈ TT := tt_mem (tb1 (List.mem_of_getElem? (i := 38) rfl)) rfl
theorem w39 : (Cond.methodLink "java/util/AbstractList" (1 : Nat) ({ cls := "java/util/AbstractCollection", name := "<init>", desc := "()V" } : MethodName)) ∈ TT := tt_mem (tb1 (List.mem_of_getElem? (i := 39) rfl)) rfl
theorem w40 : (Cond.instanceMethod ({ cls := "java/util/AbstractCollection", name := "<init>", desc := "()V" } : MethodName)) ∈ TT := tt_mem (tb1 (List.mem_of_getElem? (i := 40) rfl)) rfl
theorem w41 : (Cond.code ({ cls := "java/util/AbstractCollection", name := "<init>", desc := "()V" } : MethodName) prog_21_method_1_code (1 : Nat) (Option.none : Option FieldType)) ∈ TT := tt_mem (tb1 (List.mem_of_getElem? (i := 41) rfl)) rfl
theorem w42 : (Cond.methodLink "java/util/AbstractCollection" (1 : Nat) ({ cls := "java/lang/Object", name := "<init>", desc := "()V" } : MethodName)) ∈ TT := tt_mem (tb1 (List.mem_of_getElem? (i := 42) rfl)) rfl
theorem w43 : (Cond.fieldLink "java/util/ArrayList" (39 : Nat) "java/util/ArrayList" "DEFAULTCAPACITY_EMPTY_ELEMENTDATA" "[Ljava/lang/Object;") ∈ TT := tt_mem (tb1 (List.mem_of_getElem? (i := 43) rfl)) rfl
theorem u44 : (Cond.laysStatic "java/util/ArrayList" "DEFAULTCAPACITY_EMPTY_ELEMENTDATA" "[Ljava/lang/Object;") ∈ lw_tbl := tb1 (List.mem_of_getElem? (i := 44) rfl)
theorem w45 : (Cond.fieldLink "java/util/ArrayList" (9 : Nat) "java/util/ArrayList" "elementData" "[Ljava/lang/Object;") ∈ TT := tt_mem (tb1 (List.mem_of_getElem? (i := 45) rfl)) rfl
theorem w46 : (Cond.fieldLink "java/util/ArrayList" (48 : Nat) "java/util/ArrayList" "size" "I") ∈ TT := tt_mem (tb1 (List.mem_of_getElem? (i := 46) rfl)) rfl
theorem w47 : (Cond.fieldLink "java/util/AbstractList" (7 : Nat) "java/util/AbstractList" "modCount" "I") ∈ TT := tt_mem (tb1 (List.mem_of_getElem? (i := 47) rfl)) rfl
theorem w48 : (Cond.fieldLink "java/util/ArrayList" (63 : Nat) "java/util/ArrayList" "modCount" "I") ∈ TT := tt_mem (tb1 (List.mem_of_getElem? (i := 48) rfl)) rfl
theorem w49 : (Cond.sameField "java/util/ArrayList" "java/util/AbstractList" "modCount" "I") ∈ TT := tt_mem (tb1 (List.mem_of_getElem? (i := 49) rfl)) rfl
theorem w50 : (Cond.lays "java/util/ArrayList" "java/util/ArrayList" "elementData" "[Ljava/lang/Object;") ∈ TT := tt_mem (tb1 (List.mem_of_getElem? (i := 50) rfl)) rfl
theorem w51 : (Cond.soleField "java/util/ArrayList" "elementData") ∈ TT := tt_mem (tb1 (List.mem_of_getElem? (i := 51) rfl)) rfl
theorem w52 : (Cond.lays "java/util/ArrayList" "java/util/ArrayList" "size" "I") ∈ TT := tt_mem (tb1 (List.mem_of_getElem? (i := 52) rfl)) rfl
theorem w53 : (Cond.soleField "java/util/ArrayList" "size") ∈ TT := tt_mem (tb1 (List.mem_of_getElem? (i := 53) rfl)) rfl
theorem w54 : (Cond.lays "java/util/ArrayList" "java/util/AbstractList" "modCount" "I") ∈ TT := tt_mem (tb1 (List.mem_of_getElem? (i := 54) rfl)) rfl
theorem w55 : (Cond.soleField "java/util/AbstractList" "modCount") ∈ TT := tt_mem (tb1 (List.mem_of_getElem? (i := 55) rfl)) rfl
theorem w56 : (Cond.superclass "java/util/ArrayList" "java/util/AbstractList") ∈ TT := tt_mem (tb1 (List.mem_of_getElem? (i := 56) rfl)) rfl
theorem w57 : (Cond.classLink "LockHouse" (16 : Nat) "LockHouse$EntryList") ∈ TT := tt_mem (tb1 (List.mem_of_getElem? (i := 57) rfl)) rfl
theorem w58 : (Cond.instantiable "LockHouse$EntryList" (1 : Nat)) ∈ TT := tt_mem (tb1 (List.mem_of_getElem? (i := 58) rfl)) rfl
theorem u59 : (Cond.methodLinkNest "LockHouse" (18 : Nat) ({ cls := "LockHouse$EntryList", name := "<init>", desc := "()V" } : MethodName) "LockHouse") ∈ lw_tbl := tb1 (List.mem_of_getElem? (i := 59) rfl)
theorem w60 : (Cond.instanceMethod ({ cls := "LockHouse$EntryList", name := "<init>", desc := "()V" } : MethodName)) ∈ TT := tt_mem (tb1 (List.mem_of_getElem? (i := 60) rfl)) rfl
theorem w61 : (Cond.code ({ cls := "LockHouse$EntryList", name := "<init>", desc := "()V" } : MethodName) prog_5_method_1_code (1 : Nat) (Option.none : Option FieldType)) ∈ TT := tt_mem (tb1 (List.mem_of_getElem? (i := 61) rfl)) rfl
theorem w62 : (Cond.methodLink "LockHouse$EntryList" (3 : Nat) ({ cls := "java/lang/Object", name := "<init>", desc := "()V" } : MethodName)) ∈ TT := tt_mem (tb1 (List.mem_of_getElem? (i := 62) rfl)) rfl
theorem w63 : (Cond.classLink "LockHouse$EntryList" (9 : Nat) "java/util/ArrayList") ∈ TT := tt_mem (tb1 (List.mem_of_getElem? (i := 63) rfl)) rfl
theorem w64 : (Cond.methodLink "LockHouse$EntryList" (11 : Nat) ({ cls := "java/util/ArrayList", name := "<init>", desc := "()V" } : MethodName)) ∈ TT := tt_mem (tb1 (List.mem_of_getElem? (i := 64) rfl)) rfl
theorem w65 : (Cond.fieldLink "LockHouse$EntryList" (12 : Nat) "LockHouse$EntryList" "inOrder" "Ljava/util/ArrayList;") ∈ TT := tt_mem (tb1 (List.mem_of_getElem? (i := 65) rfl)) rfl
theorem w66 : (Cond.laysFinal "LockHouse$EntryList" "LockHouse$EntryList" "inOrder" "Ljava/util/ArrayList;") ∈ TT := tt_mem (tb1 (List.mem_of_getElem? (i := 66) rfl)) rfl
theorem w67 : (Cond.soleField "LockHouse$EntryList" "inOrder") ∈ TT := tt_mem (tb1 (List.mem_of_getElem? (i := 67) rfl)) rfl
theorem w68 : (Cond.superclass "LockHouse$EntryList" "java/lang/Object") ∈ TT := tt_mem (tb1 (List.mem_of_getElem? (i := 68) rfl)) rfl
theorem w69 : (Cond.classLink "LockHouse" (23 : Nat) "LockHouse$Door") ∈ TT := tt_mem (tb1 (List.mem_of_getElem? (i := 69) rfl)) rfl
theorem u70 : (Cond.arrayOver (FieldType.object "LockHouse$Door")) ∈ lw_tbl := tb1 (List.mem_of_getElem? (i := 70) rfl)
theorem w71 : (Cond.instantiable "LockHouse$Door" (5 : Nat)) ∈ TT := tt_mem (tb1 (List.mem_of_getElem? (i := 71) rfl)) rfl
theorem w72 : (Cond.methodLink "LockHouse" (39 : Nat) ({ cls := "LockHouse$Door", name := "<init>", desc := "(I)V" } : MethodName)) ∈ TT := tt_mem (tb1 (List.mem_of_getElem? (i := 72) rfl)) rfl
theorem w73 : (Cond.instanceMethod ({ cls := "LockHouse$Door", name := "<init>", desc := "(I)V" } : MethodName)) ∈ TT := tt_mem (tb1 (List.mem_of_getElem? (i := 73) rfl)) rfl
theorem w74 : (Cond.code ({ cls := "LockHouse$Door", name := "<init>", desc := "(I)V" } : MethodName) prog_3_method_1_code (2 : Nat) (Option.none : Option FieldType)) ∈ TT := tt_mem (tb1 (List.mem_of_getElem? (i := 74) rfl)) rfl
theorem w75 : (Cond.methodLink "LockHouse$Door" (3 : Nat) ({ cls := "java/lang/Object", name := "<init>", desc := "()V" } : MethodName)) ∈ TT := tt_mem (tb1 (List.mem_of_getElem? (i := 75) rfl)) rfl
theorem w76 : (Cond.fieldLink "LockHouse$Door" (25 : Nat) "LockHouse$Door" "number" "I") ∈ TT := tt_mem (tb1 (List.mem_of_getElem? (i := 76) rfl)) rfl
theorem w77 : (Cond.fieldLink "LockHouse$Door" (9 : Nat) "LockHouse$Door" "zone" "I") ∈ TT := tt_mem (tb1 (List.mem_of_getElem? (i := 77) rfl)) rfl
theorem u78 : (Cond.fieldLinkNest "LockHouse" (110 : Nat) "LockHouse$Door" "zone" "I" "LockHouse") ∈ lw_tbl := tb1 (List.mem_of_getElem? (i := 78) rfl)
theorem w79 : (Cond.fieldLink "LockHouse$Door" (15 : Nat) "LockHouse$Door" "heard" "I") ∈ TT := tt_mem (tb1 (List.mem_of_getElem? (i := 79) rfl)) rfl
theorem u80 : (Cond.fieldLinkNest "LockHouse" (160 : Nat) "LockHouse$Door" "heard" "I" "LockHouse") ∈ lw_tbl := tb1 (List.mem_of_getElem? (i := 80) rfl)
theorem w81 : (Cond.fieldLink "LockHouse$Door" (18 : Nat) "LockHouse$Door" "greatest" "I") ∈ TT := tt_mem (tb1 (List.mem_of_getElem? (i := 81) rfl)) rfl
theorem u82 : (Cond.fieldLinkNest "LockHouse" (157 : Nat) "LockHouse$Door" "greatest" "I" "LockHouse") ∈ lw_tbl := tb1 (List.mem_of_getElem? (i := 82) rfl)
theorem w83 : (Cond.fieldLink "LockHouse$Door" (21 : Nat) "LockHouse$Door" "used" "Z") ∈ TT := tt_mem (tb1 (List.mem_of_getElem? (i := 83) rfl)) rfl
theorem u84 : (Cond.fieldLinkNest "LockHouse" (104 : Nat) "LockHouse$Door" "used" "Z" "LockHouse") ∈ lw_tbl := tb1 (List.mem_of_getElem? (i := 84) rfl)
theorem w85 : (Cond.laysFinal "LockHouse$Door" "LockHouse$Door" "number" "I") ∈ TT := tt_mem (tb1 (List.mem_of_getElem? (i := 85) rfl)) rfl
theorem w86 : (Cond.soleField "LockHouse$Door" "number") ∈ TT := tt_mem (tb1 (List.mem_of_getElem? (i := 86) rfl)) rfl
theorem w87 : (Cond.lays "LockHouse$Door" "LockHouse$Door" "zone" "I") ∈ TT := tt_mem (tb1 (List.mem_of_getElem? (i := 87) rfl)) rfl
theorem w88 : (Cond.soleField "LockHouse$Door" "zone") ∈ TT := tt_mem (tb1 (List.mem_of_getElem? (i := 88) rfl)) rfl
theorem w89 : (Cond.lays "LockHouse$Door" "LockHouse$Door" "heard" "I") ∈ TT := tt_mem (tb1 (List.mem_of_getElem? (i := 89) rfl)) rfl
theorem w90 : (Cond.soleField "LockHouse$Door" "heard") ∈ TT := tt_mem (tb1 (List.mem_of_getElem? (i := 90) rfl)) rfl
theorem w91 : (Cond.lays "LockHouse$Door" "LockHouse$Door" "greatest" "I") ∈ TT := tt_mem (tb1 (List.mem_of_getElem? (i := 91) rfl)) rfl
theorem w92 : (Cond.soleField "LockHouse$Door" "greatest") ∈ TT := tt_mem (tb1 (List.mem_of_getElem? (i := 92) rfl)) rfl
theorem w93 : (Cond.lays "LockHouse$Door" "LockHouse$Door" "used" "Z") ∈ TT := tt_mem (tb1 (List.mem_of_getElem? (i := 93) rfl)) rfl
theorem w94 : (Cond.soleField "LockHouse$Door" "used") ∈ TT := tt_mem (tb1 (List.mem_of_getElem? (i := 94) rfl)) rfl
theorem w95 : (Cond.superclass "LockHouse$Door" "java/lang/Object") ∈ TT := tt_mem (tb1 (List.mem_of_getElem? (i := 95) rfl)) rfl
theorem w96 : (Cond.arrayClass FieldType.int) ∈ TT := tt_mem (tb1 (List.mem_of_getElem? (i := 96) rfl)) rfl
theorem w97 : (Cond.methodLink "LockHouse" (42 : Nat) ({ cls := "java/util/Arrays", name := "fill", desc := "([II)V" } : MethodName)) ∈ TT := tt_mem (tb1 (List.mem_of_getElem? (i := 97) rfl)) rfl
theorem w98 : (Cond.static ({ cls := "java/util/Arrays", name := "fill", desc := "([II)V" } : MethodName)) ∈ TT := tt_mem (tb1 (List.mem_of_getElem? (i := 98) rfl)) rfl
theorem w99 : (Cond.code ({ cls := "java/util/Arrays", name := "fill", desc := "([II)V" } : MethodName) prog_24_method_103_code (4 : Nat) (Option.none : Option FieldType)) ∈ TT := tt_mem (tb1 (List.mem_of_getElem? (i := 99) rfl)) rfl
theorem w100 : (Cond.fieldLink "LockHouse" (10 : Nat) "LockHouse" "issued" "Ljava/util/ArrayList;") ∈ TT := tt_mem (tb1 (List.mem_of_getElem? (i := 100) rfl)) rfl
theorem w101 : (Cond.fieldLink "LockHouse" (19 : Nat) "LockHouse" "list" "LLockHouse$EntryList;") ∈ TT := tt_mem (tb1 (List.mem_of_getElem? (i := 101) rfl)) rfl
theorem w102 : (Cond.fieldLink "LockHouse" (25 : Nat) "LockHouse" "doors" "[LLockHouse$Door;") ∈ TT := tt_mem (tb1 (List.mem_of_getElem? (i := 102) rfl)) rfl
theorem w103 : (Cond.fieldLink "LockHouse" (29 : Nat) "LockHouse" "visitCard" "[I") ∈ TT := tt_mem (tb1 (List.mem_of_getElem? (i := 103) rfl)) rfl
theorem w104 : (Cond.fieldLink "LockHouse" (33 : Nat) "LockHouse" "visitDoor" "[I") ∈ TT := tt_mem (tb1 (List.mem_of_getElem? (i := 104) rfl)) rfl
theorem w105 : (Cond.fieldLink "LockHouse" (36 : Nat) "LockHouse" "visitDay" "[I") ∈ TT := tt_mem (tb1 (List.mem_of_getElem? (i := 105) rfl)) rfl
theorem w106 : (Cond.laysFinal "LockHouse" "LockHouse" "issued" "Ljava/util/ArrayList;") ∈ TT := tt_mem (tb1 (List.mem_of_getElem? (i := 106) rfl)) rfl
theorem w107 : (Cond.soleField "LockHouse" "issued") ∈ TT := tt_mem (tb1 (List.mem_of_getElem? (i := 107) rfl)) rfl
theorem w108 : (Cond.laysFinal "LockHouse" "LockHouse" "list" "LLockHouse$EntryList;") ∈ TT := tt_mem (tb1 (List.mem_of_getElem? (i := 108) rfl)) rfl
theorem w109 : (Cond.soleField "LockHouse" "list") ∈ TT := tt_mem (tb1 (List.mem_of_getElem? (i := 109) rfl)) rfl
theorem w110 : (Cond.laysFinal "LockHouse" "LockHouse" "doors" "[LLockHouse$Door;") ∈ TT := tt_mem (tb1 (List.mem_of_getElem? (i := 110) rfl)) rfl
theorem w111 : (Cond.soleField "LockHouse" "doors") ∈ TT := tt_mem (tb1 (List.mem_of_getElem? (i := 111) rfl)) rfl
theorem w112 : (Cond.laysFinal "LockHouse" "LockHouse" "visitCard" "[I") ∈ TT := tt_mem (tb1 (List.mem_of_getElem? (i := 112) rfl)) rfl
theorem w113 : (Cond.soleField "LockHouse" "visitCard") ∈ TT := tt_mem (tb1 (List.mem_of_getElem? (i := 113) rfl)) rfl
theorem w114 : (Cond.laysFinal "LockHouse" "LockHouse" "visitDoor" "[I") ∈ TT := tt_mem (tb1 (List.mem_of_getElem? (i := 114) rfl)) rfl
theorem w115 : (Cond.soleField "LockHouse" "visitDoor") ∈ TT := tt_mem (tb1 (List.mem_of_getElem? (i := 115) rfl)) rfl
theorem w116 : (Cond.laysFinal "LockHouse" "LockHouse" "visitDay" "[I") ∈ TT := tt_mem (tb1 (List.mem_of_getElem? (i := 116) rfl)) rfl
theorem w117 : (Cond.soleField "LockHouse" "visitDay") ∈ TT := tt_mem (tb1 (List.mem_of_getElem? (i := 117) rfl)) rfl
theorem w118 : (Cond.superclass "LockHouse" "java/lang/Object") ∈ TT := tt_mem (tb1 (List.mem_of_getElem? (i := 118) rfl)) rfl
theorem w119 : (Cond.methodLink "LockHouseLaw" (88 : Nat) ({ cls := "LockHouse", name := "cards", desc := "()I" } : MethodName)) ∈ TT := tt_mem (tb1 (List.mem_of_getElem? (i := 119) rfl)) rfl
theorem w120 : (Cond.instanceMethod ({ cls := "LockHouse", name := "cards", desc := "()I" } : MethodName)) ∈ TT := tt_mem (tb1 (List.mem_of_getElem? (i := 120) rfl)) rfl
theorem w121 : (Cond.selects "LockHouse" ({ cls := "LockHouse", name := "cards", desc := "()I" } : MethodName) ({ cls := "LockHouse", name := "cards", desc := "()I" } : MethodName)) ∈ TT := tt_mem (tb1 (List.mem_of_getElem? (i := 121) rfl)) rfl
theorem w122 : (Cond.code ({ cls := "LockHouse", name := "cards", desc := "()I" } : MethodName) prog_1_method_3_code (1 : Nat) (Option.some FieldType.int)) ∈ TT := tt_mem (tb1 (List.mem_of_getElem? (i := 122) rfl)) rfl
theorem w123 : (Cond.methodLink "LockHouse" (48 : Nat) ({ cls := "java/util/ArrayList", name := "size", desc := "()I" } : MethodName)) ∈ TT := tt_mem (tb1 (List.mem_of_getElem? (i := 123) rfl)) rfl
theorem w124 : (Cond.instanceMethod ({ cls := "java/util/ArrayList", name := "size", desc := "()I" } : MethodName)) ∈ TT := tt_mem (tb1 (List.mem_of_getElem? (i := 124) rfl)) rfl
theorem w125 : (Cond.selects "java/util/ArrayList" ({ cls := "java/util/ArrayList", name := "size", desc := "()I" } : MethodName) ({ cls := "java/util/ArrayList", name := "size", desc := "()I" } : MethodName)) ∈ TT := tt_mem (tb1 (List.mem_of_getElem? (i := 125) rfl)) rfl
theorem w126 : (Cond.code ({ cls := "java/util/ArrayList", name := "size", desc := "()I" } : MethodName) prog_23_method_8_code (1 : Nat) (Option.some FieldType.int)) ∈ TT := tt_mem (tb1 (List.mem_of_getElem? (i := 126) rfl)) rfl
theorem w127 : (Cond.methodLink "LockHouseLaw" (96 : Nat) ({ cls := "LockHouse", name := "entries", desc := "()I" } : MethodName)) ∈ TT := tt_mem (tb1 (List.mem_of_getElem? (i := 127) rfl)) rfl
theorem w128 : (Cond.instanceMethod ({ cls := "LockHouse", name := "entries", desc := "()I" } : MethodName)) ∈ TT := tt_mem (tb1 (List.mem_of_getElem? (i := 128) rfl)) rfl
theorem w129 : (Cond.selects "LockHouse" ({ cls := "LockHouse", name := "entries", desc := "()I" } : MethodName) ({ cls := "LockHouse", name := "entries", desc := "()I" } : MethodName)) ∈ TT := tt_mem (tb1 (List.mem_of_getElem? (i := 129) rfl)) rfl
theorem w130 : (Cond.code ({ cls := "LockHouse", name := "entries", desc := "()I" } : MethodName) prog_1_method_5_code (1 : Nat) (Option.some FieldType.int)) ∈ TT := tt_mem (tb1 (List.mem_of_getElem? (i := 130) rfl)) rfl
theorem w131 : (Cond.methodLink "LockHouse" (76 : Nat) ({ cls := "LockHouse$EntryList", name := "made", desc := "()I" } : MethodName)) ∈ TT := tt_mem (tb1 (List.mem_of_getElem? (i := 131) rfl)) rfl
theorem w132 : (Cond.instanceMethod ({ cls := "LockHouse$EntryList", name := "made", desc := "()I" } : MethodName)) ∈ TT := tt_mem (tb1 (List.mem_of_getElem? (i := 132) rfl)) rfl
theorem w133 : (Cond.selects "LockHouse$EntryList" ({ cls := "LockHouse$EntryList", name := "made", desc := "()I" } : MethodName) ({ cls := "LockHouse$EntryList", name := "made", desc := "()I" } : MethodName)) ∈ TT := tt_mem (tb1 (List.mem_of_getElem? (i := 133) rfl)) rfl
theorem w134 : (Cond.code ({ cls := "LockHouse$EntryList", name := "made", desc := "()I" } : MethodName) prog_5_method_2_code (1 : Nat) (Option.some FieldType.int)) ∈ TT := tt_mem (tb1 (List.mem_of_getElem? (i := 134) rfl)) rfl
theorem w135 : (Cond.methodLink "LockHouse$EntryList" (18 : Nat) ({ cls := "java/util/ArrayList", name := "size", desc := "()I" } : MethodName)) ∈ TT := tt_mem (tb1 (List.mem_of_getElem? (i := 135) rfl)) rfl
theorem w136 : (Cond.methodLink "LockHouseLaw" (78 : Nat) ({ cls := "LockHouseLaw", name := "issue", desc := "(LLockHouse;II[J)I" } : MethodName)) ∈ TT := tt_mem (tb1 (List.mem_of_getElem? (i := 136) rfl)) rfl
theorem w137 : (Cond.static ({ cls := "LockHouseLaw", name := "issue", desc := "(LLockHouse;II[J)I" } : MethodName)) ∈ TT := tt_mem (tb1 (List.mem_of_getElem? (i := 137) rfl)) rfl
theorem w138 : (Cond.codeWith ({ cls := "LockHouseLaw", name := "issue", desc := "(LLockHouse;II[J)I" } : MethodName) method_3_code (5 : Nat) (Option.some FieldType.int) [((0 : Nat), (10 : Nat), (13 : Nat), (13 : Nat))]) ∈ TT := tt_mem (tb1 (List.mem_of_getElem? (i := 138) rfl)) rfl
theorem w139 : (Cond.classLink "LockHouseLaw" (13 : Nat) "java/lang/IllegalStateException") ∈ TT := tt_mem (tb1 (List.mem_of_getElem? (i := 139) rfl)) rfl
theorem w140 : (Cond.methodLink "LockHouseLaw" (7 : Nat) ({ cls := "LockHouse", name := "issue", desc := "(II)I" } : MethodName)) ∈ TT := tt_mem (tb1 (List.mem_of_getElem? (i := 140) rfl)) rfl
theorem w141 : (Cond.instanceMethod ({ cls := "LockHouse", name := "issue", desc := "(II)I" } : MethodName)) ∈ TT := tt_mem (tb1 (List.mem_of_getElem? (i := 141) rfl)) rfl
theorem w142 : (Cond.selects "LockHouse" ({ cls := "LockHouse", name := "issue", desc := "(II)I" } : MethodName) ({ cls := "LockHouse", name := "issue", desc := "(II)I" } : MethodName)) ∈ TT := tt_mem (tb1 (List.mem_of_getElem? (i := 142) rfl)) rfl
theorem w143 : (Cond.code ({ cls := "LockHouse", name := "issue", desc := "(II)I" } : MethodName) prog_1_method_2_code (3 : Nat) (Option.some FieldType.int)) ∈ TT := tt_mem (tb1 (List.mem_of_getElem? (i := 143) rfl)) rfl
theorem w144 : (Cond.classLink "LockHouse" (52 : Nat) "java/lang/IllegalStateException") ∈ TT := tt_mem (tb1 (List.mem_of_getElem? (i := 144) rfl)) rfl
theorem w145 : (Cond.instantiable "java/lang/IllegalStateException" (6 : Nat)) ∈ TT := tt_mem (tb1 (List.mem_of_getElem? (i := 145) rfl)) rfl
theorem u146 : (Cond.castable "java/lang/IllegalStateException" "java/lang/IllegalStateException") ∈ lw_tbl := tb1 (List.mem_of_getElem? (i := 146) rfl)
theorem u147 : (Cond.declares ({ cls := "java/lang/RuntimeException", name := "<init>", desc := "()V" } : MethodName)) ∈ lw_tbl := tb1 (List.mem_of_getElem? (i := 147) rfl)
theorem u148 : (Cond.declares ({ cls := "java/lang/RuntimeException", name := "<init>", desc := "(Ljava/lang/String;)V" } : MethodName)) ∈ lw_tbl := tb1 (List.mem_of_getElem? (i := 148) rfl)
theorem u149 : (Cond.declares ({ cls := "java/lang/Exception", name := "<init>", desc := "()V" } : MethodName)) ∈ lw_tbl := tb1 (List.mem_of_getElem? (i := 149) rfl)
theorem u150 : (Cond.declares ({ cls := "java/lang/Exception", name := "<init>", desc := "(Ljava/lang/String;)V" } : MethodName)) ∈ lw_tbl := tb1 (List.mem_of_getElem? (i := 150) rfl)
theorem u151 : (Cond.declares ({ cls := "java/lang/Throwable", name := "<init>", desc := "()V" } : MethodName)) ∈ lw_tbl := tb1 (List.mem_of_getElem? (i := 151) rfl)
theorem u152 : (Cond.declares ({ cls := "java/lang/Throwable", name := "<init>", desc := "(Ljava/lang/String;)V" } : MethodName)) ∈ lw_tbl := tb1 (List.mem_of_getElem? (i := 152) rfl)
theorem w153 : (Cond.selects "java/lang/IllegalStateException" ({ cls := "java/lang/Throwable", name := "fillInStackTrace", desc := "(I)Ljava/lang/Throwable;" } : MethodName) ({ cls := "java/lang/Throwable", name := "fillInStackTrace", desc := "(I)Ljava/lang/Throwable;" } : MethodName)) ∈ TT := tt_mem (tb1 (List.mem_of_getElem? (i := 153) rfl)) rfl
theorem w154 : (Cond.selects "java/lang/IllegalStateException" ({ cls := "java/lang/Throwable", name := "fillInStackTrace", desc := "()Ljava/lang/Throwable;" } : MethodName) ({ cls := "java/lang/Throwable", name := "fillInStackTrace", desc := "()Ljava/lang/Throwable;" } : MethodName)) ∈ TT := tt_mem (tb1 (List.mem_of_getElem? (i := 154) rfl)) rfl
theorem w155 : (Cond.lays "java/lang/IllegalStateException" "java/lang/Throwable" "cause" "Ljava/lang/Throwable;") ∈ TT := tt_mem (tb1 (List.mem_of_getElem? (i := 155) rfl)) rfl
theorem w156 : (Cond.lays "java/lang/Throwable" "java/lang/Throwable" "cause" "Ljava/lang/Throwable;") ∈ TT := tt_mem (tb1 (List.mem_of_getElem? (i := 156) rfl)) rfl
theorem w157 : (Cond.lays "java/lang/IllegalStateException" "java/lang/Throwable" "stackTrace" "[Ljava/lang/StackTraceElement;") ∈ TT := tt_mem (tb1 (List.mem_of_getElem? (i := 157) rfl)) rfl
theorem w158 : (Cond.lays "java/lang/Throwable" "java/lang/Throwable" "stackTrace" "[Ljava/lang/StackTraceElement;") ∈ TT := tt_mem (tb1 (List.mem_of_getElem? (i := 158) rfl)) rfl
theorem w159 : (Cond.lays "java/lang/IllegalStateException" "java/lang/Throwable" "suppressedExceptions" "Ljava/util/List;") ∈ TT := tt_mem (tb1 (List.mem_of_getElem? (i := 159) rfl)) rfl
theorem w160 : (Cond.lays "java/lang/Throwable" "java/lang/Throwable" "suppressedExceptions" "Ljava/util/List;") ∈ TT := tt_mem (tb1 (List.mem_of_getElem? (i := 160) rfl)) rfl
theorem w161 : (Cond.lays "java/lang/IllegalStateException" "java/lang/Throwable" "detailMessage" "Ljava/lang/String;") ∈ TT := tt_mem (tb1 (List.mem_of_getElem? (i := 161) rfl)) rfl
theorem w162 : (Cond.lays "java/lang/Throwable" "java/lang/Throwable" "detailMessage" "Ljava/lang/String;") ∈ TT := tt_mem (tb1 (List.mem_of_getElem? (i := 162) rfl)) rfl
theorem w163 : (Cond.lays "java/lang/IllegalStateException" "java/lang/Throwable" "backtrace" "Ljava/lang/Object;") ∈ TT := tt_mem (tb1 (List.mem_of_getElem? (i := 163) rfl)) rfl
theorem w164 : (Cond.lays "java/lang/Throwable" "java/lang/Throwable" "backtrace" "Ljava/lang/Object;") ∈ TT := tt_mem (tb1 (List.mem_of_getElem? (i := 164) rfl)) rfl
theorem w165 : (Cond.fieldLink "java/lang/Throwable" (198 : Nat) "java/lang/Throwable" "backtrace" "Ljava/lang/Object;") ∈ TT := tt_mem (tb1 (List.mem_of_getElem? (i := 165) rfl)) rfl
theorem w166 : (Cond.superclass "java/lang/Throwable" "java/lang/Object") ∈ TT := tt_mem (tb1 (List.mem_of_getElem? (i := 166) rfl)) rfl
theorem w167 : (Cond.instanceMethod ({ cls := "java/lang/Throwable", name := "<init>", desc := "()V" } : MethodName)) ∈ TT := tt_mem (tb1 (List.mem_of_getElem? (i := 167) rfl)) rfl
theorem w168 : (Cond.code ({ cls := "java/lang/Throwable", name := "<init>", desc := "()V" } : MethodName) prog_20_method_1_code (1 : Nat) (Option.none : Option FieldType)) ∈ TT := tt_mem (tb1 (List.mem_of_getElem? (i := 168) rfl)) rfl
theorem w169 : (Cond.methodLink "java/lang/Throwable" (1 : Nat) ({ cls := "java/lang/Object", name := "<init>", desc := "()V" } : MethodName)) ∈ TT := tt_mem (tb1 (List.mem_of_getElem? (i := 169) rfl)) rfl
theorem w170 : (Cond.fieldLink "java/lang/Throwable" (13 : Nat) "java/lang/Throwable" "UNASSIGNED_STACK" "[Ljava/lang/StackTraceElement;") ∈ TT := tt_mem (tb1 (List.mem_of_getElem? (i := 170) rfl)) rfl
theorem u171 : (Cond.laysStatic "java/lang/Throwable" "UNASSIGNED_STACK" "[Ljava/lang/StackTraceElement;") ∈ lw_tbl := tb1 (List.mem_of_getElem? (i := 171) rfl)
theorem w172 : (Cond.fieldLink "java/lang/Throwable" (20 : Nat) "java/lang/Throwable" "SUPPRESSED_SENTINEL" "Ljava/util/List;") ∈ TT := tt_mem (tb1 (List.mem_of_getElem? (i := 172) rfl)) rfl
theorem u173 : (Cond.laysStatic "java/lang/Throwable" "SUPPRESSED_SENTINEL" "Ljava/util/List;") ∈ lw_tbl := tb1 (List.mem_of_getElem? (i := 173) rfl)
theorem w174 : (Cond.methodLink "java/lang/Throwable" (27 : Nat) ({ cls := "java/lang/Throwable", name := "fillInStackTrace", desc := "()Ljava/lang/Throwable;" } : MethodName)) ∈ TT := tt_mem (tb1 (List.mem_of_getElem? (i := 174) rfl)) rfl
theorem w175 : (Cond.instanceMethod ({ cls := "java/lang/Throwable", name := "fillInStackTrace", desc := "()Ljava/lang/Throwable;" } : MethodName)) ∈ TT := tt_mem (tb1 (List.mem_of_getElem? (i := 175) rfl)) rfl
theorem w176 : (Cond.sameMethod "java/lang/Throwable" "java/lang/Throwable" "fillInStackTrace" "()Ljava/lang/Throwable;") ∈ TT := tt_mem (tb1 (List.mem_of_getElem? (i := 176) rfl)) rfl
theorem w177 : (Cond.selects "java/lang/IllegalArgumentException" ({ cls := "java/lang/Throwable", name := "fillInStackTrace", desc := "()Ljava/lang/Throwable;" } : MethodName) ({ cls := "java/lang/Throwable", name := "fillInStackTrace", desc := "()Ljava/lang/Throwable;" } : MethodName)) ∈ TT := tt_mem (tb1 (List.mem_of_getElem? (i := 177) rfl)) rfl
theorem w178 : (Cond.selects "java/lang/IndexOutOfBoundsException" ({ cls := "java/lang/Throwable", name := "fillInStackTrace", desc := "()Ljava/lang/Throwable;" } : MethodName) ({ cls := "java/lang/Throwable", name := "fillInStackTrace", desc := "()Ljava/lang/Throwable;" } : MethodName)) ∈ TT := tt_mem (tb1 (List.mem_of_getElem? (i := 178) rfl)) rfl
theorem w179 : (Cond.codeSync ({ cls := "java/lang/Throwable", name := "fillInStackTrace", desc := "()Ljava/lang/Throwable;" } : MethodName) prog_20_method_18_code (1 : Nat) (Option.some (FieldType.object "java/lang/Throwable"))) ∈ TT := tt_mem (tb1 (List.mem_of_getElem? (i := 179) rfl)) rfl
theorem w180 : (Cond.methodLink "java/lang/Throwable" (202 : Nat) ({ cls := "java/lang/Throwable", name := "fillInStackTrace", desc := "(I)Ljava/lang/Throwable;" } : MethodName)) ∈ TT := tt_mem (tb1 (List.mem_of_getElem? (i := 180) rfl)) rfl
theorem u181 : (Cond.privateMethod ({ cls := "java/lang/Throwable", name := "fillInStackTrace", desc := "(I)Ljava/lang/Throwable;" } : MethodName)) ∈ lw_tbl := tb1 (List.mem_of_getElem? (i := 181) rfl)
theorem w182 : (Cond.instanceMethod ({ cls := "java/lang/Throwable", name := "fillInStackTrace", desc := "(I)Ljava/lang/Throwable;" } : MethodName)) ∈ TT := tt_mem (tb1 (List.mem_of_getElem? (i := 182) rfl)) rfl
theorem w183 : (Cond.instantiable "java/lang/Throwable" (6 : Nat)) ∈ TT := tt_mem (tb1 (List.mem_of_getElem? (i := 183) rfl)) rfl
theorem u184 : (Cond.native ({ cls := "java/lang/Throwable", name := "fillInStackTrace", desc := "(I)Ljava/lang/Throwable;" } : MethodName)) ∈ lw_tbl := tb1 (List.mem_of_getElem? (i := 184) rfl)
theorem u185 : (Cond.stringRef "LockHouse" (54 : Nat) "no more cards can be issued") ∈ lw_tbl := tb1 (List.mem_of_getElem? (i := 185) rfl)
theorem w186 : (Cond.methodLink "LockHouse" (56 : Nat) ({ cls := "java/lang/IllegalStateException", name := "<init>", desc := "(Ljava/lang/String;)V" } : MethodName)) ∈ TT := tt_mem (tb1 (List.mem_of_getElem? (i := 186) rfl)) rfl
theorem w187 : (Cond.instanceMethod ({ cls := "java/lang/IllegalStateException", name := "<init>", desc := "(Ljava/lang/String;)V" } : MethodName)) ∈ TT := tt_mem (tb1 (List.mem_of_getElem? (i := 187) rfl)) rfl
theorem w188 : (Cond.code ({ cls := "java/lang/IllegalStateException", name := "<init>", desc := "(Ljava/lang/String;)V" } : MethodName) prog_13_method_2_code (2 : Nat) (Option.none : Option FieldType)) ∈ TT := tt_mem (tb1 (List.mem_of_getElem? (i := 188) rfl)) rfl
theorem w189 : (Cond.methodLink "java/lang/IllegalStateException" (7 : Nat) ({ cls := "java/lang/RuntimeException", name := "<init>", desc := "(Ljava/lang/String;)V" } : MethodName)) ∈ TT := tt_mem (tb1 (List.mem_of_getElem? (i := 189) rfl)) rfl
theorem w190 : (Cond.instanceMethod ({ cls := "java/lang/RuntimeException", name := "<init>", desc := "(Ljava/lang/String;)V" } : MethodName)) ∈ TT := tt_mem (tb1 (List.mem_of_getElem? (i := 190) rfl)) rfl
theorem w191 : (Cond.code ({ cls := "java/lang/RuntimeException", name := "<init>", desc := "(Ljava/lang/String;)V" } : MethodName) prog_17_method_2_code (2 : Nat) (Option.none : Option FieldType)) ∈ TT := tt_mem (tb1 (List.mem_of_getElem? (i := 191) rfl)) rfl
theorem w192 : (Cond.methodLink "java/lang/RuntimeException" (7 : Nat) ({ cls := "java/lang/Exception", name := "<init>", desc := "(Ljava/lang/String;)V" } : MethodName)) ∈ TT := tt_mem (tb1 (List.mem_of_getElem? (i := 192) rfl)) rfl
theorem w193 : (Cond.instanceMethod ({ cls := "java/lang/Exception", name := "<init>", desc := "(Ljava/lang/String;)V" } : MethodName)) ∈ TT := tt_mem (tb1 (List.mem_of_getElem? (i := 193) rfl)) rfl
theorem w194 : (Cond.code ({ cls := "java/lang/Exception", name := "<init>", desc := "(Ljava/lang/String;)V" } : MethodName) prog_11_method_2_code (2 : Nat) (Option.none : Option FieldType)) ∈ TT := tt_mem (tb1 (List.mem_of_getElem? (i := 194) rfl)) rfl
theorem w195 : (Cond.methodLink "java/lang/Exception" (7 : Nat) ({ cls := "java/lang/Throwable", name := "<init>", desc := "(Ljava/lang/String;)V" } : MethodName)) ∈ TT := tt_mem (tb1 (List.mem_of_getElem? (i := 195) rfl)) rfl
theorem w196 : (Cond.instanceMethod ({ cls := "java/lang/Throwable", name := "<init>", desc := "(Ljava/lang/String;)V" } : MethodName)) ∈ TT := tt_mem (tb1 (List.mem_of_getElem? (i := 196) rfl)) rfl
theorem w197 : (Cond.code ({ cls := "java/lang/Throwable", name := "<init>", desc := "(Ljava/lang/String;)V" } : MethodName) prog_20_method_2_code (2 : Nat) (Option.none : Option FieldType)) ∈ TT := tt_mem (tb1 (List.mem_of_getElem? (i := 197) rfl)) rfl
theorem w198 : (Cond.fieldLink "java/lang/Throwable" (198 : Nat) "java/lang/Throwable" "backtrace" "Ljava/lang/Object;") ∈ TT := tt_mem (tb1 (List.mem_of_getElem? (i := 198) rfl)) rfl
theorem w199 : (Cond.fieldLink "java/lang/Throwable" (31 : Nat) "java/lang/Throwable" "detailMessage" "Ljava/lang/String;") ∈ TT := tt_mem (tb1 (List.mem_of_getElem? (i := 199) rfl)) rfl
theorem w200 : (Cond.fieldLink "java/lang/Throwable" (7 : Nat) "java/lang/Throwable" "cause" "Ljava/lang/Throwable;") ∈ TT := tt_mem (tb1 (List.mem_of_getElem? (i := 200) rfl)) rfl
theorem w201 : (Cond.fieldLink "java/lang/Throwable" (17 : Nat) "java/lang/Throwable" "stackTrace" "[Ljava/lang/StackTraceElement;") ∈ TT := tt_mem (tb1 (List.mem_of_getElem? (i := 201) rfl)) rfl
theorem w202 : (Cond.fieldLink "java/lang/Throwable" (24 : Nat) "java/lang/Throwable" "suppressedExceptions" "Ljava/util/List;") ∈ TT := tt_mem (tb1 (List.mem_of_getElem? (i := 202) rfl)) rfl
theorem w203 : (Cond.soleField "java/lang/Throwable" "backtrace") ∈ TT := tt_mem (tb1 (List.mem_of_getElem? (i := 203) rfl)) rfl
theorem w204 : (Cond.soleField "java/lang/Throwable" "detailMessage") ∈ TT := tt_mem (tb1 (List.mem_of_getElem? (i := 204) rfl)) rfl
theorem w205 : (Cond.soleField "java/lang/Throwable" "cause") ∈ TT := tt_mem (tb1 (List.mem_of_getElem? (i := 205) rfl)) rfl
theorem w206 : (Cond.soleField "java/lang/Throwable" "stackTrace") ∈ TT := tt_mem (tb1 (List.mem_of_getElem? (i := 206) rfl)) rfl
theorem w207 : (Cond.lays "java/lang/IllegalStateException" "java/lang/Throwable" "depth" "I") ∈ TT := tt_mem (tb1 (List.mem_of_getElem? (i := 207) rfl)) rfl
theorem w208 : (Cond.soleField "java/lang/Throwable" "depth") ∈ TT := tt_mem (tb1 (List.mem_of_getElem? (i := 208) rfl)) rfl
theorem w209 : (Cond.soleField "java/lang/Throwable" "suppressedExceptions") ∈ TT := tt_mem (tb1 (List.mem_of_getElem? (i := 209) rfl)) rfl
theorem w210 : (Cond.superclass "java/lang/IllegalStateException" "java/lang/RuntimeException") ∈ TT := tt_mem (tb1 (List.mem_of_getElem? (i := 210) rfl)) rfl
theorem w211 : (Cond.arrayClass FieldType.byte) ∈ TT := tt_mem (tb1 (List.mem_of_getElem? (i := 211) rfl)) rfl
theorem w212 : (Cond.classLink "LockHouse" (59 : Nat) "LockHouse$Card") ∈ TT := tt_mem (tb1 (List.mem_of_getElem? (i := 212) rfl)) rfl
theorem w213 : (Cond.instantiable "LockHouse$Card" (8 : Nat)) ∈ TT := tt_mem (tb1 (List.mem_of_getElem? (i := 213) rfl)) rfl
theorem w214 : (Cond.methodLink "LockHouse" (61 : Nat) ({ cls := "LockHouse$Card", name := "<init>", desc := "(II)V" } : MethodName)) ∈ TT := tt_mem (tb1 (List.mem_of_getElem? (i := 214) rfl)) rfl
theorem w215 : (Cond.instanceMethod ({ cls := "LockHouse$Card", name := "<init>", desc := "(II)V" } : MethodName)) ∈ TT := tt_mem (tb1 (List.mem_of_getElem? (i := 215) rfl)) rfl
theorem w216 : (Cond.code ({ cls := "LockHouse$Card", name := "<init>", desc := "(II)V" } : MethodName) prog_2_method_1_code (3 : Nat) (Option.none : Option FieldType)) ∈ TT := tt_mem (tb1 (List.mem_of_getElem? (i := 216) rfl)) rfl
theorem w217 : (Cond.methodLink "LockHouse$Card" (1 : Nat) ({ cls := "java/lang/Object", name := "<init>", desc := "()V" } : MethodName)) ∈ TT := tt_mem (tb1 (List.mem_of_getElem? (i := 217) rfl)) rfl
theorem w218 : (Cond.classLink "LockHouse$Card" (7 : Nat) "LockHouse$Image") ∈ TT := tt_mem (tb1 (List.mem_of_getElem? (i := 218) rfl)) rfl
theorem w219 : (Cond.instantiable "LockHouse$Image" (1 : Nat)) ∈ TT := tt_mem (tb1 (List.mem_of_getElem? (i := 219) rfl)) rfl
theorem u220 : (Cond.methodLinkNest "LockHouse$Card" (9 : Nat) ({ cls := "LockHouse$Image", name := "<init>", desc := "()V" } : MethodName) "LockHouse") ∈ lw_tbl := tb1 (List.mem_of_getElem? (i := 220) rfl)
theorem w221 : (Cond.instanceMethod ({ cls := "LockHouse$Image", name := "<init>", desc := "()V" } : MethodName)) ∈ TT := tt_mem (tb1 (List.mem_of_getElem? (i := 221) rfl)) rfl
theorem w222 : (Cond.code ({ cls := "LockHouse$Image", name := "<init>", desc := "()V" } : MethodName) prog_6_method_1_code (1 : Nat) (Option.none : Option FieldType)) ∈ TT := tt_mem (tb1 (List.mem_of_getElem? (i := 222) rfl)) rfl
theorem w223 : (Cond.methodLink "LockHouse$Image" (1 : Nat) ({ cls := "java/lang/Object", name := "<init>", desc := "()V" } : MethodName)) ∈ TT := tt_mem (tb1 (List.mem_of_getElem? (i := 223) rfl)) rfl
theorem w224 : (Cond.fieldLink "LockHouse$Image" (9 : Nat) "LockHouse$Image" "words" "[S") ∈ TT := tt_mem (tb1 (List.mem_of_getElem? (i := 224) rfl)) rfl
theorem w225 : (Cond.laysFinal "LockHouse$Image" "LockHouse$Image" "words" "[S") ∈ TT := tt_mem (tb1 (List.mem_of_getElem? (i := 225) rfl)) rfl
theorem w226 : (Cond.soleField "LockHouse$Image" "words") ∈ TT := tt_mem (tb1 (List.mem_of_getElem? (i := 226) rfl)) rfl
theorem w227 : (Cond.superclass "LockHouse$Image" "java/lang/Object") ∈ TT := tt_mem (tb1 (List.mem_of_getElem? (i := 227) rfl)) rfl
theorem w228 : (Cond.arrayClass FieldType.short) ∈ TT := tt_mem (tb1 (List.mem_of_getElem? (i := 228) rfl)) rfl
theorem w229 : (Cond.fieldLink "LockHouse$Card" (32 : Nat) "LockHouse$Card" "zones" "I") ∈ TT := tt_mem (tb1 (List.mem_of_getElem? (i := 229) rfl)) rfl
theorem w230 : (Cond.fieldLink "LockHouse$Card" (35 : Nat) "LockHouse$Card" "endDay" "I") ∈ TT := tt_mem (tb1 (List.mem_of_getElem? (i := 230) rfl)) rfl
theorem u231 : (Cond.fieldLinkNest "LockHouse$Door" (63 : Nat) "LockHouse$Card" "endDay" "I" "LockHouse") ∈ lw_tbl := tb1 (List.mem_of_getElem? (i := 231) rfl)
theorem w232 : (Cond.fieldLink "LockHouse$Card" (10 : Nat) "LockHouse$Card" "image0" "LLockHouse$Image;") ∈ TT := tt_mem (tb1 (List.mem_of_getElem? (i := 232) rfl)) rfl
theorem w233 : (Cond.fieldLink "LockHouse$Card" (16 : Nat) "LockHouse$Card" "image1" "LLockHouse$Image;") ∈ TT := tt_mem (tb1 (List.mem_of_getElem? (i := 233) rfl)) rfl
theorem w234 : (Cond.fieldLink "LockHouse$Card" (19 : Nat) "LockHouse$Card" "entry" "I") ∈ TT := tt_mem (tb1 (List.mem_of_getElem? (i := 234) rfl)) rfl
theorem u235 : (Cond.fieldLinkNest "LockHouse$Door" (54 : Nat) "LockHouse$Card" "entry" "I" "LockHouse") ∈ lw_tbl := tb1 (List.mem_of_getElem? (i := 235) rfl)
theorem u236 : (Cond.fieldLinkNest "LockHouse" (72 : Nat) "LockHouse$Card" "entry" "I" "LockHouse") ∈ lw_tbl := tb1 (List.mem_of_getElem? (i := 236) rfl)
theorem w237 : (Cond.fieldLink "LockHouse$Card" (23 : Nat) "LockHouse$Card" "keep" "I") ∈ TT := tt_mem (tb1 (List.mem_of_getElem? (i := 237) rfl)) rfl
theorem u238 : (Cond.fieldLinkNest "LockHouse" (119 : Nat) "LockHouse$Card" "keep" "I" "LockHouse") ∈ lw_tbl := tb1 (List.mem_of_getElem? (i := 238) rfl)
theorem w239 : (Cond.fieldLink "LockHouse$Card" (26 : Nat) "LockHouse$Card" "wordsLeft" "I") ∈ TT := tt_mem (tb1 (List.mem_of_getElem? (i := 239) rfl)) rfl
theorem w240 : (Cond.fieldLink "LockHouse$Card" (29 : Nat) "LockHouse$Card" "wordsWritten" "I") ∈ TT := tt_mem (tb2 (List.mem_of_getElem? (i := 0) rfl)) rfl
theorem u241 : (Cond.fieldLinkNest "LockHouse" (122 : Nat) "LockHouse$Card" "wordsWritten" "I" "LockHouse") ∈ lw_tbl := tb2 (List.mem_of_getElem? (i := 1) rfl)
theorem w242 : (Cond.laysFinal "LockHouse$Card" "LockHouse$Card" "zones" "I") ∈ TT := tt_mem (tb2 (List.mem_of_getElem? (i := 2) rfl)) rfl
theorem w243 : (Cond.soleField "LockHouse$Card" "zones") ∈ TT := tt_mem (tb2 (List.mem_of_getElem? (i := 3) rfl)) rfl
theorem w244 : (Cond.laysFinal "LockHouse$Card" "LockHouse$Card" "endDay" "I") ∈ TT := tt_mem (tb2 (List.mem_of_getElem? (i := 4) rfl)) rfl
theorem w245 : (Cond.soleField "LockHouse$Card" "endDay") ∈ TT := tt_mem (tb2 (List.mem_of_getElem? (i := 5) rfl)) rfl
theorem w246 : (Cond.laysFinal "LockHouse$Card" "LockHouse$Card" "image0" "LLockHouse$Image;") ∈ TT := tt_mem (tb2 (List.mem_of_getElem? (i := 6) rfl)) rfl
theorem w247 : (Cond.soleField "LockHouse$Card" "image0") ∈ TT := tt_mem (tb2 (List.mem_of_getElem? (i := 7) rfl)) rfl
theorem w248 : (Cond.laysFinal "LockHouse$Card" "LockHouse$Card" "image1" "LLockHouse$Image;") ∈ TT := tt_mem (tb2 (List.mem_of_getElem? (i := 8) rfl)) rfl
theorem w249 : (Cond.soleField "LockHouse$Card" "image1") ∈ TT := tt_mem (tb2 (List.mem_of_getElem? (i := 9) rfl)) rfl
theorem w250 : (Cond.lays "LockHouse$Card" "LockHouse$Card" "entry" "I") ∈ TT := tt_mem (tb2 (List.mem_of_getElem? (i := 10) rfl)) rfl
theorem w251 : (Cond.soleField "LockHouse$Card" "entry") ∈ TT := tt_mem (tb2 (List.mem_of_getElem? (i := 11) rfl)) rfl
theorem w252 : (Cond.lays "LockHouse$Card" "LockHouse$Card" "keep" "I") ∈ TT := tt_mem (tb2 (List.mem_of_getElem? (i := 12) rfl)) rfl
theorem w253 : (Cond.soleField "LockHouse$Card" "keep") ∈ TT := tt_mem (tb2 (List.mem_of_getElem? (i := 13) rfl)) rfl
theorem w254 : (Cond.lays "LockHouse$Card" "LockHouse$Card" "wordsLeft" "I") ∈ TT := tt_mem (tb2 (List.mem_of_getElem? (i := 14) rfl)) rfl
theorem w255 : (Cond.soleField "LockHouse$Card" "wordsLeft") ∈ TT := tt_mem (tb2 (List.mem_of_getElem? (i := 15) rfl)) rfl
theorem w256 : (Cond.lays "LockHouse$Card" "LockHouse$Card" "wordsWritten" "I") ∈ TT := tt_mem (tb2 (List.mem_of_getElem? (i := 16) rfl)) rfl
theorem w257 : (Cond.soleField "LockHouse$Card" "wordsWritten") ∈ TT := tt_mem (tb2 (List.mem_of_getElem? (i := 17) rfl)) rfl
theorem w258 : (Cond.superclass "LockHouse$Card" "java/lang/Object") ∈ TT := tt_mem (tb2 (List.mem_of_getElem? (i := 18) rfl)) rfl
theorem w259 : (Cond.methodLink "LockHouse" (64 : Nat) ({ cls := "java/util/ArrayList", name := "add", desc := "(Ljava/lang/Object;)Z" } : MethodName)) ∈ TT := tt_mem (tb2 (List.mem_of_getElem? (i := 19) rfl)) rfl
theorem w260 : (Cond.instanceMethod ({ cls := "java/util/ArrayList", name := "add", desc := "(Ljava/lang/Object;)Z" } : MethodName)) ∈ TT := tt_mem (tb2 (List.mem_of_getElem? (i := 20) rfl)) rfl
theorem w261 : (Cond.selects "java/util/ArrayList" ({ cls := "java/util/ArrayList", name := "add", desc := "(Ljava/lang/Object;)Z" } : MethodName) ({ cls := "java/util/ArrayList", name := "add", desc := "(Ljava/lang/Object;)Z" } : MethodName)) ∈ TT := tt_mem (tb2 (List.mem_of_getElem? (i := 21) rfl)) rfl
theorem w262 : (Cond.code ({ cls := "java/util/ArrayList", name := "add", desc := "(Ljava/lang/Object;)Z" } : MethodName) prog_23_method_25_code (2 : Nat) (Option.some FieldType.boolean)) ∈ TT := tt_mem (tb2 (List.mem_of_getElem? (i := 22) rfl)) rfl
theorem w263 : (Cond.methodLink "java/util/ArrayList" (131 : Nat) ({ cls := "java/util/ArrayList", name := "add", desc := "(Ljava/lang/Object;[Ljava/lang/Object;I)V" } : MethodName)) ∈ TT := tt_mem (tb2 (List.mem_of_getElem? (i := 23) rfl)) rfl
theorem u264 : (Cond.privateMethod ({ cls := "java/util/ArrayList", name := "add", desc := "(Ljava/lang/Object;[Ljava/lang/Object;I)V" } : MethodName)) ∈ lw_tbl := tb2 (List.mem_of_getElem? (i := 24) rfl)
theorem w265 : (Cond.instanceMethod ({ cls := "java/util/ArrayList", name := "add", desc := "(Ljava/lang/Object;[Ljava/lang/Object;I)V" } : MethodName)) ∈ TT := tt_mem (tb2 (List.mem_of_getElem? (i := 25) rfl)) rfl
theorem w266 : (Cond.code ({ cls := "java/util/ArrayList", name := "add", desc := "(Ljava/lang/Object;[Ljava/lang/Object;I)V" } : MethodName) prog_23_method_24_code (4 : Nat) (Option.none : Option FieldType)) ∈ TT := tt_mem (tb2 (List.mem_of_getElem? (i := 26) rfl)) rfl
theorem w267 : (Cond.methodLink "java/util/ArrayList" (129 : Nat) ({ cls := "java/util/ArrayList", name := "grow", desc := "()[Ljava/lang/Object;" } : MethodName)) ∈ TT := tt_mem (tb2 (List.mem_of_getElem? (i := 27) rfl)) rfl
theorem u268 : (Cond.privateMethod ({ cls := "java/util/ArrayList", name := "grow", desc := "()[Ljava/lang/Object;" } : MethodName)) ∈ lw_tbl := tb2 (List.mem_of_getElem? (i := 28) rfl)
theorem w269 : (Cond.instanceMethod ({ cls := "java/util/ArrayList", name := "grow", desc := "()[Ljava/lang/Object;" } : MethodName)) ∈ TT := tt_mem (tb2 (List.mem_of_getElem? (i := 29) rfl)) rfl
theorem w270 : (Cond.code ({ cls := "java/util/ArrayList", name := "grow", desc := "()[Ljava/lang/Object;" } : MethodName) prog_23_method_7_code (1 : Nat) (Option.some (FieldType.array (FieldType.object "java/lang/Object")))) ∈ TT := tt_mem (tb2 (List.mem_of_getElem? (i := 30) rfl)) rfl
theorem w271 : (Cond.methodLink "java/util/ArrayList" (69 : Nat) ({ cls := "java/util/ArrayList", name := "grow", desc := "(I)[Ljava/lang/Object;" } : MethodName)) ∈ TT := tt_mem (tb2 (List.mem_of_getElem? (i := 31) rfl)) rfl
theorem u272 : (Cond.privateMethod ({ cls := "java/util/ArrayList", name := "grow", desc := "(I)[Ljava/lang/Object;" } : MethodName)) ∈ lw_tbl := tb2 (List.mem_of_getElem? (i := 32) rfl)
theorem w273 : (Cond.instanceMethod ({ cls := "java/util/ArrayList", name := "grow", desc := "(I)[Ljava/lang/Object;" } : MethodName)) ∈ TT := tt_mem (tb2 (List.mem_of_getElem? (i := 33) rfl)) rfl
theorem w274 : (Cond.code ({ cls := "java/util/ArrayList", name := "grow", desc := "(I)[Ljava/lang/Object;" } : MethodName) prog_23_method_6_code (4 : Nat) (Option.some (FieldType.array (FieldType.object "java/lang/Object")))) ∈ TT := tt_mem (tb2 (List.mem_of_getElem? (i := 34) rfl)) rfl
theorem w275 : (Cond.methodLink "java/util/ArrayList" (73 : Nat) ({ cls := "jdk/internal/util/ArraysSupport", name := "newLength", desc := "(III)I" } : MethodName)) ∈ TT := tt_mem (tb2 (List.mem_of_getElem? (i := 35) rfl)) rfl
theorem w276 : (Cond.static ({ cls := "jdk/internal/util/ArraysSupport", name := "newLength", desc := "(III)I" } : MethodName)) ∈ TT := tt_mem (tb2 (List.mem_of_getElem? (i := 36) rfl)) rfl
theorem w277 : (Cond.code ({ cls := "jdk/internal/util/ArraysSupport", name := "newLength", desc := "(III)I" } : MethodName) prog_30_method_27_code (4 : Nat) (Option.some FieldType.int)) ∈ TT := tt_mem (tb2 (List.mem_of_getElem? (i := 37) rfl)) rfl
theorem w278 : (Cond.methodLink "jdk/internal/util/ArraysSupport" (194 : Nat) ({ cls := "java/lang/Math", name := "max", desc := "(II)I" } : MethodName)) ∈ TT := tt_mem (tb2 (List.mem_of_getElem? (i := 38) rfl)) rfl
theorem w279 : (Cond.static ({ cls := "java/lang/Math", name := "max", desc := "(II)I" } : MethodName)) ∈ TT := tt_mem (tb2 (List.mem_of_getElem? (i := 39) rfl)) rfl
theorem w280 : (Cond.code ({ cls := "java/lang/Math", name := "max", desc := "(II)I" } : MethodName) prog_16_method_65_code (2 : Nat) (Option.some FieldType.int)) ∈ TT := tt_mem (tb2 (List.mem_of_getElem? (i := 40) rfl)) rfl
theorem w281 : (Cond.constant "jdk/internal/util/ArraysSupport" (200 : Nat) (2147483639 : Int32)) ∈ TT := tt_mem (tb2 (List.mem_of_getElem? (i := 41) rfl)) rfl
theorem w282 : (Cond.methodLink "jdk/internal/util/ArraysSupport" (201 : Nat) ({ cls := "jdk/internal/util/ArraysSupport", name := "hugeLength", desc := "(II)I" } : MethodName)) ∈ TT := tt_mem (tb2 (List.mem_of_getElem? (i := 42) rfl)) rfl
theorem w283 : (Cond.static ({ cls := "jdk/internal/util/ArraysSupport", name := "hugeLength", desc := "(II)I" } : MethodName)) ∈ TT := tt_mem (tb2 (List.mem_of_getElem? (i := 43) rfl)) rfl
theorem w284 : (Cond.code ({ cls := "jdk/internal/util/ArraysSupport", name := "hugeLength", desc := "(II)I" } : MethodName) prog_30_method_28_code (3 : Nat) (Option.some FieldType.int)) ∈ TT := tt_mem (tb2 (List.mem_of_getElem? (i := 44) rfl)) rfl
theorem w285 : (Cond.methodLink "java/util/ArrayList" (66 : Nat) ({ cls := "java/util/Arrays", name := "copyOf", desc := "([Ljava/lang/Object;I)[Ljava/lang/Object;" } : MethodName)) ∈ TT := tt_mem (tb2 (List.mem_of_getElem? (i := 45) rfl)) rfl
theorem w286 : (Cond.static ({ cls := "java/util/Arrays", name := "copyOf", desc := "([Ljava/lang/Object;I)[Ljava/lang/Object;" } : MethodName)) ∈ TT := tt_mem (tb2 (List.mem_of_getElem? (i := 46) rfl)) rfl
theorem w287 : (Cond.code ({ cls := "java/util/Arrays", name := "copyOf", desc := "([Ljava/lang/Object;I)[Ljava/lang/Object;" } : MethodName) prog_24_method_119_code (2 : Nat) (Option.some (FieldType.array (FieldType.object "java/lang/Object")))) ∈ TT := tt_mem (tb2 (List.mem_of_getElem? (i := 47) rfl)) rfl
theorem w288 : (Cond.methodLink "java/util/Arrays" (86 : Nat) ({ cls := "java/lang/Object", name := "getClass", desc := "()Ljava/lang/Class;" } : MethodName)) ∈ TT := tt_mem (tb2 (List.mem_of_getElem? (i := 48) rfl)) rfl
theorem w289 : (Cond.instanceMethod ({ cls := "java/lang/Object", name := "getClass", desc := "()Ljava/lang/Class;" } : MethodName)) ∈ TT := tt_mem (tb2 (List.mem_of_getElem? (i := 49) rfl)) rfl
theorem w290 : (Cond.sameMethod "java/lang/Object" "java/lang/Object" "getClass" "()Ljava/lang/Class;") ∈ TT := tt_mem (tb2 (List.mem_of_getElem? (i := 50) rfl)) rfl
theorem w291 : (Cond.selects "LockHouse" ({ cls := "java/lang/Object", name := "getClass", desc := "()Ljava/lang/Class;" } : MethodName) ({ cls := "java/lang/Object", name := "getClass", desc := "()Ljava/lang/Class;" } : MethodName)) ∈ TT := tt_mem (tb2 (List.mem_of_getElem? (i := 51) rfl)) rfl
theorem w292 : (Cond.selects "LockHouse$Card" ({ cls := "java/lang/Object", name := "getClass", desc := "()Ljava/lang/Class;" } : MethodName) ({ cls := "java/lang/Object", name := "getClass", desc := "()Ljava/lang/Class;" } : MethodName)) ∈ TT := tt_mem (tb2 (List.mem_of_getElem? (i := 52) rfl)) rfl
theorem w293 : (Cond.selects "LockHouse$Door" ({ cls := "java/lang/Object", name := "getClass", desc := "()Ljava/lang/Class;" } : MethodName) ({ cls := "java/lang/Object", name := "getClass", desc := "()Ljava/lang/Class;" } : MethodName)) ∈ TT := tt_mem (tb2 (List.mem_of_getElem? (i := 53) rfl)) rfl
theorem w294 : (Cond.selects "LockHouse$Entry" ({ cls := "java/lang/Object", name := "getClass", desc := "()Ljava/lang/Class;" } : MethodName) ({ cls := "java/lang/Object", name := "getClass", desc := "()Ljava/lang/Class;" } : MethodName)) ∈ TT := tt_mem (tb2 (List.mem_of_getElem? (i := 54) rfl)) rfl
theorem w295 : (Cond.selects "LockHouse$EntryList" ({ cls := "java/lang/Object", name := "getClass", desc := "()Ljava/lang/Class;" } : MethodName) ({ cls := "java/lang/Object", name := "getClass", desc := "()Ljava/lang/Class;" } : MethodName)) ∈ TT := tt_mem (tb2 (List.mem_of_getElem? (i := 55) rfl)) rfl
theorem w296 : (Cond.selects "LockHouse$Image" ({ cls := "java/lang/Object", name := "getClass", desc := "()Ljava/lang/Class;" } : MethodName) ({ cls := "java/lang/Object", name := "getClass", desc := "()Ljava/lang/Class;" } : MethodName)) ∈ TT := tt_mem (tb2 (List.mem_of_getElem? (i := 56) rfl)) rfl
theorem w297 : (Cond.selects "LockHouseModel" ({ cls := "java/lang/Object", name := "getClass", desc := "()Ljava/lang/Class;" } : MethodName) ({ cls := "java/lang/Object", name := "getClass", desc := "()Ljava/lang/Class;" } : MethodName)) ∈ TT := tt_mem (tb2 (List.mem_of_getElem? (i := 57) rfl)) rfl
theorem w298 : (Cond.selects "java/lang/IllegalArgumentException" ({ cls := "java/lang/Object", name := "getClass", desc := "()Ljava/lang/Class;" } : MethodName) ({ cls := "java/lang/Object", name := "getClass", desc := "()Ljava/lang/Class;" } : MethodName)) ∈ TT := tt_mem (tb2 (List.mem_of_getElem? (i := 58) rfl)) rfl
theorem w299 : (Cond.selects "java/lang/IllegalStateException" ({ cls := "java/lang/Object", name := "getClass", desc := "()Ljava/lang/Class;" } : MethodName) ({ cls := "java/lang/Object", name := "getClass", desc := "()Ljava/lang/Class;" } : MethodName)) ∈ TT := tt_mem (tb2 (List.mem_of_getElem? (i := 59) rfl)) rfl
theorem w300 : (Cond.selects "java/lang/IndexOutOfBoundsException" ({ cls := "java/lang/Object", name := "getClass", desc := "()Ljava/lang/Class;" } : MethodName) ({ cls := "java/lang/Object", name := "getClass", desc := "()Ljava/lang/Class;" } : MethodName)) ∈ TT := tt_mem (tb2 (List.mem_of_getElem? (i := 60) rfl)) rfl
theorem w301 : (Cond.selects "java/util/ArrayList" ({ cls := "java/lang/Object", name := "getClass", desc := "()Ljava/lang/Class;" } : MethodName) ({ cls := "java/lang/Object", name := "getClass", desc := "()Ljava/lang/Class;" } : MethodName)) ∈ TT := tt_mem (tb2 (List.mem_of_getElem? (i := 61) rfl)) rfl
theorem u302 : (Cond.native ({ cls := "java/lang/Object", name := "getClass", desc := "()Ljava/lang/Class;" } : MethodName)) ∈ lw_tbl := tb2 (List.mem_of_getElem? (i := 62) rfl)
theorem w303 : (Cond.methodLink "java/util/Arrays" (300 : Nat) ({ cls := "java/util/Arrays", name := "copyOf", desc := "([Ljava/lang/Object;ILjava/lang/Class;)[Ljava/lang/Object;" } : MethodName)) ∈ TT := tt_mem (tb2 (List.mem_of_getElem? (i := 63) rfl)) rfl
theorem w304 : (Cond.static ({ cls := "java/util/Arrays", name := "copyOf", desc := "([Ljava/lang/Object;ILjava/lang/Class;)[Ljava/lang/Object;" } : MethodName)) ∈ TT := tt_mem (tb2 (List.mem_of_getElem? (i := 64) rfl)) rfl
theorem w305 : (Cond.code ({ cls := "java/util/Arrays", name := "copyOf", desc := "([Ljava/lang/Object;ILjava/lang/Class;)[Ljava/lang/Object;" } : MethodName) prog_24_method_120_code (4 : Nat) (Option.some (FieldType.array (FieldType.object "java/lang/Object")))) ∈ TT := tt_mem (tb2 (List.mem_of_getElem? (i := 65) rfl)) rfl
theorem w306 : (Cond.classLink "java/util/Arrays" (110 : Nat) "[Ljava/lang/Object;") ∈ TT := tt_mem (tb2 (List.mem_of_getElem? (i := 66) rfl)) rfl
theorem u307 : (Cond.arrayOver (FieldType.object "java/lang/Object")) ∈ lw_tbl := tb2 (List.mem_of_getElem? (i := 67) rfl)
theorem w308 : (Cond.classLink "java/util/Arrays" (2 : Nat) "java/lang/Object") ∈ TT := tt_mem (tb2 (List.mem_of_getElem? (i := 68) rfl)) rfl
theorem w309 : (Cond.methodLink "java/util/Arrays" (304 : Nat) ({ cls := "java/lang/Math", name := "min", desc := "(II)I" } : MethodName)) ∈ TT := tt_mem (tb2 (List.mem_of_getElem? (i := 69) rfl)) rfl
theorem w310 : (Cond.static ({ cls := "java/lang/Math", name := "min", desc := "(II)I" } : MethodName)) ∈ TT := tt_mem (tb2 (List.mem_of_getElem? (i := 70) rfl)) rfl
theorem w311 : (Cond.code ({ cls := "java/lang/Math", name := "min", desc := "(II)I" } : MethodName) prog_16_method_69_code (2 : Nat) (Option.some FieldType.int)) ∈ TT := tt_mem (tb2 (List.mem_of_getElem? (i := 71) rfl)) rfl
theorem w312 : (Cond.methodLink "java/util/Arrays" (150 : Nat) ({ cls := "java/lang/System", name := "arraycopy", desc := "(Ljava/lang/Object;ILjava/lang/Object;II)V" } : MethodName)) ∈ TT := tt_mem (tb2 (List.mem_of_getElem? (i := 72) rfl)) rfl
theorem w313 : (Cond.static ({ cls := "java/lang/System", name := "arraycopy", desc := "(Ljava/lang/Object;ILjava/lang/Object;II)V" } : MethodName)) ∈ TT := tt_mem (tb2 (List.mem_of_getElem? (i := 73) rfl)) rfl
theorem u314 : (Cond.native ({ cls := "java/lang/System", name := "arraycopy", desc := "(Ljava/lang/Object;ILjava/lang/Object;II)V" } : MethodName)) ∈ lw_tbl := tb2 (List.mem_of_getElem? (i := 74) rfl)
theorem w315 : (Cond.methodLink "java/util/ArrayList" (79 : Nat) ({ cls := "java/lang/Math", name := "max", desc := "(II)I" } : MethodName)) ∈ TT := tt_mem (tb2 (List.mem_of_getElem? (i := 75) rfl)) rfl
theorem w316 : (Cond.classLink "java/util/ArrayList" (7 : Nat) "java/lang/Object") ∈ TT := tt_mem (tb2 (List.mem_of_getElem? (i := 76) rfl)) rfl
theorem w317 : (Cond.methodLink "LockHouseLaw" (92 : Nat) ({ cls := "LockHouseLaw", name := "revoke", desc := "(LLockHouse;I[J)I" } : MethodName)) ∈ TT := tt_mem (tb2 (List.mem_of_getElem? (i := 77) rfl)) rfl
theorem w318 : (Cond.static ({ cls := "LockHouseLaw", name := "revoke", desc := "(LLockHouse;I[J)I" } : MethodName)) ∈ TT := tt_mem (tb2 (List.mem_of_getElem? (i := 78) rfl)) rfl
theorem w319 : (Cond.codeWith ({ cls := "LockHouseLaw", name := "revoke", desc := "(LLockHouse;I[J)I" } : MethodName) method_4_code (4 : Nat) (Option.some FieldType.int) [((0 : Nat), (9 : Nat), (12 : Nat), (19 : Nat)), ((0 : Nat), (9 : Nat), (15 : Nat), (13 : Nat))]) ∈ TT := tt_mem (tb2 (List.mem_of_getElem? (i := 79) rfl)) rfl
theorem w320 : (Cond.classLink "LockHouseLaw" (19 : Nat) "java/lang/IndexOutOfBoundsException") ∈ TT := tt_mem (tb2 (List.mem_of_getElem? (i := 80) rfl)) rfl
theorem w321 : (Cond.methodLink "LockHouseLaw" (15 : Nat) ({ cls := "LockHouse", name := "revoke", desc := "(I)I" } : MethodName)) ∈ TT := tt_mem (tb2 (List.mem_of_getElem? (i := 81) rfl)) rfl
theorem w322 : (Cond.instanceMethod ({ cls := "LockHouse", name := "revoke", desc := "(I)I" } : MethodName)) ∈ TT := tt_mem (tb2 (List.mem_of_getElem? (i := 82) rfl)) rfl
theorem w323 : (Cond.selects "LockHouse" ({ cls := "LockHouse", name := "revoke", desc := "(I)I" } : MethodName) ({ cls := "LockHouse", name := "revoke", desc := "(I)I" } : MethodName)) ∈ TT := tt_mem (tb2 (List.mem_of_getElem? (i := 83) rfl)) rfl
theorem w324 : (Cond.code ({ cls := "LockHouse", name := "revoke", desc := "(I)I" } : MethodName) prog_1_method_4_code (3 : Nat) (Option.some FieldType.int)) ∈ TT := tt_mem (tb2 (List.mem_of_getElem? (i := 84) rfl)) rfl
theorem w325 : (Cond.methodLink "LockHouse" (68 : Nat) ({ cls := "LockHouse", name := "cardAt", desc := "(I)LLockHouse$Card;" } : MethodName)) ∈ TT := tt_mem (tb2 (List.mem_of_getElem? (i := 85) rfl)) rfl
theorem u326 : (Cond.privateMethod ({ cls := "LockHouse", name := "cardAt", desc := "(I)LLockHouse$Card;" } : MethodName)) ∈ lw_tbl := tb2 (List.mem_of_getElem? (i := 86) rfl)
theorem w327 : (Cond.instanceMethod ({ cls := "LockHouse", name := "cardAt", desc := "(I)LLockHouse$Card;" } : MethodName)) ∈ TT := tt_mem (tb2 (List.mem_of_getElem? (i := 87) rfl)) rfl
theorem w328 : (Cond.code ({ cls := "LockHouse", name := "cardAt", desc := "(I)LLockHouse$Card;" } : MethodName) prog_1_method_23_code (2 : Nat) (Option.some (FieldType.object "LockHouse$Card"))) ∈ TT := tt_mem (tb2 (List.mem_of_getElem? (i := 88) rfl)) rfl
theorem w329 : (Cond.methodLink "LockHouse" (192 : Nat) ({ cls := "LockHouse", name := "isCard", desc := "(I)Z" } : MethodName)) ∈ TT := tt_mem (tb2 (List.mem_of_getElem? (i := 89) rfl)) rfl
theorem u330 : (Cond.privateMethod ({ cls := "LockHouse", name := "isCard", desc := "(I)Z" } : MethodName)) ∈ lw_tbl := tb2 (List.mem_of_getElem? (i := 90) rfl)
theorem w331 : (Cond.instanceMethod ({ cls := "LockHouse", name := "isCard", desc := "(I)Z" } : MethodName)) ∈ TT := tt_mem (tb2 (List.mem_of_getElem? (i := 91) rfl)) rfl
theorem w332 : (Cond.code ({ cls := "LockHouse", name := "isCard", desc := "(I)Z" } : MethodName) prog_1_method_21_code (2 : Nat) (Option.some FieldType.boolean)) ∈ TT := tt_mem (tb2 (List.mem_of_getElem? (i := 92) rfl)) rfl
theorem w333 : (Cond.classLink "LockHouse" (127 : Nat) "java/lang/IndexOutOfBoundsException") ∈ TT := tt_mem (tb2 (List.mem_of_getElem? (i := 93) rfl)) rfl
theorem w334 : (Cond.instantiable "java/lang/IndexOutOfBoundsException" (6 : Nat)) ∈ TT := tt_mem (tb2 (List.mem_of_getElem? (i := 94) rfl)) rfl
theorem u335 : (Cond.castable "java/lang/IndexOutOfBoundsException" "java/lang/IndexOutOfBoundsException") ∈ lw_tbl := tb2 (List.mem_of_getElem? (i := 95) rfl)
theorem w336 : (Cond.selects "java/lang/IndexOutOfBoundsException" ({ cls := "java/lang/Throwable", name := "fillInStackTrace", desc := "(I)Ljava/lang/Throwable;" } : MethodName) ({ cls := "java/lang/Throwable", name := "fillInStackTrace", desc := "(I)Ljava/lang/Throwable;" } : MethodName)) ∈ TT := tt_mem (tb2 (List.mem_of_getElem? (i := 96) rfl)) rfl
theorem w337 : (Cond.lays "java/lang/IndexOutOfBoundsException" "java/lang/Throwable" "cause" "Ljava/lang/Throwable;") ∈ TT := tt_mem (tb2 (List.mem_of_getElem? (i := 97) rfl)) rfl
theorem w338 : (Cond.lays "java/lang/IndexOutOfBoundsException" "java/lang/Throwable" "stackTrace" "[Ljava/lang/StackTraceElement;") ∈ TT := tt_mem (tb2 (List.mem_of_getElem? (i := 98) rfl)) rfl
theorem w339 : (Cond.lays "java/lang/IndexOutOfBoundsException" "java/lang/Throwable" "suppressedExceptions" "Ljava/util/List;") ∈ TT := tt_mem (tb2 (List.mem_of_getElem? (i := 99) rfl)) rfl
theorem w340 : (Cond.lays "java/lang/IndexOutOfBoundsException" "java/lang/Throwable" "detailMessage" "Ljava/lang/String;") ∈ TT := tt_mem (tb2 (List.mem_of_getElem? (i := 100) rfl)) rfl
theorem w341 : (Cond.lays "java/lang/IndexOutOfBoundsException" "java/lang/Throwable" "backtrace" "Ljava/lang/Object;") ∈ TT := tt_mem (tb2 (List.mem_of_getElem? (i := 101) rfl)) rfl
theorem u342 : (Cond.stringRef "LockHouse" (207 : Nat) "no such card") ∈ lw_tbl := tb2 (List.mem_of_getElem? (i := 102) rfl)
theorem w343 : (Cond.methodLink "LockHouse" (131 : Nat) ({ cls := "java/lang/IndexOutOfBoundsException", name := "<init>", desc := "(Ljava/lang/String;)V" } : MethodName)) ∈ TT := tt_mem (tb2 (List.mem_of_getElem? (i := 103) rfl)) rfl
theorem w344 : (Cond.instanceMethod ({ cls := "java/lang/IndexOutOfBoundsException", name := "<init>", desc := "(Ljava/lang/String;)V" } : MethodName)) ∈ TT := tt_mem (tb2 (List.mem_of_getElem? (i := 104) rfl)) rfl
theorem w345 : (Cond.code ({ cls := "java/lang/IndexOutOfBoundsException", name := "<init>", desc := "(Ljava/lang/String;)V" } : MethodName) prog_14_method_2_code (2 : Nat) (Option.none : Option FieldType)) ∈ TT := tt_mem (tb2 (List.mem_of_getElem? (i := 105) rfl)) rfl
theorem w346 : (Cond.methodLink "java/lang/IndexOutOfBoundsException" (7 : Nat) ({ cls := "java/lang/RuntimeException", name := "<init>", desc := "(Ljava/lang/String;)V" } : MethodName)) ∈ TT := tt_mem (tb2 (List.mem_of_getElem? (i := 106) rfl)) rfl
theorem w347 : (Cond.lays "java/lang/IndexOutOfBoundsException" "java/lang/Throwable" "depth" "I") ∈ TT := tt_mem (tb2 (List.mem_of_getElem? (i := 107) rfl)) rfl
theorem w348 : (Cond.superclass "java/lang/IndexOutOfBoundsException" "java/lang/RuntimeException") ∈ TT := tt_mem (tb2 (List.mem_of_getElem? (i := 108) rfl)) rfl
theorem w349 : (Cond.methodLink "LockHouse" (203 : Nat) ({ cls := "java/util/ArrayList", name := "get", desc := "(I)Ljava/lang/Object;" } : MethodName)) ∈ TT := tt_mem (tb2 (List.mem_of_getElem? (i := 109) rfl)) rfl
theorem w350 : (Cond.instanceMethod ({ cls := "java/util/ArrayList", name := "get", desc := "(I)Ljava/lang/Object;" } : MethodName)) ∈ TT := tt_mem (tb2 (List.mem_of_getElem? (i := 110) rfl)) rfl
theorem w351 : (Cond.selects "java/util/ArrayList" ({ cls := "java/util/ArrayList", name := "get", desc := "(I)Ljava/lang/Object;" } : MethodName) ({ cls := "java/util/ArrayList", name := "get", desc := "(I)Ljava/lang/Object;" } : MethodName)) ∈ TT := tt_mem (tb2 (List.mem_of_getElem? (i := 111) rfl)) rfl
theorem w352 : (Cond.code ({ cls := "java/util/ArrayList", name := "get", desc := "(I)Ljava/lang/Object;" } : MethodName) prog_23_method_20_code (2 : Nat) (Option.some (FieldType.object "java/lang/Object"))) ∈ TT := tt_mem (tb2 (List.mem_of_getElem? (i := 112) rfl)) rfl
theorem w353 : (Cond.methodLink "java/util/ArrayList" (118 : Nat) ({ cls := "java/util/Objects", name := "checkIndex", desc := "(II)I" } : MethodName)) ∈ TT := tt_mem (tb2 (List.mem_of_getElem? (i := 113) rfl)) rfl
theorem w354 : (Cond.static ({ cls := "java/util/Objects", name := "checkIndex", desc := "(II)I" } : MethodName)) ∈ TT := tt_mem (tb2 (List.mem_of_getElem? (i := 114) rfl)) rfl
theorem w355 : (Cond.code ({ cls := "java/util/Objects", name := "checkIndex", desc := "(II)I" } : MethodName) prog_27_method_17_code (2 : Nat) (Option.some FieldType.int)) ∈ TT := tt_mem (tb2 (List.mem_of_getElem? (i := 115) rfl)) rfl
theorem w356 : (Cond.methodLink "java/util/Objects" (105 : Nat) ({ cls := "jdk/internal/util/Preconditions", name := "checkIndex", desc := "(IILjava/util/function/BiFunction;)I" } : MethodName)) ∈ TT := tt_mem (tb2 (List.mem_of_getElem? (i := 116) rfl)) rfl
theorem w357 : (Cond.static ({ cls := "jdk/internal/util/Preconditions", name := "checkIndex", desc := "(IILjava/util/function/BiFunction;)I" } : MethodName)) ∈ TT := tt_mem (tb2 (List.mem_of_getElem? (i := 117) rfl)) rfl
theorem w358 : (Cond.code ({ cls := "jdk/internal/util/Preconditions", name := "checkIndex", desc := "(IILjava/util/function/BiFunction;)I" } : MethodName) prog_31_method_11_code (3 : Nat) (Option.some FieldType.int)) ∈ TT := tt_mem (tb2 (List.mem_of_getElem? (i := 118) rfl)) rfl
theorem w359 : (Cond.methodLink "java/util/ArrayList" (123 : Nat) ({ cls := "java/util/ArrayList", name := "elementData", desc := "(I)Ljava/lang/Object;" } : MethodName)) ∈ TT := tt_mem (tb2 (List.mem_of_getElem? (i := 119) rfl)) rfl
theorem w360 : (Cond.instanceMethod ({ cls := "java/util/ArrayList", name := "elementData", desc := "(I)Ljava/lang/Object;" } : MethodName)) ∈ TT := tt_mem (tb2 (List.mem_of_getElem? (i := 120) rfl)) rfl
theorem w361 : (Cond.selects "java/util/ArrayList" ({ cls := "java/util/ArrayList", name := "elementData", desc := "(I)Ljava/lang/Object;" } : MethodName) ({ cls := "java/util/ArrayList", name := "elementData", desc := "(I)Ljava/lang/Object;" } : MethodName)) ∈ TT := tt_mem (tb2 (List.mem_of_getElem? (i := 121) rfl)) rfl
theorem w362 : (Cond.code ({ cls := "java/util/ArrayList", name := "elementData", desc := "(I)Ljava/lang/Object;" } : MethodName) prog_23_method_18_code (2 : Nat) (Option.some (FieldType.object "java/lang/Object"))) ∈ TT := tt_mem (tb2 (List.mem_of_getElem? (i := 122) rfl)) rfl
theorem u363 : (Cond.stringRef "LockHouse" (79 : Nat) "no more entries can be made") ∈ lw_tbl := tb2 (List.mem_of_getElem? (i := 123) rfl)
theorem w364 : (Cond.methodLink "LockHouse" (81 : Nat) ({ cls := "LockHouse$EntryList", name := "append", desc := "(I)I" } : MethodName)) ∈ TT := tt_mem (tb2 (List.mem_of_getElem? (i := 124) rfl)) rfl
theorem w365 : (Cond.instanceMethod ({ cls := "LockHouse$EntryList", name := "append", desc := "(I)I" } : MethodName)) ∈ TT := tt_mem (tb2 (List.mem_of_getElem? (i := 125) rfl)) rfl
theorem w366 : (Cond.selects "LockHouse$EntryList" ({ cls := "LockHouse$EntryList", name := "append", desc := "(I)I" } : MethodName) ({ cls := "LockHouse$EntryList", name := "append", desc := "(I)I" } : MethodName)) ∈ TT := tt_mem (tb2 (List.mem_of_getElem? (i := 126) rfl)) rfl
theorem w367 : (Cond.code ({ cls := "LockHouse$EntryList", name := "append", desc := "(I)I" } : MethodName) prog_5_method_3_code (2 : Nat) (Option.some FieldType.int)) ∈ TT := tt_mem (tb2 (List.mem_of_getElem? (i := 127) rfl)) rfl
theorem w368 : (Cond.classLink "LockHouse$EntryList" (22 : Nat) "LockHouse$Entry") ∈ TT := tt_mem (tb2 (List.mem_of_getElem? (i := 128) rfl)) rfl
theorem w369 : (Cond.instantiable "LockHouse$Entry" (2 : Nat)) ∈ TT := tt_mem (tb2 (List.mem_of_getElem? (i := 129) rfl)) rfl
theorem w370 : (Cond.methodLink "LockHouse$EntryList" (24 : Nat) ({ cls := "LockHouse$Entry", name := "<init>", desc := "(I)V" } : MethodName)) ∈ TT := tt_mem (tb2 (List.mem_of_getElem? (i := 130) rfl)) rfl
theorem w371 : (Cond.instanceMethod ({ cls := "LockHouse$Entry", name := "<init>", desc := "(I)V" } : MethodName)) ∈ TT := tt_mem (tb2 (List.mem_of_getElem? (i := 131) rfl)) rfl
theorem w372 : (Cond.code ({ cls := "LockHouse$Entry", name := "<init>", desc := "(I)V" } : MethodName) prog_4_method_1_code (2 : Nat) (Option.none : Option FieldType)) ∈ TT := tt_mem (tb2 (List.mem_of_getElem? (i := 132) rfl)) rfl
theorem w373 : (Cond.methodLink "LockHouse$Entry" (3 : Nat) ({ cls := "java/lang/Object", name := "<init>", desc := "()V" } : MethodName)) ∈ TT := tt_mem (tb2 (List.mem_of_getElem? (i := 133) rfl)) rfl
theorem w374 : (Cond.fieldLink "LockHouse$Entry" (15 : Nat) "LockHouse$Entry" "card" "I") ∈ TT := tt_mem (tb2 (List.mem_of_getElem? (i := 134) rfl)) rfl
theorem u375 : (Cond.fieldLinkNest "LockHouse$EntryList" (39 : Nat) "LockHouse$Entry" "card" "I" "LockHouse") ∈ lw_tbl := tb2 (List.mem_of_getElem? (i := 135) rfl)
theorem w376 : (Cond.fieldLink "LockHouse$Entry" (9 : Nat) "LockHouse$Entry" "atDoor" "[Z") ∈ TT := tt_mem (tb2 (List.mem_of_getElem? (i := 136) rfl)) rfl
theorem w377 : (Cond.laysFinal "LockHouse$Entry" "LockHouse$Entry" "card" "I") ∈ TT := tt_mem (tb2 (List.mem_of_getElem? (i := 137) rfl)) rfl
theorem w378 : (Cond.soleField "LockHouse$Entry" "card") ∈ TT := tt_mem (tb2 (List.mem_of_getElem? (i := 138) rfl)) rfl
theorem w379 : (Cond.laysFinal "LockHouse$Entry" "LockHouse$Entry" "atDoor" "[Z") ∈ TT := tt_mem (tb2 (List.mem_of_getElem? (i := 139) rfl)) rfl
theorem w380 : (Cond.soleField "LockHouse$Entry" "atDoor") ∈ TT := tt_mem (tb2 (List.mem_of_getElem? (i := 140) rfl)) rfl
theorem w381 : (Cond.superclass "LockHouse$Entry" "java/lang/Object") ∈ TT := tt_mem (tb2 (List.mem_of_getElem? (i := 141) rfl)) rfl
theorem w382 : (Cond.arrayClass FieldType.boolean) ∈ TT := tt_mem (tb2 (List.mem_of_getElem? (i := 142) rfl)) rfl
theorem w383 : (Cond.methodLink "LockHouse$EntryList" (27 : Nat) ({ cls := "java/util/ArrayList", name := "add", desc := "(Ljava/lang/Object;)Z" } : MethodName)) ∈ TT := tt_mem (tb2 (List.mem_of_getElem? (i := 143) rfl)) rfl
theorem w384 : (Cond.methodLink "LockHouseLaw" (100 : Nat) ({ cls := "LockHouseLaw", name := "gate", desc := "(LLockHouse;I)I" } : MethodName)) ∈ TT := tt_mem (tb2 (List.mem_of_getElem? (i := 144) rfl)) rfl
theorem w385 : (Cond.static ({ cls := "LockHouseLaw", name := "gate", desc := "(LLockHouse;I)I" } : MethodName)) ∈ TT := tt_mem (tb2 (List.mem_of_getElem? (i := 145) rfl)) rfl
theorem w386 : (Cond.codeWith ({ cls := "LockHouseLaw", name := "gate", desc := "(LLockHouse;I)I" } : MethodName) method_5_code (3 : Nat) (Option.some FieldType.int) [((0 : Nat), (5 : Nat), (8 : Nat), (19 : Nat))]) ∈ TT := tt_mem (tb2 (List.mem_of_getElem? (i := 146) rfl)) rfl
theorem w387 : (Cond.methodLink "LockHouseLaw" (21 : Nat) ({ cls := "LockHouse", name := "gate", desc := "(I)V" } : MethodName)) ∈ TT := tt_mem (tb2 (List.mem_of_getElem? (i := 147) rfl)) rfl
theorem w388 : (Cond.instanceMethod ({ cls := "LockHouse", name := "gate", desc := "(I)V" } : MethodName)) ∈ TT := tt_mem (tb2 (List.mem_of_getElem? (i := 148) rfl)) rfl
theorem w389 : (Cond.selects "LockHouse" ({ cls := "LockHouse", name := "gate", desc := "(I)V" } : MethodName) ({ cls := "LockHouse", name := "gate", desc := "(I)V" } : MethodName)) ∈ TT := tt_mem (tb2 (List.mem_of_getElem? (i := 149) rfl)) rfl
theorem w390 : (Cond.code ({ cls := "LockHouse", name := "gate", desc := "(I)V" } : MethodName) prog_1_method_6_code (6 : Nat) (Option.none : Option FieldType)) ∈ TT := tt_mem (tb2 (List.mem_of_getElem? (i := 150) rfl)) rfl
theorem w391 : (Cond.methodLink "LockHouse" (85 : Nat) ({ cls := "java/lang/Math", name := "min", desc := "(II)I" } : MethodName)) ∈ TT := tt_mem (tb2 (List.mem_of_getElem? (i := 151) rfl)) rfl
theorem w392 : (Cond.methodLink "LockHouse" (91 : Nat) ({ cls := "LockHouse$Card", name := "store", desc := "(IIILLockHouse$EntryList;)V" } : MethodName)) ∈ TT := tt_mem (tb2 (List.mem_of_getElem? (i := 152) rfl)) rfl
theorem w393 : (Cond.instanceMethod ({ cls := "LockHouse$Card", name := "store", desc := "(IIILLockHouse$EntryList;)V" } : MethodName)) ∈ TT := tt_mem (tb2 (List.mem_of_getElem? (i := 153) rfl)) rfl
theorem w394 : (Cond.selects "LockHouse$Card" ({ cls := "LockHouse$Card", name := "store", desc := "(IIILLockHouse$EntryList;)V" } : MethodName) ({ cls := "LockHouse$Card", name := "store", desc := "(IIILLockHouse$EntryList;)V" } : MethodName)) ∈ TT := tt_mem (tb2 (List.mem_of_getElem? (i := 154) rfl)) rfl
theorem w395 : (Cond.code ({ cls := "LockHouse$Card", name := "store", desc := "(IIILLockHouse$EntryList;)V" } : MethodName) prog_2_method_5_code (10 : Nat) (Option.none : Option FieldType)) ∈ TT := tt_mem (tb2 (List.mem_of_getElem? (i := 155) rfl)) rfl
theorem w396 : (Cond.methodLink "LockHouse$Card" (46 : Nat) ({ cls := "LockHouse$Card", name := "currentIndex", desc := "()I" } : MethodName)) ∈ TT := tt_mem (tb2 (List.mem_of_getElem? (i := 156) rfl)) rfl
theorem w397 : (Cond.instanceMethod ({ cls := "LockHouse$Card", name := "currentIndex", desc := "()I" } : MethodName)) ∈ TT := tt_mem (tb2 (List.mem_of_getElem? (i := 157) rfl)) rfl
theorem w398 : (Cond.selects "LockHouse$Card" ({ cls := "LockHouse$Card", name := "currentIndex", desc := "()I" } : MethodName) ({ cls := "LockHouse$Card", name := "currentIndex", desc := "()I" } : MethodName)) ∈ TT := tt_mem (tb2 (List.mem_of_getElem? (i := 158) rfl)) rfl
theorem w399 : (Cond.code ({ cls := "LockHouse$Card", name := "currentIndex", desc := "()I" } : MethodName) prog_2_method_3_code (2 : Nat) (Option.some FieldType.int)) ∈ TT := tt_mem (tb2 (List.mem_of_getElem? (i := 159) rfl)) rfl
theorem w400 : (Cond.methodLink "LockHouse$Card" (38 : Nat) ({ cls := "LockHouse$Image", name := "isWhole", desc := "()Z" } : MethodName)) ∈ TT := tt_mem (tb2 (List.mem_of_getElem? (i := 160) rfl)) rfl
theorem w401 : (Cond.instanceMethod ({ cls := "LockHouse$Image", name := "isWhole", desc := "()Z" } : MethodName)) ∈ TT := tt_mem (tb2 (List.mem_of_getElem? (i := 161) rfl)) rfl
theorem w402 : (Cond.selects "LockHouse$Image" ({ cls := "LockHouse$Image", name := "isWhole", desc := "()Z" } : MethodName) ({ cls := "LockHouse$Image", name := "isWhole", desc := "()Z" } : MethodName)) ∈ TT := tt_mem (tb2 (List.mem_of_getElem? (i := 162) rfl)) rfl
theorem w403 : (Cond.code ({ cls := "LockHouse$Image", name := "isWhole", desc := "()Z" } : MethodName) prog_6_method_4_code (1 : Nat) (Option.some FieldType.boolean)) ∈ TT := tt_mem (tb2 (List.mem_of_getElem? (i := 163) rfl)) rfl
theorem w404 : (Cond.methodLink "LockHouse$Image" (13 : Nat) ({ cls := "LockHouse$Image", name := "at", desc := "(I)I" } : MethodName)) ∈ TT := tt_mem (tb2 (List.mem_of_getElem? (i := 164) rfl)) rfl
theorem w405 : (Cond.instanceMethod ({ cls := "LockHouse$Image", name := "at", desc := "(I)I" } : MethodName)) ∈ TT := tt_mem (tb2 (List.mem_of_getElem? (i := 165) rfl)) rfl
theorem w406 : (Cond.selects "LockHouse$Image" ({ cls := "LockHouse$Image", name := "at", desc := "(I)I" } : MethodName) ({ cls := "LockHouse$Image", name := "at", desc := "(I)I" } : MethodName)) ∈ TT := tt_mem (tb2 (List.mem_of_getElem? (i := 166) rfl)) rfl
theorem w407 : (Cond.code ({ cls := "LockHouse$Image", name := "at", desc := "(I)I" } : MethodName) prog_6_method_2_code (2 : Nat) (Option.some FieldType.int)) ∈ TT := tt_mem (tb2 (List.mem_of_getElem? (i := 167) rfl)) rfl
theorem w408 : (Cond.methodLink "LockHouse$Card" (42 : Nat) ({ cls := "LockHouse$Image", name := "sequence", desc := "()I" } : MethodName)) ∈ TT := tt_mem (tb2 (List.mem_of_getElem? (i := 168) rfl)) rfl
theorem w409 : (Cond.instanceMethod ({ cls := "LockHouse$Image", name := "sequence", desc := "()I" } : MethodName)) ∈ TT := tt_mem (tb2 (List.mem_of_getElem? (i := 169) rfl)) rfl
theorem w410 : (Cond.selects "LockHouse$Image" ({ cls := "LockHouse$Image", name := "sequence", desc := "()I" } : MethodName) ({ cls := "LockHouse$Image", name := "sequence", desc := "()I" } : MethodName)) ∈ TT := tt_mem (tb2 (List.mem_of_getElem? (i := 170) rfl)) rfl
theorem w411 : (Cond.code ({ cls := "LockHouse$Image", name := "sequence", desc := "()I" } : MethodName) prog_6_method_5_code (1 : Nat) (Option.some FieldType.int)) ∈ TT := tt_mem (tb2 (List.mem_of_getElem? (i := 171) rfl)) rfl
theorem w412 : (Cond.methodLink "LockHouse$Card" (49 : Nat) ({ cls := "LockHouse$Card", name := "image", desc := "(I)LLockHouse$Image;" } : MethodName)) ∈ TT := tt_mem (tb2 (List.mem_of_getElem? (i := 172) rfl)) rfl
theorem w413 : (Cond.instanceMethod ({ cls := "LockHouse$Card", name := "image", desc := "(I)LLockHouse$Image;" } : MethodName)) ∈ TT := tt_mem (tb2 (List.mem_of_getElem? (i := 173) rfl)) rfl
theorem w414 : (Cond.selects "LockHouse$Card" ({ cls := "LockHouse$Card", name := "image", desc := "(I)LLockHouse$Image;" } : MethodName) ({ cls := "LockHouse$Card", name := "image", desc := "(I)LLockHouse$Image;" } : MethodName)) ∈ TT := tt_mem (tb2 (List.mem_of_getElem? (i := 174) rfl)) rfl
theorem w415 : (Cond.code ({ cls := "LockHouse$Card", name := "image", desc := "(I)LLockHouse$Image;" } : MethodName) prog_2_method_2_code (2 : Nat) (Option.some (FieldType.object "LockHouse$Image"))) ∈ TT := tt_mem (tb2 (List.mem_of_getElem? (i := 175) rfl)) rfl
theorem w416 : (Cond.methodLink "LockHouse$Card" (53 : Nat) ({ cls := "LockHouse$Image", name := "tells", desc := "(III)Z" } : MethodName)) ∈ TT := tt_mem (tb2 (List.mem_of_getElem? (i := 176) rfl)) rfl
theorem w417 : (Cond.instanceMethod ({ cls := "LockHouse$Image", name := "tells", desc := "(III)Z" } : MethodName)) ∈ TT := tt_mem (tb2 (List.mem_of_getElem? (i := 177) rfl)) rfl
theorem w418 : (Cond.selects "LockHouse$Image" ({ cls := "LockHouse$Image", name := "tells", desc := "(III)Z" } : MethodName) ({ cls := "LockHouse$Image", name := "tells", desc := "(III)Z" } : MethodName)) ∈ TT := tt_mem (tb2 (List.mem_of_getElem? (i := 178) rfl)) rfl
theorem w419 : (Cond.code ({ cls := "LockHouse$Image", name := "tells", desc := "(III)Z" } : MethodName) prog_6_method_7_code (4 : Nat) (Option.some FieldType.boolean)) ∈ TT := tt_mem (tb2 (List.mem_of_getElem? (i := 179) rfl)) rfl
theorem w420 : (Cond.methodLink "LockHouse$Image" (17 : Nat) ({ cls := "LockHouse$Image", name := "count", desc := "()I" } : MethodName)) ∈ TT := tt_mem (tb2 (List.mem_of_getElem? (i := 180) rfl)) rfl
theorem w421 : (Cond.instanceMethod ({ cls := "LockHouse$Image", name := "count", desc := "()I" } : MethodName)) ∈ TT := tt_mem (tb2 (List.mem_of_getElem? (i := 181) rfl)) rfl
theorem w422 : (Cond.selects "LockHouse$Image" ({ cls := "LockHouse$Image", name := "count", desc := "()I" } : MethodName) ({ cls := "LockHouse$Image", name := "count", desc := "()I" } : MethodName)) ∈ TT := tt_mem (tb2 (List.mem_of_getElem? (i := 182) rfl)) rfl
theorem w423 : (Cond.code ({ cls := "LockHouse$Image", name := "count", desc := "()I" } : MethodName) prog_6_method_6_code (1 : Nat) (Option.some FieldType.int)) ∈ TT := tt_mem (tb2 (List.mem_of_getElem? (i := 183) rfl)) rfl
theorem w424 : (Cond.methodLink "LockHouse$Card" (57 : Nat) ({ cls := "LockHouse$Card", name := "putNext", desc := "(LLockHouse$Image;II)V" } : MethodName)) ∈ TT := tt_mem (tb2 (List.mem_of_getElem? (i := 184) rfl)) rfl
theorem u425 : (Cond.privateMethod ({ cls := "LockHouse$Card", name := "putNext", desc := "(LLockHouse$Image;II)V" } : MethodName)) ∈ lw_tbl := tb2 (List.mem_of_getElem? (i := 185) rfl)
theorem w426 : (Cond.instanceMethod ({ cls := "LockHouse$Card", name := "putNext", desc := "(LLockHouse$Image;II)V" } : MethodName)) ∈ TT := tt_mem (tb2 (List.mem_of_getElem? (i := 186) rfl)) rfl
theorem w427 : (Cond.code ({ cls := "LockHouse$Card", name := "putNext", desc := "(LLockHouse$Image;II)V" } : MethodName) prog_2_method_6_code (4 : Nat) (Option.none : Option FieldType)) ∈ TT := tt_mem (tb2 (List.mem_of_getElem? (i := 187) rfl)) rfl
theorem w428 : (Cond.methodLink "LockHouse$Card" (67 : Nat) ({ cls := "LockHouse$Image", name := "put", desc := "(II)V" } : MethodName)) ∈ TT := tt_mem (tb2 (List.mem_of_getElem? (i := 188) rfl)) rfl
theorem w429 : (Cond.instanceMethod ({ cls := "LockHouse$Image", name := "put", desc := "(II)V" } : MethodName)) ∈ TT := tt_mem (tb2 (List.mem_of_getElem? (i := 189) rfl)) rfl
theorem w430 : (Cond.selects "LockHouse$Image" ({ cls := "LockHouse$Image", name := "put", desc := "(II)V" } : MethodName) ({ cls := "LockHouse$Image", name := "put", desc := "(II)V" } : MethodName)) ∈ TT := tt_mem (tb2 (List.mem_of_getElem? (i := 190) rfl)) rfl
theorem w431 : (Cond.code ({ cls := "LockHouse$Image", name := "put", desc := "(II)V" } : MethodName) prog_6_method_3_code (3 : Nat) (Option.none : Option FieldType)) ∈ TT := tt_mem (tb2 (List.mem_of_getElem? (i := 191) rfl)) rfl
theorem w432 : (Cond.methodLink "LockHouse$Card" (61 : Nat) ({ cls := "LockHouse$EntryList", name := "cardOf", desc := "(I)I" } : MethodName)) ∈ TT := tt_mem (tb2 (List.mem_of_getElem? (i := 192) rfl)) rfl
theorem w433 : (Cond.instanceMethod ({ cls := "LockHouse$EntryList", name := "cardOf", desc := "(I)I" } : MethodName)) ∈ TT := tt_mem (tb2 (List.mem_of_getElem? (i := 193) rfl)) rfl
theorem w434 : (Cond.selects "LockHouse$EntryList" ({ cls := "LockHouse$EntryList", name := "cardOf", desc := "(I)I" } : MethodName) ({ cls := "LockHouse$EntryList", name := "cardOf", desc := "(I)I" } : MethodName)) ∈ TT := tt_mem (tb2 (List.mem_of_getElem? (i := 194) rfl)) rfl
theorem w435 : (Cond.code ({ cls := "LockHouse$EntryList", name := "cardOf", desc := "(I)I" } : MethodName) prog_5_method_5_code (2 : Nat) (Option.some FieldType.int)) ∈ TT := tt_mem (tb2 (List.mem_of_getElem? (i := 195) rfl)) rfl
theorem w436 : (Cond.methodLink "LockHouse$EntryList" (31 : Nat) ({ cls := "LockHouse$EntryList", name := "holds", desc := "(I)Z" } : MethodName)) ∈ TT := tt_mem (tb2 (List.mem_of_getElem? (i := 196) rfl)) rfl
theorem u437 : (Cond.privateMethod ({ cls := "LockHouse$EntryList", name := "holds", desc := "(I)Z" } : MethodName)) ∈ lw_tbl := tb2 (List.mem_of_getElem? (i := 197) rfl)
theorem w438 : (Cond.instanceMethod ({ cls := "LockHouse$EntryList", name := "holds", desc := "(I)Z" } : MethodName)) ∈ TT := tt_mem (tb2 (List.mem_of_getElem? (i := 198) rfl)) rfl
theorem w439 : (Cond.code ({ cls := "LockHouse$EntryList", name := "holds", desc := "(I)Z" } : MethodName) prog_5_method_4_code (2 : Nat) (Option.some FieldType.boolean)) ∈ TT := tt_mem (tb2 (List.mem_of_getElem? (i := 199) rfl)) rfl
theorem w440 : (Cond.methodLink "LockHouse$EntryList" (35 : Nat) ({ cls := "java/util/ArrayList", name := "get", desc := "(I)Ljava/lang/Object;" } : MethodName)) ∈ TT := tt_mem (tb2 (List.mem_of_getElem? (i := 200) rfl)) rfl
theorem w441 : (Cond.methodLink "LockHouseLaw" (104 : Nat) ({ cls := "LockHouseLaw", name := "zoneOf", desc := "(LLockHouse;II)I" } : MethodName)) ∈ TT := tt_mem (tb2 (List.mem_of_getElem? (i := 201) rfl)) rfl
theorem w442 : (Cond.static ({ cls := "LockHouseLaw", name := "zoneOf", desc := "(LLockHouse;II)I" } : MethodName)) ∈ TT := tt_mem (tb2 (List.mem_of_getElem? (i := 202) rfl)) rfl
theorem w443 : (Cond.codeWith ({ cls := "LockHouseLaw", name := "zoneOf", desc := "(LLockHouse;II)I" } : MethodName) method_6_code (4 : Nat) (Option.some FieldType.int) [((0 : Nat), (6 : Nat), (9 : Nat), (19 : Nat)), ((0 : Nat), (6 : Nat), (12 : Nat), (29 : Nat)), ((0 : Nat), (6 : Nat), (15 : Nat), (13 : Nat))]) ∈ TT := tt_mem (tb2 (List.mem_of_getElem? (i := 203) rfl)) rfl
theorem w444 : (Cond.classLink "LockHouseLaw" (29 : Nat) "java/lang/IllegalArgumentException") ∈ TT := tt_mem (tb2 (List.mem_of_getElem? (i := 204) rfl)) rfl
theorem w445 : (Cond.methodLink "LockHouseLaw" (25 : Nat) ({ cls := "LockHouse", name := "zoneOf", desc := "(II)V" } : MethodName)) ∈ TT := tt_mem (tb2 (List.mem_of_getElem? (i := 205) rfl)) rfl
theorem w446 : (Cond.instanceMethod ({ cls := "LockHouse", name := "zoneOf", desc := "(II)V" } : MethodName)) ∈ TT := tt_mem (tb2 (List.mem_of_getElem? (i := 206) rfl)) rfl
theorem w447 : (Cond.selects "LockHouse" ({ cls := "LockHouse", name := "zoneOf", desc := "(II)V" } : MethodName) ({ cls := "LockHouse", name := "zoneOf", desc := "(II)V" } : MethodName)) ∈ TT := tt_mem (tb2 (List.mem_of_getElem? (i := 207) rfl)) rfl
theorem w448 : (Cond.code ({ cls := "LockHouse", name := "zoneOf", desc := "(II)V" } : MethodName) prog_1_method_7_code (4 : Nat) (Option.none : Option FieldType)) ∈ TT := tt_mem (tb2 (List.mem_of_getElem? (i := 208) rfl)) rfl
theorem w449 : (Cond.methodLink "LockHouse" (95 : Nat) ({ cls := "LockHouse", name := "doorAt", desc := "(I)LLockHouse$Door;" } : MethodName)) ∈ TT := tt_mem (tb2 (List.mem_of_getElem? (i := 209) rfl)) rfl
theorem u450 : (Cond.privateMethod ({ cls := "LockHouse", name := "doorAt", desc := "(I)LLockHouse$Door;" } : MethodName)) ∈ lw_tbl := tb2 (List.mem_of_getElem? (i := 210) rfl)
theorem w451 : (Cond.instanceMethod ({ cls := "LockHouse", name := "doorAt", desc := "(I)LLockHouse$Door;" } : MethodName)) ∈ TT := tt_mem (tb2 (List.mem_of_getElem? (i := 211) rfl)) rfl
theorem w452 : (Cond.code ({ cls := "LockHouse", name := "doorAt", desc := "(I)LLockHouse$Door;" } : MethodName) prog_1_method_24_code (2 : Nat) (Option.some (FieldType.object "LockHouse$Door"))) ∈ TT := tt_mem (tb2 (List.mem_of_getElem? (i := 212) rfl)) rfl
theorem w453 : (Cond.methodLink "LockHouse" (196 : Nat) ({ cls := "LockHouse", name := "isDoor", desc := "(I)Z" } : MethodName)) ∈ TT := tt_mem (tb2 (List.mem_of_getElem? (i := 213) rfl)) rfl
theorem u454 : (Cond.privateMethod ({ cls := "LockHouse", name := "isDoor", desc := "(I)Z" } : MethodName)) ∈ lw_tbl := tb2 (List.mem_of_getElem? (i := 214) rfl)
theorem w455 : (Cond.instanceMethod ({ cls := "LockHouse", name := "isDoor", desc := "(I)Z" } : MethodName)) ∈ TT := tt_mem (tb2 (List.mem_of_getElem? (i := 215) rfl)) rfl
theorem w456 : (Cond.code ({ cls := "LockHouse", name := "isDoor", desc := "(I)Z" } : MethodName) prog_1_method_22_code (2 : Nat) (Option.some FieldType.boolean)) ∈ TT := tt_mem (tb2 (List.mem_of_getElem? (i := 216) rfl)) rfl
theorem u457 : (Cond.stringRef "LockHouse" (209 : Nat) "no such door") ∈ lw_tbl := tb2 (List.mem_of_getElem? (i := 217) rfl)
theorem w458 : (Cond.classLink "LockHouse" (99 : Nat) "java/lang/IllegalArgumentException") ∈ TT := tt_mem (tb2 (List.mem_of_getElem? (i := 218) rfl)) rfl
theorem w459 : (Cond.instantiable "java/lang/IllegalArgumentException" (6 : Nat)) ∈ TT := tt_mem (tb2 (List.mem_of_getElem? (i := 219) rfl)) rfl
theorem u460 : (Cond.castable "java/lang/IllegalArgumentException" "java/lang/IllegalArgumentException") ∈ lw_tbl := tb2 (List.mem_of_getElem? (i := 220) rfl)
theorem w461 : (Cond.selects "java/lang/IllegalArgumentException" ({ cls := "java/lang/Throwable", name := "fillInStackTrace", desc := "(I)Ljava/lang/Throwable;" } : MethodName) ({ cls := "java/lang/Throwable", name := "fillInStackTrace", desc := "(I)Ljava/lang/Throwable;" } : MethodName)) ∈ TT := tt_mem (tb2 (List.mem_of_getElem? (i := 221) rfl)) rfl
theorem w462 : (Cond.lays "java/lang/IllegalArgumentException" "java/lang/Throwable" "cause" "Ljava/lang/Throwable;") ∈ TT := tt_mem (tb2 (List.mem_of_getElem? (i := 222) rfl)) rfl
theorem w463 : (Cond.lays "java/lang/IllegalArgumentException" "java/lang/Throwable" "stackTrace" "[Ljava/lang/StackTraceElement;") ∈ TT := tt_mem (tb2 (List.mem_of_getElem? (i := 223) rfl)) rfl
theorem w464 : (Cond.lays "java/lang/IllegalArgumentException" "java/lang/Throwable" "suppressedExceptions" "Ljava/util/List;") ∈ TT := tt_mem (tb2 (List.mem_of_getElem? (i := 224) rfl)) rfl
theorem w465 : (Cond.lays "java/lang/IllegalArgumentException" "java/lang/Throwable" "detailMessage" "Ljava/lang/String;") ∈ TT := tt_mem (tb2 (List.mem_of_getElem? (i := 225) rfl)) rfl
theorem w466 : (Cond.lays "java/lang/IllegalArgumentException" "java/lang/Throwable" "backtrace" "Ljava/lang/Object;") ∈ TT := tt_mem (tb2 (List.mem_of_getElem? (i := 226) rfl)) rfl
theorem u467 : (Cond.stringRef "LockHouse" (101 : Nat) "no such zone") ∈ lw_tbl := tb2 (List.mem_of_getElem? (i := 227) rfl)
theorem w468 : (Cond.methodLink "LockHouse" (103 : Nat) ({ cls := "java/lang/IllegalArgumentException", name := "<init>", desc := "(Ljava/lang/String;)V" } : MethodName)) ∈ TT := tt_mem (tb2 (List.mem_of_getElem? (i := 228) rfl)) rfl
theorem w469 : (Cond.instanceMethod ({ cls := "java/lang/IllegalArgumentException", name := "<init>", desc := "(Ljava/lang/String;)V" } : MethodName)) ∈ TT := tt_mem (tb2 (List.mem_of_getElem? (i := 229) rfl)) rfl
theorem w470 : (Cond.code ({ cls := "java/lang/IllegalArgumentException", name := "<init>", desc := "(Ljava/lang/String;)V" } : MethodName) prog_12_method_2_code (2 : Nat) (Option.none : Option FieldType)) ∈ TT := tt_mem (tb2 (List.mem_of_getElem? (i := 230) rfl)) rfl
theorem w471 : (Cond.methodLink "java/lang/IllegalArgumentException" (7 : Nat) ({ cls := "java/lang/RuntimeException", name := "<init>", desc := "(Ljava/lang/String;)V" } : MethodName)) ∈ TT := tt_mem (tb2 (List.mem_of_getElem? (i := 231) rfl)) rfl
theorem w472 : (Cond.lays "java/lang/IllegalArgumentException" "java/lang/Throwable" "depth" "I") ∈ TT := tt_mem (tb2 (List.mem_of_getElem? (i := 232) rfl)) rfl
theorem w473 : (Cond.superclass "java/lang/IllegalArgumentException" "java/lang/RuntimeException") ∈ TT := tt_mem (tb2 (List.mem_of_getElem? (i := 233) rfl)) rfl
theorem u474 : (Cond.stringRef "LockHouse" (108 : Nat) "a card was shown there already") ∈ lw_tbl := tb2 (List.mem_of_getElem? (i := 234) rfl)
theorem w475 : (Cond.methodLink "LockHouseLaw" (108 : Nat) ({ cls := "LockHouseLaw", name := "show", desc := "(LLockHouse;III[J)I" } : MethodName)) ∈ TT := tt_mem (tb2 (List.mem_of_getElem? (i := 235) rfl)) rfl
theorem w476 : (Cond.static ({ cls := "LockHouseLaw", name := "show", desc := "(LLockHouse;III[J)I" } : MethodName)) ∈ TT := tt_mem (tb2 (List.mem_of_getElem? (i := 236) rfl)) rfl
theorem w477 : (Cond.codeWith ({ cls := "LockHouseLaw", name := "show", desc := "(LLockHouse;III[J)I" } : MethodName) method_7_code (6 : Nat) (Option.some FieldType.int) [((0 : Nat), (12 : Nat), (15 : Nat), (19 : Nat))]) ∈ TT := tt_mem (tb2 (List.mem_of_getElem? (i := 237) rfl)) rfl
theorem w478 : (Cond.methodLink "LockHouseLaw" (31 : Nat) ({ cls := "LockHouse", name := "show", desc := "(III)I" } : MethodName)) ∈ TT := tt_mem (tb2 (List.mem_of_getElem? (i := 238) rfl)) rfl
theorem w479 : (Cond.instanceMethod ({ cls := "LockHouse", name := "show", desc := "(III)I" } : MethodName)) ∈ TT := tt_mem (tb2 (List.mem_of_getElem? (i := 239) rfl)) rfl
theorem w480 : (Cond.selects "LockHouse" ({ cls := "LockHouse", name := "show", desc := "(III)I" } : MethodName) ({ cls := "LockHouse", name := "show", desc := "(III)I" } : MethodName)) ∈ TT := tt_mem (tb3 (List.mem_of_getElem? (i := 0) rfl)) rfl
theorem w481 : (Cond.code ({ cls := "LockHouse", name := "show", desc := "(III)I" } : MethodName) prog_1_method_8_code (6 : Nat) (Option.some FieldType.int)) ∈ TT := tt_mem (tb3 (List.mem_of_getElem? (i := 1) rfl)) rfl
theorem w482 : (Cond.methodLink "LockHouse" (113 : Nat) ({ cls := "LockHouse", name := "present", desc := "(LLockHouse$Card;LLockHouse$Door;I)I" } : MethodName)) ∈ TT := tt_mem (tb3 (List.mem_of_getElem? (i := 2) rfl)) rfl
theorem u483 : (Cond.privateMethod ({ cls := "LockHouse", name := "present", desc := "(LLockHouse$Card;LLockHouse$Door;I)I" } : MethodName)) ∈ lw_tbl := tb3 (List.mem_of_getElem? (i := 3) rfl)
theorem w484 : (Cond.instanceMethod ({ cls := "LockHouse", name := "present", desc := "(LLockHouse$Card;LLockHouse$Door;I)I" } : MethodName)) ∈ TT := tt_mem (tb3 (List.mem_of_getElem? (i := 4) rfl)) rfl
theorem w485 : (Cond.code ({ cls := "LockHouse", name := "present", desc := "(LLockHouse$Card;LLockHouse$Door;I)I" } : MethodName) prog_1_method_25_code (5 : Nat) (Option.some FieldType.int)) ∈ TT := tt_mem (tb3 (List.mem_of_getElem? (i := 5) rfl)) rfl
theorem w486 : (Cond.methodLink "LockHouse" (142 : Nat) ({ cls := "LockHouse$Card", name := "current", desc := "()LLockHouse$Image;" } : MethodName)) ∈ TT := tt_mem (tb3 (List.mem_of_getElem? (i := 6) rfl)) rfl
theorem w487 : (Cond.instanceMethod ({ cls := "LockHouse$Card", name := "current", desc := "()LLockHouse$Image;" } : MethodName)) ∈ TT := tt_mem (tb3 (List.mem_of_getElem? (i := 7) rfl)) rfl
theorem w488 : (Cond.selects "LockHouse$Card" ({ cls := "LockHouse$Card", name := "current", desc := "()LLockHouse$Image;" } : MethodName) ({ cls := "LockHouse$Card", name := "current", desc := "()LLockHouse$Image;" } : MethodName)) ∈ TT := tt_mem (tb3 (List.mem_of_getElem? (i := 8) rfl)) rfl
theorem w489 : (Cond.code ({ cls := "LockHouse$Card", name := "current", desc := "()LLockHouse$Image;" } : MethodName) prog_2_method_4_code (1 : Nat) (Option.some (FieldType.object "LockHouse$Image"))) ∈ TT := tt_mem (tb3 (List.mem_of_getElem? (i := 9) rfl)) rfl
theorem w490 : (Cond.methodLink "LockHouse" (211 : Nat) ({ cls := "LockHouse$Door", name := "take", desc := "(LLockHouse$Image;LLockHouse$EntryList;)V" } : MethodName)) ∈ TT := tt_mem (tb3 (List.mem_of_getElem? (i := 10) rfl)) rfl
theorem w491 : (Cond.instanceMethod ({ cls := "LockHouse$Door", name := "take", desc := "(LLockHouse$Image;LLockHouse$EntryList;)V" } : MethodName)) ∈ TT := tt_mem (tb3 (List.mem_of_getElem? (i := 11) rfl)) rfl
theorem w492 : (Cond.selects "LockHouse$Door" ({ cls := "LockHouse$Door", name := "take", desc := "(LLockHouse$Image;LLockHouse$EntryList;)V" } : MethodName) ({ cls := "LockHouse$Door", name := "take", desc := "(LLockHouse$Image;LLockHouse$EntryList;)V" } : MethodName)) ∈ TT := tt_mem (tb3 (List.mem_of_getElem? (i := 12) rfl)) rfl
theorem w493 : (Cond.code ({ cls := "LockHouse$Door", name := "take", desc := "(LLockHouse$Image;LLockHouse$EntryList;)V" } : MethodName) prog_3_method_3_code (6 : Nat) (Option.none : Option FieldType)) ∈ TT := tt_mem (tb3 (List.mem_of_getElem? (i := 13) rfl)) rfl
theorem w494 : (Cond.methodLink "LockHouse$Door" (36 : Nat) ({ cls := "LockHouse$Image", name := "at", desc := "(I)I" } : MethodName)) ∈ TT := tt_mem (tb3 (List.mem_of_getElem? (i := 14) rfl)) rfl
theorem w495 : (Cond.methodLink "LockHouse$Door" (40 : Nat) ({ cls := "LockHouse$Image", name := "count", desc := "()I" } : MethodName)) ∈ TT := tt_mem (tb3 (List.mem_of_getElem? (i := 15) rfl)) rfl
theorem w496 : (Cond.methodLink "LockHouse$Door" (44 : Nat) ({ cls := "LockHouse$EntryList", name := "bringTo", desc := "(II)V" } : MethodName)) ∈ TT := tt_mem (tb3 (List.mem_of_getElem? (i := 16) rfl)) rfl
theorem w497 : (Cond.instanceMethod ({ cls := "LockHouse$EntryList", name := "bringTo", desc := "(II)V" } : MethodName)) ∈ TT := tt_mem (tb3 (List.mem_of_getElem? (i := 17) rfl)) rfl
theorem w498 : (Cond.selects "LockHouse$EntryList" ({ cls := "LockHouse$EntryList", name := "bringTo", desc := "(II)V" } : MethodName) ({ cls := "LockHouse$EntryList", name := "bringTo", desc := "(II)V" } : MethodName)) ∈ TT := tt_mem (tb3 (List.mem_of_getElem? (i := 18) rfl)) rfl
theorem w499 : (Cond.code ({ cls := "LockHouse$EntryList", name := "bringTo", desc := "(II)V" } : MethodName) prog_5_method_7_code (3 : Nat) (Option.none : Option FieldType)) ∈ TT := tt_mem (tb3 (List.mem_of_getElem? (i := 19) rfl)) rfl
theorem w500 : (Cond.methodLink "LockHouse$EntryList" (46 : Nat) ({ cls := "LockHouse$Entry", name := "bringTo", desc := "(I)V" } : MethodName)) ∈ TT := tt_mem (tb3 (List.mem_of_getElem? (i := 20) rfl)) rfl
theorem w501 : (Cond.instanceMethod ({ cls := "LockHouse$Entry", name := "bringTo", desc := "(I)V" } : MethodName)) ∈ TT := tt_mem (tb3 (List.mem_of_getElem? (i := 21) rfl)) rfl
theorem w502 : (Cond.selects "LockHouse$Entry" ({ cls := "LockHouse$Entry", name := "bringTo", desc := "(I)V" } : MethodName) ({ cls := "LockHouse$Entry", name := "bringTo", desc := "(I)V" } : MethodName)) ∈ TT := tt_mem (tb3 (List.mem_of_getElem? (i := 22) rfl)) rfl
theorem w503 : (Cond.code ({ cls := "LockHouse$Entry", name := "bringTo", desc := "(I)V" } : MethodName) prog_4_method_3_code (2 : Nat) (Option.none : Option FieldType)) ∈ TT := tt_mem (tb3 (List.mem_of_getElem? (i := 23) rfl)) rfl
theorem w504 : (Cond.methodLink "LockHouse$Door" (48 : Nat) ({ cls := "java/lang/Math", name := "max", desc := "(II)I" } : MethodName)) ∈ TT := tt_mem (tb3 (List.mem_of_getElem? (i := 24) rfl)) rfl
theorem w505 : (Cond.methodLink "LockHouse" (215 : Nat) ({ cls := "LockHouse$Door", name := "judge", desc := "(LLockHouse$Card;ILLockHouse$EntryList;)I" } : MethodName)) ∈ TT := tt_mem (tb3 (List.mem_of_getElem? (i := 25) rfl)) rfl
theorem w506 : (Cond.instanceMethod ({ cls := "LockHouse$Door", name := "judge", desc := "(LLockHouse$Card;ILLockHouse$EntryList;)I" } : MethodName)) ∈ TT := tt_mem (tb3 (List.mem_of_getElem? (i := 26) rfl)) rfl
theorem w507 : (Cond.selects "LockHouse$Door" ({ cls := "LockHouse$Door", name := "judge", desc := "(LLockHouse$Card;ILLockHouse$EntryList;)I" } : MethodName) ({ cls := "LockHouse$Door", name := "judge", desc := "(LLockHouse$Card;ILLockHouse$EntryList;)I" } : MethodName)) ∈ TT := tt_mem (tb3 (List.mem_of_getElem? (i := 27) rfl)) rfl
theorem w508 : (Cond.code ({ cls := "LockHouse$Door", name := "judge", desc := "(LLockHouse$Card;ILLockHouse$EntryList;)I" } : MethodName) prog_3_method_4_code (4 : Nat) (Option.some FieldType.int)) ∈ TT := tt_mem (tb3 (List.mem_of_getElem? (i := 28) rfl)) rfl
theorem w509 : (Cond.methodLink "LockHouse$Door" (59 : Nat) ({ cls := "LockHouse$Door", name := "has", desc := "(ILLockHouse$EntryList;)Z" } : MethodName)) ∈ TT := tt_mem (tb3 (List.mem_of_getElem? (i := 29) rfl)) rfl
theorem w510 : (Cond.instanceMethod ({ cls := "LockHouse$Door", name := "has", desc := "(ILLockHouse$EntryList;)Z" } : MethodName)) ∈ TT := tt_mem (tb3 (List.mem_of_getElem? (i := 30) rfl)) rfl
theorem w511 : (Cond.selects "LockHouse$Door" ({ cls := "LockHouse$Door", name := "has", desc := "(ILLockHouse$EntryList;)Z" } : MethodName) ({ cls := "LockHouse$Door", name := "has", desc := "(ILLockHouse$EntryList;)Z" } : MethodName)) ∈ TT := tt_mem (tb3 (List.mem_of_getElem? (i := 31) rfl)) rfl
theorem w512 : (Cond.code ({ cls := "LockHouse$Door", name := "has", desc := "(ILLockHouse$EntryList;)Z" } : MethodName) prog_3_method_2_code (3 : Nat) (Option.some FieldType.boolean)) ∈ TT := tt_mem (tb3 (List.mem_of_getElem? (i := 32) rfl)) rfl
theorem w513 : (Cond.methodLink "LockHouse$Door" (28 : Nat) ({ cls := "LockHouse$EntryList", name := "isAt", desc := "(II)Z" } : MethodName)) ∈ TT := tt_mem (tb3 (List.mem_of_getElem? (i := 33) rfl)) rfl
theorem w514 : (Cond.instanceMethod ({ cls := "LockHouse$EntryList", name := "isAt", desc := "(II)Z" } : MethodName)) ∈ TT := tt_mem (tb3 (List.mem_of_getElem? (i := 34) rfl)) rfl
theorem w515 : (Cond.selects "LockHouse$EntryList" ({ cls := "LockHouse$EntryList", name := "isAt", desc := "(II)Z" } : MethodName) ({ cls := "LockHouse$EntryList", name := "isAt", desc := "(II)Z" } : MethodName)) ∈ TT := tt_mem (tb3 (List.mem_of_getElem? (i := 35) rfl)) rfl
theorem w516 : (Cond.code ({ cls := "LockHouse$EntryList", name := "isAt", desc := "(II)Z" } : MethodName) prog_5_method_6_code (3 : Nat) (Option.some FieldType.boolean)) ∈ TT := tt_mem (tb3 (List.mem_of_getElem? (i := 36) rfl)) rfl
theorem w517 : (Cond.methodLink "LockHouse$EntryList" (43 : Nat) ({ cls := "LockHouse$Entry", name := "isAt", desc := "(I)Z" } : MethodName)) ∈ TT := tt_mem (tb3 (List.mem_of_getElem? (i := 37) rfl)) rfl
theorem w518 : (Cond.instanceMethod ({ cls := "LockHouse$Entry", name := "isAt", desc := "(I)Z" } : MethodName)) ∈ TT := tt_mem (tb3 (List.mem_of_getElem? (i := 38) rfl)) rfl
theorem w519 : (Cond.selects "LockHouse$Entry" ({ cls := "LockHouse$Entry", name := "isAt", desc := "(I)Z" } : MethodName) ({ cls := "LockHouse$Entry", name := "isAt", desc := "(I)Z" } : MethodName)) ∈ TT := tt_mem (tb3 (List.mem_of_getElem? (i := 39) rfl)) rfl
theorem w520 : (Cond.code ({ cls := "LockHouse$Entry", name := "isAt", desc := "(I)Z" } : MethodName) prog_4_method_2_code (2 : Nat) (Option.some FieldType.boolean)) ∈ TT := tt_mem (tb3 (List.mem_of_getElem? (i := 40) rfl)) rfl
theorem w521 : (Cond.methodLink "LockHouse$Door" (66 : Nat) ({ cls := "LockHouse$Card", name := "opens", desc := "(I)Z" } : MethodName)) ∈ TT := tt_mem (tb3 (List.mem_of_getElem? (i := 41) rfl)) rfl
theorem w522 : (Cond.instanceMethod ({ cls := "LockHouse$Card", name := "opens", desc := "(I)Z" } : MethodName)) ∈ TT := tt_mem (tb3 (List.mem_of_getElem? (i := 42) rfl)) rfl
theorem w523 : (Cond.selects "LockHouse$Card" ({ cls := "LockHouse$Card", name := "opens", desc := "(I)Z" } : MethodName) ({ cls := "LockHouse$Card", name := "opens", desc := "(I)Z" } : MethodName)) ∈ TT := tt_mem (tb3 (List.mem_of_getElem? (i := 43) rfl)) rfl
theorem w524 : (Cond.code ({ cls := "LockHouse$Card", name := "opens", desc := "(I)Z" } : MethodName) prog_2_method_7_code (2 : Nat) (Option.some FieldType.boolean)) ∈ TT := tt_mem (tb3 (List.mem_of_getElem? (i := 44) rfl)) rfl
theorem w525 : (Cond.methodLink "LockHouse" (219 : Nat) ({ cls := "LockHouse$Door", name := "pass", desc := "(LLockHouse$Card;LLockHouse$EntryList;)V" } : MethodName)) ∈ TT := tt_mem (tb3 (List.mem_of_getElem? (i := 45) rfl)) rfl
theorem w526 : (Cond.instanceMethod ({ cls := "LockHouse$Door", name := "pass", desc := "(LLockHouse$Card;LLockHouse$EntryList;)V" } : MethodName)) ∈ TT := tt_mem (tb3 (List.mem_of_getElem? (i := 46) rfl)) rfl
theorem w527 : (Cond.selects "LockHouse$Door" ({ cls := "LockHouse$Door", name := "pass", desc := "(LLockHouse$Card;LLockHouse$EntryList;)V" } : MethodName) ({ cls := "LockHouse$Door", name := "pass", desc := "(LLockHouse$Card;LLockHouse$EntryList;)V" } : MethodName)) ∈ TT := tt_mem (tb3 (List.mem_of_getElem? (i := 47) rfl)) rfl
theorem w528 : (Cond.code ({ cls := "LockHouse$Door", name := "pass", desc := "(LLockHouse$Card;LLockHouse$EntryList;)V" } : MethodName) prog_3_method_5_code (4 : Nat) (Option.none : Option FieldType)) ∈ TT := tt_mem (tb3 (List.mem_of_getElem? (i := 48) rfl)) rfl
theorem w529 : (Cond.methodLink "LockHouse$Door" (70 : Nat) ({ cls := "LockHouse$Card", name := "current", desc := "()LLockHouse$Image;" } : MethodName)) ∈ TT := tt_mem (tb3 (List.mem_of_getElem? (i := 49) rfl)) rfl
theorem w530 : (Cond.methodLink "LockHouse$Door" (74 : Nat) ({ cls := "LockHouse$Card", name := "store", desc := "(IIILLockHouse$EntryList;)V" } : MethodName)) ∈ TT := tt_mem (tb3 (List.mem_of_getElem? (i := 50) rfl)) rfl
theorem w531 : (Cond.methodLink "LockHouseLaw" (112 : Nat) ({ cls := "LockHouseLaw", name := "tear", desc := "(LLockHouse;II)I" } : MethodName)) ∈ TT := tt_mem (tb3 (List.mem_of_getElem? (i := 51) rfl)) rfl
theorem w532 : (Cond.static ({ cls := "LockHouseLaw", name := "tear", desc := "(LLockHouse;II)I" } : MethodName)) ∈ TT := tt_mem (tb3 (List.mem_of_getElem? (i := 52) rfl)) rfl
theorem w533 : (Cond.codeWith ({ cls := "LockHouseLaw", name := "tear", desc := "(LLockHouse;II)I" } : MethodName) method_8_code (4 : Nat) (Option.some FieldType.int) [((0 : Nat), (6 : Nat), (9 : Nat), (19 : Nat)), ((0 : Nat), (6 : Nat), (12 : Nat), (29 : Nat))]) ∈ TT := tt_mem (tb3 (List.mem_of_getElem? (i := 53) rfl)) rfl
theorem w534 : (Cond.methodLink "LockHouseLaw" (35 : Nat) ({ cls := "LockHouse", name := "tear", desc := "(II)V" } : MethodName)) ∈ TT := tt_mem (tb3 (List.mem_of_getElem? (i := 54) rfl)) rfl
theorem w535 : (Cond.instanceMethod ({ cls := "LockHouse", name := "tear", desc := "(II)V" } : MethodName)) ∈ TT := tt_mem (tb3 (List.mem_of_getElem? (i := 55) rfl)) rfl
theorem w536 : (Cond.selects "LockHouse" ({ cls := "LockHouse", name := "tear", desc := "(II)V" } : MethodName) ({ cls := "LockHouse", name := "tear", desc := "(II)V" } : MethodName)) ∈ TT := tt_mem (tb3 (List.mem_of_getElem? (i := 56) rfl)) rfl
theorem w537 : (Cond.code ({ cls := "LockHouse", name := "tear", desc := "(II)V" } : MethodName) prog_1_method_9_code (4 : Nat) (Option.none : Option FieldType)) ∈ TT := tt_mem (tb3 (List.mem_of_getElem? (i := 57) rfl)) rfl
theorem u538 : (Cond.stringRef "LockHouse" (117 : Nat) "no such number of words") ∈ lw_tbl := tb3 (List.mem_of_getElem? (i := 58) rfl)
theorem w539 : (Cond.methodLink "LockHouseLaw" (115 : Nat) ({ cls := "LockHouseLaw", name := "written", desc := "(LLockHouse;I[J)I" } : MethodName)) ∈ TT := tt_mem (tb3 (List.mem_of_getElem? (i := 59) rfl)) rfl
theorem w540 : (Cond.static ({ cls := "LockHouseLaw", name := "written", desc := "(LLockHouse;I[J)I" } : MethodName)) ∈ TT := tt_mem (tb3 (List.mem_of_getElem? (i := 60) rfl)) rfl
theorem w541 : (Cond.codeWith ({ cls := "LockHouseLaw", name := "written", desc := "(LLockHouse;I[J)I" } : MethodName) method_9_code (4 : Nat) (Option.some FieldType.int) [((0 : Nat), (9 : Nat), (12 : Nat), (19 : Nat))]) ∈ TT := tt_mem (tb3 (List.mem_of_getElem? (i := 61) rfl)) rfl
theorem w542 : (Cond.methodLink "LockHouseLaw" (38 : Nat) ({ cls := "LockHouse", name := "written", desc := "(I)I" } : MethodName)) ∈ TT := tt_mem (tb3 (List.mem_of_getElem? (i := 62) rfl)) rfl
theorem w543 : (Cond.instanceMethod ({ cls := "LockHouse", name := "written", desc := "(I)I" } : MethodName)) ∈ TT := tt_mem (tb3 (List.mem_of_getElem? (i := 63) rfl)) rfl
theorem w544 : (Cond.selects "LockHouse" ({ cls := "LockHouse", name := "written", desc := "(I)I" } : MethodName) ({ cls := "LockHouse", name := "written", desc := "(I)I" } : MethodName)) ∈ TT := tt_mem (tb3 (List.mem_of_getElem? (i := 64) rfl)) rfl
theorem w545 : (Cond.code ({ cls := "LockHouse", name := "written", desc := "(I)I" } : MethodName) prog_1_method_10_code (2 : Nat) (Option.some FieldType.int)) ∈ TT := tt_mem (tb3 (List.mem_of_getElem? (i := 65) rfl)) rfl
theorem w546 : (Cond.methodLink "LockHouseLaw" (118 : Nat) ({ cls := "LockHouseLaw", name := "word", desc := "(LLockHouse;III[J)I" } : MethodName)) ∈ TT := tt_mem (tb3 (List.mem_of_getElem? (i := 66) rfl)) rfl
theorem w547 : (Cond.static ({ cls := "LockHouseLaw", name := "word", desc := "(LLockHouse;III[J)I" } : MethodName)) ∈ TT := tt_mem (tb3 (List.mem_of_getElem? (i := 67) rfl)) rfl
theorem w548 : (Cond.codeWith ({ cls := "LockHouseLaw", name := "word", desc := "(LLockHouse;III[J)I" } : MethodName) method_10_code (6 : Nat) (Option.some FieldType.int) [((0 : Nat), (12 : Nat), (15 : Nat), (19 : Nat))]) ∈ TT := tt_mem (tb3 (List.mem_of_getElem? (i := 68) rfl)) rfl
theorem w549 : (Cond.methodLink "LockHouseLaw" (41 : Nat) ({ cls := "LockHouse", name := "word", desc := "(III)I" } : MethodName)) ∈ TT := tt_mem (tb3 (List.mem_of_getElem? (i := 69) rfl)) rfl
theorem w550 : (Cond.instanceMethod ({ cls := "LockHouse", name := "word", desc := "(III)I" } : MethodName)) ∈ TT := tt_mem (tb3 (List.mem_of_getElem? (i := 70) rfl)) rfl
theorem w551 : (Cond.selects "LockHouse" ({ cls := "LockHouse", name := "word", desc := "(III)I" } : MethodName) ({ cls := "LockHouse", name := "word", desc := "(III)I" } : MethodName)) ∈ TT := tt_mem (tb3 (List.mem_of_getElem? (i := 71) rfl)) rfl
theorem w552 : (Cond.code ({ cls := "LockHouse", name := "word", desc := "(III)I" } : MethodName) prog_1_method_11_code (5 : Nat) (Option.some FieldType.int)) ∈ TT := tt_mem (tb3 (List.mem_of_getElem? (i := 72) rfl)) rfl
theorem u553 : (Cond.stringRef "LockHouse" (129 : Nat) "no such word") ∈ lw_tbl := tb3 (List.mem_of_getElem? (i := 73) rfl)
theorem w554 : (Cond.methodLink "LockHouse" (132 : Nat) ({ cls := "LockHouse$Card", name := "image", desc := "(I)LLockHouse$Image;" } : MethodName)) ∈ TT := tt_mem (tb3 (List.mem_of_getElem? (i := 74) rfl)) rfl
theorem w555 : (Cond.methodLink "LockHouse" (136 : Nat) ({ cls := "LockHouse$Image", name := "at", desc := "(I)I" } : MethodName)) ∈ TT := tt_mem (tb3 (List.mem_of_getElem? (i := 75) rfl)) rfl
theorem w556 : (Cond.methodLink "LockHouseLaw" (121 : Nat) ({ cls := "LockHouseLaw", name := "carries", desc := "(LLockHouse;II[J)I" } : MethodName)) ∈ TT := tt_mem (tb3 (List.mem_of_getElem? (i := 76) rfl)) rfl
theorem w557 : (Cond.static ({ cls := "LockHouseLaw", name := "carries", desc := "(LLockHouse;II[J)I" } : MethodName)) ∈ TT := tt_mem (tb3 (List.mem_of_getElem? (i := 77) rfl)) rfl
theorem w558 : (Cond.codeWith ({ cls := "LockHouseLaw", name := "carries", desc := "(LLockHouse;II[J)I" } : MethodName) method_11_code (5 : Nat) (Option.some FieldType.int) [((0 : Nat), (10 : Nat), (13 : Nat), (19 : Nat)), ((0 : Nat), (10 : Nat), (17 : Nat), (29 : Nat))]) ∈ TT := tt_mem (tb3 (List.mem_of_getElem? (i := 78) rfl)) rfl
theorem w559 : (Cond.methodLink "LockHouseLaw" (44 : Nat) ({ cls := "LockHouse", name := "carries", desc := "(II)I" } : MethodName)) ∈ TT := tt_mem (tb3 (List.mem_of_getElem? (i := 79) rfl)) rfl
theorem w560 : (Cond.instanceMethod ({ cls := "LockHouse", name := "carries", desc := "(II)I" } : MethodName)) ∈ TT := tt_mem (tb3 (List.mem_of_getElem? (i := 80) rfl)) rfl
theorem w561 : (Cond.selects "LockHouse" ({ cls := "LockHouse", name := "carries", desc := "(II)I" } : MethodName) ({ cls := "LockHouse", name := "carries", desc := "(II)I" } : MethodName)) ∈ TT := tt_mem (tb3 (List.mem_of_getElem? (i := 81) rfl)) rfl
theorem w562 : (Cond.code ({ cls := "LockHouse", name := "carries", desc := "(II)I" } : MethodName) prog_1_method_12_code (4 : Nat) (Option.some FieldType.int)) ∈ TT := tt_mem (tb3 (List.mem_of_getElem? (i := 82) rfl)) rfl
theorem w563 : (Cond.methodLink "LockHouse" (139 : Nat) ({ cls := "LockHouse$Card", name := "currentIndex", desc := "()I" } : MethodName)) ∈ TT := tt_mem (tb3 (List.mem_of_getElem? (i := 83) rfl)) rfl
theorem w564 : (Cond.methodLink "LockHouse" (146 : Nat) ({ cls := "LockHouse$Image", name := "count", desc := "()I" } : MethodName)) ∈ TT := tt_mem (tb3 (List.mem_of_getElem? (i := 84) rfl)) rfl
theorem u565 : (Cond.stringRef "LockHouse" (149 : Nat) "a card carries no such thing") ∈ lw_tbl := tb3 (List.mem_of_getElem? (i := 85) rfl)
theorem w566 : (Cond.methodLink "LockHouseLaw" (124 : Nat) ({ cls := "LockHouseLaw", name := "memory", desc := "(LLockHouse;II[J)I" } : MethodName)) ∈ TT := tt_mem (tb3 (List.mem_of_getElem? (i := 86) rfl)) rfl
theorem w567 : (Cond.static ({ cls := "LockHouseLaw", name := "memory", desc := "(LLockHouse;II[J)I" } : MethodName)) ∈ TT := tt_mem (tb3 (List.mem_of_getElem? (i := 87) rfl)) rfl
theorem w568 : (Cond.codeWith ({ cls := "LockHouseLaw", name := "memory", desc := "(LLockHouse;II[J)I" } : MethodName) method_12_code (5 : Nat) (Option.some FieldType.int) [((0 : Nat), (10 : Nat), (13 : Nat), (19 : Nat))]) ∈ TT := tt_mem (tb3 (List.mem_of_getElem? (i := 88) rfl)) rfl
theorem w569 : (Cond.methodLink "LockHouseLaw" (47 : Nat) ({ cls := "LockHouse", name := "memory", desc := "(II)I" } : MethodName)) ∈ TT := tt_mem (tb3 (List.mem_of_getElem? (i := 89) rfl)) rfl
theorem w570 : (Cond.instanceMethod ({ cls := "LockHouse", name := "memory", desc := "(II)I" } : MethodName)) ∈ TT := tt_mem (tb3 (List.mem_of_getElem? (i := 90) rfl)) rfl
theorem w571 : (Cond.selects "LockHouse" ({ cls := "LockHouse", name := "memory", desc := "(II)I" } : MethodName) ({ cls := "LockHouse", name := "memory", desc := "(II)I" } : MethodName)) ∈ TT := tt_mem (tb3 (List.mem_of_getElem? (i := 91) rfl)) rfl
theorem w572 : (Cond.code ({ cls := "LockHouse", name := "memory", desc := "(II)I" } : MethodName) prog_1_method_13_code (4 : Nat) (Option.some FieldType.int)) ∈ TT := tt_mem (tb3 (List.mem_of_getElem? (i := 92) rfl)) rfl
theorem u573 : (Cond.stringRef "LockHouse" (151 : Nat) "no such entry on the card") ∈ lw_tbl := tb3 (List.mem_of_getElem? (i := 93) rfl)
theorem w574 : (Cond.methodLink "LockHouseLaw" (127 : Nat) ({ cls := "LockHouseLaw", name := "about", desc := "(LLockHouse;II[J)I" } : MethodName)) ∈ TT := tt_mem (tb3 (List.mem_of_getElem? (i := 94) rfl)) rfl
theorem w575 : (Cond.static ({ cls := "LockHouseLaw", name := "about", desc := "(LLockHouse;II[J)I" } : MethodName)) ∈ TT := tt_mem (tb3 (List.mem_of_getElem? (i := 95) rfl)) rfl
theorem w576 : (Cond.codeWith ({ cls := "LockHouseLaw", name := "about", desc := "(LLockHouse;II[J)I" } : MethodName) method_13_code (5 : Nat) (Option.some FieldType.int) [((0 : Nat), (10 : Nat), (13 : Nat), (19 : Nat)), ((0 : Nat), (10 : Nat), (17 : Nat), (29 : Nat))]) ∈ TT := tt_mem (tb3 (List.mem_of_getElem? (i := 96) rfl)) rfl
theorem w577 : (Cond.methodLink "LockHouseLaw" (50 : Nat) ({ cls := "LockHouse", name := "about", desc := "(II)I" } : MethodName)) ∈ TT := tt_mem (tb3 (List.mem_of_getElem? (i := 97) rfl)) rfl
theorem w578 : (Cond.instanceMethod ({ cls := "LockHouse", name := "about", desc := "(II)I" } : MethodName)) ∈ TT := tt_mem (tb3 (List.mem_of_getElem? (i := 98) rfl)) rfl
theorem w579 : (Cond.selects "LockHouse" ({ cls := "LockHouse", name := "about", desc := "(II)I" } : MethodName) ({ cls := "LockHouse", name := "about", desc := "(II)I" } : MethodName)) ∈ TT := tt_mem (tb3 (List.mem_of_getElem? (i := 99) rfl)) rfl
theorem w580 : (Cond.code ({ cls := "LockHouse", name := "about", desc := "(II)I" } : MethodName) prog_1_method_14_code (4 : Nat) (Option.some FieldType.int)) ∈ TT := tt_mem (tb3 (List.mem_of_getElem? (i := 100) rfl)) rfl
theorem w581 : (Cond.methodLink "LockHouse" (153 : Nat) ({ cls := "LockHouse$Door", name := "complete", desc := "(LLockHouse$EntryList;)I" } : MethodName)) ∈ TT := tt_mem (tb3 (List.mem_of_getElem? (i := 101) rfl)) rfl
theorem w582 : (Cond.instanceMethod ({ cls := "LockHouse$Door", name := "complete", desc := "(LLockHouse$EntryList;)I" } : MethodName)) ∈ TT := tt_mem (tb3 (List.mem_of_getElem? (i := 102) rfl)) rfl
theorem w583 : (Cond.selects "LockHouse$Door" ({ cls := "LockHouse$Door", name := "complete", desc := "(LLockHouse$EntryList;)I" } : MethodName) ({ cls := "LockHouse$Door", name := "complete", desc := "(LLockHouse$EntryList;)I" } : MethodName)) ∈ TT := tt_mem (tb3 (List.mem_of_getElem? (i := 103) rfl)) rfl
theorem w584 : (Cond.code ({ cls := "LockHouse$Door", name := "complete", desc := "(LLockHouse$EntryList;)I" } : MethodName) prog_3_method_6_code (2 : Nat) (Option.some FieldType.int)) ∈ TT := tt_mem (tb3 (List.mem_of_getElem? (i := 104) rfl)) rfl
theorem w585 : (Cond.methodLink "LockHouse$Door" (78 : Nat) ({ cls := "LockHouse$Door", name := "endOfRun", desc := "(ILLockHouse$EntryList;)I" } : MethodName)) ∈ TT := tt_mem (tb3 (List.mem_of_getElem? (i := 105) rfl)) rfl
theorem w586 : (Cond.instanceMethod ({ cls := "LockHouse$Door", name := "endOfRun", desc := "(ILLockHouse$EntryList;)I" } : MethodName)) ∈ TT := tt_mem (tb3 (List.mem_of_getElem? (i := 106) rfl)) rfl
theorem w587 : (Cond.selects "LockHouse$Door" ({ cls := "LockHouse$Door", name := "endOfRun", desc := "(ILLockHouse$EntryList;)I" } : MethodName) ({ cls := "LockHouse$Door", name := "endOfRun", desc := "(ILLockHouse$EntryList;)I" } : MethodName)) ∈ TT := tt_mem (tb3 (List.mem_of_getElem? (i := 107) rfl)) rfl
theorem w588 : (Cond.code ({ cls := "LockHouse$Door", name := "endOfRun", desc := "(ILLockHouse$EntryList;)I" } : MethodName) prog_3_method_10_code (4 : Nat) (Option.some FieldType.int)) ∈ TT := tt_mem (tb3 (List.mem_of_getElem? (i := 108) rfl)) rfl
theorem w589 : (Cond.methodLink "LockHouse$Door" (82 : Nat) ({ cls := "LockHouse$EntryList", name := "made", desc := "()I" } : MethodName)) ∈ TT := tt_mem (tb3 (List.mem_of_getElem? (i := 109) rfl)) rfl
theorem w590 : (Cond.methodLink "LockHouse" (163 : Nat) ({ cls := "java/lang/Math", name := "max", desc := "(II)I" } : MethodName)) ∈ TT := tt_mem (tb3 (List.mem_of_getElem? (i := 110) rfl)) rfl
theorem w591 : (Cond.methodLink "LockHouse" (166 : Nat) ({ cls := "LockHouse$Door", name := "countEntries", desc := "(LLockHouse$EntryList;)I" } : MethodName)) ∈ TT := tt_mem (tb3 (List.mem_of_getElem? (i := 111) rfl)) rfl
theorem w592 : (Cond.instanceMethod ({ cls := "LockHouse$Door", name := "countEntries", desc := "(LLockHouse$EntryList;)I" } : MethodName)) ∈ TT := tt_mem (tb3 (List.mem_of_getElem? (i := 112) rfl)) rfl
theorem w593 : (Cond.selects "LockHouse$Door" ({ cls := "LockHouse$Door", name := "countEntries", desc := "(LLockHouse$EntryList;)I" } : MethodName) ({ cls := "LockHouse$Door", name := "countEntries", desc := "(LLockHouse$EntryList;)I" } : MethodName)) ∈ TT := tt_mem (tb3 (List.mem_of_getElem? (i := 113) rfl)) rfl
theorem w594 : (Cond.code ({ cls := "LockHouse$Door", name := "countEntries", desc := "(LLockHouse$EntryList;)I" } : MethodName) prog_3_method_7_code (4 : Nat) (Option.some FieldType.int)) ∈ TT := tt_mem (tb3 (List.mem_of_getElem? (i := 114) rfl)) rfl
theorem w595 : (Cond.methodLink "LockHouse" (169 : Nat) ({ cls := "LockHouse$Door", name := "countRuns", desc := "(LLockHouse$EntryList;)I" } : MethodName)) ∈ TT := tt_mem (tb3 (List.mem_of_getElem? (i := 115) rfl)) rfl
theorem w596 : (Cond.instanceMethod ({ cls := "LockHouse$Door", name := "countRuns", desc := "(LLockHouse$EntryList;)I" } : MethodName)) ∈ TT := tt_mem (tb3 (List.mem_of_getElem? (i := 116) rfl)) rfl
theorem w597 : (Cond.selects "LockHouse$Door" ({ cls := "LockHouse$Door", name := "countRuns", desc := "(LLockHouse$EntryList;)I" } : MethodName) ({ cls := "LockHouse$Door", name := "countRuns", desc := "(LLockHouse$EntryList;)I" } : MethodName)) ∈ TT := tt_mem (tb3 (List.mem_of_getElem? (i := 117) rfl)) rfl
theorem w598 : (Cond.code ({ cls := "LockHouse$Door", name := "countRuns", desc := "(LLockHouse$EntryList;)I" } : MethodName) prog_3_method_8_code (4 : Nat) (Option.some FieldType.int)) ∈ TT := tt_mem (tb3 (List.mem_of_getElem? (i := 118) rfl)) rfl
theorem w599 : (Cond.methodLink "LockHouse$Door" (85 : Nat) ({ cls := "LockHouse$Door", name := "startsRun", desc := "(ILLockHouse$EntryList;)Z" } : MethodName)) ∈ TT := tt_mem (tb3 (List.mem_of_getElem? (i := 119) rfl)) rfl
theorem u600 : (Cond.privateMethod ({ cls := "LockHouse$Door", name := "startsRun", desc := "(ILLockHouse$EntryList;)Z" } : MethodName)) ∈ lw_tbl := tb3 (List.mem_of_getElem? (i := 120) rfl)
theorem w601 : (Cond.instanceMethod ({ cls := "LockHouse$Door", name := "startsRun", desc := "(ILLockHouse$EntryList;)Z" } : MethodName)) ∈ TT := tt_mem (tb3 (List.mem_of_getElem? (i := 121) rfl)) rfl
theorem w602 : (Cond.code ({ cls := "LockHouse$Door", name := "startsRun", desc := "(ILLockHouse$EntryList;)Z" } : MethodName) prog_3_method_11_code (3 : Nat) (Option.some FieldType.boolean)) ∈ TT := tt_mem (tb3 (List.mem_of_getElem? (i := 122) rfl)) rfl
theorem u603 : (Cond.stringRef "LockHouse" (172 : Nat) "there is no such thing about a door") ∈ lw_tbl := tb3 (List.mem_of_getElem? (i := 123) rfl)
theorem w604 : (Cond.methodLink "LockHouseLaw" (130 : Nat) ({ cls := "LockHouseLaw", name := "run", desc := "(LLockHouse;IIZ[J)I" } : MethodName)) ∈ TT := tt_mem (tb3 (List.mem_of_getElem? (i := 124) rfl)) rfl
theorem w605 : (Cond.static ({ cls := "LockHouseLaw", name := "run", desc := "(LLockHouse;IIZ[J)I" } : MethodName)) ∈ TT := tt_mem (tb3 (List.mem_of_getElem? (i := 125) rfl)) rfl
theorem w606 : (Cond.codeWith ({ cls := "LockHouseLaw", name := "run", desc := "(LLockHouse;IIZ[J)I" } : MethodName) method_14_code (6 : Nat) (Option.some FieldType.int) [((0 : Nat), (12 : Nat), (15 : Nat), (19 : Nat))]) ∈ TT := tt_mem (tb3 (List.mem_of_getElem? (i := 126) rfl)) rfl
theorem w607 : (Cond.methodLink "LockHouseLaw" (53 : Nat) ({ cls := "LockHouse", name := "run", desc := "(IIZ)I" } : MethodName)) ∈ TT := tt_mem (tb3 (List.mem_of_getElem? (i := 127) rfl)) rfl
theorem w608 : (Cond.instanceMethod ({ cls := "LockHouse", name := "run", desc := "(IIZ)I" } : MethodName)) ∈ TT := tt_mem (tb3 (List.mem_of_getElem? (i := 128) rfl)) rfl
theorem w609 : (Cond.selects "LockHouse" ({ cls := "LockHouse", name := "run", desc := "(IIZ)I" } : MethodName) ({ cls := "LockHouse", name := "run", desc := "(IIZ)I" } : MethodName)) ∈ TT := tt_mem (tb3 (List.mem_of_getElem? (i := 129) rfl)) rfl
theorem w610 : (Cond.code ({ cls := "LockHouse", name := "run", desc := "(IIZ)I" } : MethodName) prog_1_method_15_code (6 : Nat) (Option.some FieldType.int)) ∈ TT := tt_mem (tb3 (List.mem_of_getElem? (i := 130) rfl)) rfl
theorem w611 : (Cond.methodLink "LockHouse" (174 : Nat) ({ cls := "LockHouse$Door", name := "startOfRun", desc := "(ILLockHouse$EntryList;)I" } : MethodName)) ∈ TT := tt_mem (tb3 (List.mem_of_getElem? (i := 131) rfl)) rfl
theorem w612 : (Cond.instanceMethod ({ cls := "LockHouse$Door", name := "startOfRun", desc := "(ILLockHouse$EntryList;)I" } : MethodName)) ∈ TT := tt_mem (tb3 (List.mem_of_getElem? (i := 132) rfl)) rfl
theorem w613 : (Cond.selects "LockHouse$Door" ({ cls := "LockHouse$Door", name := "startOfRun", desc := "(ILLockHouse$EntryList;)I" } : MethodName) ({ cls := "LockHouse$Door", name := "startOfRun", desc := "(ILLockHouse$EntryList;)I" } : MethodName)) ∈ TT := tt_mem (tb3 (List.mem_of_getElem? (i := 133) rfl)) rfl
theorem w614 : (Cond.code ({ cls := "LockHouse$Door", name := "startOfRun", desc := "(ILLockHouse$EntryList;)I" } : MethodName) prog_3_method_9_code (5 : Nat) (Option.some FieldType.int)) ∈ TT := tt_mem (tb3 (List.mem_of_getElem? (i := 134) rfl)) rfl
theorem u615 : (Cond.stringRef "LockHouse" (178 : Nat) "no such run") ∈ lw_tbl := tb3 (List.mem_of_getElem? (i := 135) rfl)
theorem w616 : (Cond.methodLink "LockHouse" (180 : Nat) ({ cls := "LockHouse$Door", name := "endOfRun", desc := "(ILLockHouse$EntryList;)I" } : MethodName)) ∈ TT := tt_mem (tb3 (List.mem_of_getElem? (i := 136) rfl)) rfl
theorem w617 : (Cond.methodLink "LockHouseLaw" (134 : Nat) ({ cls := "LockHouseLaw", name := "refuses", desc := "(LLockHouse;II[J)I" } : MethodName)) ∈ TT := tt_mem (tb3 (List.mem_of_getElem? (i := 137) rfl)) rfl
theorem w618 : (Cond.static ({ cls := "LockHouseLaw", name := "refuses", desc := "(LLockHouse;II[J)I" } : MethodName)) ∈ TT := tt_mem (tb3 (List.mem_of_getElem? (i := 138) rfl)) rfl
theorem w619 : (Cond.codeWith ({ cls := "LockHouseLaw", name := "refuses", desc := "(LLockHouse;II[J)I" } : MethodName) method_15_code (5 : Nat) (Option.some FieldType.int) [((0 : Nat), (17 : Nat), (20 : Nat), (19 : Nat))]) ∈ TT := tt_mem (tb3 (List.mem_of_getElem? (i := 139) rfl)) rfl
theorem w620 : (Cond.methodLink "LockHouseLaw" (57 : Nat) ({ cls := "LockHouse", name := "refuses", desc := "(II)Z" } : MethodName)) ∈ TT := tt_mem (tb3 (List.mem_of_getElem? (i := 140) rfl)) rfl
theorem w621 : (Cond.instanceMethod ({ cls := "LockHouse", name := "refuses", desc := "(II)Z" } : MethodName)) ∈ TT := tt_mem (tb3 (List.mem_of_getElem? (i := 141) rfl)) rfl
theorem w622 : (Cond.selects "LockHouse" ({ cls := "LockHouse", name := "refuses", desc := "(II)Z" } : MethodName) ({ cls := "LockHouse", name := "refuses", desc := "(II)Z" } : MethodName)) ∈ TT := tt_mem (tb3 (List.mem_of_getElem? (i := 142) rfl)) rfl
theorem w623 : (Cond.code ({ cls := "LockHouse", name := "refuses", desc := "(II)Z" } : MethodName) prog_1_method_16_code (4 : Nat) (Option.some FieldType.boolean)) ∈ TT := tt_mem (tb3 (List.mem_of_getElem? (i := 143) rfl)) rfl
theorem w624 : (Cond.methodLink "LockHouse" (183 : Nat) ({ cls := "LockHouse$Door", name := "has", desc := "(ILLockHouse$EntryList;)Z" } : MethodName)) ∈ TT := tt_mem (tb3 (List.mem_of_getElem? (i := 144) rfl)) rfl
theorem w625 : (Cond.methodLink "LockHouseLaw" (137 : Nat) ({ cls := "LockHouseLaw", name := "reach", desc := "(LLockHouse;I[J)I" } : MethodName)) ∈ TT := tt_mem (tb3 (List.mem_of_getElem? (i := 145) rfl)) rfl
theorem w626 : (Cond.static ({ cls := "LockHouseLaw", name := "reach", desc := "(LLockHouse;I[J)I" } : MethodName)) ∈ TT := tt_mem (tb3 (List.mem_of_getElem? (i := 146) rfl)) rfl
theorem w627 : (Cond.codeWith ({ cls := "LockHouseLaw", name := "reach", desc := "(LLockHouse;I[J)I" } : MethodName) method_16_code (4 : Nat) (Option.some FieldType.int) [((0 : Nat), (9 : Nat), (12 : Nat), (19 : Nat))]) ∈ TT := tt_mem (tb3 (List.mem_of_getElem? (i := 147) rfl)) rfl
theorem w628 : (Cond.methodLink "LockHouseLaw" (61 : Nat) ({ cls := "LockHouse", name := "reach", desc := "(I)I" } : MethodName)) ∈ TT := tt_mem (tb3 (List.mem_of_getElem? (i := 148) rfl)) rfl
theorem w629 : (Cond.instanceMethod ({ cls := "LockHouse", name := "reach", desc := "(I)I" } : MethodName)) ∈ TT := tt_mem (tb3 (List.mem_of_getElem? (i := 149) rfl)) rfl
theorem w630 : (Cond.selects "LockHouse" ({ cls := "LockHouse", name := "reach", desc := "(I)I" } : MethodName) ({ cls := "LockHouse", name := "reach", desc := "(I)I" } : MethodName)) ∈ TT := tt_mem (tb3 (List.mem_of_getElem? (i := 150) rfl)) rfl
theorem w631 : (Cond.code ({ cls := "LockHouse", name := "reach", desc := "(I)I" } : MethodName) prog_1_method_17_code (2 : Nat) (Option.some FieldType.int)) ∈ TT := tt_mem (tb3 (List.mem_of_getElem? (i := 151) rfl)) rfl
theorem u632 : (Cond.stringRef "LockHouse" (187 : Nat) "no such entry") ∈ lw_tbl := tb3 (List.mem_of_getElem? (i := 152) rfl)
theorem w633 : (Cond.methodLink "LockHouse" (189 : Nat) ({ cls := "LockHouse$EntryList", name := "countDoorsWith", desc := "(I)I" } : MethodName)) ∈ TT := tt_mem (tb3 (List.mem_of_getElem? (i := 153) rfl)) rfl
theorem w634 : (Cond.instanceMethod ({ cls := "LockHouse$EntryList", name := "countDoorsWith", desc := "(I)I" } : MethodName)) ∈ TT := tt_mem (tb3 (List.mem_of_getElem? (i := 154) rfl)) rfl
theorem w635 : (Cond.selects "LockHouse$EntryList" ({ cls := "LockHouse$EntryList", name := "countDoorsWith", desc := "(I)I" } : MethodName) ({ cls := "LockHouse$EntryList", name := "countDoorsWith", desc := "(I)I" } : MethodName)) ∈ TT := tt_mem (tb3 (List.mem_of_getElem? (i := 155) rfl)) rfl
theorem w636 : (Cond.code ({ cls := "LockHouse$EntryList", name := "countDoorsWith", desc := "(I)I" } : MethodName) prog_5_method_8_code (2 : Nat) (Option.some FieldType.int)) ∈ TT := tt_mem (tb3 (List.mem_of_getElem? (i := 156) rfl)) rfl
theorem w637 : (Cond.methodLink "LockHouse$EntryList" (49 : Nat) ({ cls := "LockHouse$Entry", name := "countDoors", desc := "()I" } : MethodName)) ∈ TT := tt_mem (tb3 (List.mem_of_getElem? (i := 157) rfl)) rfl
theorem w638 : (Cond.instanceMethod ({ cls := "LockHouse$Entry", name := "countDoors", desc := "()I" } : MethodName)) ∈ TT := tt_mem (tb3 (List.mem_of_getElem? (i := 158) rfl)) rfl
theorem w639 : (Cond.selects "LockHouse$Entry" ({ cls := "LockHouse$Entry", name := "countDoors", desc := "()I" } : MethodName) ({ cls := "LockHouse$Entry", name := "countDoors", desc := "()I" } : MethodName)) ∈ TT := tt_mem (tb3 (List.mem_of_getElem? (i := 159) rfl)) rfl
theorem w640 : (Cond.code ({ cls := "LockHouse$Entry", name := "countDoors", desc := "()I" } : MethodName) prog_4_method_4_code (6 : Nat) (Option.some FieldType.int)) ∈ TT := tt_mem (tb3 (List.mem_of_getElem? (i := 160) rfl)) rfl
theorem w641 : (Cond.methodLink "LockHouseLaw" (140 : Nat) ({ cls := "LockHouseLaw", name := "loseBattery", desc := "(LLockHouse;I)I" } : MethodName)) ∈ TT := tt_mem (tb3 (List.mem_of_getElem? (i := 161) rfl)) rfl
theorem w642 : (Cond.static ({ cls := "LockHouseLaw", name := "loseBattery", desc := "(LLockHouse;I)I" } : MethodName)) ∈ TT := tt_mem (tb3 (List.mem_of_getElem? (i := 162) rfl)) rfl
theorem w643 : (Cond.codeWith ({ cls := "LockHouseLaw", name := "loseBattery", desc := "(LLockHouse;I)I" } : MethodName) method_17_code (3 : Nat) (Option.some FieldType.int) [((0 : Nat), (5 : Nat), (8 : Nat), (19 : Nat))]) ∈ TT := tt_mem (tb3 (List.mem_of_getElem? (i := 163) rfl)) rfl
theorem w644 : (Cond.methodLink "LockHouseLaw" (64 : Nat) ({ cls := "LockHouse", name := "loseBattery", desc := "(I)V" } : MethodName)) ∈ TT := tt_mem (tb3 (List.mem_of_getElem? (i := 164) rfl)) rfl
theorem w645 : (Cond.instanceMethod ({ cls := "LockHouse", name := "loseBattery", desc := "(I)V" } : MethodName)) ∈ TT := tt_mem (tb3 (List.mem_of_getElem? (i := 165) rfl)) rfl
theorem w646 : (Cond.selects "LockHouse" ({ cls := "LockHouse", name := "loseBattery", desc := "(I)V" } : MethodName) ({ cls := "LockHouse", name := "loseBattery", desc := "(I)V" } : MethodName)) ∈ TT := tt_mem (tb3 (List.mem_of_getElem? (i := 166) rfl)) rfl
theorem w647 : (Cond.code ({ cls := "LockHouse", name := "loseBattery", desc := "(I)V" } : MethodName) prog_1_method_18_code (2 : Nat) (Option.none : Option FieldType)) ∈ TT := tt_mem (tb3 (List.mem_of_getElem? (i := 167) rfl)) rfl
theorem w648 : (Cond.methodLink "LockHouseLaw" (143 : Nat) ({ cls := "LockHouseLaw", name := "visit", desc := "(LLockHouse;IIII)I" } : MethodName)) ∈ TT := tt_mem (tb3 (List.mem_of_getElem? (i := 168) rfl)) rfl
theorem w649 : (Cond.static ({ cls := "LockHouseLaw", name := "visit", desc := "(LLockHouse;IIII)I" } : MethodName)) ∈ TT := tt_mem (tb3 (List.mem_of_getElem? (i := 169) rfl)) rfl
theorem w650 : (Cond.codeWith ({ cls := "LockHouseLaw", name := "visit", desc := "(LLockHouse;IIII)I" } : MethodName) method_18_code (6 : Nat) (Option.some FieldType.int) [((0 : Nat), (9 : Nat), (12 : Nat), (19 : Nat))]) ∈ TT := tt_mem (tb3 (List.mem_of_getElem? (i := 170) rfl)) rfl
theorem w651 : (Cond.methodLink "LockHouseLaw" (67 : Nat) ({ cls := "LockHouse", name := "visit", desc := "(IIII)V" } : MethodName)) ∈ TT := tt_mem (tb3 (List.mem_of_getElem? (i := 171) rfl)) rfl
theorem w652 : (Cond.instanceMethod ({ cls := "LockHouse", name := "visit", desc := "(IIII)V" } : MethodName)) ∈ TT := tt_mem (tb3 (List.mem_of_getElem? (i := 172) rfl)) rfl
theorem w653 : (Cond.selects "LockHouse" ({ cls := "LockHouse", name := "visit", desc := "(IIII)V" } : MethodName) ({ cls := "LockHouse", name := "visit", desc := "(IIII)V" } : MethodName)) ∈ TT := tt_mem (tb3 (List.mem_of_getElem? (i := 173) rfl)) rfl
theorem w654 : (Cond.code ({ cls := "LockHouse", name := "visit", desc := "(IIII)V" } : MethodName) prog_1_method_19_code (5 : Nat) (Option.none : Option FieldType)) ∈ TT := tt_mem (tb3 (List.mem_of_getElem? (i := 174) rfl)) rfl
theorem u655 : (Cond.stringRef "LockHouse" (199 : Nat) "no such visit, card or door") ∈ lw_tbl := tb3 (List.mem_of_getElem? (i := 175) rfl)
theorem w656 : (Cond.methodLink "LockHouseLaw" (147 : Nat) ({ cls := "LockHouseLaw", name := "spread", desc := "(LLockHouse;I[J)I" } : MethodName)) ∈ TT := tt_mem (tb3 (List.mem_of_getElem? (i := 176) rfl)) rfl
theorem w657 : (Cond.static ({ cls := "LockHouseLaw", name := "spread", desc := "(LLockHouse;I[J)I" } : MethodName)) ∈ TT := tt_mem (tb3 (List.mem_of_getElem? (i := 177) rfl)) rfl
theorem w658 : (Cond.codeWith ({ cls := "LockHouseLaw", name := "spread", desc := "(LLockHouse;I[J)I" } : MethodName) method_19_code (4 : Nat) (Option.some FieldType.int) [((0 : Nat), (9 : Nat), (12 : Nat), (29 : Nat))]) ∈ TT := tt_mem (tb3 (List.mem_of_getElem? (i := 178) rfl)) rfl
theorem w659 : (Cond.methodLink "LockHouseLaw" (71 : Nat) ({ cls := "LockHouse", name := "spread", desc := "(I)I" } : MethodName)) ∈ TT := tt_mem (tb3 (List.mem_of_getElem? (i := 179) rfl)) rfl
theorem w660 : (Cond.instanceMethod ({ cls := "LockHouse", name := "spread", desc := "(I)I" } : MethodName)) ∈ TT := tt_mem (tb3 (List.mem_of_getElem? (i := 180) rfl)) rfl
theorem w661 : (Cond.selects "LockHouse" ({ cls := "LockHouse", name := "spread", desc := "(I)I" } : MethodName) ({ cls := "LockHouse", name := "spread", desc := "(I)I" } : MethodName)) ∈ TT := tt_mem (tb3 (List.mem_of_getElem? (i := 181) rfl)) rfl
theorem w662 : (Cond.code ({ cls := "LockHouse", name := "spread", desc := "(I)I" } : MethodName) prog_1_method_20_code (4 : Nat) (Option.some FieldType.int)) ∈ TT := tt_mem (tb3 (List.mem_of_getElem? (i := 182) rfl)) rfl
theorem u663 : (Cond.stringRef "LockHouse" (201 : Nat) "no such number of visits") ∈ lw_tbl := tb3 (List.mem_of_getElem? (i := 183) rfl)
theorem w664 : (Cond.classLink "LockHouseLaw" (75 : Nat) "LockHouseModel") ∈ TT := tt_mem (tb3 (List.mem_of_getElem? (i := 184) rfl)) rfl
theorem w665 : (Cond.instantiable "LockHouseModel" (18 : Nat)) ∈ TT := tt_mem (tb3 (List.mem_of_getElem? (i := 185) rfl)) rfl
theorem w666 : (Cond.methodLink "LockHouseLaw" (77 : Nat) ({ cls := "LockHouseModel", name := "<init>", desc := "()V" } : MethodName)) ∈ TT := tt_mem (tb3 (List.mem_of_getElem? (i := 186) rfl)) rfl
theorem w667 : (Cond.instanceMethod ({ cls := "LockHouseModel", name := "<init>", desc := "()V" } : MethodName)) ∈ TT := tt_mem (tb3 (List.mem_of_getElem? (i := 187) rfl)) rfl
theorem w668 : (Cond.code ({ cls := "LockHouseModel", name := "<init>", desc := "()V" } : MethodName) prog_8_method_1_code (1 : Nat) (Option.none : Option FieldType)) ∈ TT := tt_mem (tb3 (List.mem_of_getElem? (i := 188) rfl)) rfl
theorem w669 : (Cond.methodLink "LockHouseModel" (1 : Nat) ({ cls := "java/lang/Object", name := "<init>", desc := "()V" } : MethodName)) ∈ TT := tt_mem (tb3 (List.mem_of_getElem? (i := 189) rfl)) rfl
theorem w670 : (Cond.constant "LockHouseModel" (22 : Nat) (352000 : Int32)) ∈ TT := tt_mem (tb3 (List.mem_of_getElem? (i := 190) rfl)) rfl
theorem w671 : (Cond.constant "LockHouseModel" (33 : Nat) (600200 : Int32)) ∈ TT := tt_mem (tb3 (List.mem_of_getElem? (i := 191) rfl)) rfl
theorem w672 : (Cond.fieldLink "LockHouseModel" (59 : Nat) "LockHouseModel" "code" "I") ∈ TT := tt_mem (tb3 (List.mem_of_getElem? (i := 192) rfl)) rfl
theorem w673 : (Cond.fieldLink "LockHouseModel" (63 : Nat) "LockHouseModel" "cards" "I") ∈ TT := tt_mem (tb3 (List.mem_of_getElem? (i := 193) rfl)) rfl
theorem w674 : (Cond.fieldLink "LockHouseModel" (7 : Nat) "LockHouseModel" "zones" "[I") ∈ TT := tt_mem (tb3 (List.mem_of_getElem? (i := 194) rfl)) rfl
theorem w675 : (Cond.fieldLink "LockHouseModel" (13 : Nat) "LockHouseModel" "endDay" "[I") ∈ TT := tt_mem (tb3 (List.mem_of_getElem? (i := 195) rfl)) rfl
theorem w676 : (Cond.fieldLink "LockHouseModel" (16 : Nat) "LockHouseModel" "keep" "[I") ∈ TT := tt_mem (tb3 (List.mem_of_getElem? (i := 196) rfl)) rfl
theorem w677 : (Cond.fieldLink "LockHouseModel" (19 : Nat) "LockHouseModel" "written" "[I") ∈ TT := tt_mem (tb3 (List.mem_of_getElem? (i := 197) rfl)) rfl
theorem w678 : (Cond.fieldLink "LockHouseModel" (23 : Nat) "LockHouseModel" "words" "[S") ∈ TT := tt_mem (tb3 (List.mem_of_getElem? (i := 198) rfl)) rfl
theorem w679 : (Cond.fieldLink "LockHouseModel" (27 : Nat) "LockHouseModel" "entryFor" "[I") ∈ TT := tt_mem (tb3 (List.mem_of_getElem? (i := 199) rfl)) rfl
theorem w680 : (Cond.fieldLink "LockHouseModel" (30 : Nat) "LockHouseModel" "cardOf" "[I") ∈ TT := tt_mem (tb3 (List.mem_of_getElem? (i := 200) rfl)) rfl
theorem w681 : (Cond.fieldLink "LockHouseModel" (70 : Nat) "LockHouseModel" "entries" "I") ∈ TT := tt_mem (tb3 (List.mem_of_getElem? (i := 201) rfl)) rfl
theorem w682 : (Cond.fieldLink "LockHouseModel" (34 : Nat) "LockHouseModel" "has" "[Z") ∈ TT := tt_mem (tb3 (List.mem_of_getElem? (i := 202) rfl)) rfl
theorem w683 : (Cond.fieldLink "LockHouseModel" (38 : Nat) "LockHouseModel" "zone" "[I") ∈ TT := tt_mem (tb3 (List.mem_of_getElem? (i := 203) rfl)) rfl
theorem w684 : (Cond.fieldLink "LockHouseModel" (41 : Nat) "LockHouseModel" "used" "[Z") ∈ TT := tt_mem (tb3 (List.mem_of_getElem? (i := 204) rfl)) rfl
theorem w685 : (Cond.fieldLink "LockHouseModel" (44 : Nat) "LockHouseModel" "heard" "[I") ∈ TT := tt_mem (tb3 (List.mem_of_getElem? (i := 205) rfl)) rfl
theorem w686 : (Cond.fieldLink "LockHouseModel" (47 : Nat) "LockHouseModel" "some" "[Z") ∈ TT := tt_mem (tb3 (List.mem_of_getElem? (i := 206) rfl)) rfl
theorem w687 : (Cond.fieldLink "LockHouseModel" (50 : Nat) "LockHouseModel" "visitCard" "[I") ∈ TT := tt_mem (tb3 (List.mem_of_getElem? (i := 207) rfl)) rfl
theorem w688 : (Cond.fieldLink "LockHouseModel" (53 : Nat) "LockHouseModel" "visitDoor" "[I") ∈ TT := tt_mem (tb3 (List.mem_of_getElem? (i := 208) rfl)) rfl
theorem w689 : (Cond.fieldLink "LockHouseModel" (56 : Nat) "LockHouseModel" "visitDay" "[I") ∈ TT := tt_mem (tb3 (List.mem_of_getElem? (i := 209) rfl)) rfl
theorem w690 : (Cond.lays "LockHouseModel" "LockHouseModel" "code" "I") ∈ TT := tt_mem (tb3 (List.mem_of_getElem? (i := 210) rfl)) rfl
theorem w691 : (Cond.soleField "LockHouseModel" "code") ∈ TT := tt_mem (tb3 (List.mem_of_getElem? (i := 211) rfl)) rfl
theorem w692 : (Cond.lays "LockHouseModel" "LockHouseModel" "cards" "I") ∈ TT := tt_mem (tb3 (List.mem_of_getElem? (i := 212) rfl)) rfl
theorem w693 : (Cond.soleField "LockHouseModel" "cards") ∈ TT := tt_mem (tb3 (List.mem_of_getElem? (i := 213) rfl)) rfl
theorem w694 : (Cond.laysFinal "LockHouseModel" "LockHouseModel" "zones" "[I") ∈ TT := tt_mem (tb3 (List.mem_of_getElem? (i := 214) rfl)) rfl
theorem w695 : (Cond.soleField "LockHouseModel" "zones") ∈ TT := tt_mem (tb3 (List.mem_of_getElem? (i := 215) rfl)) rfl
theorem w696 : (Cond.laysFinal "LockHouseModel" "LockHouseModel" "endDay" "[I") ∈ TT := tt_mem (tb3 (List.mem_of_getElem? (i := 216) rfl)) rfl
theorem w697 : (Cond.soleField "LockHouseModel" "endDay") ∈ TT := tt_mem (tb3 (List.mem_of_getElem? (i := 217) rfl)) rfl
theorem w698 : (Cond.laysFinal "LockHouseModel" "LockHouseModel" "keep" "[I") ∈ TT := tt_mem (tb3 (List.mem_of_getElem? (i := 218) rfl)) rfl
theorem w699 : (Cond.soleField "LockHouseModel" "keep") ∈ TT := tt_mem (tb3 (List.mem_of_getElem? (i := 219) rfl)) rfl
theorem w700 : (Cond.laysFinal "LockHouseModel" "LockHouseModel" "written" "[I") ∈ TT := tt_mem (tb3 (List.mem_of_getElem? (i := 220) rfl)) rfl
theorem w701 : (Cond.soleField "LockHouseModel" "written") ∈ TT := tt_mem (tb3 (List.mem_of_getElem? (i := 221) rfl)) rfl
theorem w702 : (Cond.laysFinal "LockHouseModel" "LockHouseModel" "words" "[S") ∈ TT := tt_mem (tb3 (List.mem_of_getElem? (i := 222) rfl)) rfl
theorem w703 : (Cond.soleField "LockHouseModel" "words") ∈ TT := tt_mem (tb3 (List.mem_of_getElem? (i := 223) rfl)) rfl
theorem w704 : (Cond.laysFinal "LockHouseModel" "LockHouseModel" "entryFor" "[I") ∈ TT := tt_mem (tb3 (List.mem_of_getElem? (i := 224) rfl)) rfl
theorem w705 : (Cond.soleField "LockHouseModel" "entryFor") ∈ TT := tt_mem (tb3 (List.mem_of_getElem? (i := 225) rfl)) rfl
theorem w706 : (Cond.laysFinal "LockHouseModel" "LockHouseModel" "cardOf" "[I") ∈ TT := tt_mem (tb3 (List.mem_of_getElem? (i := 226) rfl)) rfl
theorem w707 : (Cond.soleField "LockHouseModel" "cardOf") ∈ TT := tt_mem (tb3 (List.mem_of_getElem? (i := 227) rfl)) rfl
theorem w708 : (Cond.lays "LockHouseModel" "LockHouseModel" "entries" "I") ∈ TT := tt_mem (tb3 (List.mem_of_getElem? (i := 228) rfl)) rfl
theorem w709 : (Cond.soleField "LockHouseModel" "entries") ∈ TT := tt_mem (tb3 (List.mem_of_getElem? (i := 229) rfl)) rfl
theorem w710 : (Cond.laysFinal "LockHouseModel" "LockHouseModel" "has" "[Z") ∈ TT := tt_mem (tb3 (List.mem_of_getElem? (i := 230) rfl)) rfl
theorem w711 : (Cond.soleField "LockHouseModel" "has") ∈ TT := tt_mem (tb3 (List.mem_of_getElem? (i := 231) rfl)) rfl
theorem w712 : (Cond.laysFinal "LockHouseModel" "LockHouseModel" "zone" "[I") ∈ TT := tt_mem (tb3 (List.mem_of_getElem? (i := 232) rfl)) rfl
theorem w713 : (Cond.soleField "LockHouseModel" "zone") ∈ TT := tt_mem (tb3 (List.mem_of_getElem? (i := 233) rfl)) rfl
theorem w714 : (Cond.laysFinal "LockHouseModel" "LockHouseModel" "used" "[Z") ∈ TT := tt_mem (tb3 (List.mem_of_getElem? (i := 234) rfl)) rfl
theorem w715 : (Cond.soleField "LockHouseModel" "used") ∈ TT := tt_mem (tb3 (List.mem_of_getElem? (i := 235) rfl)) rfl
theorem w716 : (Cond.laysFinal "LockHouseModel" "LockHouseModel" "heard" "[I") ∈ TT := tt_mem (tb3 (List.mem_of_getElem? (i := 236) rfl)) rfl
theorem w717 : (Cond.soleField "LockHouseModel" "heard") ∈ TT := tt_mem (tb3 (List.mem_of_getElem? (i := 237) rfl)) rfl
theorem w718 : (Cond.laysFinal "LockHouseModel" "LockHouseModel" "some" "[Z") ∈ TT := tt_mem (tb3 (List.mem_of_getElem? (i := 238) rfl)) rfl
theorem w719 : (Cond.soleField "LockHouseModel" "some") ∈ TT := tt_mem (tb3 (List.mem_of_getElem? (i := 239) rfl)) rfl
theorem w720 : (Cond.laysFinal "LockHouseModel" "LockHouseModel" "visitCard" "[I") ∈ TT := tt_mem (tb4 (List.mem_of_getElem? (i := 0) rfl)) rfl
theorem w721 : (Cond.soleField "LockHouseModel" "visitCard") ∈ TT := tt_mem (tb4 (List.mem_of_getElem? (i := 1) rfl)) rfl
theorem w722 : (Cond.laysFinal "LockHouseModel" "LockHouseModel" "visitDoor" "[I") ∈ TT := tt_mem (tb4 (List.mem_of_getElem? (i := 2) rfl)) rfl
theorem w723 : (Cond.soleField "LockHouseModel" "visitDoor") ∈ TT := tt_mem (tb4 (List.mem_of_getElem? (i := 3) rfl)) rfl
theorem w724 : (Cond.laysFinal "LockHouseModel" "LockHouseModel" "visitDay" "[I") ∈ TT := tt_mem (tb4 (List.mem_of_getElem? (i := 4) rfl)) rfl
theorem w725 : (Cond.soleField "LockHouseModel" "visitDay") ∈ TT := tt_mem (tb4 (List.mem_of_getElem? (i := 5) rfl)) rfl
theorem w726 : (Cond.superclass "LockHouseModel" "java/lang/Object") ∈ TT := tt_mem (tb4 (List.mem_of_getElem? (i := 6) rfl)) rfl
theorem w727 : (Cond.methodLink "LockHouseLaw" (84 : Nat) ({ cls := "LockHouseModel", name := "thrown", desc := "()I" } : MethodName)) ∈ TT := tt_mem (tb4 (List.mem_of_getElem? (i := 7) rfl)) rfl
theorem w728 : (Cond.instanceMethod ({ cls := "LockHouseModel", name := "thrown", desc := "()I" } : MethodName)) ∈ TT := tt_mem (tb4 (List.mem_of_getElem? (i := 8) rfl)) rfl
theorem w729 : (Cond.selects "LockHouseModel" ({ cls := "LockHouseModel", name := "thrown", desc := "()I" } : MethodName) ({ cls := "LockHouseModel", name := "thrown", desc := "()I" } : MethodName)) ∈ TT := tt_mem (tb4 (List.mem_of_getElem? (i := 9) rfl)) rfl
theorem w730 : (Cond.code ({ cls := "LockHouseModel", name := "thrown", desc := "()I" } : MethodName) prog_8_method_2_code (1 : Nat) (Option.some FieldType.int)) ∈ TT := tt_mem (tb4 (List.mem_of_getElem? (i := 10) rfl)) rfl
theorem w731 : (Cond.methodLink "LockHouseLaw" (83 : Nat) ({ cls := "LockHouseModel", name := "issue", desc := "(II)I" } : MethodName)) ∈ TT := tt_mem (tb4 (List.mem_of_getElem? (i := 11) rfl)) rfl
theorem w732 : (Cond.instanceMethod ({ cls := "LockHouseModel", name := "issue", desc := "(II)I" } : MethodName)) ∈ TT := tt_mem (tb4 (List.mem_of_getElem? (i := 12) rfl)) rfl
theorem w733 : (Cond.selects "LockHouseModel" ({ cls := "LockHouseModel", name := "issue", desc := "(II)I" } : MethodName) ({ cls := "LockHouseModel", name := "issue", desc := "(II)I" } : MethodName)) ∈ TT := tt_mem (tb4 (List.mem_of_getElem? (i := 13) rfl)) rfl
theorem w734 : (Cond.code ({ cls := "LockHouseModel", name := "issue", desc := "(II)I" } : MethodName) prog_8_method_5_code (3 : Nat) (Option.some FieldType.int)) ∈ TT := tt_mem (tb4 (List.mem_of_getElem? (i := 14) rfl)) rfl
theorem w735 : (Cond.methodLink "LockHouseLaw" (91 : Nat) ({ cls := "LockHouseModel", name := "cards", desc := "()I" } : MethodName)) ∈ TT := tt_mem (tb4 (List.mem_of_getElem? (i := 15) rfl)) rfl
theorem w736 : (Cond.instanceMethod ({ cls := "LockHouseModel", name := "cards", desc := "()I" } : MethodName)) ∈ TT := tt_mem (tb4 (List.mem_of_getElem? (i := 16) rfl)) rfl
theorem w737 : (Cond.selects "LockHouseModel" ({ cls := "LockHouseModel", name := "cards", desc := "()I" } : MethodName) ({ cls := "LockHouseModel", name := "cards", desc := "()I" } : MethodName)) ∈ TT := tt_mem (tb4 (List.mem_of_getElem? (i := 17) rfl)) rfl
theorem w738 : (Cond.code ({ cls := "LockHouseModel", name := "cards", desc := "()I" } : MethodName) prog_8_method_6_code (1 : Nat) (Option.some FieldType.int)) ∈ TT := tt_mem (tb4 (List.mem_of_getElem? (i := 18) rfl)) rfl
theorem w739 : (Cond.methodLink "LockHouseLaw" (95 : Nat) ({ cls := "LockHouseModel", name := "revoke", desc := "(I)I" } : MethodName)) ∈ TT := tt_mem (tb4 (List.mem_of_getElem? (i := 19) rfl)) rfl
theorem w740 : (Cond.instanceMethod ({ cls := "LockHouseModel", name := "revoke", desc := "(I)I" } : MethodName)) ∈ TT := tt_mem (tb4 (List.mem_of_getElem? (i := 20) rfl)) rfl
theorem w741 : (Cond.selects "LockHouseModel" ({ cls := "LockHouseModel", name := "revoke", desc := "(I)I" } : MethodName) ({ cls := "LockHouseModel", name := "revoke", desc := "(I)I" } : MethodName)) ∈ TT := tt_mem (tb4 (List.mem_of_getElem? (i := 21) rfl)) rfl
theorem w742 : (Cond.code ({ cls := "LockHouseModel", name := "revoke", desc := "(I)I" } : MethodName) prog_8_method_7_code (2 : Nat) (Option.some FieldType.int)) ∈ TT := tt_mem (tb4 (List.mem_of_getElem? (i := 22) rfl)) rfl
theorem w743 : (Cond.methodLink "LockHouseModel" (66 : Nat) ({ cls := "LockHouseModel", name := "noCard", desc := "(I)Z" } : MethodName)) ∈ TT := tt_mem (tb4 (List.mem_of_getElem? (i := 23) rfl)) rfl
theorem u744 : (Cond.privateMethod ({ cls := "LockHouseModel", name := "noCard", desc := "(I)Z" } : MethodName)) ∈ lw_tbl := tb4 (List.mem_of_getElem? (i := 24) rfl)
theorem w745 : (Cond.instanceMethod ({ cls := "LockHouseModel", name := "noCard", desc := "(I)Z" } : MethodName)) ∈ TT := tt_mem (tb4 (List.mem_of_getElem? (i := 25) rfl)) rfl
theorem w746 : (Cond.code ({ cls := "LockHouseModel", name := "noCard", desc := "(I)Z" } : MethodName) prog_8_method_3_code (2 : Nat) (Option.some FieldType.boolean)) ∈ TT := tt_mem (tb4 (List.mem_of_getElem? (i := 26) rfl)) rfl
theorem w747 : (Cond.methodLink "LockHouseLaw" (99 : Nat) ({ cls := "LockHouseModel", name := "entries", desc := "()I" } : MethodName)) ∈ TT := tt_mem (tb4 (List.mem_of_getElem? (i := 27) rfl)) rfl
theorem w748 : (Cond.instanceMethod ({ cls := "LockHouseModel", name := "entries", desc := "()I" } : MethodName)) ∈ TT := tt_mem (tb4 (List.mem_of_getElem? (i := 28) rfl)) rfl
theorem w749 : (Cond.selects "LockHouseModel" ({ cls := "LockHouseModel", name := "entries", desc := "()I" } : MethodName) ({ cls := "LockHouseModel", name := "entries", desc := "()I" } : MethodName)) ∈ TT := tt_mem (tb4 (List.mem_of_getElem? (i := 29) rfl)) rfl
theorem w750 : (Cond.code ({ cls := "LockHouseModel", name := "entries", desc := "()I" } : MethodName) prog_8_method_8_code (1 : Nat) (Option.some FieldType.int)) ∈ TT := tt_mem (tb4 (List.mem_of_getElem? (i := 30) rfl)) rfl
theorem w751 : (Cond.methodLink "LockHouseLaw" (103 : Nat) ({ cls := "LockHouseModel", name := "gate", desc := "(I)V" } : MethodName)) ∈ TT := tt_mem (tb4 (List.mem_of_getElem? (i := 31) rfl)) rfl
theorem w752 : (Cond.instanceMethod ({ cls := "LockHouseModel", name := "gate", desc := "(I)V" } : MethodName)) ∈ TT := tt_mem (tb4 (List.mem_of_getElem? (i := 32) rfl)) rfl
theorem w753 : (Cond.selects "LockHouseModel" ({ cls := "LockHouseModel", name := "gate", desc := "(I)V" } : MethodName) ({ cls := "LockHouseModel", name := "gate", desc := "(I)V" } : MethodName)) ∈ TT := tt_mem (tb4 (List.mem_of_getElem? (i := 33) rfl)) rfl
theorem w754 : (Cond.code ({ cls := "LockHouseModel", name := "gate", desc := "(I)V" } : MethodName) prog_8_method_19_code (2 : Nat) (Option.none : Option FieldType)) ∈ TT := tt_mem (tb4 (List.mem_of_getElem? (i := 34) rfl)) rfl
theorem w755 : (Cond.methodLink "LockHouseModel" (102 : Nat) ({ cls := "LockHouseModel", name := "write", desc := "(IIII)V" } : MethodName)) ∈ TT := tt_mem (tb4 (List.mem_of_getElem? (i := 35) rfl)) rfl
theorem u756 : (Cond.privateMethod ({ cls := "LockHouseModel", name := "write", desc := "(IIII)V" } : MethodName)) ∈ lw_tbl := tb4 (List.mem_of_getElem? (i := 36) rfl)
theorem w757 : (Cond.instanceMethod ({ cls := "LockHouseModel", name := "write", desc := "(IIII)V" } : MethodName)) ∈ TT := tt_mem (tb4 (List.mem_of_getElem? (i := 37) rfl)) rfl
theorem w758 : (Cond.code ({ cls := "LockHouseModel", name := "write", desc := "(IIII)V" } : MethodName) prog_8_method_17_code (11 : Nat) (Option.none : Option FieldType)) ∈ TT := tt_mem (tb4 (List.mem_of_getElem? (i := 38) rfl)) rfl
theorem w759 : (Cond.methodLink "LockHouseModel" (98 : Nat) ({ cls := "LockHouseModel", name := "tells", desc := "(IIII)Z" } : MethodName)) ∈ TT := tt_mem (tb4 (List.mem_of_getElem? (i := 39) rfl)) rfl
theorem u760 : (Cond.privateMethod ({ cls := "LockHouseModel", name := "tells", desc := "(IIII)Z" } : MethodName)) ∈ lw_tbl := tb4 (List.mem_of_getElem? (i := 40) rfl)
theorem w761 : (Cond.instanceMethod ({ cls := "LockHouseModel", name := "tells", desc := "(IIII)Z" } : MethodName)) ∈ TT := tt_mem (tb4 (List.mem_of_getElem? (i := 41) rfl)) rfl
theorem w762 : (Cond.code ({ cls := "LockHouseModel", name := "tells", desc := "(IIII)Z" } : MethodName) prog_8_method_16_code (7 : Nat) (Option.some FieldType.boolean)) ∈ TT := tt_mem (tb4 (List.mem_of_getElem? (i := 42) rfl)) rfl
theorem w763 : (Cond.methodLink "LockHouseModel" (89 : Nat) ({ cls := "LockHouseModel", name := "count", desc := "(I)I" } : MethodName)) ∈ TT := tt_mem (tb4 (List.mem_of_getElem? (i := 43) rfl)) rfl
theorem u764 : (Cond.privateMethod ({ cls := "LockHouseModel", name := "count", desc := "(I)I" } : MethodName)) ∈ lw_tbl := tb4 (List.mem_of_getElem? (i := 44) rfl)
theorem w765 : (Cond.instanceMethod ({ cls := "LockHouseModel", name := "count", desc := "(I)I" } : MethodName)) ∈ TT := tt_mem (tb4 (List.mem_of_getElem? (i := 45) rfl)) rfl
theorem w766 : (Cond.code ({ cls := "LockHouseModel", name := "count", desc := "(I)I" } : MethodName) prog_8_method_13_code (2 : Nat) (Option.some FieldType.int)) ∈ TT := tt_mem (tb4 (List.mem_of_getElem? (i := 46) rfl)) rfl
theorem w767 : (Cond.methodLink "LockHouseModel" (85 : Nat) ({ cls := "LockHouseModel", name := "current", desc := "(I)I" } : MethodName)) ∈ TT := tt_mem (tb4 (List.mem_of_getElem? (i := 47) rfl)) rfl
theorem u768 : (Cond.privateMethod ({ cls := "LockHouseModel", name := "current", desc := "(I)I" } : MethodName)) ∈ lw_tbl := tb4 (List.mem_of_getElem? (i := 48) rfl)
theorem w769 : (Cond.instanceMethod ({ cls := "LockHouseModel", name := "current", desc := "(I)I" } : MethodName)) ∈ TT := tt_mem (tb4 (List.mem_of_getElem? (i := 49) rfl)) rfl
theorem w770 : (Cond.code ({ cls := "LockHouseModel", name := "current", desc := "(I)I" } : MethodName) prog_8_method_12_code (3 : Nat) (Option.some FieldType.int)) ∈ TT := tt_mem (tb4 (List.mem_of_getElem? (i := 50) rfl)) rfl
theorem w771 : (Cond.methodLink "LockHouseModel" (77 : Nat) ({ cls := "LockHouseModel", name := "whole", desc := "(II)Z" } : MethodName)) ∈ TT := tt_mem (tb4 (List.mem_of_getElem? (i := 51) rfl)) rfl
theorem u772 : (Cond.privateMethod ({ cls := "LockHouseModel", name := "whole", desc := "(II)Z" } : MethodName)) ∈ lw_tbl := tb4 (List.mem_of_getElem? (i := 52) rfl)
theorem w773 : (Cond.instanceMethod ({ cls := "LockHouseModel", name := "whole", desc := "(II)Z" } : MethodName)) ∈ TT := tt_mem (tb4 (List.mem_of_getElem? (i := 53) rfl)) rfl
theorem w774 : (Cond.code ({ cls := "LockHouseModel", name := "whole", desc := "(II)Z" } : MethodName) prog_8_method_10_code (3 : Nat) (Option.some FieldType.boolean)) ∈ TT := tt_mem (tb4 (List.mem_of_getElem? (i := 54) rfl)) rfl
theorem w775 : (Cond.methodLink "LockHouseModel" (73 : Nat) ({ cls := "LockHouseModel", name := "wordAt", desc := "(III)I" } : MethodName)) ∈ TT := tt_mem (tb4 (List.mem_of_getElem? (i := 55) rfl)) rfl
theorem u776 : (Cond.privateMethod ({ cls := "LockHouseModel", name := "wordAt", desc := "(III)I" } : MethodName)) ∈ lw_tbl := tb4 (List.mem_of_getElem? (i := 56) rfl)
theorem w777 : (Cond.instanceMethod ({ cls := "LockHouseModel", name := "wordAt", desc := "(III)I" } : MethodName)) ∈ TT := tt_mem (tb4 (List.mem_of_getElem? (i := 57) rfl)) rfl
theorem w778 : (Cond.code ({ cls := "LockHouseModel", name := "wordAt", desc := "(III)I" } : MethodName) prog_8_method_9_code (4 : Nat) (Option.some FieldType.int)) ∈ TT := tt_mem (tb4 (List.mem_of_getElem? (i := 58) rfl)) rfl
theorem w779 : (Cond.methodLink "LockHouseModel" (81 : Nat) ({ cls := "LockHouseModel", name := "sequence", desc := "(II)I" } : MethodName)) ∈ TT := tt_mem (tb4 (List.mem_of_getElem? (i := 59) rfl)) rfl
theorem u780 : (Cond.privateMethod ({ cls := "LockHouseModel", name := "sequence", desc := "(II)I" } : MethodName)) ∈ lw_tbl := tb4 (List.mem_of_getElem? (i := 60) rfl)
theorem w781 : (Cond.instanceMethod ({ cls := "LockHouseModel", name := "sequence", desc := "(II)I" } : MethodName)) ∈ TT := tt_mem (tb4 (List.mem_of_getElem? (i := 61) rfl)) rfl
theorem w782 : (Cond.code ({ cls := "LockHouseModel", name := "sequence", desc := "(II)I" } : MethodName) prog_8_method_11_code (3 : Nat) (Option.some FieldType.int)) ∈ TT := tt_mem (tb4 (List.mem_of_getElem? (i := 62) rfl)) rfl
theorem w783 : (Cond.methodLink "LockHouseModel" (92 : Nat) ({ cls := "LockHouseModel", name := "first", desc := "(I)I" } : MethodName)) ∈ TT := tt_mem (tb4 (List.mem_of_getElem? (i := 63) rfl)) rfl
theorem u784 : (Cond.privateMethod ({ cls := "LockHouseModel", name := "first", desc := "(I)I" } : MethodName)) ∈ lw_tbl := tb4 (List.mem_of_getElem? (i := 64) rfl)
theorem w785 : (Cond.instanceMethod ({ cls := "LockHouseModel", name := "first", desc := "(I)I" } : MethodName)) ∈ TT := tt_mem (tb4 (List.mem_of_getElem? (i := 65) rfl)) rfl
theorem w786 : (Cond.code ({ cls := "LockHouseModel", name := "first", desc := "(I)I" } : MethodName) prog_8_method_14_code (2 : Nat) (Option.some FieldType.int)) ∈ TT := tt_mem (tb4 (List.mem_of_getElem? (i := 66) rfl)) rfl
theorem w787 : (Cond.methodLink "LockHouseModel" (95 : Nat) ({ cls := "LockHouseModel", name := "seen", desc := "(I)I" } : MethodName)) ∈ TT := tt_mem (tb4 (List.mem_of_getElem? (i := 67) rfl)) rfl
theorem u788 : (Cond.privateMethod ({ cls := "LockHouseModel", name := "seen", desc := "(I)I" } : MethodName)) ∈ lw_tbl := tb4 (List.mem_of_getElem? (i := 68) rfl)
theorem w789 : (Cond.instanceMethod ({ cls := "LockHouseModel", name := "seen", desc := "(I)I" } : MethodName)) ∈ TT := tt_mem (tb4 (List.mem_of_getElem? (i := 69) rfl)) rfl
theorem w790 : (Cond.code ({ cls := "LockHouseModel", name := "seen", desc := "(I)I" } : MethodName) prog_8_method_15_code (2 : Nat) (Option.some FieldType.int)) ∈ TT := tt_mem (tb4 (List.mem_of_getElem? (i := 70) rfl)) rfl
theorem w791 : (Cond.methodLink "LockHouseModel" (106 : Nat) ({ cls := "LockHouseModel", name := "give", desc := "(IIII)V" } : MethodName)) ∈ TT := tt_mem (tb4 (List.mem_of_getElem? (i := 71) rfl)) rfl
theorem u792 : (Cond.privateMethod ({ cls := "LockHouseModel", name := "give", desc := "(IIII)V" } : MethodName)) ∈ lw_tbl := tb4 (List.mem_of_getElem? (i := 72) rfl)
theorem w793 : (Cond.instanceMethod ({ cls := "LockHouseModel", name := "give", desc := "(IIII)V" } : MethodName)) ∈ TT := tt_mem (tb4 (List.mem_of_getElem? (i := 73) rfl)) rfl
theorem w794 : (Cond.code ({ cls := "LockHouseModel", name := "give", desc := "(IIII)V" } : MethodName) prog_8_method_18_code (6 : Nat) (Option.none : Option FieldType)) ∈ TT := tt_mem (tb4 (List.mem_of_getElem? (i := 74) rfl)) rfl
theorem w795 : (Cond.methodLink "LockHouseLaw" (107 : Nat) ({ cls := "LockHouseModel", name := "zoneOf", desc := "(II)V" } : MethodName)) ∈ TT := tt_mem (tb4 (List.mem_of_getElem? (i := 75) rfl)) rfl
theorem w796 : (Cond.instanceMethod ({ cls := "LockHouseModel", name := "zoneOf", desc := "(II)V" } : MethodName)) ∈ TT := tt_mem (tb4 (List.mem_of_getElem? (i := 76) rfl)) rfl
theorem w797 : (Cond.selects "LockHouseModel" ({ cls := "LockHouseModel", name := "zoneOf", desc := "(II)V" } : MethodName) ({ cls := "LockHouseModel", name := "zoneOf", desc := "(II)V" } : MethodName)) ∈ TT := tt_mem (tb4 (List.mem_of_getElem? (i := 77) rfl)) rfl
theorem w798 : (Cond.code ({ cls := "LockHouseModel", name := "zoneOf", desc := "(II)V" } : MethodName) prog_8_method_20_code (3 : Nat) (Option.none : Option FieldType)) ∈ TT := tt_mem (tb4 (List.mem_of_getElem? (i := 78) rfl)) rfl
theorem w799 : (Cond.methodLink "LockHouseModel" (109 : Nat) ({ cls := "LockHouseModel", name := "noDoor", desc := "(I)Z" } : MethodName)) ∈ TT := tt_mem (tb4 (List.mem_of_getElem? (i := 79) rfl)) rfl
theorem w800 : (Cond.static ({ cls := "LockHouseModel", name := "noDoor", desc := "(I)Z" } : MethodName)) ∈ TT := tt_mem (tb4 (List.mem_of_getElem? (i := 80) rfl)) rfl
theorem w801 : (Cond.code ({ cls := "LockHouseModel", name := "noDoor", desc := "(I)Z" } : MethodName) prog_8_method_4_code (1 : Nat) (Option.some FieldType.boolean)) ∈ TT := tt_mem (tb4 (List.mem_of_getElem? (i := 81) rfl)) rfl
theorem w802 : (Cond.methodLink "LockHouseLaw" (111 : Nat) ({ cls := "LockHouseModel", name := "show", desc := "(III)I" } : MethodName)) ∈ TT := tt_mem (tb4 (List.mem_of_getElem? (i := 82) rfl)) rfl
theorem w803 : (Cond.instanceMethod ({ cls := "LockHouseModel", name := "show", desc := "(III)I" } : MethodName)) ∈ TT := tt_mem (tb4 (List.mem_of_getElem? (i := 83) rfl)) rfl
theorem w804 : (Cond.selects "LockHouseModel" ({ cls := "LockHouseModel", name := "show", desc := "(III)I" } : MethodName) ({ cls := "LockHouseModel", name := "show", desc := "(III)I" } : MethodName)) ∈ TT := tt_mem (tb4 (List.mem_of_getElem? (i := 84) rfl)) rfl
theorem w805 : (Cond.code ({ cls := "LockHouseModel", name := "show", desc := "(III)I" } : MethodName) prog_8_method_25_code (4 : Nat) (Option.some FieldType.int)) ∈ TT := tt_mem (tb4 (List.mem_of_getElem? (i := 85) rfl)) rfl
theorem w806 : (Cond.methodLink "LockHouseModel" (118 : Nat) ({ cls := "LockHouseModel", name := "visitAt", desc := "(III)I" } : MethodName)) ∈ TT := tt_mem (tb4 (List.mem_of_getElem? (i := 86) rfl)) rfl
theorem u807 : (Cond.privateMethod ({ cls := "LockHouseModel", name := "visitAt", desc := "(III)I" } : MethodName)) ∈ lw_tbl := tb4 (List.mem_of_getElem? (i := 87) rfl)
theorem w808 : (Cond.instanceMethod ({ cls := "LockHouseModel", name := "visitAt", desc := "(III)I" } : MethodName)) ∈ TT := tt_mem (tb4 (List.mem_of_getElem? (i := 88) rfl)) rfl
theorem w809 : (Cond.code ({ cls := "LockHouseModel", name := "visitAt", desc := "(III)I" } : MethodName) prog_8_method_23_code (9 : Nat) (Option.some FieldType.int)) ∈ TT := tt_mem (tb4 (List.mem_of_getElem? (i := 89) rfl)) rfl
theorem w810 : (Cond.methodLink "LockHouseModel" (112 : Nat) ({ cls := "LockHouseModel", name := "revokedAt", desc := "(II)Z" } : MethodName)) ∈ TT := tt_mem (tb4 (List.mem_of_getElem? (i := 90) rfl)) rfl
theorem u811 : (Cond.privateMethod ({ cls := "LockHouseModel", name := "revokedAt", desc := "(II)Z" } : MethodName)) ∈ lw_tbl := tb4 (List.mem_of_getElem? (i := 91) rfl)
theorem w812 : (Cond.instanceMethod ({ cls := "LockHouseModel", name := "revokedAt", desc := "(II)Z" } : MethodName)) ∈ TT := tt_mem (tb4 (List.mem_of_getElem? (i := 92) rfl)) rfl
theorem w813 : (Cond.code ({ cls := "LockHouseModel", name := "revokedAt", desc := "(II)Z" } : MethodName) prog_8_method_24_code (3 : Nat) (Option.some FieldType.boolean)) ∈ TT := tt_mem (tb4 (List.mem_of_getElem? (i := 93) rfl)) rfl
theorem w814 : (Cond.methodLink "LockHouseModel" (115 : Nat) ({ cls := "LockHouseModel", name := "greatest", desc := "(I)I" } : MethodName)) ∈ TT := tt_mem (tb4 (List.mem_of_getElem? (i := 94) rfl)) rfl
theorem u815 : (Cond.privateMethod ({ cls := "LockHouseModel", name := "greatest", desc := "(I)I" } : MethodName)) ∈ lw_tbl := tb4 (List.mem_of_getElem? (i := 95) rfl)
theorem w816 : (Cond.instanceMethod ({ cls := "LockHouseModel", name := "greatest", desc := "(I)I" } : MethodName)) ∈ TT := tt_mem (tb4 (List.mem_of_getElem? (i := 96) rfl)) rfl
theorem w817 : (Cond.code ({ cls := "LockHouseModel", name := "greatest", desc := "(I)I" } : MethodName) prog_8_method_21_code (3 : Nat) (Option.some FieldType.int)) ∈ TT := tt_mem (tb4 (List.mem_of_getElem? (i := 97) rfl)) rfl
theorem w818 : (Cond.methodLink "LockHouseLaw" (114 : Nat) ({ cls := "LockHouseModel", name := "tear", desc := "(II)V" } : MethodName)) ∈ TT := tt_mem (tb4 (List.mem_of_getElem? (i := 98) rfl)) rfl
theorem w819 : (Cond.instanceMethod ({ cls := "LockHouseModel", name := "tear", desc := "(II)V" } : MethodName)) ∈ TT := tt_mem (tb4 (List.mem_of_getElem? (i := 99) rfl)) rfl
theorem w820 : (Cond.selects "LockHouseModel" ({ cls := "LockHouseModel", name := "tear", desc := "(II)V" } : MethodName) ({ cls := "LockHouseModel", name := "tear", desc := "(II)V" } : MethodName)) ∈ TT := tt_mem (tb4 (List.mem_of_getElem? (i := 100) rfl)) rfl
theorem w821 : (Cond.code ({ cls := "LockHouseModel", name := "tear", desc := "(II)V" } : MethodName) prog_8_method_26_code (3 : Nat) (Option.none : Option FieldType)) ∈ TT := tt_mem (tb4 (List.mem_of_getElem? (i := 101) rfl)) rfl
theorem w822 : (Cond.methodLink "LockHouseLaw" (117 : Nat) ({ cls := "LockHouseModel", name := "written", desc := "(I)I" } : MethodName)) ∈ TT := tt_mem (tb4 (List.mem_of_getElem? (i := 102) rfl)) rfl
theorem w823 : (Cond.instanceMethod ({ cls := "LockHouseModel", name := "written", desc := "(I)I" } : MethodName)) ∈ TT := tt_mem (tb4 (List.mem_of_getElem? (i := 103) rfl)) rfl
theorem w824 : (Cond.selects "LockHouseModel" ({ cls := "LockHouseModel", name := "written", desc := "(I)I" } : MethodName) ({ cls := "LockHouseModel", name := "written", desc := "(I)I" } : MethodName)) ∈ TT := tt_mem (tb4 (List.mem_of_getElem? (i := 104) rfl)) rfl
theorem w825 : (Cond.code ({ cls := "LockHouseModel", name := "written", desc := "(I)I" } : MethodName) prog_8_method_27_code (2 : Nat) (Option.some FieldType.int)) ∈ TT := tt_mem (tb4 (List.mem_of_getElem? (i := 105) rfl)) rfl
theorem w826 : (Cond.methodLink "LockHouseLaw" (120 : Nat) ({ cls := "LockHouseModel", name := "word", desc := "(III)I" } : MethodName)) ∈ TT := tt_mem (tb4 (List.mem_of_getElem? (i := 106) rfl)) rfl
theorem w827 : (Cond.instanceMethod ({ cls := "LockHouseModel", name := "word", desc := "(III)I" } : MethodName)) ∈ TT := tt_mem (tb4 (List.mem_of_getElem? (i := 107) rfl)) rfl
theorem w828 : (Cond.selects "LockHouseModel" ({ cls := "LockHouseModel", name := "word", desc := "(III)I" } : MethodName) ({ cls := "LockHouseModel", name := "word", desc := "(III)I" } : MethodName)) ∈ TT := tt_mem (tb4 (List.mem_of_getElem? (i := 108) rfl)) rfl
theorem w829 : (Cond.code ({ cls := "LockHouseModel", name := "word", desc := "(III)I" } : MethodName) prog_8_method_28_code (4 : Nat) (Option.some FieldType.int)) ∈ TT := tt_mem (tb4 (List.mem_of_getElem? (i := 109) rfl)) rfl
theorem w830 : (Cond.methodLink "LockHouseLaw" (123 : Nat) ({ cls := "LockHouseModel", name := "carries", desc := "(II)I" } : MethodName)) ∈ TT := tt_mem (tb4 (List.mem_of_getElem? (i := 110) rfl)) rfl
theorem w831 : (Cond.instanceMethod ({ cls := "LockHouseModel", name := "carries", desc := "(II)I" } : MethodName)) ∈ TT := tt_mem (tb4 (List.mem_of_getElem? (i := 111) rfl)) rfl
theorem w832 : (Cond.selects "LockHouseModel" ({ cls := "LockHouseModel", name := "carries", desc := "(II)I" } : MethodName) ({ cls := "LockHouseModel", name := "carries", desc := "(II)I" } : MethodName)) ∈ TT := tt_mem (tb4 (List.mem_of_getElem? (i := 112) rfl)) rfl
theorem w833 : (Cond.code ({ cls := "LockHouseModel", name := "carries", desc := "(II)I" } : MethodName) prog_8_method_29_code (3 : Nat) (Option.some FieldType.int)) ∈ TT := tt_mem (tb4 (List.mem_of_getElem? (i := 113) rfl)) rfl
theorem w834 : (Cond.methodLink "LockHouseLaw" (126 : Nat) ({ cls := "LockHouseModel", name := "memory", desc := "(II)I" } : MethodName)) ∈ TT := tt_mem (tb4 (List.mem_of_getElem? (i := 114) rfl)) rfl
theorem w835 : (Cond.instanceMethod ({ cls := "LockHouseModel", name := "memory", desc := "(II)I" } : MethodName)) ∈ TT := tt_mem (tb4 (List.mem_of_getElem? (i := 115) rfl)) rfl
theorem w836 : (Cond.selects "LockHouseModel" ({ cls := "LockHouseModel", name := "memory", desc := "(II)I" } : MethodName) ({ cls := "LockHouseModel", name := "memory", desc := "(II)I" } : MethodName)) ∈ TT := tt_mem (tb4 (List.mem_of_getElem? (i := 116) rfl)) rfl
theorem w837 : (Cond.code ({ cls := "LockHouseModel", name := "memory", desc := "(II)I" } : MethodName) prog_8_method_30_code (3 : Nat) (Option.some FieldType.int)) ∈ TT := tt_mem (tb4 (List.mem_of_getElem? (i := 117) rfl)) rfl
theorem w838 : (Cond.methodLink "LockHouseLaw" (129 : Nat) ({ cls := "LockHouseModel", name := "about", desc := "(II)I" } : MethodName)) ∈ TT := tt_mem (tb4 (List.mem_of_getElem? (i := 118) rfl)) rfl
theorem w839 : (Cond.instanceMethod ({ cls := "LockHouseModel", name := "about", desc := "(II)I" } : MethodName)) ∈ TT := tt_mem (tb4 (List.mem_of_getElem? (i := 119) rfl)) rfl
theorem w840 : (Cond.selects "LockHouseModel" ({ cls := "LockHouseModel", name := "about", desc := "(II)I" } : MethodName) ({ cls := "LockHouseModel", name := "about", desc := "(II)I" } : MethodName)) ∈ TT := tt_mem (tb4 (List.mem_of_getElem? (i := 120) rfl)) rfl
theorem w841 : (Cond.code ({ cls := "LockHouseModel", name := "about", desc := "(II)I" } : MethodName) prog_8_method_33_code (5 : Nat) (Option.some FieldType.int)) ∈ TT := tt_mem (tb4 (List.mem_of_getElem? (i := 121) rfl)) rfl
theorem w842 : (Cond.methodLink "LockHouseModel" (121 : Nat) ({ cls := "LockHouseModel", name := "complete", desc := "(I)I" } : MethodName)) ∈ TT := tt_mem (tb4 (List.mem_of_getElem? (i := 122) rfl)) rfl
theorem u843 : (Cond.privateMethod ({ cls := "LockHouseModel", name := "complete", desc := "(I)I" } : MethodName)) ∈ lw_tbl := tb4 (List.mem_of_getElem? (i := 123) rfl)
theorem w844 : (Cond.instanceMethod ({ cls := "LockHouseModel", name := "complete", desc := "(I)I" } : MethodName)) ∈ TT := tt_mem (tb4 (List.mem_of_getElem? (i := 124) rfl)) rfl
theorem w845 : (Cond.code ({ cls := "LockHouseModel", name := "complete", desc := "(I)I" } : MethodName) prog_8_method_22_code (3 : Nat) (Option.some FieldType.int)) ∈ TT := tt_mem (tb4 (List.mem_of_getElem? (i := 125) rfl)) rfl
theorem w846 : (Cond.methodLink "LockHouseModel" (124 : Nat) ({ cls := "LockHouseModel", name := "marks", desc := "(I)I" } : MethodName)) ∈ TT := tt_mem (tb4 (List.mem_of_getElem? (i := 126) rfl)) rfl
theorem u847 : (Cond.privateMethod ({ cls := "LockHouseModel", name := "marks", desc := "(I)I" } : MethodName)) ∈ lw_tbl := tb4 (List.mem_of_getElem? (i := 127) rfl)
theorem w848 : (Cond.instanceMethod ({ cls := "LockHouseModel", name := "marks", desc := "(I)I" } : MethodName)) ∈ TT := tt_mem (tb4 (List.mem_of_getElem? (i := 128) rfl)) rfl
theorem w849 : (Cond.code ({ cls := "LockHouseModel", name := "marks", desc := "(I)I" } : MethodName) prog_8_method_31_code (4 : Nat) (Option.some FieldType.int)) ∈ TT := tt_mem (tb4 (List.mem_of_getElem? (i := 129) rfl)) rfl
theorem w850 : (Cond.methodLink "LockHouseModel" (127 : Nat) ({ cls := "LockHouseModel", name := "runs", desc := "(I)I" } : MethodName)) ∈ TT := tt_mem (tb4 (List.mem_of_getElem? (i := 130) rfl)) rfl
theorem u851 : (Cond.privateMethod ({ cls := "LockHouseModel", name := "runs", desc := "(I)I" } : MethodName)) ∈ lw_tbl := tb4 (List.mem_of_getElem? (i := 131) rfl)
theorem w852 : (Cond.instanceMethod ({ cls := "LockHouseModel", name := "runs", desc := "(I)I" } : MethodName)) ∈ TT := tt_mem (tb4 (List.mem_of_getElem? (i := 132) rfl)) rfl
theorem w853 : (Cond.code ({ cls := "LockHouseModel", name := "runs", desc := "(I)I" } : MethodName) prog_8_method_32_code (4 : Nat) (Option.some FieldType.int)) ∈ TT := tt_mem (tb4 (List.mem_of_getElem? (i := 133) rfl)) rfl
theorem w854 : (Cond.methodLink "LockHouseLaw" (133 : Nat) ({ cls := "LockHouseModel", name := "run", desc := "(IIZ)I" } : MethodName)) ∈ TT := tt_mem (tb4 (List.mem_of_getElem? (i := 134) rfl)) rfl
theorem w855 : (Cond.instanceMethod ({ cls := "LockHouseModel", name := "run", desc := "(IIZ)I" } : MethodName)) ∈ TT := tt_mem (tb4 (List.mem_of_getElem? (i := 135) rfl)) rfl
theorem w856 : (Cond.selects "LockHouseModel" ({ cls := "LockHouseModel", name := "run", desc := "(IIZ)I" } : MethodName) ({ cls := "LockHouseModel", name := "run", desc := "(IIZ)I" } : MethodName)) ∈ TT := tt_mem (tb4 (List.mem_of_getElem? (i := 136) rfl)) rfl
theorem w857 : (Cond.code ({ cls := "LockHouseModel", name := "run", desc := "(IIZ)I" } : MethodName) prog_8_method_34_code (6 : Nat) (Option.some FieldType.int)) ∈ TT := tt_mem (tb4 (List.mem_of_getElem? (i := 137) rfl)) rfl
theorem w858 : (Cond.methodLink "LockHouseLaw" (136 : Nat) ({ cls := "LockHouseModel", name := "refuses", desc := "(II)Z" } : MethodName)) ∈ TT := tt_mem (tb4 (List.mem_of_getElem? (i := 138) rfl)) rfl
theorem w859 : (Cond.instanceMethod ({ cls := "LockHouseModel", name := "refuses", desc := "(II)Z" } : MethodName)) ∈ TT := tt_mem (tb4 (List.mem_of_getElem? (i := 139) rfl)) rfl
theorem w860 : (Cond.selects "LockHouseModel" ({ cls := "LockHouseModel", name := "refuses", desc := "(II)Z" } : MethodName) ({ cls := "LockHouseModel", name := "refuses", desc := "(II)Z" } : MethodName)) ∈ TT := tt_mem (tb4 (List.mem_of_getElem? (i := 140) rfl)) rfl
theorem w861 : (Cond.code ({ cls := "LockHouseModel", name := "refuses", desc := "(II)Z" } : MethodName) prog_8_method_35_code (3 : Nat) (Option.some FieldType.boolean)) ∈ TT := tt_mem (tb4 (List.mem_of_getElem? (i := 141) rfl)) rfl
theorem w862 : (Cond.methodLink "LockHouseLaw" (139 : Nat) ({ cls := "LockHouseModel", name := "reach", desc := "(I)I" } : MethodName)) ∈ TT := tt_mem (tb4 (List.mem_of_getElem? (i := 142) rfl)) rfl
theorem w863 : (Cond.instanceMethod ({ cls := "LockHouseModel", name := "reach", desc := "(I)I" } : MethodName)) ∈ TT := tt_mem (tb4 (List.mem_of_getElem? (i := 143) rfl)) rfl
theorem w864 : (Cond.selects "LockHouseModel" ({ cls := "LockHouseModel", name := "reach", desc := "(I)I" } : MethodName) ({ cls := "LockHouseModel", name := "reach", desc := "(I)I" } : MethodName)) ∈ TT := tt_mem (tb4 (List.mem_of_getElem? (i := 144) rfl)) rfl
theorem w865 : (Cond.code ({ cls := "LockHouseModel", name := "reach", desc := "(I)I" } : MethodName) prog_8_method_36_code (4 : Nat) (Option.some FieldType.int)) ∈ TT := tt_mem (tb4 (List.mem_of_getElem? (i := 145) rfl)) rfl
theorem w866 : (Cond.methodLink "LockHouseLaw" (142 : Nat) ({ cls := "LockHouseModel", name := "loseBattery", desc := "(I)V" } : MethodName)) ∈ TT := tt_mem (tb4 (List.mem_of_getElem? (i := 146) rfl)) rfl
theorem w867 : (Cond.instanceMethod ({ cls := "LockHouseModel", name := "loseBattery", desc := "(I)V" } : MethodName)) ∈ TT := tt_mem (tb4 (List.mem_of_getElem? (i := 147) rfl)) rfl
theorem w868 : (Cond.selects "LockHouseModel" ({ cls := "LockHouseModel", name := "loseBattery", desc := "(I)V" } : MethodName) ({ cls := "LockHouseModel", name := "loseBattery", desc := "(I)V" } : MethodName)) ∈ TT := tt_mem (tb4 (List.mem_of_getElem? (i := 148) rfl)) rfl
theorem w869 : (Cond.code ({ cls := "LockHouseModel", name := "loseBattery", desc := "(I)V" } : MethodName) prog_8_method_37_code (2 : Nat) (Option.none : Option FieldType)) ∈ TT := tt_mem (tb4 (List.mem_of_getElem? (i := 149) rfl)) rfl
theorem w870 : (Cond.methodLink "LockHouseLaw" (146 : Nat) ({ cls := "LockHouseModel", name := "visit", desc := "(IIII)V" } : MethodName)) ∈ TT := tt_mem (tb4 (List.mem_of_getElem? (i := 150) rfl)) rfl
theorem w871 : (Cond.instanceMethod ({ cls := "LockHouseModel", name := "visit", desc := "(IIII)V" } : MethodName)) ∈ TT := tt_mem (tb4 (List.mem_of_getElem? (i := 151) rfl)) rfl
theorem w872 : (Cond.selects "LockHouseModel" ({ cls := "LockHouseModel", name := "visit", desc := "(IIII)V" } : MethodName) ({ cls := "LockHouseModel", name := "visit", desc := "(IIII)V" } : MethodName)) ∈ TT := tt_mem (tb4 (List.mem_of_getElem? (i := 152) rfl)) rfl
theorem w873 : (Cond.code ({ cls := "LockHouseModel", name := "visit", desc := "(IIII)V" } : MethodName) prog_8_method_38_code (5 : Nat) (Option.none : Option FieldType)) ∈ TT := tt_mem (tb4 (List.mem_of_getElem? (i := 153) rfl)) rfl
theorem w874 : (Cond.methodLink "LockHouseLaw" (149 : Nat) ({ cls := "LockHouseModel", name := "spread", desc := "(I)I" } : MethodName)) ∈ TT := tt_mem (tb4 (List.mem_of_getElem? (i := 154) rfl)) rfl
theorem w875 : (Cond.instanceMethod ({ cls := "LockHouseModel", name := "spread", desc := "(I)I" } : MethodName)) ∈ TT := tt_mem (tb4 (List.mem_of_getElem? (i := 155) rfl)) rfl
theorem w876 : (Cond.selects "LockHouseModel" ({ cls := "LockHouseModel", name := "spread", desc := "(I)I" } : MethodName) ({ cls := "LockHouseModel", name := "spread", desc := "(I)I" } : MethodName)) ∈ TT := tt_mem (tb4 (List.mem_of_getElem? (i := 156) rfl)) rfl
theorem w877 : (Cond.code ({ cls := "LockHouseModel", name := "spread", desc := "(I)I" } : MethodName) prog_8_method_39_code (4 : Nat) (Option.some FieldType.int)) ∈ TT := tt_mem (tb4 (List.mem_of_getElem? (i := 157) rfl)) rfl
theorem w878 : (Cond.arrayClass FieldType.long) ∈ TT := tt_mem (tb4 (List.mem_of_getElem? (i := 158) rfl)) rfl
theorem w879 : (Cond.sameMethod "java/lang/Throwable" "java/lang/Throwable" "fillInStackTrace" "(I)Ljava/lang/Throwable;") ∈ TT := tt_mem (tb4 (List.mem_of_getElem? (i := 159) rfl)) rfl
theorem u880 : (Cond.castable "LockHouse$Card" "LockHouse$Card") ∈ lw_tbl := tb4 (List.mem_of_getElem? (i := 160) rfl)
theorem u881 : (Cond.castable "LockHouse$Entry" "LockHouse$Entry") ∈ lw_tbl := tb4 (List.mem_of_getElem? (i := 161) rfl)
theorem w882 : (Cond.sameMethod "[Ljava/lang/Object;" "java/lang/Object" "getClass" "()Ljava/lang/Class;") ∈ TT := tt_mem (tb4 (List.mem_of_getElem? (i := 162) rfl)) rfl
theorem w883 : (Cond.selects "[Ljava/lang/Object;" ({ cls := "java/lang/Object", name := "getClass", desc := "()Ljava/lang/Class;" } : MethodName) ({ cls := "java/lang/Object", name := "getClass", desc := "()Ljava/lang/Class;" } : MethodName)) ∈ TT := tt_mem (tb4 (List.mem_of_getElem? (i := 163) rfl)) rfl
theorem u884 : (Cond.declares ({ cls := "java/lang/Object", name := "getClass", desc := "()Ljava/lang/Class;" } : MethodName)) ∈ lw_tbl := tb4 (List.mem_of_getElem? (i := 164) rfl)
theorem u885 : (Cond.castable "LockHouse" "java/lang/Object") ∈ lw_tbl := tb4 (List.mem_of_getElem? (i := 165) rfl)
theorem u886 : (Cond.castable "LockHouse$EntryList" "java/lang/Object") ∈ lw_tbl := tb4 (List.mem_of_getElem? (i := 166) rfl)
theorem u887 : (Cond.castable "LockHouse$Door" "java/lang/Object") ∈ lw_tbl := tb4 (List.mem_of_getElem? (i := 167) rfl)
theorem u888 : (Cond.castable "LockHouseModel" "java/lang/Object") ∈ lw_tbl := tb4 (List.mem_of_getElem? (i := 168) rfl)
theorem u889 : (Cond.castable "LockHouse$Card" "java/lang/Object") ∈ lw_tbl := tb4 (List.mem_of_getElem? (i := 169) rfl)
theorem u890 : (Cond.castable "LockHouse$Image" "java/lang/Object") ∈ lw_tbl := tb4 (List.mem_of_getElem? (i := 170) rfl)
theorem u891 : (Cond.castable "LockHouse$Entry" "java/lang/Object") ∈ lw_tbl := tb4 (List.mem_of_getElem? (i := 171) rfl)
theorem u892 : (Cond.castable "java/lang/String" "java/lang/Object") ∈ lw_tbl := tb4 (List.mem_of_getElem? (i := 172) rfl)
end
section
/-! Classes with their fields, methods by name (by program). -/
def F_AL : u_T := fun k => match k with
  | 0 => ("java/util/ArrayList", "elementData", "[Ljava/lang/Object;", false)
  | 1 => ("java/util/ArrayList", "size", "I", false)
  | _ => ("java/util/AbstractList", "modCount", "I", false)
def ty_AL : Nat → FieldType := fun k => match k with
  | 0 => .array (.object "java/lang/Object")
  | 1 => .int
  | _ => .int
theorem tk_AL : ∀ k, k < 3 → parseFieldDescriptor (F_AL k).2.2.1 = some (ty_AL k) := by decide +kernel
theorem nm_AL : ∀ a, a < 3 → ∀ b, b < 3 → a ≠ b → (F_AL a).2.1 ≠ (F_AL b).2.1 := by decide +kernel
theorem in_AL : ∀ w ∈ u_ws "java/util/ArrayList" F_AL 3, w ∈ TT := by
  intro w hw
  obtain ⟨k, hk, rfl⟩ := List.mem_map.mp hw
  have hk := List.mem_range.mp hk
  rcases (show k = 0 ∨ k = 1 ∨ k = 2 by omega) with rfl | rfl | rfl
  · exact w50
  · exact w52
  · exact w54
def F_Card : u_T := fun k => match k with
  | 0 => ("LockHouse$Card", "zones", "I", true)
  | 1 => ("LockHouse$Card", "endDay", "I", true)
  | 2 => ("LockHouse$Card", "image0", "LLockHouse$Image;", true)
  | 3 => ("LockHouse$Card", "image1", "LLockHouse$Image;", true)
  | 4 => ("LockHouse$Card", "entry", "I", false)
  | 5 => ("LockHouse$Card", "keep", "I", false)
  | 6 => ("LockHouse$Card", "wordsLeft", "I", false)
  | _ => ("LockHouse$Card", "wordsWritten", "I", false)
def ty_Card : Nat → FieldType := fun k => match k with
  | 0 => .int
  | 1 => .int
  | 2 => .object "LockHouse$Image"
  | 3 => .object "LockHouse$Image"
  | 4 => .int
  | 5 => .int
  | 6 => .int
  | _ => .int
theorem tk_Card : ∀ k, k < 8 → parseFieldDescriptor (F_Card k).2.2.1 = some (ty_Card k) := by decide +kernel
theorem nm_Card : ∀ a, a < 8 → ∀ b, b < 8 → a ≠ b → (F_Card a).2.1 ≠ (F_Card b).2.1 := by decide +kernel
theorem in_Card : ∀ w ∈ u_ws "LockHouse$Card" F_Card 8, w ∈ TT := by
  intro w hw
  obtain ⟨k, hk, rfl⟩ := List.mem_map.mp hw
  have hk := List.mem_range.mp hk
  rcases (show k = 0 ∨ k = 1 ∨ k = 2 ∨ k = 3 ∨ k = 4 ∨ k = 5 ∨ k = 6 ∨ k = 7 by omega) with rfl | rfl | rfl | rfl | rfl | rfl | rfl | rfl
  · exact w242
  · exact w244
  · exact w246
  · exact w248
  · exact w250
  · exact w252
  · exact w254
  · exact w256
def F_Door : u_T := fun k => match k with
  | 0 => ("LockHouse$Door", "number", "I", true)
  | 1 => ("LockHouse$Door", "zone", "I", false)
  | 2 => ("LockHouse$Door", "heard", "I", false)
  | 3 => ("LockHouse$Door", "greatest", "I", false)
  | _ => ("LockHouse$Door", "used", "Z", false)
def ty_Door : Nat → FieldType := fun k => match k with
  | 0 => .int
  | 1 => .int
  | 2 => .int
  | 3 => .int
  | _ => .boolean
theorem tk_Door : ∀ k, k < 5 → parseFieldDescriptor (F_Door k).2.2.1 = some (ty_Door k) := by decide +kernel
theorem nm_Door : ∀ a, a < 5 → ∀ b, b < 5 → a ≠ b → (F_Door a).2.1 ≠ (F_Door b).2.1 := by decide +kernel
theorem in_Door : ∀ w ∈ u_ws "LockHouse$Door" F_Door 5, w ∈ TT := by
  intro w hw
  obtain ⟨k, hk, rfl⟩ := List.mem_map.mp hw
  have hk := List.mem_range.mp hk
  rcases (show k = 0 ∨ k = 1 ∨ k = 2 ∨ k = 3 ∨ k = 4 by omega) with rfl | rfl | rfl | rfl | rfl
  · exact w85
  · exact w87
  · exact w89
  · exact w91
  · exact w93
def F_Entry : u_T := fun k => match k with
  | 0 => ("LockHouse$Entry", "card", "I", true)
  | _ => ("LockHouse$Entry", "atDoor", "[Z", true)
def ty_Entry : Nat → FieldType := fun k => match k with
  | 0 => .int
  | _ => .array .boolean
theorem tk_Entry : ∀ k, k < 2 → parseFieldDescriptor (F_Entry k).2.2.1 = some (ty_Entry k) := by decide +kernel
theorem nm_Entry : ∀ a, a < 2 → ∀ b, b < 2 → a ≠ b → (F_Entry a).2.1 ≠ (F_Entry b).2.1 := by decide +kernel
theorem in_Entry : ∀ w ∈ u_ws "LockHouse$Entry" F_Entry 2, w ∈ TT := by
  intro w hw
  obtain ⟨k, hk, rfl⟩ := List.mem_map.mp hw
  have hk := List.mem_range.mp hk
  rcases (show k = 0 ∨ k = 1 by omega) with rfl | rfl
  · exact w377
  · exact w379
def F_EL : u_T := fun k => match k with
  | _ => ("LockHouse$EntryList", "inOrder", "Ljava/util/ArrayList;", true)
def ty_EL : Nat → FieldType := fun k => match k with
  | _ => .object "java/util/ArrayList"
theorem tk_EL : ∀ k, k < 1 → parseFieldDescriptor (F_EL k).2.2.1 = some (ty_EL k) := by decide +kernel
theorem nm_EL : ∀ a, a < 1 → ∀ b, b < 1 → a ≠ b → (F_EL a).2.1 ≠ (F_EL b).2.1 := by decide +kernel
theorem in_EL : ∀ w ∈ u_ws "LockHouse$EntryList" F_EL 1, w ∈ TT := by
  intro w hw
  obtain ⟨k, hk, rfl⟩ := List.mem_map.mp hw
  have hk := List.mem_range.mp hk
  have : k = 0 := by omega
  subst this
  exact w66
def F_Im : u_T := fun k => match k with
  | _ => ("LockHouse$Image", "words", "[S", true)
def ty_Im : Nat → FieldType := fun k => match k with
  | _ => .array .short
theorem tk_Im : ∀ k, k < 1 → parseFieldDescriptor (F_Im k).2.2.1 = some (ty_Im k) := by decide +kernel
theorem nm_Im : ∀ a, a < 1 → ∀ b, b < 1 → a ≠ b → (F_Im a).2.1 ≠ (F_Im b).2.1 := by decide +kernel
theorem in_Im : ∀ w ∈ u_ws "LockHouse$Image" F_Im 1, w ∈ TT := by
  intro w hw
  obtain ⟨k, hk, rfl⟩ := List.mem_map.mp hw
  have hk := List.mem_range.mp hk
  have : k = 0 := by omega
  subst this
  exact w225
def F_H : u_T := fun k => match k with
  | 0 => ("LockHouse", "issued", "Ljava/util/ArrayList;", true)
  | 1 => ("LockHouse", "list", "LLockHouse$EntryList;", true)
  | 2 => ("LockHouse", "doors", "[LLockHouse$Door;", true)
  | 3 => ("LockHouse", "visitCard", "[I", true)
  | 4 => ("LockHouse", "visitDoor", "[I", true)
  | _ => ("LockHouse", "visitDay", "[I", true)
def ty_H : Nat → FieldType := fun k => match k with
  | 0 => .object "java/util/ArrayList"
  | 1 => .object "LockHouse$EntryList"
  | 2 => .array (.object "LockHouse$Door")
  | 3 => .array .int
  | 4 => .array .int
  | _ => .array .int
theorem tk_H : ∀ k, k < 6 → parseFieldDescriptor (F_H k).2.2.1 = some (ty_H k) := by decide +kernel
theorem nm_H : ∀ a, a < 6 → ∀ b, b < 6 → a ≠ b → (F_H a).2.1 ≠ (F_H b).2.1 := by decide +kernel
theorem in_H : ∀ w ∈ u_ws "LockHouse" F_H 6, w ∈ TT := by
  intro w hw
  obtain ⟨k, hk, rfl⟩ := List.mem_map.mp hw
  have hk := List.mem_range.mp hk
  rcases (show k = 0 ∨ k = 1 ∨ k = 2 ∨ k = 3 ∨ k = 4 ∨ k = 5 by omega) with rfl | rfl | rfl | rfl | rfl | rfl
  · exact w106
  · exact w108
  · exact w110
  · exact w112
  · exact w114
  · exact w116
def F_T : u_T := fun k => match k with
  | 0 => ("LockHouseModel", "code", "I", false)
  | 1 => ("LockHouseModel", "cards", "I", false)
  | 2 => ("LockHouseModel", "zones", "[I", true)
  | 3 => ("LockHouseModel", "endDay", "[I", true)
  | 4 => ("LockHouseModel", "keep", "[I", true)
  | 5 => ("LockHouseModel", "written", "[I", true)
  | 6 => ("LockHouseModel", "words", "[S", true)
  | 7 => ("LockHouseModel", "entryFor", "[I", true)
  | 8 => ("LockHouseModel", "cardOf", "[I", true)
  | 9 => ("LockHouseModel", "entries", "I", false)
  | 10 => ("LockHouseModel", "has", "[Z", true)
  | 11 => ("LockHouseModel", "zone", "[I", true)
  | 12 => ("LockHouseModel", "used", "[Z", true)
  | 13 => ("LockHouseModel", "heard", "[I", true)
  | 14 => ("LockHouseModel", "some", "[Z", true)
  | 15 => ("LockHouseModel", "visitCard", "[I", true)
  | 16 => ("LockHouseModel", "visitDoor", "[I", true)
  | _ => ("LockHouseModel", "visitDay", "[I", true)
def ty_T : Nat → FieldType := fun k => match k with
  | 0 => .int
  | 1 => .int
  | 2 => .array .int
  | 3 => .array .int
  | 4 => .array .int
  | 5 => .array .int
  | 6 => .array .short
  | 7 => .array .int
  | 8 => .array .int
  | 9 => .int
  | 10 => .array .boolean
  | 11 => .array .int
  | 12 => .array .boolean
  | 13 => .array .int
  | 14 => .array .boolean
  | 15 => .array .int
  | 16 => .array .int
  | _ => .array .int
theorem tk_T : ∀ k, k < 18 → parseFieldDescriptor (F_T k).2.2.1 = some (ty_T k) := by decide +kernel
theorem nm_T : ∀ a, a < 18 → ∀ b, b < 18 → a ≠ b → (F_T a).2.1 ≠ (F_T b).2.1 := by decide +kernel
theorem in_T : ∀ w ∈ u_ws "LockHouseModel" F_T 18, w ∈ TT := by
  intro w hw
  obtain ⟨k, hk, rfl⟩ := List.mem_map.mp hw
  have hk := List.mem_range.mp hk
  rcases (show k = 0 ∨ k = 1 ∨ k = 2 ∨ k = 3 ∨ k = 4 ∨ k = 5 ∨ k = 6 ∨ k = 7 ∨ k = 8 ∨ k = 9 ∨ k = 10 ∨ k = 11 ∨ k = 12 ∨ k = 13 ∨ k = 14 ∨ k = 15 ∨ k = 16 ∨ k = 17 by omega) with rfl | rfl | rfl | rfl | rfl | rfl | rfl | rfl | rfl | rfl | rfl | rfl | rfl | rfl | rfl | rfl | rfl | rfl
  · exact w690
  · exact w692
  · exact w694
  · exact w696
  · exact w698
  · exact w700
  · exact w702
  · exact w704
  · exact w706
  · exact w708
  · exact w710
  · exact w712
  · exact w714
  · exact w716
  · exact w718
  · exact w720
  · exact w722
  · exact w724
abbrev cls8 : List vw_C := [("java/util/ArrayList", F_AL, 3), ("LockHouse$Card", F_Card, 8), ("LockHouse$Door", F_Door, 5), ("LockHouse$Entry", F_Entry, 2), ("LockHouse$EntryList", F_EL, 1), ("LockHouse$Image", F_Im, 1), ("LockHouse", F_H, 6), ("LockHouseModel", F_T, 18)]
abbrev y_H_init : MethodName := ⟨"LockHouse", "<init>", "()V"⟩
abbrev b_H_init : ByteArray := prog_1_method_1_code
abbrev k_H_init : Cond := .code y_H_init b_H_init 2 none
theorem kw_H_init : k_H_init ∈ TT := w27
theorem hd_H_init : y_H_init.cls ≠ "java/lang/invoke/MethodHandle" ∧ y_H_init.cls ≠ "java/lang/invoke/VarHandle" ∧ (parseMethodDescriptor y_H_init.desc).map (fun d => d.parameters.length) = some 0 := by decide +kernel
abbrev y_Obj_init : MethodName := ⟨"java/lang/Object", "<init>", "()V"⟩
abbrev b_Obj_init : ByteArray := object_method_1_code
abbrev k_Obj_init : Cond := .code y_Obj_init b_Obj_init 1 none
theorem kw_Obj_init : k_Obj_init ∈ TT := w30
theorem hd_Obj_init : y_Obj_init.cls ≠ "java/lang/invoke/MethodHandle" ∧ y_Obj_init.cls ≠ "java/lang/invoke/VarHandle" ∧ (parseMethodDescriptor y_Obj_init.desc).map (fun d => d.parameters.length) = some 0 := by decide +kernel
abbrev y_AL_init : MethodName := ⟨"java/util/ArrayList", "<init>", "()V"⟩
abbrev b_AL_init : ByteArray := prog_23_method_2_code
abbrev k_AL_init : Cond := .code y_AL_init b_AL_init 1 none
theorem kw_AL_init : k_AL_init ∈ TT := w35
theorem hd_AL_init : y_AL_init.cls ≠ "java/lang/invoke/MethodHandle" ∧ y_AL_init.cls ≠ "java/lang/invoke/VarHandle" ∧ (parseMethodDescriptor y_AL_init.desc).map (fun d => d.parameters.length) = some 0 := by decide +kernel
abbrev y_AbL_init : MethodName := ⟨"java/util/AbstractList", "<init>", "()V"⟩
abbrev b_AbL_init : ByteArray := prog_22_method_1_code
abbrev k_AbL_init : Cond := .code y_AbL_init b_AbL_init 1 none
theorem kw_AbL_init : k_AbL_init ∈ TT := w38
theorem hd_AbL_init : y_AbL_init.cls ≠ "java/lang/invoke/MethodHandle" ∧ y_AbL_init.cls ≠ "java/lang/invoke/VarHandle" ∧ (parseMethodDescriptor y_AbL_init.desc).map (fun d => d.parameters.length) = some 0 := by decide +kernel
abbrev y_AbC_init : MethodName := ⟨"java/util/AbstractCollection", "<init>", "()V"⟩
abbrev b_AbC_init : ByteArray := prog_21_method_1_code
abbrev k_AbC_init : Cond := .code y_AbC_init b_AbC_init 1 none
theorem kw_AbC_init : k_AbC_init ∈ TT := w41
theorem hd_AbC_init : y_AbC_init.cls ≠ "java/lang/invoke/MethodHandle" ∧ y_AbC_init.cls ≠ "java/lang/invoke/VarHandle" ∧ (parseMethodDescriptor y_AbC_init.desc).map (fun d => d.parameters.length) = some 0 := by decide +kernel
abbrev y_EL_init : MethodName := ⟨"LockHouse$EntryList", "<init>", "()V"⟩
abbrev b_EL_init : ByteArray := prog_5_method_1_code
abbrev k_EL_init : Cond := .code y_EL_init b_EL_init 1 none
theorem kw_EL_init : k_EL_init ∈ TT := w61
theorem hd_EL_init : y_EL_init.cls ≠ "java/lang/invoke/MethodHandle" ∧ y_EL_init.cls ≠ "java/lang/invoke/VarHandle" ∧ (parseMethodDescriptor y_EL_init.desc).map (fun d => d.parameters.length) = some 0 := by decide +kernel
abbrev y_Door_init : MethodName := ⟨"LockHouse$Door", "<init>", "(I)V"⟩
abbrev b_Door_init : ByteArray := prog_3_method_1_code
abbrev k_Door_init : Cond := .code y_Door_init b_Door_init 2 none
theorem kw_Door_init : k_Door_init ∈ TT := w74
theorem hd_Door_init : y_Door_init.cls ≠ "java/lang/invoke/MethodHandle" ∧ y_Door_init.cls ≠ "java/lang/invoke/VarHandle" ∧ (parseMethodDescriptor y_Door_init.desc).map (fun d => d.parameters.length) = some 1 := by decide +kernel
abbrev y_Arr_fill : MethodName := ⟨"java/util/Arrays", "fill", "([II)V"⟩
abbrev b_Arr_fill : ByteArray := prog_24_method_103_code
abbrev k_Arr_fill : Cond := .code y_Arr_fill b_Arr_fill 4 none
theorem kw_Arr_fill : k_Arr_fill ∈ TT := w99
theorem hd_Arr_fill : y_Arr_fill.cls ≠ "java/lang/invoke/MethodHandle" ∧ y_Arr_fill.cls ≠ "java/lang/invoke/VarHandle" ∧ (parseMethodDescriptor y_Arr_fill.desc).map (fun d => d.parameters.length) = some 2 := by decide +kernel
abbrev y_H_cards : MethodName := ⟨"LockHouse", "cards", "()I"⟩
abbrev b_H_cards : ByteArray := prog_1_method_3_code
abbrev k_H_cards : Cond := .code y_H_cards b_H_cards 1 (some FieldType.int)
theorem kw_H_cards : k_H_cards ∈ TT := w122
theorem hd_H_cards : y_H_cards.cls ≠ "java/lang/invoke/MethodHandle" ∧ y_H_cards.cls ≠ "java/lang/invoke/VarHandle" ∧ (parseMethodDescriptor y_H_cards.desc).map (fun d => d.parameters.length) = some 0 := by decide +kernel
abbrev y_AL_size : MethodName := ⟨"java/util/ArrayList", "size", "()I"⟩
abbrev b_AL_size : ByteArray := prog_23_method_8_code
abbrev k_AL_size : Cond := .code y_AL_size b_AL_size 1 (some FieldType.int)
theorem kw_AL_size : k_AL_size ∈ TT := w126
theorem hd_AL_size : y_AL_size.cls ≠ "java/lang/invoke/MethodHandle" ∧ y_AL_size.cls ≠ "java/lang/invoke/VarHandle" ∧ (parseMethodDescriptor y_AL_size.desc).map (fun d => d.parameters.length) = some 0 := by decide +kernel
abbrev y_H_entries : MethodName := ⟨"LockHouse", "entries", "()I"⟩
abbrev b_H_entries : ByteArray := prog_1_method_5_code
abbrev k_H_entries : Cond := .code y_H_entries b_H_entries 1 (some FieldType.int)
theorem kw_H_entries : k_H_entries ∈ TT := w130
theorem hd_H_entries : y_H_entries.cls ≠ "java/lang/invoke/MethodHandle" ∧ y_H_entries.cls ≠ "java/lang/invoke/VarHandle" ∧ (parseMethodDescriptor y_H_entries.desc).map (fun d => d.parameters.length) = some 0 := by decide +kernel
abbrev y_EL_made : MethodName := ⟨"LockHouse$EntryList", "made", "()I"⟩
abbrev b_EL_made : ByteArray := prog_5_method_2_code
abbrev k_EL_made : Cond := .code y_EL_made b_EL_made 1 (some FieldType.int)
theorem kw_EL_made : k_EL_made ∈ TT := w134
theorem hd_EL_made : y_EL_made.cls ≠ "java/lang/invoke/MethodHandle" ∧ y_EL_made.cls ≠ "java/lang/invoke/VarHandle" ∧ (parseMethodDescriptor y_EL_made.desc).map (fun d => d.parameters.length) = some 0 := by decide +kernel
abbrev y_L_issue : MethodName := ⟨"LockHouseLaw", "issue", "(LLockHouse;II[J)I"⟩
abbrev b_L_issue : ByteArray := method_3_code
abbrev k_L_issue : Cond := .codeWith y_L_issue b_L_issue 5 (some FieldType.int) [(0, 10, 13, 13)]
theorem kw_L_issue : k_L_issue ∈ TT := w138
theorem hd_L_issue : y_L_issue.cls ≠ "java/lang/invoke/MethodHandle" ∧ y_L_issue.cls ≠ "java/lang/invoke/VarHandle" ∧ (parseMethodDescriptor y_L_issue.desc).map (fun d => d.parameters.length) = some 4 := by decide +kernel
abbrev y_H_issue : MethodName := ⟨"LockHouse", "issue", "(II)I"⟩
abbrev b_H_issue : ByteArray := prog_1_method_2_code
abbrev k_H_issue : Cond := .code y_H_issue b_H_issue 3 (some FieldType.int)
theorem kw_H_issue : k_H_issue ∈ TT := w143
theorem hd_H_issue : y_H_issue.cls ≠ "java/lang/invoke/MethodHandle" ∧ y_H_issue.cls ≠ "java/lang/invoke/VarHandle" ∧ (parseMethodDescriptor y_H_issue.desc).map (fun d => d.parameters.length) = some 2 := by decide +kernel
abbrev y_Card_init : MethodName := ⟨"LockHouse$Card", "<init>", "(II)V"⟩
abbrev b_Card_init : ByteArray := prog_2_method_1_code
abbrev k_Card_init : Cond := .code y_Card_init b_Card_init 3 none
theorem kw_Card_init : k_Card_init ∈ TT := w216
theorem hd_Card_init : y_Card_init.cls ≠ "java/lang/invoke/MethodHandle" ∧ y_Card_init.cls ≠ "java/lang/invoke/VarHandle" ∧ (parseMethodDescriptor y_Card_init.desc).map (fun d => d.parameters.length) = some 2 := by decide +kernel
abbrev y_Im_init : MethodName := ⟨"LockHouse$Image", "<init>", "()V"⟩
abbrev b_Im_init : ByteArray := prog_6_method_1_code
abbrev k_Im_init : Cond := .code y_Im_init b_Im_init 1 none
theorem kw_Im_init : k_Im_init ∈ TT := w222
theorem hd_Im_init : y_Im_init.cls ≠ "java/lang/invoke/MethodHandle" ∧ y_Im_init.cls ≠ "java/lang/invoke/VarHandle" ∧ (parseMethodDescriptor y_Im_init.desc).map (fun d => d.parameters.length) = some 0 := by decide +kernel
abbrev y_AL_add1 : MethodName := ⟨"java/util/ArrayList", "add", "(Ljava/lang/Object;)Z"⟩
abbrev b_AL_add1 : ByteArray := prog_23_method_25_code
abbrev k_AL_add1 : Cond := .code y_AL_add1 b_AL_add1 2 (some FieldType.boolean)
theorem kw_AL_add1 : k_AL_add1 ∈ TT := w262
theorem hd_AL_add1 : y_AL_add1.cls ≠ "java/lang/invoke/MethodHandle" ∧ y_AL_add1.cls ≠ "java/lang/invoke/VarHandle" ∧ (parseMethodDescriptor y_AL_add1.desc).map (fun d => d.parameters.length) = some 1 := by decide +kernel
abbrev y_AL_add2 : MethodName := ⟨"java/util/ArrayList", "add", "(Ljava/lang/Object;[Ljava/lang/Object;I)V"⟩
abbrev b_AL_add2 : ByteArray := prog_23_method_24_code
abbrev k_AL_add2 : Cond := .code y_AL_add2 b_AL_add2 4 none
theorem kw_AL_add2 : k_AL_add2 ∈ TT := w266
theorem hd_AL_add2 : y_AL_add2.cls ≠ "java/lang/invoke/MethodHandle" ∧ y_AL_add2.cls ≠ "java/lang/invoke/VarHandle" ∧ (parseMethodDescriptor y_AL_add2.desc).map (fun d => d.parameters.length) = some 3 := by decide +kernel
abbrev y_AL_grow1 : MethodName := ⟨"java/util/ArrayList", "grow", "()[Ljava/lang/Object;"⟩
abbrev b_AL_grow1 : ByteArray := prog_23_method_7_code
abbrev k_AL_grow1 : Cond := .code y_AL_grow1 b_AL_grow1 1 (some (FieldType.array (FieldType.object "java/lang/Object")))
theorem kw_AL_grow1 : k_AL_grow1 ∈ TT := w270
theorem hd_AL_grow1 : y_AL_grow1.cls ≠ "java/lang/invoke/MethodHandle" ∧ y_AL_grow1.cls ≠ "java/lang/invoke/VarHandle" ∧ (parseMethodDescriptor y_AL_grow1.desc).map (fun d => d.parameters.length) = some 0 := by decide +kernel
abbrev y_AL_grow2 : MethodName := ⟨"java/util/ArrayList", "grow", "(I)[Ljava/lang/Object;"⟩
abbrev b_AL_grow2 : ByteArray := prog_23_method_6_code
abbrev k_AL_grow2 : Cond := .code y_AL_grow2 b_AL_grow2 4 (some (FieldType.array (FieldType.object "java/lang/Object")))
theorem kw_AL_grow2 : k_AL_grow2 ∈ TT := w274
theorem hd_AL_grow2 : y_AL_grow2.cls ≠ "java/lang/invoke/MethodHandle" ∧ y_AL_grow2.cls ≠ "java/lang/invoke/VarHandle" ∧ (parseMethodDescriptor y_AL_grow2.desc).map (fun d => d.parameters.length) = some 1 := by decide +kernel
abbrev y_ASup_newLength : MethodName := ⟨"jdk/internal/util/ArraysSupport", "newLength", "(III)I"⟩
abbrev b_ASup_newLength : ByteArray := prog_30_method_27_code
abbrev k_ASup_newLength : Cond := .code y_ASup_newLength b_ASup_newLength 4 (some FieldType.int)
theorem kw_ASup_newLength : k_ASup_newLength ∈ TT := w277
theorem hd_ASup_newLength : y_ASup_newLength.cls ≠ "java/lang/invoke/MethodHandle" ∧ y_ASup_newLength.cls ≠ "java/lang/invoke/VarHandle" ∧ (parseMethodDescriptor y_ASup_newLength.desc).map (fun d => d.parameters.length) = some 3 := by decide +kernel
abbrev y_Math_max : MethodName := ⟨"java/lang/Math", "max", "(II)I"⟩
abbrev b_Math_max : ByteArray := prog_16_method_65_code
abbrev k_Math_max : Cond := .code y_Math_max b_Math_max 2 (some FieldType.int)
theorem kw_Math_max : k_Math_max ∈ TT := w280
theorem hd_Math_max : y_Math_max.cls ≠ "java/lang/invoke/MethodHandle" ∧ y_Math_max.cls ≠ "java/lang/invoke/VarHandle" ∧ (parseMethodDescriptor y_Math_max.desc).map (fun d => d.parameters.length) = some 2 := by decide +kernel
abbrev y_ASup_hugeLength : MethodName := ⟨"jdk/internal/util/ArraysSupport", "hugeLength", "(II)I"⟩
abbrev b_ASup_hugeLength : ByteArray := prog_30_method_28_code
abbrev k_ASup_hugeLength : Cond := .code y_ASup_hugeLength b_ASup_hugeLength 3 (some FieldType.int)
theorem kw_ASup_hugeLength : k_ASup_hugeLength ∈ TT := w284
theorem hd_ASup_hugeLength : y_ASup_hugeLength.cls ≠ "java/lang/invoke/MethodHandle" ∧ y_ASup_hugeLength.cls ≠ "java/lang/invoke/VarHandle" ∧ (parseMethodDescriptor y_ASup_hugeLength.desc).map (fun d => d.parameters.length) = some 2 := by decide +kernel
abbrev y_Arr_copyOf1 : MethodName := ⟨"java/util/Arrays", "copyOf", "([Ljava/lang/Object;I)[Ljava/lang/Object;"⟩
abbrev b_Arr_copyOf1 : ByteArray := prog_24_method_119_code
abbrev k_Arr_copyOf1 : Cond := .code y_Arr_copyOf1 b_Arr_copyOf1 2 (some (FieldType.array (FieldType.object "java/lang/Object")))
theorem kw_Arr_copyOf1 : k_Arr_copyOf1 ∈ TT := w287
theorem hd_Arr_copyOf1 : y_Arr_copyOf1.cls ≠ "java/lang/invoke/MethodHandle" ∧ y_Arr_copyOf1.cls ≠ "java/lang/invoke/VarHandle" ∧ (parseMethodDescriptor y_Arr_copyOf1.desc).map (fun d => d.parameters.length) = some 2 := by decide +kernel
abbrev y_Arr_copyOf2 : MethodName := ⟨"java/util/Arrays", "copyOf", "([Ljava/lang/Object;ILjava/lang/Class;)[Ljava/lang/Object;"⟩
abbrev b_Arr_copyOf2 : ByteArray := prog_24_method_120_code
abbrev k_Arr_copyOf2 : Cond := .code y_Arr_copyOf2 b_Arr_copyOf2 4 (some (FieldType.array (FieldType.object "java/lang/Object")))
theorem kw_Arr_copyOf2 : k_Arr_copyOf2 ∈ TT := w305
theorem hd_Arr_copyOf2 : y_Arr_copyOf2.cls ≠ "java/lang/invoke/MethodHandle" ∧ y_Arr_copyOf2.cls ≠ "java/lang/invoke/VarHandle" ∧ (parseMethodDescriptor y_Arr_copyOf2.desc).map (fun d => d.parameters.length) = some 3 := by decide +kernel
abbrev y_Math_min : MethodName := ⟨"java/lang/Math", "min", "(II)I"⟩
abbrev b_Math_min : ByteArray := prog_16_method_69_code
abbrev k_Math_min : Cond := .code y_Math_min b_Math_min 2 (some FieldType.int)
theorem kw_Math_min : k_Math_min ∈ TT := w311
theorem hd_Math_min : y_Math_min.cls ≠ "java/lang/invoke/MethodHandle" ∧ y_Math_min.cls ≠ "java/lang/invoke/VarHandle" ∧ (parseMethodDescriptor y_Math_min.desc).map (fun d => d.parameters.length) = some 2 := by decide +kernel
abbrev y_L_revoke : MethodName := ⟨"LockHouseLaw", "revoke", "(LLockHouse;I[J)I"⟩
abbrev b_L_revoke : ByteArray := method_4_code
abbrev k_L_revoke : Cond := .codeWith y_L_revoke b_L_revoke 4 (some FieldType.int) [(0, 9, 12, 19), (0, 9, 15, 13)]
theorem kw_L_revoke : k_L_revoke ∈ TT := w319
theorem hd_L_revoke : y_L_revoke.cls ≠ "java/lang/invoke/MethodHandle" ∧ y_L_revoke.cls ≠ "java/lang/invoke/VarHandle" ∧ (parseMethodDescriptor y_L_revoke.desc).map (fun d => d.parameters.length) = some 3 := by decide +kernel
abbrev y_H_revoke : MethodName := ⟨"LockHouse", "revoke", "(I)I"⟩
abbrev b_H_revoke : ByteArray := prog_1_method_4_code
abbrev k_H_revoke : Cond := .code y_H_revoke b_H_revoke 3 (some FieldType.int)
theorem kw_H_revoke : k_H_revoke ∈ TT := w324
theorem hd_H_revoke : y_H_revoke.cls ≠ "java/lang/invoke/MethodHandle" ∧ y_H_revoke.cls ≠ "java/lang/invoke/VarHandle" ∧ (parseMethodDescriptor y_H_revoke.desc).map (fun d => d.parameters.length) = some 1 := by decide +kernel
abbrev y_H_cardAt : MethodName := ⟨"LockHouse", "cardAt", "(I)LLockHouse$Card;"⟩
abbrev b_H_cardAt : ByteArray := prog_1_method_23_code
abbrev k_H_cardAt : Cond := .code y_H_cardAt b_H_cardAt 2 (some (FieldType.object "LockHouse$Card"))
theorem kw_H_cardAt : k_H_cardAt ∈ TT := w328
theorem hd_H_cardAt : y_H_cardAt.cls ≠ "java/lang/invoke/MethodHandle" ∧ y_H_cardAt.cls ≠ "java/lang/invoke/VarHandle" ∧ (parseMethodDescriptor y_H_cardAt.desc).map (fun d => d.parameters.length) = some 1 := by decide +kernel
abbrev y_H_isCard : MethodName := ⟨"LockHouse", "isCard", "(I)Z"⟩
abbrev b_H_isCard : ByteArray := prog_1_method_21_code
abbrev k_H_isCard : Cond := .code y_H_isCard b_H_isCard 2 (some FieldType.boolean)
theorem kw_H_isCard : k_H_isCard ∈ TT := w332
theorem hd_H_isCard : y_H_isCard.cls ≠ "java/lang/invoke/MethodHandle" ∧ y_H_isCard.cls ≠ "java/lang/invoke/VarHandle" ∧ (parseMethodDescriptor y_H_isCard.desc).map (fun d => d.parameters.length) = some 1 := by decide +kernel
abbrev y_AL_get : MethodName := ⟨"java/util/ArrayList", "get", "(I)Ljava/lang/Object;"⟩
abbrev b_AL_get : ByteArray := prog_23_method_20_code
abbrev k_AL_get : Cond := .code y_AL_get b_AL_get 2 (some (FieldType.object "java/lang/Object"))
theorem kw_AL_get : k_AL_get ∈ TT := w352
theorem hd_AL_get : y_AL_get.cls ≠ "java/lang/invoke/MethodHandle" ∧ y_AL_get.cls ≠ "java/lang/invoke/VarHandle" ∧ (parseMethodDescriptor y_AL_get.desc).map (fun d => d.parameters.length) = some 1 := by decide +kernel
abbrev y_Objs_checkIndex : MethodName := ⟨"java/util/Objects", "checkIndex", "(II)I"⟩
abbrev b_Objs_checkIndex : ByteArray := prog_27_method_17_code
abbrev k_Objs_checkIndex : Cond := .code y_Objs_checkIndex b_Objs_checkIndex 2 (some FieldType.int)
theorem kw_Objs_checkIndex : k_Objs_checkIndex ∈ TT := w355
theorem hd_Objs_checkIndex : y_Objs_checkIndex.cls ≠ "java/lang/invoke/MethodHandle" ∧ y_Objs_checkIndex.cls ≠ "java/lang/invoke/VarHandle" ∧ (parseMethodDescriptor y_Objs_checkIndex.desc).map (fun d => d.parameters.length) = some 2 := by decide +kernel
abbrev y_Pre_checkIndex : MethodName := ⟨"jdk/internal/util/Preconditions", "checkIndex", "(IILjava/util/function/BiFunction;)I"⟩
abbrev b_Pre_checkIndex : ByteArray := prog_31_method_11_code
abbrev k_Pre_checkIndex : Cond := .code y_Pre_checkIndex b_Pre_checkIndex 3 (some FieldType.int)
theorem kw_Pre_checkIndex : k_Pre_checkIndex ∈ TT := w358
theorem hd_Pre_checkIndex : y_Pre_checkIndex.cls ≠ "java/lang/invoke/MethodHandle" ∧ y_Pre_checkIndex.cls ≠ "java/lang/invoke/VarHandle" ∧ (parseMethodDescriptor y_Pre_checkIndex.desc).map (fun d => d.parameters.length) = some 3 := by decide +kernel
abbrev y_AL_elementData : MethodName := ⟨"java/util/ArrayList", "elementData", "(I)Ljava/lang/Object;"⟩
abbrev b_AL_elementData : ByteArray := prog_23_method_18_code
abbrev k_AL_elementData : Cond := .code y_AL_elementData b_AL_elementData 2 (some (FieldType.object "java/lang/Object"))
theorem kw_AL_elementData : k_AL_elementData ∈ TT := w362
theorem hd_AL_elementData : y_AL_elementData.cls ≠ "java/lang/invoke/MethodHandle" ∧ y_AL_elementData.cls ≠ "java/lang/invoke/VarHandle" ∧ (parseMethodDescriptor y_AL_elementData.desc).map (fun d => d.parameters.length) = some 1 := by decide +kernel
abbrev y_EL_append : MethodName := ⟨"LockHouse$EntryList", "append", "(I)I"⟩
abbrev b_EL_append : ByteArray := prog_5_method_3_code
abbrev k_EL_append : Cond := .code y_EL_append b_EL_append 2 (some FieldType.int)
theorem kw_EL_append : k_EL_append ∈ TT := w367
theorem hd_EL_append : y_EL_append.cls ≠ "java/lang/invoke/MethodHandle" ∧ y_EL_append.cls ≠ "java/lang/invoke/VarHandle" ∧ (parseMethodDescriptor y_EL_append.desc).map (fun d => d.parameters.length) = some 1 := by decide +kernel
abbrev y_Entry_init : MethodName := ⟨"LockHouse$Entry", "<init>", "(I)V"⟩
abbrev b_Entry_init : ByteArray := prog_4_method_1_code
abbrev k_Entry_init : Cond := .code y_Entry_init b_Entry_init 2 none
theorem kw_Entry_init : k_Entry_init ∈ TT := w372
theorem hd_Entry_init : y_Entry_init.cls ≠ "java/lang/invoke/MethodHandle" ∧ y_Entry_init.cls ≠ "java/lang/invoke/VarHandle" ∧ (parseMethodDescriptor y_Entry_init.desc).map (fun d => d.parameters.length) = some 1 := by decide +kernel
abbrev y_L_gate : MethodName := ⟨"LockHouseLaw", "gate", "(LLockHouse;I)I"⟩
abbrev b_L_gate : ByteArray := method_5_code
abbrev k_L_gate : Cond := .codeWith y_L_gate b_L_gate 3 (some FieldType.int) [(0, 5, 8, 19)]
theorem kw_L_gate : k_L_gate ∈ TT := w386
theorem hd_L_gate : y_L_gate.cls ≠ "java/lang/invoke/MethodHandle" ∧ y_L_gate.cls ≠ "java/lang/invoke/VarHandle" ∧ (parseMethodDescriptor y_L_gate.desc).map (fun d => d.parameters.length) = some 2 := by decide +kernel
abbrev y_H_gate : MethodName := ⟨"LockHouse", "gate", "(I)V"⟩
abbrev b_H_gate : ByteArray := prog_1_method_6_code
abbrev k_H_gate : Cond := .code y_H_gate b_H_gate 6 none
theorem kw_H_gate : k_H_gate ∈ TT := w390
theorem hd_H_gate : y_H_gate.cls ≠ "java/lang/invoke/MethodHandle" ∧ y_H_gate.cls ≠ "java/lang/invoke/VarHandle" ∧ (parseMethodDescriptor y_H_gate.desc).map (fun d => d.parameters.length) = some 1 := by decide +kernel
abbrev y_Card_store : MethodName := ⟨"LockHouse$Card", "store", "(IIILLockHouse$EntryList;)V"⟩
abbrev b_Card_store : ByteArray := prog_2_method_5_code
abbrev k_Card_store : Cond := .code y_Card_store b_Card_store 10 none
theorem kw_Card_store : k_Card_store ∈ TT := w395
theorem hd_Card_store : y_Card_store.cls ≠ "java/lang/invoke/MethodHandle" ∧ y_Card_store.cls ≠ "java/lang/invoke/VarHandle" ∧ (parseMethodDescriptor y_Card_store.desc).map (fun d => d.parameters.length) = some 4 := by decide +kernel
abbrev y_Card_currentIndex : MethodName := ⟨"LockHouse$Card", "currentIndex", "()I"⟩
abbrev b_Card_currentIndex : ByteArray := prog_2_method_3_code
abbrev k_Card_currentIndex : Cond := .code y_Card_currentIndex b_Card_currentIndex 2 (some FieldType.int)
theorem kw_Card_currentIndex : k_Card_currentIndex ∈ TT := w399
theorem hd_Card_currentIndex : y_Card_currentIndex.cls ≠ "java/lang/invoke/MethodHandle" ∧ y_Card_currentIndex.cls ≠ "java/lang/invoke/VarHandle" ∧ (parseMethodDescriptor y_Card_currentIndex.desc).map (fun d => d.parameters.length) = some 0 := by decide +kernel
abbrev y_Im_isWhole : MethodName := ⟨"LockHouse$Image", "isWhole", "()Z"⟩
abbrev b_Im_isWhole : ByteArray := prog_6_method_4_code
abbrev k_Im_isWhole : Cond := .code y_Im_isWhole b_Im_isWhole 1 (some FieldType.boolean)
theorem kw_Im_isWhole : k_Im_isWhole ∈ TT := w403
theorem hd_Im_isWhole : y_Im_isWhole.cls ≠ "java/lang/invoke/MethodHandle" ∧ y_Im_isWhole.cls ≠ "java/lang/invoke/VarHandle" ∧ (parseMethodDescriptor y_Im_isWhole.desc).map (fun d => d.parameters.length) = some 0 := by decide +kernel
abbrev y_Im_at : MethodName := ⟨"LockHouse$Image", "at", "(I)I"⟩
abbrev b_Im_at : ByteArray := prog_6_method_2_code
abbrev k_Im_at : Cond := .code y_Im_at b_Im_at 2 (some FieldType.int)
theorem kw_Im_at : k_Im_at ∈ TT := w407
theorem hd_Im_at : y_Im_at.cls ≠ "java/lang/invoke/MethodHandle" ∧ y_Im_at.cls ≠ "java/lang/invoke/VarHandle" ∧ (parseMethodDescriptor y_Im_at.desc).map (fun d => d.parameters.length) = some 1 := by decide +kernel
abbrev y_Im_sequence : MethodName := ⟨"LockHouse$Image", "sequence", "()I"⟩
abbrev b_Im_sequence : ByteArray := prog_6_method_5_code
abbrev k_Im_sequence : Cond := .code y_Im_sequence b_Im_sequence 1 (some FieldType.int)
theorem kw_Im_sequence : k_Im_sequence ∈ TT := w411
theorem hd_Im_sequence : y_Im_sequence.cls ≠ "java/lang/invoke/MethodHandle" ∧ y_Im_sequence.cls ≠ "java/lang/invoke/VarHandle" ∧ (parseMethodDescriptor y_Im_sequence.desc).map (fun d => d.parameters.length) = some 0 := by decide +kernel
abbrev y_Card_image : MethodName := ⟨"LockHouse$Card", "image", "(I)LLockHouse$Image;"⟩
abbrev b_Card_image : ByteArray := prog_2_method_2_code
abbrev k_Card_image : Cond := .code y_Card_image b_Card_image 2 (some (FieldType.object "LockHouse$Image"))
theorem kw_Card_image : k_Card_image ∈ TT := w415
theorem hd_Card_image : y_Card_image.cls ≠ "java/lang/invoke/MethodHandle" ∧ y_Card_image.cls ≠ "java/lang/invoke/VarHandle" ∧ (parseMethodDescriptor y_Card_image.desc).map (fun d => d.parameters.length) = some 1 := by decide +kernel
abbrev y_Im_tells : MethodName := ⟨"LockHouse$Image", "tells", "(III)Z"⟩
abbrev b_Im_tells : ByteArray := prog_6_method_7_code
abbrev k_Im_tells : Cond := .code y_Im_tells b_Im_tells 4 (some FieldType.boolean)
theorem kw_Im_tells : k_Im_tells ∈ TT := w419
theorem hd_Im_tells : y_Im_tells.cls ≠ "java/lang/invoke/MethodHandle" ∧ y_Im_tells.cls ≠ "java/lang/invoke/VarHandle" ∧ (parseMethodDescriptor y_Im_tells.desc).map (fun d => d.parameters.length) = some 3 := by decide +kernel
abbrev y_Im_count : MethodName := ⟨"LockHouse$Image", "count", "()I"⟩
abbrev b_Im_count : ByteArray := prog_6_method_6_code
abbrev k_Im_count : Cond := .code y_Im_count b_Im_count 1 (some FieldType.int)
theorem kw_Im_count : k_Im_count ∈ TT := w423
theorem hd_Im_count : y_Im_count.cls ≠ "java/lang/invoke/MethodHandle" ∧ y_Im_count.cls ≠ "java/lang/invoke/VarHandle" ∧ (parseMethodDescriptor y_Im_count.desc).map (fun d => d.parameters.length) = some 0 := by decide +kernel
abbrev y_Card_putNext : MethodName := ⟨"LockHouse$Card", "putNext", "(LLockHouse$Image;II)V"⟩
abbrev b_Card_putNext : ByteArray := prog_2_method_6_code
abbrev k_Card_putNext : Cond := .code y_Card_putNext b_Card_putNext 4 none
theorem kw_Card_putNext : k_Card_putNext ∈ TT := w427
theorem hd_Card_putNext : y_Card_putNext.cls ≠ "java/lang/invoke/MethodHandle" ∧ y_Card_putNext.cls ≠ "java/lang/invoke/VarHandle" ∧ (parseMethodDescriptor y_Card_putNext.desc).map (fun d => d.parameters.length) = some 3 := by decide +kernel
abbrev y_Im_put : MethodName := ⟨"LockHouse$Image", "put", "(II)V"⟩
abbrev b_Im_put : ByteArray := prog_6_method_3_code
abbrev k_Im_put : Cond := .code y_Im_put b_Im_put 3 none
theorem kw_Im_put : k_Im_put ∈ TT := w431
theorem hd_Im_put : y_Im_put.cls ≠ "java/lang/invoke/MethodHandle" ∧ y_Im_put.cls ≠ "java/lang/invoke/VarHandle" ∧ (parseMethodDescriptor y_Im_put.desc).map (fun d => d.parameters.length) = some 2 := by decide +kernel
abbrev y_EL_cardOf : MethodName := ⟨"LockHouse$EntryList", "cardOf", "(I)I"⟩
abbrev b_EL_cardOf : ByteArray := prog_5_method_5_code
abbrev k_EL_cardOf : Cond := .code y_EL_cardOf b_EL_cardOf 2 (some FieldType.int)
theorem kw_EL_cardOf : k_EL_cardOf ∈ TT := w435
theorem hd_EL_cardOf : y_EL_cardOf.cls ≠ "java/lang/invoke/MethodHandle" ∧ y_EL_cardOf.cls ≠ "java/lang/invoke/VarHandle" ∧ (parseMethodDescriptor y_EL_cardOf.desc).map (fun d => d.parameters.length) = some 1 := by decide +kernel
abbrev y_EL_holds : MethodName := ⟨"LockHouse$EntryList", "holds", "(I)Z"⟩
abbrev b_EL_holds : ByteArray := prog_5_method_4_code
abbrev k_EL_holds : Cond := .code y_EL_holds b_EL_holds 2 (some FieldType.boolean)
theorem kw_EL_holds : k_EL_holds ∈ TT := w439
theorem hd_EL_holds : y_EL_holds.cls ≠ "java/lang/invoke/MethodHandle" ∧ y_EL_holds.cls ≠ "java/lang/invoke/VarHandle" ∧ (parseMethodDescriptor y_EL_holds.desc).map (fun d => d.parameters.length) = some 1 := by decide +kernel
abbrev y_L_zoneOf : MethodName := ⟨"LockHouseLaw", "zoneOf", "(LLockHouse;II)I"⟩
abbrev b_L_zoneOf : ByteArray := method_6_code
abbrev k_L_zoneOf : Cond := .codeWith y_L_zoneOf b_L_zoneOf 4 (some FieldType.int) [(0, 6, 9, 19), (0, 6, 12, 29), (0, 6, 15, 13)]
theorem kw_L_zoneOf : k_L_zoneOf ∈ TT := w443
theorem hd_L_zoneOf : y_L_zoneOf.cls ≠ "java/lang/invoke/MethodHandle" ∧ y_L_zoneOf.cls ≠ "java/lang/invoke/VarHandle" ∧ (parseMethodDescriptor y_L_zoneOf.desc).map (fun d => d.parameters.length) = some 3 := by decide +kernel
abbrev y_H_zoneOf : MethodName := ⟨"LockHouse", "zoneOf", "(II)V"⟩
abbrev b_H_zoneOf : ByteArray := prog_1_method_7_code
abbrev k_H_zoneOf : Cond := .code y_H_zoneOf b_H_zoneOf 4 none
theorem kw_H_zoneOf : k_H_zoneOf ∈ TT := w448
theorem hd_H_zoneOf : y_H_zoneOf.cls ≠ "java/lang/invoke/MethodHandle" ∧ y_H_zoneOf.cls ≠ "java/lang/invoke/VarHandle" ∧ (parseMethodDescriptor y_H_zoneOf.desc).map (fun d => d.parameters.length) = some 2 := by decide +kernel
abbrev y_H_doorAt : MethodName := ⟨"LockHouse", "doorAt", "(I)LLockHouse$Door;"⟩
abbrev b_H_doorAt : ByteArray := prog_1_method_24_code
abbrev k_H_doorAt : Cond := .code y_H_doorAt b_H_doorAt 2 (some (FieldType.object "LockHouse$Door"))
theorem kw_H_doorAt : k_H_doorAt ∈ TT := w452
theorem hd_H_doorAt : y_H_doorAt.cls ≠ "java/lang/invoke/MethodHandle" ∧ y_H_doorAt.cls ≠ "java/lang/invoke/VarHandle" ∧ (parseMethodDescriptor y_H_doorAt.desc).map (fun d => d.parameters.length) = some 1 := by decide +kernel
abbrev y_H_isDoor : MethodName := ⟨"LockHouse", "isDoor", "(I)Z"⟩
abbrev b_H_isDoor : ByteArray := prog_1_method_22_code
abbrev k_H_isDoor : Cond := .code y_H_isDoor b_H_isDoor 2 (some FieldType.boolean)
theorem kw_H_isDoor : k_H_isDoor ∈ TT := w456
theorem hd_H_isDoor : y_H_isDoor.cls ≠ "java/lang/invoke/MethodHandle" ∧ y_H_isDoor.cls ≠ "java/lang/invoke/VarHandle" ∧ (parseMethodDescriptor y_H_isDoor.desc).map (fun d => d.parameters.length) = some 1 := by decide +kernel
abbrev y_L_show : MethodName := ⟨"LockHouseLaw", "show", "(LLockHouse;III[J)I"⟩
abbrev b_L_show : ByteArray := method_7_code
abbrev k_L_show : Cond := .codeWith y_L_show b_L_show 6 (some FieldType.int) [(0, 12, 15, 19)]
theorem kw_L_show : k_L_show ∈ TT := w477
theorem hd_L_show : y_L_show.cls ≠ "java/lang/invoke/MethodHandle" ∧ y_L_show.cls ≠ "java/lang/invoke/VarHandle" ∧ (parseMethodDescriptor y_L_show.desc).map (fun d => d.parameters.length) = some 5 := by decide +kernel
abbrev y_H_show : MethodName := ⟨"LockHouse", "show", "(III)I"⟩
abbrev b_H_show : ByteArray := prog_1_method_8_code
abbrev k_H_show : Cond := .code y_H_show b_H_show 6 (some FieldType.int)
theorem kw_H_show : k_H_show ∈ TT := w481
theorem hd_H_show : y_H_show.cls ≠ "java/lang/invoke/MethodHandle" ∧ y_H_show.cls ≠ "java/lang/invoke/VarHandle" ∧ (parseMethodDescriptor y_H_show.desc).map (fun d => d.parameters.length) = some 3 := by decide +kernel
abbrev y_H_present : MethodName := ⟨"LockHouse", "present", "(LLockHouse$Card;LLockHouse$Door;I)I"⟩
abbrev b_H_present : ByteArray := prog_1_method_25_code
abbrev k_H_present : Cond := .code y_H_present b_H_present 5 (some FieldType.int)
theorem kw_H_present : k_H_present ∈ TT := w485
theorem hd_H_present : y_H_present.cls ≠ "java/lang/invoke/MethodHandle" ∧ y_H_present.cls ≠ "java/lang/invoke/VarHandle" ∧ (parseMethodDescriptor y_H_present.desc).map (fun d => d.parameters.length) = some 3 := by decide +kernel
abbrev y_Card_current : MethodName := ⟨"LockHouse$Card", "current", "()LLockHouse$Image;"⟩
abbrev b_Card_current : ByteArray := prog_2_method_4_code
abbrev k_Card_current : Cond := .code y_Card_current b_Card_current 1 (some (FieldType.object "LockHouse$Image"))
theorem kw_Card_current : k_Card_current ∈ TT := w489
theorem hd_Card_current : y_Card_current.cls ≠ "java/lang/invoke/MethodHandle" ∧ y_Card_current.cls ≠ "java/lang/invoke/VarHandle" ∧ (parseMethodDescriptor y_Card_current.desc).map (fun d => d.parameters.length) = some 0 := by decide +kernel
abbrev y_Door_take : MethodName := ⟨"LockHouse$Door", "take", "(LLockHouse$Image;LLockHouse$EntryList;)V"⟩
abbrev b_Door_take : ByteArray := prog_3_method_3_code
abbrev k_Door_take : Cond := .code y_Door_take b_Door_take 6 none
theorem kw_Door_take : k_Door_take ∈ TT := w493
theorem hd_Door_take : y_Door_take.cls ≠ "java/lang/invoke/MethodHandle" ∧ y_Door_take.cls ≠ "java/lang/invoke/VarHandle" ∧ (parseMethodDescriptor y_Door_take.desc).map (fun d => d.parameters.length) = some 2 := by decide +kernel
abbrev y_EL_bringTo : MethodName := ⟨"LockHouse$EntryList", "bringTo", "(II)V"⟩
abbrev b_EL_bringTo : ByteArray := prog_5_method_7_code
abbrev k_EL_bringTo : Cond := .code y_EL_bringTo b_EL_bringTo 3 none
theorem kw_EL_bringTo : k_EL_bringTo ∈ TT := w499
theorem hd_EL_bringTo : y_EL_bringTo.cls ≠ "java/lang/invoke/MethodHandle" ∧ y_EL_bringTo.cls ≠ "java/lang/invoke/VarHandle" ∧ (parseMethodDescriptor y_EL_bringTo.desc).map (fun d => d.parameters.length) = some 2 := by decide +kernel
abbrev y_Entry_bringTo : MethodName := ⟨"LockHouse$Entry", "bringTo", "(I)V"⟩
abbrev b_Entry_bringTo : ByteArray := prog_4_method_3_code
abbrev k_Entry_bringTo : Cond := .code y_Entry_bringTo b_Entry_bringTo 2 none
theorem kw_Entry_bringTo : k_Entry_bringTo ∈ TT := w503
theorem hd_Entry_bringTo : y_Entry_bringTo.cls ≠ "java/lang/invoke/MethodHandle" ∧ y_Entry_bringTo.cls ≠ "java/lang/invoke/VarHandle" ∧ (parseMethodDescriptor y_Entry_bringTo.desc).map (fun d => d.parameters.length) = some 1 := by decide +kernel
abbrev y_Door_judge : MethodName := ⟨"LockHouse$Door", "judge", "(LLockHouse$Card;ILLockHouse$EntryList;)I"⟩
abbrev b_Door_judge : ByteArray := prog_3_method_4_code
abbrev k_Door_judge : Cond := .code y_Door_judge b_Door_judge 4 (some FieldType.int)
theorem kw_Door_judge : k_Door_judge ∈ TT := w508
theorem hd_Door_judge : y_Door_judge.cls ≠ "java/lang/invoke/MethodHandle" ∧ y_Door_judge.cls ≠ "java/lang/invoke/VarHandle" ∧ (parseMethodDescriptor y_Door_judge.desc).map (fun d => d.parameters.length) = some 3 := by decide +kernel
abbrev y_Door_has : MethodName := ⟨"LockHouse$Door", "has", "(ILLockHouse$EntryList;)Z"⟩
abbrev b_Door_has : ByteArray := prog_3_method_2_code
abbrev k_Door_has : Cond := .code y_Door_has b_Door_has 3 (some FieldType.boolean)
theorem kw_Door_has : k_Door_has ∈ TT := w512
theorem hd_Door_has : y_Door_has.cls ≠ "java/lang/invoke/MethodHandle" ∧ y_Door_has.cls ≠ "java/lang/invoke/VarHandle" ∧ (parseMethodDescriptor y_Door_has.desc).map (fun d => d.parameters.length) = some 2 := by decide +kernel
abbrev y_EL_isAt : MethodName := ⟨"LockHouse$EntryList", "isAt", "(II)Z"⟩
abbrev b_EL_isAt : ByteArray := prog_5_method_6_code
abbrev k_EL_isAt : Cond := .code y_EL_isAt b_EL_isAt 3 (some FieldType.boolean)
theorem kw_EL_isAt : k_EL_isAt ∈ TT := w516
theorem hd_EL_isAt : y_EL_isAt.cls ≠ "java/lang/invoke/MethodHandle" ∧ y_EL_isAt.cls ≠ "java/lang/invoke/VarHandle" ∧ (parseMethodDescriptor y_EL_isAt.desc).map (fun d => d.parameters.length) = some 2 := by decide +kernel
abbrev y_Entry_isAt : MethodName := ⟨"LockHouse$Entry", "isAt", "(I)Z"⟩
abbrev b_Entry_isAt : ByteArray := prog_4_method_2_code
abbrev k_Entry_isAt : Cond := .code y_Entry_isAt b_Entry_isAt 2 (some FieldType.boolean)
theorem kw_Entry_isAt : k_Entry_isAt ∈ TT := w520
theorem hd_Entry_isAt : y_Entry_isAt.cls ≠ "java/lang/invoke/MethodHandle" ∧ y_Entry_isAt.cls ≠ "java/lang/invoke/VarHandle" ∧ (parseMethodDescriptor y_Entry_isAt.desc).map (fun d => d.parameters.length) = some 1 := by decide +kernel
abbrev y_Card_opens : MethodName := ⟨"LockHouse$Card", "opens", "(I)Z"⟩
abbrev b_Card_opens : ByteArray := prog_2_method_7_code
abbrev k_Card_opens : Cond := .code y_Card_opens b_Card_opens 2 (some FieldType.boolean)
theorem kw_Card_opens : k_Card_opens ∈ TT := w524
theorem hd_Card_opens : y_Card_opens.cls ≠ "java/lang/invoke/MethodHandle" ∧ y_Card_opens.cls ≠ "java/lang/invoke/VarHandle" ∧ (parseMethodDescriptor y_Card_opens.desc).map (fun d => d.parameters.length) = some 1 := by decide +kernel
abbrev y_Door_pass : MethodName := ⟨"LockHouse$Door", "pass", "(LLockHouse$Card;LLockHouse$EntryList;)V"⟩
abbrev b_Door_pass : ByteArray := prog_3_method_5_code
abbrev k_Door_pass : Cond := .code y_Door_pass b_Door_pass 4 none
theorem kw_Door_pass : k_Door_pass ∈ TT := w528
theorem hd_Door_pass : y_Door_pass.cls ≠ "java/lang/invoke/MethodHandle" ∧ y_Door_pass.cls ≠ "java/lang/invoke/VarHandle" ∧ (parseMethodDescriptor y_Door_pass.desc).map (fun d => d.parameters.length) = some 2 := by decide +kernel
abbrev y_L_tear : MethodName := ⟨"LockHouseLaw", "tear", "(LLockHouse;II)I"⟩
abbrev b_L_tear : ByteArray := method_8_code
abbrev k_L_tear : Cond := .codeWith y_L_tear b_L_tear 4 (some FieldType.int) [(0, 6, 9, 19), (0, 6, 12, 29)]
theorem kw_L_tear : k_L_tear ∈ TT := w533
theorem hd_L_tear : y_L_tear.cls ≠ "java/lang/invoke/MethodHandle" ∧ y_L_tear.cls ≠ "java/lang/invoke/VarHandle" ∧ (parseMethodDescriptor y_L_tear.desc).map (fun d => d.parameters.length) = some 3 := by decide +kernel
abbrev y_H_tear : MethodName := ⟨"LockHouse", "tear", "(II)V"⟩
abbrev b_H_tear : ByteArray := prog_1_method_9_code
abbrev k_H_tear : Cond := .code y_H_tear b_H_tear 4 none
theorem kw_H_tear : k_H_tear ∈ TT := w537
theorem hd_H_tear : y_H_tear.cls ≠ "java/lang/invoke/MethodHandle" ∧ y_H_tear.cls ≠ "java/lang/invoke/VarHandle" ∧ (parseMethodDescriptor y_H_tear.desc).map (fun d => d.parameters.length) = some 2 := by decide +kernel
abbrev y_L_written : MethodName := ⟨"LockHouseLaw", "written", "(LLockHouse;I[J)I"⟩
abbrev b_L_written : ByteArray := method_9_code
abbrev k_L_written : Cond := .codeWith y_L_written b_L_written 4 (some FieldType.int) [(0, 9, 12, 19)]
theorem kw_L_written : k_L_written ∈ TT := w541
theorem hd_L_written : y_L_written.cls ≠ "java/lang/invoke/MethodHandle" ∧ y_L_written.cls ≠ "java/lang/invoke/VarHandle" ∧ (parseMethodDescriptor y_L_written.desc).map (fun d => d.parameters.length) = some 3 := by decide +kernel
abbrev y_H_written : MethodName := ⟨"LockHouse", "written", "(I)I"⟩
abbrev b_H_written : ByteArray := prog_1_method_10_code
abbrev k_H_written : Cond := .code y_H_written b_H_written 2 (some FieldType.int)
theorem kw_H_written : k_H_written ∈ TT := w545
theorem hd_H_written : y_H_written.cls ≠ "java/lang/invoke/MethodHandle" ∧ y_H_written.cls ≠ "java/lang/invoke/VarHandle" ∧ (parseMethodDescriptor y_H_written.desc).map (fun d => d.parameters.length) = some 1 := by decide +kernel
abbrev y_L_word : MethodName := ⟨"LockHouseLaw", "word", "(LLockHouse;III[J)I"⟩
abbrev b_L_word : ByteArray := method_10_code
abbrev k_L_word : Cond := .codeWith y_L_word b_L_word 6 (some FieldType.int) [(0, 12, 15, 19)]
theorem kw_L_word : k_L_word ∈ TT := w548
theorem hd_L_word : y_L_word.cls ≠ "java/lang/invoke/MethodHandle" ∧ y_L_word.cls ≠ "java/lang/invoke/VarHandle" ∧ (parseMethodDescriptor y_L_word.desc).map (fun d => d.parameters.length) = some 5 := by decide +kernel
abbrev y_H_word : MethodName := ⟨"LockHouse", "word", "(III)I"⟩
abbrev b_H_word : ByteArray := prog_1_method_11_code
abbrev k_H_word : Cond := .code y_H_word b_H_word 5 (some FieldType.int)
theorem kw_H_word : k_H_word ∈ TT := w552
theorem hd_H_word : y_H_word.cls ≠ "java/lang/invoke/MethodHandle" ∧ y_H_word.cls ≠ "java/lang/invoke/VarHandle" ∧ (parseMethodDescriptor y_H_word.desc).map (fun d => d.parameters.length) = some 3 := by decide +kernel
abbrev y_L_carries : MethodName := ⟨"LockHouseLaw", "carries", "(LLockHouse;II[J)I"⟩
abbrev b_L_carries : ByteArray := method_11_code
abbrev k_L_carries : Cond := .codeWith y_L_carries b_L_carries 5 (some FieldType.int) [(0, 10, 13, 19), (0, 10, 17, 29)]
theorem kw_L_carries : k_L_carries ∈ TT := w558
theorem hd_L_carries : y_L_carries.cls ≠ "java/lang/invoke/MethodHandle" ∧ y_L_carries.cls ≠ "java/lang/invoke/VarHandle" ∧ (parseMethodDescriptor y_L_carries.desc).map (fun d => d.parameters.length) = some 4 := by decide +kernel
abbrev y_H_carries : MethodName := ⟨"LockHouse", "carries", "(II)I"⟩
abbrev b_H_carries : ByteArray := prog_1_method_12_code
abbrev k_H_carries : Cond := .code y_H_carries b_H_carries 4 (some FieldType.int)
theorem kw_H_carries : k_H_carries ∈ TT := w562
theorem hd_H_carries : y_H_carries.cls ≠ "java/lang/invoke/MethodHandle" ∧ y_H_carries.cls ≠ "java/lang/invoke/VarHandle" ∧ (parseMethodDescriptor y_H_carries.desc).map (fun d => d.parameters.length) = some 2 := by decide +kernel
abbrev y_L_memory : MethodName := ⟨"LockHouseLaw", "memory", "(LLockHouse;II[J)I"⟩
abbrev b_L_memory : ByteArray := method_12_code
abbrev k_L_memory : Cond := .codeWith y_L_memory b_L_memory 5 (some FieldType.int) [(0, 10, 13, 19)]
theorem kw_L_memory : k_L_memory ∈ TT := w568
theorem hd_L_memory : y_L_memory.cls ≠ "java/lang/invoke/MethodHandle" ∧ y_L_memory.cls ≠ "java/lang/invoke/VarHandle" ∧ (parseMethodDescriptor y_L_memory.desc).map (fun d => d.parameters.length) = some 4 := by decide +kernel
abbrev y_H_memory : MethodName := ⟨"LockHouse", "memory", "(II)I"⟩
abbrev b_H_memory : ByteArray := prog_1_method_13_code
abbrev k_H_memory : Cond := .code y_H_memory b_H_memory 4 (some FieldType.int)
theorem kw_H_memory : k_H_memory ∈ TT := w572
theorem hd_H_memory : y_H_memory.cls ≠ "java/lang/invoke/MethodHandle" ∧ y_H_memory.cls ≠ "java/lang/invoke/VarHandle" ∧ (parseMethodDescriptor y_H_memory.desc).map (fun d => d.parameters.length) = some 2 := by decide +kernel
abbrev y_L_about : MethodName := ⟨"LockHouseLaw", "about", "(LLockHouse;II[J)I"⟩
abbrev b_L_about : ByteArray := method_13_code
abbrev k_L_about : Cond := .codeWith y_L_about b_L_about 5 (some FieldType.int) [(0, 10, 13, 19), (0, 10, 17, 29)]
theorem kw_L_about : k_L_about ∈ TT := w576
theorem hd_L_about : y_L_about.cls ≠ "java/lang/invoke/MethodHandle" ∧ y_L_about.cls ≠ "java/lang/invoke/VarHandle" ∧ (parseMethodDescriptor y_L_about.desc).map (fun d => d.parameters.length) = some 4 := by decide +kernel
abbrev y_H_about : MethodName := ⟨"LockHouse", "about", "(II)I"⟩
abbrev b_H_about : ByteArray := prog_1_method_14_code
abbrev k_H_about : Cond := .code y_H_about b_H_about 4 (some FieldType.int)
theorem kw_H_about : k_H_about ∈ TT := w580
theorem hd_H_about : y_H_about.cls ≠ "java/lang/invoke/MethodHandle" ∧ y_H_about.cls ≠ "java/lang/invoke/VarHandle" ∧ (parseMethodDescriptor y_H_about.desc).map (fun d => d.parameters.length) = some 2 := by decide +kernel
abbrev y_Door_complete : MethodName := ⟨"LockHouse$Door", "complete", "(LLockHouse$EntryList;)I"⟩
abbrev b_Door_complete : ByteArray := prog_3_method_6_code
abbrev k_Door_complete : Cond := .code y_Door_complete b_Door_complete 2 (some FieldType.int)
theorem kw_Door_complete : k_Door_complete ∈ TT := w584
theorem hd_Door_complete : y_Door_complete.cls ≠ "java/lang/invoke/MethodHandle" ∧ y_Door_complete.cls ≠ "java/lang/invoke/VarHandle" ∧ (parseMethodDescriptor y_Door_complete.desc).map (fun d => d.parameters.length) = some 1 := by decide +kernel
abbrev y_Door_endOfRun : MethodName := ⟨"LockHouse$Door", "endOfRun", "(ILLockHouse$EntryList;)I"⟩
abbrev b_Door_endOfRun : ByteArray := prog_3_method_10_code
abbrev k_Door_endOfRun : Cond := .code y_Door_endOfRun b_Door_endOfRun 4 (some FieldType.int)
theorem kw_Door_endOfRun : k_Door_endOfRun ∈ TT := w588
theorem hd_Door_endOfRun : y_Door_endOfRun.cls ≠ "java/lang/invoke/MethodHandle" ∧ y_Door_endOfRun.cls ≠ "java/lang/invoke/VarHandle" ∧ (parseMethodDescriptor y_Door_endOfRun.desc).map (fun d => d.parameters.length) = some 2 := by decide +kernel
abbrev y_Door_countEntries : MethodName := ⟨"LockHouse$Door", "countEntries", "(LLockHouse$EntryList;)I"⟩
abbrev b_Door_countEntries : ByteArray := prog_3_method_7_code
abbrev k_Door_countEntries : Cond := .code y_Door_countEntries b_Door_countEntries 4 (some FieldType.int)
theorem kw_Door_countEntries : k_Door_countEntries ∈ TT := w594
theorem hd_Door_countEntries : y_Door_countEntries.cls ≠ "java/lang/invoke/MethodHandle" ∧ y_Door_countEntries.cls ≠ "java/lang/invoke/VarHandle" ∧ (parseMethodDescriptor y_Door_countEntries.desc).map (fun d => d.parameters.length) = some 1 := by decide +kernel
abbrev y_Door_countRuns : MethodName := ⟨"LockHouse$Door", "countRuns", "(LLockHouse$EntryList;)I"⟩
abbrev b_Door_countRuns : ByteArray := prog_3_method_8_code
abbrev k_Door_countRuns : Cond := .code y_Door_countRuns b_Door_countRuns 4 (some FieldType.int)
theorem kw_Door_countRuns : k_Door_countRuns ∈ TT := w598
theorem hd_Door_countRuns : y_Door_countRuns.cls ≠ "java/lang/invoke/MethodHandle" ∧ y_Door_countRuns.cls ≠ "java/lang/invoke/VarHandle" ∧ (parseMethodDescriptor y_Door_countRuns.desc).map (fun d => d.parameters.length) = some 1 := by decide +kernel
abbrev y_Door_startsRun : MethodName := ⟨"LockHouse$Door", "startsRun", "(ILLockHouse$EntryList;)Z"⟩
abbrev b_Door_startsRun : ByteArray := prog_3_method_11_code
abbrev k_Door_startsRun : Cond := .code y_Door_startsRun b_Door_startsRun 3 (some FieldType.boolean)
theorem kw_Door_startsRun : k_Door_startsRun ∈ TT := w602
theorem hd_Door_startsRun : y_Door_startsRun.cls ≠ "java/lang/invoke/MethodHandle" ∧ y_Door_startsRun.cls ≠ "java/lang/invoke/VarHandle" ∧ (parseMethodDescriptor y_Door_startsRun.desc).map (fun d => d.parameters.length) = some 2 := by decide +kernel
abbrev y_L_run : MethodName := ⟨"LockHouseLaw", "run", "(LLockHouse;IIZ[J)I"⟩
abbrev b_L_run : ByteArray := method_14_code
abbrev k_L_run : Cond := .codeWith y_L_run b_L_run 6 (some FieldType.int) [(0, 12, 15, 19)]
theorem kw_L_run : k_L_run ∈ TT := w606
theorem hd_L_run : y_L_run.cls ≠ "java/lang/invoke/MethodHandle" ∧ y_L_run.cls ≠ "java/lang/invoke/VarHandle" ∧ (parseMethodDescriptor y_L_run.desc).map (fun d => d.parameters.length) = some 5 := by decide +kernel
abbrev y_H_run : MethodName := ⟨"LockHouse", "run", "(IIZ)I"⟩
abbrev b_H_run : ByteArray := prog_1_method_15_code
abbrev k_H_run : Cond := .code y_H_run b_H_run 6 (some FieldType.int)
theorem kw_H_run : k_H_run ∈ TT := w610
theorem hd_H_run : y_H_run.cls ≠ "java/lang/invoke/MethodHandle" ∧ y_H_run.cls ≠ "java/lang/invoke/VarHandle" ∧ (parseMethodDescriptor y_H_run.desc).map (fun d => d.parameters.length) = some 3 := by decide +kernel
abbrev y_Door_startOfRun : MethodName := ⟨"LockHouse$Door", "startOfRun", "(ILLockHouse$EntryList;)I"⟩
abbrev b_Door_startOfRun : ByteArray := prog_3_method_9_code
abbrev k_Door_startOfRun : Cond := .code y_Door_startOfRun b_Door_startOfRun 5 (some FieldType.int)
theorem kw_Door_startOfRun : k_Door_startOfRun ∈ TT := w614
theorem hd_Door_startOfRun : y_Door_startOfRun.cls ≠ "java/lang/invoke/MethodHandle" ∧ y_Door_startOfRun.cls ≠ "java/lang/invoke/VarHandle" ∧ (parseMethodDescriptor y_Door_startOfRun.desc).map (fun d => d.parameters.length) = some 2 := by decide +kernel
abbrev y_L_refuses : MethodName := ⟨"LockHouseLaw", "refuses", "(LLockHouse;II[J)I"⟩
abbrev b_L_refuses : ByteArray := method_15_code
abbrev k_L_refuses : Cond := .codeWith y_L_refuses b_L_refuses 5 (some FieldType.int) [(0, 17, 20, 19)]
theorem kw_L_refuses : k_L_refuses ∈ TT := w619
theorem hd_L_refuses : y_L_refuses.cls ≠ "java/lang/invoke/MethodHandle" ∧ y_L_refuses.cls ≠ "java/lang/invoke/VarHandle" ∧ (parseMethodDescriptor y_L_refuses.desc).map (fun d => d.parameters.length) = some 4 := by decide +kernel
abbrev y_H_refuses : MethodName := ⟨"LockHouse", "refuses", "(II)Z"⟩
abbrev b_H_refuses : ByteArray := prog_1_method_16_code
abbrev k_H_refuses : Cond := .code y_H_refuses b_H_refuses 4 (some FieldType.boolean)
theorem kw_H_refuses : k_H_refuses ∈ TT := w623
theorem hd_H_refuses : y_H_refuses.cls ≠ "java/lang/invoke/MethodHandle" ∧ y_H_refuses.cls ≠ "java/lang/invoke/VarHandle" ∧ (parseMethodDescriptor y_H_refuses.desc).map (fun d => d.parameters.length) = some 2 := by decide +kernel
abbrev y_L_reach : MethodName := ⟨"LockHouseLaw", "reach", "(LLockHouse;I[J)I"⟩
abbrev b_L_reach : ByteArray := method_16_code
abbrev k_L_reach : Cond := .codeWith y_L_reach b_L_reach 4 (some FieldType.int) [(0, 9, 12, 19)]
theorem kw_L_reach : k_L_reach ∈ TT := w627
theorem hd_L_reach : y_L_reach.cls ≠ "java/lang/invoke/MethodHandle" ∧ y_L_reach.cls ≠ "java/lang/invoke/VarHandle" ∧ (parseMethodDescriptor y_L_reach.desc).map (fun d => d.parameters.length) = some 3 := by decide +kernel
abbrev y_H_reach : MethodName := ⟨"LockHouse", "reach", "(I)I"⟩
abbrev b_H_reach : ByteArray := prog_1_method_17_code
abbrev k_H_reach : Cond := .code y_H_reach b_H_reach 2 (some FieldType.int)
theorem kw_H_reach : k_H_reach ∈ TT := w631
theorem hd_H_reach : y_H_reach.cls ≠ "java/lang/invoke/MethodHandle" ∧ y_H_reach.cls ≠ "java/lang/invoke/VarHandle" ∧ (parseMethodDescriptor y_H_reach.desc).map (fun d => d.parameters.length) = some 1 := by decide +kernel
abbrev y_EL_countDoorsWith : MethodName := ⟨"LockHouse$EntryList", "countDoorsWith", "(I)I"⟩
abbrev b_EL_countDoorsWith : ByteArray := prog_5_method_8_code
abbrev k_EL_countDoorsWith : Cond := .code y_EL_countDoorsWith b_EL_countDoorsWith 2 (some FieldType.int)
theorem kw_EL_countDoorsWith : k_EL_countDoorsWith ∈ TT := w636
theorem hd_EL_countDoorsWith : y_EL_countDoorsWith.cls ≠ "java/lang/invoke/MethodHandle" ∧ y_EL_countDoorsWith.cls ≠ "java/lang/invoke/VarHandle" ∧ (parseMethodDescriptor y_EL_countDoorsWith.desc).map (fun d => d.parameters.length) = some 1 := by decide +kernel
abbrev y_Entry_countDoors : MethodName := ⟨"LockHouse$Entry", "countDoors", "()I"⟩
abbrev b_Entry_countDoors : ByteArray := prog_4_method_4_code
abbrev k_Entry_countDoors : Cond := .code y_Entry_countDoors b_Entry_countDoors 6 (some FieldType.int)
theorem kw_Entry_countDoors : k_Entry_countDoors ∈ TT := w640
theorem hd_Entry_countDoors : y_Entry_countDoors.cls ≠ "java/lang/invoke/MethodHandle" ∧ y_Entry_countDoors.cls ≠ "java/lang/invoke/VarHandle" ∧ (parseMethodDescriptor y_Entry_countDoors.desc).map (fun d => d.parameters.length) = some 0 := by decide +kernel
abbrev y_L_loseBattery : MethodName := ⟨"LockHouseLaw", "loseBattery", "(LLockHouse;I)I"⟩
abbrev b_L_loseBattery : ByteArray := method_17_code
abbrev k_L_loseBattery : Cond := .codeWith y_L_loseBattery b_L_loseBattery 3 (some FieldType.int) [(0, 5, 8, 19)]
theorem kw_L_loseBattery : k_L_loseBattery ∈ TT := w643
theorem hd_L_loseBattery : y_L_loseBattery.cls ≠ "java/lang/invoke/MethodHandle" ∧ y_L_loseBattery.cls ≠ "java/lang/invoke/VarHandle" ∧ (parseMethodDescriptor y_L_loseBattery.desc).map (fun d => d.parameters.length) = some 2 := by decide +kernel
abbrev y_H_loseBattery : MethodName := ⟨"LockHouse", "loseBattery", "(I)V"⟩
abbrev b_H_loseBattery : ByteArray := prog_1_method_18_code
abbrev k_H_loseBattery : Cond := .code y_H_loseBattery b_H_loseBattery 2 none
theorem kw_H_loseBattery : k_H_loseBattery ∈ TT := w647
theorem hd_H_loseBattery : y_H_loseBattery.cls ≠ "java/lang/invoke/MethodHandle" ∧ y_H_loseBattery.cls ≠ "java/lang/invoke/VarHandle" ∧ (parseMethodDescriptor y_H_loseBattery.desc).map (fun d => d.parameters.length) = some 1 := by decide +kernel
abbrev y_L_visit : MethodName := ⟨"LockHouseLaw", "visit", "(LLockHouse;IIII)I"⟩
abbrev b_L_visit : ByteArray := method_18_code
abbrev k_L_visit : Cond := .codeWith y_L_visit b_L_visit 6 (some FieldType.int) [(0, 9, 12, 19)]
theorem kw_L_visit : k_L_visit ∈ TT := w650
theorem hd_L_visit : y_L_visit.cls ≠ "java/lang/invoke/MethodHandle" ∧ y_L_visit.cls ≠ "java/lang/invoke/VarHandle" ∧ (parseMethodDescriptor y_L_visit.desc).map (fun d => d.parameters.length) = some 5 := by decide +kernel
abbrev y_H_visit : MethodName := ⟨"LockHouse", "visit", "(IIII)V"⟩
abbrev b_H_visit : ByteArray := prog_1_method_19_code
abbrev k_H_visit : Cond := .code y_H_visit b_H_visit 5 none
theorem kw_H_visit : k_H_visit ∈ TT := w654
theorem hd_H_visit : y_H_visit.cls ≠ "java/lang/invoke/MethodHandle" ∧ y_H_visit.cls ≠ "java/lang/invoke/VarHandle" ∧ (parseMethodDescriptor y_H_visit.desc).map (fun d => d.parameters.length) = some 4 := by decide +kernel
abbrev y_L_spread : MethodName := ⟨"LockHouseLaw", "spread", "(LLockHouse;I[J)I"⟩
abbrev b_L_spread : ByteArray := method_19_code
abbrev k_L_spread : Cond := .codeWith y_L_spread b_L_spread 4 (some FieldType.int) [(0, 9, 12, 29)]
theorem kw_L_spread : k_L_spread ∈ TT := w658
theorem hd_L_spread : y_L_spread.cls ≠ "java/lang/invoke/MethodHandle" ∧ y_L_spread.cls ≠ "java/lang/invoke/VarHandle" ∧ (parseMethodDescriptor y_L_spread.desc).map (fun d => d.parameters.length) = some 3 := by decide +kernel
abbrev y_H_spread : MethodName := ⟨"LockHouse", "spread", "(I)I"⟩
abbrev b_H_spread : ByteArray := prog_1_method_20_code
abbrev k_H_spread : Cond := .code y_H_spread b_H_spread 4 (some FieldType.int)
theorem kw_H_spread : k_H_spread ∈ TT := w662
theorem hd_H_spread : y_H_spread.cls ≠ "java/lang/invoke/MethodHandle" ∧ y_H_spread.cls ≠ "java/lang/invoke/VarHandle" ∧ (parseMethodDescriptor y_H_spread.desc).map (fun d => d.parameters.length) = some 1 := by decide +kernel
abbrev y_T_init : MethodName := ⟨"LockHouseModel", "<init>", "()V"⟩
abbrev b_T_init : ByteArray := prog_8_method_1_code
abbrev k_T_init : Cond := .code y_T_init b_T_init 1 none
theorem kw_T_init : k_T_init ∈ TT := w668
theorem hd_T_init : y_T_init.cls ≠ "java/lang/invoke/MethodHandle" ∧ y_T_init.cls ≠ "java/lang/invoke/VarHandle" ∧ (parseMethodDescriptor y_T_init.desc).map (fun d => d.parameters.length) = some 0 := by decide +kernel
abbrev y_T_thrown : MethodName := ⟨"LockHouseModel", "thrown", "()I"⟩
abbrev b_T_thrown : ByteArray := prog_8_method_2_code
abbrev k_T_thrown : Cond := .code y_T_thrown b_T_thrown 1 (some FieldType.int)
theorem kw_T_thrown : k_T_thrown ∈ TT := w730
theorem hd_T_thrown : y_T_thrown.cls ≠ "java/lang/invoke/MethodHandle" ∧ y_T_thrown.cls ≠ "java/lang/invoke/VarHandle" ∧ (parseMethodDescriptor y_T_thrown.desc).map (fun d => d.parameters.length) = some 0 := by decide +kernel
abbrev y_T_issue : MethodName := ⟨"LockHouseModel", "issue", "(II)I"⟩
abbrev b_T_issue : ByteArray := prog_8_method_5_code
abbrev k_T_issue : Cond := .code y_T_issue b_T_issue 3 (some FieldType.int)
theorem kw_T_issue : k_T_issue ∈ TT := w734
theorem hd_T_issue : y_T_issue.cls ≠ "java/lang/invoke/MethodHandle" ∧ y_T_issue.cls ≠ "java/lang/invoke/VarHandle" ∧ (parseMethodDescriptor y_T_issue.desc).map (fun d => d.parameters.length) = some 2 := by decide +kernel
abbrev y_T_cards : MethodName := ⟨"LockHouseModel", "cards", "()I"⟩
abbrev b_T_cards : ByteArray := prog_8_method_6_code
abbrev k_T_cards : Cond := .code y_T_cards b_T_cards 1 (some FieldType.int)
theorem kw_T_cards : k_T_cards ∈ TT := w738
theorem hd_T_cards : y_T_cards.cls ≠ "java/lang/invoke/MethodHandle" ∧ y_T_cards.cls ≠ "java/lang/invoke/VarHandle" ∧ (parseMethodDescriptor y_T_cards.desc).map (fun d => d.parameters.length) = some 0 := by decide +kernel
abbrev y_T_revoke : MethodName := ⟨"LockHouseModel", "revoke", "(I)I"⟩
abbrev b_T_revoke : ByteArray := prog_8_method_7_code
abbrev k_T_revoke : Cond := .code y_T_revoke b_T_revoke 2 (some FieldType.int)
theorem kw_T_revoke : k_T_revoke ∈ TT := w742
theorem hd_T_revoke : y_T_revoke.cls ≠ "java/lang/invoke/MethodHandle" ∧ y_T_revoke.cls ≠ "java/lang/invoke/VarHandle" ∧ (parseMethodDescriptor y_T_revoke.desc).map (fun d => d.parameters.length) = some 1 := by decide +kernel
abbrev y_T_noCard : MethodName := ⟨"LockHouseModel", "noCard", "(I)Z"⟩
abbrev b_T_noCard : ByteArray := prog_8_method_3_code
abbrev k_T_noCard : Cond := .code y_T_noCard b_T_noCard 2 (some FieldType.boolean)
theorem kw_T_noCard : k_T_noCard ∈ TT := w746
theorem hd_T_noCard : y_T_noCard.cls ≠ "java/lang/invoke/MethodHandle" ∧ y_T_noCard.cls ≠ "java/lang/invoke/VarHandle" ∧ (parseMethodDescriptor y_T_noCard.desc).map (fun d => d.parameters.length) = some 1 := by decide +kernel
abbrev y_T_entries : MethodName := ⟨"LockHouseModel", "entries", "()I"⟩
abbrev b_T_entries : ByteArray := prog_8_method_8_code
abbrev k_T_entries : Cond := .code y_T_entries b_T_entries 1 (some FieldType.int)
theorem kw_T_entries : k_T_entries ∈ TT := w750
theorem hd_T_entries : y_T_entries.cls ≠ "java/lang/invoke/MethodHandle" ∧ y_T_entries.cls ≠ "java/lang/invoke/VarHandle" ∧ (parseMethodDescriptor y_T_entries.desc).map (fun d => d.parameters.length) = some 0 := by decide +kernel
abbrev y_T_gate : MethodName := ⟨"LockHouseModel", "gate", "(I)V"⟩
abbrev b_T_gate : ByteArray := prog_8_method_19_code
abbrev k_T_gate : Cond := .code y_T_gate b_T_gate 2 none
theorem kw_T_gate : k_T_gate ∈ TT := w754
theorem hd_T_gate : y_T_gate.cls ≠ "java/lang/invoke/MethodHandle" ∧ y_T_gate.cls ≠ "java/lang/invoke/VarHandle" ∧ (parseMethodDescriptor y_T_gate.desc).map (fun d => d.parameters.length) = some 1 := by decide +kernel
abbrev y_T_write : MethodName := ⟨"LockHouseModel", "write", "(IIII)V"⟩
abbrev b_T_write : ByteArray := prog_8_method_17_code
abbrev k_T_write : Cond := .code y_T_write b_T_write 11 none
theorem kw_T_write : k_T_write ∈ TT := w758
theorem hd_T_write : y_T_write.cls ≠ "java/lang/invoke/MethodHandle" ∧ y_T_write.cls ≠ "java/lang/invoke/VarHandle" ∧ (parseMethodDescriptor y_T_write.desc).map (fun d => d.parameters.length) = some 4 := by decide +kernel
abbrev y_T_tells : MethodName := ⟨"LockHouseModel", "tells", "(IIII)Z"⟩
abbrev b_T_tells : ByteArray := prog_8_method_16_code
abbrev k_T_tells : Cond := .code y_T_tells b_T_tells 7 (some FieldType.boolean)
theorem kw_T_tells : k_T_tells ∈ TT := w762
theorem hd_T_tells : y_T_tells.cls ≠ "java/lang/invoke/MethodHandle" ∧ y_T_tells.cls ≠ "java/lang/invoke/VarHandle" ∧ (parseMethodDescriptor y_T_tells.desc).map (fun d => d.parameters.length) = some 4 := by decide +kernel
abbrev y_T_count : MethodName := ⟨"LockHouseModel", "count", "(I)I"⟩
abbrev b_T_count : ByteArray := prog_8_method_13_code
abbrev k_T_count : Cond := .code y_T_count b_T_count 2 (some FieldType.int)
theorem kw_T_count : k_T_count ∈ TT := w766
theorem hd_T_count : y_T_count.cls ≠ "java/lang/invoke/MethodHandle" ∧ y_T_count.cls ≠ "java/lang/invoke/VarHandle" ∧ (parseMethodDescriptor y_T_count.desc).map (fun d => d.parameters.length) = some 1 := by decide +kernel
abbrev y_T_current : MethodName := ⟨"LockHouseModel", "current", "(I)I"⟩
abbrev b_T_current : ByteArray := prog_8_method_12_code
abbrev k_T_current : Cond := .code y_T_current b_T_current 3 (some FieldType.int)
theorem kw_T_current : k_T_current ∈ TT := w770
theorem hd_T_current : y_T_current.cls ≠ "java/lang/invoke/MethodHandle" ∧ y_T_current.cls ≠ "java/lang/invoke/VarHandle" ∧ (parseMethodDescriptor y_T_current.desc).map (fun d => d.parameters.length) = some 1 := by decide +kernel
abbrev y_T_whole : MethodName := ⟨"LockHouseModel", "whole", "(II)Z"⟩
abbrev b_T_whole : ByteArray := prog_8_method_10_code
abbrev k_T_whole : Cond := .code y_T_whole b_T_whole 3 (some FieldType.boolean)
theorem kw_T_whole : k_T_whole ∈ TT := w774
theorem hd_T_whole : y_T_whole.cls ≠ "java/lang/invoke/MethodHandle" ∧ y_T_whole.cls ≠ "java/lang/invoke/VarHandle" ∧ (parseMethodDescriptor y_T_whole.desc).map (fun d => d.parameters.length) = some 2 := by decide +kernel
abbrev y_T_wordAt : MethodName := ⟨"LockHouseModel", "wordAt", "(III)I"⟩
abbrev b_T_wordAt : ByteArray := prog_8_method_9_code
abbrev k_T_wordAt : Cond := .code y_T_wordAt b_T_wordAt 4 (some FieldType.int)
theorem kw_T_wordAt : k_T_wordAt ∈ TT := w778
theorem hd_T_wordAt : y_T_wordAt.cls ≠ "java/lang/invoke/MethodHandle" ∧ y_T_wordAt.cls ≠ "java/lang/invoke/VarHandle" ∧ (parseMethodDescriptor y_T_wordAt.desc).map (fun d => d.parameters.length) = some 3 := by decide +kernel
abbrev y_T_sequence : MethodName := ⟨"LockHouseModel", "sequence", "(II)I"⟩
abbrev b_T_sequence : ByteArray := prog_8_method_11_code
abbrev k_T_sequence : Cond := .code y_T_sequence b_T_sequence 3 (some FieldType.int)
theorem kw_T_sequence : k_T_sequence ∈ TT := w782
theorem hd_T_sequence : y_T_sequence.cls ≠ "java/lang/invoke/MethodHandle" ∧ y_T_sequence.cls ≠ "java/lang/invoke/VarHandle" ∧ (parseMethodDescriptor y_T_sequence.desc).map (fun d => d.parameters.length) = some 2 := by decide +kernel
abbrev y_T_first : MethodName := ⟨"LockHouseModel", "first", "(I)I"⟩
abbrev b_T_first : ByteArray := prog_8_method_14_code
abbrev k_T_first : Cond := .code y_T_first b_T_first 2 (some FieldType.int)
theorem kw_T_first : k_T_first ∈ TT := w786
theorem hd_T_first : y_T_first.cls ≠ "java/lang/invoke/MethodHandle" ∧ y_T_first.cls ≠ "java/lang/invoke/VarHandle" ∧ (parseMethodDescriptor y_T_first.desc).map (fun d => d.parameters.length) = some 1 := by decide +kernel
abbrev y_T_seen : MethodName := ⟨"LockHouseModel", "seen", "(I)I"⟩
abbrev b_T_seen : ByteArray := prog_8_method_15_code
abbrev k_T_seen : Cond := .code y_T_seen b_T_seen 2 (some FieldType.int)
theorem kw_T_seen : k_T_seen ∈ TT := w790
theorem hd_T_seen : y_T_seen.cls ≠ "java/lang/invoke/MethodHandle" ∧ y_T_seen.cls ≠ "java/lang/invoke/VarHandle" ∧ (parseMethodDescriptor y_T_seen.desc).map (fun d => d.parameters.length) = some 1 := by decide +kernel
abbrev y_T_give : MethodName := ⟨"LockHouseModel", "give", "(IIII)V"⟩
abbrev b_T_give : ByteArray := prog_8_method_18_code
abbrev k_T_give : Cond := .code y_T_give b_T_give 6 none
theorem kw_T_give : k_T_give ∈ TT := w794
theorem hd_T_give : y_T_give.cls ≠ "java/lang/invoke/MethodHandle" ∧ y_T_give.cls ≠ "java/lang/invoke/VarHandle" ∧ (parseMethodDescriptor y_T_give.desc).map (fun d => d.parameters.length) = some 4 := by decide +kernel
abbrev y_T_zoneOf : MethodName := ⟨"LockHouseModel", "zoneOf", "(II)V"⟩
abbrev b_T_zoneOf : ByteArray := prog_8_method_20_code
abbrev k_T_zoneOf : Cond := .code y_T_zoneOf b_T_zoneOf 3 none
theorem kw_T_zoneOf : k_T_zoneOf ∈ TT := w798
theorem hd_T_zoneOf : y_T_zoneOf.cls ≠ "java/lang/invoke/MethodHandle" ∧ y_T_zoneOf.cls ≠ "java/lang/invoke/VarHandle" ∧ (parseMethodDescriptor y_T_zoneOf.desc).map (fun d => d.parameters.length) = some 2 := by decide +kernel
abbrev y_T_noDoor : MethodName := ⟨"LockHouseModel", "noDoor", "(I)Z"⟩
abbrev b_T_noDoor : ByteArray := prog_8_method_4_code
abbrev k_T_noDoor : Cond := .code y_T_noDoor b_T_noDoor 1 (some FieldType.boolean)
theorem kw_T_noDoor : k_T_noDoor ∈ TT := w801
theorem hd_T_noDoor : y_T_noDoor.cls ≠ "java/lang/invoke/MethodHandle" ∧ y_T_noDoor.cls ≠ "java/lang/invoke/VarHandle" ∧ (parseMethodDescriptor y_T_noDoor.desc).map (fun d => d.parameters.length) = some 1 := by decide +kernel
abbrev y_T_show : MethodName := ⟨"LockHouseModel", "show", "(III)I"⟩
abbrev b_T_show : ByteArray := prog_8_method_25_code
abbrev k_T_show : Cond := .code y_T_show b_T_show 4 (some FieldType.int)
theorem kw_T_show : k_T_show ∈ TT := w805
theorem hd_T_show : y_T_show.cls ≠ "java/lang/invoke/MethodHandle" ∧ y_T_show.cls ≠ "java/lang/invoke/VarHandle" ∧ (parseMethodDescriptor y_T_show.desc).map (fun d => d.parameters.length) = some 3 := by decide +kernel
abbrev y_T_visitAt : MethodName := ⟨"LockHouseModel", "visitAt", "(III)I"⟩
abbrev b_T_visitAt : ByteArray := prog_8_method_23_code
abbrev k_T_visitAt : Cond := .code y_T_visitAt b_T_visitAt 9 (some FieldType.int)
theorem kw_T_visitAt : k_T_visitAt ∈ TT := w809
theorem hd_T_visitAt : y_T_visitAt.cls ≠ "java/lang/invoke/MethodHandle" ∧ y_T_visitAt.cls ≠ "java/lang/invoke/VarHandle" ∧ (parseMethodDescriptor y_T_visitAt.desc).map (fun d => d.parameters.length) = some 3 := by decide +kernel
abbrev y_T_revokedAt : MethodName := ⟨"LockHouseModel", "revokedAt", "(II)Z"⟩
abbrev b_T_revokedAt : ByteArray := prog_8_method_24_code
abbrev k_T_revokedAt : Cond := .code y_T_revokedAt b_T_revokedAt 3 (some FieldType.boolean)
theorem kw_T_revokedAt : k_T_revokedAt ∈ TT := w813
theorem hd_T_revokedAt : y_T_revokedAt.cls ≠ "java/lang/invoke/MethodHandle" ∧ y_T_revokedAt.cls ≠ "java/lang/invoke/VarHandle" ∧ (parseMethodDescriptor y_T_revokedAt.desc).map (fun d => d.parameters.length) = some 2 := by decide +kernel
abbrev y_T_greatest : MethodName := ⟨"LockHouseModel", "greatest", "(I)I"⟩
abbrev b_T_greatest : ByteArray := prog_8_method_21_code
abbrev k_T_greatest : Cond := .code y_T_greatest b_T_greatest 3 (some FieldType.int)
theorem kw_T_greatest : k_T_greatest ∈ TT := w817
theorem hd_T_greatest : y_T_greatest.cls ≠ "java/lang/invoke/MethodHandle" ∧ y_T_greatest.cls ≠ "java/lang/invoke/VarHandle" ∧ (parseMethodDescriptor y_T_greatest.desc).map (fun d => d.parameters.length) = some 1 := by decide +kernel
abbrev y_T_tear : MethodName := ⟨"LockHouseModel", "tear", "(II)V"⟩
abbrev b_T_tear : ByteArray := prog_8_method_26_code
abbrev k_T_tear : Cond := .code y_T_tear b_T_tear 3 none
theorem kw_T_tear : k_T_tear ∈ TT := w821
theorem hd_T_tear : y_T_tear.cls ≠ "java/lang/invoke/MethodHandle" ∧ y_T_tear.cls ≠ "java/lang/invoke/VarHandle" ∧ (parseMethodDescriptor y_T_tear.desc).map (fun d => d.parameters.length) = some 2 := by decide +kernel
abbrev y_T_written : MethodName := ⟨"LockHouseModel", "written", "(I)I"⟩
abbrev b_T_written : ByteArray := prog_8_method_27_code
abbrev k_T_written : Cond := .code y_T_written b_T_written 2 (some FieldType.int)
theorem kw_T_written : k_T_written ∈ TT := w825
theorem hd_T_written : y_T_written.cls ≠ "java/lang/invoke/MethodHandle" ∧ y_T_written.cls ≠ "java/lang/invoke/VarHandle" ∧ (parseMethodDescriptor y_T_written.desc).map (fun d => d.parameters.length) = some 1 := by decide +kernel
abbrev y_T_word : MethodName := ⟨"LockHouseModel", "word", "(III)I"⟩
abbrev b_T_word : ByteArray := prog_8_method_28_code
abbrev k_T_word : Cond := .code y_T_word b_T_word 4 (some FieldType.int)
theorem kw_T_word : k_T_word ∈ TT := w829
theorem hd_T_word : y_T_word.cls ≠ "java/lang/invoke/MethodHandle" ∧ y_T_word.cls ≠ "java/lang/invoke/VarHandle" ∧ (parseMethodDescriptor y_T_word.desc).map (fun d => d.parameters.length) = some 3 := by decide +kernel
abbrev y_T_carries : MethodName := ⟨"LockHouseModel", "carries", "(II)I"⟩
abbrev b_T_carries : ByteArray := prog_8_method_29_code
abbrev k_T_carries : Cond := .code y_T_carries b_T_carries 3 (some FieldType.int)
theorem kw_T_carries : k_T_carries ∈ TT := w833
theorem hd_T_carries : y_T_carries.cls ≠ "java/lang/invoke/MethodHandle" ∧ y_T_carries.cls ≠ "java/lang/invoke/VarHandle" ∧ (parseMethodDescriptor y_T_carries.desc).map (fun d => d.parameters.length) = some 2 := by decide +kernel
abbrev y_T_memory : MethodName := ⟨"LockHouseModel", "memory", "(II)I"⟩
abbrev b_T_memory : ByteArray := prog_8_method_30_code
abbrev k_T_memory : Cond := .code y_T_memory b_T_memory 3 (some FieldType.int)
theorem kw_T_memory : k_T_memory ∈ TT := w837
theorem hd_T_memory : y_T_memory.cls ≠ "java/lang/invoke/MethodHandle" ∧ y_T_memory.cls ≠ "java/lang/invoke/VarHandle" ∧ (parseMethodDescriptor y_T_memory.desc).map (fun d => d.parameters.length) = some 2 := by decide +kernel
abbrev y_T_about : MethodName := ⟨"LockHouseModel", "about", "(II)I"⟩
abbrev b_T_about : ByteArray := prog_8_method_33_code
abbrev k_T_about : Cond := .code y_T_about b_T_about 5 (some FieldType.int)
theorem kw_T_about : k_T_about ∈ TT := w841
theorem hd_T_about : y_T_about.cls ≠ "java/lang/invoke/MethodHandle" ∧ y_T_about.cls ≠ "java/lang/invoke/VarHandle" ∧ (parseMethodDescriptor y_T_about.desc).map (fun d => d.parameters.length) = some 2 := by decide +kernel
abbrev y_T_complete : MethodName := ⟨"LockHouseModel", "complete", "(I)I"⟩
abbrev b_T_complete : ByteArray := prog_8_method_22_code
abbrev k_T_complete : Cond := .code y_T_complete b_T_complete 3 (some FieldType.int)
theorem kw_T_complete : k_T_complete ∈ TT := w845
theorem hd_T_complete : y_T_complete.cls ≠ "java/lang/invoke/MethodHandle" ∧ y_T_complete.cls ≠ "java/lang/invoke/VarHandle" ∧ (parseMethodDescriptor y_T_complete.desc).map (fun d => d.parameters.length) = some 1 := by decide +kernel
abbrev y_T_marks : MethodName := ⟨"LockHouseModel", "marks", "(I)I"⟩
abbrev b_T_marks : ByteArray := prog_8_method_31_code
abbrev k_T_marks : Cond := .code y_T_marks b_T_marks 4 (some FieldType.int)
theorem kw_T_marks : k_T_marks ∈ TT := w849
theorem hd_T_marks : y_T_marks.cls ≠ "java/lang/invoke/MethodHandle" ∧ y_T_marks.cls ≠ "java/lang/invoke/VarHandle" ∧ (parseMethodDescriptor y_T_marks.desc).map (fun d => d.parameters.length) = some 1 := by decide +kernel
abbrev y_T_runs : MethodName := ⟨"LockHouseModel", "runs", "(I)I"⟩
abbrev b_T_runs : ByteArray := prog_8_method_32_code
abbrev k_T_runs : Cond := .code y_T_runs b_T_runs 4 (some FieldType.int)
theorem kw_T_runs : k_T_runs ∈ TT := w853
theorem hd_T_runs : y_T_runs.cls ≠ "java/lang/invoke/MethodHandle" ∧ y_T_runs.cls ≠ "java/lang/invoke/VarHandle" ∧ (parseMethodDescriptor y_T_runs.desc).map (fun d => d.parameters.length) = some 1 := by decide +kernel
abbrev y_T_run : MethodName := ⟨"LockHouseModel", "run", "(IIZ)I"⟩
abbrev b_T_run : ByteArray := prog_8_method_34_code
abbrev k_T_run : Cond := .code y_T_run b_T_run 6 (some FieldType.int)
theorem kw_T_run : k_T_run ∈ TT := w857
theorem hd_T_run : y_T_run.cls ≠ "java/lang/invoke/MethodHandle" ∧ y_T_run.cls ≠ "java/lang/invoke/VarHandle" ∧ (parseMethodDescriptor y_T_run.desc).map (fun d => d.parameters.length) = some 3 := by decide +kernel
abbrev y_T_refuses : MethodName := ⟨"LockHouseModel", "refuses", "(II)Z"⟩
abbrev b_T_refuses : ByteArray := prog_8_method_35_code
abbrev k_T_refuses : Cond := .code y_T_refuses b_T_refuses 3 (some FieldType.boolean)
theorem kw_T_refuses : k_T_refuses ∈ TT := w861
theorem hd_T_refuses : y_T_refuses.cls ≠ "java/lang/invoke/MethodHandle" ∧ y_T_refuses.cls ≠ "java/lang/invoke/VarHandle" ∧ (parseMethodDescriptor y_T_refuses.desc).map (fun d => d.parameters.length) = some 2 := by decide +kernel
abbrev y_T_reach : MethodName := ⟨"LockHouseModel", "reach", "(I)I"⟩
abbrev b_T_reach : ByteArray := prog_8_method_36_code
abbrev k_T_reach : Cond := .code y_T_reach b_T_reach 4 (some FieldType.int)
theorem kw_T_reach : k_T_reach ∈ TT := w865
theorem hd_T_reach : y_T_reach.cls ≠ "java/lang/invoke/MethodHandle" ∧ y_T_reach.cls ≠ "java/lang/invoke/VarHandle" ∧ (parseMethodDescriptor y_T_reach.desc).map (fun d => d.parameters.length) = some 1 := by decide +kernel
abbrev y_T_loseBattery : MethodName := ⟨"LockHouseModel", "loseBattery", "(I)V"⟩
abbrev b_T_loseBattery : ByteArray := prog_8_method_37_code
abbrev k_T_loseBattery : Cond := .code y_T_loseBattery b_T_loseBattery 2 none
theorem kw_T_loseBattery : k_T_loseBattery ∈ TT := w869
theorem hd_T_loseBattery : y_T_loseBattery.cls ≠ "java/lang/invoke/MethodHandle" ∧ y_T_loseBattery.cls ≠ "java/lang/invoke/VarHandle" ∧ (parseMethodDescriptor y_T_loseBattery.desc).map (fun d => d.parameters.length) = some 1 := by decide +kernel
abbrev y_T_visit : MethodName := ⟨"LockHouseModel", "visit", "(IIII)V"⟩
abbrev b_T_visit : ByteArray := prog_8_method_38_code
abbrev k_T_visit : Cond := .code y_T_visit b_T_visit 5 none
theorem kw_T_visit : k_T_visit ∈ TT := w873
theorem hd_T_visit : y_T_visit.cls ≠ "java/lang/invoke/MethodHandle" ∧ y_T_visit.cls ≠ "java/lang/invoke/VarHandle" ∧ (parseMethodDescriptor y_T_visit.desc).map (fun d => d.parameters.length) = some 4 := by decide +kernel
abbrev y_T_spread : MethodName := ⟨"LockHouseModel", "spread", "(I)I"⟩
abbrev b_T_spread : ByteArray := prog_8_method_39_code
abbrev k_T_spread : Cond := .code y_T_spread b_T_spread 4 (some FieldType.int)
theorem kw_T_spread : k_T_spread ∈ TT := w877
theorem hd_T_spread : y_T_spread.cls ≠ "java/lang/invoke/MethodHandle" ∧ y_T_spread.cls ≠ "java/lang/invoke/VarHandle" ∧ (parseMethodDescriptor y_T_spread.desc).map (fun d => d.parameters.length) = some 1 := by decide +kernel
end
section
/-! Decode rows (by program). -/
theorem d_T_init_0 : decode b_T_init 0 = .ok (.aload_n 0, 1) := by decide +kernel
theorem d_T_init_1 : decode b_T_init 1 = .ok (.invokespecial 1, 3) := by decide +kernel
theorem d_T_init_4 : decode b_T_init 4 = .ok (.aload_n 0, 1) := by decide +kernel
theorem d_T_init_5 : decode b_T_init 5 = .ok (.sipush 4000, 3) := by decide +kernel
theorem d_T_init_8 : decode b_T_init 8 = .ok (.newarray .int, 2) := by decide +kernel
theorem d_T_init_10 : decode b_T_init 10 = .ok (.putfield 7, 3) := by decide +kernel
theorem d_T_init_13 : decode b_T_init 13 = .ok (.aload_n 0, 1) := by decide +kernel
theorem d_T_init_14 : decode b_T_init 14 = .ok (.sipush 4000, 3) := by decide +kernel
theorem d_T_init_17 : decode b_T_init 17 = .ok (.newarray .int, 2) := by decide +kernel
theorem d_T_init_19 : decode b_T_init 19 = .ok (.putfield 13, 3) := by decide +kernel
theorem d_T_init_22 : decode b_T_init 22 = .ok (.aload_n 0, 1) := by decide +kernel
theorem d_T_init_23 : decode b_T_init 23 = .ok (.sipush 4000, 3) := by decide +kernel
theorem d_T_init_26 : decode b_T_init 26 = .ok (.newarray .int, 2) := by decide +kernel
theorem d_T_init_28 : decode b_T_init 28 = .ok (.putfield 16, 3) := by decide +kernel
theorem d_T_init_31 : decode b_T_init 31 = .ok (.aload_n 0, 1) := by decide +kernel
theorem d_T_init_32 : decode b_T_init 32 = .ok (.sipush 4000, 3) := by decide +kernel
theorem d_T_init_35 : decode b_T_init 35 = .ok (.newarray .int, 2) := by decide +kernel
theorem d_T_init_37 : decode b_T_init 37 = .ok (.putfield 19, 3) := by decide +kernel
theorem d_T_init_40 : decode b_T_init 40 = .ok (.aload_n 0, 1) := by decide +kernel
theorem d_T_init_41 : decode b_T_init 41 = .ok (.ldc 22, 2) := by decide +kernel
theorem d_T_init_43 : decode b_T_init 43 = .ok (.newarray .short, 2) := by decide +kernel
theorem d_T_init_45 : decode b_T_init 45 = .ok (.putfield 23, 3) := by decide +kernel
theorem d_T_init_48 : decode b_T_init 48 = .ok (.aload_n 0, 1) := by decide +kernel
theorem d_T_init_49 : decode b_T_init 49 = .ok (.sipush 4000, 3) := by decide +kernel
theorem d_T_init_52 : decode b_T_init 52 = .ok (.newarray .int, 2) := by decide +kernel
theorem d_T_init_54 : decode b_T_init 54 = .ok (.putfield 27, 3) := by decide +kernel
theorem d_T_init_57 : decode b_T_init 57 = .ok (.aload_n 0, 1) := by decide +kernel
theorem d_T_init_58 : decode b_T_init 58 = .ok (.sipush 3001, 3) := by decide +kernel
theorem d_T_init_61 : decode b_T_init 61 = .ok (.newarray .int, 2) := by decide +kernel
theorem d_T_init_63 : decode b_T_init 63 = .ok (.putfield 30, 3) := by decide +kernel
theorem d_T_init_66 : decode b_T_init 66 = .ok (.aload_n 0, 1) := by decide +kernel
theorem d_T_init_67 : decode b_T_init 67 = .ok (.ldc 33, 2) := by decide +kernel
theorem d_T_init_69 : decode b_T_init 69 = .ok (.newarray .boolean, 2) := by decide +kernel
theorem d_T_init_71 : decode b_T_init 71 = .ok (.putfield 34, 3) := by decide +kernel
theorem d_T_init_74 : decode b_T_init 74 = .ok (.aload_n 0, 1) := by decide +kernel
theorem d_T_init_75 : decode b_T_init 75 = .ok (.sipush 200, 3) := by decide +kernel
theorem d_T_init_78 : decode b_T_init 78 = .ok (.newarray .int, 2) := by decide +kernel
theorem d_T_init_80 : decode b_T_init 80 = .ok (.putfield 38, 3) := by decide +kernel
theorem d_T_init_83 : decode b_T_init 83 = .ok (.aload_n 0, 1) := by decide +kernel
theorem d_T_init_84 : decode b_T_init 84 = .ok (.sipush 200, 3) := by decide +kernel
theorem d_T_init_87 : decode b_T_init 87 = .ok (.newarray .boolean, 2) := by decide +kernel
theorem d_T_init_89 : decode b_T_init 89 = .ok (.putfield 41, 3) := by decide +kernel
theorem d_T_init_92 : decode b_T_init 92 = .ok (.aload_n 0, 1) := by decide +kernel
theorem d_T_init_93 : decode b_T_init 93 = .ok (.sipush 200, 3) := by decide +kernel
theorem d_T_init_96 : decode b_T_init 96 = .ok (.newarray .int, 2) := by decide +kernel
theorem d_T_init_98 : decode b_T_init 98 = .ok (.putfield 44, 3) := by decide +kernel
theorem d_T_init_101 : decode b_T_init 101 = .ok (.aload_n 0, 1) := by decide +kernel
theorem d_T_init_102 : decode b_T_init 102 = .ok (.sipush 200, 3) := by decide +kernel
theorem d_T_init_105 : decode b_T_init 105 = .ok (.newarray .boolean, 2) := by decide +kernel
theorem d_T_init_107 : decode b_T_init 107 = .ok (.putfield 47, 3) := by decide +kernel
theorem d_T_init_110 : decode b_T_init 110 = .ok (.aload_n 0, 1) := by decide +kernel
theorem d_T_init_111 : decode b_T_init 111 = .ok (.sipush 200, 3) := by decide +kernel
theorem d_T_init_114 : decode b_T_init 114 = .ok (.newarray .int, 2) := by decide +kernel
theorem d_T_init_116 : decode b_T_init 116 = .ok (.putfield 50, 3) := by decide +kernel
theorem d_T_init_119 : decode b_T_init 119 = .ok (.aload_n 0, 1) := by decide +kernel
theorem d_T_init_120 : decode b_T_init 120 = .ok (.sipush 200, 3) := by decide +kernel
theorem d_T_init_123 : decode b_T_init 123 = .ok (.newarray .int, 2) := by decide +kernel
theorem d_T_init_125 : decode b_T_init 125 = .ok (.putfield 53, 3) := by decide +kernel
theorem d_T_init_128 : decode b_T_init 128 = .ok (.aload_n 0, 1) := by decide +kernel
theorem d_T_init_129 : decode b_T_init 129 = .ok (.sipush 200, 3) := by decide +kernel
theorem d_T_init_132 : decode b_T_init 132 = .ok (.newarray .int, 2) := by decide +kernel
theorem d_T_init_134 : decode b_T_init 134 = .ok (.putfield 56, 3) := by decide +kernel
theorem d_T_init_137 : decode b_T_init 137 = .ok (.return_, 1) := by decide +kernel
theorem d_T_thrown_0 : decode b_T_thrown 0 = .ok (.aload_n 0, 1) := by decide +kernel
theorem d_T_thrown_1 : decode b_T_thrown 1 = .ok (.getfield 59, 3) := by decide +kernel
theorem d_T_thrown_4 : decode b_T_thrown 4 = .ok (.ireturn, 1) := by decide +kernel
theorem d_T_issue_0 : decode b_T_issue 0 = .ok (.aload_n 0, 1) := by decide +kernel
theorem d_T_issue_1 : decode b_T_issue 1 = .ok (.aload_n 0, 1) := by decide +kernel
theorem d_T_issue_2 : decode b_T_issue 2 = .ok (.getfield 63, 3) := by decide +kernel
theorem d_T_issue_5 : decode b_T_issue 5 = .ok (.sipush 4000, 3) := by decide +kernel
theorem d_T_issue_8 : decode b_T_issue 8 = .ok (.if_icmp .ne 7, 3) := by decide +kernel
theorem d_T_issue_11 : decode b_T_issue 11 = .ok (.iconst 1, 1) := by decide +kernel
theorem d_T_issue_12 : decode b_T_issue 12 = .ok (.goto 4, 3) := by decide +kernel
theorem d_T_issue_15 : decode b_T_issue 15 = .ok (.iconst 0, 1) := by decide +kernel
theorem d_T_issue_16 : decode b_T_issue 16 = .ok (.putfield 59, 3) := by decide +kernel
theorem d_T_issue_19 : decode b_T_issue 19 = .ok (.aload_n 0, 1) := by decide +kernel
theorem d_T_issue_20 : decode b_T_issue 20 = .ok (.getfield 59, 3) := by decide +kernel
theorem d_T_issue_23 : decode b_T_issue 23 = .ok (.ifCond .le 5, 3) := by decide +kernel
theorem d_T_issue_26 : decode b_T_issue 26 = .ok (.iconst 0, 1) := by decide +kernel
theorem d_T_issue_27 : decode b_T_issue 27 = .ok (.ireturn, 1) := by decide +kernel
theorem d_T_issue_28 : decode b_T_issue 28 = .ok (.aload_n 0, 1) := by decide +kernel
theorem d_T_issue_29 : decode b_T_issue 29 = .ok (.getfield 7, 3) := by decide +kernel
theorem d_T_issue_32 : decode b_T_issue 32 = .ok (.aload_n 0, 1) := by decide +kernel
theorem d_T_issue_33 : decode b_T_issue 33 = .ok (.getfield 63, 3) := by decide +kernel
theorem d_T_issue_36 : decode b_T_issue 36 = .ok (.iload_n 1, 1) := by decide +kernel
theorem d_T_issue_37 : decode b_T_issue 37 = .ok (.iastore, 1) := by decide +kernel
theorem d_T_issue_38 : decode b_T_issue 38 = .ok (.aload_n 0, 1) := by decide +kernel
theorem d_T_issue_39 : decode b_T_issue 39 = .ok (.getfield 13, 3) := by decide +kernel
theorem d_T_issue_42 : decode b_T_issue 42 = .ok (.aload_n 0, 1) := by decide +kernel
theorem d_T_issue_43 : decode b_T_issue 43 = .ok (.getfield 63, 3) := by decide +kernel
theorem d_T_issue_46 : decode b_T_issue 46 = .ok (.iload_n 2, 1) := by decide +kernel
theorem d_T_issue_47 : decode b_T_issue 47 = .ok (.iastore, 1) := by decide +kernel
theorem d_T_issue_48 : decode b_T_issue 48 = .ok (.aload_n 0, 1) := by decide +kernel
theorem d_T_issue_49 : decode b_T_issue 49 = .ok (.getfield 16, 3) := by decide +kernel
theorem d_T_issue_52 : decode b_T_issue 52 = .ok (.aload_n 0, 1) := by decide +kernel
theorem d_T_issue_53 : decode b_T_issue 53 = .ok (.getfield 63, 3) := by decide +kernel
theorem d_T_issue_56 : decode b_T_issue 56 = .ok (.iconst (-1), 1) := by decide +kernel
theorem d_T_issue_57 : decode b_T_issue 57 = .ok (.iastore, 1) := by decide +kernel
theorem d_T_issue_58 : decode b_T_issue 58 = .ok (.aload_n 0, 1) := by decide +kernel
theorem d_T_issue_59 : decode b_T_issue 59 = .ok (.dup, 1) := by decide +kernel
theorem d_T_issue_60 : decode b_T_issue 60 = .ok (.getfield 63, 3) := by decide +kernel
theorem d_T_issue_63 : decode b_T_issue 63 = .ok (.iconst 1, 1) := by decide +kernel
theorem d_T_issue_64 : decode b_T_issue 64 = .ok (.iadd, 1) := by decide +kernel
theorem d_T_issue_65 : decode b_T_issue 65 = .ok (.putfield 63, 3) := by decide +kernel
theorem d_T_issue_68 : decode b_T_issue 68 = .ok (.aload_n 0, 1) := by decide +kernel
theorem d_T_issue_69 : decode b_T_issue 69 = .ok (.getfield 63, 3) := by decide +kernel
theorem d_T_issue_72 : decode b_T_issue 72 = .ok (.iconst 1, 1) := by decide +kernel
theorem d_T_issue_73 : decode b_T_issue 73 = .ok (.isub, 1) := by decide +kernel
theorem d_T_issue_74 : decode b_T_issue 74 = .ok (.ireturn, 1) := by decide +kernel
theorem d_T_cards_0 : decode b_T_cards 0 = .ok (.aload_n 0, 1) := by decide +kernel
theorem d_T_cards_1 : decode b_T_cards 1 = .ok (.iconst 0, 1) := by decide +kernel
theorem d_T_cards_2 : decode b_T_cards 2 = .ok (.putfield 59, 3) := by decide +kernel
theorem d_T_cards_5 : decode b_T_cards 5 = .ok (.aload_n 0, 1) := by decide +kernel
theorem d_T_cards_6 : decode b_T_cards 6 = .ok (.getfield 63, 3) := by decide +kernel
theorem d_T_cards_9 : decode b_T_cards 9 = .ok (.ireturn, 1) := by decide +kernel
theorem d_T_revoke_0 : decode b_T_revoke 0 = .ok (.aload_n 0, 1) := by decide +kernel
theorem d_T_revoke_1 : decode b_T_revoke 1 = .ok (.aload_n 0, 1) := by decide +kernel
theorem d_T_revoke_2 : decode b_T_revoke 2 = .ok (.iload_n 1, 1) := by decide +kernel
theorem d_T_revoke_3 : decode b_T_revoke 3 = .ok (.invokevirtual 66, 3) := by decide +kernel
theorem d_T_revoke_6 : decode b_T_revoke 6 = .ok (.ifCond .eq 7, 3) := by decide +kernel
theorem d_T_revoke_9 : decode b_T_revoke 9 = .ok (.iconst 1, 1) := by decide +kernel
theorem d_T_revoke_10 : decode b_T_revoke 10 = .ok (.goto 27, 3) := by decide +kernel
theorem d_T_revoke_13 : decode b_T_revoke 13 = .ok (.aload_n 0, 1) := by decide +kernel
theorem d_T_revoke_14 : decode b_T_revoke 14 = .ok (.getfield 27, 3) := by decide +kernel
theorem d_T_revoke_17 : decode b_T_revoke 17 = .ok (.iload_n 1, 1) := by decide +kernel
theorem d_T_revoke_18 : decode b_T_revoke 18 = .ok (.iaload, 1) := by decide +kernel
theorem d_T_revoke_19 : decode b_T_revoke 19 = .ok (.ifCond .ne 17, 3) := by decide +kernel
theorem d_T_revoke_22 : decode b_T_revoke 22 = .ok (.aload_n 0, 1) := by decide +kernel
theorem d_T_revoke_23 : decode b_T_revoke 23 = .ok (.getfield 70, 3) := by decide +kernel
theorem d_T_revoke_26 : decode b_T_revoke 26 = .ok (.sipush 3000, 3) := by decide +kernel
theorem d_T_revoke_29 : decode b_T_revoke 29 = .ok (.if_icmp .ne 7, 3) := by decide +kernel
theorem d_T_revoke_32 : decode b_T_revoke 32 = .ok (.iconst 2, 1) := by decide +kernel
theorem d_T_revoke_33 : decode b_T_revoke 33 = .ok (.goto 4, 3) := by decide +kernel
theorem d_T_revoke_36 : decode b_T_revoke 36 = .ok (.iconst 0, 1) := by decide +kernel
theorem d_T_revoke_37 : decode b_T_revoke 37 = .ok (.putfield 59, 3) := by decide +kernel
theorem d_T_revoke_40 : decode b_T_revoke 40 = .ok (.aload_n 0, 1) := by decide +kernel
theorem d_T_revoke_41 : decode b_T_revoke 41 = .ok (.getfield 59, 3) := by decide +kernel
theorem d_T_revoke_44 : decode b_T_revoke 44 = .ok (.ifCond .le 5, 3) := by decide +kernel
theorem d_T_revoke_47 : decode b_T_revoke 47 = .ok (.iconst 0, 1) := by decide +kernel
theorem d_T_revoke_48 : decode b_T_revoke 48 = .ok (.ireturn, 1) := by decide +kernel
theorem d_T_revoke_49 : decode b_T_revoke 49 = .ok (.aload_n 0, 1) := by decide +kernel
theorem d_T_revoke_50 : decode b_T_revoke 50 = .ok (.getfield 27, 3) := by decide +kernel
theorem d_T_revoke_53 : decode b_T_revoke 53 = .ok (.iload_n 1, 1) := by decide +kernel
theorem d_T_revoke_54 : decode b_T_revoke 54 = .ok (.iaload, 1) := by decide +kernel
theorem d_T_revoke_55 : decode b_T_revoke 55 = .ok (.ifCond .le 5, 3) := by decide +kernel
theorem d_T_revoke_58 : decode b_T_revoke 58 = .ok (.iconst (-1), 1) := by decide +kernel
theorem d_T_revoke_59 : decode b_T_revoke 59 = .ok (.ireturn, 1) := by decide +kernel
theorem d_T_revoke_60 : decode b_T_revoke 60 = .ok (.aload_n 0, 1) := by decide +kernel
theorem d_T_revoke_61 : decode b_T_revoke 61 = .ok (.dup, 1) := by decide +kernel
theorem d_T_revoke_62 : decode b_T_revoke 62 = .ok (.getfield 70, 3) := by decide +kernel
theorem d_T_revoke_65 : decode b_T_revoke 65 = .ok (.iconst 1, 1) := by decide +kernel
theorem d_T_revoke_66 : decode b_T_revoke 66 = .ok (.iadd, 1) := by decide +kernel
theorem d_T_revoke_67 : decode b_T_revoke 67 = .ok (.putfield 70, 3) := by decide +kernel
theorem d_T_revoke_70 : decode b_T_revoke 70 = .ok (.aload_n 0, 1) := by decide +kernel
theorem d_T_revoke_71 : decode b_T_revoke 71 = .ok (.getfield 27, 3) := by decide +kernel
theorem d_T_revoke_74 : decode b_T_revoke 74 = .ok (.iload_n 1, 1) := by decide +kernel
theorem d_T_revoke_75 : decode b_T_revoke 75 = .ok (.aload_n 0, 1) := by decide +kernel
theorem d_T_revoke_76 : decode b_T_revoke 76 = .ok (.getfield 70, 3) := by decide +kernel
theorem d_T_revoke_79 : decode b_T_revoke 79 = .ok (.iastore, 1) := by decide +kernel
theorem d_T_revoke_80 : decode b_T_revoke 80 = .ok (.aload_n 0, 1) := by decide +kernel
theorem d_T_revoke_81 : decode b_T_revoke 81 = .ok (.getfield 30, 3) := by decide +kernel
theorem d_T_revoke_84 : decode b_T_revoke 84 = .ok (.aload_n 0, 1) := by decide +kernel
theorem d_T_revoke_85 : decode b_T_revoke 85 = .ok (.getfield 70, 3) := by decide +kernel
theorem d_T_revoke_88 : decode b_T_revoke 88 = .ok (.iload_n 1, 1) := by decide +kernel
theorem d_T_revoke_89 : decode b_T_revoke 89 = .ok (.iastore, 1) := by decide +kernel
theorem d_T_revoke_90 : decode b_T_revoke 90 = .ok (.aload_n 0, 1) := by decide +kernel
theorem d_T_revoke_91 : decode b_T_revoke 91 = .ok (.getfield 70, 3) := by decide +kernel
theorem d_T_revoke_94 : decode b_T_revoke 94 = .ok (.ireturn, 1) := by decide +kernel
theorem d_T_noCard_0 : decode b_T_noCard 0 = .ok (.iload_n 1, 1) := by decide +kernel
theorem d_T_noCard_1 : decode b_T_noCard 1 = .ok (.ifCond .lt 11, 3) := by decide +kernel
theorem d_T_noCard_4 : decode b_T_noCard 4 = .ok (.iload_n 1, 1) := by decide +kernel
theorem d_T_noCard_5 : decode b_T_noCard 5 = .ok (.aload_n 0, 1) := by decide +kernel
theorem d_T_noCard_6 : decode b_T_noCard 6 = .ok (.getfield 63, 3) := by decide +kernel
theorem d_T_noCard_9 : decode b_T_noCard 9 = .ok (.if_icmp .lt 7, 3) := by decide +kernel
theorem d_T_noCard_12 : decode b_T_noCard 12 = .ok (.iconst 1, 1) := by decide +kernel
theorem d_T_noCard_13 : decode b_T_noCard 13 = .ok (.goto 4, 3) := by decide +kernel
theorem d_T_noCard_16 : decode b_T_noCard 16 = .ok (.iconst 0, 1) := by decide +kernel
theorem d_T_noCard_17 : decode b_T_noCard 17 = .ok (.ireturn, 1) := by decide +kernel
theorem d_T_entries_0 : decode b_T_entries 0 = .ok (.aload_n 0, 1) := by decide +kernel
theorem d_T_entries_1 : decode b_T_entries 1 = .ok (.iconst 0, 1) := by decide +kernel
theorem d_T_entries_2 : decode b_T_entries 2 = .ok (.putfield 59, 3) := by decide +kernel
theorem d_T_entries_5 : decode b_T_entries 5 = .ok (.aload_n 0, 1) := by decide +kernel
theorem d_T_entries_6 : decode b_T_entries 6 = .ok (.getfield 70, 3) := by decide +kernel
theorem d_T_entries_9 : decode b_T_entries 9 = .ok (.ireturn, 1) := by decide +kernel
theorem d_T_gate_0 : decode b_T_gate 0 = .ok (.aload_n 0, 1) := by decide +kernel
theorem d_T_gate_1 : decode b_T_gate 1 = .ok (.aload_n 0, 1) := by decide +kernel
theorem d_T_gate_2 : decode b_T_gate 2 = .ok (.iload_n 1, 1) := by decide +kernel
theorem d_T_gate_3 : decode b_T_gate 3 = .ok (.invokevirtual 66, 3) := by decide +kernel
theorem d_T_gate_6 : decode b_T_gate 6 = .ok (.ifCond .eq 7, 3) := by decide +kernel
theorem d_T_gate_9 : decode b_T_gate 9 = .ok (.iconst 1, 1) := by decide +kernel
theorem d_T_gate_10 : decode b_T_gate 10 = .ok (.goto 4, 3) := by decide +kernel
theorem d_T_gate_13 : decode b_T_gate 13 = .ok (.iconst 0, 1) := by decide +kernel
theorem d_T_gate_14 : decode b_T_gate 14 = .ok (.putfield 59, 3) := by decide +kernel
theorem d_T_gate_17 : decode b_T_gate 17 = .ok (.aload_n 0, 1) := by decide +kernel
theorem d_T_gate_18 : decode b_T_gate 18 = .ok (.getfield 59, 3) := by decide +kernel
theorem d_T_gate_21 : decode b_T_gate 21 = .ok (.ifCond .le 4, 3) := by decide +kernel
theorem d_T_gate_24 : decode b_T_gate 24 = .ok (.return_, 1) := by decide +kernel
theorem d_T_gate_25 : decode b_T_gate 25 = .ok (.aload_n 0, 1) := by decide +kernel
theorem d_T_gate_26 : decode b_T_gate 26 = .ok (.getfield 70, 3) := by decide +kernel
theorem d_T_gate_29 : decode b_T_gate 29 = .ok (.ifCond .ne 14, 3) := by decide +kernel
theorem d_T_gate_32 : decode b_T_gate 32 = .ok (.aload_n 0, 1) := by decide +kernel
theorem d_T_gate_33 : decode b_T_gate 33 = .ok (.iload_n 1, 1) := by decide +kernel
theorem d_T_gate_34 : decode b_T_gate 34 = .ok (.iconst 0, 1) := by decide +kernel
theorem d_T_gate_35 : decode b_T_gate 35 = .ok (.iconst 0, 1) := by decide +kernel
theorem d_T_gate_36 : decode b_T_gate 36 = .ok (.iconst 0, 1) := by decide +kernel
theorem d_T_gate_37 : decode b_T_gate 37 = .ok (.invokevirtual 102, 3) := by decide +kernel
theorem d_T_gate_40 : decode b_T_gate 40 = .ok (.goto 17, 3) := by decide +kernel
theorem d_T_gate_43 : decode b_T_gate 43 = .ok (.aload_n 0, 1) := by decide +kernel
theorem d_T_gate_44 : decode b_T_gate 44 = .ok (.iload_n 1, 1) := by decide +kernel
theorem d_T_gate_45 : decode b_T_gate 45 = .ok (.iconst 1, 1) := by decide +kernel
theorem d_T_gate_46 : decode b_T_gate 46 = .ok (.aload_n 0, 1) := by decide +kernel
theorem d_T_gate_47 : decode b_T_gate 47 = .ok (.getfield 70, 3) := by decide +kernel
theorem d_T_gate_50 : decode b_T_gate 50 = .ok (.aload_n 0, 1) := by decide +kernel
theorem d_T_gate_51 : decode b_T_gate 51 = .ok (.getfield 70, 3) := by decide +kernel
theorem d_T_gate_54 : decode b_T_gate 54 = .ok (.invokevirtual 106, 3) := by decide +kernel
theorem d_T_gate_57 : decode b_T_gate 57 = .ok (.return_, 1) := by decide +kernel
theorem d_T_write_0 : decode b_T_write 0 = .ok (.aload_n 0, 1) := by decide +kernel
theorem d_T_write_1 : decode b_T_write 1 = .ok (.iload_n 1, 1) := by decide +kernel
theorem d_T_write_2 : decode b_T_write 2 = .ok (.iload_n 2, 1) := by decide +kernel
theorem d_T_write_3 : decode b_T_write 3 = .ok (.iload_n 3, 1) := by decide +kernel
theorem d_T_write_4 : decode b_T_write 4 = .ok (.iload 4, 2) := by decide +kernel
theorem d_T_write_6 : decode b_T_write 6 = .ok (.invokevirtual 98, 3) := by decide +kernel
theorem d_T_write_9 : decode b_T_write 9 = .ok (.ifCond .eq 4, 3) := by decide +kernel
theorem d_T_write_12 : decode b_T_write 12 = .ok (.return_, 1) := by decide +kernel
theorem d_T_write_13 : decode b_T_write 13 = .ok (.iconst 1, 1) := by decide +kernel
theorem d_T_write_14 : decode b_T_write 14 = .ok (.aload_n 0, 1) := by decide +kernel
theorem d_T_write_15 : decode b_T_write 15 = .ok (.iload_n 1, 1) := by decide +kernel
theorem d_T_write_16 : decode b_T_write 16 = .ok (.invokevirtual 85, 3) := by decide +kernel
theorem d_T_write_19 : decode b_T_write 19 = .ok (.isub, 1) := by decide +kernel
theorem d_T_write_20 : decode b_T_write 20 = .ok (.istore 5, 2) := by decide +kernel
theorem d_T_write_22 : decode b_T_write 22 = .ok (.sipush 256, 3) := by decide +kernel
theorem d_T_write_25 : decode b_T_write 25 = .ok (.aload_n 0, 1) := by decide +kernel
theorem d_T_write_26 : decode b_T_write 26 = .ok (.iload_n 1, 1) := by decide +kernel
theorem d_T_write_27 : decode b_T_write 27 = .ok (.iconst 1, 1) := by decide +kernel
theorem d_T_write_28 : decode b_T_write 28 = .ok (.iload 5, 2) := by decide +kernel
theorem d_T_write_30 : decode b_T_write 30 = .ok (.isub, 1) := by decide +kernel
theorem d_T_write_31 : decode b_T_write 31 = .ok (.invokevirtual 81, 3) := by decide +kernel
theorem d_T_write_34 : decode b_T_write 34 = .ok (.iconst 1, 1) := by decide +kernel
theorem d_T_write_35 : decode b_T_write 35 = .ok (.iadd, 1) := by decide +kernel
theorem d_T_write_36 : decode b_T_write 36 = .ok (.sipush 255, 3) := by decide +kernel
theorem d_T_write_39 : decode b_T_write 39 = .ok (.iand, 1) := by decide +kernel
theorem d_T_write_40 : decode b_T_write 40 = .ok (.imul, 1) := by decide +kernel
theorem d_T_write_41 : decode b_T_write 41 = .ok (.iload_n 3, 1) := by decide +kernel
theorem d_T_write_42 : decode b_T_write 42 = .ok (.iadd, 1) := by decide +kernel
theorem d_T_write_43 : decode b_T_write 43 = .ok (.istore 6, 2) := by decide +kernel
theorem d_T_write_45 : decode b_T_write 45 = .ok (.aload_n 0, 1) := by decide +kernel
theorem d_T_write_46 : decode b_T_write 46 = .ok (.getfield 16, 3) := by decide +kernel
theorem d_T_write_49 : decode b_T_write 49 = .ok (.iload_n 1, 1) := by decide +kernel
theorem d_T_write_50 : decode b_T_write 50 = .ok (.iaload, 1) := by decide +kernel
theorem d_T_write_51 : decode b_T_write 51 = .ok (.iconst (-1), 1) := by decide +kernel
theorem d_T_write_52 : decode b_T_write 52 = .ok (.if_icmp .ne 8, 3) := by decide +kernel
theorem d_T_write_55 : decode b_T_write 55 = .ok (.bipush 50, 2) := by decide +kernel
theorem d_T_write_57 : decode b_T_write 57 = .ok (.goto 9, 3) := by decide +kernel
theorem d_T_write_60 : decode b_T_write 60 = .ok (.aload_n 0, 1) := by decide +kernel
theorem d_T_write_61 : decode b_T_write 61 = .ok (.getfield 16, 3) := by decide +kernel
theorem d_T_write_64 : decode b_T_write 64 = .ok (.iload_n 1, 1) := by decide +kernel
theorem d_T_write_65 : decode b_T_write 65 = .ok (.iaload, 1) := by decide +kernel
theorem d_T_write_66 : decode b_T_write 66 = .ok (.istore 7, 2) := by decide +kernel
theorem d_T_write_68 : decode b_T_write 68 = .ok (.iconst 0, 1) := by decide +kernel
theorem d_T_write_69 : decode b_T_write 69 = .ok (.istore 8, 2) := by decide +kernel
theorem d_T_write_71 : decode b_T_write 71 = .ok (.iload 8, 2) := by decide +kernel
theorem d_T_write_73 : decode b_T_write 73 = .ok (.iload_n 3, 1) := by decide +kernel
theorem d_T_write_74 : decode b_T_write 74 = .ok (.iconst 4, 1) := by decide +kernel
theorem d_T_write_75 : decode b_T_write 75 = .ok (.iadd, 1) := by decide +kernel
theorem d_T_write_76 : decode b_T_write 76 = .ok (.if_icmp .ge 116, 3) := by decide +kernel
theorem d_T_write_79 : decode b_T_write 79 = .ok (.iload 8, 2) := by decide +kernel
theorem d_T_write_81 : decode b_T_write 81 = .ok (.iload 7, 2) := by decide +kernel
theorem d_T_write_83 : decode b_T_write 83 = .ok (.if_icmp .ge 109, 3) := by decide +kernel
theorem d_T_write_86 : decode b_T_write 86 = .ok (.iload 8, 2) := by decide +kernel
theorem d_T_write_88 : decode b_T_write 88 = .ok (.iload_n 3, 1) := by decide +kernel
theorem d_T_write_89 : decode b_T_write 89 = .ok (.iconst 3, 1) := by decide +kernel
theorem d_T_write_90 : decode b_T_write 90 = .ok (.iadd, 1) := by decide +kernel
theorem d_T_write_91 : decode b_T_write 91 = .ok (.if_icmp .ne 8, 3) := by decide +kernel
theorem d_T_write_94 : decode b_T_write 94 = .ok (.bipush 43, 2) := by decide +kernel
theorem d_T_write_96 : decode b_T_write 96 = .ok (.goto 5, 3) := by decide +kernel
theorem d_T_write_99 : decode b_T_write 99 = .ok (.iload 8, 2) := by decide +kernel
theorem d_T_write_101 : decode b_T_write 101 = .ok (.istore 9, 2) := by decide +kernel
theorem d_T_write_103 : decode b_T_write 103 = .ok (.iload 8, 2) := by decide +kernel
theorem d_T_write_105 : decode b_T_write 105 = .ok (.ifCond .eq 11, 3) := by decide +kernel
theorem d_T_write_108 : decode b_T_write 108 = .ok (.iload 8, 2) := by decide +kernel
theorem d_T_write_110 : decode b_T_write 110 = .ok (.iload_n 3, 1) := by decide +kernel
theorem d_T_write_111 : decode b_T_write 111 = .ok (.iconst 3, 1) := by decide +kernel
theorem d_T_write_112 : decode b_T_write 112 = .ok (.iadd, 1) := by decide +kernel
theorem d_T_write_113 : decode b_T_write 113 = .ok (.if_icmp .ne 8, 3) := by decide +kernel
theorem d_T_write_116 : decode b_T_write 116 = .ok (.iload 6, 2) := by decide +kernel
theorem d_T_write_118 : decode b_T_write 118 = .ok (.goto 35, 3) := by decide +kernel
theorem d_T_write_121 : decode b_T_write 121 = .ok (.iload 8, 2) := by decide +kernel
theorem d_T_write_123 : decode b_T_write 123 = .ok (.iconst 1, 1) := by decide +kernel
theorem d_T_write_124 : decode b_T_write 124 = .ok (.if_icmp .ne 7, 3) := by decide +kernel
theorem d_T_write_127 : decode b_T_write 127 = .ok (.iload_n 2, 1) := by decide +kernel
theorem d_T_write_128 : decode b_T_write 128 = .ok (.goto 25, 3) := by decide +kernel
theorem d_T_write_131 : decode b_T_write 131 = .ok (.iload 8, 2) := by decide +kernel
theorem d_T_write_133 : decode b_T_write 133 = .ok (.iconst 2, 1) := by decide +kernel
theorem d_T_write_134 : decode b_T_write 134 = .ok (.if_icmp .ne 8, 3) := by decide +kernel
theorem d_T_write_137 : decode b_T_write 137 = .ok (.iload 4, 2) := by decide +kernel
theorem d_T_write_139 : decode b_T_write 139 = .ok (.goto 14, 3) := by decide +kernel
theorem d_T_write_142 : decode b_T_write 142 = .ok (.aload_n 0, 1) := by decide +kernel
theorem d_T_write_143 : decode b_T_write 143 = .ok (.getfield 30, 3) := by decide +kernel
theorem d_T_write_146 : decode b_T_write 146 = .ok (.iload_n 2, 1) := by decide +kernel
theorem d_T_write_147 : decode b_T_write 147 = .ok (.iload 8, 2) := by decide +kernel
theorem d_T_write_149 : decode b_T_write 149 = .ok (.iadd, 1) := by decide +kernel
theorem d_T_write_150 : decode b_T_write 150 = .ok (.iconst 3, 1) := by decide +kernel
theorem d_T_write_151 : decode b_T_write 151 = .ok (.isub, 1) := by decide +kernel
theorem d_T_write_152 : decode b_T_write 152 = .ok (.iaload, 1) := by decide +kernel
theorem d_T_write_153 : decode b_T_write 153 = .ok (.istore 10, 2) := by decide +kernel
theorem d_T_write_155 : decode b_T_write 155 = .ok (.aload_n 0, 1) := by decide +kernel
theorem d_T_write_156 : decode b_T_write 156 = .ok (.getfield 23, 3) := by decide +kernel
theorem d_T_write_159 : decode b_T_write 159 = .ok (.bipush 88, 2) := by decide +kernel
theorem d_T_write_161 : decode b_T_write 161 = .ok (.iload_n 1, 1) := by decide +kernel
theorem d_T_write_162 : decode b_T_write 162 = .ok (.imul, 1) := by decide +kernel
theorem d_T_write_163 : decode b_T_write 163 = .ok (.bipush 44, 2) := by decide +kernel
theorem d_T_write_165 : decode b_T_write 165 = .ok (.iload 5, 2) := by decide +kernel
theorem d_T_write_167 : decode b_T_write 167 = .ok (.imul, 1) := by decide +kernel
theorem d_T_write_168 : decode b_T_write 168 = .ok (.iadd, 1) := by decide +kernel
theorem d_T_write_169 : decode b_T_write 169 = .ok (.iload 9, 2) := by decide +kernel
theorem d_T_write_171 : decode b_T_write 171 = .ok (.iadd, 1) := by decide +kernel
theorem d_T_write_172 : decode b_T_write 172 = .ok (.iload 10, 2) := by decide +kernel
theorem d_T_write_174 : decode b_T_write 174 = .ok (.i2s, 1) := by decide +kernel
theorem d_T_write_175 : decode b_T_write 175 = .ok (.sastore, 1) := by decide +kernel
theorem d_T_write_176 : decode b_T_write 176 = .ok (.aload_n 0, 1) := by decide +kernel
theorem d_T_write_177 : decode b_T_write 177 = .ok (.getfield 19, 3) := by decide +kernel
theorem d_T_write_180 : decode b_T_write 180 = .ok (.iload_n 1, 1) := by decide +kernel
theorem d_T_write_181 : decode b_T_write 181 = .ok (.dup2, 1) := by decide +kernel
theorem d_T_write_182 : decode b_T_write 182 = .ok (.iaload, 1) := by decide +kernel
theorem d_T_write_183 : decode b_T_write 183 = .ok (.iconst 1, 1) := by decide +kernel
theorem d_T_write_184 : decode b_T_write 184 = .ok (.iadd, 1) := by decide +kernel
theorem d_T_write_185 : decode b_T_write 185 = .ok (.iastore, 1) := by decide +kernel
theorem d_T_write_186 : decode b_T_write 186 = .ok (.iinc 8 1, 3) := by decide +kernel
theorem d_T_write_189 : decode b_T_write 189 = .ok (.goto (-118), 3) := by decide +kernel
theorem d_T_write_192 : decode b_T_write 192 = .ok (.aload_n 0, 1) := by decide +kernel
theorem d_T_write_193 : decode b_T_write 193 = .ok (.getfield 16, 3) := by decide +kernel
theorem d_T_write_196 : decode b_T_write 196 = .ok (.iload_n 1, 1) := by decide +kernel
theorem d_T_write_197 : decode b_T_write 197 = .ok (.iconst (-1), 1) := by decide +kernel
theorem d_T_write_198 : decode b_T_write 198 = .ok (.iastore, 1) := by decide +kernel
theorem d_T_write_199 : decode b_T_write 199 = .ok (.return_, 1) := by decide +kernel
theorem d_T_tells_0 : decode b_T_tells 0 = .ok (.aload_n 0, 1) := by decide +kernel
theorem d_T_tells_1 : decode b_T_tells 1 = .ok (.iload_n 1, 1) := by decide +kernel
theorem d_T_tells_2 : decode b_T_tells 2 = .ok (.invokevirtual 89, 3) := by decide +kernel
theorem d_T_tells_5 : decode b_T_tells 5 = .ok (.iload_n 3, 1) := by decide +kernel
theorem d_T_tells_6 : decode b_T_tells 6 = .ok (.if_icmp .ne 26, 3) := by decide +kernel
theorem d_T_tells_9 : decode b_T_tells 9 = .ok (.aload_n 0, 1) := by decide +kernel
theorem d_T_tells_10 : decode b_T_tells 10 = .ok (.iload_n 1, 1) := by decide +kernel
theorem d_T_tells_11 : decode b_T_tells 11 = .ok (.invokevirtual 92, 3) := by decide +kernel
theorem d_T_tells_14 : decode b_T_tells 14 = .ok (.iload_n 2, 1) := by decide +kernel
theorem d_T_tells_15 : decode b_T_tells 15 = .ok (.if_icmp .ne 17, 3) := by decide +kernel
theorem d_T_tells_18 : decode b_T_tells 18 = .ok (.aload_n 0, 1) := by decide +kernel
theorem d_T_tells_19 : decode b_T_tells 19 = .ok (.iload_n 1, 1) := by decide +kernel
theorem d_T_tells_20 : decode b_T_tells 20 = .ok (.invokevirtual 95, 3) := by decide +kernel
theorem d_T_tells_23 : decode b_T_tells 23 = .ok (.iload 4, 2) := by decide +kernel
theorem d_T_tells_25 : decode b_T_tells 25 = .ok (.if_icmp .ne 7, 3) := by decide +kernel
theorem d_T_tells_28 : decode b_T_tells 28 = .ok (.iconst 1, 1) := by decide +kernel
theorem d_T_tells_29 : decode b_T_tells 29 = .ok (.goto 4, 3) := by decide +kernel
theorem d_T_tells_32 : decode b_T_tells 32 = .ok (.iconst 0, 1) := by decide +kernel
theorem d_T_tells_33 : decode b_T_tells 33 = .ok (.istore 5, 2) := by decide +kernel
theorem d_T_tells_35 : decode b_T_tells 35 = .ok (.iconst 0, 1) := by decide +kernel
theorem d_T_tells_36 : decode b_T_tells 36 = .ok (.istore 6, 2) := by decide +kernel
theorem d_T_tells_38 : decode b_T_tells 38 = .ok (.iload 6, 2) := by decide +kernel
theorem d_T_tells_40 : decode b_T_tells 40 = .ok (.iload_n 3, 1) := by decide +kernel
theorem d_T_tells_41 : decode b_T_tells 41 = .ok (.if_icmp .ge 47, 3) := by decide +kernel
theorem d_T_tells_44 : decode b_T_tells 44 = .ok (.iload 5, 2) := by decide +kernel
theorem d_T_tells_46 : decode b_T_tells 46 = .ok (.ifCond .eq 42, 3) := by decide +kernel
theorem d_T_tells_49 : decode b_T_tells 49 = .ok (.aload_n 0, 1) := by decide +kernel
theorem d_T_tells_50 : decode b_T_tells 50 = .ok (.iload_n 1, 1) := by decide +kernel
theorem d_T_tells_51 : decode b_T_tells 51 = .ok (.aload_n 0, 1) := by decide +kernel
theorem d_T_tells_52 : decode b_T_tells 52 = .ok (.iload_n 1, 1) := by decide +kernel
theorem d_T_tells_53 : decode b_T_tells 53 = .ok (.invokevirtual 85, 3) := by decide +kernel
theorem d_T_tells_56 : decode b_T_tells 56 = .ok (.iconst 3, 1) := by decide +kernel
theorem d_T_tells_57 : decode b_T_tells 57 = .ok (.iload 6, 2) := by decide +kernel
theorem d_T_tells_59 : decode b_T_tells 59 = .ok (.iadd, 1) := by decide +kernel
theorem d_T_tells_60 : decode b_T_tells 60 = .ok (.invokevirtual 73, 3) := by decide +kernel
theorem d_T_tells_63 : decode b_T_tells 63 = .ok (.aload_n 0, 1) := by decide +kernel
theorem d_T_tells_64 : decode b_T_tells 64 = .ok (.getfield 30, 3) := by decide +kernel
theorem d_T_tells_67 : decode b_T_tells 67 = .ok (.iload_n 2, 1) := by decide +kernel
theorem d_T_tells_68 : decode b_T_tells 68 = .ok (.iload 6, 2) := by decide +kernel
theorem d_T_tells_70 : decode b_T_tells 70 = .ok (.iadd, 1) := by decide +kernel
theorem d_T_tells_71 : decode b_T_tells 71 = .ok (.iaload, 1) := by decide +kernel
theorem d_T_tells_72 : decode b_T_tells 72 = .ok (.if_icmp .ne 7, 3) := by decide +kernel
theorem d_T_tells_75 : decode b_T_tells 75 = .ok (.iconst 1, 1) := by decide +kernel
theorem d_T_tells_76 : decode b_T_tells 76 = .ok (.goto 4, 3) := by decide +kernel
theorem d_T_tells_79 : decode b_T_tells 79 = .ok (.iconst 0, 1) := by decide +kernel
theorem d_T_tells_80 : decode b_T_tells 80 = .ok (.istore 5, 2) := by decide +kernel
theorem d_T_tells_82 : decode b_T_tells 82 = .ok (.iinc 6 1, 3) := by decide +kernel
theorem d_T_tells_85 : decode b_T_tells 85 = .ok (.goto (-47), 3) := by decide +kernel
theorem d_T_tells_88 : decode b_T_tells 88 = .ok (.iload 5, 2) := by decide +kernel
theorem d_T_tells_90 : decode b_T_tells 90 = .ok (.ireturn, 1) := by decide +kernel
theorem d_T_count_0 : decode b_T_count 0 = .ok (.aload_n 0, 1) := by decide +kernel
theorem d_T_count_1 : decode b_T_count 1 = .ok (.iload_n 1, 1) := by decide +kernel
theorem d_T_count_2 : decode b_T_count 2 = .ok (.aload_n 0, 1) := by decide +kernel
theorem d_T_count_3 : decode b_T_count 3 = .ok (.iload_n 1, 1) := by decide +kernel
theorem d_T_count_4 : decode b_T_count 4 = .ok (.invokevirtual 85, 3) := by decide +kernel
theorem d_T_count_7 : decode b_T_count 7 = .ok (.iconst 0, 1) := by decide +kernel
theorem d_T_count_8 : decode b_T_count 8 = .ok (.invokevirtual 73, 3) := by decide +kernel
theorem d_T_count_11 : decode b_T_count 11 = .ok (.sipush 255, 3) := by decide +kernel
theorem d_T_count_14 : decode b_T_count 14 = .ok (.iand, 1) := by decide +kernel
theorem d_T_count_15 : decode b_T_count 15 = .ok (.ireturn, 1) := by decide +kernel
theorem d_T_current_0 : decode b_T_current 0 = .ok (.aload_n 0, 1) := by decide +kernel
theorem d_T_current_1 : decode b_T_current 1 = .ok (.iload_n 1, 1) := by decide +kernel
theorem d_T_current_2 : decode b_T_current 2 = .ok (.iconst 0, 1) := by decide +kernel
theorem d_T_current_3 : decode b_T_current 3 = .ok (.invokevirtual 77, 3) := by decide +kernel
theorem d_T_current_6 : decode b_T_current 6 = .ok (.ifCond .eq 12, 3) := by decide +kernel
theorem d_T_current_9 : decode b_T_current 9 = .ok (.aload_n 0, 1) := by decide +kernel
theorem d_T_current_10 : decode b_T_current 10 = .ok (.iload_n 1, 1) := by decide +kernel
theorem d_T_current_11 : decode b_T_current 11 = .ok (.iconst 1, 1) := by decide +kernel
theorem d_T_current_12 : decode b_T_current 12 = .ok (.invokevirtual 77, 3) := by decide +kernel
theorem d_T_current_15 : decode b_T_current 15 = .ok (.ifCond .ne 18, 3) := by decide +kernel
theorem d_T_current_18 : decode b_T_current 18 = .ok (.aload_n 0, 1) := by decide +kernel
theorem d_T_current_19 : decode b_T_current 19 = .ok (.iload_n 1, 1) := by decide +kernel
theorem d_T_current_20 : decode b_T_current 20 = .ok (.iconst 0, 1) := by decide +kernel
theorem d_T_current_21 : decode b_T_current 21 = .ok (.invokevirtual 77, 3) := by decide +kernel
theorem d_T_current_24 : decode b_T_current 24 = .ok (.ifCond .eq 7, 3) := by decide +kernel
theorem d_T_current_27 : decode b_T_current 27 = .ok (.iconst 0, 1) := by decide +kernel
theorem d_T_current_28 : decode b_T_current 28 = .ok (.goto 4, 3) := by decide +kernel
theorem d_T_current_31 : decode b_T_current 31 = .ok (.iconst 1, 1) := by decide +kernel
theorem d_T_current_32 : decode b_T_current 32 = .ok (.ireturn, 1) := by decide +kernel
theorem d_T_current_33 : decode b_T_current 33 = .ok (.aload_n 0, 1) := by decide +kernel
theorem d_T_current_34 : decode b_T_current 34 = .ok (.iload_n 1, 1) := by decide +kernel
theorem d_T_current_35 : decode b_T_current 35 = .ok (.iconst 1, 1) := by decide +kernel
theorem d_T_current_36 : decode b_T_current 36 = .ok (.invokevirtual 81, 3) := by decide +kernel
theorem d_T_current_39 : decode b_T_current 39 = .ok (.aload_n 0, 1) := by decide +kernel
theorem d_T_current_40 : decode b_T_current 40 = .ok (.iload_n 1, 1) := by decide +kernel
theorem d_T_current_41 : decode b_T_current 41 = .ok (.iconst 0, 1) := by decide +kernel
theorem d_T_current_42 : decode b_T_current 42 = .ok (.invokevirtual 81, 3) := by decide +kernel
theorem d_T_current_45 : decode b_T_current 45 = .ok (.isub, 1) := by decide +kernel
theorem d_T_current_46 : decode b_T_current 46 = .ok (.sipush 255, 3) := by decide +kernel
theorem d_T_current_49 : decode b_T_current 49 = .ok (.iand, 1) := by decide +kernel
theorem d_T_current_50 : decode b_T_current 50 = .ok (.istore_n 2, 1) := by decide +kernel
theorem d_T_current_51 : decode b_T_current 51 = .ok (.iload_n 2, 1) := by decide +kernel
theorem d_T_current_52 : decode b_T_current 52 = .ok (.ifCond .le 14, 3) := by decide +kernel
theorem d_T_current_55 : decode b_T_current 55 = .ok (.iload_n 2, 1) := by decide +kernel
theorem d_T_current_56 : decode b_T_current 56 = .ok (.sipush 128, 3) := by decide +kernel
theorem d_T_current_59 : decode b_T_current 59 = .ok (.if_icmp .ge 7, 3) := by decide +kernel
theorem d_T_current_62 : decode b_T_current 62 = .ok (.iconst 1, 1) := by decide +kernel
theorem d_T_current_63 : decode b_T_current 63 = .ok (.goto 4, 3) := by decide +kernel
theorem d_T_current_66 : decode b_T_current 66 = .ok (.iconst 0, 1) := by decide +kernel
theorem d_T_current_67 : decode b_T_current 67 = .ok (.ireturn, 1) := by decide +kernel
theorem d_T_whole_0 : decode b_T_whole 0 = .ok (.aload_n 0, 1) := by decide +kernel
theorem d_T_whole_1 : decode b_T_whole 1 = .ok (.iload_n 1, 1) := by decide +kernel
theorem d_T_whole_2 : decode b_T_whole 2 = .ok (.iload_n 2, 1) := by decide +kernel
theorem d_T_whole_3 : decode b_T_whole 3 = .ok (.iconst 0, 1) := by decide +kernel
theorem d_T_whole_4 : decode b_T_whole 4 = .ok (.invokevirtual 73, 3) := by decide +kernel
theorem d_T_whole_7 : decode b_T_whole 7 = .ok (.aload_n 0, 1) := by decide +kernel
theorem d_T_whole_8 : decode b_T_whole 8 = .ok (.iload_n 1, 1) := by decide +kernel
theorem d_T_whole_9 : decode b_T_whole 9 = .ok (.iload_n 2, 1) := by decide +kernel
theorem d_T_whole_10 : decode b_T_whole 10 = .ok (.bipush 43, 2) := by decide +kernel
theorem d_T_whole_12 : decode b_T_whole 12 = .ok (.invokevirtual 73, 3) := by decide +kernel
theorem d_T_whole_15 : decode b_T_whole 15 = .ok (.if_icmp .ne 7, 3) := by decide +kernel
theorem d_T_whole_18 : decode b_T_whole 18 = .ok (.iconst 1, 1) := by decide +kernel
theorem d_T_whole_19 : decode b_T_whole 19 = .ok (.goto 4, 3) := by decide +kernel
theorem d_T_whole_22 : decode b_T_whole 22 = .ok (.iconst 0, 1) := by decide +kernel
theorem d_T_whole_23 : decode b_T_whole 23 = .ok (.ireturn, 1) := by decide +kernel
theorem d_T_wordAt_0 : decode b_T_wordAt 0 = .ok (.aload_n 0, 1) := by decide +kernel
theorem d_T_wordAt_1 : decode b_T_wordAt 1 = .ok (.getfield 23, 3) := by decide +kernel
theorem d_T_wordAt_4 : decode b_T_wordAt 4 = .ok (.bipush 88, 2) := by decide +kernel
theorem d_T_wordAt_6 : decode b_T_wordAt 6 = .ok (.iload_n 1, 1) := by decide +kernel
theorem d_T_wordAt_7 : decode b_T_wordAt 7 = .ok (.imul, 1) := by decide +kernel
theorem d_T_wordAt_8 : decode b_T_wordAt 8 = .ok (.bipush 44, 2) := by decide +kernel
theorem d_T_wordAt_10 : decode b_T_wordAt 10 = .ok (.iload_n 2, 1) := by decide +kernel
theorem d_T_wordAt_11 : decode b_T_wordAt 11 = .ok (.imul, 1) := by decide +kernel
theorem d_T_wordAt_12 : decode b_T_wordAt 12 = .ok (.iadd, 1) := by decide +kernel
theorem d_T_wordAt_13 : decode b_T_wordAt 13 = .ok (.iload_n 3, 1) := by decide +kernel
theorem d_T_wordAt_14 : decode b_T_wordAt 14 = .ok (.iadd, 1) := by decide +kernel
theorem d_T_wordAt_15 : decode b_T_wordAt 15 = .ok (.saload, 1) := by decide +kernel
theorem d_T_wordAt_16 : decode b_T_wordAt 16 = .ok (.ireturn, 1) := by decide +kernel
theorem d_T_sequence_0 : decode b_T_sequence 0 = .ok (.aload_n 0, 1) := by decide +kernel
theorem d_T_sequence_1 : decode b_T_sequence 1 = .ok (.iload_n 1, 1) := by decide +kernel
theorem d_T_sequence_2 : decode b_T_sequence 2 = .ok (.iload_n 2, 1) := by decide +kernel
theorem d_T_sequence_3 : decode b_T_sequence 3 = .ok (.iconst 0, 1) := by decide +kernel
theorem d_T_sequence_4 : decode b_T_sequence 4 = .ok (.invokevirtual 73, 3) := by decide +kernel
theorem d_T_sequence_7 : decode b_T_sequence 7 = .ok (.bipush 8, 2) := by decide +kernel
theorem d_T_sequence_9 : decode b_T_sequence 9 = .ok (.ishr, 1) := by decide +kernel
theorem d_T_sequence_10 : decode b_T_sequence 10 = .ok (.sipush 255, 3) := by decide +kernel
theorem d_T_sequence_13 : decode b_T_sequence 13 = .ok (.iand, 1) := by decide +kernel
theorem d_T_sequence_14 : decode b_T_sequence 14 = .ok (.ireturn, 1) := by decide +kernel
theorem d_T_first_0 : decode b_T_first 0 = .ok (.aload_n 0, 1) := by decide +kernel
theorem d_T_first_1 : decode b_T_first 1 = .ok (.iload_n 1, 1) := by decide +kernel
theorem d_T_first_2 : decode b_T_first 2 = .ok (.invokevirtual 89, 3) := by decide +kernel
theorem d_T_first_5 : decode b_T_first 5 = .ok (.ifCond .ne 7, 3) := by decide +kernel
theorem d_T_first_8 : decode b_T_first 8 = .ok (.iconst 0, 1) := by decide +kernel
theorem d_T_first_9 : decode b_T_first 9 = .ok (.goto 14, 3) := by decide +kernel
theorem d_T_first_12 : decode b_T_first 12 = .ok (.aload_n 0, 1) := by decide +kernel
theorem d_T_first_13 : decode b_T_first 13 = .ok (.iload_n 1, 1) := by decide +kernel
theorem d_T_first_14 : decode b_T_first 14 = .ok (.aload_n 0, 1) := by decide +kernel
theorem d_T_first_15 : decode b_T_first 15 = .ok (.iload_n 1, 1) := by decide +kernel
theorem d_T_first_16 : decode b_T_first 16 = .ok (.invokevirtual 85, 3) := by decide +kernel
theorem d_T_first_19 : decode b_T_first 19 = .ok (.iconst 1, 1) := by decide +kernel
theorem d_T_first_20 : decode b_T_first 20 = .ok (.invokevirtual 73, 3) := by decide +kernel
theorem d_T_first_23 : decode b_T_first 23 = .ok (.ireturn, 1) := by decide +kernel
theorem d_T_seen_0 : decode b_T_seen 0 = .ok (.aload_n 0, 1) := by decide +kernel
theorem d_T_seen_1 : decode b_T_seen 1 = .ok (.iload_n 1, 1) := by decide +kernel
theorem d_T_seen_2 : decode b_T_seen 2 = .ok (.aload_n 0, 1) := by decide +kernel
theorem d_T_seen_3 : decode b_T_seen 3 = .ok (.iload_n 1, 1) := by decide +kernel
theorem d_T_seen_4 : decode b_T_seen 4 = .ok (.invokevirtual 85, 3) := by decide +kernel
theorem d_T_seen_7 : decode b_T_seen 7 = .ok (.iconst 2, 1) := by decide +kernel
theorem d_T_seen_8 : decode b_T_seen 8 = .ok (.invokevirtual 73, 3) := by decide +kernel
theorem d_T_seen_11 : decode b_T_seen 11 = .ok (.ireturn, 1) := by decide +kernel
theorem d_T_give_0 : decode b_T_give 0 = .ok (.iload_n 3, 1) := by decide +kernel
theorem d_T_give_1 : decode b_T_give 1 = .ok (.iload_n 2, 1) := by decide +kernel
theorem d_T_give_2 : decode b_T_give 2 = .ok (.isub, 1) := by decide +kernel
theorem d_T_give_3 : decode b_T_give 3 = .ok (.bipush 39, 2) := by decide +kernel
theorem d_T_give_5 : decode b_T_give 5 = .ok (.if_icmp .le 10, 3) := by decide +kernel
theorem d_T_give_8 : decode b_T_give 8 = .ok (.iload_n 3, 1) := by decide +kernel
theorem d_T_give_9 : decode b_T_give 9 = .ok (.bipush 39, 2) := by decide +kernel
theorem d_T_give_11 : decode b_T_give 11 = .ok (.isub, 1) := by decide +kernel
theorem d_T_give_12 : decode b_T_give 12 = .ok (.goto 4, 3) := by decide +kernel
theorem d_T_give_15 : decode b_T_give 15 = .ok (.iload_n 2, 1) := by decide +kernel
theorem d_T_give_16 : decode b_T_give 16 = .ok (.istore 5, 2) := by decide +kernel
theorem d_T_give_18 : decode b_T_give 18 = .ok (.aload_n 0, 1) := by decide +kernel
theorem d_T_give_19 : decode b_T_give 19 = .ok (.iload_n 1, 1) := by decide +kernel
theorem d_T_give_20 : decode b_T_give 20 = .ok (.iload 5, 2) := by decide +kernel
theorem d_T_give_22 : decode b_T_give 22 = .ok (.iload_n 3, 1) := by decide +kernel
theorem d_T_give_23 : decode b_T_give 23 = .ok (.iload_n 2, 1) := by decide +kernel
theorem d_T_give_24 : decode b_T_give 24 = .ok (.if_icmp .ge 7, 3) := by decide +kernel
theorem d_T_give_27 : decode b_T_give 27 = .ok (.iconst 0, 1) := by decide +kernel
theorem d_T_give_28 : decode b_T_give 28 = .ok (.goto 9, 3) := by decide +kernel
theorem d_T_give_31 : decode b_T_give 31 = .ok (.iload_n 3, 1) := by decide +kernel
theorem d_T_give_32 : decode b_T_give 32 = .ok (.iload 5, 2) := by decide +kernel
theorem d_T_give_34 : decode b_T_give 34 = .ok (.isub, 1) := by decide +kernel
theorem d_T_give_35 : decode b_T_give 35 = .ok (.iconst 1, 1) := by decide +kernel
theorem d_T_give_36 : decode b_T_give 36 = .ok (.iadd, 1) := by decide +kernel
theorem d_T_give_37 : decode b_T_give 37 = .ok (.iload 4, 2) := by decide +kernel
theorem d_T_give_39 : decode b_T_give 39 = .ok (.invokevirtual 102, 3) := by decide +kernel
theorem d_T_give_42 : decode b_T_give 42 = .ok (.return_, 1) := by decide +kernel
theorem d_T_zoneOf_0 : decode b_T_zoneOf 0 = .ok (.aload_n 0, 1) := by decide +kernel
theorem d_T_zoneOf_1 : decode b_T_zoneOf 1 = .ok (.iload_n 1, 1) := by decide +kernel
theorem d_T_zoneOf_2 : decode b_T_zoneOf 2 = .ok (.invokestatic 109, 3) := by decide +kernel
theorem d_T_zoneOf_5 : decode b_T_zoneOf 5 = .ok (.ifCond .eq 7, 3) := by decide +kernel
theorem d_T_zoneOf_8 : decode b_T_zoneOf 8 = .ok (.iconst 1, 1) := by decide +kernel
theorem d_T_zoneOf_9 : decode b_T_zoneOf 9 = .ok (.goto 31, 3) := by decide +kernel
theorem d_T_zoneOf_12 : decode b_T_zoneOf 12 = .ok (.iload_n 2, 1) := by decide +kernel
theorem d_T_zoneOf_13 : decode b_T_zoneOf 13 = .ok (.ifCond .lt 9, 3) := by decide +kernel
theorem d_T_zoneOf_16 : decode b_T_zoneOf 16 = .ok (.iload_n 2, 1) := by decide +kernel
theorem d_T_zoneOf_17 : decode b_T_zoneOf 17 = .ok (.bipush 31, 2) := by decide +kernel
theorem d_T_zoneOf_19 : decode b_T_zoneOf 19 = .ok (.if_icmp .le 7, 3) := by decide +kernel
theorem d_T_zoneOf_22 : decode b_T_zoneOf 22 = .ok (.iconst 2, 1) := by decide +kernel
theorem d_T_zoneOf_23 : decode b_T_zoneOf 23 = .ok (.goto 17, 3) := by decide +kernel
theorem d_T_zoneOf_26 : decode b_T_zoneOf 26 = .ok (.aload_n 0, 1) := by decide +kernel
theorem d_T_zoneOf_27 : decode b_T_zoneOf 27 = .ok (.getfield 41, 3) := by decide +kernel
theorem d_T_zoneOf_30 : decode b_T_zoneOf 30 = .ok (.iload_n 1, 1) := by decide +kernel
theorem d_T_zoneOf_31 : decode b_T_zoneOf 31 = .ok (.baload, 1) := by decide +kernel
theorem d_T_zoneOf_32 : decode b_T_zoneOf 32 = .ok (.ifCond .eq 7, 3) := by decide +kernel
theorem d_T_zoneOf_35 : decode b_T_zoneOf 35 = .ok (.iconst 3, 1) := by decide +kernel
theorem d_T_zoneOf_36 : decode b_T_zoneOf 36 = .ok (.goto 4, 3) := by decide +kernel
theorem d_T_zoneOf_39 : decode b_T_zoneOf 39 = .ok (.iconst 0, 1) := by decide +kernel
theorem d_T_zoneOf_40 : decode b_T_zoneOf 40 = .ok (.putfield 59, 3) := by decide +kernel
theorem d_T_zoneOf_43 : decode b_T_zoneOf 43 = .ok (.aload_n 0, 1) := by decide +kernel
theorem d_T_zoneOf_44 : decode b_T_zoneOf 44 = .ok (.getfield 59, 3) := by decide +kernel
theorem d_T_zoneOf_47 : decode b_T_zoneOf 47 = .ok (.ifCond .ne 10, 3) := by decide +kernel
theorem d_T_zoneOf_50 : decode b_T_zoneOf 50 = .ok (.aload_n 0, 1) := by decide +kernel
theorem d_T_zoneOf_51 : decode b_T_zoneOf 51 = .ok (.getfield 38, 3) := by decide +kernel
theorem d_T_zoneOf_54 : decode b_T_zoneOf 54 = .ok (.iload_n 1, 1) := by decide +kernel
theorem d_T_zoneOf_55 : decode b_T_zoneOf 55 = .ok (.iload_n 2, 1) := by decide +kernel
theorem d_T_zoneOf_56 : decode b_T_zoneOf 56 = .ok (.iastore, 1) := by decide +kernel
theorem d_T_zoneOf_57 : decode b_T_zoneOf 57 = .ok (.return_, 1) := by decide +kernel
theorem d_T_noDoor_0 : decode b_T_noDoor 0 = .ok (.iload_n 0, 1) := by decide +kernel
theorem d_T_noDoor_1 : decode b_T_noDoor 1 = .ok (.ifCond .lt 10, 3) := by decide +kernel
theorem d_T_noDoor_4 : decode b_T_noDoor 4 = .ok (.iload_n 0, 1) := by decide +kernel
theorem d_T_noDoor_5 : decode b_T_noDoor 5 = .ok (.sipush 199, 3) := by decide +kernel
theorem d_T_noDoor_8 : decode b_T_noDoor 8 = .ok (.if_icmp .le 7, 3) := by decide +kernel
theorem d_T_noDoor_11 : decode b_T_noDoor 11 = .ok (.iconst 1, 1) := by decide +kernel
theorem d_T_noDoor_12 : decode b_T_noDoor 12 = .ok (.goto 4, 3) := by decide +kernel
theorem d_T_noDoor_15 : decode b_T_noDoor 15 = .ok (.iconst 0, 1) := by decide +kernel
theorem d_T_noDoor_16 : decode b_T_noDoor 16 = .ok (.ireturn, 1) := by decide +kernel
theorem d_T_show_0 : decode b_T_show 0 = .ok (.aload_n 0, 1) := by decide +kernel
theorem d_T_show_1 : decode b_T_show 1 = .ok (.aload_n 0, 1) := by decide +kernel
theorem d_T_show_2 : decode b_T_show 2 = .ok (.iload_n 1, 1) := by decide +kernel
theorem d_T_show_3 : decode b_T_show 3 = .ok (.invokevirtual 66, 3) := by decide +kernel
theorem d_T_show_6 : decode b_T_show 6 = .ok (.ifCond .ne 10, 3) := by decide +kernel
theorem d_T_show_9 : decode b_T_show 9 = .ok (.iload_n 2, 1) := by decide +kernel
theorem d_T_show_10 : decode b_T_show 10 = .ok (.invokestatic 109, 3) := by decide +kernel
theorem d_T_show_13 : decode b_T_show 13 = .ok (.ifCond .eq 7, 3) := by decide +kernel
theorem d_T_show_16 : decode b_T_show 16 = .ok (.iconst 1, 1) := by decide +kernel
theorem d_T_show_17 : decode b_T_show 17 = .ok (.goto 4, 3) := by decide +kernel
theorem d_T_show_20 : decode b_T_show 20 = .ok (.iconst 0, 1) := by decide +kernel
theorem d_T_show_21 : decode b_T_show 21 = .ok (.putfield 59, 3) := by decide +kernel
theorem d_T_show_24 : decode b_T_show 24 = .ok (.aload_n 0, 1) := by decide +kernel
theorem d_T_show_25 : decode b_T_show 25 = .ok (.getfield 59, 3) := by decide +kernel
theorem d_T_show_28 : decode b_T_show 28 = .ok (.ifCond .le 7, 3) := by decide +kernel
theorem d_T_show_31 : decode b_T_show 31 = .ok (.iconst 0, 1) := by decide +kernel
theorem d_T_show_32 : decode b_T_show 32 = .ok (.goto 10, 3) := by decide +kernel
theorem d_T_show_35 : decode b_T_show 35 = .ok (.aload_n 0, 1) := by decide +kernel
theorem d_T_show_36 : decode b_T_show 36 = .ok (.iload_n 1, 1) := by decide +kernel
theorem d_T_show_37 : decode b_T_show 37 = .ok (.iload_n 2, 1) := by decide +kernel
theorem d_T_show_38 : decode b_T_show 38 = .ok (.iload_n 3, 1) := by decide +kernel
theorem d_T_show_39 : decode b_T_show 39 = .ok (.invokevirtual 118, 3) := by decide +kernel
theorem d_T_show_42 : decode b_T_show 42 = .ok (.ireturn, 1) := by decide +kernel
theorem d_T_visitAt_0 : decode b_T_visitAt 0 = .ok (.aload_n 0, 1) := by decide +kernel
theorem d_T_visitAt_1 : decode b_T_visitAt 1 = .ok (.getfield 41, 3) := by decide +kernel
theorem d_T_visitAt_4 : decode b_T_visitAt 4 = .ok (.iload_n 2, 1) := by decide +kernel
theorem d_T_visitAt_5 : decode b_T_visitAt 5 = .ok (.iconst 1, 1) := by decide +kernel
theorem d_T_visitAt_6 : decode b_T_visitAt 6 = .ok (.bastore, 1) := by decide +kernel
theorem d_T_visitAt_7 : decode b_T_visitAt 7 = .ok (.aload_n 0, 1) := by decide +kernel
theorem d_T_visitAt_8 : decode b_T_visitAt 8 = .ok (.iload_n 1, 1) := by decide +kernel
theorem d_T_visitAt_9 : decode b_T_visitAt 9 = .ok (.invokevirtual 92, 3) := by decide +kernel
theorem d_T_visitAt_12 : decode b_T_visitAt 12 = .ok (.istore 4, 2) := by decide +kernel
theorem d_T_visitAt_14 : decode b_T_visitAt 14 = .ok (.iconst 0, 1) := by decide +kernel
theorem d_T_visitAt_15 : decode b_T_visitAt 15 = .ok (.istore 5, 2) := by decide +kernel
theorem d_T_visitAt_17 : decode b_T_visitAt 17 = .ok (.iload 5, 2) := by decide +kernel
theorem d_T_visitAt_19 : decode b_T_visitAt 19 = .ok (.aload_n 0, 1) := by decide +kernel
theorem d_T_visitAt_20 : decode b_T_visitAt 20 = .ok (.iload_n 1, 1) := by decide +kernel
theorem d_T_visitAt_21 : decode b_T_visitAt 21 = .ok (.invokevirtual 89, 3) := by decide +kernel
theorem d_T_visitAt_24 : decode b_T_visitAt 24 = .ok (.if_icmp .ge 26, 3) := by decide +kernel
theorem d_T_visitAt_27 : decode b_T_visitAt 27 = .ok (.aload_n 0, 1) := by decide +kernel
theorem d_T_visitAt_28 : decode b_T_visitAt 28 = .ok (.getfield 34, 3) := by decide +kernel
theorem d_T_visitAt_31 : decode b_T_visitAt 31 = .ok (.sipush 3001, 3) := by decide +kernel
theorem d_T_visitAt_34 : decode b_T_visitAt 34 = .ok (.iload_n 2, 1) := by decide +kernel
theorem d_T_visitAt_35 : decode b_T_visitAt 35 = .ok (.imul, 1) := by decide +kernel
theorem d_T_visitAt_36 : decode b_T_visitAt 36 = .ok (.iload 4, 2) := by decide +kernel
theorem d_T_visitAt_38 : decode b_T_visitAt 38 = .ok (.iadd, 1) := by decide +kernel
theorem d_T_visitAt_39 : decode b_T_visitAt 39 = .ok (.iload 5, 2) := by decide +kernel
theorem d_T_visitAt_41 : decode b_T_visitAt 41 = .ok (.iadd, 1) := by decide +kernel
theorem d_T_visitAt_42 : decode b_T_visitAt 42 = .ok (.iconst 1, 1) := by decide +kernel
theorem d_T_visitAt_43 : decode b_T_visitAt 43 = .ok (.bastore, 1) := by decide +kernel
theorem d_T_visitAt_44 : decode b_T_visitAt 44 = .ok (.iinc 5 1, 3) := by decide +kernel
theorem d_T_visitAt_47 : decode b_T_visitAt 47 = .ok (.goto (-30), 3) := by decide +kernel
theorem d_T_visitAt_50 : decode b_T_visitAt 50 = .ok (.aload_n 0, 1) := by decide +kernel
theorem d_T_visitAt_51 : decode b_T_visitAt 51 = .ok (.getfield 44, 3) := by decide +kernel
theorem d_T_visitAt_54 : decode b_T_visitAt 54 = .ok (.iload_n 2, 1) := by decide +kernel
theorem d_T_visitAt_55 : decode b_T_visitAt 55 = .ok (.aload_n 0, 1) := by decide +kernel
theorem d_T_visitAt_56 : decode b_T_visitAt 56 = .ok (.iload_n 1, 1) := by decide +kernel
theorem d_T_visitAt_57 : decode b_T_visitAt 57 = .ok (.invokevirtual 95, 3) := by decide +kernel
theorem d_T_visitAt_60 : decode b_T_visitAt 60 = .ok (.aload_n 0, 1) := by decide +kernel
theorem d_T_visitAt_61 : decode b_T_visitAt 61 = .ok (.getfield 44, 3) := by decide +kernel
theorem d_T_visitAt_64 : decode b_T_visitAt 64 = .ok (.iload_n 2, 1) := by decide +kernel
theorem d_T_visitAt_65 : decode b_T_visitAt 65 = .ok (.iaload, 1) := by decide +kernel
theorem d_T_visitAt_66 : decode b_T_visitAt 66 = .ok (.if_icmp .le 11, 3) := by decide +kernel
theorem d_T_visitAt_69 : decode b_T_visitAt 69 = .ok (.aload_n 0, 1) := by decide +kernel
theorem d_T_visitAt_70 : decode b_T_visitAt 70 = .ok (.iload_n 1, 1) := by decide +kernel
theorem d_T_visitAt_71 : decode b_T_visitAt 71 = .ok (.invokevirtual 95, 3) := by decide +kernel
theorem d_T_visitAt_74 : decode b_T_visitAt 74 = .ok (.goto 9, 3) := by decide +kernel
theorem d_T_visitAt_77 : decode b_T_visitAt 77 = .ok (.aload_n 0, 1) := by decide +kernel
theorem d_T_visitAt_78 : decode b_T_visitAt 78 = .ok (.getfield 44, 3) := by decide +kernel
theorem d_T_visitAt_81 : decode b_T_visitAt 81 = .ok (.iload_n 2, 1) := by decide +kernel
theorem d_T_visitAt_82 : decode b_T_visitAt 82 = .ok (.iaload, 1) := by decide +kernel
theorem d_T_visitAt_83 : decode b_T_visitAt 83 = .ok (.iastore, 1) := by decide +kernel
theorem d_T_visitAt_84 : decode b_T_visitAt 84 = .ok (.aload_n 0, 1) := by decide +kernel
theorem d_T_visitAt_85 : decode b_T_visitAt 85 = .ok (.getfield 7, 3) := by decide +kernel
theorem d_T_visitAt_88 : decode b_T_visitAt 88 = .ok (.iload_n 1, 1) := by decide +kernel
theorem d_T_visitAt_89 : decode b_T_visitAt 89 = .ok (.iaload, 1) := by decide +kernel
theorem d_T_visitAt_90 : decode b_T_visitAt 90 = .ok (.aload_n 0, 1) := by decide +kernel
theorem d_T_visitAt_91 : decode b_T_visitAt 91 = .ok (.getfield 38, 3) := by decide +kernel
theorem d_T_visitAt_94 : decode b_T_visitAt 94 = .ok (.iload_n 2, 1) := by decide +kernel
theorem d_T_visitAt_95 : decode b_T_visitAt 95 = .ok (.iaload, 1) := by decide +kernel
theorem d_T_visitAt_96 : decode b_T_visitAt 96 = .ok (.ishr, 1) := by decide +kernel
theorem d_T_visitAt_97 : decode b_T_visitAt 97 = .ok (.iconst 1, 1) := by decide +kernel
theorem d_T_visitAt_98 : decode b_T_visitAt 98 = .ok (.iand, 1) := by decide +kernel
theorem d_T_visitAt_99 : decode b_T_visitAt 99 = .ok (.iconst 1, 1) := by decide +kernel
theorem d_T_visitAt_100 : decode b_T_visitAt 100 = .ok (.if_icmp .ne 7, 3) := by decide +kernel
theorem d_T_visitAt_103 : decode b_T_visitAt 103 = .ok (.iconst 1, 1) := by decide +kernel
theorem d_T_visitAt_104 : decode b_T_visitAt 104 = .ok (.goto 4, 3) := by decide +kernel
theorem d_T_visitAt_107 : decode b_T_visitAt 107 = .ok (.iconst 0, 1) := by decide +kernel
theorem d_T_visitAt_108 : decode b_T_visitAt 108 = .ok (.istore 5, 2) := by decide +kernel
theorem d_T_visitAt_110 : decode b_T_visitAt 110 = .ok (.aload_n 0, 1) := by decide +kernel
theorem d_T_visitAt_111 : decode b_T_visitAt 111 = .ok (.iload_n 2, 1) := by decide +kernel
theorem d_T_visitAt_112 : decode b_T_visitAt 112 = .ok (.iload_n 1, 1) := by decide +kernel
theorem d_T_visitAt_113 : decode b_T_visitAt 113 = .ok (.invokevirtual 112, 3) := by decide +kernel
theorem d_T_visitAt_116 : decode b_T_visitAt 116 = .ok (.ifCond .eq 7, 3) := by decide +kernel
theorem d_T_visitAt_119 : decode b_T_visitAt 119 = .ok (.iconst 1, 1) := by decide +kernel
theorem d_T_visitAt_120 : decode b_T_visitAt 120 = .ok (.goto 27, 3) := by decide +kernel
theorem d_T_visitAt_123 : decode b_T_visitAt 123 = .ok (.aload_n 0, 1) := by decide +kernel
theorem d_T_visitAt_124 : decode b_T_visitAt 124 = .ok (.getfield 13, 3) := by decide +kernel
theorem d_T_visitAt_127 : decode b_T_visitAt 127 = .ok (.iload_n 1, 1) := by decide +kernel
theorem d_T_visitAt_128 : decode b_T_visitAt 128 = .ok (.iaload, 1) := by decide +kernel
theorem d_T_visitAt_129 : decode b_T_visitAt 129 = .ok (.iload_n 3, 1) := by decide +kernel
theorem d_T_visitAt_130 : decode b_T_visitAt 130 = .ok (.if_icmp .ge 7, 3) := by decide +kernel
theorem d_T_visitAt_133 : decode b_T_visitAt 133 = .ok (.iconst 2, 1) := by decide +kernel
theorem d_T_visitAt_134 : decode b_T_visitAt 134 = .ok (.goto 13, 3) := by decide +kernel
theorem d_T_visitAt_137 : decode b_T_visitAt 137 = .ok (.iload 5, 2) := by decide +kernel
theorem d_T_visitAt_139 : decode b_T_visitAt 139 = .ok (.ifCond .eq 7, 3) := by decide +kernel
theorem d_T_visitAt_142 : decode b_T_visitAt 142 = .ok (.iconst 0, 1) := by decide +kernel
theorem d_T_visitAt_143 : decode b_T_visitAt 143 = .ok (.goto 4, 3) := by decide +kernel
theorem d_T_visitAt_146 : decode b_T_visitAt 146 = .ok (.iconst 3, 1) := by decide +kernel
theorem d_T_visitAt_147 : decode b_T_visitAt 147 = .ok (.istore 6, 2) := by decide +kernel
theorem d_T_visitAt_149 : decode b_T_visitAt 149 = .ok (.aload_n 0, 1) := by decide +kernel
theorem d_T_visitAt_150 : decode b_T_visitAt 150 = .ok (.iload_n 2, 1) := by decide +kernel
theorem d_T_visitAt_151 : decode b_T_visitAt 151 = .ok (.invokevirtual 115, 3) := by decide +kernel
theorem d_T_visitAt_154 : decode b_T_visitAt 154 = .ok (.istore 7, 2) := by decide +kernel
theorem d_T_visitAt_156 : decode b_T_visitAt 156 = .ok (.iload 7, 2) := by decide +kernel
theorem d_T_visitAt_158 : decode b_T_visitAt 158 = .ok (.istore 8, 2) := by decide +kernel
theorem d_T_visitAt_160 : decode b_T_visitAt 160 = .ok (.iload 8, 2) := by decide +kernel
theorem d_T_visitAt_162 : decode b_T_visitAt 162 = .ok (.iconst 1, 1) := by decide +kernel
theorem d_T_visitAt_163 : decode b_T_visitAt 163 = .ok (.if_icmp .le 27, 3) := by decide +kernel
theorem d_T_visitAt_166 : decode b_T_visitAt 166 = .ok (.aload_n 0, 1) := by decide +kernel
theorem d_T_visitAt_167 : decode b_T_visitAt 167 = .ok (.getfield 34, 3) := by decide +kernel
theorem d_T_visitAt_170 : decode b_T_visitAt 170 = .ok (.sipush 3001, 3) := by decide +kernel
theorem d_T_visitAt_173 : decode b_T_visitAt 173 = .ok (.iload_n 2, 1) := by decide +kernel
theorem d_T_visitAt_174 : decode b_T_visitAt 174 = .ok (.imul, 1) := by decide +kernel
theorem d_T_visitAt_175 : decode b_T_visitAt 175 = .ok (.iload 8, 2) := by decide +kernel
theorem d_T_visitAt_177 : decode b_T_visitAt 177 = .ok (.iadd, 1) := by decide +kernel
theorem d_T_visitAt_178 : decode b_T_visitAt 178 = .ok (.iconst 1, 1) := by decide +kernel
theorem d_T_visitAt_179 : decode b_T_visitAt 179 = .ok (.isub, 1) := by decide +kernel
theorem d_T_visitAt_180 : decode b_T_visitAt 180 = .ok (.baload, 1) := by decide +kernel
theorem d_T_visitAt_181 : decode b_T_visitAt 181 = .ok (.ifCond .eq 9, 3) := by decide +kernel
theorem d_T_visitAt_184 : decode b_T_visitAt 184 = .ok (.iinc 8 (-1), 3) := by decide +kernel
theorem d_T_visitAt_187 : decode b_T_visitAt 187 = .ok (.goto (-27), 3) := by decide +kernel
theorem d_T_visitAt_190 : decode b_T_visitAt 190 = .ok (.iload 7, 2) := by decide +kernel
theorem d_T_visitAt_192 : decode b_T_visitAt 192 = .ok (.ifCond .le 17, 3) := by decide +kernel
theorem d_T_visitAt_195 : decode b_T_visitAt 195 = .ok (.aload_n 0, 1) := by decide +kernel
theorem d_T_visitAt_196 : decode b_T_visitAt 196 = .ok (.iload_n 1, 1) := by decide +kernel
theorem d_T_visitAt_197 : decode b_T_visitAt 197 = .ok (.iload 8, 2) := by decide +kernel
theorem d_T_visitAt_199 : decode b_T_visitAt 199 = .ok (.iload 7, 2) := by decide +kernel
theorem d_T_visitAt_201 : decode b_T_visitAt 201 = .ok (.aload_n 0, 1) := by decide +kernel
theorem d_T_visitAt_202 : decode b_T_visitAt 202 = .ok (.iload_n 1, 1) := by decide +kernel
theorem d_T_visitAt_203 : decode b_T_visitAt 203 = .ok (.invokevirtual 95, 3) := by decide +kernel
theorem d_T_visitAt_206 : decode b_T_visitAt 206 = .ok (.invokevirtual 106, 3) := by decide +kernel
theorem d_T_visitAt_209 : decode b_T_visitAt 209 = .ok (.iload 6, 2) := by decide +kernel
theorem d_T_visitAt_211 : decode b_T_visitAt 211 = .ok (.ireturn, 1) := by decide +kernel
theorem d_T_revokedAt_0 : decode b_T_revokedAt 0 = .ok (.aload_n 0, 1) := by decide +kernel
theorem d_T_revokedAt_1 : decode b_T_revokedAt 1 = .ok (.getfield 27, 3) := by decide +kernel
theorem d_T_revokedAt_4 : decode b_T_revokedAt 4 = .ok (.iload_n 2, 1) := by decide +kernel
theorem d_T_revokedAt_5 : decode b_T_revokedAt 5 = .ok (.iaload, 1) := by decide +kernel
theorem d_T_revokedAt_6 : decode b_T_revokedAt 6 = .ok (.ifCond .le 27, 3) := by decide +kernel
theorem d_T_revokedAt_9 : decode b_T_revokedAt 9 = .ok (.aload_n 0, 1) := by decide +kernel
theorem d_T_revokedAt_10 : decode b_T_revokedAt 10 = .ok (.getfield 34, 3) := by decide +kernel
theorem d_T_revokedAt_13 : decode b_T_revokedAt 13 = .ok (.sipush 3001, 3) := by decide +kernel
theorem d_T_revokedAt_16 : decode b_T_revokedAt 16 = .ok (.iload_n 1, 1) := by decide +kernel
theorem d_T_revokedAt_17 : decode b_T_revokedAt 17 = .ok (.imul, 1) := by decide +kernel
theorem d_T_revokedAt_18 : decode b_T_revokedAt 18 = .ok (.aload_n 0, 1) := by decide +kernel
theorem d_T_revokedAt_19 : decode b_T_revokedAt 19 = .ok (.getfield 27, 3) := by decide +kernel
theorem d_T_revokedAt_22 : decode b_T_revokedAt 22 = .ok (.iload_n 2, 1) := by decide +kernel
theorem d_T_revokedAt_23 : decode b_T_revokedAt 23 = .ok (.iaload, 1) := by decide +kernel
theorem d_T_revokedAt_24 : decode b_T_revokedAt 24 = .ok (.iadd, 1) := by decide +kernel
theorem d_T_revokedAt_25 : decode b_T_revokedAt 25 = .ok (.baload, 1) := by decide +kernel
theorem d_T_revokedAt_26 : decode b_T_revokedAt 26 = .ok (.ifCond .eq 7, 3) := by decide +kernel
theorem d_T_revokedAt_29 : decode b_T_revokedAt 29 = .ok (.iconst 1, 1) := by decide +kernel
theorem d_T_revokedAt_30 : decode b_T_revokedAt 30 = .ok (.goto 4, 3) := by decide +kernel
theorem d_T_revokedAt_33 : decode b_T_revokedAt 33 = .ok (.iconst 0, 1) := by decide +kernel
theorem d_T_revokedAt_34 : decode b_T_revokedAt 34 = .ok (.ireturn, 1) := by decide +kernel
theorem d_T_greatest_0 : decode b_T_greatest 0 = .ok (.sipush 3000, 3) := by decide +kernel
theorem d_T_greatest_3 : decode b_T_greatest 3 = .ok (.istore_n 2, 1) := by decide +kernel
theorem d_T_greatest_4 : decode b_T_greatest 4 = .ok (.iload_n 2, 1) := by decide +kernel
theorem d_T_greatest_5 : decode b_T_greatest 5 = .ok (.ifCond .le 24, 3) := by decide +kernel
theorem d_T_greatest_8 : decode b_T_greatest 8 = .ok (.aload_n 0, 1) := by decide +kernel
theorem d_T_greatest_9 : decode b_T_greatest 9 = .ok (.getfield 34, 3) := by decide +kernel
theorem d_T_greatest_12 : decode b_T_greatest 12 = .ok (.sipush 3001, 3) := by decide +kernel
theorem d_T_greatest_15 : decode b_T_greatest 15 = .ok (.iload_n 1, 1) := by decide +kernel
theorem d_T_greatest_16 : decode b_T_greatest 16 = .ok (.imul, 1) := by decide +kernel
theorem d_T_greatest_17 : decode b_T_greatest 17 = .ok (.iload_n 2, 1) := by decide +kernel
theorem d_T_greatest_18 : decode b_T_greatest 18 = .ok (.iadd, 1) := by decide +kernel
theorem d_T_greatest_19 : decode b_T_greatest 19 = .ok (.baload, 1) := by decide +kernel
theorem d_T_greatest_20 : decode b_T_greatest 20 = .ok (.ifCond .ne 9, 3) := by decide +kernel
theorem d_T_greatest_23 : decode b_T_greatest 23 = .ok (.iinc 2 (-1), 3) := by decide +kernel
theorem d_T_greatest_26 : decode b_T_greatest 26 = .ok (.goto (-22), 3) := by decide +kernel
theorem d_T_greatest_29 : decode b_T_greatest 29 = .ok (.iload_n 2, 1) := by decide +kernel
theorem d_T_greatest_30 : decode b_T_greatest 30 = .ok (.ireturn, 1) := by decide +kernel
theorem d_T_tear_0 : decode b_T_tear 0 = .ok (.aload_n 0, 1) := by decide +kernel
theorem d_T_tear_1 : decode b_T_tear 1 = .ok (.aload_n 0, 1) := by decide +kernel
theorem d_T_tear_2 : decode b_T_tear 2 = .ok (.iload_n 1, 1) := by decide +kernel
theorem d_T_tear_3 : decode b_T_tear 3 = .ok (.invokevirtual 66, 3) := by decide +kernel
theorem d_T_tear_6 : decode b_T_tear 6 = .ok (.ifCond .eq 7, 3) := by decide +kernel
theorem d_T_tear_9 : decode b_T_tear 9 = .ok (.iconst 1, 1) := by decide +kernel
theorem d_T_tear_10 : decode b_T_tear 10 = .ok (.goto 18, 3) := by decide +kernel
theorem d_T_tear_13 : decode b_T_tear 13 = .ok (.iload_n 2, 1) := by decide +kernel
theorem d_T_tear_14 : decode b_T_tear 14 = .ok (.ifCond .lt 9, 3) := by decide +kernel
theorem d_T_tear_17 : decode b_T_tear 17 = .ok (.iload_n 2, 1) := by decide +kernel
theorem d_T_tear_18 : decode b_T_tear 18 = .ok (.bipush 50, 2) := by decide +kernel
theorem d_T_tear_20 : decode b_T_tear 20 = .ok (.if_icmp .le 7, 3) := by decide +kernel
theorem d_T_tear_23 : decode b_T_tear 23 = .ok (.iconst 2, 1) := by decide +kernel
theorem d_T_tear_24 : decode b_T_tear 24 = .ok (.goto 4, 3) := by decide +kernel
theorem d_T_tear_27 : decode b_T_tear 27 = .ok (.iconst 0, 1) := by decide +kernel
theorem d_T_tear_28 : decode b_T_tear 28 = .ok (.putfield 59, 3) := by decide +kernel
theorem d_T_tear_31 : decode b_T_tear 31 = .ok (.aload_n 0, 1) := by decide +kernel
theorem d_T_tear_32 : decode b_T_tear 32 = .ok (.getfield 59, 3) := by decide +kernel
theorem d_T_tear_35 : decode b_T_tear 35 = .ok (.ifCond .ne 10, 3) := by decide +kernel
theorem d_T_tear_38 : decode b_T_tear 38 = .ok (.aload_n 0, 1) := by decide +kernel
theorem d_T_tear_39 : decode b_T_tear 39 = .ok (.getfield 16, 3) := by decide +kernel
theorem d_T_tear_42 : decode b_T_tear 42 = .ok (.iload_n 1, 1) := by decide +kernel
theorem d_T_tear_43 : decode b_T_tear 43 = .ok (.iload_n 2, 1) := by decide +kernel
theorem d_T_tear_44 : decode b_T_tear 44 = .ok (.iastore, 1) := by decide +kernel
theorem d_T_tear_45 : decode b_T_tear 45 = .ok (.return_, 1) := by decide +kernel
theorem d_T_written_0 : decode b_T_written 0 = .ok (.aload_n 0, 1) := by decide +kernel
theorem d_T_written_1 : decode b_T_written 1 = .ok (.aload_n 0, 1) := by decide +kernel
theorem d_T_written_2 : decode b_T_written 2 = .ok (.iload_n 1, 1) := by decide +kernel
theorem d_T_written_3 : decode b_T_written 3 = .ok (.invokevirtual 66, 3) := by decide +kernel
theorem d_T_written_6 : decode b_T_written 6 = .ok (.ifCond .eq 7, 3) := by decide +kernel
theorem d_T_written_9 : decode b_T_written 9 = .ok (.iconst 1, 1) := by decide +kernel
theorem d_T_written_10 : decode b_T_written 10 = .ok (.goto 4, 3) := by decide +kernel
theorem d_T_written_13 : decode b_T_written 13 = .ok (.iconst 0, 1) := by decide +kernel
theorem d_T_written_14 : decode b_T_written 14 = .ok (.putfield 59, 3) := by decide +kernel
theorem d_T_written_17 : decode b_T_written 17 = .ok (.aload_n 0, 1) := by decide +kernel
theorem d_T_written_18 : decode b_T_written 18 = .ok (.getfield 59, 3) := by decide +kernel
theorem d_T_written_21 : decode b_T_written 21 = .ok (.ifCond .le 7, 3) := by decide +kernel
theorem d_T_written_24 : decode b_T_written 24 = .ok (.iconst 0, 1) := by decide +kernel
theorem d_T_written_25 : decode b_T_written 25 = .ok (.goto 9, 3) := by decide +kernel
theorem d_T_written_28 : decode b_T_written 28 = .ok (.aload_n 0, 1) := by decide +kernel
theorem d_T_written_29 : decode b_T_written 29 = .ok (.getfield 19, 3) := by decide +kernel
theorem d_T_written_32 : decode b_T_written 32 = .ok (.iload_n 1, 1) := by decide +kernel
theorem d_T_written_33 : decode b_T_written 33 = .ok (.iaload, 1) := by decide +kernel
theorem d_T_written_34 : decode b_T_written 34 = .ok (.ireturn, 1) := by decide +kernel
theorem d_T_word_0 : decode b_T_word 0 = .ok (.aload_n 0, 1) := by decide +kernel
theorem d_T_word_1 : decode b_T_word 1 = .ok (.aload_n 0, 1) := by decide +kernel
theorem d_T_word_2 : decode b_T_word 2 = .ok (.iload_n 1, 1) := by decide +kernel
theorem d_T_word_3 : decode b_T_word 3 = .ok (.invokevirtual 66, 3) := by decide +kernel
theorem d_T_word_6 : decode b_T_word 6 = .ok (.ifCond .ne 22, 3) := by decide +kernel
theorem d_T_word_9 : decode b_T_word 9 = .ok (.iload_n 2, 1) := by decide +kernel
theorem d_T_word_10 : decode b_T_word 10 = .ok (.ifCond .lt 18, 3) := by decide +kernel
theorem d_T_word_13 : decode b_T_word 13 = .ok (.iload_n 2, 1) := by decide +kernel
theorem d_T_word_14 : decode b_T_word 14 = .ok (.iconst 1, 1) := by decide +kernel
theorem d_T_word_15 : decode b_T_word 15 = .ok (.if_icmp .gt 13, 3) := by decide +kernel
theorem d_T_word_18 : decode b_T_word 18 = .ok (.iload_n 3, 1) := by decide +kernel
theorem d_T_word_19 : decode b_T_word 19 = .ok (.ifCond .lt 9, 3) := by decide +kernel
theorem d_T_word_22 : decode b_T_word 22 = .ok (.iload_n 3, 1) := by decide +kernel
theorem d_T_word_23 : decode b_T_word 23 = .ok (.bipush 43, 2) := by decide +kernel
theorem d_T_word_25 : decode b_T_word 25 = .ok (.if_icmp .le 7, 3) := by decide +kernel
theorem d_T_word_28 : decode b_T_word 28 = .ok (.iconst 1, 1) := by decide +kernel
theorem d_T_word_29 : decode b_T_word 29 = .ok (.goto 4, 3) := by decide +kernel
theorem d_T_word_32 : decode b_T_word 32 = .ok (.iconst 0, 1) := by decide +kernel
theorem d_T_word_33 : decode b_T_word 33 = .ok (.putfield 59, 3) := by decide +kernel
theorem d_T_word_36 : decode b_T_word 36 = .ok (.aload_n 0, 1) := by decide +kernel
theorem d_T_word_37 : decode b_T_word 37 = .ok (.getfield 59, 3) := by decide +kernel
theorem d_T_word_40 : decode b_T_word 40 = .ok (.ifCond .le 7, 3) := by decide +kernel
theorem d_T_word_43 : decode b_T_word 43 = .ok (.iconst 0, 1) := by decide +kernel
theorem d_T_word_44 : decode b_T_word 44 = .ok (.goto 10, 3) := by decide +kernel
theorem d_T_word_47 : decode b_T_word 47 = .ok (.aload_n 0, 1) := by decide +kernel
theorem d_T_word_48 : decode b_T_word 48 = .ok (.iload_n 1, 1) := by decide +kernel
theorem d_T_word_49 : decode b_T_word 49 = .ok (.iload_n 2, 1) := by decide +kernel
theorem d_T_word_50 : decode b_T_word 50 = .ok (.iload_n 3, 1) := by decide +kernel
theorem d_T_word_51 : decode b_T_word 51 = .ok (.invokevirtual 73, 3) := by decide +kernel
theorem d_T_word_54 : decode b_T_word 54 = .ok (.ireturn, 1) := by decide +kernel
theorem d_T_carries_0 : decode b_T_carries 0 = .ok (.aload_n 0, 1) := by decide +kernel
theorem d_T_carries_1 : decode b_T_carries 1 = .ok (.aload_n 0, 1) := by decide +kernel
theorem d_T_carries_2 : decode b_T_carries 2 = .ok (.iload_n 1, 1) := by decide +kernel
theorem d_T_carries_3 : decode b_T_carries 3 = .ok (.invokevirtual 66, 3) := by decide +kernel
theorem d_T_carries_6 : decode b_T_carries 6 = .ok (.ifCond .eq 7, 3) := by decide +kernel
theorem d_T_carries_9 : decode b_T_carries 9 = .ok (.iconst 1, 1) := by decide +kernel
theorem d_T_carries_10 : decode b_T_carries 10 = .ok (.goto 17, 3) := by decide +kernel
theorem d_T_carries_13 : decode b_T_carries 13 = .ok (.iload_n 2, 1) := by decide +kernel
theorem d_T_carries_14 : decode b_T_carries 14 = .ok (.ifCond .lt 8, 3) := by decide +kernel
theorem d_T_carries_17 : decode b_T_carries 17 = .ok (.iload_n 2, 1) := by decide +kernel
theorem d_T_carries_18 : decode b_T_carries 18 = .ok (.iconst 3, 1) := by decide +kernel
theorem d_T_carries_19 : decode b_T_carries 19 = .ok (.if_icmp .le 7, 3) := by decide +kernel
theorem d_T_carries_22 : decode b_T_carries 22 = .ok (.iconst 2, 1) := by decide +kernel
theorem d_T_carries_23 : decode b_T_carries 23 = .ok (.goto 4, 3) := by decide +kernel
theorem d_T_carries_26 : decode b_T_carries 26 = .ok (.iconst 0, 1) := by decide +kernel
theorem d_T_carries_27 : decode b_T_carries 27 = .ok (.putfield 59, 3) := by decide +kernel
theorem d_T_carries_30 : decode b_T_carries 30 = .ok (.aload_n 0, 1) := by decide +kernel
theorem d_T_carries_31 : decode b_T_carries 31 = .ok (.getfield 59, 3) := by decide +kernel
theorem d_T_carries_34 : decode b_T_carries 34 = .ok (.ifCond .le 5, 3) := by decide +kernel
theorem d_T_carries_37 : decode b_T_carries 37 = .ok (.iconst 0, 1) := by decide +kernel
theorem d_T_carries_38 : decode b_T_carries 38 = .ok (.ireturn, 1) := by decide +kernel
theorem d_T_carries_39 : decode b_T_carries 39 = .ok (.iload_n 2, 1) := by decide +kernel
theorem d_T_carries_40 : decode b_T_carries 40 = .ok (.ifCond .ne 11, 3) := by decide +kernel
theorem d_T_carries_43 : decode b_T_carries 43 = .ok (.aload_n 0, 1) := by decide +kernel
theorem d_T_carries_44 : decode b_T_carries 44 = .ok (.iload_n 1, 1) := by decide +kernel
theorem d_T_carries_45 : decode b_T_carries 45 = .ok (.invokevirtual 85, 3) := by decide +kernel
theorem d_T_carries_48 : decode b_T_carries 48 = .ok (.goto 34, 3) := by decide +kernel
theorem d_T_carries_51 : decode b_T_carries 51 = .ok (.iload_n 2, 1) := by decide +kernel
theorem d_T_carries_52 : decode b_T_carries 52 = .ok (.iconst 1, 1) := by decide +kernel
theorem d_T_carries_53 : decode b_T_carries 53 = .ok (.if_icmp .ne 11, 3) := by decide +kernel
theorem d_T_carries_56 : decode b_T_carries 56 = .ok (.aload_n 0, 1) := by decide +kernel
theorem d_T_carries_57 : decode b_T_carries 57 = .ok (.iload_n 1, 1) := by decide +kernel
theorem d_T_carries_58 : decode b_T_carries 58 = .ok (.invokevirtual 89, 3) := by decide +kernel
theorem d_T_carries_61 : decode b_T_carries 61 = .ok (.goto 21, 3) := by decide +kernel
theorem d_T_carries_64 : decode b_T_carries 64 = .ok (.iload_n 2, 1) := by decide +kernel
theorem d_T_carries_65 : decode b_T_carries 65 = .ok (.iconst 2, 1) := by decide +kernel
theorem d_T_carries_66 : decode b_T_carries 66 = .ok (.if_icmp .ne 11, 3) := by decide +kernel
theorem d_T_carries_69 : decode b_T_carries 69 = .ok (.aload_n 0, 1) := by decide +kernel
theorem d_T_carries_70 : decode b_T_carries 70 = .ok (.iload_n 1, 1) := by decide +kernel
theorem d_T_carries_71 : decode b_T_carries 71 = .ok (.invokevirtual 92, 3) := by decide +kernel
theorem d_T_carries_74 : decode b_T_carries 74 = .ok (.goto 8, 3) := by decide +kernel
theorem d_T_carries_77 : decode b_T_carries 77 = .ok (.aload_n 0, 1) := by decide +kernel
theorem d_T_carries_78 : decode b_T_carries 78 = .ok (.iload_n 1, 1) := by decide +kernel
theorem d_T_carries_79 : decode b_T_carries 79 = .ok (.invokevirtual 95, 3) := by decide +kernel
theorem d_T_carries_82 : decode b_T_carries 82 = .ok (.ireturn, 1) := by decide +kernel
theorem d_T_memory_0 : decode b_T_memory 0 = .ok (.aload_n 0, 1) := by decide +kernel
theorem d_T_memory_1 : decode b_T_memory 1 = .ok (.aload_n 0, 1) := by decide +kernel
theorem d_T_memory_2 : decode b_T_memory 2 = .ok (.iload_n 1, 1) := by decide +kernel
theorem d_T_memory_3 : decode b_T_memory 3 = .ok (.invokevirtual 66, 3) := by decide +kernel
theorem d_T_memory_6 : decode b_T_memory 6 = .ok (.ifCond .eq 7, 3) := by decide +kernel
theorem d_T_memory_9 : decode b_T_memory 9 = .ok (.iconst 1, 1) := by decide +kernel
theorem d_T_memory_10 : decode b_T_memory 10 = .ok (.goto 21, 3) := by decide +kernel
theorem d_T_memory_13 : decode b_T_memory 13 = .ok (.iload_n 2, 1) := by decide +kernel
theorem d_T_memory_14 : decode b_T_memory 14 = .ok (.ifCond .lt 12, 3) := by decide +kernel
theorem d_T_memory_17 : decode b_T_memory 17 = .ok (.iload_n 2, 1) := by decide +kernel
theorem d_T_memory_18 : decode b_T_memory 18 = .ok (.aload_n 0, 1) := by decide +kernel
theorem d_T_memory_19 : decode b_T_memory 19 = .ok (.iload_n 1, 1) := by decide +kernel
theorem d_T_memory_20 : decode b_T_memory 20 = .ok (.invokevirtual 89, 3) := by decide +kernel
theorem d_T_memory_23 : decode b_T_memory 23 = .ok (.if_icmp .lt 7, 3) := by decide +kernel
theorem d_T_memory_26 : decode b_T_memory 26 = .ok (.iconst 1, 1) := by decide +kernel
theorem d_T_memory_27 : decode b_T_memory 27 = .ok (.goto 4, 3) := by decide +kernel
theorem d_T_memory_30 : decode b_T_memory 30 = .ok (.iconst 0, 1) := by decide +kernel
theorem d_T_memory_31 : decode b_T_memory 31 = .ok (.putfield 59, 3) := by decide +kernel
theorem d_T_memory_34 : decode b_T_memory 34 = .ok (.aload_n 0, 1) := by decide +kernel
theorem d_T_memory_35 : decode b_T_memory 35 = .ok (.getfield 59, 3) := by decide +kernel
theorem d_T_memory_38 : decode b_T_memory 38 = .ok (.ifCond .le 7, 3) := by decide +kernel
theorem d_T_memory_41 : decode b_T_memory 41 = .ok (.iconst 0, 1) := by decide +kernel
theorem d_T_memory_42 : decode b_T_memory 42 = .ok (.goto 16, 3) := by decide +kernel
theorem d_T_memory_45 : decode b_T_memory 45 = .ok (.aload_n 0, 1) := by decide +kernel
theorem d_T_memory_46 : decode b_T_memory 46 = .ok (.iload_n 1, 1) := by decide +kernel
theorem d_T_memory_47 : decode b_T_memory 47 = .ok (.aload_n 0, 1) := by decide +kernel
theorem d_T_memory_48 : decode b_T_memory 48 = .ok (.iload_n 1, 1) := by decide +kernel
theorem d_T_memory_49 : decode b_T_memory 49 = .ok (.invokevirtual 85, 3) := by decide +kernel
theorem d_T_memory_52 : decode b_T_memory 52 = .ok (.iconst 3, 1) := by decide +kernel
theorem d_T_memory_53 : decode b_T_memory 53 = .ok (.iload_n 2, 1) := by decide +kernel
theorem d_T_memory_54 : decode b_T_memory 54 = .ok (.iadd, 1) := by decide +kernel
theorem d_T_memory_55 : decode b_T_memory 55 = .ok (.invokevirtual 73, 3) := by decide +kernel
theorem d_T_memory_58 : decode b_T_memory 58 = .ok (.ireturn, 1) := by decide +kernel
theorem d_T_about_0 : decode b_T_about 0 = .ok (.aload_n 0, 1) := by decide +kernel
theorem d_T_about_1 : decode b_T_about 1 = .ok (.iload_n 1, 1) := by decide +kernel
theorem d_T_about_2 : decode b_T_about 2 = .ok (.invokestatic 109, 3) := by decide +kernel
theorem d_T_about_5 : decode b_T_about 5 = .ok (.ifCond .eq 7, 3) := by decide +kernel
theorem d_T_about_8 : decode b_T_about 8 = .ok (.iconst 1, 1) := by decide +kernel
theorem d_T_about_9 : decode b_T_about 9 = .ok (.goto 17, 3) := by decide +kernel
theorem d_T_about_12 : decode b_T_about 12 = .ok (.iload_n 2, 1) := by decide +kernel
theorem d_T_about_13 : decode b_T_about 13 = .ok (.ifCond .lt 8, 3) := by decide +kernel
theorem d_T_about_16 : decode b_T_about 16 = .ok (.iload_n 2, 1) := by decide +kernel
theorem d_T_about_17 : decode b_T_about 17 = .ok (.iconst 4, 1) := by decide +kernel
theorem d_T_about_18 : decode b_T_about 18 = .ok (.if_icmp .le 7, 3) := by decide +kernel
theorem d_T_about_21 : decode b_T_about 21 = .ok (.iconst 2, 1) := by decide +kernel
theorem d_T_about_22 : decode b_T_about 22 = .ok (.goto 4, 3) := by decide +kernel
theorem d_T_about_25 : decode b_T_about 25 = .ok (.iconst 0, 1) := by decide +kernel
theorem d_T_about_26 : decode b_T_about 26 = .ok (.putfield 59, 3) := by decide +kernel
theorem d_T_about_29 : decode b_T_about 29 = .ok (.aload_n 0, 1) := by decide +kernel
theorem d_T_about_30 : decode b_T_about 30 = .ok (.getfield 59, 3) := by decide +kernel
theorem d_T_about_33 : decode b_T_about 33 = .ok (.ifCond .le 5, 3) := by decide +kernel
theorem d_T_about_36 : decode b_T_about 36 = .ok (.iconst 0, 1) := by decide +kernel
theorem d_T_about_37 : decode b_T_about 37 = .ok (.ireturn, 1) := by decide +kernel
theorem d_T_about_38 : decode b_T_about 38 = .ok (.aload_n 0, 1) := by decide +kernel
theorem d_T_about_39 : decode b_T_about 39 = .ok (.getfield 44, 3) := by decide +kernel
theorem d_T_about_42 : decode b_T_about 42 = .ok (.iload_n 1, 1) := by decide +kernel
theorem d_T_about_43 : decode b_T_about 43 = .ok (.iaload, 1) := by decide +kernel
theorem d_T_about_44 : decode b_T_about 44 = .ok (.aload_n 0, 1) := by decide +kernel
theorem d_T_about_45 : decode b_T_about 45 = .ok (.iload_n 1, 1) := by decide +kernel
theorem d_T_about_46 : decode b_T_about 46 = .ok (.invokevirtual 121, 3) := by decide +kernel
theorem d_T_about_49 : decode b_T_about 49 = .ok (.isub, 1) := by decide +kernel
theorem d_T_about_50 : decode b_T_about 50 = .ok (.istore_n 3, 1) := by decide +kernel
theorem d_T_about_51 : decode b_T_about 51 = .ok (.aload_n 0, 1) := by decide +kernel
theorem d_T_about_52 : decode b_T_about 52 = .ok (.iload_n 1, 1) := by decide +kernel
theorem d_T_about_53 : decode b_T_about 53 = .ok (.invokevirtual 115, 3) := by decide +kernel
theorem d_T_about_56 : decode b_T_about 56 = .ok (.istore 4, 2) := by decide +kernel
theorem d_T_about_58 : decode b_T_about 58 = .ok (.iload_n 2, 1) := by decide +kernel
theorem d_T_about_59 : decode b_T_about 59 = .ok (.ifCond .ne 11, 3) := by decide +kernel
theorem d_T_about_62 : decode b_T_about 62 = .ok (.aload_n 0, 1) := by decide +kernel
theorem d_T_about_63 : decode b_T_about 63 = .ok (.iload_n 1, 1) := by decide +kernel
theorem d_T_about_64 : decode b_T_about 64 = .ok (.invokevirtual 121, 3) := by decide +kernel
theorem d_T_about_67 : decode b_T_about 67 = .ok (.goto 68, 3) := by decide +kernel
theorem d_T_about_70 : decode b_T_about 70 = .ok (.iload_n 2, 1) := by decide +kernel
theorem d_T_about_71 : decode b_T_about 71 = .ok (.iconst 1, 1) := by decide +kernel
theorem d_T_about_72 : decode b_T_about 72 = .ok (.if_icmp .ne 28, 3) := by decide +kernel
theorem d_T_about_75 : decode b_T_about 75 = .ok (.iload 4, 2) := by decide +kernel
theorem d_T_about_77 : decode b_T_about 77 = .ok (.aload_n 0, 1) := by decide +kernel
theorem d_T_about_78 : decode b_T_about 78 = .ok (.getfield 44, 3) := by decide +kernel
theorem d_T_about_81 : decode b_T_about 81 = .ok (.iload_n 1, 1) := by decide +kernel
theorem d_T_about_82 : decode b_T_about 82 = .ok (.iaload, 1) := by decide +kernel
theorem d_T_about_83 : decode b_T_about 83 = .ok (.if_icmp .le 8, 3) := by decide +kernel
theorem d_T_about_86 : decode b_T_about 86 = .ok (.iload 4, 2) := by decide +kernel
theorem d_T_about_88 : decode b_T_about 88 = .ok (.goto 47, 3) := by decide +kernel
theorem d_T_about_91 : decode b_T_about 91 = .ok (.aload_n 0, 1) := by decide +kernel
theorem d_T_about_92 : decode b_T_about 92 = .ok (.getfield 44, 3) := by decide +kernel
theorem d_T_about_95 : decode b_T_about 95 = .ok (.iload_n 1, 1) := by decide +kernel
theorem d_T_about_96 : decode b_T_about 96 = .ok (.iaload, 1) := by decide +kernel
theorem d_T_about_97 : decode b_T_about 97 = .ok (.goto 38, 3) := by decide +kernel
theorem d_T_about_100 : decode b_T_about 100 = .ok (.iload_n 2, 1) := by decide +kernel
theorem d_T_about_101 : decode b_T_about 101 = .ok (.iconst 2, 1) := by decide +kernel
theorem d_T_about_102 : decode b_T_about 102 = .ok (.if_icmp .ne 15, 3) := by decide +kernel
theorem d_T_about_105 : decode b_T_about 105 = .ok (.iload_n 3, 1) := by decide +kernel
theorem d_T_about_106 : decode b_T_about 106 = .ok (.ifCond .le 7, 3) := by decide +kernel
theorem d_T_about_109 : decode b_T_about 109 = .ok (.iload_n 3, 1) := by decide +kernel
theorem d_T_about_110 : decode b_T_about 110 = .ok (.goto 25, 3) := by decide +kernel
theorem d_T_about_113 : decode b_T_about 113 = .ok (.iconst 0, 1) := by decide +kernel
theorem d_T_about_114 : decode b_T_about 114 = .ok (.goto 21, 3) := by decide +kernel
theorem d_T_about_117 : decode b_T_about 117 = .ok (.iload_n 2, 1) := by decide +kernel
theorem d_T_about_118 : decode b_T_about 118 = .ok (.iconst 3, 1) := by decide +kernel
theorem d_T_about_119 : decode b_T_about 119 = .ok (.if_icmp .ne 11, 3) := by decide +kernel
theorem d_T_about_122 : decode b_T_about 122 = .ok (.aload_n 0, 1) := by decide +kernel
theorem d_T_about_123 : decode b_T_about 123 = .ok (.iload_n 1, 1) := by decide +kernel
theorem d_T_about_124 : decode b_T_about 124 = .ok (.invokevirtual 124, 3) := by decide +kernel
theorem d_T_about_127 : decode b_T_about 127 = .ok (.goto 8, 3) := by decide +kernel
theorem d_T_about_130 : decode b_T_about 130 = .ok (.aload_n 0, 1) := by decide +kernel
theorem d_T_about_131 : decode b_T_about 131 = .ok (.iload_n 1, 1) := by decide +kernel
theorem d_T_about_132 : decode b_T_about 132 = .ok (.invokevirtual 127, 3) := by decide +kernel
theorem d_T_about_135 : decode b_T_about 135 = .ok (.ireturn, 1) := by decide +kernel
theorem d_T_complete_0 : decode b_T_complete 0 = .ok (.iconst 0, 1) := by decide +kernel
theorem d_T_complete_1 : decode b_T_complete 1 = .ok (.istore_n 2, 1) := by decide +kernel
theorem d_T_complete_2 : decode b_T_complete 2 = .ok (.iload_n 2, 1) := by decide +kernel
theorem d_T_complete_3 : decode b_T_complete 3 = .ok (.sipush 3000, 3) := by decide +kernel
theorem d_T_complete_6 : decode b_T_complete 6 = .ok (.if_icmp .ge 26, 3) := by decide +kernel
theorem d_T_complete_9 : decode b_T_complete 9 = .ok (.aload_n 0, 1) := by decide +kernel
theorem d_T_complete_10 : decode b_T_complete 10 = .ok (.getfield 34, 3) := by decide +kernel
theorem d_T_complete_13 : decode b_T_complete 13 = .ok (.sipush 3001, 3) := by decide +kernel
theorem d_T_complete_16 : decode b_T_complete 16 = .ok (.iload_n 1, 1) := by decide +kernel
theorem d_T_complete_17 : decode b_T_complete 17 = .ok (.imul, 1) := by decide +kernel
theorem d_T_complete_18 : decode b_T_complete 18 = .ok (.iload_n 2, 1) := by decide +kernel
theorem d_T_complete_19 : decode b_T_complete 19 = .ok (.iadd, 1) := by decide +kernel
theorem d_T_complete_20 : decode b_T_complete 20 = .ok (.iconst 1, 1) := by decide +kernel
theorem d_T_complete_21 : decode b_T_complete 21 = .ok (.iadd, 1) := by decide +kernel
theorem d_T_complete_22 : decode b_T_complete 22 = .ok (.baload, 1) := by decide +kernel
theorem d_T_complete_23 : decode b_T_complete 23 = .ok (.ifCond .eq 9, 3) := by decide +kernel
theorem d_T_complete_26 : decode b_T_complete 26 = .ok (.iinc 2 1, 3) := by decide +kernel
theorem d_T_complete_29 : decode b_T_complete 29 = .ok (.goto (-27), 3) := by decide +kernel
theorem d_T_complete_32 : decode b_T_complete 32 = .ok (.iload_n 2, 1) := by decide +kernel
theorem d_T_complete_33 : decode b_T_complete 33 = .ok (.ireturn, 1) := by decide +kernel
theorem d_T_marks_0 : decode b_T_marks 0 = .ok (.iconst 0, 1) := by decide +kernel
theorem d_T_marks_1 : decode b_T_marks 1 = .ok (.istore_n 2, 1) := by decide +kernel
theorem d_T_marks_2 : decode b_T_marks 2 = .ok (.iconst 1, 1) := by decide +kernel
theorem d_T_marks_3 : decode b_T_marks 3 = .ok (.istore_n 3, 1) := by decide +kernel
theorem d_T_marks_4 : decode b_T_marks 4 = .ok (.iload_n 3, 1) := by decide +kernel
theorem d_T_marks_5 : decode b_T_marks 5 = .ok (.sipush 3000, 3) := by decide +kernel
theorem d_T_marks_8 : decode b_T_marks 8 = .ok (.if_icmp .gt 32, 3) := by decide +kernel
theorem d_T_marks_11 : decode b_T_marks 11 = .ok (.aload_n 0, 1) := by decide +kernel
theorem d_T_marks_12 : decode b_T_marks 12 = .ok (.getfield 34, 3) := by decide +kernel
theorem d_T_marks_15 : decode b_T_marks 15 = .ok (.sipush 3001, 3) := by decide +kernel
theorem d_T_marks_18 : decode b_T_marks 18 = .ok (.iload_n 1, 1) := by decide +kernel
theorem d_T_marks_19 : decode b_T_marks 19 = .ok (.imul, 1) := by decide +kernel
theorem d_T_marks_20 : decode b_T_marks 20 = .ok (.iload_n 3, 1) := by decide +kernel
theorem d_T_marks_21 : decode b_T_marks 21 = .ok (.iadd, 1) := by decide +kernel
theorem d_T_marks_22 : decode b_T_marks 22 = .ok (.baload, 1) := by decide +kernel
theorem d_T_marks_23 : decode b_T_marks 23 = .ok (.ifCond .eq 9, 3) := by decide +kernel
theorem d_T_marks_26 : decode b_T_marks 26 = .ok (.iload_n 2, 1) := by decide +kernel
theorem d_T_marks_27 : decode b_T_marks 27 = .ok (.iconst 1, 1) := by decide +kernel
theorem d_T_marks_28 : decode b_T_marks 28 = .ok (.iadd, 1) := by decide +kernel
theorem d_T_marks_29 : decode b_T_marks 29 = .ok (.goto 4, 3) := by decide +kernel
theorem d_T_marks_32 : decode b_T_marks 32 = .ok (.iload_n 2, 1) := by decide +kernel
theorem d_T_marks_33 : decode b_T_marks 33 = .ok (.istore_n 2, 1) := by decide +kernel
theorem d_T_marks_34 : decode b_T_marks 34 = .ok (.iinc 3 1, 3) := by decide +kernel
theorem d_T_marks_37 : decode b_T_marks 37 = .ok (.goto (-33), 3) := by decide +kernel
theorem d_T_marks_40 : decode b_T_marks 40 = .ok (.iload_n 2, 1) := by decide +kernel
theorem d_T_marks_41 : decode b_T_marks 41 = .ok (.ireturn, 1) := by decide +kernel
theorem d_T_runs_0 : decode b_T_runs 0 = .ok (.iconst 0, 1) := by decide +kernel
theorem d_T_runs_1 : decode b_T_runs 1 = .ok (.istore_n 2, 1) := by decide +kernel
theorem d_T_runs_2 : decode b_T_runs 2 = .ok (.iconst 1, 1) := by decide +kernel
theorem d_T_runs_3 : decode b_T_runs 3 = .ok (.istore_n 3, 1) := by decide +kernel
theorem d_T_runs_4 : decode b_T_runs 4 = .ok (.iload_n 3, 1) := by decide +kernel
theorem d_T_runs_5 : decode b_T_runs 5 = .ok (.sipush 3000, 3) := by decide +kernel
theorem d_T_runs_8 : decode b_T_runs 8 = .ok (.if_icmp .gt 49, 3) := by decide +kernel
theorem d_T_runs_11 : decode b_T_runs 11 = .ok (.aload_n 0, 1) := by decide +kernel
theorem d_T_runs_12 : decode b_T_runs 12 = .ok (.getfield 34, 3) := by decide +kernel
theorem d_T_runs_15 : decode b_T_runs 15 = .ok (.sipush 3001, 3) := by decide +kernel
theorem d_T_runs_18 : decode b_T_runs 18 = .ok (.iload_n 1, 1) := by decide +kernel
theorem d_T_runs_19 : decode b_T_runs 19 = .ok (.imul, 1) := by decide +kernel
theorem d_T_runs_20 : decode b_T_runs 20 = .ok (.iload_n 3, 1) := by decide +kernel
theorem d_T_runs_21 : decode b_T_runs 21 = .ok (.iadd, 1) := by decide +kernel
theorem d_T_runs_22 : decode b_T_runs 22 = .ok (.baload, 1) := by decide +kernel
theorem d_T_runs_23 : decode b_T_runs 23 = .ok (.ifCond .eq 26, 3) := by decide +kernel
theorem d_T_runs_26 : decode b_T_runs 26 = .ok (.aload_n 0, 1) := by decide +kernel
theorem d_T_runs_27 : decode b_T_runs 27 = .ok (.getfield 34, 3) := by decide +kernel
theorem d_T_runs_30 : decode b_T_runs 30 = .ok (.sipush 3001, 3) := by decide +kernel
theorem d_T_runs_33 : decode b_T_runs 33 = .ok (.iload_n 1, 1) := by decide +kernel
theorem d_T_runs_34 : decode b_T_runs 34 = .ok (.imul, 1) := by decide +kernel
theorem d_T_runs_35 : decode b_T_runs 35 = .ok (.iload_n 3, 1) := by decide +kernel
theorem d_T_runs_36 : decode b_T_runs 36 = .ok (.iadd, 1) := by decide +kernel
theorem d_T_runs_37 : decode b_T_runs 37 = .ok (.iconst 1, 1) := by decide +kernel
theorem d_T_runs_38 : decode b_T_runs 38 = .ok (.isub, 1) := by decide +kernel
theorem d_T_runs_39 : decode b_T_runs 39 = .ok (.baload, 1) := by decide +kernel
theorem d_T_runs_40 : decode b_T_runs 40 = .ok (.ifCond .ne 9, 3) := by decide +kernel
theorem d_T_runs_43 : decode b_T_runs 43 = .ok (.iload_n 2, 1) := by decide +kernel
theorem d_T_runs_44 : decode b_T_runs 44 = .ok (.iconst 1, 1) := by decide +kernel
theorem d_T_runs_45 : decode b_T_runs 45 = .ok (.iadd, 1) := by decide +kernel
theorem d_T_runs_46 : decode b_T_runs 46 = .ok (.goto 4, 3) := by decide +kernel
theorem d_T_runs_49 : decode b_T_runs 49 = .ok (.iload_n 2, 1) := by decide +kernel
theorem d_T_runs_50 : decode b_T_runs 50 = .ok (.istore_n 2, 1) := by decide +kernel
theorem d_T_runs_51 : decode b_T_runs 51 = .ok (.iinc 3 1, 3) := by decide +kernel
theorem d_T_runs_54 : decode b_T_runs 54 = .ok (.goto (-50), 3) := by decide +kernel
theorem d_T_runs_57 : decode b_T_runs 57 = .ok (.iload_n 2, 1) := by decide +kernel
theorem d_T_runs_58 : decode b_T_runs 58 = .ok (.ireturn, 1) := by decide +kernel
theorem d_T_run_0 : decode b_T_run 0 = .ok (.aload_n 0, 1) := by decide +kernel
theorem d_T_run_1 : decode b_T_run 1 = .ok (.iload_n 1, 1) := by decide +kernel
theorem d_T_run_2 : decode b_T_run 2 = .ok (.invokestatic 109, 3) := by decide +kernel
theorem d_T_run_5 : decode b_T_run 5 = .ok (.ifCond .eq 7, 3) := by decide +kernel
theorem d_T_run_8 : decode b_T_run 8 = .ok (.iconst 1, 1) := by decide +kernel
theorem d_T_run_9 : decode b_T_run 9 = .ok (.goto 21, 3) := by decide +kernel
theorem d_T_run_12 : decode b_T_run 12 = .ok (.iload_n 2, 1) := by decide +kernel
theorem d_T_run_13 : decode b_T_run 13 = .ok (.ifCond .lt 12, 3) := by decide +kernel
theorem d_T_run_16 : decode b_T_run 16 = .ok (.iload_n 2, 1) := by decide +kernel
theorem d_T_run_17 : decode b_T_run 17 = .ok (.aload_n 0, 1) := by decide +kernel
theorem d_T_run_18 : decode b_T_run 18 = .ok (.iload_n 1, 1) := by decide +kernel
theorem d_T_run_19 : decode b_T_run 19 = .ok (.invokevirtual 127, 3) := by decide +kernel
theorem d_T_run_22 : decode b_T_run 22 = .ok (.if_icmp .lt 7, 3) := by decide +kernel
theorem d_T_run_25 : decode b_T_run 25 = .ok (.iconst 1, 1) := by decide +kernel
theorem d_T_run_26 : decode b_T_run 26 = .ok (.goto 4, 3) := by decide +kernel
theorem d_T_run_29 : decode b_T_run 29 = .ok (.iconst 0, 1) := by decide +kernel
theorem d_T_run_30 : decode b_T_run 30 = .ok (.putfield 59, 3) := by decide +kernel
theorem d_T_run_33 : decode b_T_run 33 = .ok (.aload_n 0, 1) := by decide +kernel
theorem d_T_run_34 : decode b_T_run 34 = .ok (.getfield 59, 3) := by decide +kernel
theorem d_T_run_37 : decode b_T_run 37 = .ok (.ifCond .le 5, 3) := by decide +kernel
theorem d_T_run_40 : decode b_T_run 40 = .ok (.iconst 0, 1) := by decide +kernel
theorem d_T_run_41 : decode b_T_run 41 = .ok (.ireturn, 1) := by decide +kernel
theorem d_T_run_42 : decode b_T_run 42 = .ok (.iload_n 2, 1) := by decide +kernel
theorem d_T_run_43 : decode b_T_run 43 = .ok (.istore 4, 2) := by decide +kernel
theorem d_T_run_45 : decode b_T_run 45 = .ok (.iconst 0, 1) := by decide +kernel
theorem d_T_run_46 : decode b_T_run 46 = .ok (.istore 5, 2) := by decide +kernel
theorem d_T_run_48 : decode b_T_run 48 = .ok (.iload 4, 2) := by decide +kernel
theorem d_T_run_50 : decode b_T_run 50 = .ok (.ifCond .lt 54, 3) := by decide +kernel
theorem d_T_run_53 : decode b_T_run 53 = .ok (.iinc 5 1, 3) := by decide +kernel
theorem d_T_run_56 : decode b_T_run 56 = .ok (.aload_n 0, 1) := by decide +kernel
theorem d_T_run_57 : decode b_T_run 57 = .ok (.getfield 34, 3) := by decide +kernel
theorem d_T_run_60 : decode b_T_run 60 = .ok (.sipush 3001, 3) := by decide +kernel
theorem d_T_run_63 : decode b_T_run 63 = .ok (.iload_n 1, 1) := by decide +kernel
theorem d_T_run_64 : decode b_T_run 64 = .ok (.imul, 1) := by decide +kernel
theorem d_T_run_65 : decode b_T_run 65 = .ok (.iload 5, 2) := by decide +kernel
theorem d_T_run_67 : decode b_T_run 67 = .ok (.iadd, 1) := by decide +kernel
theorem d_T_run_68 : decode b_T_run 68 = .ok (.baload, 1) := by decide +kernel
theorem d_T_run_69 : decode b_T_run 69 = .ok (.ifCond .eq 28, 3) := by decide +kernel
theorem d_T_run_72 : decode b_T_run 72 = .ok (.aload_n 0, 1) := by decide +kernel
theorem d_T_run_73 : decode b_T_run 73 = .ok (.getfield 34, 3) := by decide +kernel
theorem d_T_run_76 : decode b_T_run 76 = .ok (.sipush 3001, 3) := by decide +kernel
theorem d_T_run_79 : decode b_T_run 79 = .ok (.iload_n 1, 1) := by decide +kernel
theorem d_T_run_80 : decode b_T_run 80 = .ok (.imul, 1) := by decide +kernel
theorem d_T_run_81 : decode b_T_run 81 = .ok (.iload 5, 2) := by decide +kernel
theorem d_T_run_83 : decode b_T_run 83 = .ok (.iadd, 1) := by decide +kernel
theorem d_T_run_84 : decode b_T_run 84 = .ok (.iconst 1, 1) := by decide +kernel
theorem d_T_run_85 : decode b_T_run 85 = .ok (.isub, 1) := by decide +kernel
theorem d_T_run_86 : decode b_T_run 86 = .ok (.baload, 1) := by decide +kernel
theorem d_T_run_87 : decode b_T_run 87 = .ok (.ifCond .ne 10, 3) := by decide +kernel
theorem d_T_run_90 : decode b_T_run 90 = .ok (.iload 4, 2) := by decide +kernel
theorem d_T_run_92 : decode b_T_run 92 = .ok (.iconst 1, 1) := by decide +kernel
theorem d_T_run_93 : decode b_T_run 93 = .ok (.isub, 1) := by decide +kernel
theorem d_T_run_94 : decode b_T_run 94 = .ok (.goto 5, 3) := by decide +kernel
theorem d_T_run_97 : decode b_T_run 97 = .ok (.iload 4, 2) := by decide +kernel
theorem d_T_run_99 : decode b_T_run 99 = .ok (.istore 4, 2) := by decide +kernel
theorem d_T_run_101 : decode b_T_run 101 = .ok (.goto (-53), 3) := by decide +kernel
theorem d_T_run_104 : decode b_T_run 104 = .ok (.iload_n 3, 1) := by decide +kernel
theorem d_T_run_105 : decode b_T_run 105 = .ok (.ifCond .ne 35, 3) := by decide +kernel
theorem d_T_run_108 : decode b_T_run 108 = .ok (.iload 5, 2) := by decide +kernel
theorem d_T_run_110 : decode b_T_run 110 = .ok (.sipush 3000, 3) := by decide +kernel
theorem d_T_run_113 : decode b_T_run 113 = .ok (.if_icmp .ge 27, 3) := by decide +kernel
theorem d_T_run_116 : decode b_T_run 116 = .ok (.aload_n 0, 1) := by decide +kernel
theorem d_T_run_117 : decode b_T_run 117 = .ok (.getfield 34, 3) := by decide +kernel
theorem d_T_run_120 : decode b_T_run 120 = .ok (.sipush 3001, 3) := by decide +kernel
theorem d_T_run_123 : decode b_T_run 123 = .ok (.iload_n 1, 1) := by decide +kernel
theorem d_T_run_124 : decode b_T_run 124 = .ok (.imul, 1) := by decide +kernel
theorem d_T_run_125 : decode b_T_run 125 = .ok (.iload 5, 2) := by decide +kernel
theorem d_T_run_127 : decode b_T_run 127 = .ok (.iadd, 1) := by decide +kernel
theorem d_T_run_128 : decode b_T_run 128 = .ok (.iconst 1, 1) := by decide +kernel
theorem d_T_run_129 : decode b_T_run 129 = .ok (.iadd, 1) := by decide +kernel
theorem d_T_run_130 : decode b_T_run 130 = .ok (.baload, 1) := by decide +kernel
theorem d_T_run_131 : decode b_T_run 131 = .ok (.ifCond .eq 9, 3) := by decide +kernel
theorem d_T_run_134 : decode b_T_run 134 = .ok (.iinc 5 1, 3) := by decide +kernel
theorem d_T_run_137 : decode b_T_run 137 = .ok (.goto (-33), 3) := by decide +kernel
theorem d_T_run_140 : decode b_T_run 140 = .ok (.iload 5, 2) := by decide +kernel
theorem d_T_run_142 : decode b_T_run 142 = .ok (.ireturn, 1) := by decide +kernel
theorem d_T_refuses_0 : decode b_T_refuses 0 = .ok (.aload_n 0, 1) := by decide +kernel
theorem d_T_refuses_1 : decode b_T_refuses 1 = .ok (.iload_n 1, 1) := by decide +kernel
theorem d_T_refuses_2 : decode b_T_refuses 2 = .ok (.invokestatic 109, 3) := by decide +kernel
theorem d_T_refuses_5 : decode b_T_refuses 5 = .ok (.ifCond .ne 11, 3) := by decide +kernel
theorem d_T_refuses_8 : decode b_T_refuses 8 = .ok (.aload_n 0, 1) := by decide +kernel
theorem d_T_refuses_9 : decode b_T_refuses 9 = .ok (.iload_n 2, 1) := by decide +kernel
theorem d_T_refuses_10 : decode b_T_refuses 10 = .ok (.invokevirtual 66, 3) := by decide +kernel
theorem d_T_refuses_13 : decode b_T_refuses 13 = .ok (.ifCond .eq 7, 3) := by decide +kernel
theorem d_T_refuses_16 : decode b_T_refuses 16 = .ok (.iconst 1, 1) := by decide +kernel
theorem d_T_refuses_17 : decode b_T_refuses 17 = .ok (.goto 4, 3) := by decide +kernel
theorem d_T_refuses_20 : decode b_T_refuses 20 = .ok (.iconst 0, 1) := by decide +kernel
theorem d_T_refuses_21 : decode b_T_refuses 21 = .ok (.putfield 59, 3) := by decide +kernel
theorem d_T_refuses_24 : decode b_T_refuses 24 = .ok (.aload_n 0, 1) := by decide +kernel
theorem d_T_refuses_25 : decode b_T_refuses 25 = .ok (.getfield 59, 3) := by decide +kernel
theorem d_T_refuses_28 : decode b_T_refuses 28 = .ok (.ifCond .ne 16, 3) := by decide +kernel
theorem d_T_refuses_31 : decode b_T_refuses 31 = .ok (.aload_n 0, 1) := by decide +kernel
theorem d_T_refuses_32 : decode b_T_refuses 32 = .ok (.iload_n 1, 1) := by decide +kernel
theorem d_T_refuses_33 : decode b_T_refuses 33 = .ok (.iload_n 2, 1) := by decide +kernel
theorem d_T_refuses_34 : decode b_T_refuses 34 = .ok (.invokevirtual 112, 3) := by decide +kernel
theorem d_T_refuses_37 : decode b_T_refuses 37 = .ok (.ifCond .eq 7, 3) := by decide +kernel
theorem d_T_refuses_40 : decode b_T_refuses 40 = .ok (.iconst 1, 1) := by decide +kernel
theorem d_T_refuses_41 : decode b_T_refuses 41 = .ok (.goto 4, 3) := by decide +kernel
theorem d_T_refuses_44 : decode b_T_refuses 44 = .ok (.iconst 0, 1) := by decide +kernel
theorem d_T_refuses_45 : decode b_T_refuses 45 = .ok (.ireturn, 1) := by decide +kernel
theorem d_T_reach_0 : decode b_T_reach 0 = .ok (.aload_n 0, 1) := by decide +kernel
theorem d_T_reach_1 : decode b_T_reach 1 = .ok (.iload_n 1, 1) := by decide +kernel
theorem d_T_reach_2 : decode b_T_reach 2 = .ok (.iconst 1, 1) := by decide +kernel
theorem d_T_reach_3 : decode b_T_reach 3 = .ok (.if_icmp .lt 11, 3) := by decide +kernel
theorem d_T_reach_6 : decode b_T_reach 6 = .ok (.iload_n 1, 1) := by decide +kernel
theorem d_T_reach_7 : decode b_T_reach 7 = .ok (.aload_n 0, 1) := by decide +kernel
theorem d_T_reach_8 : decode b_T_reach 8 = .ok (.getfield 70, 3) := by decide +kernel
theorem d_T_reach_11 : decode b_T_reach 11 = .ok (.if_icmp .le 7, 3) := by decide +kernel
theorem d_T_reach_14 : decode b_T_reach 14 = .ok (.iconst 1, 1) := by decide +kernel
theorem d_T_reach_15 : decode b_T_reach 15 = .ok (.goto 4, 3) := by decide +kernel
theorem d_T_reach_18 : decode b_T_reach 18 = .ok (.iconst 0, 1) := by decide +kernel
theorem d_T_reach_19 : decode b_T_reach 19 = .ok (.putfield 59, 3) := by decide +kernel
theorem d_T_reach_22 : decode b_T_reach 22 = .ok (.iconst 0, 1) := by decide +kernel
theorem d_T_reach_23 : decode b_T_reach 23 = .ok (.istore_n 2, 1) := by decide +kernel
theorem d_T_reach_24 : decode b_T_reach 24 = .ok (.iconst 0, 1) := by decide +kernel
theorem d_T_reach_25 : decode b_T_reach 25 = .ok (.istore_n 3, 1) := by decide +kernel
theorem d_T_reach_26 : decode b_T_reach 26 = .ok (.iload_n 3, 1) := by decide +kernel
theorem d_T_reach_27 : decode b_T_reach 27 = .ok (.sipush 200, 3) := by decide +kernel
theorem d_T_reach_30 : decode b_T_reach 30 = .ok (.if_icmp .ge 39, 3) := by decide +kernel
theorem d_T_reach_33 : decode b_T_reach 33 = .ok (.aload_n 0, 1) := by decide +kernel
theorem d_T_reach_34 : decode b_T_reach 34 = .ok (.getfield 59, 3) := by decide +kernel
theorem d_T_reach_37 : decode b_T_reach 37 = .ok (.ifCond .ne 32, 3) := by decide +kernel
theorem d_T_reach_40 : decode b_T_reach 40 = .ok (.aload_n 0, 1) := by decide +kernel
theorem d_T_reach_41 : decode b_T_reach 41 = .ok (.getfield 34, 3) := by decide +kernel
theorem d_T_reach_44 : decode b_T_reach 44 = .ok (.sipush 3001, 3) := by decide +kernel
theorem d_T_reach_47 : decode b_T_reach 47 = .ok (.iload_n 3, 1) := by decide +kernel
theorem d_T_reach_48 : decode b_T_reach 48 = .ok (.imul, 1) := by decide +kernel
theorem d_T_reach_49 : decode b_T_reach 49 = .ok (.iload_n 1, 1) := by decide +kernel
theorem d_T_reach_50 : decode b_T_reach 50 = .ok (.iadd, 1) := by decide +kernel
theorem d_T_reach_51 : decode b_T_reach 51 = .ok (.baload, 1) := by decide +kernel
theorem d_T_reach_52 : decode b_T_reach 52 = .ok (.ifCond .eq 9, 3) := by decide +kernel
theorem d_T_reach_55 : decode b_T_reach 55 = .ok (.iload_n 2, 1) := by decide +kernel
theorem d_T_reach_56 : decode b_T_reach 56 = .ok (.iconst 1, 1) := by decide +kernel
theorem d_T_reach_57 : decode b_T_reach 57 = .ok (.iadd, 1) := by decide +kernel
theorem d_T_reach_58 : decode b_T_reach 58 = .ok (.goto 4, 3) := by decide +kernel
theorem d_T_reach_61 : decode b_T_reach 61 = .ok (.iload_n 2, 1) := by decide +kernel
theorem d_T_reach_62 : decode b_T_reach 62 = .ok (.istore_n 2, 1) := by decide +kernel
theorem d_T_reach_63 : decode b_T_reach 63 = .ok (.iinc 3 1, 3) := by decide +kernel
theorem d_T_reach_66 : decode b_T_reach 66 = .ok (.goto (-40), 3) := by decide +kernel
theorem d_T_reach_69 : decode b_T_reach 69 = .ok (.iload_n 2, 1) := by decide +kernel
theorem d_T_reach_70 : decode b_T_reach 70 = .ok (.ireturn, 1) := by decide +kernel
theorem d_T_loseBattery_0 : decode b_T_loseBattery 0 = .ok (.aload_n 0, 1) := by decide +kernel
theorem d_T_loseBattery_1 : decode b_T_loseBattery 1 = .ok (.iload_n 1, 1) := by decide +kernel
theorem d_T_loseBattery_2 : decode b_T_loseBattery 2 = .ok (.invokestatic 109, 3) := by decide +kernel
theorem d_T_loseBattery_5 : decode b_T_loseBattery 5 = .ok (.ifCond .eq 7, 3) := by decide +kernel
theorem d_T_loseBattery_8 : decode b_T_loseBattery 8 = .ok (.iconst 1, 1) := by decide +kernel
theorem d_T_loseBattery_9 : decode b_T_loseBattery 9 = .ok (.goto 4, 3) := by decide +kernel
theorem d_T_loseBattery_12 : decode b_T_loseBattery 12 = .ok (.iconst 0, 1) := by decide +kernel
theorem d_T_loseBattery_13 : decode b_T_loseBattery 13 = .ok (.putfield 59, 3) := by decide +kernel
theorem d_T_loseBattery_16 : decode b_T_loseBattery 16 = .ok (.aload_n 0, 1) := by decide +kernel
theorem d_T_loseBattery_17 : decode b_T_loseBattery 17 = .ok (.getfield 59, 3) := by decide +kernel
theorem d_T_loseBattery_20 : decode b_T_loseBattery 20 = .ok (.ifCond .ne 10, 3) := by decide +kernel
theorem d_T_loseBattery_23 : decode b_T_loseBattery 23 = .ok (.aload_n 0, 1) := by decide +kernel
theorem d_T_loseBattery_24 : decode b_T_loseBattery 24 = .ok (.getfield 44, 3) := by decide +kernel
theorem d_T_loseBattery_27 : decode b_T_loseBattery 27 = .ok (.iload_n 1, 1) := by decide +kernel
theorem d_T_loseBattery_28 : decode b_T_loseBattery 28 = .ok (.iconst 0, 1) := by decide +kernel
theorem d_T_loseBattery_29 : decode b_T_loseBattery 29 = .ok (.iastore, 1) := by decide +kernel
theorem d_T_loseBattery_30 : decode b_T_loseBattery 30 = .ok (.return_, 1) := by decide +kernel
theorem d_T_visit_0 : decode b_T_visit 0 = .ok (.aload_n 0, 1) := by decide +kernel
theorem d_T_visit_1 : decode b_T_visit 1 = .ok (.iload_n 1, 1) := by decide +kernel
theorem d_T_visit_2 : decode b_T_visit 2 = .ok (.ifCond .lt 25, 3) := by decide +kernel
theorem d_T_visit_5 : decode b_T_visit 5 = .ok (.iload_n 1, 1) := by decide +kernel
theorem d_T_visit_6 : decode b_T_visit 6 = .ok (.sipush 199, 3) := by decide +kernel
theorem d_T_visit_9 : decode b_T_visit 9 = .ok (.if_icmp .gt 18, 3) := by decide +kernel
theorem d_T_visit_12 : decode b_T_visit 12 = .ok (.aload_n 0, 1) := by decide +kernel
theorem d_T_visit_13 : decode b_T_visit 13 = .ok (.iload_n 2, 1) := by decide +kernel
theorem d_T_visit_14 : decode b_T_visit 14 = .ok (.invokevirtual 66, 3) := by decide +kernel
theorem d_T_visit_17 : decode b_T_visit 17 = .ok (.ifCond .ne 10, 3) := by decide +kernel
theorem d_T_visit_20 : decode b_T_visit 20 = .ok (.iload_n 3, 1) := by decide +kernel
theorem d_T_visit_21 : decode b_T_visit 21 = .ok (.invokestatic 109, 3) := by decide +kernel
theorem d_T_visit_24 : decode b_T_visit 24 = .ok (.ifCond .eq 7, 3) := by decide +kernel
theorem d_T_visit_27 : decode b_T_visit 27 = .ok (.iconst 1, 1) := by decide +kernel
theorem d_T_visit_28 : decode b_T_visit 28 = .ok (.goto 4, 3) := by decide +kernel
theorem d_T_visit_31 : decode b_T_visit 31 = .ok (.iconst 0, 1) := by decide +kernel
theorem d_T_visit_32 : decode b_T_visit 32 = .ok (.putfield 59, 3) := by decide +kernel
theorem d_T_visit_35 : decode b_T_visit 35 = .ok (.aload_n 0, 1) := by decide +kernel
theorem d_T_visit_36 : decode b_T_visit 36 = .ok (.getfield 59, 3) := by decide +kernel
theorem d_T_visit_39 : decode b_T_visit 39 = .ok (.ifCond .le 4, 3) := by decide +kernel
theorem d_T_visit_42 : decode b_T_visit 42 = .ok (.return_, 1) := by decide +kernel
theorem d_T_visit_43 : decode b_T_visit 43 = .ok (.aload_n 0, 1) := by decide +kernel
theorem d_T_visit_44 : decode b_T_visit 44 = .ok (.getfield 47, 3) := by decide +kernel
theorem d_T_visit_47 : decode b_T_visit 47 = .ok (.iload_n 1, 1) := by decide +kernel
theorem d_T_visit_48 : decode b_T_visit 48 = .ok (.iconst 1, 1) := by decide +kernel
theorem d_T_visit_49 : decode b_T_visit 49 = .ok (.bastore, 1) := by decide +kernel
theorem d_T_visit_50 : decode b_T_visit 50 = .ok (.aload_n 0, 1) := by decide +kernel
theorem d_T_visit_51 : decode b_T_visit 51 = .ok (.getfield 50, 3) := by decide +kernel
theorem d_T_visit_54 : decode b_T_visit 54 = .ok (.iload_n 1, 1) := by decide +kernel
theorem d_T_visit_55 : decode b_T_visit 55 = .ok (.iload_n 2, 1) := by decide +kernel
theorem d_T_visit_56 : decode b_T_visit 56 = .ok (.iastore, 1) := by decide +kernel
theorem d_T_visit_57 : decode b_T_visit 57 = .ok (.aload_n 0, 1) := by decide +kernel
theorem d_T_visit_58 : decode b_T_visit 58 = .ok (.getfield 53, 3) := by decide +kernel
theorem d_T_visit_61 : decode b_T_visit 61 = .ok (.iload_n 1, 1) := by decide +kernel
theorem d_T_visit_62 : decode b_T_visit 62 = .ok (.iload_n 3, 1) := by decide +kernel
theorem d_T_visit_63 : decode b_T_visit 63 = .ok (.iastore, 1) := by decide +kernel
theorem d_T_visit_64 : decode b_T_visit 64 = .ok (.aload_n 0, 1) := by decide +kernel
theorem d_T_visit_65 : decode b_T_visit 65 = .ok (.getfield 56, 3) := by decide +kernel
theorem d_T_visit_68 : decode b_T_visit 68 = .ok (.iload_n 1, 1) := by decide +kernel
theorem d_T_visit_69 : decode b_T_visit 69 = .ok (.iload 4, 2) := by decide +kernel
theorem d_T_visit_71 : decode b_T_visit 71 = .ok (.iastore, 1) := by decide +kernel
theorem d_T_visit_72 : decode b_T_visit 72 = .ok (.return_, 1) := by decide +kernel
theorem d_T_spread_0 : decode b_T_spread 0 = .ok (.aload_n 0, 1) := by decide +kernel
theorem d_T_spread_1 : decode b_T_spread 1 = .ok (.iload_n 1, 1) := by decide +kernel
theorem d_T_spread_2 : decode b_T_spread 2 = .ok (.ifCond .lt 10, 3) := by decide +kernel
theorem d_T_spread_5 : decode b_T_spread 5 = .ok (.iload_n 1, 1) := by decide +kernel
theorem d_T_spread_6 : decode b_T_spread 6 = .ok (.sipush 200, 3) := by decide +kernel
theorem d_T_spread_9 : decode b_T_spread 9 = .ok (.if_icmp .le 7, 3) := by decide +kernel
theorem d_T_spread_12 : decode b_T_spread 12 = .ok (.iconst 1, 1) := by decide +kernel
theorem d_T_spread_13 : decode b_T_spread 13 = .ok (.goto 4, 3) := by decide +kernel
theorem d_T_spread_16 : decode b_T_spread 16 = .ok (.iconst 0, 1) := by decide +kernel
theorem d_T_spread_17 : decode b_T_spread 17 = .ok (.putfield 59, 3) := by decide +kernel
theorem d_T_spread_20 : decode b_T_spread 20 = .ok (.iconst 0, 1) := by decide +kernel
theorem d_T_spread_21 : decode b_T_spread 21 = .ok (.istore_n 2, 1) := by decide +kernel
theorem d_T_spread_22 : decode b_T_spread 22 = .ok (.iconst 0, 1) := by decide +kernel
theorem d_T_spread_23 : decode b_T_spread 23 = .ok (.istore_n 3, 1) := by decide +kernel
theorem d_T_spread_24 : decode b_T_spread 24 = .ok (.iload_n 3, 1) := by decide +kernel
theorem d_T_spread_25 : decode b_T_spread 25 = .ok (.iload_n 1, 1) := by decide +kernel
theorem d_T_spread_26 : decode b_T_spread 26 = .ok (.if_icmp .ge 58, 3) := by decide +kernel
theorem d_T_spread_29 : decode b_T_spread 29 = .ok (.aload_n 0, 1) := by decide +kernel
theorem d_T_spread_30 : decode b_T_spread 30 = .ok (.getfield 59, 3) := by decide +kernel
theorem d_T_spread_33 : decode b_T_spread 33 = .ok (.ifCond .ne 51, 3) := by decide +kernel
theorem d_T_spread_36 : decode b_T_spread 36 = .ok (.aload_n 0, 1) := by decide +kernel
theorem d_T_spread_37 : decode b_T_spread 37 = .ok (.getfield 47, 3) := by decide +kernel
theorem d_T_spread_40 : decode b_T_spread 40 = .ok (.iload_n 3, 1) := by decide +kernel
theorem d_T_spread_41 : decode b_T_spread 41 = .ok (.baload, 1) := by decide +kernel
theorem d_T_spread_42 : decode b_T_spread 42 = .ok (.ifCond .eq 36, 3) := by decide +kernel
theorem d_T_spread_45 : decode b_T_spread 45 = .ok (.aload_n 0, 1) := by decide +kernel
theorem d_T_spread_46 : decode b_T_spread 46 = .ok (.aload_n 0, 1) := by decide +kernel
theorem d_T_spread_47 : decode b_T_spread 47 = .ok (.getfield 50, 3) := by decide +kernel
theorem d_T_spread_50 : decode b_T_spread 50 = .ok (.iload_n 3, 1) := by decide +kernel
theorem d_T_spread_51 : decode b_T_spread 51 = .ok (.iaload, 1) := by decide +kernel
theorem d_T_spread_52 : decode b_T_spread 52 = .ok (.aload_n 0, 1) := by decide +kernel
theorem d_T_spread_53 : decode b_T_spread 53 = .ok (.getfield 53, 3) := by decide +kernel
theorem d_T_spread_56 : decode b_T_spread 56 = .ok (.iload_n 3, 1) := by decide +kernel
theorem d_T_spread_57 : decode b_T_spread 57 = .ok (.iaload, 1) := by decide +kernel
theorem d_T_spread_58 : decode b_T_spread 58 = .ok (.aload_n 0, 1) := by decide +kernel
theorem d_T_spread_59 : decode b_T_spread 59 = .ok (.getfield 56, 3) := by decide +kernel
theorem d_T_spread_62 : decode b_T_spread 62 = .ok (.iload_n 3, 1) := by decide +kernel
theorem d_T_spread_63 : decode b_T_spread 63 = .ok (.iaload, 1) := by decide +kernel
theorem d_T_spread_64 : decode b_T_spread 64 = .ok (.invokevirtual 118, 3) := by decide +kernel
theorem d_T_spread_67 : decode b_T_spread 67 = .ok (.ifCond .ne 9, 3) := by decide +kernel
theorem d_T_spread_70 : decode b_T_spread 70 = .ok (.iload_n 2, 1) := by decide +kernel
theorem d_T_spread_71 : decode b_T_spread 71 = .ok (.iconst 1, 1) := by decide +kernel
theorem d_T_spread_72 : decode b_T_spread 72 = .ok (.iadd, 1) := by decide +kernel
theorem d_T_spread_73 : decode b_T_spread 73 = .ok (.goto 4, 3) := by decide +kernel
theorem d_T_spread_76 : decode b_T_spread 76 = .ok (.iload_n 2, 1) := by decide +kernel
theorem d_T_spread_77 : decode b_T_spread 77 = .ok (.istore_n 2, 1) := by decide +kernel
theorem d_T_spread_78 : decode b_T_spread 78 = .ok (.iinc 3 1, 3) := by decide +kernel
theorem d_T_spread_81 : decode b_T_spread 81 = .ok (.goto (-57), 3) := by decide +kernel
theorem d_T_spread_84 : decode b_T_spread 84 = .ok (.iload_n 2, 1) := by decide +kernel
theorem d_T_spread_85 : decode b_T_spread 85 = .ok (.ireturn, 1) := by decide +kernel
end
section
/-! Decode rows (by program). -/
theorem d_H_init_0 : decode b_H_init 0 = .ok (.aload_n 0, 1) := by decide +kernel
theorem d_H_init_1 : decode b_H_init 1 = .ok (.invokespecial 1, 3) := by decide +kernel
theorem d_H_init_4 : decode b_H_init 4 = .ok (.aload_n 0, 1) := by decide +kernel
theorem d_H_init_5 : decode b_H_init 5 = .ok (.new 7, 3) := by decide +kernel
theorem d_H_init_8 : decode b_H_init 8 = .ok (.dup, 1) := by decide +kernel
theorem d_H_init_9 : decode b_H_init 9 = .ok (.invokespecial 9, 3) := by decide +kernel
theorem d_H_init_12 : decode b_H_init 12 = .ok (.putfield 10, 3) := by decide +kernel
theorem d_H_init_15 : decode b_H_init 15 = .ok (.aload_n 0, 1) := by decide +kernel
theorem d_H_init_16 : decode b_H_init 16 = .ok (.new 16, 3) := by decide +kernel
theorem d_H_init_19 : decode b_H_init 19 = .ok (.dup, 1) := by decide +kernel
theorem d_H_init_20 : decode b_H_init 20 = .ok (.invokespecial 18, 3) := by decide +kernel
theorem d_H_init_23 : decode b_H_init 23 = .ok (.putfield 19, 3) := by decide +kernel
theorem d_H_init_26 : decode b_H_init 26 = .ok (.aload_n 0, 1) := by decide +kernel
theorem d_H_init_27 : decode b_H_init 27 = .ok (.sipush 200, 3) := by decide +kernel
theorem d_H_init_30 : decode b_H_init 30 = .ok (.anewarray 23, 3) := by decide +kernel
theorem d_H_init_33 : decode b_H_init 33 = .ok (.putfield 25, 3) := by decide +kernel
theorem d_H_init_36 : decode b_H_init 36 = .ok (.aload_n 0, 1) := by decide +kernel
theorem d_H_init_37 : decode b_H_init 37 = .ok (.sipush 200, 3) := by decide +kernel
theorem d_H_init_40 : decode b_H_init 40 = .ok (.newarray .int, 2) := by decide +kernel
theorem d_H_init_42 : decode b_H_init 42 = .ok (.putfield 29, 3) := by decide +kernel
theorem d_H_init_45 : decode b_H_init 45 = .ok (.aload_n 0, 1) := by decide +kernel
theorem d_H_init_46 : decode b_H_init 46 = .ok (.sipush 200, 3) := by decide +kernel
theorem d_H_init_49 : decode b_H_init 49 = .ok (.newarray .int, 2) := by decide +kernel
theorem d_H_init_51 : decode b_H_init 51 = .ok (.putfield 33, 3) := by decide +kernel
theorem d_H_init_54 : decode b_H_init 54 = .ok (.aload_n 0, 1) := by decide +kernel
theorem d_H_init_55 : decode b_H_init 55 = .ok (.sipush 200, 3) := by decide +kernel
theorem d_H_init_58 : decode b_H_init 58 = .ok (.newarray .int, 2) := by decide +kernel
theorem d_H_init_60 : decode b_H_init 60 = .ok (.putfield 36, 3) := by decide +kernel
theorem d_H_init_63 : decode b_H_init 63 = .ok (.iconst 0, 1) := by decide +kernel
theorem d_H_init_64 : decode b_H_init 64 = .ok (.istore_n 1, 1) := by decide +kernel
theorem d_H_init_65 : decode b_H_init 65 = .ok (.iload_n 1, 1) := by decide +kernel
theorem d_H_init_66 : decode b_H_init 66 = .ok (.aload_n 0, 1) := by decide +kernel
theorem d_H_init_67 : decode b_H_init 67 = .ok (.getfield 25, 3) := by decide +kernel
theorem d_H_init_70 : decode b_H_init 70 = .ok (.arraylength, 1) := by decide +kernel
theorem d_H_init_71 : decode b_H_init 71 = .ok (.if_icmp .ge 23, 3) := by decide +kernel
theorem d_H_init_74 : decode b_H_init 74 = .ok (.aload_n 0, 1) := by decide +kernel
theorem d_H_init_75 : decode b_H_init 75 = .ok (.getfield 25, 3) := by decide +kernel
theorem d_H_init_78 : decode b_H_init 78 = .ok (.iload_n 1, 1) := by decide +kernel
theorem d_H_init_79 : decode b_H_init 79 = .ok (.new 23, 3) := by decide +kernel
theorem d_H_init_82 : decode b_H_init 82 = .ok (.dup, 1) := by decide +kernel
theorem d_H_init_83 : decode b_H_init 83 = .ok (.iload_n 1, 1) := by decide +kernel
theorem d_H_init_84 : decode b_H_init 84 = .ok (.invokespecial 39, 3) := by decide +kernel
theorem d_H_init_87 : decode b_H_init 87 = .ok (.aastore, 1) := by decide +kernel
theorem d_H_init_88 : decode b_H_init 88 = .ok (.iinc 1 1, 3) := by decide +kernel
theorem d_H_init_91 : decode b_H_init 91 = .ok (.goto (-26), 3) := by decide +kernel
theorem d_H_init_94 : decode b_H_init 94 = .ok (.aload_n 0, 1) := by decide +kernel
theorem d_H_init_95 : decode b_H_init 95 = .ok (.getfield 29, 3) := by decide +kernel
theorem d_H_init_98 : decode b_H_init 98 = .ok (.iconst (-1), 1) := by decide +kernel
theorem d_H_init_99 : decode b_H_init 99 = .ok (.invokestatic 42, 3) := by decide +kernel
theorem d_H_init_102 : decode b_H_init 102 = .ok (.return_, 1) := by decide +kernel
theorem d_EL_init_0 : decode b_EL_init 0 = .ok (.aload_n 0, 1) := by decide +kernel
theorem d_EL_init_1 : decode b_EL_init 1 = .ok (.invokespecial 3, 3) := by decide +kernel
theorem d_EL_init_4 : decode b_EL_init 4 = .ok (.aload_n 0, 1) := by decide +kernel
theorem d_EL_init_5 : decode b_EL_init 5 = .ok (.new 9, 3) := by decide +kernel
theorem d_EL_init_8 : decode b_EL_init 8 = .ok (.dup, 1) := by decide +kernel
theorem d_EL_init_9 : decode b_EL_init 9 = .ok (.invokespecial 11, 3) := by decide +kernel
theorem d_EL_init_12 : decode b_EL_init 12 = .ok (.putfield 12, 3) := by decide +kernel
theorem d_EL_init_15 : decode b_EL_init 15 = .ok (.return_, 1) := by decide +kernel
theorem d_Door_init_0 : decode b_Door_init 0 = .ok (.aload_n 0, 1) := by decide +kernel
theorem d_Door_init_1 : decode b_Door_init 1 = .ok (.invokespecial 3, 3) := by decide +kernel
theorem d_Door_init_4 : decode b_Door_init 4 = .ok (.aload_n 0, 1) := by decide +kernel
theorem d_Door_init_5 : decode b_Door_init 5 = .ok (.iconst 0, 1) := by decide +kernel
theorem d_Door_init_6 : decode b_Door_init 6 = .ok (.putfield 9, 3) := by decide +kernel
theorem d_Door_init_9 : decode b_Door_init 9 = .ok (.aload_n 0, 1) := by decide +kernel
theorem d_Door_init_10 : decode b_Door_init 10 = .ok (.iconst 0, 1) := by decide +kernel
theorem d_Door_init_11 : decode b_Door_init 11 = .ok (.putfield 15, 3) := by decide +kernel
theorem d_Door_init_14 : decode b_Door_init 14 = .ok (.aload_n 0, 1) := by decide +kernel
theorem d_Door_init_15 : decode b_Door_init 15 = .ok (.iconst 0, 1) := by decide +kernel
theorem d_Door_init_16 : decode b_Door_init 16 = .ok (.putfield 18, 3) := by decide +kernel
theorem d_Door_init_19 : decode b_Door_init 19 = .ok (.aload_n 0, 1) := by decide +kernel
theorem d_Door_init_20 : decode b_Door_init 20 = .ok (.iconst 0, 1) := by decide +kernel
theorem d_Door_init_21 : decode b_Door_init 21 = .ok (.putfield 21, 3) := by decide +kernel
theorem d_Door_init_24 : decode b_Door_init 24 = .ok (.aload_n 0, 1) := by decide +kernel
theorem d_Door_init_25 : decode b_Door_init 25 = .ok (.iload_n 1, 1) := by decide +kernel
theorem d_Door_init_26 : decode b_Door_init 26 = .ok (.putfield 25, 3) := by decide +kernel
theorem d_Door_init_29 : decode b_Door_init 29 = .ok (.return_, 1) := by decide +kernel
theorem d_H_cards_0 : decode b_H_cards 0 = .ok (.aload_n 0, 1) := by decide +kernel
theorem d_H_cards_1 : decode b_H_cards 1 = .ok (.getfield 10, 3) := by decide +kernel
theorem d_H_cards_4 : decode b_H_cards 4 = .ok (.invokevirtual 48, 3) := by decide +kernel
theorem d_H_cards_7 : decode b_H_cards 7 = .ok (.ireturn, 1) := by decide +kernel
theorem d_H_entries_0 : decode b_H_entries 0 = .ok (.aload_n 0, 1) := by decide +kernel
theorem d_H_entries_1 : decode b_H_entries 1 = .ok (.getfield 19, 3) := by decide +kernel
theorem d_H_entries_4 : decode b_H_entries 4 = .ok (.invokevirtual 76, 3) := by decide +kernel
theorem d_H_entries_7 : decode b_H_entries 7 = .ok (.ireturn, 1) := by decide +kernel
theorem d_EL_made_0 : decode b_EL_made 0 = .ok (.aload_n 0, 1) := by decide +kernel
theorem d_EL_made_1 : decode b_EL_made 1 = .ok (.getfield 12, 3) := by decide +kernel
theorem d_EL_made_4 : decode b_EL_made 4 = .ok (.invokevirtual 18, 3) := by decide +kernel
theorem d_EL_made_7 : decode b_EL_made 7 = .ok (.ireturn, 1) := by decide +kernel
theorem d_H_issue_0 : decode b_H_issue 0 = .ok (.aload_n 0, 1) := by decide +kernel
theorem d_H_issue_1 : decode b_H_issue 1 = .ok (.getfield 10, 3) := by decide +kernel
theorem d_H_issue_4 : decode b_H_issue 4 = .ok (.invokevirtual 48, 3) := by decide +kernel
theorem d_H_issue_7 : decode b_H_issue 7 = .ok (.sipush 4000, 3) := by decide +kernel
theorem d_H_issue_10 : decode b_H_issue 10 = .ok (.if_icmp .lt 13, 3) := by decide +kernel
theorem d_H_issue_13 : decode b_H_issue 13 = .ok (.new 52, 3) := by decide +kernel
theorem d_H_issue_16 : decode b_H_issue 16 = .ok (.dup, 1) := by decide +kernel
theorem d_H_issue_17 : decode b_H_issue 17 = .ok (.ldc 54, 2) := by decide +kernel
theorem d_H_issue_19 : decode b_H_issue 19 = .ok (.invokespecial 56, 3) := by decide +kernel
theorem d_H_issue_22 : decode b_H_issue 22 = .ok (.athrow, 1) := by decide +kernel
theorem d_H_issue_23 : decode b_H_issue 23 = .ok (.aload_n 0, 1) := by decide +kernel
theorem d_H_issue_24 : decode b_H_issue 24 = .ok (.getfield 10, 3) := by decide +kernel
theorem d_H_issue_27 : decode b_H_issue 27 = .ok (.new 59, 3) := by decide +kernel
theorem d_H_issue_30 : decode b_H_issue 30 = .ok (.dup, 1) := by decide +kernel
theorem d_H_issue_31 : decode b_H_issue 31 = .ok (.iload_n 1, 1) := by decide +kernel
theorem d_H_issue_32 : decode b_H_issue 32 = .ok (.iload_n 2, 1) := by decide +kernel
theorem d_H_issue_33 : decode b_H_issue 33 = .ok (.invokespecial 61, 3) := by decide +kernel
theorem d_H_issue_36 : decode b_H_issue 36 = .ok (.invokevirtual 64, 3) := by decide +kernel
theorem d_H_issue_39 : decode b_H_issue 39 = .ok (.pop, 1) := by decide +kernel
theorem d_H_issue_40 : decode b_H_issue 40 = .ok (.aload_n 0, 1) := by decide +kernel
theorem d_H_issue_41 : decode b_H_issue 41 = .ok (.getfield 10, 3) := by decide +kernel
theorem d_H_issue_44 : decode b_H_issue 44 = .ok (.invokevirtual 48, 3) := by decide +kernel
theorem d_H_issue_47 : decode b_H_issue 47 = .ok (.iconst 1, 1) := by decide +kernel
theorem d_H_issue_48 : decode b_H_issue 48 = .ok (.isub, 1) := by decide +kernel
theorem d_H_issue_49 : decode b_H_issue 49 = .ok (.ireturn, 1) := by decide +kernel
theorem d_Card_init_0 : decode b_Card_init 0 = .ok (.aload_n 0, 1) := by decide +kernel
theorem d_Card_init_1 : decode b_Card_init 1 = .ok (.invokespecial 1, 3) := by decide +kernel
theorem d_Card_init_4 : decode b_Card_init 4 = .ok (.aload_n 0, 1) := by decide +kernel
theorem d_Card_init_5 : decode b_Card_init 5 = .ok (.new 7, 3) := by decide +kernel
theorem d_Card_init_8 : decode b_Card_init 8 = .ok (.dup, 1) := by decide +kernel
theorem d_Card_init_9 : decode b_Card_init 9 = .ok (.invokespecial 9, 3) := by decide +kernel
theorem d_Card_init_12 : decode b_Card_init 12 = .ok (.putfield 10, 3) := by decide +kernel
theorem d_Card_init_15 : decode b_Card_init 15 = .ok (.aload_n 0, 1) := by decide +kernel
theorem d_Card_init_16 : decode b_Card_init 16 = .ok (.new 7, 3) := by decide +kernel
theorem d_Card_init_19 : decode b_Card_init 19 = .ok (.dup, 1) := by decide +kernel
theorem d_Card_init_20 : decode b_Card_init 20 = .ok (.invokespecial 9, 3) := by decide +kernel
theorem d_Card_init_23 : decode b_Card_init 23 = .ok (.putfield 16, 3) := by decide +kernel
theorem d_Card_init_26 : decode b_Card_init 26 = .ok (.aload_n 0, 1) := by decide +kernel
theorem d_Card_init_27 : decode b_Card_init 27 = .ok (.iconst 0, 1) := by decide +kernel
theorem d_Card_init_28 : decode b_Card_init 28 = .ok (.putfield 19, 3) := by decide +kernel
theorem d_Card_init_31 : decode b_Card_init 31 = .ok (.aload_n 0, 1) := by decide +kernel
theorem d_Card_init_32 : decode b_Card_init 32 = .ok (.iconst (-1), 1) := by decide +kernel
theorem d_Card_init_33 : decode b_Card_init 33 = .ok (.putfield 23, 3) := by decide +kernel
theorem d_Card_init_36 : decode b_Card_init 36 = .ok (.aload_n 0, 1) := by decide +kernel
theorem d_Card_init_37 : decode b_Card_init 37 = .ok (.iconst 0, 1) := by decide +kernel
theorem d_Card_init_38 : decode b_Card_init 38 = .ok (.putfield 26, 3) := by decide +kernel
theorem d_Card_init_41 : decode b_Card_init 41 = .ok (.aload_n 0, 1) := by decide +kernel
theorem d_Card_init_42 : decode b_Card_init 42 = .ok (.iconst 0, 1) := by decide +kernel
theorem d_Card_init_43 : decode b_Card_init 43 = .ok (.putfield 29, 3) := by decide +kernel
theorem d_Card_init_46 : decode b_Card_init 46 = .ok (.aload_n 0, 1) := by decide +kernel
theorem d_Card_init_47 : decode b_Card_init 47 = .ok (.iload_n 1, 1) := by decide +kernel
theorem d_Card_init_48 : decode b_Card_init 48 = .ok (.putfield 32, 3) := by decide +kernel
theorem d_Card_init_51 : decode b_Card_init 51 = .ok (.aload_n 0, 1) := by decide +kernel
theorem d_Card_init_52 : decode b_Card_init 52 = .ok (.iload_n 2, 1) := by decide +kernel
theorem d_Card_init_53 : decode b_Card_init 53 = .ok (.putfield 35, 3) := by decide +kernel
theorem d_Card_init_56 : decode b_Card_init 56 = .ok (.return_, 1) := by decide +kernel
theorem d_Im_init_0 : decode b_Im_init 0 = .ok (.aload_n 0, 1) := by decide +kernel
theorem d_Im_init_1 : decode b_Im_init 1 = .ok (.invokespecial 1, 3) := by decide +kernel
theorem d_Im_init_4 : decode b_Im_init 4 = .ok (.aload_n 0, 1) := by decide +kernel
theorem d_Im_init_5 : decode b_Im_init 5 = .ok (.bipush 44, 2) := by decide +kernel
theorem d_Im_init_7 : decode b_Im_init 7 = .ok (.newarray .short, 2) := by decide +kernel
theorem d_Im_init_9 : decode b_Im_init 9 = .ok (.putfield 9, 3) := by decide +kernel
theorem d_Im_init_12 : decode b_Im_init 12 = .ok (.return_, 1) := by decide +kernel
theorem d_H_revoke_0 : decode b_H_revoke 0 = .ok (.aload_n 0, 1) := by decide +kernel
theorem d_H_revoke_1 : decode b_H_revoke 1 = .ok (.iload_n 1, 1) := by decide +kernel
theorem d_H_revoke_2 : decode b_H_revoke 2 = .ok (.invokevirtual 68, 3) := by decide +kernel
theorem d_H_revoke_5 : decode b_H_revoke 5 = .ok (.astore_n 2, 1) := by decide +kernel
theorem d_H_revoke_6 : decode b_H_revoke 6 = .ok (.aload_n 2, 1) := by decide +kernel
theorem d_H_revoke_7 : decode b_H_revoke 7 = .ok (.getfield 72, 3) := by decide +kernel
theorem d_H_revoke_10 : decode b_H_revoke 10 = .ok (.ifCond .eq 5, 3) := by decide +kernel
theorem d_H_revoke_13 : decode b_H_revoke 13 = .ok (.iconst (-1), 1) := by decide +kernel
theorem d_H_revoke_14 : decode b_H_revoke 14 = .ok (.ireturn, 1) := by decide +kernel
theorem d_H_revoke_15 : decode b_H_revoke 15 = .ok (.aload_n 0, 1) := by decide +kernel
theorem d_H_revoke_16 : decode b_H_revoke 16 = .ok (.getfield 19, 3) := by decide +kernel
theorem d_H_revoke_19 : decode b_H_revoke 19 = .ok (.invokevirtual 76, 3) := by decide +kernel
theorem d_H_revoke_22 : decode b_H_revoke 22 = .ok (.sipush 3000, 3) := by decide +kernel
theorem d_H_revoke_25 : decode b_H_revoke 25 = .ok (.if_icmp .lt 13, 3) := by decide +kernel
theorem d_H_revoke_28 : decode b_H_revoke 28 = .ok (.new 52, 3) := by decide +kernel
theorem d_H_revoke_31 : decode b_H_revoke 31 = .ok (.dup, 1) := by decide +kernel
theorem d_H_revoke_32 : decode b_H_revoke 32 = .ok (.ldc 79, 2) := by decide +kernel
theorem d_H_revoke_34 : decode b_H_revoke 34 = .ok (.invokespecial 56, 3) := by decide +kernel
theorem d_H_revoke_37 : decode b_H_revoke 37 = .ok (.athrow, 1) := by decide +kernel
theorem d_H_revoke_38 : decode b_H_revoke 38 = .ok (.aload_n 2, 1) := by decide +kernel
theorem d_H_revoke_39 : decode b_H_revoke 39 = .ok (.aload_n 0, 1) := by decide +kernel
theorem d_H_revoke_40 : decode b_H_revoke 40 = .ok (.getfield 19, 3) := by decide +kernel
theorem d_H_revoke_43 : decode b_H_revoke 43 = .ok (.iload_n 1, 1) := by decide +kernel
theorem d_H_revoke_44 : decode b_H_revoke 44 = .ok (.invokevirtual 81, 3) := by decide +kernel
theorem d_H_revoke_47 : decode b_H_revoke 47 = .ok (.putfield 72, 3) := by decide +kernel
theorem d_H_revoke_50 : decode b_H_revoke 50 = .ok (.aload_n 2, 1) := by decide +kernel
theorem d_H_revoke_51 : decode b_H_revoke 51 = .ok (.getfield 72, 3) := by decide +kernel
theorem d_H_revoke_54 : decode b_H_revoke 54 = .ok (.ireturn, 1) := by decide +kernel
theorem d_H_cardAt_0 : decode b_H_cardAt 0 = .ok (.aload_n 0, 1) := by decide +kernel
theorem d_H_cardAt_1 : decode b_H_cardAt 1 = .ok (.iload_n 1, 1) := by decide +kernel
theorem d_H_cardAt_2 : decode b_H_cardAt 2 = .ok (.invokevirtual 192, 3) := by decide +kernel
theorem d_H_cardAt_5 : decode b_H_cardAt 5 = .ok (.ifCond .ne 13, 3) := by decide +kernel
theorem d_H_cardAt_8 : decode b_H_cardAt 8 = .ok (.new 127, 3) := by decide +kernel
theorem d_H_cardAt_11 : decode b_H_cardAt 11 = .ok (.dup, 1) := by decide +kernel
theorem d_H_cardAt_12 : decode b_H_cardAt 12 = .ok (.ldc 207, 2) := by decide +kernel
theorem d_H_cardAt_14 : decode b_H_cardAt 14 = .ok (.invokespecial 131, 3) := by decide +kernel
theorem d_H_cardAt_17 : decode b_H_cardAt 17 = .ok (.athrow, 1) := by decide +kernel
theorem d_H_cardAt_18 : decode b_H_cardAt 18 = .ok (.aload_n 0, 1) := by decide +kernel
theorem d_H_cardAt_19 : decode b_H_cardAt 19 = .ok (.getfield 10, 3) := by decide +kernel
theorem d_H_cardAt_22 : decode b_H_cardAt 22 = .ok (.iload_n 1, 1) := by decide +kernel
theorem d_H_cardAt_23 : decode b_H_cardAt 23 = .ok (.invokevirtual 203, 3) := by decide +kernel
theorem d_H_cardAt_26 : decode b_H_cardAt 26 = .ok (.checkcast 59, 3) := by decide +kernel
theorem d_H_cardAt_29 : decode b_H_cardAt 29 = .ok (.areturn, 1) := by decide +kernel
theorem d_H_isCard_0 : decode b_H_isCard 0 = .ok (.iload_n 1, 1) := by decide +kernel
theorem d_H_isCard_1 : decode b_H_isCard 1 = .ok (.ifCond .lt 18, 3) := by decide +kernel
theorem d_H_isCard_4 : decode b_H_isCard 4 = .ok (.iload_n 1, 1) := by decide +kernel
theorem d_H_isCard_5 : decode b_H_isCard 5 = .ok (.aload_n 0, 1) := by decide +kernel
theorem d_H_isCard_6 : decode b_H_isCard 6 = .ok (.getfield 10, 3) := by decide +kernel
theorem d_H_isCard_9 : decode b_H_isCard 9 = .ok (.invokevirtual 48, 3) := by decide +kernel
theorem d_H_isCard_12 : decode b_H_isCard 12 = .ok (.if_icmp .ge 7, 3) := by decide +kernel
theorem d_H_isCard_15 : decode b_H_isCard 15 = .ok (.iconst 1, 1) := by decide +kernel
theorem d_H_isCard_16 : decode b_H_isCard 16 = .ok (.goto 4, 3) := by decide +kernel
theorem d_H_isCard_19 : decode b_H_isCard 19 = .ok (.iconst 0, 1) := by decide +kernel
theorem d_H_isCard_20 : decode b_H_isCard 20 = .ok (.ireturn, 1) := by decide +kernel
theorem d_EL_append_0 : decode b_EL_append 0 = .ok (.aload_n 0, 1) := by decide +kernel
theorem d_EL_append_1 : decode b_EL_append 1 = .ok (.getfield 12, 3) := by decide +kernel
theorem d_EL_append_4 : decode b_EL_append 4 = .ok (.new 22, 3) := by decide +kernel
theorem d_EL_append_7 : decode b_EL_append 7 = .ok (.dup, 1) := by decide +kernel
theorem d_EL_append_8 : decode b_EL_append 8 = .ok (.iload_n 1, 1) := by decide +kernel
theorem d_EL_append_9 : decode b_EL_append 9 = .ok (.invokespecial 24, 3) := by decide +kernel
theorem d_EL_append_12 : decode b_EL_append 12 = .ok (.invokevirtual 27, 3) := by decide +kernel
theorem d_EL_append_15 : decode b_EL_append 15 = .ok (.pop, 1) := by decide +kernel
theorem d_EL_append_16 : decode b_EL_append 16 = .ok (.aload_n 0, 1) := by decide +kernel
theorem d_EL_append_17 : decode b_EL_append 17 = .ok (.getfield 12, 3) := by decide +kernel
theorem d_EL_append_20 : decode b_EL_append 20 = .ok (.invokevirtual 18, 3) := by decide +kernel
theorem d_EL_append_23 : decode b_EL_append 23 = .ok (.ireturn, 1) := by decide +kernel
theorem d_Entry_init_0 : decode b_Entry_init 0 = .ok (.aload_n 0, 1) := by decide +kernel
theorem d_Entry_init_1 : decode b_Entry_init 1 = .ok (.invokespecial 3, 3) := by decide +kernel
theorem d_Entry_init_4 : decode b_Entry_init 4 = .ok (.aload_n 0, 1) := by decide +kernel
theorem d_Entry_init_5 : decode b_Entry_init 5 = .ok (.sipush 200, 3) := by decide +kernel
theorem d_Entry_init_8 : decode b_Entry_init 8 = .ok (.newarray .boolean, 2) := by decide +kernel
theorem d_Entry_init_10 : decode b_Entry_init 10 = .ok (.putfield 9, 3) := by decide +kernel
theorem d_Entry_init_13 : decode b_Entry_init 13 = .ok (.aload_n 0, 1) := by decide +kernel
theorem d_Entry_init_14 : decode b_Entry_init 14 = .ok (.iload_n 1, 1) := by decide +kernel
theorem d_Entry_init_15 : decode b_Entry_init 15 = .ok (.putfield 15, 3) := by decide +kernel
theorem d_Entry_init_18 : decode b_Entry_init 18 = .ok (.return_, 1) := by decide +kernel
theorem d_H_gate_0 : decode b_H_gate 0 = .ok (.aload_n 0, 1) := by decide +kernel
theorem d_H_gate_1 : decode b_H_gate 1 = .ok (.iload_n 1, 1) := by decide +kernel
theorem d_H_gate_2 : decode b_H_gate 2 = .ok (.invokevirtual 68, 3) := by decide +kernel
theorem d_H_gate_5 : decode b_H_gate 5 = .ok (.astore_n 2, 1) := by decide +kernel
theorem d_H_gate_6 : decode b_H_gate 6 = .ok (.aload_n 0, 1) := by decide +kernel
theorem d_H_gate_7 : decode b_H_gate 7 = .ok (.getfield 19, 3) := by decide +kernel
theorem d_H_gate_10 : decode b_H_gate 10 = .ok (.invokevirtual 76, 3) := by decide +kernel
theorem d_H_gate_13 : decode b_H_gate 13 = .ok (.istore_n 3, 1) := by decide +kernel
theorem d_H_gate_14 : decode b_H_gate 14 = .ok (.iload_n 3, 1) := by decide +kernel
theorem d_H_gate_15 : decode b_H_gate 15 = .ok (.bipush 40, 2) := by decide +kernel
theorem d_H_gate_17 : decode b_H_gate 17 = .ok (.invokestatic 85, 3) := by decide +kernel
theorem d_H_gate_20 : decode b_H_gate 20 = .ok (.istore 4, 2) := by decide +kernel
theorem d_H_gate_22 : decode b_H_gate 22 = .ok (.iload 4, 2) := by decide +kernel
theorem d_H_gate_24 : decode b_H_gate 24 = .ok (.ifCond .ne 7, 3) := by decide +kernel
theorem d_H_gate_27 : decode b_H_gate 27 = .ok (.iconst 0, 1) := by decide +kernel
theorem d_H_gate_28 : decode b_H_gate 28 = .ok (.goto 9, 3) := by decide +kernel
theorem d_H_gate_31 : decode b_H_gate 31 = .ok (.iload_n 3, 1) := by decide +kernel
theorem d_H_gate_32 : decode b_H_gate 32 = .ok (.iload 4, 2) := by decide +kernel
theorem d_H_gate_34 : decode b_H_gate 34 = .ok (.isub, 1) := by decide +kernel
theorem d_H_gate_35 : decode b_H_gate 35 = .ok (.iconst 1, 1) := by decide +kernel
theorem d_H_gate_36 : decode b_H_gate 36 = .ok (.iadd, 1) := by decide +kernel
theorem d_H_gate_37 : decode b_H_gate 37 = .ok (.istore 5, 2) := by decide +kernel
theorem d_H_gate_39 : decode b_H_gate 39 = .ok (.aload_n 2, 1) := by decide +kernel
theorem d_H_gate_40 : decode b_H_gate 40 = .ok (.iload 5, 2) := by decide +kernel
theorem d_H_gate_42 : decode b_H_gate 42 = .ok (.iload 4, 2) := by decide +kernel
theorem d_H_gate_44 : decode b_H_gate 44 = .ok (.iload_n 3, 1) := by decide +kernel
theorem d_H_gate_45 : decode b_H_gate 45 = .ok (.aload_n 0, 1) := by decide +kernel
theorem d_H_gate_46 : decode b_H_gate 46 = .ok (.getfield 19, 3) := by decide +kernel
theorem d_H_gate_49 : decode b_H_gate 49 = .ok (.invokevirtual 91, 3) := by decide +kernel
theorem d_H_gate_52 : decode b_H_gate 52 = .ok (.return_, 1) := by decide +kernel
theorem d_Card_store_0 : decode b_Card_store 0 = .ok (.aload_n 0, 1) := by decide +kernel
theorem d_Card_store_1 : decode b_Card_store 1 = .ok (.invokevirtual 46, 3) := by decide +kernel
theorem d_Card_store_4 : decode b_Card_store 4 = .ok (.istore 5, 2) := by decide +kernel
theorem d_Card_store_6 : decode b_Card_store 6 = .ok (.aload_n 0, 1) := by decide +kernel
theorem d_Card_store_7 : decode b_Card_store 7 = .ok (.iload 5, 2) := by decide +kernel
theorem d_Card_store_9 : decode b_Card_store 9 = .ok (.invokevirtual 49, 3) := by decide +kernel
theorem d_Card_store_12 : decode b_Card_store 12 = .ok (.iload_n 1, 1) := by decide +kernel
theorem d_Card_store_13 : decode b_Card_store 13 = .ok (.iload_n 2, 1) := by decide +kernel
theorem d_Card_store_14 : decode b_Card_store 14 = .ok (.iload_n 3, 1) := by decide +kernel
theorem d_Card_store_15 : decode b_Card_store 15 = .ok (.invokevirtual 53, 3) := by decide +kernel
theorem d_Card_store_18 : decode b_Card_store 18 = .ok (.ifCond .eq 4, 3) := by decide +kernel
theorem d_Card_store_21 : decode b_Card_store 21 = .ok (.return_, 1) := by decide +kernel
theorem d_Card_store_22 : decode b_Card_store 22 = .ok (.aload_n 0, 1) := by decide +kernel
theorem d_Card_store_23 : decode b_Card_store 23 = .ok (.iload 5, 2) := by decide +kernel
theorem d_Card_store_25 : decode b_Card_store 25 = .ok (.invokevirtual 49, 3) := by decide +kernel
theorem d_Card_store_28 : decode b_Card_store 28 = .ok (.invokevirtual 42, 3) := by decide +kernel
theorem d_Card_store_31 : decode b_Card_store 31 = .ok (.iconst 1, 1) := by decide +kernel
theorem d_Card_store_32 : decode b_Card_store 32 = .ok (.iadd, 1) := by decide +kernel
theorem d_Card_store_33 : decode b_Card_store 33 = .ok (.sipush 255, 3) := by decide +kernel
theorem d_Card_store_36 : decode b_Card_store 36 = .ok (.iand, 1) := by decide +kernel
theorem d_Card_store_37 : decode b_Card_store 37 = .ok (.istore 6, 2) := by decide +kernel
theorem d_Card_store_39 : decode b_Card_store 39 = .ok (.sipush 256, 3) := by decide +kernel
theorem d_Card_store_42 : decode b_Card_store 42 = .ok (.iload 6, 2) := by decide +kernel
theorem d_Card_store_44 : decode b_Card_store 44 = .ok (.imul, 1) := by decide +kernel
theorem d_Card_store_45 : decode b_Card_store 45 = .ok (.iload_n 2, 1) := by decide +kernel
theorem d_Card_store_46 : decode b_Card_store 46 = .ok (.iadd, 1) := by decide +kernel
theorem d_Card_store_47 : decode b_Card_store 47 = .ok (.istore 7, 2) := by decide +kernel
theorem d_Card_store_49 : decode b_Card_store 49 = .ok (.aload_n 0, 1) := by decide +kernel
theorem d_Card_store_50 : decode b_Card_store 50 = .ok (.iconst 1, 1) := by decide +kernel
theorem d_Card_store_51 : decode b_Card_store 51 = .ok (.iload 5, 2) := by decide +kernel
theorem d_Card_store_53 : decode b_Card_store 53 = .ok (.isub, 1) := by decide +kernel
theorem d_Card_store_54 : decode b_Card_store 54 = .ok (.invokevirtual 49, 3) := by decide +kernel
theorem d_Card_store_57 : decode b_Card_store 57 = .ok (.astore 8, 2) := by decide +kernel
theorem d_Card_store_59 : decode b_Card_store 59 = .ok (.aload_n 0, 1) := by decide +kernel
theorem d_Card_store_60 : decode b_Card_store 60 = .ok (.aload_n 0, 1) := by decide +kernel
theorem d_Card_store_61 : decode b_Card_store 61 = .ok (.getfield 23, 3) := by decide +kernel
theorem d_Card_store_64 : decode b_Card_store 64 = .ok (.iconst (-1), 1) := by decide +kernel
theorem d_Card_store_65 : decode b_Card_store 65 = .ok (.if_icmp .ne 8, 3) := by decide +kernel
theorem d_Card_store_68 : decode b_Card_store 68 = .ok (.bipush 44, 2) := by decide +kernel
theorem d_Card_store_70 : decode b_Card_store 70 = .ok (.goto 7, 3) := by decide +kernel
theorem d_Card_store_73 : decode b_Card_store 73 = .ok (.aload_n 0, 1) := by decide +kernel
theorem d_Card_store_74 : decode b_Card_store 74 = .ok (.getfield 23, 3) := by decide +kernel
theorem d_Card_store_77 : decode b_Card_store 77 = .ok (.putfield 26, 3) := by decide +kernel
theorem d_Card_store_80 : decode b_Card_store 80 = .ok (.aload_n 0, 1) := by decide +kernel
theorem d_Card_store_81 : decode b_Card_store 81 = .ok (.iconst (-1), 1) := by decide +kernel
theorem d_Card_store_82 : decode b_Card_store 82 = .ok (.putfield 23, 3) := by decide +kernel
theorem d_Card_store_85 : decode b_Card_store 85 = .ok (.aload_n 0, 1) := by decide +kernel
theorem d_Card_store_86 : decode b_Card_store 86 = .ok (.aload 8, 2) := by decide +kernel
theorem d_Card_store_88 : decode b_Card_store 88 = .ok (.iconst 0, 1) := by decide +kernel
theorem d_Card_store_89 : decode b_Card_store 89 = .ok (.iload 7, 2) := by decide +kernel
theorem d_Card_store_91 : decode b_Card_store 91 = .ok (.invokevirtual 57, 3) := by decide +kernel
theorem d_Card_store_94 : decode b_Card_store 94 = .ok (.aload_n 0, 1) := by decide +kernel
theorem d_Card_store_95 : decode b_Card_store 95 = .ok (.aload 8, 2) := by decide +kernel
theorem d_Card_store_97 : decode b_Card_store 97 = .ok (.iconst 1, 1) := by decide +kernel
theorem d_Card_store_98 : decode b_Card_store 98 = .ok (.iload_n 1, 1) := by decide +kernel
theorem d_Card_store_99 : decode b_Card_store 99 = .ok (.invokevirtual 57, 3) := by decide +kernel
theorem d_Card_store_102 : decode b_Card_store 102 = .ok (.aload_n 0, 1) := by decide +kernel
theorem d_Card_store_103 : decode b_Card_store 103 = .ok (.aload 8, 2) := by decide +kernel
theorem d_Card_store_105 : decode b_Card_store 105 = .ok (.iconst 2, 1) := by decide +kernel
theorem d_Card_store_106 : decode b_Card_store 106 = .ok (.iload_n 3, 1) := by decide +kernel
theorem d_Card_store_107 : decode b_Card_store 107 = .ok (.invokevirtual 57, 3) := by decide +kernel
theorem d_Card_store_110 : decode b_Card_store 110 = .ok (.iconst 0, 1) := by decide +kernel
theorem d_Card_store_111 : decode b_Card_store 111 = .ok (.istore 9, 2) := by decide +kernel
theorem d_Card_store_113 : decode b_Card_store 113 = .ok (.iload 9, 2) := by decide +kernel
theorem d_Card_store_115 : decode b_Card_store 115 = .ok (.iload_n 2, 1) := by decide +kernel
theorem d_Card_store_116 : decode b_Card_store 116 = .ok (.if_icmp .ge 28, 3) := by decide +kernel
theorem d_Card_store_119 : decode b_Card_store 119 = .ok (.aload_n 0, 1) := by decide +kernel
theorem d_Card_store_120 : decode b_Card_store 120 = .ok (.aload 8, 2) := by decide +kernel
theorem d_Card_store_122 : decode b_Card_store 122 = .ok (.iconst 3, 1) := by decide +kernel
theorem d_Card_store_123 : decode b_Card_store 123 = .ok (.iload 9, 2) := by decide +kernel
theorem d_Card_store_125 : decode b_Card_store 125 = .ok (.iadd, 1) := by decide +kernel
theorem d_Card_store_126 : decode b_Card_store 126 = .ok (.aload 4, 2) := by decide +kernel
theorem d_Card_store_128 : decode b_Card_store 128 = .ok (.iload_n 1, 1) := by decide +kernel
theorem d_Card_store_129 : decode b_Card_store 129 = .ok (.iload 9, 2) := by decide +kernel
theorem d_Card_store_131 : decode b_Card_store 131 = .ok (.iadd, 1) := by decide +kernel
theorem d_Card_store_132 : decode b_Card_store 132 = .ok (.invokevirtual 61, 3) := by decide +kernel
theorem d_Card_store_135 : decode b_Card_store 135 = .ok (.invokevirtual 57, 3) := by decide +kernel
theorem d_Card_store_138 : decode b_Card_store 138 = .ok (.iinc 9 1, 3) := by decide +kernel
theorem d_Card_store_141 : decode b_Card_store 141 = .ok (.goto (-28), 3) := by decide +kernel
theorem d_Card_store_144 : decode b_Card_store 144 = .ok (.aload_n 0, 1) := by decide +kernel
theorem d_Card_store_145 : decode b_Card_store 145 = .ok (.aload 8, 2) := by decide +kernel
theorem d_Card_store_147 : decode b_Card_store 147 = .ok (.bipush 43, 2) := by decide +kernel
theorem d_Card_store_149 : decode b_Card_store 149 = .ok (.iload 7, 2) := by decide +kernel
theorem d_Card_store_151 : decode b_Card_store 151 = .ok (.invokevirtual 57, 3) := by decide +kernel
theorem d_Card_store_154 : decode b_Card_store 154 = .ok (.return_, 1) := by decide +kernel
theorem d_Card_currentIndex_0 : decode b_Card_currentIndex 0 = .ok (.aload_n 0, 1) := by decide +kernel
theorem d_Card_currentIndex_1 : decode b_Card_currentIndex 1 = .ok (.getfield 16, 3) := by decide +kernel
theorem d_Card_currentIndex_4 : decode b_Card_currentIndex 4 = .ok (.invokevirtual 38, 3) := by decide +kernel
theorem d_Card_currentIndex_7 : decode b_Card_currentIndex 7 = .ok (.ifCond .ne 5, 3) := by decide +kernel
theorem d_Card_currentIndex_10 : decode b_Card_currentIndex 10 = .ok (.iconst 0, 1) := by decide +kernel
theorem d_Card_currentIndex_11 : decode b_Card_currentIndex 11 = .ok (.ireturn, 1) := by decide +kernel
theorem d_Card_currentIndex_12 : decode b_Card_currentIndex 12 = .ok (.aload_n 0, 1) := by decide +kernel
theorem d_Card_currentIndex_13 : decode b_Card_currentIndex 13 = .ok (.getfield 10, 3) := by decide +kernel
theorem d_Card_currentIndex_16 : decode b_Card_currentIndex 16 = .ok (.invokevirtual 38, 3) := by decide +kernel
theorem d_Card_currentIndex_19 : decode b_Card_currentIndex 19 = .ok (.ifCond .ne 5, 3) := by decide +kernel
theorem d_Card_currentIndex_22 : decode b_Card_currentIndex 22 = .ok (.iconst 1, 1) := by decide +kernel
theorem d_Card_currentIndex_23 : decode b_Card_currentIndex 23 = .ok (.ireturn, 1) := by decide +kernel
theorem d_Card_currentIndex_24 : decode b_Card_currentIndex 24 = .ok (.aload_n 0, 1) := by decide +kernel
theorem d_Card_currentIndex_25 : decode b_Card_currentIndex 25 = .ok (.getfield 16, 3) := by decide +kernel
theorem d_Card_currentIndex_28 : decode b_Card_currentIndex 28 = .ok (.invokevirtual 42, 3) := by decide +kernel
theorem d_Card_currentIndex_31 : decode b_Card_currentIndex 31 = .ok (.aload_n 0, 1) := by decide +kernel
theorem d_Card_currentIndex_32 : decode b_Card_currentIndex 32 = .ok (.getfield 10, 3) := by decide +kernel
theorem d_Card_currentIndex_35 : decode b_Card_currentIndex 35 = .ok (.invokevirtual 42, 3) := by decide +kernel
theorem d_Card_currentIndex_38 : decode b_Card_currentIndex 38 = .ok (.isub, 1) := by decide +kernel
theorem d_Card_currentIndex_39 : decode b_Card_currentIndex 39 = .ok (.i2b, 1) := by decide +kernel
theorem d_Card_currentIndex_40 : decode b_Card_currentIndex 40 = .ok (.istore_n 1, 1) := by decide +kernel
theorem d_Card_currentIndex_41 : decode b_Card_currentIndex 41 = .ok (.iload_n 1, 1) := by decide +kernel
theorem d_Card_currentIndex_42 : decode b_Card_currentIndex 42 = .ok (.ifCond .le 7, 3) := by decide +kernel
theorem d_Card_currentIndex_45 : decode b_Card_currentIndex 45 = .ok (.iconst 1, 1) := by decide +kernel
theorem d_Card_currentIndex_46 : decode b_Card_currentIndex 46 = .ok (.goto 4, 3) := by decide +kernel
theorem d_Card_currentIndex_49 : decode b_Card_currentIndex 49 = .ok (.iconst 0, 1) := by decide +kernel
theorem d_Card_currentIndex_50 : decode b_Card_currentIndex 50 = .ok (.ireturn, 1) := by decide +kernel
theorem d_Im_isWhole_0 : decode b_Im_isWhole 0 = .ok (.aload_n 0, 1) := by decide +kernel
theorem d_Im_isWhole_1 : decode b_Im_isWhole 1 = .ok (.iconst 0, 1) := by decide +kernel
theorem d_Im_isWhole_2 : decode b_Im_isWhole 2 = .ok (.invokevirtual 13, 3) := by decide +kernel
theorem d_Im_isWhole_5 : decode b_Im_isWhole 5 = .ok (.aload_n 0, 1) := by decide +kernel
theorem d_Im_isWhole_6 : decode b_Im_isWhole 6 = .ok (.bipush 43, 2) := by decide +kernel
theorem d_Im_isWhole_8 : decode b_Im_isWhole 8 = .ok (.invokevirtual 13, 3) := by decide +kernel
theorem d_Im_isWhole_11 : decode b_Im_isWhole 11 = .ok (.if_icmp .ne 7, 3) := by decide +kernel
theorem d_Im_isWhole_14 : decode b_Im_isWhole 14 = .ok (.iconst 1, 1) := by decide +kernel
theorem d_Im_isWhole_15 : decode b_Im_isWhole 15 = .ok (.goto 4, 3) := by decide +kernel
theorem d_Im_isWhole_18 : decode b_Im_isWhole 18 = .ok (.iconst 0, 1) := by decide +kernel
theorem d_Im_isWhole_19 : decode b_Im_isWhole 19 = .ok (.ireturn, 1) := by decide +kernel
theorem d_Im_at_0 : decode b_Im_at 0 = .ok (.iload_n 1, 1) := by decide +kernel
theorem d_Im_at_1 : decode b_Im_at 1 = .ok (.ifCond .lt 21, 3) := by decide +kernel
theorem d_Im_at_4 : decode b_Im_at 4 = .ok (.iload_n 1, 1) := by decide +kernel
theorem d_Im_at_5 : decode b_Im_at 5 = .ok (.aload_n 0, 1) := by decide +kernel
theorem d_Im_at_6 : decode b_Im_at 6 = .ok (.getfield 9, 3) := by decide +kernel
theorem d_Im_at_9 : decode b_Im_at 9 = .ok (.arraylength, 1) := by decide +kernel
theorem d_Im_at_10 : decode b_Im_at 10 = .ok (.if_icmp .ge 12, 3) := by decide +kernel
theorem d_Im_at_13 : decode b_Im_at 13 = .ok (.aload_n 0, 1) := by decide +kernel
theorem d_Im_at_14 : decode b_Im_at 14 = .ok (.getfield 9, 3) := by decide +kernel
theorem d_Im_at_17 : decode b_Im_at 17 = .ok (.iload_n 1, 1) := by decide +kernel
theorem d_Im_at_18 : decode b_Im_at 18 = .ok (.saload, 1) := by decide +kernel
theorem d_Im_at_19 : decode b_Im_at 19 = .ok (.goto 4, 3) := by decide +kernel
theorem d_Im_at_22 : decode b_Im_at 22 = .ok (.iconst 0, 1) := by decide +kernel
theorem d_Im_at_23 : decode b_Im_at 23 = .ok (.ireturn, 1) := by decide +kernel
theorem d_Im_sequence_0 : decode b_Im_sequence 0 = .ok (.aload_n 0, 1) := by decide +kernel
theorem d_Im_sequence_1 : decode b_Im_sequence 1 = .ok (.iconst 0, 1) := by decide +kernel
theorem d_Im_sequence_2 : decode b_Im_sequence 2 = .ok (.invokevirtual 13, 3) := by decide +kernel
theorem d_Im_sequence_5 : decode b_Im_sequence 5 = .ok (.bipush 8, 2) := by decide +kernel
theorem d_Im_sequence_7 : decode b_Im_sequence 7 = .ok (.ishr, 1) := by decide +kernel
theorem d_Im_sequence_8 : decode b_Im_sequence 8 = .ok (.sipush 255, 3) := by decide +kernel
theorem d_Im_sequence_11 : decode b_Im_sequence 11 = .ok (.iand, 1) := by decide +kernel
theorem d_Im_sequence_12 : decode b_Im_sequence 12 = .ok (.ireturn, 1) := by decide +kernel
theorem d_Card_image_0 : decode b_Card_image 0 = .ok (.iload_n 1, 1) := by decide +kernel
theorem d_Card_image_1 : decode b_Card_image 1 = .ok (.ifCond .ne 10, 3) := by decide +kernel
theorem d_Card_image_4 : decode b_Card_image 4 = .ok (.aload_n 0, 1) := by decide +kernel
theorem d_Card_image_5 : decode b_Card_image 5 = .ok (.getfield 10, 3) := by decide +kernel
theorem d_Card_image_8 : decode b_Card_image 8 = .ok (.goto 7, 3) := by decide +kernel
theorem d_Card_image_11 : decode b_Card_image 11 = .ok (.aload_n 0, 1) := by decide +kernel
theorem d_Card_image_12 : decode b_Card_image 12 = .ok (.getfield 16, 3) := by decide +kernel
theorem d_Card_image_15 : decode b_Card_image 15 = .ok (.areturn, 1) := by decide +kernel
theorem d_Im_tells_0 : decode b_Im_tells 0 = .ok (.aload_n 0, 1) := by decide +kernel
theorem d_Im_tells_1 : decode b_Im_tells 1 = .ok (.iconst 1, 1) := by decide +kernel
theorem d_Im_tells_2 : decode b_Im_tells 2 = .ok (.invokevirtual 13, 3) := by decide +kernel
theorem d_Im_tells_5 : decode b_Im_tells 5 = .ok (.iload_n 1, 1) := by decide +kernel
theorem d_Im_tells_6 : decode b_Im_tells 6 = .ok (.if_icmp .ne 24, 3) := by decide +kernel
theorem d_Im_tells_9 : decode b_Im_tells 9 = .ok (.aload_n 0, 1) := by decide +kernel
theorem d_Im_tells_10 : decode b_Im_tells 10 = .ok (.invokevirtual 17, 3) := by decide +kernel
theorem d_Im_tells_13 : decode b_Im_tells 13 = .ok (.iload_n 2, 1) := by decide +kernel
theorem d_Im_tells_14 : decode b_Im_tells 14 = .ok (.if_icmp .ne 16, 3) := by decide +kernel
theorem d_Im_tells_17 : decode b_Im_tells 17 = .ok (.aload_n 0, 1) := by decide +kernel
theorem d_Im_tells_18 : decode b_Im_tells 18 = .ok (.iconst 2, 1) := by decide +kernel
theorem d_Im_tells_19 : decode b_Im_tells 19 = .ok (.invokevirtual 13, 3) := by decide +kernel
theorem d_Im_tells_22 : decode b_Im_tells 22 = .ok (.iload_n 3, 1) := by decide +kernel
theorem d_Im_tells_23 : decode b_Im_tells 23 = .ok (.if_icmp .ne 7, 3) := by decide +kernel
theorem d_Im_tells_26 : decode b_Im_tells 26 = .ok (.iconst 1, 1) := by decide +kernel
theorem d_Im_tells_27 : decode b_Im_tells 27 = .ok (.goto 4, 3) := by decide +kernel
theorem d_Im_tells_30 : decode b_Im_tells 30 = .ok (.iconst 0, 1) := by decide +kernel
theorem d_Im_tells_31 : decode b_Im_tells 31 = .ok (.ireturn, 1) := by decide +kernel
theorem d_Im_count_0 : decode b_Im_count 0 = .ok (.aload_n 0, 1) := by decide +kernel
theorem d_Im_count_1 : decode b_Im_count 1 = .ok (.iconst 0, 1) := by decide +kernel
theorem d_Im_count_2 : decode b_Im_count 2 = .ok (.invokevirtual 13, 3) := by decide +kernel
theorem d_Im_count_5 : decode b_Im_count 5 = .ok (.sipush 255, 3) := by decide +kernel
theorem d_Im_count_8 : decode b_Im_count 8 = .ok (.iand, 1) := by decide +kernel
theorem d_Im_count_9 : decode b_Im_count 9 = .ok (.ireturn, 1) := by decide +kernel
theorem d_Card_putNext_0 : decode b_Card_putNext 0 = .ok (.aload_n 0, 1) := by decide +kernel
theorem d_Card_putNext_1 : decode b_Card_putNext 1 = .ok (.getfield 26, 3) := by decide +kernel
theorem d_Card_putNext_4 : decode b_Card_putNext 4 = .ok (.ifCond .le 29, 3) := by decide +kernel
theorem d_Card_putNext_7 : decode b_Card_putNext 7 = .ok (.aload_n 1, 1) := by decide +kernel
theorem d_Card_putNext_8 : decode b_Card_putNext 8 = .ok (.iload_n 2, 1) := by decide +kernel
theorem d_Card_putNext_9 : decode b_Card_putNext 9 = .ok (.iload_n 3, 1) := by decide +kernel
theorem d_Card_putNext_10 : decode b_Card_putNext 10 = .ok (.invokevirtual 67, 3) := by decide +kernel
theorem d_Card_putNext_13 : decode b_Card_putNext 13 = .ok (.aload_n 0, 1) := by decide +kernel
theorem d_Card_putNext_14 : decode b_Card_putNext 14 = .ok (.dup, 1) := by decide +kernel
theorem d_Card_putNext_15 : decode b_Card_putNext 15 = .ok (.getfield 26, 3) := by decide +kernel
theorem d_Card_putNext_18 : decode b_Card_putNext 18 = .ok (.iconst 1, 1) := by decide +kernel
theorem d_Card_putNext_19 : decode b_Card_putNext 19 = .ok (.isub, 1) := by decide +kernel
theorem d_Card_putNext_20 : decode b_Card_putNext 20 = .ok (.putfield 26, 3) := by decide +kernel
theorem d_Card_putNext_23 : decode b_Card_putNext 23 = .ok (.aload_n 0, 1) := by decide +kernel
theorem d_Card_putNext_24 : decode b_Card_putNext 24 = .ok (.dup, 1) := by decide +kernel
theorem d_Card_putNext_25 : decode b_Card_putNext 25 = .ok (.getfield 29, 3) := by decide +kernel
theorem d_Card_putNext_28 : decode b_Card_putNext 28 = .ok (.iconst 1, 1) := by decide +kernel
theorem d_Card_putNext_29 : decode b_Card_putNext 29 = .ok (.iadd, 1) := by decide +kernel
theorem d_Card_putNext_30 : decode b_Card_putNext 30 = .ok (.putfield 29, 3) := by decide +kernel
theorem d_Card_putNext_33 : decode b_Card_putNext 33 = .ok (.return_, 1) := by decide +kernel
theorem d_Im_put_0 : decode b_Im_put 0 = .ok (.iload_n 1, 1) := by decide +kernel
theorem d_Im_put_1 : decode b_Im_put 1 = .ok (.ifCond .lt 20, 3) := by decide +kernel
theorem d_Im_put_4 : decode b_Im_put 4 = .ok (.iload_n 1, 1) := by decide +kernel
theorem d_Im_put_5 : decode b_Im_put 5 = .ok (.aload_n 0, 1) := by decide +kernel
theorem d_Im_put_6 : decode b_Im_put 6 = .ok (.getfield 9, 3) := by decide +kernel
theorem d_Im_put_9 : decode b_Im_put 9 = .ok (.arraylength, 1) := by decide +kernel
theorem d_Im_put_10 : decode b_Im_put 10 = .ok (.if_icmp .ge 11, 3) := by decide +kernel
theorem d_Im_put_13 : decode b_Im_put 13 = .ok (.aload_n 0, 1) := by decide +kernel
theorem d_Im_put_14 : decode b_Im_put 14 = .ok (.getfield 9, 3) := by decide +kernel
theorem d_Im_put_17 : decode b_Im_put 17 = .ok (.iload_n 1, 1) := by decide +kernel
theorem d_Im_put_18 : decode b_Im_put 18 = .ok (.iload_n 2, 1) := by decide +kernel
theorem d_Im_put_19 : decode b_Im_put 19 = .ok (.i2s, 1) := by decide +kernel
theorem d_Im_put_20 : decode b_Im_put 20 = .ok (.sastore, 1) := by decide +kernel
theorem d_Im_put_21 : decode b_Im_put 21 = .ok (.return_, 1) := by decide +kernel
theorem d_EL_cardOf_0 : decode b_EL_cardOf 0 = .ok (.aload_n 0, 1) := by decide +kernel
theorem d_EL_cardOf_1 : decode b_EL_cardOf 1 = .ok (.iload_n 1, 1) := by decide +kernel
theorem d_EL_cardOf_2 : decode b_EL_cardOf 2 = .ok (.invokevirtual 31, 3) := by decide +kernel
theorem d_EL_cardOf_5 : decode b_EL_cardOf 5 = .ok (.ifCond .eq 22, 3) := by decide +kernel
theorem d_EL_cardOf_8 : decode b_EL_cardOf 8 = .ok (.aload_n 0, 1) := by decide +kernel
theorem d_EL_cardOf_9 : decode b_EL_cardOf 9 = .ok (.getfield 12, 3) := by decide +kernel
theorem d_EL_cardOf_12 : decode b_EL_cardOf 12 = .ok (.iload_n 1, 1) := by decide +kernel
theorem d_EL_cardOf_13 : decode b_EL_cardOf 13 = .ok (.iconst 1, 1) := by decide +kernel
theorem d_EL_cardOf_14 : decode b_EL_cardOf 14 = .ok (.isub, 1) := by decide +kernel
theorem d_EL_cardOf_15 : decode b_EL_cardOf 15 = .ok (.invokevirtual 35, 3) := by decide +kernel
theorem d_EL_cardOf_18 : decode b_EL_cardOf 18 = .ok (.checkcast 22, 3) := by decide +kernel
theorem d_EL_cardOf_21 : decode b_EL_cardOf 21 = .ok (.getfield 39, 3) := by decide +kernel
theorem d_EL_cardOf_24 : decode b_EL_cardOf 24 = .ok (.goto 4, 3) := by decide +kernel
theorem d_EL_cardOf_27 : decode b_EL_cardOf 27 = .ok (.iconst (-1), 1) := by decide +kernel
theorem d_EL_cardOf_28 : decode b_EL_cardOf 28 = .ok (.ireturn, 1) := by decide +kernel
theorem d_EL_holds_0 : decode b_EL_holds 0 = .ok (.iload_n 1, 1) := by decide +kernel
theorem d_EL_holds_1 : decode b_EL_holds 1 = .ok (.iconst 1, 1) := by decide +kernel
theorem d_EL_holds_2 : decode b_EL_holds 2 = .ok (.if_icmp .lt 18, 3) := by decide +kernel
theorem d_EL_holds_5 : decode b_EL_holds 5 = .ok (.iload_n 1, 1) := by decide +kernel
theorem d_EL_holds_6 : decode b_EL_holds 6 = .ok (.aload_n 0, 1) := by decide +kernel
theorem d_EL_holds_7 : decode b_EL_holds 7 = .ok (.getfield 12, 3) := by decide +kernel
theorem d_EL_holds_10 : decode b_EL_holds 10 = .ok (.invokevirtual 18, 3) := by decide +kernel
theorem d_EL_holds_13 : decode b_EL_holds 13 = .ok (.if_icmp .gt 7, 3) := by decide +kernel
theorem d_EL_holds_16 : decode b_EL_holds 16 = .ok (.iconst 1, 1) := by decide +kernel
theorem d_EL_holds_17 : decode b_EL_holds 17 = .ok (.goto 4, 3) := by decide +kernel
theorem d_EL_holds_20 : decode b_EL_holds 20 = .ok (.iconst 0, 1) := by decide +kernel
theorem d_EL_holds_21 : decode b_EL_holds 21 = .ok (.ireturn, 1) := by decide +kernel
theorem d_H_zoneOf_0 : decode b_H_zoneOf 0 = .ok (.aload_n 0, 1) := by decide +kernel
theorem d_H_zoneOf_1 : decode b_H_zoneOf 1 = .ok (.iload_n 1, 1) := by decide +kernel
theorem d_H_zoneOf_2 : decode b_H_zoneOf 2 = .ok (.invokevirtual 95, 3) := by decide +kernel
theorem d_H_zoneOf_5 : decode b_H_zoneOf 5 = .ok (.astore_n 3, 1) := by decide +kernel
theorem d_H_zoneOf_6 : decode b_H_zoneOf 6 = .ok (.iload_n 2, 1) := by decide +kernel
theorem d_H_zoneOf_7 : decode b_H_zoneOf 7 = .ok (.ifCond .lt 9, 3) := by decide +kernel
theorem d_H_zoneOf_10 : decode b_H_zoneOf 10 = .ok (.iload_n 2, 1) := by decide +kernel
theorem d_H_zoneOf_11 : decode b_H_zoneOf 11 = .ok (.bipush 32, 2) := by decide +kernel
theorem d_H_zoneOf_13 : decode b_H_zoneOf 13 = .ok (.if_icmp .lt 13, 3) := by decide +kernel
theorem d_H_zoneOf_16 : decode b_H_zoneOf 16 = .ok (.new 99, 3) := by decide +kernel
theorem d_H_zoneOf_19 : decode b_H_zoneOf 19 = .ok (.dup, 1) := by decide +kernel
theorem d_H_zoneOf_20 : decode b_H_zoneOf 20 = .ok (.ldc 101, 2) := by decide +kernel
theorem d_H_zoneOf_22 : decode b_H_zoneOf 22 = .ok (.invokespecial 103, 3) := by decide +kernel
theorem d_H_zoneOf_25 : decode b_H_zoneOf 25 = .ok (.athrow, 1) := by decide +kernel
theorem d_H_zoneOf_26 : decode b_H_zoneOf 26 = .ok (.aload_n 3, 1) := by decide +kernel
theorem d_H_zoneOf_27 : decode b_H_zoneOf 27 = .ok (.getfield 104, 3) := by decide +kernel
theorem d_H_zoneOf_30 : decode b_H_zoneOf 30 = .ok (.ifCond .eq 13, 3) := by decide +kernel
theorem d_H_zoneOf_33 : decode b_H_zoneOf 33 = .ok (.new 52, 3) := by decide +kernel
theorem d_H_zoneOf_36 : decode b_H_zoneOf 36 = .ok (.dup, 1) := by decide +kernel
theorem d_H_zoneOf_37 : decode b_H_zoneOf 37 = .ok (.ldc 108, 2) := by decide +kernel
theorem d_H_zoneOf_39 : decode b_H_zoneOf 39 = .ok (.invokespecial 56, 3) := by decide +kernel
theorem d_H_zoneOf_42 : decode b_H_zoneOf 42 = .ok (.athrow, 1) := by decide +kernel
theorem d_H_zoneOf_43 : decode b_H_zoneOf 43 = .ok (.aload_n 3, 1) := by decide +kernel
theorem d_H_zoneOf_44 : decode b_H_zoneOf 44 = .ok (.iload_n 2, 1) := by decide +kernel
theorem d_H_zoneOf_45 : decode b_H_zoneOf 45 = .ok (.putfield 110, 3) := by decide +kernel
theorem d_H_zoneOf_48 : decode b_H_zoneOf 48 = .ok (.return_, 1) := by decide +kernel
theorem d_H_doorAt_0 : decode b_H_doorAt 0 = .ok (.aload_n 0, 1) := by decide +kernel
theorem d_H_doorAt_1 : decode b_H_doorAt 1 = .ok (.iload_n 1, 1) := by decide +kernel
theorem d_H_doorAt_2 : decode b_H_doorAt 2 = .ok (.invokevirtual 196, 3) := by decide +kernel
theorem d_H_doorAt_5 : decode b_H_doorAt 5 = .ok (.ifCond .ne 13, 3) := by decide +kernel
theorem d_H_doorAt_8 : decode b_H_doorAt 8 = .ok (.new 127, 3) := by decide +kernel
theorem d_H_doorAt_11 : decode b_H_doorAt 11 = .ok (.dup, 1) := by decide +kernel
theorem d_H_doorAt_12 : decode b_H_doorAt 12 = .ok (.ldc 209, 2) := by decide +kernel
theorem d_H_doorAt_14 : decode b_H_doorAt 14 = .ok (.invokespecial 131, 3) := by decide +kernel
theorem d_H_doorAt_17 : decode b_H_doorAt 17 = .ok (.athrow, 1) := by decide +kernel
theorem d_H_doorAt_18 : decode b_H_doorAt 18 = .ok (.aload_n 0, 1) := by decide +kernel
theorem d_H_doorAt_19 : decode b_H_doorAt 19 = .ok (.getfield 25, 3) := by decide +kernel
theorem d_H_doorAt_22 : decode b_H_doorAt 22 = .ok (.iload_n 1, 1) := by decide +kernel
theorem d_H_doorAt_23 : decode b_H_doorAt 23 = .ok (.aaload, 1) := by decide +kernel
theorem d_H_doorAt_24 : decode b_H_doorAt 24 = .ok (.areturn, 1) := by decide +kernel
theorem d_H_isDoor_0 : decode b_H_isDoor 0 = .ok (.iload_n 1, 1) := by decide +kernel
theorem d_H_isDoor_1 : decode b_H_isDoor 1 = .ok (.ifCond .lt 16, 3) := by decide +kernel
theorem d_H_isDoor_4 : decode b_H_isDoor 4 = .ok (.iload_n 1, 1) := by decide +kernel
theorem d_H_isDoor_5 : decode b_H_isDoor 5 = .ok (.aload_n 0, 1) := by decide +kernel
theorem d_H_isDoor_6 : decode b_H_isDoor 6 = .ok (.getfield 25, 3) := by decide +kernel
theorem d_H_isDoor_9 : decode b_H_isDoor 9 = .ok (.arraylength, 1) := by decide +kernel
theorem d_H_isDoor_10 : decode b_H_isDoor 10 = .ok (.if_icmp .ge 7, 3) := by decide +kernel
theorem d_H_isDoor_13 : decode b_H_isDoor 13 = .ok (.iconst 1, 1) := by decide +kernel
theorem d_H_isDoor_14 : decode b_H_isDoor 14 = .ok (.goto 4, 3) := by decide +kernel
theorem d_H_isDoor_17 : decode b_H_isDoor 17 = .ok (.iconst 0, 1) := by decide +kernel
theorem d_H_isDoor_18 : decode b_H_isDoor 18 = .ok (.ireturn, 1) := by decide +kernel
theorem d_H_show_0 : decode b_H_show 0 = .ok (.aload_n 0, 1) := by decide +kernel
theorem d_H_show_1 : decode b_H_show 1 = .ok (.iload_n 1, 1) := by decide +kernel
theorem d_H_show_2 : decode b_H_show 2 = .ok (.invokevirtual 68, 3) := by decide +kernel
theorem d_H_show_5 : decode b_H_show 5 = .ok (.astore 4, 2) := by decide +kernel
theorem d_H_show_7 : decode b_H_show 7 = .ok (.aload_n 0, 1) := by decide +kernel
theorem d_H_show_8 : decode b_H_show 8 = .ok (.iload_n 2, 1) := by decide +kernel
theorem d_H_show_9 : decode b_H_show 9 = .ok (.invokevirtual 95, 3) := by decide +kernel
theorem d_H_show_12 : decode b_H_show 12 = .ok (.astore 5, 2) := by decide +kernel
theorem d_H_show_14 : decode b_H_show 14 = .ok (.aload_n 0, 1) := by decide +kernel
theorem d_H_show_15 : decode b_H_show 15 = .ok (.aload 4, 2) := by decide +kernel
theorem d_H_show_17 : decode b_H_show 17 = .ok (.aload 5, 2) := by decide +kernel
theorem d_H_show_19 : decode b_H_show 19 = .ok (.iload_n 3, 1) := by decide +kernel
theorem d_H_show_20 : decode b_H_show 20 = .ok (.invokevirtual 113, 3) := by decide +kernel
theorem d_H_show_23 : decode b_H_show 23 = .ok (.ireturn, 1) := by decide +kernel
theorem d_H_present_0 : decode b_H_present 0 = .ok (.aload_n 2, 1) := by decide +kernel
theorem d_H_present_1 : decode b_H_present 1 = .ok (.aload_n 1, 1) := by decide +kernel
theorem d_H_present_2 : decode b_H_present 2 = .ok (.invokevirtual 142, 3) := by decide +kernel
theorem d_H_present_5 : decode b_H_present 5 = .ok (.aload_n 0, 1) := by decide +kernel
theorem d_H_present_6 : decode b_H_present 6 = .ok (.getfield 19, 3) := by decide +kernel
theorem d_H_present_9 : decode b_H_present 9 = .ok (.invokevirtual 211, 3) := by decide +kernel
theorem d_H_present_12 : decode b_H_present 12 = .ok (.aload_n 2, 1) := by decide +kernel
theorem d_H_present_13 : decode b_H_present 13 = .ok (.aload_n 1, 1) := by decide +kernel
theorem d_H_present_14 : decode b_H_present 14 = .ok (.iload_n 3, 1) := by decide +kernel
theorem d_H_present_15 : decode b_H_present 15 = .ok (.aload_n 0, 1) := by decide +kernel
theorem d_H_present_16 : decode b_H_present 16 = .ok (.getfield 19, 3) := by decide +kernel
theorem d_H_present_19 : decode b_H_present 19 = .ok (.invokevirtual 215, 3) := by decide +kernel
theorem d_H_present_22 : decode b_H_present 22 = .ok (.istore 4, 2) := by decide +kernel
theorem d_H_present_24 : decode b_H_present 24 = .ok (.aload_n 2, 1) := by decide +kernel
theorem d_H_present_25 : decode b_H_present 25 = .ok (.aload_n 1, 1) := by decide +kernel
theorem d_H_present_26 : decode b_H_present 26 = .ok (.aload_n 0, 1) := by decide +kernel
theorem d_H_present_27 : decode b_H_present 27 = .ok (.getfield 19, 3) := by decide +kernel
theorem d_H_present_30 : decode b_H_present 30 = .ok (.invokevirtual 219, 3) := by decide +kernel
theorem d_H_present_33 : decode b_H_present 33 = .ok (.iload 4, 2) := by decide +kernel
theorem d_H_present_35 : decode b_H_present 35 = .ok (.ireturn, 1) := by decide +kernel
theorem d_Card_current_0 : decode b_Card_current 0 = .ok (.aload_n 0, 1) := by decide +kernel
theorem d_Card_current_1 : decode b_Card_current 1 = .ok (.aload_n 0, 1) := by decide +kernel
theorem d_Card_current_2 : decode b_Card_current 2 = .ok (.invokevirtual 46, 3) := by decide +kernel
theorem d_Card_current_5 : decode b_Card_current 5 = .ok (.invokevirtual 49, 3) := by decide +kernel
theorem d_Card_current_8 : decode b_Card_current 8 = .ok (.areturn, 1) := by decide +kernel
theorem d_Door_take_0 : decode b_Door_take 0 = .ok (.aload_n 1, 1) := by decide +kernel
theorem d_Door_take_1 : decode b_Door_take 1 = .ok (.iconst 1, 1) := by decide +kernel
theorem d_Door_take_2 : decode b_Door_take 2 = .ok (.invokevirtual 36, 3) := by decide +kernel
theorem d_Door_take_5 : decode b_Door_take 5 = .ok (.istore_n 3, 1) := by decide +kernel
theorem d_Door_take_6 : decode b_Door_take 6 = .ok (.aload_n 1, 1) := by decide +kernel
theorem d_Door_take_7 : decode b_Door_take 7 = .ok (.invokevirtual 40, 3) := by decide +kernel
theorem d_Door_take_10 : decode b_Door_take 10 = .ok (.istore 4, 2) := by decide +kernel
theorem d_Door_take_12 : decode b_Door_take 12 = .ok (.iconst 0, 1) := by decide +kernel
theorem d_Door_take_13 : decode b_Door_take 13 = .ok (.istore 5, 2) := by decide +kernel
theorem d_Door_take_15 : decode b_Door_take 15 = .ok (.iload 5, 2) := by decide +kernel
theorem d_Door_take_17 : decode b_Door_take 17 = .ok (.iload 4, 2) := by decide +kernel
theorem d_Door_take_19 : decode b_Door_take 19 = .ok (.if_icmp .ge 21, 3) := by decide +kernel
theorem d_Door_take_22 : decode b_Door_take 22 = .ok (.aload_n 2, 1) := by decide +kernel
theorem d_Door_take_23 : decode b_Door_take 23 = .ok (.iload_n 3, 1) := by decide +kernel
theorem d_Door_take_24 : decode b_Door_take 24 = .ok (.iload 5, 2) := by decide +kernel
theorem d_Door_take_26 : decode b_Door_take 26 = .ok (.iadd, 1) := by decide +kernel
theorem d_Door_take_27 : decode b_Door_take 27 = .ok (.aload_n 0, 1) := by decide +kernel
theorem d_Door_take_28 : decode b_Door_take 28 = .ok (.getfield 25, 3) := by decide +kernel
theorem d_Door_take_31 : decode b_Door_take 31 = .ok (.invokevirtual 44, 3) := by decide +kernel
theorem d_Door_take_34 : decode b_Door_take 34 = .ok (.iinc 5 1, 3) := by decide +kernel
theorem d_Door_take_37 : decode b_Door_take 37 = .ok (.goto (-22), 3) := by decide +kernel
theorem d_Door_take_40 : decode b_Door_take 40 = .ok (.iload 4, 2) := by decide +kernel
theorem d_Door_take_42 : decode b_Door_take 42 = .ok (.ifCond .le 20, 3) := by decide +kernel
theorem d_Door_take_45 : decode b_Door_take 45 = .ok (.aload_n 0, 1) := by decide +kernel
theorem d_Door_take_46 : decode b_Door_take 46 = .ok (.aload_n 0, 1) := by decide +kernel
theorem d_Door_take_47 : decode b_Door_take 47 = .ok (.getfield 18, 3) := by decide +kernel
theorem d_Door_take_50 : decode b_Door_take 50 = .ok (.iload_n 3, 1) := by decide +kernel
theorem d_Door_take_51 : decode b_Door_take 51 = .ok (.iload 4, 2) := by decide +kernel
theorem d_Door_take_53 : decode b_Door_take 53 = .ok (.iadd, 1) := by decide +kernel
theorem d_Door_take_54 : decode b_Door_take 54 = .ok (.iconst 1, 1) := by decide +kernel
theorem d_Door_take_55 : decode b_Door_take 55 = .ok (.isub, 1) := by decide +kernel
theorem d_Door_take_56 : decode b_Door_take 56 = .ok (.invokestatic 48, 3) := by decide +kernel
theorem d_Door_take_59 : decode b_Door_take 59 = .ok (.putfield 18, 3) := by decide +kernel
theorem d_Door_take_62 : decode b_Door_take 62 = .ok (.aload_n 0, 1) := by decide +kernel
theorem d_Door_take_63 : decode b_Door_take 63 = .ok (.aload_n 0, 1) := by decide +kernel
theorem d_Door_take_64 : decode b_Door_take 64 = .ok (.getfield 15, 3) := by decide +kernel
theorem d_Door_take_67 : decode b_Door_take 67 = .ok (.aload_n 1, 1) := by decide +kernel
theorem d_Door_take_68 : decode b_Door_take 68 = .ok (.iconst 2, 1) := by decide +kernel
theorem d_Door_take_69 : decode b_Door_take 69 = .ok (.invokevirtual 36, 3) := by decide +kernel
theorem d_Door_take_72 : decode b_Door_take 72 = .ok (.invokestatic 48, 3) := by decide +kernel
theorem d_Door_take_75 : decode b_Door_take 75 = .ok (.putfield 15, 3) := by decide +kernel
theorem d_Door_take_78 : decode b_Door_take 78 = .ok (.aload_n 0, 1) := by decide +kernel
theorem d_Door_take_79 : decode b_Door_take 79 = .ok (.iconst 1, 1) := by decide +kernel
theorem d_Door_take_80 : decode b_Door_take 80 = .ok (.putfield 21, 3) := by decide +kernel
theorem d_Door_take_83 : decode b_Door_take 83 = .ok (.return_, 1) := by decide +kernel
theorem d_EL_bringTo_0 : decode b_EL_bringTo 0 = .ok (.aload_n 0, 1) := by decide +kernel
theorem d_EL_bringTo_1 : decode b_EL_bringTo 1 = .ok (.iload_n 1, 1) := by decide +kernel
theorem d_EL_bringTo_2 : decode b_EL_bringTo 2 = .ok (.invokevirtual 31, 3) := by decide +kernel
theorem d_EL_bringTo_5 : decode b_EL_bringTo 5 = .ok (.ifCond .eq 20, 3) := by decide +kernel
theorem d_EL_bringTo_8 : decode b_EL_bringTo 8 = .ok (.aload_n 0, 1) := by decide +kernel
theorem d_EL_bringTo_9 : decode b_EL_bringTo 9 = .ok (.getfield 12, 3) := by decide +kernel
theorem d_EL_bringTo_12 : decode b_EL_bringTo 12 = .ok (.iload_n 1, 1) := by decide +kernel
theorem d_EL_bringTo_13 : decode b_EL_bringTo 13 = .ok (.iconst 1, 1) := by decide +kernel
theorem d_EL_bringTo_14 : decode b_EL_bringTo 14 = .ok (.isub, 1) := by decide +kernel
theorem d_EL_bringTo_15 : decode b_EL_bringTo 15 = .ok (.invokevirtual 35, 3) := by decide +kernel
theorem d_EL_bringTo_18 : decode b_EL_bringTo 18 = .ok (.checkcast 22, 3) := by decide +kernel
theorem d_EL_bringTo_21 : decode b_EL_bringTo 21 = .ok (.iload_n 2, 1) := by decide +kernel
theorem d_EL_bringTo_22 : decode b_EL_bringTo 22 = .ok (.invokevirtual 46, 3) := by decide +kernel
theorem d_EL_bringTo_25 : decode b_EL_bringTo 25 = .ok (.return_, 1) := by decide +kernel
theorem d_Entry_bringTo_0 : decode b_Entry_bringTo 0 = .ok (.iload_n 1, 1) := by decide +kernel
theorem d_Entry_bringTo_1 : decode b_Entry_bringTo 1 = .ok (.ifCond .lt 19, 3) := by decide +kernel
theorem d_Entry_bringTo_4 : decode b_Entry_bringTo 4 = .ok (.iload_n 1, 1) := by decide +kernel
theorem d_Entry_bringTo_5 : decode b_Entry_bringTo 5 = .ok (.aload_n 0, 1) := by decide +kernel
theorem d_Entry_bringTo_6 : decode b_Entry_bringTo 6 = .ok (.getfield 9, 3) := by decide +kernel
theorem d_Entry_bringTo_9 : decode b_Entry_bringTo 9 = .ok (.arraylength, 1) := by decide +kernel
theorem d_Entry_bringTo_10 : decode b_Entry_bringTo 10 = .ok (.if_icmp .ge 10, 3) := by decide +kernel
theorem d_Entry_bringTo_13 : decode b_Entry_bringTo 13 = .ok (.aload_n 0, 1) := by decide +kernel
theorem d_Entry_bringTo_14 : decode b_Entry_bringTo 14 = .ok (.getfield 9, 3) := by decide +kernel
theorem d_Entry_bringTo_17 : decode b_Entry_bringTo 17 = .ok (.iload_n 1, 1) := by decide +kernel
theorem d_Entry_bringTo_18 : decode b_Entry_bringTo 18 = .ok (.iconst 1, 1) := by decide +kernel
theorem d_Entry_bringTo_19 : decode b_Entry_bringTo 19 = .ok (.bastore, 1) := by decide +kernel
theorem d_Entry_bringTo_20 : decode b_Entry_bringTo 20 = .ok (.return_, 1) := by decide +kernel
theorem d_Door_judge_0 : decode b_Door_judge 0 = .ok (.aload_n 0, 1) := by decide +kernel
theorem d_Door_judge_1 : decode b_Door_judge 1 = .ok (.aload_n 1, 1) := by decide +kernel
theorem d_Door_judge_2 : decode b_Door_judge 2 = .ok (.getfield 54, 3) := by decide +kernel
theorem d_Door_judge_5 : decode b_Door_judge 5 = .ok (.aload_n 3, 1) := by decide +kernel
theorem d_Door_judge_6 : decode b_Door_judge 6 = .ok (.invokevirtual 59, 3) := by decide +kernel
theorem d_Door_judge_9 : decode b_Door_judge 9 = .ok (.ifCond .eq 5, 3) := by decide +kernel
theorem d_Door_judge_12 : decode b_Door_judge 12 = .ok (.iconst 1, 1) := by decide +kernel
theorem d_Door_judge_13 : decode b_Door_judge 13 = .ok (.ireturn, 1) := by decide +kernel
theorem d_Door_judge_14 : decode b_Door_judge 14 = .ok (.aload_n 1, 1) := by decide +kernel
theorem d_Door_judge_15 : decode b_Door_judge 15 = .ok (.getfield 63, 3) := by decide +kernel
theorem d_Door_judge_18 : decode b_Door_judge 18 = .ok (.iload_n 2, 1) := by decide +kernel
theorem d_Door_judge_19 : decode b_Door_judge 19 = .ok (.if_icmp .ge 5, 3) := by decide +kernel
theorem d_Door_judge_22 : decode b_Door_judge 22 = .ok (.iconst 2, 1) := by decide +kernel
theorem d_Door_judge_23 : decode b_Door_judge 23 = .ok (.ireturn, 1) := by decide +kernel
theorem d_Door_judge_24 : decode b_Door_judge 24 = .ok (.aload_n 1, 1) := by decide +kernel
theorem d_Door_judge_25 : decode b_Door_judge 25 = .ok (.aload_n 0, 1) := by decide +kernel
theorem d_Door_judge_26 : decode b_Door_judge 26 = .ok (.getfield 9, 3) := by decide +kernel
theorem d_Door_judge_29 : decode b_Door_judge 29 = .ok (.invokevirtual 66, 3) := by decide +kernel
theorem d_Door_judge_32 : decode b_Door_judge 32 = .ok (.ifCond .eq 7, 3) := by decide +kernel
theorem d_Door_judge_35 : decode b_Door_judge 35 = .ok (.iconst 0, 1) := by decide +kernel
theorem d_Door_judge_36 : decode b_Door_judge 36 = .ok (.goto 4, 3) := by decide +kernel
theorem d_Door_judge_39 : decode b_Door_judge 39 = .ok (.iconst 3, 1) := by decide +kernel
theorem d_Door_judge_40 : decode b_Door_judge 40 = .ok (.ireturn, 1) := by decide +kernel
theorem d_Door_has_0 : decode b_Door_has 0 = .ok (.aload_n 2, 1) := by decide +kernel
theorem d_Door_has_1 : decode b_Door_has 1 = .ok (.iload_n 1, 1) := by decide +kernel
theorem d_Door_has_2 : decode b_Door_has 2 = .ok (.aload_n 0, 1) := by decide +kernel
theorem d_Door_has_3 : decode b_Door_has 3 = .ok (.getfield 25, 3) := by decide +kernel
theorem d_Door_has_6 : decode b_Door_has 6 = .ok (.invokevirtual 28, 3) := by decide +kernel
theorem d_Door_has_9 : decode b_Door_has 9 = .ok (.ireturn, 1) := by decide +kernel
theorem d_EL_isAt_0 : decode b_EL_isAt 0 = .ok (.aload_n 0, 1) := by decide +kernel
theorem d_EL_isAt_1 : decode b_EL_isAt 1 = .ok (.iload_n 1, 1) := by decide +kernel
theorem d_EL_isAt_2 : decode b_EL_isAt 2 = .ok (.invokevirtual 31, 3) := by decide +kernel
theorem d_EL_isAt_5 : decode b_EL_isAt 5 = .ok (.ifCond .eq 27, 3) := by decide +kernel
theorem d_EL_isAt_8 : decode b_EL_isAt 8 = .ok (.aload_n 0, 1) := by decide +kernel
theorem d_EL_isAt_9 : decode b_EL_isAt 9 = .ok (.getfield 12, 3) := by decide +kernel
theorem d_EL_isAt_12 : decode b_EL_isAt 12 = .ok (.iload_n 1, 1) := by decide +kernel
theorem d_EL_isAt_13 : decode b_EL_isAt 13 = .ok (.iconst 1, 1) := by decide +kernel
theorem d_EL_isAt_14 : decode b_EL_isAt 14 = .ok (.isub, 1) := by decide +kernel
theorem d_EL_isAt_15 : decode b_EL_isAt 15 = .ok (.invokevirtual 35, 3) := by decide +kernel
theorem d_EL_isAt_18 : decode b_EL_isAt 18 = .ok (.checkcast 22, 3) := by decide +kernel
theorem d_EL_isAt_21 : decode b_EL_isAt 21 = .ok (.iload_n 2, 1) := by decide +kernel
theorem d_EL_isAt_22 : decode b_EL_isAt 22 = .ok (.invokevirtual 43, 3) := by decide +kernel
theorem d_EL_isAt_25 : decode b_EL_isAt 25 = .ok (.ifCond .eq 7, 3) := by decide +kernel
theorem d_EL_isAt_28 : decode b_EL_isAt 28 = .ok (.iconst 1, 1) := by decide +kernel
theorem d_EL_isAt_29 : decode b_EL_isAt 29 = .ok (.goto 4, 3) := by decide +kernel
theorem d_EL_isAt_32 : decode b_EL_isAt 32 = .ok (.iconst 0, 1) := by decide +kernel
theorem d_EL_isAt_33 : decode b_EL_isAt 33 = .ok (.ireturn, 1) := by decide +kernel
theorem d_Entry_isAt_0 : decode b_Entry_isAt 0 = .ok (.iload_n 1, 1) := by decide +kernel
theorem d_Entry_isAt_1 : decode b_Entry_isAt 1 = .ok (.ifCond .lt 25, 3) := by decide +kernel
theorem d_Entry_isAt_4 : decode b_Entry_isAt 4 = .ok (.iload_n 1, 1) := by decide +kernel
theorem d_Entry_isAt_5 : decode b_Entry_isAt 5 = .ok (.aload_n 0, 1) := by decide +kernel
theorem d_Entry_isAt_6 : decode b_Entry_isAt 6 = .ok (.getfield 9, 3) := by decide +kernel
theorem d_Entry_isAt_9 : decode b_Entry_isAt 9 = .ok (.arraylength, 1) := by decide +kernel
theorem d_Entry_isAt_10 : decode b_Entry_isAt 10 = .ok (.if_icmp .ge 16, 3) := by decide +kernel
theorem d_Entry_isAt_13 : decode b_Entry_isAt 13 = .ok (.aload_n 0, 1) := by decide +kernel
theorem d_Entry_isAt_14 : decode b_Entry_isAt 14 = .ok (.getfield 9, 3) := by decide +kernel
theorem d_Entry_isAt_17 : decode b_Entry_isAt 17 = .ok (.iload_n 1, 1) := by decide +kernel
theorem d_Entry_isAt_18 : decode b_Entry_isAt 18 = .ok (.baload, 1) := by decide +kernel
theorem d_Entry_isAt_19 : decode b_Entry_isAt 19 = .ok (.ifCond .eq 7, 3) := by decide +kernel
theorem d_Entry_isAt_22 : decode b_Entry_isAt 22 = .ok (.iconst 1, 1) := by decide +kernel
theorem d_Entry_isAt_23 : decode b_Entry_isAt 23 = .ok (.goto 4, 3) := by decide +kernel
theorem d_Entry_isAt_26 : decode b_Entry_isAt 26 = .ok (.iconst 0, 1) := by decide +kernel
theorem d_Entry_isAt_27 : decode b_Entry_isAt 27 = .ok (.ireturn, 1) := by decide +kernel
theorem d_Card_opens_0 : decode b_Card_opens 0 = .ok (.aload_n 0, 1) := by decide +kernel
theorem d_Card_opens_1 : decode b_Card_opens 1 = .ok (.getfield 32, 3) := by decide +kernel
theorem d_Card_opens_4 : decode b_Card_opens 4 = .ok (.iload_n 1, 1) := by decide +kernel
theorem d_Card_opens_5 : decode b_Card_opens 5 = .ok (.iushr, 1) := by decide +kernel
theorem d_Card_opens_6 : decode b_Card_opens 6 = .ok (.iconst 1, 1) := by decide +kernel
theorem d_Card_opens_7 : decode b_Card_opens 7 = .ok (.iand, 1) := by decide +kernel
theorem d_Card_opens_8 : decode b_Card_opens 8 = .ok (.iconst 1, 1) := by decide +kernel
theorem d_Card_opens_9 : decode b_Card_opens 9 = .ok (.if_icmp .ne 7, 3) := by decide +kernel
theorem d_Card_opens_12 : decode b_Card_opens 12 = .ok (.iconst 1, 1) := by decide +kernel
theorem d_Card_opens_13 : decode b_Card_opens 13 = .ok (.goto 4, 3) := by decide +kernel
theorem d_Card_opens_16 : decode b_Card_opens 16 = .ok (.iconst 0, 1) := by decide +kernel
theorem d_Card_opens_17 : decode b_Card_opens 17 = .ok (.ireturn, 1) := by decide +kernel
theorem d_Door_pass_0 : decode b_Door_pass 0 = .ok (.aload_n 0, 1) := by decide +kernel
theorem d_Door_pass_1 : decode b_Door_pass 1 = .ok (.getfield 18, 3) := by decide +kernel
theorem d_Door_pass_4 : decode b_Door_pass 4 = .ok (.ifCond .ne 4, 3) := by decide +kernel
theorem d_Door_pass_7 : decode b_Door_pass 7 = .ok (.return_, 1) := by decide +kernel
theorem d_Door_pass_8 : decode b_Door_pass 8 = .ok (.iconst 1, 1) := by decide +kernel
theorem d_Door_pass_9 : decode b_Door_pass 9 = .ok (.istore_n 3, 1) := by decide +kernel
theorem d_Door_pass_10 : decode b_Door_pass 10 = .ok (.iload_n 3, 1) := by decide +kernel
theorem d_Door_pass_11 : decode b_Door_pass 11 = .ok (.bipush 40, 2) := by decide +kernel
theorem d_Door_pass_13 : decode b_Door_pass 13 = .ok (.if_icmp .ge 23, 3) := by decide +kernel
theorem d_Door_pass_16 : decode b_Door_pass 16 = .ok (.aload_n 0, 1) := by decide +kernel
theorem d_Door_pass_17 : decode b_Door_pass 17 = .ok (.aload_n 0, 1) := by decide +kernel
theorem d_Door_pass_18 : decode b_Door_pass 18 = .ok (.getfield 18, 3) := by decide +kernel
theorem d_Door_pass_21 : decode b_Door_pass 21 = .ok (.iload_n 3, 1) := by decide +kernel
theorem d_Door_pass_22 : decode b_Door_pass 22 = .ok (.isub, 1) := by decide +kernel
theorem d_Door_pass_23 : decode b_Door_pass 23 = .ok (.aload_n 2, 1) := by decide +kernel
theorem d_Door_pass_24 : decode b_Door_pass 24 = .ok (.invokevirtual 59, 3) := by decide +kernel
theorem d_Door_pass_27 : decode b_Door_pass 27 = .ok (.ifCond .eq 9, 3) := by decide +kernel
theorem d_Door_pass_30 : decode b_Door_pass 30 = .ok (.iinc 3 1, 3) := by decide +kernel
theorem d_Door_pass_33 : decode b_Door_pass 33 = .ok (.goto (-23), 3) := by decide +kernel
theorem d_Door_pass_36 : decode b_Door_pass 36 = .ok (.aload_n 1, 1) := by decide +kernel
theorem d_Door_pass_37 : decode b_Door_pass 37 = .ok (.aload_n 0, 1) := by decide +kernel
theorem d_Door_pass_38 : decode b_Door_pass 38 = .ok (.getfield 18, 3) := by decide +kernel
theorem d_Door_pass_41 : decode b_Door_pass 41 = .ok (.iload_n 3, 1) := by decide +kernel
theorem d_Door_pass_42 : decode b_Door_pass 42 = .ok (.isub, 1) := by decide +kernel
theorem d_Door_pass_43 : decode b_Door_pass 43 = .ok (.iconst 1, 1) := by decide +kernel
theorem d_Door_pass_44 : decode b_Door_pass 44 = .ok (.iadd, 1) := by decide +kernel
theorem d_Door_pass_45 : decode b_Door_pass 45 = .ok (.iload_n 3, 1) := by decide +kernel
theorem d_Door_pass_46 : decode b_Door_pass 46 = .ok (.aload_n 1, 1) := by decide +kernel
theorem d_Door_pass_47 : decode b_Door_pass 47 = .ok (.invokevirtual 70, 3) := by decide +kernel
theorem d_Door_pass_50 : decode b_Door_pass 50 = .ok (.iconst 2, 1) := by decide +kernel
theorem d_Door_pass_51 : decode b_Door_pass 51 = .ok (.invokevirtual 36, 3) := by decide +kernel
theorem d_Door_pass_54 : decode b_Door_pass 54 = .ok (.aload_n 2, 1) := by decide +kernel
theorem d_Door_pass_55 : decode b_Door_pass 55 = .ok (.invokevirtual 74, 3) := by decide +kernel
theorem d_Door_pass_58 : decode b_Door_pass 58 = .ok (.return_, 1) := by decide +kernel
theorem d_H_tear_0 : decode b_H_tear 0 = .ok (.aload_n 0, 1) := by decide +kernel
theorem d_H_tear_1 : decode b_H_tear 1 = .ok (.iload_n 1, 1) := by decide +kernel
theorem d_H_tear_2 : decode b_H_tear 2 = .ok (.invokevirtual 68, 3) := by decide +kernel
theorem d_H_tear_5 : decode b_H_tear 5 = .ok (.astore_n 3, 1) := by decide +kernel
theorem d_H_tear_6 : decode b_H_tear 6 = .ok (.iload_n 2, 1) := by decide +kernel
theorem d_H_tear_7 : decode b_H_tear 7 = .ok (.ifCond .lt 9, 3) := by decide +kernel
theorem d_H_tear_10 : decode b_H_tear 10 = .ok (.iload_n 2, 1) := by decide +kernel
theorem d_H_tear_11 : decode b_H_tear 11 = .ok (.bipush 50, 2) := by decide +kernel
theorem d_H_tear_13 : decode b_H_tear 13 = .ok (.if_icmp .le 13, 3) := by decide +kernel
theorem d_H_tear_16 : decode b_H_tear 16 = .ok (.new 99, 3) := by decide +kernel
theorem d_H_tear_19 : decode b_H_tear 19 = .ok (.dup, 1) := by decide +kernel
theorem d_H_tear_20 : decode b_H_tear 20 = .ok (.ldc 117, 2) := by decide +kernel
theorem d_H_tear_22 : decode b_H_tear 22 = .ok (.invokespecial 103, 3) := by decide +kernel
theorem d_H_tear_25 : decode b_H_tear 25 = .ok (.athrow, 1) := by decide +kernel
theorem d_H_tear_26 : decode b_H_tear 26 = .ok (.aload_n 3, 1) := by decide +kernel
theorem d_H_tear_27 : decode b_H_tear 27 = .ok (.iload_n 2, 1) := by decide +kernel
theorem d_H_tear_28 : decode b_H_tear 28 = .ok (.putfield 119, 3) := by decide +kernel
theorem d_H_tear_31 : decode b_H_tear 31 = .ok (.return_, 1) := by decide +kernel
theorem d_H_written_0 : decode b_H_written 0 = .ok (.aload_n 0, 1) := by decide +kernel
theorem d_H_written_1 : decode b_H_written 1 = .ok (.iload_n 1, 1) := by decide +kernel
theorem d_H_written_2 : decode b_H_written 2 = .ok (.invokevirtual 68, 3) := by decide +kernel
theorem d_H_written_5 : decode b_H_written 5 = .ok (.getfield 122, 3) := by decide +kernel
theorem d_H_written_8 : decode b_H_written 8 = .ok (.ireturn, 1) := by decide +kernel
theorem d_H_word_0 : decode b_H_word 0 = .ok (.aload_n 0, 1) := by decide +kernel
theorem d_H_word_1 : decode b_H_word 1 = .ok (.iload_n 1, 1) := by decide +kernel
theorem d_H_word_2 : decode b_H_word 2 = .ok (.invokevirtual 68, 3) := by decide +kernel
theorem d_H_word_5 : decode b_H_word 5 = .ok (.astore 4, 2) := by decide +kernel
theorem d_H_word_7 : decode b_H_word 7 = .ok (.iload_n 2, 1) := by decide +kernel
theorem d_H_word_8 : decode b_H_word 8 = .ok (.ifCond .lt 18, 3) := by decide +kernel
theorem d_H_word_11 : decode b_H_word 11 = .ok (.iload_n 2, 1) := by decide +kernel
theorem d_H_word_12 : decode b_H_word 12 = .ok (.iconst 1, 1) := by decide +kernel
theorem d_H_word_13 : decode b_H_word 13 = .ok (.if_icmp .gt 13, 3) := by decide +kernel
theorem d_H_word_16 : decode b_H_word 16 = .ok (.iload_n 3, 1) := by decide +kernel
theorem d_H_word_17 : decode b_H_word 17 = .ok (.ifCond .lt 9, 3) := by decide +kernel
theorem d_H_word_20 : decode b_H_word 20 = .ok (.iload_n 3, 1) := by decide +kernel
theorem d_H_word_21 : decode b_H_word 21 = .ok (.bipush 44, 2) := by decide +kernel
theorem d_H_word_23 : decode b_H_word 23 = .ok (.if_icmp .lt 13, 3) := by decide +kernel
theorem d_H_word_26 : decode b_H_word 26 = .ok (.new 127, 3) := by decide +kernel
theorem d_H_word_29 : decode b_H_word 29 = .ok (.dup, 1) := by decide +kernel
theorem d_H_word_30 : decode b_H_word 30 = .ok (.ldc 129, 2) := by decide +kernel
theorem d_H_word_32 : decode b_H_word 32 = .ok (.invokespecial 131, 3) := by decide +kernel
theorem d_H_word_35 : decode b_H_word 35 = .ok (.athrow, 1) := by decide +kernel
theorem d_H_word_36 : decode b_H_word 36 = .ok (.aload 4, 2) := by decide +kernel
theorem d_H_word_38 : decode b_H_word 38 = .ok (.iload_n 2, 1) := by decide +kernel
theorem d_H_word_39 : decode b_H_word 39 = .ok (.invokevirtual 132, 3) := by decide +kernel
theorem d_H_word_42 : decode b_H_word 42 = .ok (.iload_n 3, 1) := by decide +kernel
theorem d_H_word_43 : decode b_H_word 43 = .ok (.invokevirtual 136, 3) := by decide +kernel
theorem d_H_word_46 : decode b_H_word 46 = .ok (.ireturn, 1) := by decide +kernel
theorem d_H_carries_0 : decode b_H_carries 0 = .ok (.aload_n 0, 1) := by decide +kernel
theorem d_H_carries_1 : decode b_H_carries 1 = .ok (.iload_n 1, 1) := by decide +kernel
theorem d_H_carries_2 : decode b_H_carries 2 = .ok (.invokevirtual 68, 3) := by decide +kernel
theorem d_H_carries_5 : decode b_H_carries 5 = .ok (.astore_n 3, 1) := by decide +kernel
theorem d_H_carries_6 : decode b_H_carries 6 = .ok (.iload_n 2, 1) := by decide +kernel
theorem d_H_carries_7 : decode b_H_carries 7 = .ok (.tableswitch 60 0 3 #[29, 34, 42, 51], 29) := by decide +kernel
theorem d_H_carries_36 : decode b_H_carries 36 = .ok (.aload_n 3, 1) := by decide +kernel
theorem d_H_carries_37 : decode b_H_carries 37 = .ok (.invokevirtual 139, 3) := by decide +kernel
theorem d_H_carries_40 : decode b_H_carries 40 = .ok (.ireturn, 1) := by decide +kernel
theorem d_H_carries_41 : decode b_H_carries 41 = .ok (.aload_n 3, 1) := by decide +kernel
theorem d_H_carries_42 : decode b_H_carries 42 = .ok (.invokevirtual 142, 3) := by decide +kernel
theorem d_H_carries_45 : decode b_H_carries 45 = .ok (.invokevirtual 146, 3) := by decide +kernel
theorem d_H_carries_48 : decode b_H_carries 48 = .ok (.ireturn, 1) := by decide +kernel
theorem d_H_carries_49 : decode b_H_carries 49 = .ok (.aload_n 3, 1) := by decide +kernel
theorem d_H_carries_50 : decode b_H_carries 50 = .ok (.invokevirtual 142, 3) := by decide +kernel
theorem d_H_carries_53 : decode b_H_carries 53 = .ok (.iconst 1, 1) := by decide +kernel
theorem d_H_carries_54 : decode b_H_carries 54 = .ok (.invokevirtual 136, 3) := by decide +kernel
theorem d_H_carries_57 : decode b_H_carries 57 = .ok (.ireturn, 1) := by decide +kernel
theorem d_H_carries_58 : decode b_H_carries 58 = .ok (.aload_n 3, 1) := by decide +kernel
theorem d_H_carries_59 : decode b_H_carries 59 = .ok (.invokevirtual 142, 3) := by decide +kernel
theorem d_H_carries_62 : decode b_H_carries 62 = .ok (.iconst 2, 1) := by decide +kernel
theorem d_H_carries_63 : decode b_H_carries 63 = .ok (.invokevirtual 136, 3) := by decide +kernel
theorem d_H_carries_66 : decode b_H_carries 66 = .ok (.ireturn, 1) := by decide +kernel
theorem d_H_carries_67 : decode b_H_carries 67 = .ok (.new 99, 3) := by decide +kernel
theorem d_H_carries_70 : decode b_H_carries 70 = .ok (.dup, 1) := by decide +kernel
theorem d_H_carries_71 : decode b_H_carries 71 = .ok (.ldc 149, 2) := by decide +kernel
theorem d_H_carries_73 : decode b_H_carries 73 = .ok (.invokespecial 103, 3) := by decide +kernel
theorem d_H_carries_76 : decode b_H_carries 76 = .ok (.athrow, 1) := by decide +kernel
theorem d_H_memory_0 : decode b_H_memory 0 = .ok (.aload_n 0, 1) := by decide +kernel
theorem d_H_memory_1 : decode b_H_memory 1 = .ok (.iload_n 1, 1) := by decide +kernel
theorem d_H_memory_2 : decode b_H_memory 2 = .ok (.invokevirtual 68, 3) := by decide +kernel
theorem d_H_memory_5 : decode b_H_memory 5 = .ok (.invokevirtual 142, 3) := by decide +kernel
theorem d_H_memory_8 : decode b_H_memory 8 = .ok (.astore_n 3, 1) := by decide +kernel
theorem d_H_memory_9 : decode b_H_memory 9 = .ok (.iload_n 2, 1) := by decide +kernel
theorem d_H_memory_10 : decode b_H_memory 10 = .ok (.ifCond .lt 11, 3) := by decide +kernel
theorem d_H_memory_13 : decode b_H_memory 13 = .ok (.iload_n 2, 1) := by decide +kernel
theorem d_H_memory_14 : decode b_H_memory 14 = .ok (.aload_n 3, 1) := by decide +kernel
theorem d_H_memory_15 : decode b_H_memory 15 = .ok (.invokevirtual 146, 3) := by decide +kernel
theorem d_H_memory_18 : decode b_H_memory 18 = .ok (.if_icmp .lt 13, 3) := by decide +kernel
theorem d_H_memory_21 : decode b_H_memory 21 = .ok (.new 127, 3) := by decide +kernel
theorem d_H_memory_24 : decode b_H_memory 24 = .ok (.dup, 1) := by decide +kernel
theorem d_H_memory_25 : decode b_H_memory 25 = .ok (.ldc 151, 2) := by decide +kernel
theorem d_H_memory_27 : decode b_H_memory 27 = .ok (.invokespecial 131, 3) := by decide +kernel
theorem d_H_memory_30 : decode b_H_memory 30 = .ok (.athrow, 1) := by decide +kernel
theorem d_H_memory_31 : decode b_H_memory 31 = .ok (.aload_n 3, 1) := by decide +kernel
theorem d_H_memory_32 : decode b_H_memory 32 = .ok (.iconst 3, 1) := by decide +kernel
theorem d_H_memory_33 : decode b_H_memory 33 = .ok (.iload_n 2, 1) := by decide +kernel
theorem d_H_memory_34 : decode b_H_memory 34 = .ok (.iadd, 1) := by decide +kernel
theorem d_H_memory_35 : decode b_H_memory 35 = .ok (.invokevirtual 136, 3) := by decide +kernel
theorem d_H_memory_38 : decode b_H_memory 38 = .ok (.ireturn, 1) := by decide +kernel
theorem d_H_about_0 : decode b_H_about 0 = .ok (.aload_n 0, 1) := by decide +kernel
theorem d_H_about_1 : decode b_H_about 1 = .ok (.iload_n 1, 1) := by decide +kernel
theorem d_H_about_2 : decode b_H_about 2 = .ok (.invokevirtual 95, 3) := by decide +kernel
theorem d_H_about_5 : decode b_H_about 5 = .ok (.astore_n 3, 1) := by decide +kernel
theorem d_H_about_6 : decode b_H_about 6 = .ok (.iload_n 2, 1) := by decide +kernel
theorem d_H_about_7 : decode b_H_about 7 = .ok (.tableswitch 90 0 4 #[33, 42, 54, 72, 81], 33) := by decide +kernel
theorem d_H_about_40 : decode b_H_about 40 = .ok (.aload_n 3, 1) := by decide +kernel
theorem d_H_about_41 : decode b_H_about 41 = .ok (.aload_n 0, 1) := by decide +kernel
theorem d_H_about_42 : decode b_H_about 42 = .ok (.getfield 19, 3) := by decide +kernel
theorem d_H_about_45 : decode b_H_about 45 = .ok (.invokevirtual 153, 3) := by decide +kernel
theorem d_H_about_48 : decode b_H_about 48 = .ok (.ireturn, 1) := by decide +kernel
theorem d_H_about_49 : decode b_H_about 49 = .ok (.aload_n 3, 1) := by decide +kernel
theorem d_H_about_50 : decode b_H_about 50 = .ok (.getfield 157, 3) := by decide +kernel
theorem d_H_about_53 : decode b_H_about 53 = .ok (.aload_n 3, 1) := by decide +kernel
theorem d_H_about_54 : decode b_H_about 54 = .ok (.getfield 160, 3) := by decide +kernel
theorem d_H_about_57 : decode b_H_about 57 = .ok (.invokestatic 163, 3) := by decide +kernel
theorem d_H_about_60 : decode b_H_about 60 = .ok (.ireturn, 1) := by decide +kernel
theorem d_H_about_61 : decode b_H_about 61 = .ok (.aload_n 3, 1) := by decide +kernel
theorem d_H_about_62 : decode b_H_about 62 = .ok (.getfield 160, 3) := by decide +kernel
theorem d_H_about_65 : decode b_H_about 65 = .ok (.aload_n 3, 1) := by decide +kernel
theorem d_H_about_66 : decode b_H_about 66 = .ok (.aload_n 0, 1) := by decide +kernel
theorem d_H_about_67 : decode b_H_about 67 = .ok (.getfield 19, 3) := by decide +kernel
theorem d_H_about_70 : decode b_H_about 70 = .ok (.invokevirtual 153, 3) := by decide +kernel
theorem d_H_about_73 : decode b_H_about 73 = .ok (.isub, 1) := by decide +kernel
theorem d_H_about_74 : decode b_H_about 74 = .ok (.iconst 0, 1) := by decide +kernel
theorem d_H_about_75 : decode b_H_about 75 = .ok (.invokestatic 163, 3) := by decide +kernel
theorem d_H_about_78 : decode b_H_about 78 = .ok (.ireturn, 1) := by decide +kernel
theorem d_H_about_79 : decode b_H_about 79 = .ok (.aload_n 3, 1) := by decide +kernel
theorem d_H_about_80 : decode b_H_about 80 = .ok (.aload_n 0, 1) := by decide +kernel
theorem d_H_about_81 : decode b_H_about 81 = .ok (.getfield 19, 3) := by decide +kernel
theorem d_H_about_84 : decode b_H_about 84 = .ok (.invokevirtual 166, 3) := by decide +kernel
theorem d_H_about_87 : decode b_H_about 87 = .ok (.ireturn, 1) := by decide +kernel
theorem d_H_about_88 : decode b_H_about 88 = .ok (.aload_n 3, 1) := by decide +kernel
theorem d_H_about_89 : decode b_H_about 89 = .ok (.aload_n 0, 1) := by decide +kernel
theorem d_H_about_90 : decode b_H_about 90 = .ok (.getfield 19, 3) := by decide +kernel
theorem d_H_about_93 : decode b_H_about 93 = .ok (.invokevirtual 169, 3) := by decide +kernel
theorem d_H_about_96 : decode b_H_about 96 = .ok (.ireturn, 1) := by decide +kernel
theorem d_H_about_97 : decode b_H_about 97 = .ok (.new 99, 3) := by decide +kernel
theorem d_H_about_100 : decode b_H_about 100 = .ok (.dup, 1) := by decide +kernel
theorem d_H_about_101 : decode b_H_about 101 = .ok (.ldc 172, 2) := by decide +kernel
theorem d_H_about_103 : decode b_H_about 103 = .ok (.invokespecial 103, 3) := by decide +kernel
theorem d_H_about_106 : decode b_H_about 106 = .ok (.athrow, 1) := by decide +kernel
theorem d_Door_complete_0 : decode b_Door_complete 0 = .ok (.aload_n 0, 1) := by decide +kernel
theorem d_Door_complete_1 : decode b_Door_complete 1 = .ok (.iconst 0, 1) := by decide +kernel
theorem d_Door_complete_2 : decode b_Door_complete 2 = .ok (.aload_n 1, 1) := by decide +kernel
theorem d_Door_complete_3 : decode b_Door_complete 3 = .ok (.invokevirtual 78, 3) := by decide +kernel
theorem d_Door_complete_6 : decode b_Door_complete 6 = .ok (.ireturn, 1) := by decide +kernel
theorem d_Door_endOfRun_0 : decode b_Door_endOfRun 0 = .ok (.iload_n 1, 1) := by decide +kernel
theorem d_Door_endOfRun_1 : decode b_Door_endOfRun 1 = .ok (.istore_n 3, 1) := by decide +kernel
theorem d_Door_endOfRun_2 : decode b_Door_endOfRun 2 = .ok (.iload_n 3, 1) := by decide +kernel
theorem d_Door_endOfRun_3 : decode b_Door_endOfRun 3 = .ok (.aload_n 2, 1) := by decide +kernel
theorem d_Door_endOfRun_4 : decode b_Door_endOfRun 4 = .ok (.invokevirtual 82, 3) := by decide +kernel
theorem d_Door_endOfRun_7 : decode b_Door_endOfRun 7 = .ok (.if_icmp .ge 20, 3) := by decide +kernel
theorem d_Door_endOfRun_10 : decode b_Door_endOfRun 10 = .ok (.aload_n 0, 1) := by decide +kernel
theorem d_Door_endOfRun_11 : decode b_Door_endOfRun 11 = .ok (.iload_n 3, 1) := by decide +kernel
theorem d_Door_endOfRun_12 : decode b_Door_endOfRun 12 = .ok (.iconst 1, 1) := by decide +kernel
theorem d_Door_endOfRun_13 : decode b_Door_endOfRun 13 = .ok (.iadd, 1) := by decide +kernel
theorem d_Door_endOfRun_14 : decode b_Door_endOfRun 14 = .ok (.aload_n 2, 1) := by decide +kernel
theorem d_Door_endOfRun_15 : decode b_Door_endOfRun 15 = .ok (.invokevirtual 59, 3) := by decide +kernel
theorem d_Door_endOfRun_18 : decode b_Door_endOfRun 18 = .ok (.ifCond .eq 9, 3) := by decide +kernel
theorem d_Door_endOfRun_21 : decode b_Door_endOfRun 21 = .ok (.iinc 3 1, 3) := by decide +kernel
theorem d_Door_endOfRun_24 : decode b_Door_endOfRun 24 = .ok (.goto (-22), 3) := by decide +kernel
theorem d_Door_endOfRun_27 : decode b_Door_endOfRun 27 = .ok (.iload_n 3, 1) := by decide +kernel
theorem d_Door_endOfRun_28 : decode b_Door_endOfRun 28 = .ok (.ireturn, 1) := by decide +kernel
theorem d_Door_countEntries_0 : decode b_Door_countEntries 0 = .ok (.iconst 0, 1) := by decide +kernel
theorem d_Door_countEntries_1 : decode b_Door_countEntries 1 = .ok (.istore_n 2, 1) := by decide +kernel
theorem d_Door_countEntries_2 : decode b_Door_countEntries 2 = .ok (.iconst 1, 1) := by decide +kernel
theorem d_Door_countEntries_3 : decode b_Door_countEntries 3 = .ok (.istore_n 3, 1) := by decide +kernel
theorem d_Door_countEntries_4 : decode b_Door_countEntries 4 = .ok (.iload_n 3, 1) := by decide +kernel
theorem d_Door_countEntries_5 : decode b_Door_countEntries 5 = .ok (.aload_n 1, 1) := by decide +kernel
theorem d_Door_countEntries_6 : decode b_Door_countEntries 6 = .ok (.invokevirtual 82, 3) := by decide +kernel
theorem d_Door_countEntries_9 : decode b_Door_countEntries 9 = .ok (.if_icmp .gt 21, 3) := by decide +kernel
theorem d_Door_countEntries_12 : decode b_Door_countEntries 12 = .ok (.aload_n 0, 1) := by decide +kernel
theorem d_Door_countEntries_13 : decode b_Door_countEntries 13 = .ok (.iload_n 3, 1) := by decide +kernel
theorem d_Door_countEntries_14 : decode b_Door_countEntries 14 = .ok (.aload_n 1, 1) := by decide +kernel
theorem d_Door_countEntries_15 : decode b_Door_countEntries 15 = .ok (.invokevirtual 59, 3) := by decide +kernel
theorem d_Door_countEntries_18 : decode b_Door_countEntries 18 = .ok (.ifCond .eq 6, 3) := by decide +kernel
theorem d_Door_countEntries_21 : decode b_Door_countEntries 21 = .ok (.iinc 2 1, 3) := by decide +kernel
theorem d_Door_countEntries_24 : decode b_Door_countEntries 24 = .ok (.iinc 3 1, 3) := by decide +kernel
theorem d_Door_countEntries_27 : decode b_Door_countEntries 27 = .ok (.goto (-23), 3) := by decide +kernel
theorem d_Door_countEntries_30 : decode b_Door_countEntries 30 = .ok (.iload_n 2, 1) := by decide +kernel
theorem d_Door_countEntries_31 : decode b_Door_countEntries 31 = .ok (.ireturn, 1) := by decide +kernel
theorem d_Door_countRuns_0 : decode b_Door_countRuns 0 = .ok (.iconst 0, 1) := by decide +kernel
theorem d_Door_countRuns_1 : decode b_Door_countRuns 1 = .ok (.istore_n 2, 1) := by decide +kernel
theorem d_Door_countRuns_2 : decode b_Door_countRuns 2 = .ok (.iconst 1, 1) := by decide +kernel
theorem d_Door_countRuns_3 : decode b_Door_countRuns 3 = .ok (.istore_n 3, 1) := by decide +kernel
theorem d_Door_countRuns_4 : decode b_Door_countRuns 4 = .ok (.iload_n 3, 1) := by decide +kernel
theorem d_Door_countRuns_5 : decode b_Door_countRuns 5 = .ok (.aload_n 1, 1) := by decide +kernel
theorem d_Door_countRuns_6 : decode b_Door_countRuns 6 = .ok (.invokevirtual 82, 3) := by decide +kernel
theorem d_Door_countRuns_9 : decode b_Door_countRuns 9 = .ok (.if_icmp .gt 21, 3) := by decide +kernel
theorem d_Door_countRuns_12 : decode b_Door_countRuns 12 = .ok (.aload_n 0, 1) := by decide +kernel
theorem d_Door_countRuns_13 : decode b_Door_countRuns 13 = .ok (.iload_n 3, 1) := by decide +kernel
theorem d_Door_countRuns_14 : decode b_Door_countRuns 14 = .ok (.aload_n 1, 1) := by decide +kernel
theorem d_Door_countRuns_15 : decode b_Door_countRuns 15 = .ok (.invokevirtual 85, 3) := by decide +kernel
theorem d_Door_countRuns_18 : decode b_Door_countRuns 18 = .ok (.ifCond .eq 6, 3) := by decide +kernel
theorem d_Door_countRuns_21 : decode b_Door_countRuns 21 = .ok (.iinc 2 1, 3) := by decide +kernel
theorem d_Door_countRuns_24 : decode b_Door_countRuns 24 = .ok (.iinc 3 1, 3) := by decide +kernel
theorem d_Door_countRuns_27 : decode b_Door_countRuns 27 = .ok (.goto (-23), 3) := by decide +kernel
theorem d_Door_countRuns_30 : decode b_Door_countRuns 30 = .ok (.iload_n 2, 1) := by decide +kernel
theorem d_Door_countRuns_31 : decode b_Door_countRuns 31 = .ok (.ireturn, 1) := by decide +kernel
theorem d_Door_startsRun_0 : decode b_Door_startsRun 0 = .ok (.aload_n 0, 1) := by decide +kernel
theorem d_Door_startsRun_1 : decode b_Door_startsRun 1 = .ok (.iload_n 1, 1) := by decide +kernel
theorem d_Door_startsRun_2 : decode b_Door_startsRun 2 = .ok (.aload_n 2, 1) := by decide +kernel
theorem d_Door_startsRun_3 : decode b_Door_startsRun 3 = .ok (.invokevirtual 59, 3) := by decide +kernel
theorem d_Door_startsRun_6 : decode b_Door_startsRun 6 = .ok (.ifCond .eq 18, 3) := by decide +kernel
theorem d_Door_startsRun_9 : decode b_Door_startsRun 9 = .ok (.aload_n 0, 1) := by decide +kernel
theorem d_Door_startsRun_10 : decode b_Door_startsRun 10 = .ok (.iload_n 1, 1) := by decide +kernel
theorem d_Door_startsRun_11 : decode b_Door_startsRun 11 = .ok (.iconst 1, 1) := by decide +kernel
theorem d_Door_startsRun_12 : decode b_Door_startsRun 12 = .ok (.isub, 1) := by decide +kernel
theorem d_Door_startsRun_13 : decode b_Door_startsRun 13 = .ok (.aload_n 2, 1) := by decide +kernel
theorem d_Door_startsRun_14 : decode b_Door_startsRun 14 = .ok (.invokevirtual 59, 3) := by decide +kernel
theorem d_Door_startsRun_17 : decode b_Door_startsRun 17 = .ok (.ifCond .ne 7, 3) := by decide +kernel
theorem d_Door_startsRun_20 : decode b_Door_startsRun 20 = .ok (.iconst 1, 1) := by decide +kernel
theorem d_Door_startsRun_21 : decode b_Door_startsRun 21 = .ok (.goto 4, 3) := by decide +kernel
theorem d_Door_startsRun_24 : decode b_Door_startsRun 24 = .ok (.iconst 0, 1) := by decide +kernel
theorem d_Door_startsRun_25 : decode b_Door_startsRun 25 = .ok (.ireturn, 1) := by decide +kernel
theorem d_H_run_0 : decode b_H_run 0 = .ok (.aload_n 0, 1) := by decide +kernel
theorem d_H_run_1 : decode b_H_run 1 = .ok (.iload_n 1, 1) := by decide +kernel
theorem d_H_run_2 : decode b_H_run 2 = .ok (.invokevirtual 95, 3) := by decide +kernel
theorem d_H_run_5 : decode b_H_run 5 = .ok (.astore 4, 2) := by decide +kernel
theorem d_H_run_7 : decode b_H_run 7 = .ok (.aload 4, 2) := by decide +kernel
theorem d_H_run_9 : decode b_H_run 9 = .ok (.iload_n 2, 1) := by decide +kernel
theorem d_H_run_10 : decode b_H_run 10 = .ok (.aload_n 0, 1) := by decide +kernel
theorem d_H_run_11 : decode b_H_run 11 = .ok (.getfield 19, 3) := by decide +kernel
theorem d_H_run_14 : decode b_H_run 14 = .ok (.invokevirtual 174, 3) := by decide +kernel
theorem d_H_run_17 : decode b_H_run 17 = .ok (.istore 5, 2) := by decide +kernel
theorem d_H_run_19 : decode b_H_run 19 = .ok (.iload 5, 2) := by decide +kernel
theorem d_H_run_21 : decode b_H_run 21 = .ok (.ifCond .ne 13, 3) := by decide +kernel
theorem d_H_run_24 : decode b_H_run 24 = .ok (.new 127, 3) := by decide +kernel
theorem d_H_run_27 : decode b_H_run 27 = .ok (.dup, 1) := by decide +kernel
theorem d_H_run_28 : decode b_H_run 28 = .ok (.ldc 178, 2) := by decide +kernel
theorem d_H_run_30 : decode b_H_run 30 = .ok (.invokespecial 131, 3) := by decide +kernel
theorem d_H_run_33 : decode b_H_run 33 = .ok (.athrow, 1) := by decide +kernel
theorem d_H_run_34 : decode b_H_run 34 = .ok (.iload_n 3, 1) := by decide +kernel
theorem d_H_run_35 : decode b_H_run 35 = .ok (.ifCond .eq 8, 3) := by decide +kernel
theorem d_H_run_38 : decode b_H_run 38 = .ok (.iload 5, 2) := by decide +kernel
theorem d_H_run_40 : decode b_H_run 40 = .ok (.goto 14, 3) := by decide +kernel
theorem d_H_run_43 : decode b_H_run 43 = .ok (.aload 4, 2) := by decide +kernel
theorem d_H_run_45 : decode b_H_run 45 = .ok (.iload 5, 2) := by decide +kernel
theorem d_H_run_47 : decode b_H_run 47 = .ok (.aload_n 0, 1) := by decide +kernel
theorem d_H_run_48 : decode b_H_run 48 = .ok (.getfield 19, 3) := by decide +kernel
theorem d_H_run_51 : decode b_H_run 51 = .ok (.invokevirtual 180, 3) := by decide +kernel
theorem d_H_run_54 : decode b_H_run 54 = .ok (.ireturn, 1) := by decide +kernel
theorem d_Door_startOfRun_0 : decode b_Door_startOfRun 0 = .ok (.iconst 0, 1) := by decide +kernel
theorem d_Door_startOfRun_1 : decode b_Door_startOfRun 1 = .ok (.istore_n 3, 1) := by decide +kernel
theorem d_Door_startOfRun_2 : decode b_Door_startOfRun 2 = .ok (.iconst 1, 1) := by decide +kernel
theorem d_Door_startOfRun_3 : decode b_Door_startOfRun 3 = .ok (.istore 4, 2) := by decide +kernel
theorem d_Door_startOfRun_5 : decode b_Door_startOfRun 5 = .ok (.iload 4, 2) := by decide +kernel
theorem d_Door_startOfRun_7 : decode b_Door_startOfRun 7 = .ok (.aload_n 2, 1) := by decide +kernel
theorem d_Door_startOfRun_8 : decode b_Door_startOfRun 8 = .ok (.invokevirtual 82, 3) := by decide +kernel
theorem d_Door_startOfRun_11 : decode b_Door_startOfRun 11 = .ok (.if_icmp .gt 30, 3) := by decide +kernel
theorem d_Door_startOfRun_14 : decode b_Door_startOfRun 14 = .ok (.aload_n 0, 1) := by decide +kernel
theorem d_Door_startOfRun_15 : decode b_Door_startOfRun 15 = .ok (.iload 4, 2) := by decide +kernel
theorem d_Door_startOfRun_17 : decode b_Door_startOfRun 17 = .ok (.aload_n 2, 1) := by decide +kernel
theorem d_Door_startOfRun_18 : decode b_Door_startOfRun 18 = .ok (.invokevirtual 85, 3) := by decide +kernel
theorem d_Door_startOfRun_21 : decode b_Door_startOfRun 21 = .ok (.ifCond .eq 14, 3) := by decide +kernel
theorem d_Door_startOfRun_24 : decode b_Door_startOfRun 24 = .ok (.iload_n 3, 1) := by decide +kernel
theorem d_Door_startOfRun_25 : decode b_Door_startOfRun 25 = .ok (.iload_n 1, 1) := by decide +kernel
theorem d_Door_startOfRun_26 : decode b_Door_startOfRun 26 = .ok (.if_icmp .ne 6, 3) := by decide +kernel
theorem d_Door_startOfRun_29 : decode b_Door_startOfRun 29 = .ok (.iload 4, 2) := by decide +kernel
theorem d_Door_startOfRun_31 : decode b_Door_startOfRun 31 = .ok (.ireturn, 1) := by decide +kernel
theorem d_Door_startOfRun_32 : decode b_Door_startOfRun 32 = .ok (.iinc 3 1, 3) := by decide +kernel
theorem d_Door_startOfRun_35 : decode b_Door_startOfRun 35 = .ok (.iinc 4 1, 3) := by decide +kernel
theorem d_Door_startOfRun_38 : decode b_Door_startOfRun 38 = .ok (.goto (-33), 3) := by decide +kernel
theorem d_Door_startOfRun_41 : decode b_Door_startOfRun 41 = .ok (.iconst 0, 1) := by decide +kernel
theorem d_Door_startOfRun_42 : decode b_Door_startOfRun 42 = .ok (.ireturn, 1) := by decide +kernel
theorem d_H_refuses_0 : decode b_H_refuses 0 = .ok (.aload_n 0, 1) := by decide +kernel
theorem d_H_refuses_1 : decode b_H_refuses 1 = .ok (.iload_n 1, 1) := by decide +kernel
theorem d_H_refuses_2 : decode b_H_refuses 2 = .ok (.invokevirtual 95, 3) := by decide +kernel
theorem d_H_refuses_5 : decode b_H_refuses 5 = .ok (.astore_n 3, 1) := by decide +kernel
theorem d_H_refuses_6 : decode b_H_refuses 6 = .ok (.aload_n 3, 1) := by decide +kernel
theorem d_H_refuses_7 : decode b_H_refuses 7 = .ok (.aload_n 0, 1) := by decide +kernel
theorem d_H_refuses_8 : decode b_H_refuses 8 = .ok (.iload_n 2, 1) := by decide +kernel
theorem d_H_refuses_9 : decode b_H_refuses 9 = .ok (.invokevirtual 68, 3) := by decide +kernel
theorem d_H_refuses_12 : decode b_H_refuses 12 = .ok (.getfield 72, 3) := by decide +kernel
theorem d_H_refuses_15 : decode b_H_refuses 15 = .ok (.aload_n 0, 1) := by decide +kernel
theorem d_H_refuses_16 : decode b_H_refuses 16 = .ok (.getfield 19, 3) := by decide +kernel
theorem d_H_refuses_19 : decode b_H_refuses 19 = .ok (.invokevirtual 183, 3) := by decide +kernel
theorem d_H_refuses_22 : decode b_H_refuses 22 = .ok (.ireturn, 1) := by decide +kernel
theorem d_H_reach_0 : decode b_H_reach 0 = .ok (.iload_n 1, 1) := by decide +kernel
theorem d_H_reach_1 : decode b_H_reach 1 = .ok (.iconst 1, 1) := by decide +kernel
theorem d_H_reach_2 : decode b_H_reach 2 = .ok (.if_icmp .lt 14, 3) := by decide +kernel
theorem d_H_reach_5 : decode b_H_reach 5 = .ok (.iload_n 1, 1) := by decide +kernel
theorem d_H_reach_6 : decode b_H_reach 6 = .ok (.aload_n 0, 1) := by decide +kernel
theorem d_H_reach_7 : decode b_H_reach 7 = .ok (.getfield 19, 3) := by decide +kernel
theorem d_H_reach_10 : decode b_H_reach 10 = .ok (.invokevirtual 76, 3) := by decide +kernel
theorem d_H_reach_13 : decode b_H_reach 13 = .ok (.if_icmp .le 13, 3) := by decide +kernel
theorem d_H_reach_16 : decode b_H_reach 16 = .ok (.new 127, 3) := by decide +kernel
theorem d_H_reach_19 : decode b_H_reach 19 = .ok (.dup, 1) := by decide +kernel
theorem d_H_reach_20 : decode b_H_reach 20 = .ok (.ldc 187, 2) := by decide +kernel
theorem d_H_reach_22 : decode b_H_reach 22 = .ok (.invokespecial 131, 3) := by decide +kernel
theorem d_H_reach_25 : decode b_H_reach 25 = .ok (.athrow, 1) := by decide +kernel
theorem d_H_reach_26 : decode b_H_reach 26 = .ok (.aload_n 0, 1) := by decide +kernel
theorem d_H_reach_27 : decode b_H_reach 27 = .ok (.getfield 19, 3) := by decide +kernel
theorem d_H_reach_30 : decode b_H_reach 30 = .ok (.iload_n 1, 1) := by decide +kernel
theorem d_H_reach_31 : decode b_H_reach 31 = .ok (.invokevirtual 189, 3) := by decide +kernel
theorem d_H_reach_34 : decode b_H_reach 34 = .ok (.ireturn, 1) := by decide +kernel
theorem d_EL_countDoorsWith_0 : decode b_EL_countDoorsWith 0 = .ok (.aload_n 0, 1) := by decide +kernel
theorem d_EL_countDoorsWith_1 : decode b_EL_countDoorsWith 1 = .ok (.iload_n 1, 1) := by decide +kernel
theorem d_EL_countDoorsWith_2 : decode b_EL_countDoorsWith 2 = .ok (.invokevirtual 31, 3) := by decide +kernel
theorem d_EL_countDoorsWith_5 : decode b_EL_countDoorsWith 5 = .ok (.ifCond .eq 22, 3) := by decide +kernel
theorem d_EL_countDoorsWith_8 : decode b_EL_countDoorsWith 8 = .ok (.aload_n 0, 1) := by decide +kernel
theorem d_EL_countDoorsWith_9 : decode b_EL_countDoorsWith 9 = .ok (.getfield 12, 3) := by decide +kernel
theorem d_EL_countDoorsWith_12 : decode b_EL_countDoorsWith 12 = .ok (.iload_n 1, 1) := by decide +kernel
theorem d_EL_countDoorsWith_13 : decode b_EL_countDoorsWith 13 = .ok (.iconst 1, 1) := by decide +kernel
theorem d_EL_countDoorsWith_14 : decode b_EL_countDoorsWith 14 = .ok (.isub, 1) := by decide +kernel
theorem d_EL_countDoorsWith_15 : decode b_EL_countDoorsWith 15 = .ok (.invokevirtual 35, 3) := by decide +kernel
theorem d_EL_countDoorsWith_18 : decode b_EL_countDoorsWith 18 = .ok (.checkcast 22, 3) := by decide +kernel
theorem d_EL_countDoorsWith_21 : decode b_EL_countDoorsWith 21 = .ok (.invokevirtual 49, 3) := by decide +kernel
theorem d_EL_countDoorsWith_24 : decode b_EL_countDoorsWith 24 = .ok (.goto 4, 3) := by decide +kernel
theorem d_EL_countDoorsWith_27 : decode b_EL_countDoorsWith 27 = .ok (.iconst 0, 1) := by decide +kernel
theorem d_EL_countDoorsWith_28 : decode b_EL_countDoorsWith 28 = .ok (.ireturn, 1) := by decide +kernel
theorem d_Entry_countDoors_0 : decode b_Entry_countDoors 0 = .ok (.iconst 0, 1) := by decide +kernel
theorem d_Entry_countDoors_1 : decode b_Entry_countDoors 1 = .ok (.istore_n 1, 1) := by decide +kernel
theorem d_Entry_countDoors_2 : decode b_Entry_countDoors 2 = .ok (.aload_n 0, 1) := by decide +kernel
theorem d_Entry_countDoors_3 : decode b_Entry_countDoors 3 = .ok (.getfield 9, 3) := by decide +kernel
theorem d_Entry_countDoors_6 : decode b_Entry_countDoors 6 = .ok (.astore_n 2, 1) := by decide +kernel
theorem d_Entry_countDoors_7 : decode b_Entry_countDoors 7 = .ok (.aload_n 2, 1) := by decide +kernel
theorem d_Entry_countDoors_8 : decode b_Entry_countDoors 8 = .ok (.arraylength, 1) := by decide +kernel
theorem d_Entry_countDoors_9 : decode b_Entry_countDoors 9 = .ok (.istore_n 3, 1) := by decide +kernel
theorem d_Entry_countDoors_10 : decode b_Entry_countDoors 10 = .ok (.iconst 0, 1) := by decide +kernel
theorem d_Entry_countDoors_11 : decode b_Entry_countDoors 11 = .ok (.istore 4, 2) := by decide +kernel
theorem d_Entry_countDoors_13 : decode b_Entry_countDoors 13 = .ok (.iload 4, 2) := by decide +kernel
theorem d_Entry_countDoors_15 : decode b_Entry_countDoors 15 = .ok (.iload_n 3, 1) := by decide +kernel
theorem d_Entry_countDoors_16 : decode b_Entry_countDoors 16 = .ok (.if_icmp .ge 23, 3) := by decide +kernel
theorem d_Entry_countDoors_19 : decode b_Entry_countDoors 19 = .ok (.aload_n 2, 1) := by decide +kernel
theorem d_Entry_countDoors_20 : decode b_Entry_countDoors 20 = .ok (.iload 4, 2) := by decide +kernel
theorem d_Entry_countDoors_22 : decode b_Entry_countDoors 22 = .ok (.baload, 1) := by decide +kernel
theorem d_Entry_countDoors_23 : decode b_Entry_countDoors 23 = .ok (.istore 5, 2) := by decide +kernel
theorem d_Entry_countDoors_25 : decode b_Entry_countDoors 25 = .ok (.iload 5, 2) := by decide +kernel
theorem d_Entry_countDoors_27 : decode b_Entry_countDoors 27 = .ok (.ifCond .eq 6, 3) := by decide +kernel
theorem d_Entry_countDoors_30 : decode b_Entry_countDoors 30 = .ok (.iinc 1 1, 3) := by decide +kernel
theorem d_Entry_countDoors_33 : decode b_Entry_countDoors 33 = .ok (.iinc 4 1, 3) := by decide +kernel
theorem d_Entry_countDoors_36 : decode b_Entry_countDoors 36 = .ok (.goto (-23), 3) := by decide +kernel
theorem d_Entry_countDoors_39 : decode b_Entry_countDoors 39 = .ok (.iload_n 1, 1) := by decide +kernel
theorem d_Entry_countDoors_40 : decode b_Entry_countDoors 40 = .ok (.ireturn, 1) := by decide +kernel
theorem d_H_loseBattery_0 : decode b_H_loseBattery 0 = .ok (.aload_n 0, 1) := by decide +kernel
theorem d_H_loseBattery_1 : decode b_H_loseBattery 1 = .ok (.iload_n 1, 1) := by decide +kernel
theorem d_H_loseBattery_2 : decode b_H_loseBattery 2 = .ok (.invokevirtual 95, 3) := by decide +kernel
theorem d_H_loseBattery_5 : decode b_H_loseBattery 5 = .ok (.iconst 0, 1) := by decide +kernel
theorem d_H_loseBattery_6 : decode b_H_loseBattery 6 = .ok (.putfield 160, 3) := by decide +kernel
theorem d_H_loseBattery_9 : decode b_H_loseBattery 9 = .ok (.return_, 1) := by decide +kernel
theorem d_H_visit_0 : decode b_H_visit 0 = .ok (.iload_n 1, 1) := by decide +kernel
theorem d_H_visit_1 : decode b_H_visit 1 = .ok (.ifCond .lt 26, 3) := by decide +kernel
theorem d_H_visit_4 : decode b_H_visit 4 = .ok (.iload_n 1, 1) := by decide +kernel
theorem d_H_visit_5 : decode b_H_visit 5 = .ok (.sipush 200, 3) := by decide +kernel
theorem d_H_visit_8 : decode b_H_visit 8 = .ok (.if_icmp .ge 19, 3) := by decide +kernel
theorem d_H_visit_11 : decode b_H_visit 11 = .ok (.aload_n 0, 1) := by decide +kernel
theorem d_H_visit_12 : decode b_H_visit 12 = .ok (.iload_n 2, 1) := by decide +kernel
theorem d_H_visit_13 : decode b_H_visit 13 = .ok (.invokevirtual 192, 3) := by decide +kernel
theorem d_H_visit_16 : decode b_H_visit 16 = .ok (.ifCond .eq 11, 3) := by decide +kernel
theorem d_H_visit_19 : decode b_H_visit 19 = .ok (.aload_n 0, 1) := by decide +kernel
theorem d_H_visit_20 : decode b_H_visit 20 = .ok (.iload_n 3, 1) := by decide +kernel
theorem d_H_visit_21 : decode b_H_visit 21 = .ok (.invokevirtual 196, 3) := by decide +kernel
theorem d_H_visit_24 : decode b_H_visit 24 = .ok (.ifCond .ne 13, 3) := by decide +kernel
theorem d_H_visit_27 : decode b_H_visit 27 = .ok (.new 127, 3) := by decide +kernel
theorem d_H_visit_30 : decode b_H_visit 30 = .ok (.dup, 1) := by decide +kernel
theorem d_H_visit_31 : decode b_H_visit 31 = .ok (.ldc 199, 2) := by decide +kernel
theorem d_H_visit_33 : decode b_H_visit 33 = .ok (.invokespecial 131, 3) := by decide +kernel
theorem d_H_visit_36 : decode b_H_visit 36 = .ok (.athrow, 1) := by decide +kernel
theorem d_H_visit_37 : decode b_H_visit 37 = .ok (.aload_n 0, 1) := by decide +kernel
theorem d_H_visit_38 : decode b_H_visit 38 = .ok (.getfield 29, 3) := by decide +kernel
theorem d_H_visit_41 : decode b_H_visit 41 = .ok (.iload_n 1, 1) := by decide +kernel
theorem d_H_visit_42 : decode b_H_visit 42 = .ok (.iload_n 2, 1) := by decide +kernel
theorem d_H_visit_43 : decode b_H_visit 43 = .ok (.iastore, 1) := by decide +kernel
theorem d_H_visit_44 : decode b_H_visit 44 = .ok (.aload_n 0, 1) := by decide +kernel
theorem d_H_visit_45 : decode b_H_visit 45 = .ok (.getfield 33, 3) := by decide +kernel
theorem d_H_visit_48 : decode b_H_visit 48 = .ok (.iload_n 1, 1) := by decide +kernel
theorem d_H_visit_49 : decode b_H_visit 49 = .ok (.iload_n 3, 1) := by decide +kernel
theorem d_H_visit_50 : decode b_H_visit 50 = .ok (.iastore, 1) := by decide +kernel
theorem d_H_visit_51 : decode b_H_visit 51 = .ok (.aload_n 0, 1) := by decide +kernel
theorem d_H_visit_52 : decode b_H_visit 52 = .ok (.getfield 36, 3) := by decide +kernel
theorem d_H_visit_55 : decode b_H_visit 55 = .ok (.iload_n 1, 1) := by decide +kernel
theorem d_H_visit_56 : decode b_H_visit 56 = .ok (.iload 4, 2) := by decide +kernel
theorem d_H_visit_58 : decode b_H_visit 58 = .ok (.iastore, 1) := by decide +kernel
theorem d_H_visit_59 : decode b_H_visit 59 = .ok (.return_, 1) := by decide +kernel
theorem d_H_spread_0 : decode b_H_spread 0 = .ok (.iload_n 1, 1) := by decide +kernel
theorem d_H_spread_1 : decode b_H_spread 1 = .ok (.ifCond .lt 10, 3) := by decide +kernel
theorem d_H_spread_4 : decode b_H_spread 4 = .ok (.iload_n 1, 1) := by decide +kernel
theorem d_H_spread_5 : decode b_H_spread 5 = .ok (.sipush 200, 3) := by decide +kernel
theorem d_H_spread_8 : decode b_H_spread 8 = .ok (.if_icmp .le 13, 3) := by decide +kernel
theorem d_H_spread_11 : decode b_H_spread 11 = .ok (.new 99, 3) := by decide +kernel
theorem d_H_spread_14 : decode b_H_spread 14 = .ok (.dup, 1) := by decide +kernel
theorem d_H_spread_15 : decode b_H_spread 15 = .ok (.ldc 201, 2) := by decide +kernel
theorem d_H_spread_17 : decode b_H_spread 17 = .ok (.invokespecial 103, 3) := by decide +kernel
theorem d_H_spread_20 : decode b_H_spread 20 = .ok (.athrow, 1) := by decide +kernel
theorem d_H_spread_21 : decode b_H_spread 21 = .ok (.iconst 0, 1) := by decide +kernel
theorem d_H_spread_22 : decode b_H_spread 22 = .ok (.istore_n 2, 1) := by decide +kernel
theorem d_H_spread_23 : decode b_H_spread 23 = .ok (.iconst 0, 1) := by decide +kernel
theorem d_H_spread_24 : decode b_H_spread 24 = .ok (.istore_n 3, 1) := by decide +kernel
theorem d_H_spread_25 : decode b_H_spread 25 = .ok (.iload_n 3, 1) := by decide +kernel
theorem d_H_spread_26 : decode b_H_spread 26 = .ok (.iload_n 1, 1) := by decide +kernel
theorem d_H_spread_27 : decode b_H_spread 27 = .ok (.if_icmp .ge 78, 3) := by decide +kernel
theorem d_H_spread_30 : decode b_H_spread 30 = .ok (.aload_n 0, 1) := by decide +kernel
theorem d_H_spread_31 : decode b_H_spread 31 = .ok (.aload_n 0, 1) := by decide +kernel
theorem d_H_spread_32 : decode b_H_spread 32 = .ok (.getfield 29, 3) := by decide +kernel
theorem d_H_spread_35 : decode b_H_spread 35 = .ok (.iload_n 3, 1) := by decide +kernel
theorem d_H_spread_36 : decode b_H_spread 36 = .ok (.iaload, 1) := by decide +kernel
theorem d_H_spread_37 : decode b_H_spread 37 = .ok (.invokevirtual 192, 3) := by decide +kernel
theorem d_H_spread_40 : decode b_H_spread 40 = .ok (.ifCond .eq 59, 3) := by decide +kernel
theorem d_H_spread_43 : decode b_H_spread 43 = .ok (.aload_n 0, 1) := by decide +kernel
theorem d_H_spread_44 : decode b_H_spread 44 = .ok (.aload_n 0, 1) := by decide +kernel
theorem d_H_spread_45 : decode b_H_spread 45 = .ok (.getfield 33, 3) := by decide +kernel
theorem d_H_spread_48 : decode b_H_spread 48 = .ok (.iload_n 3, 1) := by decide +kernel
theorem d_H_spread_49 : decode b_H_spread 49 = .ok (.iaload, 1) := by decide +kernel
theorem d_H_spread_50 : decode b_H_spread 50 = .ok (.invokevirtual 196, 3) := by decide +kernel
theorem d_H_spread_53 : decode b_H_spread 53 = .ok (.ifCond .eq 46, 3) := by decide +kernel
theorem d_H_spread_56 : decode b_H_spread 56 = .ok (.aload_n 0, 1) := by decide +kernel
theorem d_H_spread_57 : decode b_H_spread 57 = .ok (.aload_n 0, 1) := by decide +kernel
theorem d_H_spread_58 : decode b_H_spread 58 = .ok (.getfield 10, 3) := by decide +kernel
theorem d_H_spread_61 : decode b_H_spread 61 = .ok (.aload_n 0, 1) := by decide +kernel
theorem d_H_spread_62 : decode b_H_spread 62 = .ok (.getfield 29, 3) := by decide +kernel
theorem d_H_spread_65 : decode b_H_spread 65 = .ok (.iload_n 3, 1) := by decide +kernel
theorem d_H_spread_66 : decode b_H_spread 66 = .ok (.iaload, 1) := by decide +kernel
theorem d_H_spread_67 : decode b_H_spread 67 = .ok (.invokevirtual 203, 3) := by decide +kernel
theorem d_H_spread_70 : decode b_H_spread 70 = .ok (.checkcast 59, 3) := by decide +kernel
theorem d_H_spread_73 : decode b_H_spread 73 = .ok (.aload_n 0, 1) := by decide +kernel
theorem d_H_spread_74 : decode b_H_spread 74 = .ok (.getfield 25, 3) := by decide +kernel
theorem d_H_spread_77 : decode b_H_spread 77 = .ok (.aload_n 0, 1) := by decide +kernel
theorem d_H_spread_78 : decode b_H_spread 78 = .ok (.getfield 33, 3) := by decide +kernel
theorem d_H_spread_81 : decode b_H_spread 81 = .ok (.iload_n 3, 1) := by decide +kernel
theorem d_H_spread_82 : decode b_H_spread 82 = .ok (.iaload, 1) := by decide +kernel
theorem d_H_spread_83 : decode b_H_spread 83 = .ok (.aaload, 1) := by decide +kernel
theorem d_H_spread_84 : decode b_H_spread 84 = .ok (.aload_n 0, 1) := by decide +kernel
theorem d_H_spread_85 : decode b_H_spread 85 = .ok (.getfield 36, 3) := by decide +kernel
theorem d_H_spread_88 : decode b_H_spread 88 = .ok (.iload_n 3, 1) := by decide +kernel
theorem d_H_spread_89 : decode b_H_spread 89 = .ok (.iaload, 1) := by decide +kernel
theorem d_H_spread_90 : decode b_H_spread 90 = .ok (.invokevirtual 113, 3) := by decide +kernel
theorem d_H_spread_93 : decode b_H_spread 93 = .ok (.ifCond .ne 6, 3) := by decide +kernel
theorem d_H_spread_96 : decode b_H_spread 96 = .ok (.iinc 2 1, 3) := by decide +kernel
theorem d_H_spread_99 : decode b_H_spread 99 = .ok (.iinc 3 1, 3) := by decide +kernel
theorem d_H_spread_102 : decode b_H_spread 102 = .ok (.goto (-77), 3) := by decide +kernel
theorem d_H_spread_105 : decode b_H_spread 105 = .ok (.iload_n 2, 1) := by decide +kernel
theorem d_H_spread_106 : decode b_H_spread 106 = .ok (.ireturn, 1) := by decide +kernel
end
section
/-! Decode rows (by program). -/
theorem d_L_issue_0 : decode b_L_issue 0 = .ok (.aload_n 3, 1) := by decide +kernel
theorem d_L_issue_1 : decode b_L_issue 1 = .ok (.iconst 0, 1) := by decide +kernel
theorem d_L_issue_2 : decode b_L_issue 2 = .ok (.aload_n 0, 1) := by decide +kernel
theorem d_L_issue_3 : decode b_L_issue 3 = .ok (.iload_n 1, 1) := by decide +kernel
theorem d_L_issue_4 : decode b_L_issue 4 = .ok (.iload_n 2, 1) := by decide +kernel
theorem d_L_issue_5 : decode b_L_issue 5 = .ok (.invokevirtual 7, 3) := by decide +kernel
theorem d_L_issue_8 : decode b_L_issue 8 = .ok (.i2l, 1) := by decide +kernel
theorem d_L_issue_9 : decode b_L_issue 9 = .ok (.lastore, 1) := by decide +kernel
theorem d_L_issue_10 : decode b_L_issue 10 = .ok (.goto 7, 3) := by decide +kernel
theorem d_L_issue_13 : decode b_L_issue 13 = .ok (.astore 4, 2) := by decide +kernel
theorem d_L_issue_15 : decode b_L_issue 15 = .ok (.iconst 1, 1) := by decide +kernel
theorem d_L_issue_16 : decode b_L_issue 16 = .ok (.ireturn, 1) := by decide +kernel
theorem d_L_issue_17 : decode b_L_issue 17 = .ok (.iconst 0, 1) := by decide +kernel
theorem d_L_issue_18 : decode b_L_issue 18 = .ok (.ireturn, 1) := by decide +kernel
theorem d_L_revoke_0 : decode b_L_revoke 0 = .ok (.aload_n 2, 1) := by decide +kernel
theorem d_L_revoke_1 : decode b_L_revoke 1 = .ok (.iconst 0, 1) := by decide +kernel
theorem d_L_revoke_2 : decode b_L_revoke 2 = .ok (.aload_n 0, 1) := by decide +kernel
theorem d_L_revoke_3 : decode b_L_revoke 3 = .ok (.iload_n 1, 1) := by decide +kernel
theorem d_L_revoke_4 : decode b_L_revoke 4 = .ok (.invokevirtual 15, 3) := by decide +kernel
theorem d_L_revoke_7 : decode b_L_revoke 7 = .ok (.i2l, 1) := by decide +kernel
theorem d_L_revoke_8 : decode b_L_revoke 8 = .ok (.lastore, 1) := by decide +kernel
theorem d_L_revoke_9 : decode b_L_revoke 9 = .ok (.goto 9, 3) := by decide +kernel
theorem d_L_revoke_12 : decode b_L_revoke 12 = .ok (.astore_n 3, 1) := by decide +kernel
theorem d_L_revoke_13 : decode b_L_revoke 13 = .ok (.iconst 1, 1) := by decide +kernel
theorem d_L_revoke_14 : decode b_L_revoke 14 = .ok (.ireturn, 1) := by decide +kernel
theorem d_L_revoke_15 : decode b_L_revoke 15 = .ok (.astore_n 3, 1) := by decide +kernel
theorem d_L_revoke_16 : decode b_L_revoke 16 = .ok (.iconst 2, 1) := by decide +kernel
theorem d_L_revoke_17 : decode b_L_revoke 17 = .ok (.ireturn, 1) := by decide +kernel
theorem d_L_revoke_18 : decode b_L_revoke 18 = .ok (.iconst 0, 1) := by decide +kernel
theorem d_L_revoke_19 : decode b_L_revoke 19 = .ok (.ireturn, 1) := by decide +kernel
theorem d_L_gate_0 : decode b_L_gate 0 = .ok (.aload_n 0, 1) := by decide +kernel
theorem d_L_gate_1 : decode b_L_gate 1 = .ok (.iload_n 1, 1) := by decide +kernel
theorem d_L_gate_2 : decode b_L_gate 2 = .ok (.invokevirtual 21, 3) := by decide +kernel
theorem d_L_gate_5 : decode b_L_gate 5 = .ok (.goto 6, 3) := by decide +kernel
theorem d_L_gate_8 : decode b_L_gate 8 = .ok (.astore_n 2, 1) := by decide +kernel
theorem d_L_gate_9 : decode b_L_gate 9 = .ok (.iconst 1, 1) := by decide +kernel
theorem d_L_gate_10 : decode b_L_gate 10 = .ok (.ireturn, 1) := by decide +kernel
theorem d_L_gate_11 : decode b_L_gate 11 = .ok (.iconst 0, 1) := by decide +kernel
theorem d_L_gate_12 : decode b_L_gate 12 = .ok (.ireturn, 1) := by decide +kernel
theorem d_L_zoneOf_0 : decode b_L_zoneOf 0 = .ok (.aload_n 0, 1) := by decide +kernel
theorem d_L_zoneOf_1 : decode b_L_zoneOf 1 = .ok (.iload_n 1, 1) := by decide +kernel
theorem d_L_zoneOf_2 : decode b_L_zoneOf 2 = .ok (.iload_n 2, 1) := by decide +kernel
theorem d_L_zoneOf_3 : decode b_L_zoneOf 3 = .ok (.invokevirtual 25, 3) := by decide +kernel
theorem d_L_zoneOf_6 : decode b_L_zoneOf 6 = .ok (.goto 12, 3) := by decide +kernel
theorem d_L_zoneOf_9 : decode b_L_zoneOf 9 = .ok (.astore_n 3, 1) := by decide +kernel
theorem d_L_zoneOf_10 : decode b_L_zoneOf 10 = .ok (.iconst 1, 1) := by decide +kernel
theorem d_L_zoneOf_11 : decode b_L_zoneOf 11 = .ok (.ireturn, 1) := by decide +kernel
theorem d_L_zoneOf_12 : decode b_L_zoneOf 12 = .ok (.astore_n 3, 1) := by decide +kernel
theorem d_L_zoneOf_13 : decode b_L_zoneOf 13 = .ok (.iconst 2, 1) := by decide +kernel
theorem d_L_zoneOf_14 : decode b_L_zoneOf 14 = .ok (.ireturn, 1) := by decide +kernel
theorem d_L_zoneOf_15 : decode b_L_zoneOf 15 = .ok (.astore_n 3, 1) := by decide +kernel
theorem d_L_zoneOf_16 : decode b_L_zoneOf 16 = .ok (.iconst 3, 1) := by decide +kernel
theorem d_L_zoneOf_17 : decode b_L_zoneOf 17 = .ok (.ireturn, 1) := by decide +kernel
theorem d_L_zoneOf_18 : decode b_L_zoneOf 18 = .ok (.iconst 0, 1) := by decide +kernel
theorem d_L_zoneOf_19 : decode b_L_zoneOf 19 = .ok (.ireturn, 1) := by decide +kernel
theorem d_L_show_0 : decode b_L_show 0 = .ok (.aload 4, 2) := by decide +kernel
theorem d_L_show_2 : decode b_L_show 2 = .ok (.iconst 0, 1) := by decide +kernel
theorem d_L_show_3 : decode b_L_show 3 = .ok (.aload_n 0, 1) := by decide +kernel
theorem d_L_show_4 : decode b_L_show 4 = .ok (.iload_n 1, 1) := by decide +kernel
theorem d_L_show_5 : decode b_L_show 5 = .ok (.iload_n 2, 1) := by decide +kernel
theorem d_L_show_6 : decode b_L_show 6 = .ok (.iload_n 3, 1) := by decide +kernel
theorem d_L_show_7 : decode b_L_show 7 = .ok (.invokevirtual 31, 3) := by decide +kernel
theorem d_L_show_10 : decode b_L_show 10 = .ok (.i2l, 1) := by decide +kernel
theorem d_L_show_11 : decode b_L_show 11 = .ok (.lastore, 1) := by decide +kernel
theorem d_L_show_12 : decode b_L_show 12 = .ok (.goto 7, 3) := by decide +kernel
theorem d_L_show_15 : decode b_L_show 15 = .ok (.astore 5, 2) := by decide +kernel
theorem d_L_show_17 : decode b_L_show 17 = .ok (.iconst 1, 1) := by decide +kernel
theorem d_L_show_18 : decode b_L_show 18 = .ok (.ireturn, 1) := by decide +kernel
theorem d_L_show_19 : decode b_L_show 19 = .ok (.iconst 0, 1) := by decide +kernel
theorem d_L_show_20 : decode b_L_show 20 = .ok (.ireturn, 1) := by decide +kernel
theorem d_L_tear_0 : decode b_L_tear 0 = .ok (.aload_n 0, 1) := by decide +kernel
theorem d_L_tear_1 : decode b_L_tear 1 = .ok (.iload_n 1, 1) := by decide +kernel
theorem d_L_tear_2 : decode b_L_tear 2 = .ok (.iload_n 2, 1) := by decide +kernel
theorem d_L_tear_3 : decode b_L_tear 3 = .ok (.invokevirtual 35, 3) := by decide +kernel
theorem d_L_tear_6 : decode b_L_tear 6 = .ok (.goto 9, 3) := by decide +kernel
theorem d_L_tear_9 : decode b_L_tear 9 = .ok (.astore_n 3, 1) := by decide +kernel
theorem d_L_tear_10 : decode b_L_tear 10 = .ok (.iconst 1, 1) := by decide +kernel
theorem d_L_tear_11 : decode b_L_tear 11 = .ok (.ireturn, 1) := by decide +kernel
theorem d_L_tear_12 : decode b_L_tear 12 = .ok (.astore_n 3, 1) := by decide +kernel
theorem d_L_tear_13 : decode b_L_tear 13 = .ok (.iconst 2, 1) := by decide +kernel
theorem d_L_tear_14 : decode b_L_tear 14 = .ok (.ireturn, 1) := by decide +kernel
theorem d_L_tear_15 : decode b_L_tear 15 = .ok (.iconst 0, 1) := by decide +kernel
theorem d_L_tear_16 : decode b_L_tear 16 = .ok (.ireturn, 1) := by decide +kernel
theorem d_L_written_0 : decode b_L_written 0 = .ok (.aload_n 2, 1) := by decide +kernel
theorem d_L_written_1 : decode b_L_written 1 = .ok (.iconst 0, 1) := by decide +kernel
theorem d_L_written_2 : decode b_L_written 2 = .ok (.aload_n 0, 1) := by decide +kernel
theorem d_L_written_3 : decode b_L_written 3 = .ok (.iload_n 1, 1) := by decide +kernel
theorem d_L_written_4 : decode b_L_written 4 = .ok (.invokevirtual 38, 3) := by decide +kernel
theorem d_L_written_7 : decode b_L_written 7 = .ok (.i2l, 1) := by decide +kernel
theorem d_L_written_8 : decode b_L_written 8 = .ok (.lastore, 1) := by decide +kernel
theorem d_L_written_9 : decode b_L_written 9 = .ok (.goto 6, 3) := by decide +kernel
theorem d_L_written_12 : decode b_L_written 12 = .ok (.astore_n 3, 1) := by decide +kernel
theorem d_L_written_13 : decode b_L_written 13 = .ok (.iconst 1, 1) := by decide +kernel
theorem d_L_written_14 : decode b_L_written 14 = .ok (.ireturn, 1) := by decide +kernel
theorem d_L_written_15 : decode b_L_written 15 = .ok (.iconst 0, 1) := by decide +kernel
theorem d_L_written_16 : decode b_L_written 16 = .ok (.ireturn, 1) := by decide +kernel
theorem d_L_word_0 : decode b_L_word 0 = .ok (.aload 4, 2) := by decide +kernel
theorem d_L_word_2 : decode b_L_word 2 = .ok (.iconst 0, 1) := by decide +kernel
theorem d_L_word_3 : decode b_L_word 3 = .ok (.aload_n 0, 1) := by decide +kernel
theorem d_L_word_4 : decode b_L_word 4 = .ok (.iload_n 1, 1) := by decide +kernel
theorem d_L_word_5 : decode b_L_word 5 = .ok (.iload_n 2, 1) := by decide +kernel
theorem d_L_word_6 : decode b_L_word 6 = .ok (.iload_n 3, 1) := by decide +kernel
theorem d_L_word_7 : decode b_L_word 7 = .ok (.invokevirtual 41, 3) := by decide +kernel
theorem d_L_word_10 : decode b_L_word 10 = .ok (.i2l, 1) := by decide +kernel
theorem d_L_word_11 : decode b_L_word 11 = .ok (.lastore, 1) := by decide +kernel
theorem d_L_word_12 : decode b_L_word 12 = .ok (.goto 7, 3) := by decide +kernel
theorem d_L_word_15 : decode b_L_word 15 = .ok (.astore 5, 2) := by decide +kernel
theorem d_L_word_17 : decode b_L_word 17 = .ok (.iconst 1, 1) := by decide +kernel
theorem d_L_word_18 : decode b_L_word 18 = .ok (.ireturn, 1) := by decide +kernel
theorem d_L_word_19 : decode b_L_word 19 = .ok (.iconst 0, 1) := by decide +kernel
theorem d_L_word_20 : decode b_L_word 20 = .ok (.ireturn, 1) := by decide +kernel
theorem d_L_carries_0 : decode b_L_carries 0 = .ok (.aload_n 3, 1) := by decide +kernel
theorem d_L_carries_1 : decode b_L_carries 1 = .ok (.iconst 0, 1) := by decide +kernel
theorem d_L_carries_2 : decode b_L_carries 2 = .ok (.aload_n 0, 1) := by decide +kernel
theorem d_L_carries_3 : decode b_L_carries 3 = .ok (.iload_n 1, 1) := by decide +kernel
theorem d_L_carries_4 : decode b_L_carries 4 = .ok (.iload_n 2, 1) := by decide +kernel
theorem d_L_carries_5 : decode b_L_carries 5 = .ok (.invokevirtual 44, 3) := by decide +kernel
theorem d_L_carries_8 : decode b_L_carries 8 = .ok (.i2l, 1) := by decide +kernel
theorem d_L_carries_9 : decode b_L_carries 9 = .ok (.lastore, 1) := by decide +kernel
theorem d_L_carries_10 : decode b_L_carries 10 = .ok (.goto 11, 3) := by decide +kernel
theorem d_L_carries_13 : decode b_L_carries 13 = .ok (.astore 4, 2) := by decide +kernel
theorem d_L_carries_15 : decode b_L_carries 15 = .ok (.iconst 1, 1) := by decide +kernel
theorem d_L_carries_16 : decode b_L_carries 16 = .ok (.ireturn, 1) := by decide +kernel
theorem d_L_carries_17 : decode b_L_carries 17 = .ok (.astore 4, 2) := by decide +kernel
theorem d_L_carries_19 : decode b_L_carries 19 = .ok (.iconst 2, 1) := by decide +kernel
theorem d_L_carries_20 : decode b_L_carries 20 = .ok (.ireturn, 1) := by decide +kernel
theorem d_L_carries_21 : decode b_L_carries 21 = .ok (.iconst 0, 1) := by decide +kernel
theorem d_L_carries_22 : decode b_L_carries 22 = .ok (.ireturn, 1) := by decide +kernel
theorem d_L_memory_0 : decode b_L_memory 0 = .ok (.aload_n 3, 1) := by decide +kernel
theorem d_L_memory_1 : decode b_L_memory 1 = .ok (.iconst 0, 1) := by decide +kernel
theorem d_L_memory_2 : decode b_L_memory 2 = .ok (.aload_n 0, 1) := by decide +kernel
theorem d_L_memory_3 : decode b_L_memory 3 = .ok (.iload_n 1, 1) := by decide +kernel
theorem d_L_memory_4 : decode b_L_memory 4 = .ok (.iload_n 2, 1) := by decide +kernel
theorem d_L_memory_5 : decode b_L_memory 5 = .ok (.invokevirtual 47, 3) := by decide +kernel
theorem d_L_memory_8 : decode b_L_memory 8 = .ok (.i2l, 1) := by decide +kernel
theorem d_L_memory_9 : decode b_L_memory 9 = .ok (.lastore, 1) := by decide +kernel
theorem d_L_memory_10 : decode b_L_memory 10 = .ok (.goto 7, 3) := by decide +kernel
theorem d_L_memory_13 : decode b_L_memory 13 = .ok (.astore 4, 2) := by decide +kernel
theorem d_L_memory_15 : decode b_L_memory 15 = .ok (.iconst 1, 1) := by decide +kernel
theorem d_L_memory_16 : decode b_L_memory 16 = .ok (.ireturn, 1) := by decide +kernel
theorem d_L_memory_17 : decode b_L_memory 17 = .ok (.iconst 0, 1) := by decide +kernel
theorem d_L_memory_18 : decode b_L_memory 18 = .ok (.ireturn, 1) := by decide +kernel
theorem d_L_about_0 : decode b_L_about 0 = .ok (.aload_n 3, 1) := by decide +kernel
theorem d_L_about_1 : decode b_L_about 1 = .ok (.iconst 0, 1) := by decide +kernel
theorem d_L_about_2 : decode b_L_about 2 = .ok (.aload_n 0, 1) := by decide +kernel
theorem d_L_about_3 : decode b_L_about 3 = .ok (.iload_n 1, 1) := by decide +kernel
theorem d_L_about_4 : decode b_L_about 4 = .ok (.iload_n 2, 1) := by decide +kernel
theorem d_L_about_5 : decode b_L_about 5 = .ok (.invokevirtual 50, 3) := by decide +kernel
theorem d_L_about_8 : decode b_L_about 8 = .ok (.i2l, 1) := by decide +kernel
theorem d_L_about_9 : decode b_L_about 9 = .ok (.lastore, 1) := by decide +kernel
theorem d_L_about_10 : decode b_L_about 10 = .ok (.goto 11, 3) := by decide +kernel
theorem d_L_about_13 : decode b_L_about 13 = .ok (.astore 4, 2) := by decide +kernel
theorem d_L_about_15 : decode b_L_about 15 = .ok (.iconst 1, 1) := by decide +kernel
theorem d_L_about_16 : decode b_L_about 16 = .ok (.ireturn, 1) := by decide +kernel
theorem d_L_about_17 : decode b_L_about 17 = .ok (.astore 4, 2) := by decide +kernel
theorem d_L_about_19 : decode b_L_about 19 = .ok (.iconst 2, 1) := by decide +kernel
theorem d_L_about_20 : decode b_L_about 20 = .ok (.ireturn, 1) := by decide +kernel
theorem d_L_about_21 : decode b_L_about 21 = .ok (.iconst 0, 1) := by decide +kernel
theorem d_L_about_22 : decode b_L_about 22 = .ok (.ireturn, 1) := by decide +kernel
theorem d_L_run_0 : decode b_L_run 0 = .ok (.aload 4, 2) := by decide +kernel
theorem d_L_run_2 : decode b_L_run 2 = .ok (.iconst 0, 1) := by decide +kernel
theorem d_L_run_3 : decode b_L_run 3 = .ok (.aload_n 0, 1) := by decide +kernel
theorem d_L_run_4 : decode b_L_run 4 = .ok (.iload_n 1, 1) := by decide +kernel
theorem d_L_run_5 : decode b_L_run 5 = .ok (.iload_n 2, 1) := by decide +kernel
theorem d_L_run_6 : decode b_L_run 6 = .ok (.iload_n 3, 1) := by decide +kernel
theorem d_L_run_7 : decode b_L_run 7 = .ok (.invokevirtual 53, 3) := by decide +kernel
theorem d_L_run_10 : decode b_L_run 10 = .ok (.i2l, 1) := by decide +kernel
theorem d_L_run_11 : decode b_L_run 11 = .ok (.lastore, 1) := by decide +kernel
theorem d_L_run_12 : decode b_L_run 12 = .ok (.goto 7, 3) := by decide +kernel
theorem d_L_run_15 : decode b_L_run 15 = .ok (.astore 5, 2) := by decide +kernel
theorem d_L_run_17 : decode b_L_run 17 = .ok (.iconst 1, 1) := by decide +kernel
theorem d_L_run_18 : decode b_L_run 18 = .ok (.ireturn, 1) := by decide +kernel
theorem d_L_run_19 : decode b_L_run 19 = .ok (.iconst 0, 1) := by decide +kernel
theorem d_L_run_20 : decode b_L_run 20 = .ok (.ireturn, 1) := by decide +kernel
theorem d_L_refuses_0 : decode b_L_refuses 0 = .ok (.aload_n 3, 1) := by decide +kernel
theorem d_L_refuses_1 : decode b_L_refuses 1 = .ok (.iconst 0, 1) := by decide +kernel
theorem d_L_refuses_2 : decode b_L_refuses 2 = .ok (.aload_n 0, 1) := by decide +kernel
theorem d_L_refuses_3 : decode b_L_refuses 3 = .ok (.iload_n 1, 1) := by decide +kernel
theorem d_L_refuses_4 : decode b_L_refuses 4 = .ok (.iload_n 2, 1) := by decide +kernel
theorem d_L_refuses_5 : decode b_L_refuses 5 = .ok (.invokevirtual 57, 3) := by decide +kernel
theorem d_L_refuses_8 : decode b_L_refuses 8 = .ok (.ifCond .eq 7, 3) := by decide +kernel
theorem d_L_refuses_11 : decode b_L_refuses 11 = .ok (.lconst 1, 1) := by decide +kernel
theorem d_L_refuses_12 : decode b_L_refuses 12 = .ok (.goto 4, 3) := by decide +kernel
theorem d_L_refuses_15 : decode b_L_refuses 15 = .ok (.lconst 0, 1) := by decide +kernel
theorem d_L_refuses_16 : decode b_L_refuses 16 = .ok (.lastore, 1) := by decide +kernel
theorem d_L_refuses_17 : decode b_L_refuses 17 = .ok (.goto 7, 3) := by decide +kernel
theorem d_L_refuses_20 : decode b_L_refuses 20 = .ok (.astore 4, 2) := by decide +kernel
theorem d_L_refuses_22 : decode b_L_refuses 22 = .ok (.iconst 1, 1) := by decide +kernel
theorem d_L_refuses_23 : decode b_L_refuses 23 = .ok (.ireturn, 1) := by decide +kernel
theorem d_L_refuses_24 : decode b_L_refuses 24 = .ok (.iconst 0, 1) := by decide +kernel
theorem d_L_refuses_25 : decode b_L_refuses 25 = .ok (.ireturn, 1) := by decide +kernel
theorem d_L_reach_0 : decode b_L_reach 0 = .ok (.aload_n 2, 1) := by decide +kernel
theorem d_L_reach_1 : decode b_L_reach 1 = .ok (.iconst 0, 1) := by decide +kernel
theorem d_L_reach_2 : decode b_L_reach 2 = .ok (.aload_n 0, 1) := by decide +kernel
theorem d_L_reach_3 : decode b_L_reach 3 = .ok (.iload_n 1, 1) := by decide +kernel
theorem d_L_reach_4 : decode b_L_reach 4 = .ok (.invokevirtual 61, 3) := by decide +kernel
theorem d_L_reach_7 : decode b_L_reach 7 = .ok (.i2l, 1) := by decide +kernel
theorem d_L_reach_8 : decode b_L_reach 8 = .ok (.lastore, 1) := by decide +kernel
theorem d_L_reach_9 : decode b_L_reach 9 = .ok (.goto 6, 3) := by decide +kernel
theorem d_L_reach_12 : decode b_L_reach 12 = .ok (.astore_n 3, 1) := by decide +kernel
theorem d_L_reach_13 : decode b_L_reach 13 = .ok (.iconst 1, 1) := by decide +kernel
theorem d_L_reach_14 : decode b_L_reach 14 = .ok (.ireturn, 1) := by decide +kernel
theorem d_L_reach_15 : decode b_L_reach 15 = .ok (.iconst 0, 1) := by decide +kernel
theorem d_L_reach_16 : decode b_L_reach 16 = .ok (.ireturn, 1) := by decide +kernel
theorem d_L_loseBattery_0 : decode b_L_loseBattery 0 = .ok (.aload_n 0, 1) := by decide +kernel
theorem d_L_loseBattery_1 : decode b_L_loseBattery 1 = .ok (.iload_n 1, 1) := by decide +kernel
theorem d_L_loseBattery_2 : decode b_L_loseBattery 2 = .ok (.invokevirtual 64, 3) := by decide +kernel
theorem d_L_loseBattery_5 : decode b_L_loseBattery 5 = .ok (.goto 6, 3) := by decide +kernel
theorem d_L_loseBattery_8 : decode b_L_loseBattery 8 = .ok (.astore_n 2, 1) := by decide +kernel
theorem d_L_loseBattery_9 : decode b_L_loseBattery 9 = .ok (.iconst 1, 1) := by decide +kernel
theorem d_L_loseBattery_10 : decode b_L_loseBattery 10 = .ok (.ireturn, 1) := by decide +kernel
theorem d_L_loseBattery_11 : decode b_L_loseBattery 11 = .ok (.iconst 0, 1) := by decide +kernel
theorem d_L_loseBattery_12 : decode b_L_loseBattery 12 = .ok (.ireturn, 1) := by decide +kernel
theorem d_L_visit_0 : decode b_L_visit 0 = .ok (.aload_n 0, 1) := by decide +kernel
theorem d_L_visit_1 : decode b_L_visit 1 = .ok (.iload_n 1, 1) := by decide +kernel
theorem d_L_visit_2 : decode b_L_visit 2 = .ok (.iload_n 2, 1) := by decide +kernel
theorem d_L_visit_3 : decode b_L_visit 3 = .ok (.iload_n 3, 1) := by decide +kernel
theorem d_L_visit_4 : decode b_L_visit 4 = .ok (.iload 4, 2) := by decide +kernel
theorem d_L_visit_6 : decode b_L_visit 6 = .ok (.invokevirtual 67, 3) := by decide +kernel
theorem d_L_visit_9 : decode b_L_visit 9 = .ok (.goto 7, 3) := by decide +kernel
theorem d_L_visit_12 : decode b_L_visit 12 = .ok (.astore 5, 2) := by decide +kernel
theorem d_L_visit_14 : decode b_L_visit 14 = .ok (.iconst 1, 1) := by decide +kernel
theorem d_L_visit_15 : decode b_L_visit 15 = .ok (.ireturn, 1) := by decide +kernel
theorem d_L_visit_16 : decode b_L_visit 16 = .ok (.iconst 0, 1) := by decide +kernel
theorem d_L_visit_17 : decode b_L_visit 17 = .ok (.ireturn, 1) := by decide +kernel
theorem d_L_spread_0 : decode b_L_spread 0 = .ok (.aload_n 2, 1) := by decide +kernel
theorem d_L_spread_1 : decode b_L_spread 1 = .ok (.iconst 0, 1) := by decide +kernel
theorem d_L_spread_2 : decode b_L_spread 2 = .ok (.aload_n 0, 1) := by decide +kernel
theorem d_L_spread_3 : decode b_L_spread 3 = .ok (.iload_n 1, 1) := by decide +kernel
theorem d_L_spread_4 : decode b_L_spread 4 = .ok (.invokevirtual 71, 3) := by decide +kernel
theorem d_L_spread_7 : decode b_L_spread 7 = .ok (.i2l, 1) := by decide +kernel
theorem d_L_spread_8 : decode b_L_spread 8 = .ok (.lastore, 1) := by decide +kernel
theorem d_L_spread_9 : decode b_L_spread 9 = .ok (.goto 6, 3) := by decide +kernel
theorem d_L_spread_12 : decode b_L_spread 12 = .ok (.astore_n 3, 1) := by decide +kernel
theorem d_L_spread_13 : decode b_L_spread 13 = .ok (.iconst 1, 1) := by decide +kernel
theorem d_L_spread_14 : decode b_L_spread 14 = .ok (.ireturn, 1) := by decide +kernel
theorem d_L_spread_15 : decode b_L_spread 15 = .ok (.iconst 0, 1) := by decide +kernel
theorem d_L_spread_16 : decode b_L_spread 16 = .ok (.ireturn, 1) := by decide +kernel
theorem d_law_0 : decode code 0 = .ok (.new 8, 3) := by decide +kernel
theorem d_law_3 : decode code 3 = .ok (.dup, 1) := by decide +kernel
theorem d_law_4 : decode code 4 = .ok (.invokespecial 74, 3) := by decide +kernel
theorem d_law_7 : decode code 7 = .ok (.astore_n 1, 1) := by decide +kernel
theorem d_law_8 : decode code 8 = .ok (.new 75, 3) := by decide +kernel
theorem d_law_11 : decode code 11 = .ok (.dup, 1) := by decide +kernel
theorem d_law_12 : decode code 12 = .ok (.invokespecial 77, 3) := by decide +kernel
theorem d_law_15 : decode code 15 = .ok (.astore_n 2, 1) := by decide +kernel
theorem d_law_16 : decode code 16 = .ok (.iconst 1, 1) := by decide +kernel
theorem d_law_17 : decode code 17 = .ok (.newarray .long, 2) := by decide +kernel
theorem d_law_19 : decode code 19 = .ok (.astore_n 3, 1) := by decide +kernel
theorem d_law_20 : decode code 20 = .ok (.iconst 0, 1) := by decide +kernel
theorem d_law_21 : decode code 21 = .ok (.istore 4, 2) := by decide +kernel
theorem d_law_23 : decode code 23 = .ok (.iload 4, 2) := by decide +kernel
theorem d_law_25 : decode code 25 = .ok (.aload_n 0, 1) := by decide +kernel
theorem d_law_26 : decode code 26 = .ok (.arraylength, 1) := by decide +kernel
theorem d_law_27 : decode code 27 = .ok (.iconst 5, 1) := by decide +kernel
theorem d_law_28 : decode code 28 = .ok (.isub, 1) := by decide +kernel
theorem d_law_29 : decode code 29 = .ok (.if_icmp .gt 1198, 3) := by decide +kernel
theorem d_law_32 : decode code 32 = .ok (.aload_n 0, 1) := by decide +kernel
theorem d_law_33 : decode code 33 = .ok (.iload 4, 2) := by decide +kernel
theorem d_law_35 : decode code 35 = .ok (.iaload, 1) := by decide +kernel
theorem d_law_36 : decode code 36 = .ok (.bipush 31, 2) := by decide +kernel
theorem d_law_38 : decode code 38 = .ok (.iand, 1) := by decide +kernel
theorem d_law_39 : decode code 39 = .ok (.tableswitch 1182 0 18 #[89, 157, 170, 226, 239, 275, 323, 403, 451, 507, 587, 655, 723, 791, 887, 962, 1018, 1054, 1126], 89) := by decide +kernel
theorem d_law_128 : decode code 128 = .ok (.aload_n 1, 1) := by decide +kernel
theorem d_law_129 : decode code 129 = .ok (.aload_n 0, 1) := by decide +kernel
theorem d_law_130 : decode code 130 = .ok (.iload 4, 2) := by decide +kernel
theorem d_law_132 : decode code 132 = .ok (.iconst 1, 1) := by decide +kernel
theorem d_law_133 : decode code 133 = .ok (.iadd, 1) := by decide +kernel
theorem d_law_134 : decode code 134 = .ok (.iaload, 1) := by decide +kernel
theorem d_law_135 : decode code 135 = .ok (.aload_n 0, 1) := by decide +kernel
theorem d_law_136 : decode code 136 = .ok (.iload 4, 2) := by decide +kernel
theorem d_law_138 : decode code 138 = .ok (.iconst 2, 1) := by decide +kernel
theorem d_law_139 : decode code 139 = .ok (.iadd, 1) := by decide +kernel
theorem d_law_140 : decode code 140 = .ok (.iaload, 1) := by decide +kernel
theorem d_law_141 : decode code 141 = .ok (.aload_n 3, 1) := by decide +kernel
theorem d_law_142 : decode code 142 = .ok (.invokestatic 78, 3) := by decide +kernel
theorem d_law_145 : decode code 145 = .ok (.istore 5, 2) := by decide +kernel
theorem d_law_147 : decode code 147 = .ok (.aload_n 2, 1) := by decide +kernel
theorem d_law_148 : decode code 148 = .ok (.aload_n 0, 1) := by decide +kernel
theorem d_law_149 : decode code 149 = .ok (.iload 4, 2) := by decide +kernel
theorem d_law_151 : decode code 151 = .ok (.iconst 1, 1) := by decide +kernel
theorem d_law_152 : decode code 152 = .ok (.iadd, 1) := by decide +kernel
theorem d_law_153 : decode code 153 = .ok (.iaload, 1) := by decide +kernel
theorem d_law_154 : decode code 154 = .ok (.aload_n 0, 1) := by decide +kernel
theorem d_law_155 : decode code 155 = .ok (.iload 4, 2) := by decide +kernel
theorem d_law_157 : decode code 157 = .ok (.iconst 2, 1) := by decide +kernel
theorem d_law_158 : decode code 158 = .ok (.iadd, 1) := by decide +kernel
theorem d_law_159 : decode code 159 = .ok (.iaload, 1) := by decide +kernel
theorem d_law_160 : decode code 160 = .ok (.invokevirtual 83, 3) := by decide +kernel
theorem d_law_163 : decode code 163 = .ok (.istore 6, 2) := by decide +kernel
theorem d_law_165 : decode code 165 = .ok (.aload_n 2, 1) := by decide +kernel
theorem d_law_166 : decode code 166 = .ok (.invokevirtual 84, 3) := by decide +kernel
theorem d_law_169 : decode code 169 = .ok (.iload 5, 2) := by decide +kernel
theorem d_law_171 : decode code 171 = .ok (.if_icmp .eq 5, 3) := by decide +kernel
theorem d_law_174 : decode code 174 = .ok (.iconst 0, 1) := by decide +kernel
theorem d_law_175 : decode code 175 = .ok (.ireturn, 1) := by decide +kernel
theorem d_law_176 : decode code 176 = .ok (.iload 5, 2) := by decide +kernel
theorem d_law_178 : decode code 178 = .ok (.ifCond .ne 15, 3) := by decide +kernel
theorem d_law_181 : decode code 181 = .ok (.aload_n 3, 1) := by decide +kernel
theorem d_law_182 : decode code 182 = .ok (.iconst 0, 1) := by decide +kernel
theorem d_law_183 : decode code 183 = .ok (.laload, 1) := by decide +kernel
theorem d_law_184 : decode code 184 = .ok (.iload 6, 2) := by decide +kernel
theorem d_law_186 : decode code 186 = .ok (.i2l, 1) := by decide +kernel
theorem d_law_187 : decode code 187 = .ok (.lcmp, 1) := by decide +kernel
theorem d_law_188 : decode code 188 = .ok (.ifCond .eq 5, 3) := by decide +kernel
theorem d_law_191 : decode code 191 = .ok (.iconst 0, 1) := by decide +kernel
theorem d_law_192 : decode code 192 = .ok (.ireturn, 1) := by decide +kernel
theorem d_law_193 : decode code 193 = .ok (.goto 1028, 3) := by decide +kernel
theorem d_law_196 : decode code 196 = .ok (.aload_n 1, 1) := by decide +kernel
theorem d_law_197 : decode code 197 = .ok (.invokevirtual 88, 3) := by decide +kernel
theorem d_law_200 : decode code 200 = .ok (.aload_n 2, 1) := by decide +kernel
theorem d_law_201 : decode code 201 = .ok (.invokevirtual 91, 3) := by decide +kernel
theorem d_law_204 : decode code 204 = .ok (.if_icmp .eq 1017, 3) := by decide +kernel
theorem d_law_207 : decode code 207 = .ok (.iconst 0, 1) := by decide +kernel
theorem d_law_208 : decode code 208 = .ok (.ireturn, 1) := by decide +kernel
theorem d_law_209 : decode code 209 = .ok (.aload_n 1, 1) := by decide +kernel
theorem d_law_210 : decode code 210 = .ok (.aload_n 0, 1) := by decide +kernel
theorem d_law_211 : decode code 211 = .ok (.iload 4, 2) := by decide +kernel
theorem d_law_213 : decode code 213 = .ok (.iconst 1, 1) := by decide +kernel
theorem d_law_214 : decode code 214 = .ok (.iadd, 1) := by decide +kernel
theorem d_law_215 : decode code 215 = .ok (.iaload, 1) := by decide +kernel
theorem d_law_216 : decode code 216 = .ok (.aload_n 3, 1) := by decide +kernel
theorem d_law_217 : decode code 217 = .ok (.invokestatic 92, 3) := by decide +kernel
theorem d_law_220 : decode code 220 = .ok (.istore 5, 2) := by decide +kernel
theorem d_law_222 : decode code 222 = .ok (.aload_n 2, 1) := by decide +kernel
theorem d_law_223 : decode code 223 = .ok (.aload_n 0, 1) := by decide +kernel
theorem d_law_224 : decode code 224 = .ok (.iload 4, 2) := by decide +kernel
theorem d_law_226 : decode code 226 = .ok (.iconst 1, 1) := by decide +kernel
theorem d_law_227 : decode code 227 = .ok (.iadd, 1) := by decide +kernel
theorem d_law_228 : decode code 228 = .ok (.iaload, 1) := by decide +kernel
theorem d_law_229 : decode code 229 = .ok (.invokevirtual 95, 3) := by decide +kernel
theorem d_law_232 : decode code 232 = .ok (.istore 6, 2) := by decide +kernel
theorem d_law_234 : decode code 234 = .ok (.aload_n 2, 1) := by decide +kernel
theorem d_law_235 : decode code 235 = .ok (.invokevirtual 84, 3) := by decide +kernel
theorem d_law_238 : decode code 238 = .ok (.iload 5, 2) := by decide +kernel
theorem d_law_240 : decode code 240 = .ok (.if_icmp .eq 5, 3) := by decide +kernel
theorem d_law_243 : decode code 243 = .ok (.iconst 0, 1) := by decide +kernel
theorem d_law_244 : decode code 244 = .ok (.ireturn, 1) := by decide +kernel
theorem d_law_245 : decode code 245 = .ok (.iload 5, 2) := by decide +kernel
theorem d_law_247 : decode code 247 = .ok (.ifCond .ne 15, 3) := by decide +kernel
theorem d_law_250 : decode code 250 = .ok (.aload_n 3, 1) := by decide +kernel
theorem d_law_251 : decode code 251 = .ok (.iconst 0, 1) := by decide +kernel
theorem d_law_252 : decode code 252 = .ok (.laload, 1) := by decide +kernel
theorem d_law_253 : decode code 253 = .ok (.iload 6, 2) := by decide +kernel
theorem d_law_255 : decode code 255 = .ok (.i2l, 1) := by decide +kernel
theorem d_law_256 : decode code 256 = .ok (.lcmp, 1) := by decide +kernel
theorem d_law_257 : decode code 257 = .ok (.ifCond .eq 5, 3) := by decide +kernel
theorem d_law_260 : decode code 260 = .ok (.iconst 0, 1) := by decide +kernel
theorem d_law_261 : decode code 261 = .ok (.ireturn, 1) := by decide +kernel
theorem d_law_262 : decode code 262 = .ok (.goto 959, 3) := by decide +kernel
theorem d_law_265 : decode code 265 = .ok (.aload_n 1, 1) := by decide +kernel
theorem d_law_266 : decode code 266 = .ok (.invokevirtual 96, 3) := by decide +kernel
theorem d_law_269 : decode code 269 = .ok (.aload_n 2, 1) := by decide +kernel
theorem d_law_270 : decode code 270 = .ok (.invokevirtual 99, 3) := by decide +kernel
theorem d_law_273 : decode code 273 = .ok (.if_icmp .eq 948, 3) := by decide +kernel
theorem d_law_276 : decode code 276 = .ok (.iconst 0, 1) := by decide +kernel
theorem d_law_277 : decode code 277 = .ok (.ireturn, 1) := by decide +kernel
theorem d_law_278 : decode code 278 = .ok (.aload_n 1, 1) := by decide +kernel
theorem d_law_279 : decode code 279 = .ok (.aload_n 0, 1) := by decide +kernel
theorem d_law_280 : decode code 280 = .ok (.iload 4, 2) := by decide +kernel
theorem d_law_282 : decode code 282 = .ok (.iconst 1, 1) := by decide +kernel
theorem d_law_283 : decode code 283 = .ok (.iadd, 1) := by decide +kernel
theorem d_law_284 : decode code 284 = .ok (.iaload, 1) := by decide +kernel
theorem d_law_285 : decode code 285 = .ok (.invokestatic 100, 3) := by decide +kernel
theorem d_law_288 : decode code 288 = .ok (.istore 5, 2) := by decide +kernel
theorem d_law_290 : decode code 290 = .ok (.aload_n 2, 1) := by decide +kernel
theorem d_law_291 : decode code 291 = .ok (.aload_n 0, 1) := by decide +kernel
theorem d_law_292 : decode code 292 = .ok (.iload 4, 2) := by decide +kernel
theorem d_law_294 : decode code 294 = .ok (.iconst 1, 1) := by decide +kernel
theorem d_law_295 : decode code 295 = .ok (.iadd, 1) := by decide +kernel
theorem d_law_296 : decode code 296 = .ok (.iaload, 1) := by decide +kernel
theorem d_law_297 : decode code 297 = .ok (.invokevirtual 103, 3) := by decide +kernel
theorem d_law_300 : decode code 300 = .ok (.aload_n 2, 1) := by decide +kernel
theorem d_law_301 : decode code 301 = .ok (.invokevirtual 84, 3) := by decide +kernel
theorem d_law_304 : decode code 304 = .ok (.iload 5, 2) := by decide +kernel
theorem d_law_306 : decode code 306 = .ok (.if_icmp .eq 5, 3) := by decide +kernel
theorem d_law_309 : decode code 309 = .ok (.iconst 0, 1) := by decide +kernel
theorem d_law_310 : decode code 310 = .ok (.ireturn, 1) := by decide +kernel
theorem d_law_311 : decode code 311 = .ok (.goto 910, 3) := by decide +kernel
theorem d_law_314 : decode code 314 = .ok (.aload_n 1, 1) := by decide +kernel
theorem d_law_315 : decode code 315 = .ok (.aload_n 0, 1) := by decide +kernel
theorem d_law_316 : decode code 316 = .ok (.iload 4, 2) := by decide +kernel
theorem d_law_318 : decode code 318 = .ok (.iconst 1, 1) := by decide +kernel
theorem d_law_319 : decode code 319 = .ok (.iadd, 1) := by decide +kernel
theorem d_law_320 : decode code 320 = .ok (.iaload, 1) := by decide +kernel
theorem d_law_321 : decode code 321 = .ok (.aload_n 0, 1) := by decide +kernel
theorem d_law_322 : decode code 322 = .ok (.iload 4, 2) := by decide +kernel
theorem d_law_324 : decode code 324 = .ok (.iconst 2, 1) := by decide +kernel
theorem d_law_325 : decode code 325 = .ok (.iadd, 1) := by decide +kernel
theorem d_law_326 : decode code 326 = .ok (.iaload, 1) := by decide +kernel
theorem d_law_327 : decode code 327 = .ok (.invokestatic 104, 3) := by decide +kernel
theorem d_law_330 : decode code 330 = .ok (.istore 5, 2) := by decide +kernel
theorem d_law_332 : decode code 332 = .ok (.aload_n 2, 1) := by decide +kernel
theorem d_law_333 : decode code 333 = .ok (.aload_n 0, 1) := by decide +kernel
theorem d_law_334 : decode code 334 = .ok (.iload 4, 2) := by decide +kernel
theorem d_law_336 : decode code 336 = .ok (.iconst 1, 1) := by decide +kernel
theorem d_law_337 : decode code 337 = .ok (.iadd, 1) := by decide +kernel
theorem d_law_338 : decode code 338 = .ok (.iaload, 1) := by decide +kernel
theorem d_law_339 : decode code 339 = .ok (.aload_n 0, 1) := by decide +kernel
theorem d_law_340 : decode code 340 = .ok (.iload 4, 2) := by decide +kernel
theorem d_law_342 : decode code 342 = .ok (.iconst 2, 1) := by decide +kernel
theorem d_law_343 : decode code 343 = .ok (.iadd, 1) := by decide +kernel
theorem d_law_344 : decode code 344 = .ok (.iaload, 1) := by decide +kernel
theorem d_law_345 : decode code 345 = .ok (.invokevirtual 107, 3) := by decide +kernel
theorem d_law_348 : decode code 348 = .ok (.aload_n 2, 1) := by decide +kernel
theorem d_law_349 : decode code 349 = .ok (.invokevirtual 84, 3) := by decide +kernel
theorem d_law_352 : decode code 352 = .ok (.iload 5, 2) := by decide +kernel
theorem d_law_354 : decode code 354 = .ok (.if_icmp .eq 5, 3) := by decide +kernel
theorem d_law_357 : decode code 357 = .ok (.iconst 0, 1) := by decide +kernel
theorem d_law_358 : decode code 358 = .ok (.ireturn, 1) := by decide +kernel
theorem d_law_359 : decode code 359 = .ok (.goto 862, 3) := by decide +kernel
theorem d_law_362 : decode code 362 = .ok (.aload_n 1, 1) := by decide +kernel
theorem d_law_363 : decode code 363 = .ok (.aload_n 0, 1) := by decide +kernel
theorem d_law_364 : decode code 364 = .ok (.iload 4, 2) := by decide +kernel
theorem d_law_366 : decode code 366 = .ok (.iconst 1, 1) := by decide +kernel
theorem d_law_367 : decode code 367 = .ok (.iadd, 1) := by decide +kernel
theorem d_law_368 : decode code 368 = .ok (.iaload, 1) := by decide +kernel
theorem d_law_369 : decode code 369 = .ok (.aload_n 0, 1) := by decide +kernel
theorem d_law_370 : decode code 370 = .ok (.iload 4, 2) := by decide +kernel
theorem d_law_372 : decode code 372 = .ok (.iconst 2, 1) := by decide +kernel
theorem d_law_373 : decode code 373 = .ok (.iadd, 1) := by decide +kernel
theorem d_law_374 : decode code 374 = .ok (.iaload, 1) := by decide +kernel
theorem d_law_375 : decode code 375 = .ok (.aload_n 0, 1) := by decide +kernel
theorem d_law_376 : decode code 376 = .ok (.iload 4, 2) := by decide +kernel
theorem d_law_378 : decode code 378 = .ok (.iconst 3, 1) := by decide +kernel
theorem d_law_379 : decode code 379 = .ok (.iadd, 1) := by decide +kernel
theorem d_law_380 : decode code 380 = .ok (.iaload, 1) := by decide +kernel
theorem d_law_381 : decode code 381 = .ok (.aload_n 3, 1) := by decide +kernel
theorem d_law_382 : decode code 382 = .ok (.invokestatic 108, 3) := by decide +kernel
theorem d_law_385 : decode code 385 = .ok (.istore 5, 2) := by decide +kernel
theorem d_law_387 : decode code 387 = .ok (.aload_n 2, 1) := by decide +kernel
theorem d_law_388 : decode code 388 = .ok (.aload_n 0, 1) := by decide +kernel
theorem d_law_389 : decode code 389 = .ok (.iload 4, 2) := by decide +kernel
theorem d_law_391 : decode code 391 = .ok (.iconst 1, 1) := by decide +kernel
theorem d_law_392 : decode code 392 = .ok (.iadd, 1) := by decide +kernel
theorem d_law_393 : decode code 393 = .ok (.iaload, 1) := by decide +kernel
theorem d_law_394 : decode code 394 = .ok (.aload_n 0, 1) := by decide +kernel
theorem d_law_395 : decode code 395 = .ok (.iload 4, 2) := by decide +kernel
theorem d_law_397 : decode code 397 = .ok (.iconst 2, 1) := by decide +kernel
theorem d_law_398 : decode code 398 = .ok (.iadd, 1) := by decide +kernel
theorem d_law_399 : decode code 399 = .ok (.iaload, 1) := by decide +kernel
theorem d_law_400 : decode code 400 = .ok (.aload_n 0, 1) := by decide +kernel
theorem d_law_401 : decode code 401 = .ok (.iload 4, 2) := by decide +kernel
theorem d_law_403 : decode code 403 = .ok (.iconst 3, 1) := by decide +kernel
theorem d_law_404 : decode code 404 = .ok (.iadd, 1) := by decide +kernel
theorem d_law_405 : decode code 405 = .ok (.iaload, 1) := by decide +kernel
theorem d_law_406 : decode code 406 = .ok (.invokevirtual 111, 3) := by decide +kernel
theorem d_law_409 : decode code 409 = .ok (.istore 6, 2) := by decide +kernel
theorem d_law_411 : decode code 411 = .ok (.aload_n 2, 1) := by decide +kernel
theorem d_law_412 : decode code 412 = .ok (.invokevirtual 84, 3) := by decide +kernel
theorem d_law_415 : decode code 415 = .ok (.iload 5, 2) := by decide +kernel
theorem d_law_417 : decode code 417 = .ok (.if_icmp .eq 5, 3) := by decide +kernel
theorem d_law_420 : decode code 420 = .ok (.iconst 0, 1) := by decide +kernel
theorem d_law_421 : decode code 421 = .ok (.ireturn, 1) := by decide +kernel
theorem d_law_422 : decode code 422 = .ok (.iload 5, 2) := by decide +kernel
theorem d_law_424 : decode code 424 = .ok (.ifCond .ne 15, 3) := by decide +kernel
theorem d_law_427 : decode code 427 = .ok (.aload_n 3, 1) := by decide +kernel
theorem d_law_428 : decode code 428 = .ok (.iconst 0, 1) := by decide +kernel
theorem d_law_429 : decode code 429 = .ok (.laload, 1) := by decide +kernel
theorem d_law_430 : decode code 430 = .ok (.iload 6, 2) := by decide +kernel
theorem d_law_432 : decode code 432 = .ok (.i2l, 1) := by decide +kernel
theorem d_law_433 : decode code 433 = .ok (.lcmp, 1) := by decide +kernel
theorem d_law_434 : decode code 434 = .ok (.ifCond .eq 5, 3) := by decide +kernel
theorem d_law_437 : decode code 437 = .ok (.iconst 0, 1) := by decide +kernel
theorem d_law_438 : decode code 438 = .ok (.ireturn, 1) := by decide +kernel
theorem d_law_439 : decode code 439 = .ok (.goto 782, 3) := by decide +kernel
theorem d_law_442 : decode code 442 = .ok (.aload_n 1, 1) := by decide +kernel
theorem d_law_443 : decode code 443 = .ok (.aload_n 0, 1) := by decide +kernel
theorem d_law_444 : decode code 444 = .ok (.iload 4, 2) := by decide +kernel
theorem d_law_446 : decode code 446 = .ok (.iconst 1, 1) := by decide +kernel
theorem d_law_447 : decode code 447 = .ok (.iadd, 1) := by decide +kernel
theorem d_law_448 : decode code 448 = .ok (.iaload, 1) := by decide +kernel
theorem d_law_449 : decode code 449 = .ok (.aload_n 0, 1) := by decide +kernel
theorem d_law_450 : decode code 450 = .ok (.iload 4, 2) := by decide +kernel
theorem d_law_452 : decode code 452 = .ok (.iconst 2, 1) := by decide +kernel
theorem d_law_453 : decode code 453 = .ok (.iadd, 1) := by decide +kernel
theorem d_law_454 : decode code 454 = .ok (.iaload, 1) := by decide +kernel
theorem d_law_455 : decode code 455 = .ok (.invokestatic 112, 3) := by decide +kernel
theorem d_law_458 : decode code 458 = .ok (.istore 5, 2) := by decide +kernel
theorem d_law_460 : decode code 460 = .ok (.aload_n 2, 1) := by decide +kernel
theorem d_law_461 : decode code 461 = .ok (.aload_n 0, 1) := by decide +kernel
theorem d_law_462 : decode code 462 = .ok (.iload 4, 2) := by decide +kernel
theorem d_law_464 : decode code 464 = .ok (.iconst 1, 1) := by decide +kernel
theorem d_law_465 : decode code 465 = .ok (.iadd, 1) := by decide +kernel
theorem d_law_466 : decode code 466 = .ok (.iaload, 1) := by decide +kernel
theorem d_law_467 : decode code 467 = .ok (.aload_n 0, 1) := by decide +kernel
theorem d_law_468 : decode code 468 = .ok (.iload 4, 2) := by decide +kernel
theorem d_law_470 : decode code 470 = .ok (.iconst 2, 1) := by decide +kernel
theorem d_law_471 : decode code 471 = .ok (.iadd, 1) := by decide +kernel
theorem d_law_472 : decode code 472 = .ok (.iaload, 1) := by decide +kernel
theorem d_law_473 : decode code 473 = .ok (.invokevirtual 114, 3) := by decide +kernel
theorem d_law_476 : decode code 476 = .ok (.aload_n 2, 1) := by decide +kernel
theorem d_law_477 : decode code 477 = .ok (.invokevirtual 84, 3) := by decide +kernel
theorem d_law_480 : decode code 480 = .ok (.iload 5, 2) := by decide +kernel
theorem d_law_482 : decode code 482 = .ok (.if_icmp .eq 5, 3) := by decide +kernel
theorem d_law_485 : decode code 485 = .ok (.iconst 0, 1) := by decide +kernel
theorem d_law_486 : decode code 486 = .ok (.ireturn, 1) := by decide +kernel
theorem d_law_487 : decode code 487 = .ok (.goto 734, 3) := by decide +kernel
theorem d_law_490 : decode code 490 = .ok (.aload_n 1, 1) := by decide +kernel
theorem d_law_491 : decode code 491 = .ok (.aload_n 0, 1) := by decide +kernel
theorem d_law_492 : decode code 492 = .ok (.iload 4, 2) := by decide +kernel
theorem d_law_494 : decode code 494 = .ok (.iconst 1, 1) := by decide +kernel
theorem d_law_495 : decode code 495 = .ok (.iadd, 1) := by decide +kernel
theorem d_law_496 : decode code 496 = .ok (.iaload, 1) := by decide +kernel
theorem d_law_497 : decode code 497 = .ok (.aload_n 3, 1) := by decide +kernel
theorem d_law_498 : decode code 498 = .ok (.invokestatic 115, 3) := by decide +kernel
theorem d_law_501 : decode code 501 = .ok (.istore 5, 2) := by decide +kernel
theorem d_law_503 : decode code 503 = .ok (.aload_n 2, 1) := by decide +kernel
theorem d_law_504 : decode code 504 = .ok (.aload_n 0, 1) := by decide +kernel
theorem d_law_505 : decode code 505 = .ok (.iload 4, 2) := by decide +kernel
theorem d_law_507 : decode code 507 = .ok (.iconst 1, 1) := by decide +kernel
theorem d_law_508 : decode code 508 = .ok (.iadd, 1) := by decide +kernel
theorem d_law_509 : decode code 509 = .ok (.iaload, 1) := by decide +kernel
theorem d_law_510 : decode code 510 = .ok (.invokevirtual 117, 3) := by decide +kernel
theorem d_law_513 : decode code 513 = .ok (.istore 6, 2) := by decide +kernel
theorem d_law_515 : decode code 515 = .ok (.aload_n 2, 1) := by decide +kernel
theorem d_law_516 : decode code 516 = .ok (.invokevirtual 84, 3) := by decide +kernel
theorem d_law_519 : decode code 519 = .ok (.iload 5, 2) := by decide +kernel
theorem d_law_521 : decode code 521 = .ok (.if_icmp .eq 5, 3) := by decide +kernel
theorem d_law_524 : decode code 524 = .ok (.iconst 0, 1) := by decide +kernel
theorem d_law_525 : decode code 525 = .ok (.ireturn, 1) := by decide +kernel
theorem d_law_526 : decode code 526 = .ok (.iload 5, 2) := by decide +kernel
theorem d_law_528 : decode code 528 = .ok (.ifCond .ne 15, 3) := by decide +kernel
theorem d_law_531 : decode code 531 = .ok (.aload_n 3, 1) := by decide +kernel
theorem d_law_532 : decode code 532 = .ok (.iconst 0, 1) := by decide +kernel
theorem d_law_533 : decode code 533 = .ok (.laload, 1) := by decide +kernel
theorem d_law_534 : decode code 534 = .ok (.iload 6, 2) := by decide +kernel
theorem d_law_536 : decode code 536 = .ok (.i2l, 1) := by decide +kernel
theorem d_law_537 : decode code 537 = .ok (.lcmp, 1) := by decide +kernel
theorem d_law_538 : decode code 538 = .ok (.ifCond .eq 5, 3) := by decide +kernel
theorem d_law_541 : decode code 541 = .ok (.iconst 0, 1) := by decide +kernel
theorem d_law_542 : decode code 542 = .ok (.ireturn, 1) := by decide +kernel
theorem d_law_543 : decode code 543 = .ok (.goto 678, 3) := by decide +kernel
theorem d_law_546 : decode code 546 = .ok (.aload_n 1, 1) := by decide +kernel
theorem d_law_547 : decode code 547 = .ok (.aload_n 0, 1) := by decide +kernel
theorem d_law_548 : decode code 548 = .ok (.iload 4, 2) := by decide +kernel
theorem d_law_550 : decode code 550 = .ok (.iconst 1, 1) := by decide +kernel
theorem d_law_551 : decode code 551 = .ok (.iadd, 1) := by decide +kernel
theorem d_law_552 : decode code 552 = .ok (.iaload, 1) := by decide +kernel
theorem d_law_553 : decode code 553 = .ok (.aload_n 0, 1) := by decide +kernel
theorem d_law_554 : decode code 554 = .ok (.iload 4, 2) := by decide +kernel
theorem d_law_556 : decode code 556 = .ok (.iconst 2, 1) := by decide +kernel
theorem d_law_557 : decode code 557 = .ok (.iadd, 1) := by decide +kernel
theorem d_law_558 : decode code 558 = .ok (.iaload, 1) := by decide +kernel
theorem d_law_559 : decode code 559 = .ok (.aload_n 0, 1) := by decide +kernel
theorem d_law_560 : decode code 560 = .ok (.iload 4, 2) := by decide +kernel
theorem d_law_562 : decode code 562 = .ok (.iconst 3, 1) := by decide +kernel
theorem d_law_563 : decode code 563 = .ok (.iadd, 1) := by decide +kernel
theorem d_law_564 : decode code 564 = .ok (.iaload, 1) := by decide +kernel
theorem d_law_565 : decode code 565 = .ok (.aload_n 3, 1) := by decide +kernel
theorem d_law_566 : decode code 566 = .ok (.invokestatic 118, 3) := by decide +kernel
theorem d_law_569 : decode code 569 = .ok (.istore 5, 2) := by decide +kernel
theorem d_law_571 : decode code 571 = .ok (.aload_n 2, 1) := by decide +kernel
theorem d_law_572 : decode code 572 = .ok (.aload_n 0, 1) := by decide +kernel
theorem d_law_573 : decode code 573 = .ok (.iload 4, 2) := by decide +kernel
theorem d_law_575 : decode code 575 = .ok (.iconst 1, 1) := by decide +kernel
theorem d_law_576 : decode code 576 = .ok (.iadd, 1) := by decide +kernel
theorem d_law_577 : decode code 577 = .ok (.iaload, 1) := by decide +kernel
theorem d_law_578 : decode code 578 = .ok (.aload_n 0, 1) := by decide +kernel
theorem d_law_579 : decode code 579 = .ok (.iload 4, 2) := by decide +kernel
theorem d_law_581 : decode code 581 = .ok (.iconst 2, 1) := by decide +kernel
theorem d_law_582 : decode code 582 = .ok (.iadd, 1) := by decide +kernel
theorem d_law_583 : decode code 583 = .ok (.iaload, 1) := by decide +kernel
theorem d_law_584 : decode code 584 = .ok (.aload_n 0, 1) := by decide +kernel
theorem d_law_585 : decode code 585 = .ok (.iload 4, 2) := by decide +kernel
theorem d_law_587 : decode code 587 = .ok (.iconst 3, 1) := by decide +kernel
theorem d_law_588 : decode code 588 = .ok (.iadd, 1) := by decide +kernel
theorem d_law_589 : decode code 589 = .ok (.iaload, 1) := by decide +kernel
theorem d_law_590 : decode code 590 = .ok (.invokevirtual 120, 3) := by decide +kernel
theorem d_law_593 : decode code 593 = .ok (.istore 6, 2) := by decide +kernel
theorem d_law_595 : decode code 595 = .ok (.aload_n 2, 1) := by decide +kernel
theorem d_law_596 : decode code 596 = .ok (.invokevirtual 84, 3) := by decide +kernel
theorem d_law_599 : decode code 599 = .ok (.iload 5, 2) := by decide +kernel
theorem d_law_601 : decode code 601 = .ok (.if_icmp .eq 5, 3) := by decide +kernel
theorem d_law_604 : decode code 604 = .ok (.iconst 0, 1) := by decide +kernel
theorem d_law_605 : decode code 605 = .ok (.ireturn, 1) := by decide +kernel
theorem d_law_606 : decode code 606 = .ok (.iload 5, 2) := by decide +kernel
theorem d_law_608 : decode code 608 = .ok (.ifCond .ne 15, 3) := by decide +kernel
theorem d_law_611 : decode code 611 = .ok (.aload_n 3, 1) := by decide +kernel
theorem d_law_612 : decode code 612 = .ok (.iconst 0, 1) := by decide +kernel
theorem d_law_613 : decode code 613 = .ok (.laload, 1) := by decide +kernel
theorem d_law_614 : decode code 614 = .ok (.iload 6, 2) := by decide +kernel
theorem d_law_616 : decode code 616 = .ok (.i2l, 1) := by decide +kernel
theorem d_law_617 : decode code 617 = .ok (.lcmp, 1) := by decide +kernel
theorem d_law_618 : decode code 618 = .ok (.ifCond .eq 5, 3) := by decide +kernel
theorem d_law_621 : decode code 621 = .ok (.iconst 0, 1) := by decide +kernel
theorem d_law_622 : decode code 622 = .ok (.ireturn, 1) := by decide +kernel
theorem d_law_623 : decode code 623 = .ok (.goto 598, 3) := by decide +kernel
theorem d_law_626 : decode code 626 = .ok (.aload_n 1, 1) := by decide +kernel
theorem d_law_627 : decode code 627 = .ok (.aload_n 0, 1) := by decide +kernel
theorem d_law_628 : decode code 628 = .ok (.iload 4, 2) := by decide +kernel
theorem d_law_630 : decode code 630 = .ok (.iconst 1, 1) := by decide +kernel
theorem d_law_631 : decode code 631 = .ok (.iadd, 1) := by decide +kernel
theorem d_law_632 : decode code 632 = .ok (.iaload, 1) := by decide +kernel
theorem d_law_633 : decode code 633 = .ok (.aload_n 0, 1) := by decide +kernel
theorem d_law_634 : decode code 634 = .ok (.iload 4, 2) := by decide +kernel
theorem d_law_636 : decode code 636 = .ok (.iconst 2, 1) := by decide +kernel
theorem d_law_637 : decode code 637 = .ok (.iadd, 1) := by decide +kernel
theorem d_law_638 : decode code 638 = .ok (.iaload, 1) := by decide +kernel
theorem d_law_639 : decode code 639 = .ok (.aload_n 3, 1) := by decide +kernel
theorem d_law_640 : decode code 640 = .ok (.invokestatic 121, 3) := by decide +kernel
theorem d_law_643 : decode code 643 = .ok (.istore 5, 2) := by decide +kernel
theorem d_law_645 : decode code 645 = .ok (.aload_n 2, 1) := by decide +kernel
theorem d_law_646 : decode code 646 = .ok (.aload_n 0, 1) := by decide +kernel
theorem d_law_647 : decode code 647 = .ok (.iload 4, 2) := by decide +kernel
theorem d_law_649 : decode code 649 = .ok (.iconst 1, 1) := by decide +kernel
theorem d_law_650 : decode code 650 = .ok (.iadd, 1) := by decide +kernel
theorem d_law_651 : decode code 651 = .ok (.iaload, 1) := by decide +kernel
theorem d_law_652 : decode code 652 = .ok (.aload_n 0, 1) := by decide +kernel
theorem d_law_653 : decode code 653 = .ok (.iload 4, 2) := by decide +kernel
theorem d_law_655 : decode code 655 = .ok (.iconst 2, 1) := by decide +kernel
theorem d_law_656 : decode code 656 = .ok (.iadd, 1) := by decide +kernel
theorem d_law_657 : decode code 657 = .ok (.iaload, 1) := by decide +kernel
theorem d_law_658 : decode code 658 = .ok (.invokevirtual 123, 3) := by decide +kernel
theorem d_law_661 : decode code 661 = .ok (.istore 6, 2) := by decide +kernel
theorem d_law_663 : decode code 663 = .ok (.aload_n 2, 1) := by decide +kernel
theorem d_law_664 : decode code 664 = .ok (.invokevirtual 84, 3) := by decide +kernel
theorem d_law_667 : decode code 667 = .ok (.iload 5, 2) := by decide +kernel
theorem d_law_669 : decode code 669 = .ok (.if_icmp .eq 5, 3) := by decide +kernel
theorem d_law_672 : decode code 672 = .ok (.iconst 0, 1) := by decide +kernel
theorem d_law_673 : decode code 673 = .ok (.ireturn, 1) := by decide +kernel
theorem d_law_674 : decode code 674 = .ok (.iload 5, 2) := by decide +kernel
theorem d_law_676 : decode code 676 = .ok (.ifCond .ne 15, 3) := by decide +kernel
theorem d_law_679 : decode code 679 = .ok (.aload_n 3, 1) := by decide +kernel
theorem d_law_680 : decode code 680 = .ok (.iconst 0, 1) := by decide +kernel
theorem d_law_681 : decode code 681 = .ok (.laload, 1) := by decide +kernel
theorem d_law_682 : decode code 682 = .ok (.iload 6, 2) := by decide +kernel
theorem d_law_684 : decode code 684 = .ok (.i2l, 1) := by decide +kernel
theorem d_law_685 : decode code 685 = .ok (.lcmp, 1) := by decide +kernel
theorem d_law_686 : decode code 686 = .ok (.ifCond .eq 5, 3) := by decide +kernel
theorem d_law_689 : decode code 689 = .ok (.iconst 0, 1) := by decide +kernel
theorem d_law_690 : decode code 690 = .ok (.ireturn, 1) := by decide +kernel
theorem d_law_691 : decode code 691 = .ok (.goto 530, 3) := by decide +kernel
theorem d_law_694 : decode code 694 = .ok (.aload_n 1, 1) := by decide +kernel
theorem d_law_695 : decode code 695 = .ok (.aload_n 0, 1) := by decide +kernel
theorem d_law_696 : decode code 696 = .ok (.iload 4, 2) := by decide +kernel
theorem d_law_698 : decode code 698 = .ok (.iconst 1, 1) := by decide +kernel
theorem d_law_699 : decode code 699 = .ok (.iadd, 1) := by decide +kernel
theorem d_law_700 : decode code 700 = .ok (.iaload, 1) := by decide +kernel
theorem d_law_701 : decode code 701 = .ok (.aload_n 0, 1) := by decide +kernel
theorem d_law_702 : decode code 702 = .ok (.iload 4, 2) := by decide +kernel
theorem d_law_704 : decode code 704 = .ok (.iconst 2, 1) := by decide +kernel
theorem d_law_705 : decode code 705 = .ok (.iadd, 1) := by decide +kernel
theorem d_law_706 : decode code 706 = .ok (.iaload, 1) := by decide +kernel
theorem d_law_707 : decode code 707 = .ok (.aload_n 3, 1) := by decide +kernel
theorem d_law_708 : decode code 708 = .ok (.invokestatic 124, 3) := by decide +kernel
theorem d_law_711 : decode code 711 = .ok (.istore 5, 2) := by decide +kernel
theorem d_law_713 : decode code 713 = .ok (.aload_n 2, 1) := by decide +kernel
theorem d_law_714 : decode code 714 = .ok (.aload_n 0, 1) := by decide +kernel
theorem d_law_715 : decode code 715 = .ok (.iload 4, 2) := by decide +kernel
theorem d_law_717 : decode code 717 = .ok (.iconst 1, 1) := by decide +kernel
theorem d_law_718 : decode code 718 = .ok (.iadd, 1) := by decide +kernel
theorem d_law_719 : decode code 719 = .ok (.iaload, 1) := by decide +kernel
theorem d_law_720 : decode code 720 = .ok (.aload_n 0, 1) := by decide +kernel
theorem d_law_721 : decode code 721 = .ok (.iload 4, 2) := by decide +kernel
theorem d_law_723 : decode code 723 = .ok (.iconst 2, 1) := by decide +kernel
theorem d_law_724 : decode code 724 = .ok (.iadd, 1) := by decide +kernel
theorem d_law_725 : decode code 725 = .ok (.iaload, 1) := by decide +kernel
theorem d_law_726 : decode code 726 = .ok (.invokevirtual 126, 3) := by decide +kernel
theorem d_law_729 : decode code 729 = .ok (.istore 6, 2) := by decide +kernel
theorem d_law_731 : decode code 731 = .ok (.aload_n 2, 1) := by decide +kernel
theorem d_law_732 : decode code 732 = .ok (.invokevirtual 84, 3) := by decide +kernel
theorem d_law_735 : decode code 735 = .ok (.iload 5, 2) := by decide +kernel
theorem d_law_737 : decode code 737 = .ok (.if_icmp .eq 5, 3) := by decide +kernel
theorem d_law_740 : decode code 740 = .ok (.iconst 0, 1) := by decide +kernel
theorem d_law_741 : decode code 741 = .ok (.ireturn, 1) := by decide +kernel
theorem d_law_742 : decode code 742 = .ok (.iload 5, 2) := by decide +kernel
theorem d_law_744 : decode code 744 = .ok (.ifCond .ne 15, 3) := by decide +kernel
theorem d_law_747 : decode code 747 = .ok (.aload_n 3, 1) := by decide +kernel
theorem d_law_748 : decode code 748 = .ok (.iconst 0, 1) := by decide +kernel
theorem d_law_749 : decode code 749 = .ok (.laload, 1) := by decide +kernel
theorem d_law_750 : decode code 750 = .ok (.iload 6, 2) := by decide +kernel
theorem d_law_752 : decode code 752 = .ok (.i2l, 1) := by decide +kernel
theorem d_law_753 : decode code 753 = .ok (.lcmp, 1) := by decide +kernel
theorem d_law_754 : decode code 754 = .ok (.ifCond .eq 5, 3) := by decide +kernel
theorem d_law_757 : decode code 757 = .ok (.iconst 0, 1) := by decide +kernel
theorem d_law_758 : decode code 758 = .ok (.ireturn, 1) := by decide +kernel
theorem d_law_759 : decode code 759 = .ok (.goto 462, 3) := by decide +kernel
theorem d_law_762 : decode code 762 = .ok (.aload_n 1, 1) := by decide +kernel
theorem d_law_763 : decode code 763 = .ok (.aload_n 0, 1) := by decide +kernel
theorem d_law_764 : decode code 764 = .ok (.iload 4, 2) := by decide +kernel
theorem d_law_766 : decode code 766 = .ok (.iconst 1, 1) := by decide +kernel
theorem d_law_767 : decode code 767 = .ok (.iadd, 1) := by decide +kernel
theorem d_law_768 : decode code 768 = .ok (.iaload, 1) := by decide +kernel
theorem d_law_769 : decode code 769 = .ok (.aload_n 0, 1) := by decide +kernel
theorem d_law_770 : decode code 770 = .ok (.iload 4, 2) := by decide +kernel
theorem d_law_772 : decode code 772 = .ok (.iconst 2, 1) := by decide +kernel
theorem d_law_773 : decode code 773 = .ok (.iadd, 1) := by decide +kernel
theorem d_law_774 : decode code 774 = .ok (.iaload, 1) := by decide +kernel
theorem d_law_775 : decode code 775 = .ok (.aload_n 3, 1) := by decide +kernel
theorem d_law_776 : decode code 776 = .ok (.invokestatic 127, 3) := by decide +kernel
theorem d_law_779 : decode code 779 = .ok (.istore 5, 2) := by decide +kernel
theorem d_law_781 : decode code 781 = .ok (.aload_n 2, 1) := by decide +kernel
theorem d_law_782 : decode code 782 = .ok (.aload_n 0, 1) := by decide +kernel
theorem d_law_783 : decode code 783 = .ok (.iload 4, 2) := by decide +kernel
theorem d_law_785 : decode code 785 = .ok (.iconst 1, 1) := by decide +kernel
theorem d_law_786 : decode code 786 = .ok (.iadd, 1) := by decide +kernel
theorem d_law_787 : decode code 787 = .ok (.iaload, 1) := by decide +kernel
theorem d_law_788 : decode code 788 = .ok (.aload_n 0, 1) := by decide +kernel
theorem d_law_789 : decode code 789 = .ok (.iload 4, 2) := by decide +kernel
theorem d_law_791 : decode code 791 = .ok (.iconst 2, 1) := by decide +kernel
theorem d_law_792 : decode code 792 = .ok (.iadd, 1) := by decide +kernel
theorem d_law_793 : decode code 793 = .ok (.iaload, 1) := by decide +kernel
theorem d_law_794 : decode code 794 = .ok (.invokevirtual 129, 3) := by decide +kernel
theorem d_law_797 : decode code 797 = .ok (.istore 6, 2) := by decide +kernel
theorem d_law_799 : decode code 799 = .ok (.aload_n 2, 1) := by decide +kernel
theorem d_law_800 : decode code 800 = .ok (.invokevirtual 84, 3) := by decide +kernel
theorem d_law_803 : decode code 803 = .ok (.iload 5, 2) := by decide +kernel
theorem d_law_805 : decode code 805 = .ok (.if_icmp .eq 5, 3) := by decide +kernel
theorem d_law_808 : decode code 808 = .ok (.iconst 0, 1) := by decide +kernel
theorem d_law_809 : decode code 809 = .ok (.ireturn, 1) := by decide +kernel
theorem d_law_810 : decode code 810 = .ok (.iload 5, 2) := by decide +kernel
theorem d_law_812 : decode code 812 = .ok (.ifCond .ne 15, 3) := by decide +kernel
theorem d_law_815 : decode code 815 = .ok (.aload_n 3, 1) := by decide +kernel
theorem d_law_816 : decode code 816 = .ok (.iconst 0, 1) := by decide +kernel
theorem d_law_817 : decode code 817 = .ok (.laload, 1) := by decide +kernel
theorem d_law_818 : decode code 818 = .ok (.iload 6, 2) := by decide +kernel
theorem d_law_820 : decode code 820 = .ok (.i2l, 1) := by decide +kernel
theorem d_law_821 : decode code 821 = .ok (.lcmp, 1) := by decide +kernel
theorem d_law_822 : decode code 822 = .ok (.ifCond .eq 5, 3) := by decide +kernel
theorem d_law_825 : decode code 825 = .ok (.iconst 0, 1) := by decide +kernel
theorem d_law_826 : decode code 826 = .ok (.ireturn, 1) := by decide +kernel
theorem d_law_827 : decode code 827 = .ok (.goto 394, 3) := by decide +kernel
theorem d_law_830 : decode code 830 = .ok (.aload_n 1, 1) := by decide +kernel
theorem d_law_831 : decode code 831 = .ok (.aload_n 0, 1) := by decide +kernel
theorem d_law_832 : decode code 832 = .ok (.iload 4, 2) := by decide +kernel
theorem d_law_834 : decode code 834 = .ok (.iconst 1, 1) := by decide +kernel
theorem d_law_835 : decode code 835 = .ok (.iadd, 1) := by decide +kernel
theorem d_law_836 : decode code 836 = .ok (.iaload, 1) := by decide +kernel
theorem d_law_837 : decode code 837 = .ok (.aload_n 0, 1) := by decide +kernel
theorem d_law_838 : decode code 838 = .ok (.iload 4, 2) := by decide +kernel
theorem d_law_840 : decode code 840 = .ok (.iconst 2, 1) := by decide +kernel
theorem d_law_841 : decode code 841 = .ok (.iadd, 1) := by decide +kernel
theorem d_law_842 : decode code 842 = .ok (.iaload, 1) := by decide +kernel
theorem d_law_843 : decode code 843 = .ok (.aload_n 0, 1) := by decide +kernel
theorem d_law_844 : decode code 844 = .ok (.iload 4, 2) := by decide +kernel
theorem d_law_846 : decode code 846 = .ok (.iconst 3, 1) := by decide +kernel
theorem d_law_847 : decode code 847 = .ok (.iadd, 1) := by decide +kernel
theorem d_law_848 : decode code 848 = .ok (.iaload, 1) := by decide +kernel
theorem d_law_849 : decode code 849 = .ok (.ifCond .eq 7, 3) := by decide +kernel
theorem d_law_852 : decode code 852 = .ok (.iconst 1, 1) := by decide +kernel
theorem d_law_853 : decode code 853 = .ok (.goto 4, 3) := by decide +kernel
theorem d_law_856 : decode code 856 = .ok (.iconst 0, 1) := by decide +kernel
theorem d_law_857 : decode code 857 = .ok (.aload_n 3, 1) := by decide +kernel
theorem d_law_858 : decode code 858 = .ok (.invokestatic 130, 3) := by decide +kernel
theorem d_law_861 : decode code 861 = .ok (.istore 5, 2) := by decide +kernel
theorem d_law_863 : decode code 863 = .ok (.aload_n 2, 1) := by decide +kernel
theorem d_law_864 : decode code 864 = .ok (.aload_n 0, 1) := by decide +kernel
theorem d_law_865 : decode code 865 = .ok (.iload 4, 2) := by decide +kernel
theorem d_law_867 : decode code 867 = .ok (.iconst 1, 1) := by decide +kernel
theorem d_law_868 : decode code 868 = .ok (.iadd, 1) := by decide +kernel
theorem d_law_869 : decode code 869 = .ok (.iaload, 1) := by decide +kernel
theorem d_law_870 : decode code 870 = .ok (.aload_n 0, 1) := by decide +kernel
theorem d_law_871 : decode code 871 = .ok (.iload 4, 2) := by decide +kernel
theorem d_law_873 : decode code 873 = .ok (.iconst 2, 1) := by decide +kernel
theorem d_law_874 : decode code 874 = .ok (.iadd, 1) := by decide +kernel
theorem d_law_875 : decode code 875 = .ok (.iaload, 1) := by decide +kernel
theorem d_law_876 : decode code 876 = .ok (.aload_n 0, 1) := by decide +kernel
theorem d_law_877 : decode code 877 = .ok (.iload 4, 2) := by decide +kernel
theorem d_law_879 : decode code 879 = .ok (.iconst 3, 1) := by decide +kernel
theorem d_law_880 : decode code 880 = .ok (.iadd, 1) := by decide +kernel
theorem d_law_881 : decode code 881 = .ok (.iaload, 1) := by decide +kernel
theorem d_law_882 : decode code 882 = .ok (.ifCond .eq 7, 3) := by decide +kernel
theorem d_law_885 : decode code 885 = .ok (.iconst 1, 1) := by decide +kernel
theorem d_law_886 : decode code 886 = .ok (.goto 4, 3) := by decide +kernel
theorem d_law_889 : decode code 889 = .ok (.iconst 0, 1) := by decide +kernel
theorem d_law_890 : decode code 890 = .ok (.invokevirtual 133, 3) := by decide +kernel
theorem d_law_893 : decode code 893 = .ok (.istore 6, 2) := by decide +kernel
theorem d_law_895 : decode code 895 = .ok (.aload_n 2, 1) := by decide +kernel
theorem d_law_896 : decode code 896 = .ok (.invokevirtual 84, 3) := by decide +kernel
theorem d_law_899 : decode code 899 = .ok (.iload 5, 2) := by decide +kernel
theorem d_law_901 : decode code 901 = .ok (.if_icmp .eq 5, 3) := by decide +kernel
theorem d_law_904 : decode code 904 = .ok (.iconst 0, 1) := by decide +kernel
theorem d_law_905 : decode code 905 = .ok (.ireturn, 1) := by decide +kernel
theorem d_law_906 : decode code 906 = .ok (.iload 5, 2) := by decide +kernel
theorem d_law_908 : decode code 908 = .ok (.ifCond .ne 15, 3) := by decide +kernel
theorem d_law_911 : decode code 911 = .ok (.aload_n 3, 1) := by decide +kernel
theorem d_law_912 : decode code 912 = .ok (.iconst 0, 1) := by decide +kernel
theorem d_law_913 : decode code 913 = .ok (.laload, 1) := by decide +kernel
theorem d_law_914 : decode code 914 = .ok (.iload 6, 2) := by decide +kernel
theorem d_law_916 : decode code 916 = .ok (.i2l, 1) := by decide +kernel
theorem d_law_917 : decode code 917 = .ok (.lcmp, 1) := by decide +kernel
theorem d_law_918 : decode code 918 = .ok (.ifCond .eq 5, 3) := by decide +kernel
theorem d_law_921 : decode code 921 = .ok (.iconst 0, 1) := by decide +kernel
theorem d_law_922 : decode code 922 = .ok (.ireturn, 1) := by decide +kernel
theorem d_law_923 : decode code 923 = .ok (.goto 298, 3) := by decide +kernel
theorem d_law_926 : decode code 926 = .ok (.aload_n 1, 1) := by decide +kernel
theorem d_law_927 : decode code 927 = .ok (.aload_n 0, 1) := by decide +kernel
theorem d_law_928 : decode code 928 = .ok (.iload 4, 2) := by decide +kernel
theorem d_law_930 : decode code 930 = .ok (.iconst 1, 1) := by decide +kernel
theorem d_law_931 : decode code 931 = .ok (.iadd, 1) := by decide +kernel
theorem d_law_932 : decode code 932 = .ok (.iaload, 1) := by decide +kernel
theorem d_law_933 : decode code 933 = .ok (.aload_n 0, 1) := by decide +kernel
theorem d_law_934 : decode code 934 = .ok (.iload 4, 2) := by decide +kernel
theorem d_law_936 : decode code 936 = .ok (.iconst 2, 1) := by decide +kernel
theorem d_law_937 : decode code 937 = .ok (.iadd, 1) := by decide +kernel
theorem d_law_938 : decode code 938 = .ok (.iaload, 1) := by decide +kernel
theorem d_law_939 : decode code 939 = .ok (.aload_n 3, 1) := by decide +kernel
theorem d_law_940 : decode code 940 = .ok (.invokestatic 134, 3) := by decide +kernel
theorem d_law_943 : decode code 943 = .ok (.istore 5, 2) := by decide +kernel
theorem d_law_945 : decode code 945 = .ok (.aload_n 2, 1) := by decide +kernel
theorem d_law_946 : decode code 946 = .ok (.aload_n 0, 1) := by decide +kernel
theorem d_law_947 : decode code 947 = .ok (.iload 4, 2) := by decide +kernel
theorem d_law_949 : decode code 949 = .ok (.iconst 1, 1) := by decide +kernel
theorem d_law_950 : decode code 950 = .ok (.iadd, 1) := by decide +kernel
theorem d_law_951 : decode code 951 = .ok (.iaload, 1) := by decide +kernel
theorem d_law_952 : decode code 952 = .ok (.aload_n 0, 1) := by decide +kernel
theorem d_law_953 : decode code 953 = .ok (.iload 4, 2) := by decide +kernel
theorem d_law_955 : decode code 955 = .ok (.iconst 2, 1) := by decide +kernel
theorem d_law_956 : decode code 956 = .ok (.iadd, 1) := by decide +kernel
theorem d_law_957 : decode code 957 = .ok (.iaload, 1) := by decide +kernel
theorem d_law_958 : decode code 958 = .ok (.invokevirtual 136, 3) := by decide +kernel
theorem d_law_961 : decode code 961 = .ok (.istore 6, 2) := by decide +kernel
theorem d_law_963 : decode code 963 = .ok (.aload_n 2, 1) := by decide +kernel
theorem d_law_964 : decode code 964 = .ok (.invokevirtual 84, 3) := by decide +kernel
theorem d_law_967 : decode code 967 = .ok (.iload 5, 2) := by decide +kernel
theorem d_law_969 : decode code 969 = .ok (.if_icmp .eq 5, 3) := by decide +kernel
theorem d_law_972 : decode code 972 = .ok (.iconst 0, 1) := by decide +kernel
theorem d_law_973 : decode code 973 = .ok (.ireturn, 1) := by decide +kernel
theorem d_law_974 : decode code 974 = .ok (.iload 5, 2) := by decide +kernel
theorem d_law_976 : decode code 976 = .ok (.ifCond .ne 22, 3) := by decide +kernel
theorem d_law_979 : decode code 979 = .ok (.aload_n 3, 1) := by decide +kernel
theorem d_law_980 : decode code 980 = .ok (.iconst 0, 1) := by decide +kernel
theorem d_law_981 : decode code 981 = .ok (.laload, 1) := by decide +kernel
theorem d_law_982 : decode code 982 = .ok (.iload 6, 2) := by decide +kernel
theorem d_law_984 : decode code 984 = .ok (.ifCond .eq 7, 3) := by decide +kernel
theorem d_law_987 : decode code 987 = .ok (.lconst 1, 1) := by decide +kernel
theorem d_law_988 : decode code 988 = .ok (.goto 4, 3) := by decide +kernel
theorem d_law_991 : decode code 991 = .ok (.lconst 0, 1) := by decide +kernel
theorem d_law_992 : decode code 992 = .ok (.lcmp, 1) := by decide +kernel
theorem d_law_993 : decode code 993 = .ok (.ifCond .eq 5, 3) := by decide +kernel
theorem d_law_996 : decode code 996 = .ok (.iconst 0, 1) := by decide +kernel
theorem d_law_997 : decode code 997 = .ok (.ireturn, 1) := by decide +kernel
theorem d_law_998 : decode code 998 = .ok (.goto 223, 3) := by decide +kernel
theorem d_law_1001 : decode code 1001 = .ok (.aload_n 1, 1) := by decide +kernel
theorem d_law_1002 : decode code 1002 = .ok (.aload_n 0, 1) := by decide +kernel
theorem d_law_1003 : decode code 1003 = .ok (.iload 4, 2) := by decide +kernel
theorem d_law_1005 : decode code 1005 = .ok (.iconst 1, 1) := by decide +kernel
theorem d_law_1006 : decode code 1006 = .ok (.iadd, 1) := by decide +kernel
theorem d_law_1007 : decode code 1007 = .ok (.iaload, 1) := by decide +kernel
theorem d_law_1008 : decode code 1008 = .ok (.aload_n 3, 1) := by decide +kernel
theorem d_law_1009 : decode code 1009 = .ok (.invokestatic 137, 3) := by decide +kernel
theorem d_law_1012 : decode code 1012 = .ok (.istore 5, 2) := by decide +kernel
theorem d_law_1014 : decode code 1014 = .ok (.aload_n 2, 1) := by decide +kernel
theorem d_law_1015 : decode code 1015 = .ok (.aload_n 0, 1) := by decide +kernel
theorem d_law_1016 : decode code 1016 = .ok (.iload 4, 2) := by decide +kernel
theorem d_law_1018 : decode code 1018 = .ok (.iconst 1, 1) := by decide +kernel
theorem d_law_1019 : decode code 1019 = .ok (.iadd, 1) := by decide +kernel
theorem d_law_1020 : decode code 1020 = .ok (.iaload, 1) := by decide +kernel
theorem d_law_1021 : decode code 1021 = .ok (.invokevirtual 139, 3) := by decide +kernel
theorem d_law_1024 : decode code 1024 = .ok (.istore 6, 2) := by decide +kernel
theorem d_law_1026 : decode code 1026 = .ok (.aload_n 2, 1) := by decide +kernel
theorem d_law_1027 : decode code 1027 = .ok (.invokevirtual 84, 3) := by decide +kernel
theorem d_law_1030 : decode code 1030 = .ok (.iload 5, 2) := by decide +kernel
theorem d_law_1032 : decode code 1032 = .ok (.if_icmp .eq 5, 3) := by decide +kernel
theorem d_law_1035 : decode code 1035 = .ok (.iconst 0, 1) := by decide +kernel
theorem d_law_1036 : decode code 1036 = .ok (.ireturn, 1) := by decide +kernel
theorem d_law_1037 : decode code 1037 = .ok (.iload 5, 2) := by decide +kernel
theorem d_law_1039 : decode code 1039 = .ok (.ifCond .ne 15, 3) := by decide +kernel
theorem d_law_1042 : decode code 1042 = .ok (.aload_n 3, 1) := by decide +kernel
theorem d_law_1043 : decode code 1043 = .ok (.iconst 0, 1) := by decide +kernel
theorem d_law_1044 : decode code 1044 = .ok (.laload, 1) := by decide +kernel
theorem d_law_1045 : decode code 1045 = .ok (.iload 6, 2) := by decide +kernel
theorem d_law_1047 : decode code 1047 = .ok (.i2l, 1) := by decide +kernel
theorem d_law_1048 : decode code 1048 = .ok (.lcmp, 1) := by decide +kernel
theorem d_law_1049 : decode code 1049 = .ok (.ifCond .eq 5, 3) := by decide +kernel
theorem d_law_1052 : decode code 1052 = .ok (.iconst 0, 1) := by decide +kernel
theorem d_law_1053 : decode code 1053 = .ok (.ireturn, 1) := by decide +kernel
theorem d_law_1054 : decode code 1054 = .ok (.goto 167, 3) := by decide +kernel
theorem d_law_1057 : decode code 1057 = .ok (.aload_n 1, 1) := by decide +kernel
theorem d_law_1058 : decode code 1058 = .ok (.aload_n 0, 1) := by decide +kernel
theorem d_law_1059 : decode code 1059 = .ok (.iload 4, 2) := by decide +kernel
theorem d_law_1061 : decode code 1061 = .ok (.iconst 1, 1) := by decide +kernel
theorem d_law_1062 : decode code 1062 = .ok (.iadd, 1) := by decide +kernel
theorem d_law_1063 : decode code 1063 = .ok (.iaload, 1) := by decide +kernel
theorem d_law_1064 : decode code 1064 = .ok (.invokestatic 140, 3) := by decide +kernel
theorem d_law_1067 : decode code 1067 = .ok (.istore 5, 2) := by decide +kernel
theorem d_law_1069 : decode code 1069 = .ok (.aload_n 2, 1) := by decide +kernel
theorem d_law_1070 : decode code 1070 = .ok (.aload_n 0, 1) := by decide +kernel
theorem d_law_1071 : decode code 1071 = .ok (.iload 4, 2) := by decide +kernel
theorem d_law_1073 : decode code 1073 = .ok (.iconst 1, 1) := by decide +kernel
theorem d_law_1074 : decode code 1074 = .ok (.iadd, 1) := by decide +kernel
theorem d_law_1075 : decode code 1075 = .ok (.iaload, 1) := by decide +kernel
theorem d_law_1076 : decode code 1076 = .ok (.invokevirtual 142, 3) := by decide +kernel
theorem d_law_1079 : decode code 1079 = .ok (.aload_n 2, 1) := by decide +kernel
theorem d_law_1080 : decode code 1080 = .ok (.invokevirtual 84, 3) := by decide +kernel
theorem d_law_1083 : decode code 1083 = .ok (.iload 5, 2) := by decide +kernel
theorem d_law_1085 : decode code 1085 = .ok (.if_icmp .eq 5, 3) := by decide +kernel
theorem d_law_1088 : decode code 1088 = .ok (.iconst 0, 1) := by decide +kernel
theorem d_law_1089 : decode code 1089 = .ok (.ireturn, 1) := by decide +kernel
theorem d_law_1090 : decode code 1090 = .ok (.goto 131, 3) := by decide +kernel
theorem d_law_1093 : decode code 1093 = .ok (.aload_n 1, 1) := by decide +kernel
theorem d_law_1094 : decode code 1094 = .ok (.aload_n 0, 1) := by decide +kernel
theorem d_law_1095 : decode code 1095 = .ok (.iload 4, 2) := by decide +kernel
theorem d_law_1097 : decode code 1097 = .ok (.iconst 1, 1) := by decide +kernel
theorem d_law_1098 : decode code 1098 = .ok (.iadd, 1) := by decide +kernel
theorem d_law_1099 : decode code 1099 = .ok (.iaload, 1) := by decide +kernel
theorem d_law_1100 : decode code 1100 = .ok (.aload_n 0, 1) := by decide +kernel
theorem d_law_1101 : decode code 1101 = .ok (.iload 4, 2) := by decide +kernel
theorem d_law_1103 : decode code 1103 = .ok (.iconst 2, 1) := by decide +kernel
theorem d_law_1104 : decode code 1104 = .ok (.iadd, 1) := by decide +kernel
theorem d_law_1105 : decode code 1105 = .ok (.iaload, 1) := by decide +kernel
theorem d_law_1106 : decode code 1106 = .ok (.aload_n 0, 1) := by decide +kernel
theorem d_law_1107 : decode code 1107 = .ok (.iload 4, 2) := by decide +kernel
theorem d_law_1109 : decode code 1109 = .ok (.iconst 3, 1) := by decide +kernel
theorem d_law_1110 : decode code 1110 = .ok (.iadd, 1) := by decide +kernel
theorem d_law_1111 : decode code 1111 = .ok (.iaload, 1) := by decide +kernel
theorem d_law_1112 : decode code 1112 = .ok (.aload_n 0, 1) := by decide +kernel
theorem d_law_1113 : decode code 1113 = .ok (.iload 4, 2) := by decide +kernel
theorem d_law_1115 : decode code 1115 = .ok (.iconst 4, 1) := by decide +kernel
theorem d_law_1116 : decode code 1116 = .ok (.iadd, 1) := by decide +kernel
theorem d_law_1117 : decode code 1117 = .ok (.iaload, 1) := by decide +kernel
theorem d_law_1118 : decode code 1118 = .ok (.invokestatic 143, 3) := by decide +kernel
theorem d_law_1121 : decode code 1121 = .ok (.istore 5, 2) := by decide +kernel
theorem d_law_1123 : decode code 1123 = .ok (.aload_n 2, 1) := by decide +kernel
theorem d_law_1124 : decode code 1124 = .ok (.aload_n 0, 1) := by decide +kernel
theorem d_law_1125 : decode code 1125 = .ok (.iload 4, 2) := by decide +kernel
theorem d_law_1127 : decode code 1127 = .ok (.iconst 1, 1) := by decide +kernel
theorem d_law_1128 : decode code 1128 = .ok (.iadd, 1) := by decide +kernel
theorem d_law_1129 : decode code 1129 = .ok (.iaload, 1) := by decide +kernel
theorem d_law_1130 : decode code 1130 = .ok (.aload_n 0, 1) := by decide +kernel
theorem d_law_1131 : decode code 1131 = .ok (.iload 4, 2) := by decide +kernel
theorem d_law_1133 : decode code 1133 = .ok (.iconst 2, 1) := by decide +kernel
theorem d_law_1134 : decode code 1134 = .ok (.iadd, 1) := by decide +kernel
theorem d_law_1135 : decode code 1135 = .ok (.iaload, 1) := by decide +kernel
theorem d_law_1136 : decode code 1136 = .ok (.aload_n 0, 1) := by decide +kernel
theorem d_law_1137 : decode code 1137 = .ok (.iload 4, 2) := by decide +kernel
theorem d_law_1139 : decode code 1139 = .ok (.iconst 3, 1) := by decide +kernel
theorem d_law_1140 : decode code 1140 = .ok (.iadd, 1) := by decide +kernel
theorem d_law_1141 : decode code 1141 = .ok (.iaload, 1) := by decide +kernel
theorem d_law_1142 : decode code 1142 = .ok (.aload_n 0, 1) := by decide +kernel
theorem d_law_1143 : decode code 1143 = .ok (.iload 4, 2) := by decide +kernel
theorem d_law_1145 : decode code 1145 = .ok (.iconst 4, 1) := by decide +kernel
theorem d_law_1146 : decode code 1146 = .ok (.iadd, 1) := by decide +kernel
theorem d_law_1147 : decode code 1147 = .ok (.iaload, 1) := by decide +kernel
theorem d_law_1148 : decode code 1148 = .ok (.invokevirtual 146, 3) := by decide +kernel
theorem d_law_1151 : decode code 1151 = .ok (.aload_n 2, 1) := by decide +kernel
theorem d_law_1152 : decode code 1152 = .ok (.invokevirtual 84, 3) := by decide +kernel
theorem d_law_1155 : decode code 1155 = .ok (.iload 5, 2) := by decide +kernel
theorem d_law_1157 : decode code 1157 = .ok (.if_icmp .eq 5, 3) := by decide +kernel
theorem d_law_1160 : decode code 1160 = .ok (.iconst 0, 1) := by decide +kernel
theorem d_law_1161 : decode code 1161 = .ok (.ireturn, 1) := by decide +kernel
theorem d_law_1162 : decode code 1162 = .ok (.goto 59, 3) := by decide +kernel
theorem d_law_1165 : decode code 1165 = .ok (.aload_n 1, 1) := by decide +kernel
theorem d_law_1166 : decode code 1166 = .ok (.aload_n 0, 1) := by decide +kernel
theorem d_law_1167 : decode code 1167 = .ok (.iload 4, 2) := by decide +kernel
theorem d_law_1169 : decode code 1169 = .ok (.iconst 1, 1) := by decide +kernel
theorem d_law_1170 : decode code 1170 = .ok (.iadd, 1) := by decide +kernel
theorem d_law_1171 : decode code 1171 = .ok (.iaload, 1) := by decide +kernel
theorem d_law_1172 : decode code 1172 = .ok (.aload_n 3, 1) := by decide +kernel
theorem d_law_1173 : decode code 1173 = .ok (.invokestatic 147, 3) := by decide +kernel
theorem d_law_1176 : decode code 1176 = .ok (.istore 5, 2) := by decide +kernel
theorem d_law_1178 : decode code 1178 = .ok (.aload_n 2, 1) := by decide +kernel
theorem d_law_1179 : decode code 1179 = .ok (.aload_n 0, 1) := by decide +kernel
theorem d_law_1180 : decode code 1180 = .ok (.iload 4, 2) := by decide +kernel
theorem d_law_1182 : decode code 1182 = .ok (.iconst 1, 1) := by decide +kernel
theorem d_law_1183 : decode code 1183 = .ok (.iadd, 1) := by decide +kernel
theorem d_law_1184 : decode code 1184 = .ok (.iaload, 1) := by decide +kernel
theorem d_law_1185 : decode code 1185 = .ok (.invokevirtual 149, 3) := by decide +kernel
theorem d_law_1188 : decode code 1188 = .ok (.istore 6, 2) := by decide +kernel
theorem d_law_1190 : decode code 1190 = .ok (.aload_n 2, 1) := by decide +kernel
theorem d_law_1191 : decode code 1191 = .ok (.invokevirtual 84, 3) := by decide +kernel
theorem d_law_1194 : decode code 1194 = .ok (.iload 5, 2) := by decide +kernel
theorem d_law_1196 : decode code 1196 = .ok (.if_icmp .eq 5, 3) := by decide +kernel
theorem d_law_1199 : decode code 1199 = .ok (.iconst 0, 1) := by decide +kernel
theorem d_law_1200 : decode code 1200 = .ok (.ireturn, 1) := by decide +kernel
theorem d_law_1201 : decode code 1201 = .ok (.iload 5, 2) := by decide +kernel
theorem d_law_1203 : decode code 1203 = .ok (.ifCond .ne 15, 3) := by decide +kernel
theorem d_law_1206 : decode code 1206 = .ok (.aload_n 3, 1) := by decide +kernel
theorem d_law_1207 : decode code 1207 = .ok (.iconst 0, 1) := by decide +kernel
theorem d_law_1208 : decode code 1208 = .ok (.laload, 1) := by decide +kernel
theorem d_law_1209 : decode code 1209 = .ok (.iload 6, 2) := by decide +kernel
theorem d_law_1211 : decode code 1211 = .ok (.i2l, 1) := by decide +kernel
theorem d_law_1212 : decode code 1212 = .ok (.lcmp, 1) := by decide +kernel
theorem d_law_1213 : decode code 1213 = .ok (.ifCond .eq 5, 3) := by decide +kernel
theorem d_law_1216 : decode code 1216 = .ok (.iconst 0, 1) := by decide +kernel
theorem d_law_1217 : decode code 1217 = .ok (.ireturn, 1) := by decide +kernel
theorem d_law_1218 : decode code 1218 = .ok (.goto 3, 3) := by decide +kernel
theorem d_law_1221 : decode code 1221 = .ok (.iinc 4 5, 3) := by decide +kernel
theorem d_law_1224 : decode code 1224 = .ok (.goto (-1201), 3) := by decide +kernel
theorem d_law_1227 : decode code 1227 = .ok (.iconst 1, 1) := by decide +kernel
theorem d_law_1228 : decode code 1228 = .ok (.ireturn, 1) := by decide +kernel
end
section
/-! Decode rows (by program). -/
theorem d_AL_init_0 : decode b_AL_init 0 = .ok (.aload_n 0, 1) := by decide +kernel
theorem d_AL_init_1 : decode b_AL_init 1 = .ok (.invokespecial 1, 3) := by decide +kernel
theorem d_AL_init_4 : decode b_AL_init 4 = .ok (.aload_n 0, 1) := by decide +kernel
theorem d_AL_init_5 : decode b_AL_init 5 = .ok (.getstatic 39, 3) := by decide +kernel
theorem d_AL_init_8 : decode b_AL_init 8 = .ok (.putfield 9, 3) := by decide +kernel
theorem d_AL_init_11 : decode b_AL_init 11 = .ok (.return_, 1) := by decide +kernel
theorem d_AbL_init_0 : decode b_AbL_init 0 = .ok (.aload_n 0, 1) := by decide +kernel
theorem d_AbL_init_1 : decode b_AbL_init 1 = .ok (.invokespecial 1, 3) := by decide +kernel
theorem d_AbL_init_4 : decode b_AbL_init 4 = .ok (.aload_n 0, 1) := by decide +kernel
theorem d_AbL_init_5 : decode b_AbL_init 5 = .ok (.iconst 0, 1) := by decide +kernel
theorem d_AbL_init_6 : decode b_AbL_init 6 = .ok (.putfield 7, 3) := by decide +kernel
theorem d_AbL_init_9 : decode b_AbL_init 9 = .ok (.return_, 1) := by decide +kernel
theorem d_AbC_init_0 : decode b_AbC_init 0 = .ok (.aload_n 0, 1) := by decide +kernel
theorem d_AbC_init_1 : decode b_AbC_init 1 = .ok (.invokespecial 1, 3) := by decide +kernel
theorem d_AbC_init_4 : decode b_AbC_init 4 = .ok (.return_, 1) := by decide +kernel
theorem d_Arr_fill_0 : decode b_Arr_fill 0 = .ok (.iconst 0, 1) := by decide +kernel
theorem d_Arr_fill_1 : decode b_Arr_fill 1 = .ok (.istore_n 2, 1) := by decide +kernel
theorem d_Arr_fill_2 : decode b_Arr_fill 2 = .ok (.aload_n 0, 1) := by decide +kernel
theorem d_Arr_fill_3 : decode b_Arr_fill 3 = .ok (.arraylength, 1) := by decide +kernel
theorem d_Arr_fill_4 : decode b_Arr_fill 4 = .ok (.istore_n 3, 1) := by decide +kernel
theorem d_Arr_fill_5 : decode b_Arr_fill 5 = .ok (.iload_n 2, 1) := by decide +kernel
theorem d_Arr_fill_6 : decode b_Arr_fill 6 = .ok (.iload_n 3, 1) := by decide +kernel
theorem d_Arr_fill_7 : decode b_Arr_fill 7 = .ok (.if_icmp .ge 13, 3) := by decide +kernel
theorem d_Arr_fill_10 : decode b_Arr_fill 10 = .ok (.aload_n 0, 1) := by decide +kernel
theorem d_Arr_fill_11 : decode b_Arr_fill 11 = .ok (.iload_n 2, 1) := by decide +kernel
theorem d_Arr_fill_12 : decode b_Arr_fill 12 = .ok (.iload_n 1, 1) := by decide +kernel
theorem d_Arr_fill_13 : decode b_Arr_fill 13 = .ok (.iastore, 1) := by decide +kernel
theorem d_Arr_fill_14 : decode b_Arr_fill 14 = .ok (.iinc 2 1, 3) := by decide +kernel
theorem d_Arr_fill_17 : decode b_Arr_fill 17 = .ok (.goto (-12), 3) := by decide +kernel
theorem d_Arr_fill_20 : decode b_Arr_fill 20 = .ok (.return_, 1) := by decide +kernel
theorem d_AL_size_0 : decode b_AL_size 0 = .ok (.aload_n 0, 1) := by decide +kernel
theorem d_AL_size_1 : decode b_AL_size 1 = .ok (.getfield 48, 3) := by decide +kernel
theorem d_AL_size_4 : decode b_AL_size 4 = .ok (.ireturn, 1) := by decide +kernel
theorem d_AL_add1_0 : decode b_AL_add1 0 = .ok (.aload_n 0, 1) := by decide +kernel
theorem d_AL_add1_1 : decode b_AL_add1 1 = .ok (.dup, 1) := by decide +kernel
theorem d_AL_add1_2 : decode b_AL_add1 2 = .ok (.getfield 63, 3) := by decide +kernel
theorem d_AL_add1_5 : decode b_AL_add1 5 = .ok (.iconst 1, 1) := by decide +kernel
theorem d_AL_add1_6 : decode b_AL_add1 6 = .ok (.iadd, 1) := by decide +kernel
theorem d_AL_add1_7 : decode b_AL_add1 7 = .ok (.putfield 63, 3) := by decide +kernel
theorem d_AL_add1_10 : decode b_AL_add1 10 = .ok (.aload_n 0, 1) := by decide +kernel
theorem d_AL_add1_11 : decode b_AL_add1 11 = .ok (.aload_n 1, 1) := by decide +kernel
theorem d_AL_add1_12 : decode b_AL_add1 12 = .ok (.aload_n 0, 1) := by decide +kernel
theorem d_AL_add1_13 : decode b_AL_add1 13 = .ok (.getfield 9, 3) := by decide +kernel
theorem d_AL_add1_16 : decode b_AL_add1 16 = .ok (.aload_n 0, 1) := by decide +kernel
theorem d_AL_add1_17 : decode b_AL_add1 17 = .ok (.getfield 48, 3) := by decide +kernel
theorem d_AL_add1_20 : decode b_AL_add1 20 = .ok (.invokevirtual 131, 3) := by decide +kernel
theorem d_AL_add1_23 : decode b_AL_add1 23 = .ok (.iconst 1, 1) := by decide +kernel
theorem d_AL_add1_24 : decode b_AL_add1 24 = .ok (.ireturn, 1) := by decide +kernel
theorem d_AL_add2_0 : decode b_AL_add2 0 = .ok (.iload_n 3, 1) := by decide +kernel
theorem d_AL_add2_1 : decode b_AL_add2 1 = .ok (.aload_n 2, 1) := by decide +kernel
theorem d_AL_add2_2 : decode b_AL_add2 2 = .ok (.arraylength, 1) := by decide +kernel
theorem d_AL_add2_3 : decode b_AL_add2 3 = .ok (.if_icmp .ne 8, 3) := by decide +kernel
theorem d_AL_add2_6 : decode b_AL_add2 6 = .ok (.aload_n 0, 1) := by decide +kernel
theorem d_AL_add2_7 : decode b_AL_add2 7 = .ok (.invokevirtual 129, 3) := by decide +kernel
theorem d_AL_add2_10 : decode b_AL_add2 10 = .ok (.astore_n 2, 1) := by decide +kernel
theorem d_AL_add2_11 : decode b_AL_add2 11 = .ok (.aload_n 2, 1) := by decide +kernel
theorem d_AL_add2_12 : decode b_AL_add2 12 = .ok (.iload_n 3, 1) := by decide +kernel
theorem d_AL_add2_13 : decode b_AL_add2 13 = .ok (.aload_n 1, 1) := by decide +kernel
theorem d_AL_add2_14 : decode b_AL_add2 14 = .ok (.aastore, 1) := by decide +kernel
theorem d_AL_add2_15 : decode b_AL_add2 15 = .ok (.aload_n 0, 1) := by decide +kernel
theorem d_AL_add2_16 : decode b_AL_add2 16 = .ok (.iload_n 3, 1) := by decide +kernel
theorem d_AL_add2_17 : decode b_AL_add2 17 = .ok (.iconst 1, 1) := by decide +kernel
theorem d_AL_add2_18 : decode b_AL_add2 18 = .ok (.iadd, 1) := by decide +kernel
theorem d_AL_add2_19 : decode b_AL_add2 19 = .ok (.putfield 48, 3) := by decide +kernel
theorem d_AL_add2_22 : decode b_AL_add2 22 = .ok (.return_, 1) := by decide +kernel
theorem d_AL_grow1_0 : decode b_AL_grow1 0 = .ok (.aload_n 0, 1) := by decide +kernel
theorem d_AL_grow1_1 : decode b_AL_grow1 1 = .ok (.aload_n 0, 1) := by decide +kernel
theorem d_AL_grow1_2 : decode b_AL_grow1 2 = .ok (.getfield 48, 3) := by decide +kernel
theorem d_AL_grow1_5 : decode b_AL_grow1 5 = .ok (.iconst 1, 1) := by decide +kernel
theorem d_AL_grow1_6 : decode b_AL_grow1 6 = .ok (.iadd, 1) := by decide +kernel
theorem d_AL_grow1_7 : decode b_AL_grow1 7 = .ok (.invokevirtual 69, 3) := by decide +kernel
theorem d_AL_grow1_10 : decode b_AL_grow1 10 = .ok (.areturn, 1) := by decide +kernel
theorem d_AL_grow2_0 : decode b_AL_grow2 0 = .ok (.aload_n 0, 1) := by decide +kernel
theorem d_AL_grow2_1 : decode b_AL_grow2 1 = .ok (.getfield 9, 3) := by decide +kernel
theorem d_AL_grow2_4 : decode b_AL_grow2 4 = .ok (.arraylength, 1) := by decide +kernel
theorem d_AL_grow2_5 : decode b_AL_grow2 5 = .ok (.istore_n 2, 1) := by decide +kernel
theorem d_AL_grow2_6 : decode b_AL_grow2 6 = .ok (.iload_n 2, 1) := by decide +kernel
theorem d_AL_grow2_7 : decode b_AL_grow2 7 = .ok (.ifCond .gt 13, 3) := by decide +kernel
theorem d_AL_grow2_10 : decode b_AL_grow2 10 = .ok (.aload_n 0, 1) := by decide +kernel
theorem d_AL_grow2_11 : decode b_AL_grow2 11 = .ok (.getfield 9, 3) := by decide +kernel
theorem d_AL_grow2_14 : decode b_AL_grow2 14 = .ok (.getstatic 39, 3) := by decide +kernel
theorem d_AL_grow2_17 : decode b_AL_grow2 17 = .ok (.if_acmp .eq 28, 3) := by decide +kernel
theorem d_AL_grow2_20 : decode b_AL_grow2 20 = .ok (.iload_n 2, 1) := by decide +kernel
theorem d_AL_grow2_21 : decode b_AL_grow2 21 = .ok (.iload_n 1, 1) := by decide +kernel
theorem d_AL_grow2_22 : decode b_AL_grow2 22 = .ok (.iload_n 2, 1) := by decide +kernel
theorem d_AL_grow2_23 : decode b_AL_grow2 23 = .ok (.isub, 1) := by decide +kernel
theorem d_AL_grow2_24 : decode b_AL_grow2 24 = .ok (.iload_n 2, 1) := by decide +kernel
theorem d_AL_grow2_25 : decode b_AL_grow2 25 = .ok (.iconst 1, 1) := by decide +kernel
theorem d_AL_grow2_26 : decode b_AL_grow2 26 = .ok (.ishr, 1) := by decide +kernel
theorem d_AL_grow2_27 : decode b_AL_grow2 27 = .ok (.invokestatic 73, 3) := by decide +kernel
theorem d_AL_grow2_30 : decode b_AL_grow2 30 = .ok (.istore_n 3, 1) := by decide +kernel
theorem d_AL_grow2_31 : decode b_AL_grow2 31 = .ok (.aload_n 0, 1) := by decide +kernel
theorem d_AL_grow2_32 : decode b_AL_grow2 32 = .ok (.aload_n 0, 1) := by decide +kernel
theorem d_AL_grow2_33 : decode b_AL_grow2 33 = .ok (.getfield 9, 3) := by decide +kernel
theorem d_AL_grow2_36 : decode b_AL_grow2 36 = .ok (.iload_n 3, 1) := by decide +kernel
theorem d_AL_grow2_37 : decode b_AL_grow2 37 = .ok (.invokestatic 66, 3) := by decide +kernel
theorem d_AL_grow2_40 : decode b_AL_grow2 40 = .ok (.dup_x1, 1) := by decide +kernel
theorem d_AL_grow2_41 : decode b_AL_grow2 41 = .ok (.putfield 9, 3) := by decide +kernel
theorem d_AL_grow2_44 : decode b_AL_grow2 44 = .ok (.areturn, 1) := by decide +kernel
theorem d_AL_grow2_45 : decode b_AL_grow2 45 = .ok (.aload_n 0, 1) := by decide +kernel
theorem d_AL_grow2_46 : decode b_AL_grow2 46 = .ok (.bipush 10, 2) := by decide +kernel
theorem d_AL_grow2_48 : decode b_AL_grow2 48 = .ok (.iload_n 1, 1) := by decide +kernel
theorem d_AL_grow2_49 : decode b_AL_grow2 49 = .ok (.invokestatic 79, 3) := by decide +kernel
theorem d_AL_grow2_52 : decode b_AL_grow2 52 = .ok (.anewarray 7, 3) := by decide +kernel
theorem d_AL_grow2_55 : decode b_AL_grow2 55 = .ok (.dup_x1, 1) := by decide +kernel
theorem d_AL_grow2_56 : decode b_AL_grow2 56 = .ok (.putfield 9, 3) := by decide +kernel
theorem d_AL_grow2_59 : decode b_AL_grow2 59 = .ok (.areturn, 1) := by decide +kernel
theorem d_ASup_newLength_0 : decode b_ASup_newLength 0 = .ok (.iload_n 0, 1) := by decide +kernel
theorem d_ASup_newLength_1 : decode b_ASup_newLength 1 = .ok (.iload_n 1, 1) := by decide +kernel
theorem d_ASup_newLength_2 : decode b_ASup_newLength 2 = .ok (.iload_n 2, 1) := by decide +kernel
theorem d_ASup_newLength_3 : decode b_ASup_newLength 3 = .ok (.invokestatic 194, 3) := by decide +kernel
theorem d_ASup_newLength_6 : decode b_ASup_newLength 6 = .ok (.iadd, 1) := by decide +kernel
theorem d_ASup_newLength_7 : decode b_ASup_newLength 7 = .ok (.istore_n 3, 1) := by decide +kernel
theorem d_ASup_newLength_8 : decode b_ASup_newLength 8 = .ok (.iconst 0, 1) := by decide +kernel
theorem d_ASup_newLength_9 : decode b_ASup_newLength 9 = .ok (.iload_n 3, 1) := by decide +kernel
theorem d_ASup_newLength_10 : decode b_ASup_newLength 10 = .ok (.if_icmp .ge 11, 3) := by decide +kernel
theorem d_ASup_newLength_13 : decode b_ASup_newLength 13 = .ok (.iload_n 3, 1) := by decide +kernel
theorem d_ASup_newLength_14 : decode b_ASup_newLength 14 = .ok (.ldc 200, 2) := by decide +kernel
theorem d_ASup_newLength_16 : decode b_ASup_newLength 16 = .ok (.if_icmp .gt 5, 3) := by decide +kernel
theorem d_ASup_newLength_19 : decode b_ASup_newLength 19 = .ok (.iload_n 3, 1) := by decide +kernel
theorem d_ASup_newLength_20 : decode b_ASup_newLength 20 = .ok (.ireturn, 1) := by decide +kernel
theorem d_ASup_newLength_21 : decode b_ASup_newLength 21 = .ok (.iload_n 0, 1) := by decide +kernel
theorem d_ASup_newLength_22 : decode b_ASup_newLength 22 = .ok (.iload_n 1, 1) := by decide +kernel
theorem d_ASup_newLength_23 : decode b_ASup_newLength 23 = .ok (.invokestatic 201, 3) := by decide +kernel
theorem d_ASup_newLength_26 : decode b_ASup_newLength 26 = .ok (.ireturn, 1) := by decide +kernel
theorem d_Math_max_0 : decode b_Math_max 0 = .ok (.iload_n 0, 1) := by decide +kernel
theorem d_Math_max_1 : decode b_Math_max 1 = .ok (.iload_n 1, 1) := by decide +kernel
theorem d_Math_max_2 : decode b_Math_max 2 = .ok (.if_icmp .lt 7, 3) := by decide +kernel
theorem d_Math_max_5 : decode b_Math_max 5 = .ok (.iload_n 0, 1) := by decide +kernel
theorem d_Math_max_6 : decode b_Math_max 6 = .ok (.goto 4, 3) := by decide +kernel
theorem d_Math_max_9 : decode b_Math_max 9 = .ok (.iload_n 1, 1) := by decide +kernel
theorem d_Math_max_10 : decode b_Math_max 10 = .ok (.ireturn, 1) := by decide +kernel
theorem d_ASup_hugeLength_0 : decode b_ASup_hugeLength 0 = .ok (.iload_n 0, 1) := by decide +kernel
theorem d_ASup_hugeLength_1 : decode b_ASup_hugeLength 1 = .ok (.iload_n 1, 1) := by decide +kernel
theorem d_ASup_hugeLength_2 : decode b_ASup_hugeLength 2 = .ok (.iadd, 1) := by decide +kernel
theorem d_ASup_hugeLength_3 : decode b_ASup_hugeLength 3 = .ok (.istore_n 2, 1) := by decide +kernel
theorem d_ASup_hugeLength_4 : decode b_ASup_hugeLength 4 = .ok (.iload_n 2, 1) := by decide +kernel
theorem d_ASup_hugeLength_5 : decode b_ASup_hugeLength 5 = .ok (.ifCond .ge 44, 3) := by decide +kernel
theorem d_ASup_hugeLength_8 : decode b_ASup_hugeLength 8 = .ok (.new 204, 3) := by decide +kernel
theorem d_ASup_hugeLength_11 : decode b_ASup_hugeLength 11 = .ok (.dup, 1) := by decide +kernel
theorem d_ASup_hugeLength_12 : decode b_ASup_hugeLength 12 = .ok (.new 89, 3) := by decide +kernel
theorem d_ASup_hugeLength_15 : decode b_ASup_hugeLength 15 = .ok (.dup, 1) := by decide +kernel
theorem d_ASup_hugeLength_16 : decode b_ASup_hugeLength 16 = .ok (.invokespecial 91, 3) := by decide +kernel
theorem d_ASup_hugeLength_19 : decode b_ASup_hugeLength 19 = .ok (.ldc 206, 2) := by decide +kernel
theorem d_ASup_hugeLength_21 : decode b_ASup_hugeLength 21 = .ok (.invokevirtual 94, 3) := by decide +kernel
theorem d_ASup_hugeLength_24 : decode b_ASup_hugeLength 24 = .ok (.iload_n 0, 1) := by decide +kernel
theorem d_ASup_hugeLength_25 : decode b_ASup_hugeLength 25 = .ok (.invokevirtual 98, 3) := by decide +kernel
theorem d_ASup_hugeLength_28 : decode b_ASup_hugeLength 28 = .ok (.ldc 208, 2) := by decide +kernel
theorem d_ASup_hugeLength_30 : decode b_ASup_hugeLength 30 = .ok (.invokevirtual 94, 3) := by decide +kernel
theorem d_ASup_hugeLength_33 : decode b_ASup_hugeLength 33 = .ok (.iload_n 1, 1) := by decide +kernel
theorem d_ASup_hugeLength_34 : decode b_ASup_hugeLength 34 = .ok (.invokevirtual 98, 3) := by decide +kernel
theorem d_ASup_hugeLength_37 : decode b_ASup_hugeLength 37 = .ok (.ldc 210, 2) := by decide +kernel
theorem d_ASup_hugeLength_39 : decode b_ASup_hugeLength 39 = .ok (.invokevirtual 94, 3) := by decide +kernel
theorem d_ASup_hugeLength_42 : decode b_ASup_hugeLength 42 = .ok (.invokevirtual 101, 3) := by decide +kernel
theorem d_ASup_hugeLength_45 : decode b_ASup_hugeLength 45 = .ok (.invokespecial 212, 3) := by decide +kernel
theorem d_ASup_hugeLength_48 : decode b_ASup_hugeLength 48 = .ok (.athrow, 1) := by decide +kernel
theorem d_ASup_hugeLength_49 : decode b_ASup_hugeLength 49 = .ok (.iload_n 2, 1) := by decide +kernel
theorem d_ASup_hugeLength_50 : decode b_ASup_hugeLength 50 = .ok (.ldc 200, 2) := by decide +kernel
theorem d_ASup_hugeLength_52 : decode b_ASup_hugeLength 52 = .ok (.if_icmp .gt 6, 3) := by decide +kernel
theorem d_ASup_hugeLength_55 : decode b_ASup_hugeLength 55 = .ok (.ldc 200, 2) := by decide +kernel
theorem d_ASup_hugeLength_57 : decode b_ASup_hugeLength 57 = .ok (.ireturn, 1) := by decide +kernel
theorem d_ASup_hugeLength_58 : decode b_ASup_hugeLength 58 = .ok (.iload_n 2, 1) := by decide +kernel
theorem d_ASup_hugeLength_59 : decode b_ASup_hugeLength 59 = .ok (.ireturn, 1) := by decide +kernel
theorem d_Arr_copyOf1_0 : decode b_Arr_copyOf1 0 = .ok (.aload_n 0, 1) := by decide +kernel
theorem d_Arr_copyOf1_1 : decode b_Arr_copyOf1 1 = .ok (.iload_n 1, 1) := by decide +kernel
theorem d_Arr_copyOf1_2 : decode b_Arr_copyOf1 2 = .ok (.aload_n 0, 1) := by decide +kernel
theorem d_Arr_copyOf1_3 : decode b_Arr_copyOf1 3 = .ok (.invokevirtual 86, 3) := by decide +kernel
theorem d_Arr_copyOf1_6 : decode b_Arr_copyOf1 6 = .ok (.invokestatic 300, 3) := by decide +kernel
theorem d_Arr_copyOf1_9 : decode b_Arr_copyOf1 9 = .ok (.areturn, 1) := by decide +kernel
theorem d_Arr_copyOf2_0 : decode b_Arr_copyOf2 0 = .ok (.aload_n 2, 1) := by decide +kernel
theorem d_Arr_copyOf2_1 : decode b_Arr_copyOf2 1 = .ok (.ldc 110, 2) := by decide +kernel
theorem d_Arr_copyOf2_3 : decode b_Arr_copyOf2 3 = .ok (.if_acmp .ne 10, 3) := by decide +kernel
theorem d_Arr_copyOf2_6 : decode b_Arr_copyOf2 6 = .ok (.iload_n 1, 1) := by decide +kernel
theorem d_Arr_copyOf2_7 : decode b_Arr_copyOf2 7 = .ok (.anewarray 2, 3) := by decide +kernel
theorem d_Arr_copyOf2_10 : decode b_Arr_copyOf2 10 = .ok (.goto 14, 3) := by decide +kernel
theorem d_Arr_copyOf2_13 : decode b_Arr_copyOf2 13 = .ok (.aload_n 2, 1) := by decide +kernel
theorem d_Arr_copyOf2_14 : decode b_Arr_copyOf2 14 = .ok (.invokevirtual 90, 3) := by decide +kernel
theorem d_Arr_copyOf2_17 : decode b_Arr_copyOf2 17 = .ok (.iload_n 1, 1) := by decide +kernel
theorem d_Arr_copyOf2_18 : decode b_Arr_copyOf2 18 = .ok (.invokestatic 95, 3) := by decide +kernel
theorem d_Arr_copyOf2_21 : decode b_Arr_copyOf2 21 = .ok (.checkcast 110, 3) := by decide +kernel
theorem d_Arr_copyOf2_24 : decode b_Arr_copyOf2 24 = .ok (.astore_n 3, 1) := by decide +kernel
theorem d_Arr_copyOf2_25 : decode b_Arr_copyOf2 25 = .ok (.aload_n 0, 1) := by decide +kernel
theorem d_Arr_copyOf2_26 : decode b_Arr_copyOf2 26 = .ok (.iconst 0, 1) := by decide +kernel
theorem d_Arr_copyOf2_27 : decode b_Arr_copyOf2 27 = .ok (.aload_n 3, 1) := by decide +kernel
theorem d_Arr_copyOf2_28 : decode b_Arr_copyOf2 28 = .ok (.iconst 0, 1) := by decide +kernel
theorem d_Arr_copyOf2_29 : decode b_Arr_copyOf2 29 = .ok (.aload_n 0, 1) := by decide +kernel
theorem d_Arr_copyOf2_30 : decode b_Arr_copyOf2 30 = .ok (.arraylength, 1) := by decide +kernel
theorem d_Arr_copyOf2_31 : decode b_Arr_copyOf2 31 = .ok (.iload_n 1, 1) := by decide +kernel
theorem d_Arr_copyOf2_32 : decode b_Arr_copyOf2 32 = .ok (.invokestatic 304, 3) := by decide +kernel
theorem d_Arr_copyOf2_35 : decode b_Arr_copyOf2 35 = .ok (.invokestatic 150, 3) := by decide +kernel
theorem d_Arr_copyOf2_38 : decode b_Arr_copyOf2 38 = .ok (.aload_n 3, 1) := by decide +kernel
theorem d_Arr_copyOf2_39 : decode b_Arr_copyOf2 39 = .ok (.areturn, 1) := by decide +kernel
theorem d_Math_min_0 : decode b_Math_min 0 = .ok (.iload_n 0, 1) := by decide +kernel
theorem d_Math_min_1 : decode b_Math_min 1 = .ok (.iload_n 1, 1) := by decide +kernel
theorem d_Math_min_2 : decode b_Math_min 2 = .ok (.if_icmp .gt 7, 3) := by decide +kernel
theorem d_Math_min_5 : decode b_Math_min 5 = .ok (.iload_n 0, 1) := by decide +kernel
theorem d_Math_min_6 : decode b_Math_min 6 = .ok (.goto 4, 3) := by decide +kernel
theorem d_Math_min_9 : decode b_Math_min 9 = .ok (.iload_n 1, 1) := by decide +kernel
theorem d_Math_min_10 : decode b_Math_min 10 = .ok (.ireturn, 1) := by decide +kernel
theorem d_AL_get_0 : decode b_AL_get 0 = .ok (.iload_n 1, 1) := by decide +kernel
theorem d_AL_get_1 : decode b_AL_get 1 = .ok (.aload_n 0, 1) := by decide +kernel
theorem d_AL_get_2 : decode b_AL_get 2 = .ok (.getfield 48, 3) := by decide +kernel
theorem d_AL_get_5 : decode b_AL_get 5 = .ok (.invokestatic 118, 3) := by decide +kernel
theorem d_AL_get_8 : decode b_AL_get 8 = .ok (.pop, 1) := by decide +kernel
theorem d_AL_get_9 : decode b_AL_get 9 = .ok (.aload_n 0, 1) := by decide +kernel
theorem d_AL_get_10 : decode b_AL_get 10 = .ok (.iload_n 1, 1) := by decide +kernel
theorem d_AL_get_11 : decode b_AL_get 11 = .ok (.invokevirtual 123, 3) := by decide +kernel
theorem d_AL_get_14 : decode b_AL_get 14 = .ok (.areturn, 1) := by decide +kernel
theorem d_Objs_checkIndex_0 : decode b_Objs_checkIndex 0 = .ok (.iload_n 0, 1) := by decide +kernel
theorem d_Objs_checkIndex_1 : decode b_Objs_checkIndex 1 = .ok (.iload_n 1, 1) := by decide +kernel
theorem d_Objs_checkIndex_2 : decode b_Objs_checkIndex 2 = .ok (.aconst_null, 1) := by decide +kernel
theorem d_Objs_checkIndex_3 : decode b_Objs_checkIndex 3 = .ok (.invokestatic 105, 3) := by decide +kernel
theorem d_Objs_checkIndex_6 : decode b_Objs_checkIndex 6 = .ok (.ireturn, 1) := by decide +kernel
theorem d_Pre_checkIndex_0 : decode b_Pre_checkIndex 0 = .ok (.iload_n 0, 1) := by decide +kernel
theorem d_Pre_checkIndex_1 : decode b_Pre_checkIndex 1 = .ok (.ifCond .lt 8, 3) := by decide +kernel
theorem d_Pre_checkIndex_4 : decode b_Pre_checkIndex 4 = .ok (.iload_n 0, 1) := by decide +kernel
theorem d_Pre_checkIndex_5 : decode b_Pre_checkIndex 5 = .ok (.iload_n 1, 1) := by decide +kernel
theorem d_Pre_checkIndex_6 : decode b_Pre_checkIndex 6 = .ok (.if_icmp .lt 10, 3) := by decide +kernel
theorem d_Pre_checkIndex_9 : decode b_Pre_checkIndex 9 = .ok (.aload_n 2, 1) := by decide +kernel
theorem d_Pre_checkIndex_10 : decode b_Pre_checkIndex 10 = .ok (.iload_n 0, 1) := by decide +kernel
theorem d_Pre_checkIndex_11 : decode b_Pre_checkIndex 11 = .ok (.iload_n 1, 1) := by decide +kernel
theorem d_Pre_checkIndex_12 : decode b_Pre_checkIndex 12 = .ok (.invokestatic 95, 3) := by decide +kernel
theorem d_Pre_checkIndex_15 : decode b_Pre_checkIndex 15 = .ok (.athrow, 1) := by decide +kernel
theorem d_Pre_checkIndex_16 : decode b_Pre_checkIndex 16 = .ok (.iload_n 0, 1) := by decide +kernel
theorem d_Pre_checkIndex_17 : decode b_Pre_checkIndex 17 = .ok (.ireturn, 1) := by decide +kernel
theorem d_AL_elementData_0 : decode b_AL_elementData 0 = .ok (.aload_n 0, 1) := by decide +kernel
theorem d_AL_elementData_1 : decode b_AL_elementData 1 = .ok (.getfield 9, 3) := by decide +kernel
theorem d_AL_elementData_4 : decode b_AL_elementData 4 = .ok (.iload_n 1, 1) := by decide +kernel
theorem d_AL_elementData_5 : decode b_AL_elementData 5 = .ok (.aaload, 1) := by decide +kernel
theorem d_AL_elementData_6 : decode b_AL_elementData 6 = .ok (.areturn, 1) := by decide +kernel
end
section
/-! The world as a map from addresses to cells: my own rows over the machine's rows. -/
abbrev GG : Type := va_G × (Nat → ClassId)
abbrev tyL (g : GG) : List (ClassId × FieldType) := [(g.2 0, .int), (g.2 1, .short), (g.2 2, .boolean), (g.2 3, .long), (g.2 4, .object "LockHouse$Door"), (g.2 5, .object "java/lang/Object")]
/-- the words that no frame keeps by itself -/
def NW : List Cond := [(Cond.methodLinkNest "LockHouse" (18 : Nat) ({ cls := "LockHouse$EntryList", name := "<init>", desc := "()V" } : MethodName) "LockHouse"), (Cond.arrayOver (FieldType.object "LockHouse$Door")), (Cond.fieldLinkNest "LockHouse" (110 : Nat) "LockHouse$Door" "zone" "I" "LockHouse"), (Cond.fieldLinkNest "LockHouse" (160 : Nat) "LockHouse$Door" "heard" "I" "LockHouse"), (Cond.fieldLinkNest "LockHouse" (157 : Nat) "LockHouse$Door" "greatest" "I" "LockHouse"), (Cond.fieldLinkNest "LockHouse" (104 : Nat) "LockHouse$Door" "used" "Z" "LockHouse"), (Cond.castable "java/lang/IllegalStateException" "java/lang/IllegalStateException"), (Cond.declares ({ cls := "java/lang/RuntimeException", name := "<init>", desc := "()V" } : MethodName)), (Cond.declares ({ cls := "java/lang/RuntimeException", name := "<init>", desc := "(Ljava/lang/String;)V" } : MethodName)), (Cond.declares ({ cls := "java/lang/Exception", name := "<init>", desc := "()V" } : MethodName)), (Cond.declares ({ cls := "java/lang/Exception", name := "<init>", desc := "(Ljava/lang/String;)V" } : MethodName)), (Cond.declares ({ cls := "java/lang/Throwable", name := "<init>", desc := "()V" } : MethodName)), (Cond.declares ({ cls := "java/lang/Throwable", name := "<init>", desc := "(Ljava/lang/String;)V" } : MethodName)), (Cond.methodLinkNest "LockHouse$Card" (9 : Nat) ({ cls := "LockHouse$Image", name := "<init>", desc := "()V" } : MethodName) "LockHouse"), (Cond.fieldLinkNest "LockHouse$Door" (63 : Nat) "LockHouse$Card" "endDay" "I" "LockHouse"), (Cond.fieldLinkNest "LockHouse$Door" (54 : Nat) "LockHouse$Card" "entry" "I" "LockHouse"), (Cond.fieldLinkNest "LockHouse" (72 : Nat) "LockHouse$Card" "entry" "I" "LockHouse"), (Cond.fieldLinkNest "LockHouse" (119 : Nat) "LockHouse$Card" "keep" "I" "LockHouse"), (Cond.fieldLinkNest "LockHouse" (122 : Nat) "LockHouse$Card" "wordsWritten" "I" "LockHouse"), (Cond.arrayOver (FieldType.object "java/lang/Object")), (Cond.castable "java/lang/IndexOutOfBoundsException" "java/lang/IndexOutOfBoundsException"), (Cond.fieldLinkNest "LockHouse$EntryList" (39 : Nat) "LockHouse$Entry" "card" "I" "LockHouse"), (Cond.castable "java/lang/IllegalArgumentException" "java/lang/IllegalArgumentException"), (Cond.castable "LockHouse$Card" "LockHouse$Card"), (Cond.castable "LockHouse$Entry" "LockHouse$Entry"), (Cond.declares ({ cls := "java/lang/Object", name := "getClass", desc := "()Ljava/lang/Class;" } : MethodName)), (Cond.castable "LockHouse" "java/lang/Object"), (Cond.castable "LockHouse$EntryList" "java/lang/Object"), (Cond.castable "LockHouse$Door" "java/lang/Object"), (Cond.castable "LockHouseModel" "java/lang/Object"), (Cond.castable "LockHouse$Card" "java/lang/Object"), (Cond.castable "LockHouse$Image" "java/lang/Object"), (Cond.castable "LockHouse$Entry" "java/lang/Object"), (Cond.castable "java/lang/String" "java/lang/Object")]
theorem nw_in : ∀ w ∈ NW, w ∈ lw_tbl := by
  unfold NW
  simp only [List.forall_mem_cons]
  exact ⟨u59, u70, u78, u80, u82, u84, u146, u147, u148, u149, u150, u151, u152, u220, u231, u235, u236, u238, u241, u307, u335, u375, u460, u880, u881, u884, u885, u886, u887, u888, u889, u890, u891, u892, fun _ h => absurd h List.not_mem_nil⟩
theorem nw59 : (Cond.methodLinkNest "LockHouse" (18 : Nat) ({ cls := "LockHouse$EntryList", name := "<init>", desc := "()V" } : MethodName) "LockHouse") ∈ NW := List.mem_of_getElem? (i := 0) rfl
theorem nw70 : (Cond.arrayOver (FieldType.object "LockHouse$Door")) ∈ NW := List.mem_of_getElem? (i := 1) rfl
theorem nw78 : (Cond.fieldLinkNest "LockHouse" (110 : Nat) "LockHouse$Door" "zone" "I" "LockHouse") ∈ NW := List.mem_of_getElem? (i := 2) rfl
theorem nw80 : (Cond.fieldLinkNest "LockHouse" (160 : Nat) "LockHouse$Door" "heard" "I" "LockHouse") ∈ NW := List.mem_of_getElem? (i := 3) rfl
theorem nw82 : (Cond.fieldLinkNest "LockHouse" (157 : Nat) "LockHouse$Door" "greatest" "I" "LockHouse") ∈ NW := List.mem_of_getElem? (i := 4) rfl
theorem nw84 : (Cond.fieldLinkNest "LockHouse" (104 : Nat) "LockHouse$Door" "used" "Z" "LockHouse") ∈ NW := List.mem_of_getElem? (i := 5) rfl
theorem nw146 : (Cond.castable "java/lang/IllegalStateException" "java/lang/IllegalStateException") ∈ NW := List.mem_of_getElem? (i := 6) rfl
theorem nw147 : (Cond.declares ({ cls := "java/lang/RuntimeException", name := "<init>", desc := "()V" } : MethodName)) ∈ NW := List.mem_of_getElem? (i := 7) rfl
theorem nw148 : (Cond.declares ({ cls := "java/lang/RuntimeException", name := "<init>", desc := "(Ljava/lang/String;)V" } : MethodName)) ∈ NW := List.mem_of_getElem? (i := 8) rfl
theorem nw149 : (Cond.declares ({ cls := "java/lang/Exception", name := "<init>", desc := "()V" } : MethodName)) ∈ NW := List.mem_of_getElem? (i := 9) rfl
theorem nw150 : (Cond.declares ({ cls := "java/lang/Exception", name := "<init>", desc := "(Ljava/lang/String;)V" } : MethodName)) ∈ NW := List.mem_of_getElem? (i := 10) rfl
theorem nw151 : (Cond.declares ({ cls := "java/lang/Throwable", name := "<init>", desc := "()V" } : MethodName)) ∈ NW := List.mem_of_getElem? (i := 11) rfl
theorem nw152 : (Cond.declares ({ cls := "java/lang/Throwable", name := "<init>", desc := "(Ljava/lang/String;)V" } : MethodName)) ∈ NW := List.mem_of_getElem? (i := 12) rfl
theorem nw220 : (Cond.methodLinkNest "LockHouse$Card" (9 : Nat) ({ cls := "LockHouse$Image", name := "<init>", desc := "()V" } : MethodName) "LockHouse") ∈ NW := List.mem_of_getElem? (i := 13) rfl
theorem nw231 : (Cond.fieldLinkNest "LockHouse$Door" (63 : Nat) "LockHouse$Card" "endDay" "I" "LockHouse") ∈ NW := List.mem_of_getElem? (i := 14) rfl
theorem nw235 : (Cond.fieldLinkNest "LockHouse$Door" (54 : Nat) "LockHouse$Card" "entry" "I" "LockHouse") ∈ NW := List.mem_of_getElem? (i := 15) rfl
theorem nw236 : (Cond.fieldLinkNest "LockHouse" (72 : Nat) "LockHouse$Card" "entry" "I" "LockHouse") ∈ NW := List.mem_of_getElem? (i := 16) rfl
theorem nw238 : (Cond.fieldLinkNest "LockHouse" (119 : Nat) "LockHouse$Card" "keep" "I" "LockHouse") ∈ NW := List.mem_of_getElem? (i := 17) rfl
theorem nw241 : (Cond.fieldLinkNest "LockHouse" (122 : Nat) "LockHouse$Card" "wordsWritten" "I" "LockHouse") ∈ NW := List.mem_of_getElem? (i := 18) rfl
theorem nw307 : (Cond.arrayOver (FieldType.object "java/lang/Object")) ∈ NW := List.mem_of_getElem? (i := 19) rfl
theorem nw335 : (Cond.castable "java/lang/IndexOutOfBoundsException" "java/lang/IndexOutOfBoundsException") ∈ NW := List.mem_of_getElem? (i := 20) rfl
theorem nw375 : (Cond.fieldLinkNest "LockHouse$EntryList" (39 : Nat) "LockHouse$Entry" "card" "I" "LockHouse") ∈ NW := List.mem_of_getElem? (i := 21) rfl
theorem nw460 : (Cond.castable "java/lang/IllegalArgumentException" "java/lang/IllegalArgumentException") ∈ NW := List.mem_of_getElem? (i := 22) rfl
theorem nw880 : (Cond.castable "LockHouse$Card" "LockHouse$Card") ∈ NW := List.mem_of_getElem? (i := 23) rfl
theorem nw881 : (Cond.castable "LockHouse$Entry" "LockHouse$Entry") ∈ NW := List.mem_of_getElem? (i := 24) rfl
theorem nw884 : (Cond.declares ({ cls := "java/lang/Object", name := "getClass", desc := "()Ljava/lang/Class;" } : MethodName)) ∈ NW := List.mem_of_getElem? (i := 25) rfl
theorem nw885 : (Cond.castable "LockHouse" "java/lang/Object") ∈ NW := List.mem_of_getElem? (i := 26) rfl
theorem nw886 : (Cond.castable "LockHouse$EntryList" "java/lang/Object") ∈ NW := List.mem_of_getElem? (i := 27) rfl
theorem nw887 : (Cond.castable "LockHouse$Door" "java/lang/Object") ∈ NW := List.mem_of_getElem? (i := 28) rfl
theorem nw888 : (Cond.castable "LockHouseModel" "java/lang/Object") ∈ NW := List.mem_of_getElem? (i := 29) rfl
theorem nw889 : (Cond.castable "LockHouse$Card" "java/lang/Object") ∈ NW := List.mem_of_getElem? (i := 30) rfl
theorem nw890 : (Cond.castable "LockHouse$Image" "java/lang/Object") ∈ NW := List.mem_of_getElem? (i := 31) rfl
theorem nw891 : (Cond.castable "LockHouse$Entry" "java/lang/Object") ∈ NW := List.mem_of_getElem? (i := 32) rfl
theorem nw892 : (Cond.castable "java/lang/String" "java/lang/Object") ∈ NW := List.mem_of_getElem? (i := 33) rfl
def nwOK : Cond → Bool
  | .fieldLinkNest .. => true
  | .methodLinkNest .. => true
  | .castable .. => true
  | .declares _ => true
  | .arrayOver (.object _) => true
  | _ => false
theorem nw_ok : ∀ w ∈ NW, nwOK w = true := by decide +kernel
theorem nw_warm {s U : State} (hW : s.WarmedH U.vm) {w : Cond} (hw : nwOK w = true) (h : va_Nw w s) : va_Nw w U := by
  cases w <;> first
    | exact va_Nw.warmF hW h
    | exact va_Nw.warmM hW h
    | exact va_Nw.warmC hW h
    | exact va_Nw.warmD hW h
    | (rename_i ty; cases ty <;> first | exact va_AO.moved hW.alike h | (simp [nwOK] at hw; done))
    | (simp [nwOK] at hw; done)
theorem nw_of {args : Array Value} {s : State} {w : Cond} (hw : nwOK w = true) (h : w.before args s = true) : va_Nw w s := by
  cases w <;> first
    | exact va_Nw.of rfl h
    | (rename_i ty; cases ty <;> first | exact h | (simp [nwOK] at hw; done))
    | (simp [nwOK] at hw; done)
end
section
def STRS : List (String × Nat × String) := [("LockHouse", 54, "no more cards can be issued"), ("LockHouse", 207, "no such card"), ("LockHouse", 79, "no more entries can be made"), ("LockHouse", 209, "no such door"), ("LockHouse", 101, "no such zone"), ("LockHouse", 108, "a card was shown there already"), ("LockHouse", 117, "no such number of words"), ("LockHouse", 129, "no such word"), ("LockHouse", 149, "a card carries no such thing"), ("LockHouse", 151, "no such entry on the card"), ("LockHouse", 172, "there is no such thing about a door"), ("LockHouse", 178, "no such run"), ("LockHouse", 187, "no such entry"), ("LockHouse", 199, "no such visit, card or door"), ("LockHouse", 201, "no such number of visits")]
theorem st54 : ("LockHouse", 54, "no more cards can be issued") ∈ STRS := List.mem_of_getElem? (i := 0) rfl
theorem st207 : ("LockHouse", 207, "no such card") ∈ STRS := List.mem_of_getElem? (i := 1) rfl
theorem st79 : ("LockHouse", 79, "no more entries can be made") ∈ STRS := List.mem_of_getElem? (i := 2) rfl
theorem st209 : ("LockHouse", 209, "no such door") ∈ STRS := List.mem_of_getElem? (i := 3) rfl
theorem st101 : ("LockHouse", 101, "no such zone") ∈ STRS := List.mem_of_getElem? (i := 4) rfl
theorem st108 : ("LockHouse", 108, "a card was shown there already") ∈ STRS := List.mem_of_getElem? (i := 5) rfl
theorem st117 : ("LockHouse", 117, "no such number of words") ∈ STRS := List.mem_of_getElem? (i := 6) rfl
theorem st129 : ("LockHouse", 129, "no such word") ∈ STRS := List.mem_of_getElem? (i := 7) rfl
theorem st149 : ("LockHouse", 149, "a card carries no such thing") ∈ STRS := List.mem_of_getElem? (i := 8) rfl
theorem st151 : ("LockHouse", 151, "no such entry on the card") ∈ STRS := List.mem_of_getElem? (i := 9) rfl
theorem st172 : ("LockHouse", 172, "there is no such thing about a door") ∈ STRS := List.mem_of_getElem? (i := 10) rfl
theorem st178 : ("LockHouse", 178, "no such run") ∈ STRS := List.mem_of_getElem? (i := 11) rfl
theorem st187 : ("LockHouse", 187, "no such entry") ∈ STRS := List.mem_of_getElem? (i := 12) rfl
theorem st199 : ("LockHouse", 199, "no such visit, card or door") ∈ STRS := List.mem_of_getElem? (i := 13) rfl
theorem st201 : ("LockHouse", 201, "no such number of visits") ∈ STRS := List.mem_of_getElem? (i := 14) rfl
/-- what the tables say, in a state -/
def KK (g : GG) (U : State) : Prop := va_K g.1 cls8 (tyL g) U ∧ (∀ w ∈ NW, va_Nw w U) ∧ ∀ q ∈ STRS, ∃ a : Nat, vk_R q.1 q.2.1 q.2.2 a U
theorem KK.warm {g : GG} {s U : State} (hW : s.WarmedH U.vm) (h : KK g s) : KK g U := ⟨va_K.moved hW.alike h.1, fun w hw => nw_warm hW (nw_ok w hw) (h.2.1 w hw), fun q hq => by
  obtain ⟨a, ha⟩ := h.2.2 q hq
  exact ⟨a, vk_R.warm hW ha⟩⟩
theorem KK.K {g : GG} {s : State} (h : KK g s) : va_K g.1 cls8 (tyL g) s := h.1
abbrev MW : Type := Nat → Option va_E
def PM (g : GG) (M : MW) (H : Heap) : Prop := ∀ (a : Nat) (e : va_E), M a = some e → va_at g.1 cls8 (a, e) H
def mu (M : MW) (a : Nat) (e : va_E) : MW := fun q => if q = a then some e else M q
theorem mu_s {M : MW} {a : Nat} {e : va_E} : mu M a e a = some e := if_pos rfl
theorem mu_n {M : MW} {a q : Nat} {e : va_E} (h : q ≠ a) : mu M a e q = M q := if_neg h
theorem mu_dom {M : MW} {a q : Nat} {e : va_E} (h : mu M a e q ≠ none) : q = a ∨ M q ≠ none := by
  by_cases hq : q = a
  · exact Or.inl hq
  · rw [mu_n hq] at h; exact Or.inr h
theorem some_ne {α : Type} {x : Option α} {e : α} (h : x = some e) : x ≠ none := by rw [h]; exact fun z => by cases z
theorem mu_keep {M : MW} {a q : Nat} {e : va_E} (h : M q ≠ none) : mu M a e q ≠ none := by
  by_cases hq : q = a
  · subst hq; rw [mu_s]; exact fun z => by cases z
  · rw [mu_n hq]; exact h
theorem PM.lt {g : GG} {M : MW} {H : Heap} {a : Nat} {e : va_E} (h : PM g M H) (he : M a = some e) : a < H.size := (h a e he).lt
theorem PM.ltn {g : GG} {M : MW} {H : Heap} {a : Nat} (h : PM g M H) (he : M a ≠ none) : a < H.size := by
  cases hm : M a with
  | none => exact absurd hm he
  | some e => exact h.lt hm
theorem PM.nil {g : GG} {M : MW} {H : Heap} {a : Nat} (h : PM g M H) (ha : H.size ≤ a) : M a = none := by
  cases hm : M a with
  | none => rfl
  | some e => exact absurd (h.lt hm) (by omega)
theorem PM.one {g : GG} {M : MW} {H : Heap} {a : Nat} {e : va_E} (h : PM g M H) (he : M a = some e) : va_P g.1 cls8 [(a, e)] H := by
  intro k q hk
  cases k with
  | zero => cases hk; exact h a e he
  | succ k => simp at hk
theorem PM.put {g : GG} {M : MW} {H H1 : Heap} {a : Nat} {e : va_E} (h : PM g M H) (he : va_at g.1 cls8 (a, e) H1) (oq : ∀ q : Nat, q ≠ a → H1[q]? = H[q]?) : PM g (mu M a e) H1 := by
  intro q x hq
  by_cases hqa : q = a
  · subst hqa; rw [mu_s] at hq; cases hq; exact he
  · rw [mu_n hqa] at hq; exact (h q x hq).kept (oq q hqa)
theorem PM.new {g : GG} {M : MW} {H H1 : Heap} {e : va_E} (h : PM g M H) (he : va_at g.1 cls8 (H.size, e) H1) (oq : ∀ q : Nat, q < H.size → H1[q]? = H[q]?) : PM g (mu M H.size e) H1 := by
  intro q x hq
  by_cases hqa : q = H.size
  · subst hqa; rw [mu_s] at hq; cases hq; exact he
  · rw [mu_n hqa] at hq; exact (h q x hq).kept (oq q (h.lt hq))
theorem PM.kept {g : GG} {M : MW} {H H1 : Heap} (h : PM g M H) (hq : ∀ q : Nat, M q ≠ none → H1[q]? = H[q]?) : PM g M H1 := fun q x hx => (h q x hx).kept (hq q (some_ne hx))
theorem PM.recv {g : GG} {M : MW} {H : Heap} {s : State} {a ci : Nat} {r : vw_C} {fs : List Value} (hK : KK g s) (h : PM g M H) (he : M a = some (.inr (ci, fs))) (hc : cls8[ci]? = some r) : ∃ cell : Cell, H[a]? = some cell ∧ cell.vm.isStatics = false ∧ s.vm.findClass r.1 = some cell.cls := va_recv hK.1 (h.one he) hc (q0 := 0) rfl
/-- which cells a method may change -/
def mA (M : MW) (sz : Nat) : Nat → Prop := fun q => M q ≠ none ∨ sz ≤ q
/-- a walk's heap: it holds the map M, whose cells may be written; since H0 nothing outside A has changed -/
def HS (g : GG) (A : Nat → Prop) (H0 : Heap) (M : MW) (H : Heap) (locs : List Loc) : Prop := PM g M H ∧ (∀ q : Nat, M q ≠ none → A q) ∧ (∀ q : Nat, H0.size ≤ q → A q) ∧ va_S A H0 H locs
theorem HS.start {g : GG} {M : MW} {H : Heap} (h : PM g M H) : HS g (mA M H.size) H M H [] := ⟨h, fun _ q => Or.inl q, fun _ q => Or.inr q, va_S.rf⟩
theorem HS.P {g : GG} {A : Nat → Prop} {H0 : Heap} {M : MW} {H : Heap} {locs : List Loc} (h : HS g A H0 M H locs) : PM g M H := h.1
theorem HS.S {g : GG} {A : Nat → Prop} {H0 : Heap} {M : MW} {H : Heap} {locs : List Loc} (h : HS g A H0 M H locs) : va_S A H0 H locs := h.2.2.2
theorem HS.put {g : GG} {A : Nat → Prop} {H0 : Heap} {M : MW} {H H1 : Heap} {locs : List Loc} {a k : Nat} {e e0 : va_E} (h : HS g A H0 M H locs) (ha : M a = some e0) (he : va_at g.1 cls8 (a, e) H1) (z : H1.size = H.size) (oq : ∀ q : Nat, q ≠ a → H1[q]? = H[q]?) : HS g A H0 (mu M a e) H1 (locs ++ [⟨a, k⟩]) := by
  have hAa : A a := h.2.1 a (some_ne ha)
  refine ⟨h.1.put he oq, fun q hq => ?_, h.2.2.1, h.2.2.2.put z oq hAa⟩
  rcases mu_dom hq with rfl | hq
  · exact hAa
  · exact h.2.1 q hq
theorem HS.new {g : GG} {A : Nat → Prop} {H0 : Heap} {M : MW} {H H1 : Heap} {locs : List Loc} {e : va_E} (h : HS g A H0 M H locs) (he : va_at g.1 cls8 (H.size, e) H1) (z : H1.size = H.size + 1) (oq : ∀ q : Nat, q < H.size → H1[q]? = H[q]?) : HS g A H0 (mu M H.size e) H1 locs := by
  refine ⟨h.1.new he oq, fun q hq => ?_, h.2.2.1, ⟨Nat.le_trans h.S.1 (by omega), fun x h1 h2 => (oq x (Nat.lt_of_lt_of_le h1 h.S.1)).trans (h.S.2.1 x h1 h2), h.S.2.2⟩⟩
  rcases mu_dom hq with rfl | hq
  · exact h.2.2.1 _ h.S.1
  · exact h.2.1 q hq
theorem HS.mA {g : GG} {A : Nat → Prop} {H0 : Heap} {M : MW} {H : Heap} {locs : List Loc} (h : HS g A H0 M H locs) : ∀ q : Nat, mA M H.size q → A q := fun q hq => hq.elim (h.2.1 q) (fun z => h.2.2.1 q (Nat.le_trans h.S.1 z))
/-- a contract's start: the arguments, the map, the tables -/
def Pm (g : GG) (av : List Value) (sz : Nat) (M : MW) : Array Value → State → Prop := va_Pc av (fun U => U.heap.size = sz ∧ PM g M U.heap ∧ KK g U)
theorem Pm.blind {g : GG} {av : List Value} {sz : Nat} {M : MW} : FrameBlind (Pm g av sz M) := fun a U f mk q => by
  obtain ⟨q0, q1, qP, qK⟩ := q
  exact ⟨q0, q1, qP, KK.warm (s := U) (U := U.calling f mk a) (State.WarmedH.refl U) qK⟩
/-- the end of a method that only reads -/
def Qrd (v : Option Value) : Array Value → State → Outcome → State → Prop := fun _ st oc t => oc = .returned v ∧ t.heap = st.heap
/-- the end of a method that writes: the answer and the new map -/
def Qm {α : Type} (g : GG) (M : MW) (vf : α → Option Value) (post : α → MW → Prop) : Array Value → State → Outcome → State → Prop := fun _ st oc t => ∃ (v : α) (M' : MW), oc = .returned (vf v) ∧ post v M' ∧ PM g M' t.heap ∧ (∀ q : Nat, M' q ≠ none → mA M st.heap.size q) ∧ st.heap.size ≤ t.heap.size ∧ ∀ q : Nat, q < st.heap.size → M q = none → t.heap[q]? = st.heap[q]?
def nofree : Addr → Prop := fun _ => False
end
section
section MROWS
variable {p : Program} {l : Launch} {e : Env} {R : Room} {s : State} {m : MethodId} {args : Array Value} {below : List Frame} {meth : Method} {c : Code} {H : Heap} {locs : List Loc} {cells slots : Nat} {Q : State → Prop}
variable {cc : ByteArray} {pc : Nat} {ls : Array Slot} {rest : List Value} {g : GG} {A : Nat → Prop} {a : Nat} {M : MW} {H0 : Heap}
theorem m_get (hexec : p.tables.exec = Jvm.exec) (hb : c.code = cc) {own ref C : String} {T : u_T} {N ci index : Nat} {Ts : List Cond} (hts : ∀ w ∈ Ts, w.before args s = true) (hin : ∀ w ∈ u_ws C T N, w ∈ Ts) (hown : s.vm.findClass own = some m.cls) (hK : KK g s) (hP : PM g M H) {fs : List Value} (he : M a = some (.inr (ci, fs))) (hc : cls8[ci]? = some (C, T, N)) (k : Nat) (hk : k < N) (hlink : (Cond.fieldLink own index ref (T k).2.1 (T k).2.2.1).before args s = true) (hsame : ∀ x, s.fieldFound? (T k).1 (T k).2.1 (T k).2.2.1 = some x → s.fieldFound? ref (T k).2.1 (T k).2.2.1 = some x) {v : Value} (hv : fs[k]? = some v) (hdg : decode cc pc = .ok (.getfield index, 3))
    (kk : W p l e R s m args below meth c H locs cells slots Q (F0 m (pc + 3) ls (v :: rest))) : W p l e R s m args below meth c H locs cells slots Q (F0 m pc ls (.ref a :: rest)) :=
  va_get hexec hb hts hin hown hK.1 (hP.one he) 0 rfl hc k hk hlink hsame hv hdg kk
theorem m_getN (hexec : p.tables.exec = Jvm.exec) (hb : c.code = cc) {host : String} {own ref C : String} {T : u_T} {N ci index : Nat} {Ts : List Cond} (hts : ∀ w ∈ Ts, w.before args s = true) (hin : ∀ w ∈ u_ws C T N, w ∈ Ts) (hown : s.vm.findClass own = some m.cls) (hK : KK g s) (hP : PM g M H) {fs : List Value} (he : M a = some (.inr (ci, fs))) (hc : cls8[ci]? = some (C, T, N)) (k : Nat) (hk : k < N) (hlink : (Cond.fieldLinkNest own index ref (T k).2.1 (T k).2.2.1 host).before args s = true) (hsame : ∀ x, s.fieldFound? (T k).1 (T k).2.1 (T k).2.2.1 = some x → s.fieldFound? ref (T k).2.1 (T k).2.2.1 = some x) {v : Value} (hv : fs[k]? = some v) (hdg : decode cc pc = .ok (.getfield index, 3))
    (kk : W p l e R s m args below meth c H locs cells slots Q (F0 m (pc + 3) ls (v :: rest))) : W p l e R s m args below meth c H locs cells slots Q (F0 m pc ls (.ref a :: rest)) :=
  va_getN hexec hb hts hin hown hK.1 (hP.one he) 0 rfl hc k hk hlink hsame hv hdg kk
theorem m_put (hexec : p.tables.exec = Jvm.exec) (hb : c.code = cc) {own ref C : String} {T : u_T} {N ci index : Nat} {Ts : List Cond} (hts : ∀ w ∈ Ts, w.before args s = true) (hin : ∀ w ∈ u_ws C T N, w ∈ Ts) (ty0 : Nat → FieldType) (hty : ∀ k, k < N → parseFieldDescriptor (T k).2.2.1 = some (ty0 k)) (hnm : ∀ a, a < N → ∀ b, b < N → a ≠ b → (T a).2.1 ≠ (T b).2.1) (hown : s.vm.findClass own = some m.cls) (hK : KK g s) (hH : HS g A H0 M H locs) {fs : List Value} (he : M a = some (.inr (ci, fs))) (hc : cls8[ci]? = some (C, T, N)) (k : Nat) (hk : k < N) (hlink : (Cond.fieldLink own index ref (T k).2.1 (T k).2.2.1).before args s = true) (hsame : ∀ x, s.fieldFound? (T k).1 (T k).2.1 (T k).2.2.1 = some x → s.fieldFound? ref (T k).2.1 (T k).2.2.1 = some x) (hfin : (T k).2.2.2 = false) {ty : FieldType} {v : Value} (hd : parseFieldDescriptor (T k).2.2.1 = some ty) (hn : narrow ty v = v) (hfit : fits ty v = true) (hl : k < fs.length)
    (hdg : decode cc pc = .ok (.putfield index, 3)) {e1 : va_E} (he1 : e1 = .inr (ci, fs.set k v)) (kk : ∀ (H1 : Heap) (locs1 : List Loc), HS g A H0 (mu M a e1) H1 locs1 → H1.size = H.size → W p l e R s m args below meth c H1 locs1 cells slots Q (F0 m (pc + 3) ls rest)) : W p l e R s m args below meth c H locs cells slots Q (F0 m pc ls (v :: .ref a :: rest)) := by
  subst he1
  have hap := va_apart (own := own) hts hin ty0 hty hnm hK.1 hc
  obtain ⟨r, h1, cell, q1, q2, q3, q4⟩ := hH.1 a _ he
  have hr : r = (C, T, N) := Option.some.inj (h1.symm.trans hc)
  subst hr
  obtain ⟨hS, hfc, kC, hkC, hkind⟩ := hK.1.1 ci _ hc
  obtain ⟨cf, kf, fi, f, hi, hsl⟩ := hS k hk
  have hlay := hts _ (hin _ (u_in_lay hk))
  unfold u_lay at hlay
  rw [if_neg (by rw [hfin]; decide)] at hlay
  have hst := (u_facts hfc hkC (u_lays hts hin hk) hi).1
  have h6 := u_store hfc hkC hkind hlay hi hd hn hfit
  refine W.putK hexec hb (f := f) ⟨hown, hlink, ⟨_, _, _, hsame _ hi⟩, hst⟩ (by rw [q2]; exact h6) q1 q3 (by rw [hsl]; exact k2_hasslot (q4 k hk)) rfl rfl hdg fun H' x1 x2 x3 => ?_
  rw [hsl] at x1 ⊢
  exact kk H' _ (hH.put he ⟨_, hc, t_OB.to (V := updV (vp_V fs) k v) ⟨_, x1, q2, q3, t_set q4 hap hk v⟩ (fun j _ => vp_updV_set hl v j)⟩ x2 x3) x2
theorem m_putF (hexec : p.tables.exec = Jvm.exec) (hb : c.code = cc) {own ref C : String} {T : u_T} {N ci index : Nat} {Ts : List Cond} (hts : ∀ w ∈ Ts, w.before args s = true) (hin : ∀ w ∈ u_ws C T N, w ∈ Ts) (ty0 : Nat → FieldType) (hty : ∀ k, k < N → parseFieldDescriptor (T k).2.2.1 = some (ty0 k)) (hnm : ∀ a, a < N → ∀ b, b < N → a ≠ b → (T a).2.1 ≠ (T b).2.1) (hown : s.vm.findClass own = some m.cls) (hK : KK g s) (hH : HS g A H0 M H locs) {fs : List Value} (he : M a = some (.inr (ci, fs))) (hc : cls8[ci]? = some (C, T, N)) (k : Nat) (hk : k < N) (hlink : (Cond.fieldLink own index ref (T k).2.1 (T k).2.2.1).before args s = true) (hsame : ∀ x, s.fieldFound? (T k).1 (T k).2.1 (T k).2.2.1 = some x → s.fieldFound? ref (T k).2.1 (T k).2.2.1 = some x) (hfin : (T k).2.2.2 = true) (hin2 : meth.name = "<init>") (hdecl : (T k).1 = own) {ty : FieldType} {v : Value} (hd : parseFieldDescriptor (T k).2.2.1 = some ty) (hn : narrow ty v = v) (hfit : fits ty v = true) (hl : k < fs.length)
    (hdg : decode cc pc = .ok (.putfield index, 3)) {e1 : va_E} (he1 : e1 = .inr (ci, fs.set k v)) (kk : ∀ (H1 : Heap) (locs1 : List Loc), HS g A H0 (mu M a e1) H1 locs1 → H1.size = H.size → W p l e R s m args below meth c H1 locs1 cells slots Q (F0 m (pc + 3) ls rest)) : W p l e R s m args below meth c H locs cells slots Q (F0 m pc ls (v :: .ref a :: rest)) := by
  subst he1
  have hap := va_apart (own := own) hts hin ty0 hty hnm hK.1 hc
  obtain ⟨r, h1, cell, q1, q2, q3, q4⟩ := hH.1 a _ he
  have hr : r = (C, T, N) := Option.some.inj (h1.symm.trans hc)
  subst hr
  obtain ⟨hS, hfc, kC, hkC, hkind⟩ := hK.1.1 ci _ hc
  obtain ⟨cf, kf, fi, f, hi, hsl⟩ := hS k hk
  have hlay := hts _ (hin _ (u_in_lay hk))
  unfold u_lay at hlay
  rw [if_pos hfin] at hlay
  have hst := (u_facts hfc hkC (u_lays hts hin hk) hi).1
  have hcf : m.cls = cf := by
    obtain ⟨_, _, c', _, _, _, -, -, hf', -, -, -, hown2, -⟩ := Cond.laysFinal_spec hlay
    have x1 : c' = cf := by have := hi.symm.trans hf'; simp at this; exact this.1.symm
    rw [hdecl] at hown2
    rw [← x1]; exact Option.some.inj (hown.symm.trans hown2)
  have h6 := u_fits hfc hkC hkind (Or.inr hlay) hi hd hn hfit
  refine W.putFinK hexec hb hown hlink (hsame _ hi) hst hcf hin2 (by rw [q2]; exact h6) q1 q3 (by rw [hsl]; exact k2_hasslot (q4 k hk)) rfl rfl hdg fun H' x1 x2 x3 => ?_
  rw [hsl] at x1 ⊢
  exact kk H' _ (hH.put he ⟨_, hc, t_OB.to (V := updV (vp_V fs) k v) ⟨_, x1, q2, q3, t_set q4 hap hk v⟩ (fun j _ => vp_updV_set hl v j)⟩ x2 x3) x2
theorem m_new (hexec : p.tables.exec = Jvm.exec) (hb : c.code = cc) {own C : String} {T : u_T} {N ci index : Nat} {Ts : List Cond} (hts : ∀ w ∈ Ts, w.before args s = true) (hin : ∀ w ∈ u_ws C T N, w ∈ Ts) (ty : Nat → FieldType) (hty : ∀ k, k < N → parseFieldDescriptor (T k).2.2.1 = some (ty k)) (hown : s.vm.findClass own = some m.cls) (hcl : (Cond.classLink own index C).before args s = true) (hinst : (Cond.instantiable C N).before args s = true) (hini : (Cond.initialized C).before args s = true)
    (hK : KK g s) (hH : HS g A H0 M H locs) (hc : cls8[ci]? = some (C, T, N)) {fs : List Value} (hfs : ∀ j, j < N → defaultValue (ty j) = vp_V fs j) (hcells : cells + 1 ≤ R.cells) (hslots : slots + N ≤ R.slots) (hdg : decode cc pc = .ok (.new index, 3))
    (kk : ∀ (H1 : Heap), HS g A H0 (mu M H.size (.inr (ci, fs))) H1 locs → H1.size = H.size + 1 →
      W p l e R s m args below meth c H1 locs (cells + 1) (slots + N) Q (F0 m (pc + 3) ls (.ref H.size :: rest))) : W p l e R s m args below meth c H locs cells slots Q (F0 m pc ls rest) := by
  have hKn := hK.1.1 ci _ hc
  refine W.newcK hexec hb hown hcl hinst hini rfl hdg hcells hslots hKn.2.1 rfl fun H1 kC hkC x1 z1 o1 => ?_
  exact kk H1 (hH.new ⟨_, hc, (u_born ty hts hin hKn hkC x1 hty).to hfs⟩ z1 o1) z1
theorem m_iald (hexec : p.tables.exec = Jvm.exec) (hb : c.code = cc) (hK : KK g s) (hP : PM g M H) (t0 : Nat) {cA : ClassId} {n : Nat} {f : Nat → Int32} (ha : M a = some (.inl (cA, n, .inl f))) (ht : (tyL g)[t0]? = some (cA, .int)) {i : Int32} {j : Nat} (hj : i = nI j) (hin : j < n) (hn : n < 2 ^ 31) (hdg : decode cc pc = .ok (.iaload, 1))
    (kk : W p l e R s m args below meth c H locs cells slots Q (F0 m (pc + 1) ls (.int (f j) :: rest))) : W p l e R s m args below meth c H locs cells slots Q (F0 m pc ls (.int i :: .ref a :: rest)) := by
  subst hj
  refine va_iald hexec hb hK.1 (hP.one ha) 0 t0 rfl ht (vp_in_nI hin hn) hdg ?_
  rw [nI_clamp (by omega)]
  exact kk
theorem m_sald (hexec : p.tables.exec = Jvm.exec) (hb : c.code = cc) (hK : KK g s) (hP : PM g M H) (t0 : Nat) {cA : ClassId} {n : Nat} {f : Nat → Int32} (ha : M a = some (.inl (cA, n, .inl f))) (ht : (tyL g)[t0]? = some (cA, .short)) {i : Int32} {j : Nat} (hj : i = nI j) (hin : j < n) (hn : n < 2 ^ 31) (hdg : decode cc pc = .ok (.saload, 1))
    (kk : W p l e R s m args below meth c H locs cells slots Q (F0 m (pc + 1) ls (.int (f j) :: rest))) : W p l e R s m args below meth c H locs cells slots Q (F0 m pc ls (.int i :: .ref a :: rest)) := by
  subst hj
  refine va_sald hexec hb hK.1 (hP.one ha) 0 t0 rfl ht (vp_in_nI hin hn) hdg ?_
  rw [nI_clamp (by omega)]
  exact kk
theorem m_zald (hexec : p.tables.exec = Jvm.exec) (hb : c.code = cc) (hK : KK g s) (hP : PM g M H) (t0 : Nat) {cA : ClassId} {n : Nat} {f : Nat → Int32} (ha : M a = some (.inl (cA, n, .inl f))) (ht : (tyL g)[t0]? = some (cA, .boolean)) {i : Int32} {j : Nat} (hj : i = nI j) (hin : j < n) (hn : n < 2 ^ 31) (hdg : decode cc pc = .ok (.baload, 1))
    (kk : W p l e R s m args below meth c H locs cells slots Q (F0 m (pc + 1) ls (.int (f j) :: rest))) : W p l e R s m args below meth c H locs cells slots Q (F0 m pc ls (.int i :: .ref a :: rest)) := by
  subst hj
  refine va_zald hexec hb hK.1 (hP.one ha) 0 t0 rfl ht (vp_in_nI hin hn) hdg ?_
  rw [nI_clamp (by omega)]
  exact kk
theorem m_lald (hexec : p.tables.exec = Jvm.exec) (hb : c.code = cc) (hK : KK g s) (hP : PM g M H) (t0 : Nat) {cA : ClassId} {n : Nat} {f : Nat → Int64} (ha : M a = some (.inl (cA, n, .inr (.inl f)))) (ht : (tyL g)[t0]? = some (cA, .long)) {i : Int32} {j : Nat} (hj : i = nI j) (hin : j < n) (hn : n < 2 ^ 31) (hdg : decode cc pc = .ok (.laload, 1))
    (kk : W p l e R s m args below meth c H locs cells slots Q (F0 m (pc + 1) ls (.long (f j) :: rest))) : W p l e R s m args below meth c H locs cells slots Q (F0 m pc ls (.int i :: .ref a :: rest)) := by
  subst hj
  refine va_lald hexec hb hK.1 (hP.one ha) 0 t0 rfl ht (vp_in_nI hin hn) hdg ?_
  rw [nI_clamp (by omega)]
  exact kk
theorem m_aald (hexec : p.tables.exec = Jvm.exec) (hb : c.code = cc) (hK : KK g s) (hP : PM g M H) (t0 : Nat) {cA : ClassId} {C : String} {n : Nat} {f : Nat → Option Nat} (ha : M a = some (.inl (cA, n, .inr (.inr (.inr (.inr f)))))) (ht : (tyL g)[t0]? = some (cA, .object C)) {i : Int32} {j : Nat} (hj : i = nI j) (hin : j < n) (hn : n < 2 ^ 31) {v : Value} (hv : va_rf (f j) = v) (hdg : decode cc pc = .ok (.aaload, 1))
    (kk : W p l e R s m args below meth c H locs cells slots Q (F0 m (pc + 1) ls (v :: rest))) : W p l e R s m args below meth c H locs cells slots Q (F0 m pc ls (.int i :: .ref a :: rest)) := by
  subst hj
  refine va_aldq hexec hb hK.1 (hP.one ha) 0 t0 rfl ht (vp_in_nI hin hn) hdg ?_
  rw [nI_clamp (by omega), hv]
  exact kk
theorem m_alen (hexec : p.tables.exec = Jvm.exec) (hb : c.code = cc) (hK : KK g s) (hP : PM g M H) (t0 : Nat) {cA : ClassId} {x : vp_A} (ha : M a = some (.inl (cA, x))) {ty : FieldType} (ht : (tyL g)[t0]? = some (cA, ty)) {v : Int32} (hv : nI x.1 = v) (hdg : decode cc pc = .ok (.arraylength, 1))
    (kk : W p l e R s m args below meth c H locs cells slots Q (F0 m (pc + 1) ls (.int v :: rest))) : W p l e R s m args below meth c H locs cells slots Q (F0 m pc ls (.ref a :: rest)) :=
  va_alen hexec hb hK.1 (hP.one ha) 0 t0 rfl ht hv hdg kk
theorem m_iast (hexec : p.tables.exec = Jvm.exec) (hb : c.code = cc) (hK : KK g s) (hH : HS g A H0 M H locs) (t0 : Nat) {cA : ClassId} {n : Nat} {f : Nat → Int32} (ha : M a = some (.inl (cA, n, .inl f))) (ht : (tyL g)[t0]? = some (cA, .int)) {i x : Int32} {j : Nat} (hj : i = nI j) (hin : j < n) (hn : n < 2 ^ 31) (hdg : decode cc pc = .ok (.iastore, 1))
    (kk : ∀ (H1 : Heap) (locs1 : List Loc), HS g A H0 (mu M a (.inl (cA, n, .inl (upd f j x)))) H1 locs1 → H1.size = H.size → W p l e R s m args below meth c H1 locs1 cells slots Q (F0 m (pc + 1) ls rest)) : W p l e R s m args below meth c H locs cells slots Q (F0 m pc ls (.int x :: .int i :: .ref a :: rest)) := by
  subst hj
  have hcl : (nI j).toNatClampNeg = j := nI_clamp (by omega)
  refine W.iast hexec hb (hH.1 a _ ha) ((hK.1.2 t0 _ ht).1 n (fun j => .int (f j))) (fun q => by cases q) (by show ¬ (nI j < 0 ∨ (arrV _ _ _).slots.size ≤ _); rw [arrV_size]; exact vp_in_nI hin hn) rfl rfl hdg fun H1 x1 z oq => ?_
  refine kk H1 _ (hH.put ha ?_ z oq) z
  show H1[a]? = some (vp_cell _ _)
  rw [x1]
  rw [vp_cell_i, vp_cell_i, arrV_store, hcl]
  congr 2
  funext q
  by_cases hq : q = j
  · subst hq
    simp [updV, upd]
    first | done | rfl
  · simp [updV, upd, hq]
theorem m_sast (hexec : p.tables.exec = Jvm.exec) (hb : c.code = cc) (hK : KK g s) (hH : HS g A H0 M H locs) (t0 : Nat) {cA : ClassId} {n : Nat} {f : Nat → Int32} (ha : M a = some (.inl (cA, n, .inl f))) (ht : (tyL g)[t0]? = some (cA, .short)) {i x : Int32} {j : Nat} (hj : i = nI j) (hin : j < n) (hn : n < 2 ^ 31) (hdg : decode cc pc = .ok (.sastore, 1))
    (kk : ∀ (H1 : Heap) (locs1 : List Loc), HS g A H0 (mu M a (.inl (cA, n, .inl (upd f j (vp_nar .short x))))) H1 locs1 → H1.size = H.size → W p l e R s m args below meth c H1 locs1 cells slots Q (F0 m (pc + 1) ls rest)) : W p l e R s m args below meth c H locs cells slots Q (F0 m pc ls (.int x :: .int i :: .ref a :: rest)) := by
  subst hj
  have hcl : (nI j).toNatClampNeg = j := nI_clamp (by omega)
  refine W.sast hexec hb (hH.1 a _ ha) ((hK.1.2 t0 _ ht).1 n (fun j => .int (f j))) (fun q => by cases q) (by show ¬ (nI j < 0 ∨ (arrV _ _ _).slots.size ≤ _); rw [arrV_size]; exact vp_in_nI hin hn) rfl rfl hdg fun H1 x1 z oq => ?_
  refine kk H1 _ (hH.put ha ?_ z oq) z
  show H1[a]? = some (vp_cell _ _)
  rw [x1]
  rw [vp_cell_i, vp_cell_i, arrV_store, hcl]
  congr 2
  funext q
  by_cases hq : q = j
  · subst hq
    simp [updV, upd]
    first | done | rfl
  · simp [updV, upd, hq]
theorem m_zast (hexec : p.tables.exec = Jvm.exec) (hb : c.code = cc) (hK : KK g s) (hH : HS g A H0 M H locs) (t0 : Nat) {cA : ClassId} {n : Nat} {f : Nat → Int32} (ha : M a = some (.inl (cA, n, .inl f))) (ht : (tyL g)[t0]? = some (cA, .boolean)) {i x : Int32} {j : Nat} (hj : i = nI j) (hin : j < n) (hn : n < 2 ^ 31) (hdg : decode cc pc = .ok (.bastore, 1))
    (kk : ∀ (H1 : Heap) (locs1 : List Loc), HS g A H0 (mu M a (.inl (cA, n, .inl (upd f j (vp_nar .boolean x))))) H1 locs1 → H1.size = H.size → W p l e R s m args below meth c H1 locs1 cells slots Q (F0 m (pc + 1) ls rest)) : W p l e R s m args below meth c H locs cells slots Q (F0 m pc ls (.int x :: .int i :: .ref a :: rest)) := by
  subst hj
  have hcl : (nI j).toNatClampNeg = j := nI_clamp (by omega)
  refine W.zast hexec hb (hH.1 a _ ha) ((hK.1.2 t0 _ ht).1 n (fun j => .int (f j))) (fun q => by cases q) (by show ¬ (nI j < 0 ∨ (arrV _ _ _).slots.size ≤ _); rw [arrV_size]; exact vp_in_nI hin hn) rfl rfl hdg fun H1 x1 z oq => ?_
  refine kk H1 _ (hH.put ha ?_ z oq) z
  show H1[a]? = some (vp_cell _ _)
  rw [x1]
  rw [vp_cell_i, vp_cell_i, arrV_store, hcl]
  congr 2
  funext q
  by_cases hq : q = j
  · subst hq
    simp [updV, upd]
    first | done | rfl
  · simp [updV, upd, hq]
theorem m_last (hexec : p.tables.exec = Jvm.exec) (hb : c.code = cc) (hK : KK g s) (hH : HS g A H0 M H locs) (t0 : Nat) {cA : ClassId} {n : Nat} {f : Nat → Int64} (ha : M a = some (.inl (cA, n, .inr (.inl f)))) (ht : (tyL g)[t0]? = some (cA, .long)) {i : Int32} {x : Int64} {j : Nat} (hj : i = nI j) (hin : j < n) (hn : n < 2 ^ 31) (hdg : decode cc pc = .ok (.lastore, 1))
    (kk : ∀ (H1 : Heap) (locs1 : List Loc), HS g A H0 (mu M a (.inl (cA, n, .inr (.inl (vp_updL f j x))))) H1 locs1 → H1.size = H.size → W p l e R s m args below meth c H1 locs1 cells slots Q (F0 m (pc + 1) ls rest)) : W p l e R s m args below meth c H locs cells slots Q (F0 m pc ls (.long x :: .int i :: .ref a :: rest)) := by
  subst hj
  have hcl : (nI j).toNatClampNeg = j := nI_clamp (by omega)
  refine W.last hexec hb (hH.1 a _ ha) ((hK.1.2 t0 _ ht).1 n (fun j => .long (f j))) (fun q => by cases q) (by show ¬ (nI j < 0 ∨ (arrV _ _ _).slots.size ≤ _); rw [arrV_size]; exact vp_in_nI hin hn) rfl rfl hdg fun H1 x1 z oq => ?_
  refine kk H1 _ (hH.put ha ?_ z oq) z
  show H1[a]? = some (vp_cell _ _)
  rw [x1]
  rw [vp_cell_l, vp_cell_l, arrV_store, hcl]
  congr 2
  funext q
  by_cases hq : q = j
  · subst hq
    simp [updV, vp_updL]
  · simp [updV, vp_updL, hq]
theorem m_newa (hexec : p.tables.exec = Jvm.exec) (hb : c.code = cc) {atype : ArrayType} (harr : (Cond.arrayClass (newarray.typeOf atype)).before args s = true) {ty : FieldType} (hty : newarray.typeOf atype = ty) (hK : KK g s) (hH : HS g A H0 M H locs) (t0 : Nat) {cA : ClassId} (ht : (tyL g)[t0]? = some (cA, ty)) (hRA : va_RA s cA ty → s.vm.findClass ("[" ++ ty.toString) = some cA)
    {n : Int32} {N' : Nat} {a0 : vp_A} (ha : vp_cell cA a0 = arrV cA N' (fun _ => defaultValue ty)) (hn : n = nI N') (hN : N' < 2 ^ 31) (hbytes : N' * componentBytes ty ≤ 536870912) (hcells : cells + 1 ≤ R.cells) (hslots : slots + N' ≤ R.slots) (hdg : decode cc pc = .ok (.newarray atype, 2))
    (kk : ∀ (H1 : Heap), HS g A H0 (mu M H.size (.inl (cA, a0))) H1 locs → H1.size = H.size + 1 → W p l e R s m args below meth c H1 locs (cells + 1) (slots + N') Q (F0 m (pc + 2) ls (.ref H.size :: rest))) : W p l e R s m args below meth c H locs cells slots Q (F0 m pc ls (.int n :: rest)) := by
  subst hty
  subst hn
  refine va_newaK hexec hb harr rfl hdg rfl (nI_pos hN) (nI_clamp hN) hbytes hcells hslots rfl fun H1 cB x1 z1 o1 hAr hNm => ?_
  have hcc : cB = cA := Option.some.inj (hNm.symm.trans (hRA (hK.1.2 t0 _ ht).2))
  subst hcc
  refine kk H1 (hH.new ?_ z1 o1) z1
  show H1[H.size]? = some (vp_cell _ _)
  rw [ha]
  exact x1
end MROWS
end
section
/-! Starts and ends of contracts, calls over maps. -/
theorem tt_in0 {c2 : Cond} (h2 : c2 ∈ TT) : GoodIn TT (c2 :: TT) := fun w hw => by
  have h : w ∈ TT := by
    rcases List.mem_cons.mp hw with rfl | h
    · exact h2
    · exact h
  exact ⟨h, good_of_word (tt_good h)⟩
theorem met_of {l : Launch} {g : GG} {av : List Value} {sz : Nat} {M : MW} {Qc : Array Value → State → Outcome → State → Prop} {mc ms maxL : Nat} {free : Addr → Prop} {cc : ByteArray} {ret : Option FieldType} {y : MethodName} {rm : Room} (hy : plainName y.cls = true) (hlen : (lg_sl av).length ≤ maxL)
    (body : ∀ (p : Program) (e : Env) (s : State) (m : MethodId) (below : List Frame) (meth : Method) (c : Code), p.tables.exec = Jvm.exec → c.code = cc → meth.sig.returnType = ret → c.maxLocals = maxL → s.vm.findClass y.cls = some m.cls → meth.locks = false → meth.name = y.name → (∀ w ∈ TT, w.before av.toArray s = true) → s.heap.size = sz → PM g M s.heap → KK g s →
      ∀ ls : Array Slot, lv_has ls maxL (lv_args 0 av) → W p l e rm s m av.toArray below meth c s.heap [] 0 0 (MQ below Qc av.toArray s mc ms free) (F0 m 0 ls [])) : Met l y (Cond.code y cc maxL ret :: TT) rm (Pm g av sz M) Qc mc ms free := by
  refine Met.ofW (cc := cc) (maxL := maxL) (ret := ret) hy rfl ?_
  intro p e s m args below meth c s₁ B hml hv
  obtain ⟨rfl, hsz, hP, hK⟩ := hv
  have hts := atoms_spec (ws := Cond.code y cc maxL ret :: TT) B.pre
  have hl := lv_entry av (n := maxL) hlen
  rw [lg_entry_eq]
  generalize (lg_sl av ++ List.replicate (maxL - (lg_sl av).length) Slot.unset).toArray = ls at hl ⊢
  exact body p e s m below meth c B.exec B.bytes B.returns hml (findClass_of_methodNamed B.named) B.notSynchronized (name_of_methodNamed B.named B.method).1 (fun w h => hts w (List.mem_cons_of_mem _ h)) hsz hP hK ls hl
section CROWS
variable {p : Program} {l : Launch} {e : Env} {R : Room} {s : State} {m : MethodId} {args : Array Value} {below : List Frame} {meth : Method} {c : Code} {H : Heap} {locs : List Loc} {cells slots : Nat} {Q : State → Prop}
variable {cc : ByteArray} {pc : Nat} {ls : Array Slot} {rest st0 : List Value} {g : GG} {A : Nat → Prop} {a : Nat} {M : MW} {H0 : Heap}
theorem rd_iret (hexec : p.tables.exec = Jvm.exec) (hb : c.code = cc) (hr : meth.sig.returnType = some .int) (hlocks : meth.locks = false) {v r : Int32} (hv : v = r) (hdg : decode cc pc = .ok (.ireturn, 1)) : W p l e R s m args below meth c s.heap [] 0 0 (MQ below (Qrd (some (.int r))) args s 0 0 nofree) (F0 m pc ls [.int v]) := by
  subst hv
  exact W.iret hexec hb hr (fun t ht _ => ⟨rfl, ht⟩) (fun _ h => by cases h) hdg hlocks
theorem rd_zret (hexec : p.tables.exec = Jvm.exec) (hb : c.code = cc) (hr : meth.sig.returnType = some .boolean) (hlocks : meth.locks = false) {v r : Int32} (hv : v = r) (hn : v = 0 ∨ v = 1) (hdg : decode cc pc = .ok (.ireturn, 1)) : W p l e R s m args below meth c s.heap [] 0 0 (MQ below (Qrd (some (.int r))) args s 0 0 nofree) (F0 m pc ls [.int v]) := by
  subst hv
  exact W.zret hexec hb hr (by rcases hn with rfl | rfl <;> decide) (fun t ht _ => ⟨rfl, ht⟩) (fun _ h => by cases h) hdg hlocks
theorem rd_aret (hexec : p.tables.exec = Jvm.exec) (hb : c.code = cc) {rt : FieldType} (hr : meth.sig.returnType = some rt) (hrt : (∃ n, rt = .object n) ∨ ∃ t, rt = .array t) (hlocks : meth.locks = false) {v r : Nat} (hv : v = r) (hdg : decode cc pc = .ok (.areturn, 1)) : W p l e R s m args below meth c s.heap [] 0 0 (MQ below (Qrd (some (.ref r))) args s 0 0 nofree) (F0 m pc ls [.ref v]) := by
  subst hv
  exact W.aret hexec hb hr hrt (Or.inr ⟨_, rfl⟩) (fun t ht _ => ⟨rfl, ht⟩) (fun _ h => by cases h) hdg hlocks
theorem qm_end {α : Type} {M' : MW} {vf : α → Option Value} {post : α → MW → Prop} {v : α} {t : State} (hH : HS g (mA M s.heap.size) s.heap M' H locs) (hp : post v M') (ht : t.heap = H) : Qm g M vf post args s (.returned (vf v)) t :=
  ⟨v, M', rfl, hp, by rw [ht]; exact hH.1, hH.2.1, by rw [ht]; exact hH.S.1, fun q h1 h2 => by rw [ht]; exact hH.S.2.1 q h1 (fun h => h.elim (fun z => z h2) (fun z => by omega))⟩
theorem m_vret {post : Unit → MW → Prop} {M' : MW} {sz : Nat} (hexec : p.tables.exec = Jvm.exec) (hb : c.code = cc) (hr : meth.sig.returnType = none) (hlocks : meth.locks = false) (hsz : s.heap.size = sz) (hH : HS g (mA M s.heap.size) s.heap M' H locs) (hp : post () M') (hdg : decode cc pc = .ok (.return_, 1)) : W p l e R s m args below meth c H locs cells slots (MQ below (Qm g M (fun _ => none) post) args s cells slots (mA M sz)) (F0 m pc ls []) := by
  subst hsz
  exact W.vret hexec hb hr (fun t ht _ => qm_end (v := ()) hH hp ht) hH.S.2.2 hdg hlocks
theorem m_iret {post : Int32 → MW → Prop} {M' : MW} {sz : Nat} {v : Int32} (hexec : p.tables.exec = Jvm.exec) (hb : c.code = cc) (hr : meth.sig.returnType = some .int) (hlocks : meth.locks = false) (hsz : s.heap.size = sz) (hH : HS g (mA M s.heap.size) s.heap M' H locs) (hp : post v M') (hdg : decode cc pc = .ok (.ireturn, 1)) : W p l e R s m args below meth c H locs cells slots (MQ below (Qm g M (fun r => some (.int r)) post) args s cells slots (mA M sz)) (F0 m pc ls [.int v]) := by
  subst hsz
  exact W.iret hexec hb hr (fun t ht _ => qm_end (v := v) (vf := fun r => some (.int r)) hH hp ht) hH.S.2.2 hdg hlocks
theorem m_zret {post : Int32 → MW → Prop} {M' : MW} {sz : Nat} {v : Int32} (hexec : p.tables.exec = Jvm.exec) (hb : c.code = cc) (hr : meth.sig.returnType = some .boolean) (hlocks : meth.locks = false) (hsz : s.heap.size = sz) (hH : HS g (mA M s.heap.size) s.heap M' H locs) (hn : v = 0 ∨ v = 1) (hp : post v M') (hdg : decode cc pc = .ok (.ireturn, 1)) : W p l e R s m args below meth c H locs cells slots (MQ below (Qm g M (fun r => some (.int r)) post) args s cells slots (mA M sz)) (F0 m pc ls [.int v]) := by
  subst hsz
  exact W.zret hexec hb hr (by rcases hn with rfl | rfl <;> decide) (fun t ht _ => qm_end (v := v) (vf := fun r => some (.int r)) hH hp ht) hH.S.2.2 hdg hlocks
theorem m_aret {post : Nat → MW → Prop} {M' : MW} {sz v : Nat} {rt : FieldType} (hexec : p.tables.exec = Jvm.exec) (hb : c.code = cc) (hr : meth.sig.returnType = some rt) (hrt : (∃ n, rt = .object n) ∨ ∃ t, rt = .array t) (hlocks : meth.locks = false) (hsz : s.heap.size = sz) (hH : HS g (mA M s.heap.size) s.heap M' H locs) (hp : post v M') (hdg : decode cc pc = .ok (.areturn, 1)) : W p l e R s m args below meth c H locs cells slots (MQ below (Qm g M (fun r => some (.ref r)) post) args s cells slots (mA M sz)) (F0 m pc ls [.ref v]) := by
  subst hsz
  exact W.aret hexec hb hr hrt (Or.inr ⟨_, rfl⟩) (fun t ht _ => qm_end (v := v) (vf := fun r => some (.ref r)) hH hp ht) hH.S.2.2 hdg hlocks
variable {y : MethodName} {bytes : ByteArray} {maxL nL n index mc ms : Nat} {ret : Option FieldType} {rm : Room} {own C : String} {b ci : Nat} {As : List Value} {fs : List Value} {r : vw_C}
theorem Pm.use {av : List Value} (hK : KK g s) (hP : PM g M H) : ∀ U : State, U.heap = H → s.WarmedH U.vm → Pm g av H.size M av.toArray U := fun U hU hW => ⟨rfl, by rw [hU], by rw [hU]; exact hP, hK.warm hW⟩
theorem rd_run {v : Option Value} {av : Array Value} {st1 : List Value} (hr : va_Run p l e R s m args below meth c H locs cells slots 0 0 (F0 m pc ls st0) rest (Qrd v av) nofree) (hst : v.toList ++ rest = st1)
    (kk : W p l e R s m args below meth c H locs cells slots Q (F0 m (pc + 3) ls st1)) : W p l e R s m args below meth c H locs cells slots Q (F0 m pc ls st0) := by
  subst hst
  intro T hT X
  obtain ⟨w, st₀, t, T', L, h0, X', hL, e1, e2, ⟨hv, hh⟩, st⟩ := hr T hT X
  cases hv
  obtain ⟨t2, a1, b1⟩ := kk T' (by rw [e1, hh, h0]) (Stand.forget X' (fun q h => (hL q h).elim))
  exact ⟨t2, st t2 a1, b1⟩
theorem m_run {α : Type} {vf : α → Option Value} {post : α → MW → Prop} {av : Array Value} (hr : va_Run p l e R s m args below meth c H locs cells slots mc ms (F0 m pc ls st0) rest (Qm g M vf post av) (mA M H.size)) (hH : HS g A H0 M H locs)
    (kk : ∀ (v : α) (M' : MW) (H1 : Heap) (locs1 : List Loc), post v M' → HS g A H0 M' H1 locs1 → H.size ≤ H1.size → (∀ q : Nat, M' q ≠ none → mA M H.size q) → (∀ q : Nat, q < H.size → M q = none → H1[q]? = H[q]?) → W p l e R s m args below meth c H1 locs1 (cells + mc) (slots + ms) Q (F0 m (pc + 3) ls ((vf v).toList ++ rest))) : W p l e R s m args below meth c H locs cells slots Q (F0 m pc ls st0) := by
  intro T hT X
  obtain ⟨w, st₀, t, T', L, h0, X', hL, e1, e2, ⟨v, M', hv, hp, hP, hd, hz, hk⟩, st⟩ := hr T hT X
  cases hv
  rw [h0] at hz hk hd
  obtain ⟨t2, a1, b1⟩ := kk v M' T'.heap (locs ++ L) hp ⟨by rw [e1]; exact hP, fun q hq => hH.mA q (hd q hq), hH.2.2.1, ⟨Nat.le_trans hH.S.1 (by rw [e1]; exact hz), fun q h1 h2 => by
      rw [e1, hk q (Nat.lt_of_lt_of_le h1 hH.S.1) (Classical.byContradiction fun z => h2 (hH.2.1 q z))]; exact hH.S.2.1 q h1 h2, fun q hq => by
      rcases List.mem_append.mp hq with h | h
      · exact hH.S.2.2 q h
      · exact hH.mA _ (hL q h)⟩⟩ (by rw [e1]; exact hz) hd (fun q h1 h2 => by rw [e1]; exact hk q h1 h2) T' rfl X'
  exact ⟨t2, st t2 a1, b1⟩
theorem cb_of (hT : ∀ w ∈ TT, w.before args s = true) (hkw : Cond.code y bytes maxL ret ∈ TT) (hlink : Cond.methodLink own index y ∈ TT) (hini : Cond.initialized y.cls ∈ TT) (hd : y.cls ≠ "java/lang/invoke/MethodHandle" ∧ y.cls ≠ "java/lang/invoke/VarHandle" ∧ (parseMethodDescriptor y.desc).map (fun d => d.parameters.length) = some n) (hrc : rm.cells = mc) (hrs : rm.slots = ms) (hR : rm.frames + 1 ≤ R.frames ∧ 8 + (maxL + 11) + rm.locals ≤ R.locals) :
    CallB R s args own index y bytes maxL ret (Cond.code y bytes maxL ret :: TT) rm mc ms n := callB_of n hT (tt_in0 hkw) rfl hrc hrs (hT _ hini) (hT _ hlink) hd hR
/-- an instance method: how it is called -/
theorem c_V {Qc : Array Value → State → Outcome → State → Prop} {free : Addr → Prop} (hexec : p.tables.exec = Jvm.exec) (hb : c.code = cc) (hml : c.maxLocals = nL) (hsz : ls.size = nL) (hown : s.vm.findClass own = some m.cls) (hT : ∀ w ∈ TT, w.before args s = true) (hK : KK g s) (hP : PM g M H)
    (hM : Met l y (Cond.code y bytes maxL ret :: TT) rm (Pm g (.ref b :: As) H.size M) Qc mc ms free) (hkw : Cond.code y bytes maxL ret ∈ TT) (hlink : Cond.methodLink own index y ∈ TT) (hinst : Cond.instanceMethod y ∈ TT) (hsel : Cond.selects r.1 y y ∈ TT) (hini : Cond.initialized y.cls ∈ TT) (hd : y.cls ≠ "java/lang/invoke/MethodHandle" ∧ y.cls ≠ "java/lang/invoke/VarHandle" ∧ (parseMethodDescriptor y.desc).map (fun d => d.parameters.length) = some n) (hrc : rm.cells = mc) (hrs : rm.slots = ms) (hR : rm.frames + 1 ≤ R.frames ∧ 8 + (maxL + 11) + rm.locals ≤ R.locals)
    (he : M b = some (.inr (ci, fs))) (hc : cls8[ci]? = some r) (hn : As.length = n) (hst : st0 = As.reverse ++ .ref b :: rest) (hW : (rest.map fun v => v.category).sum ≤ 8) (hdg : decode cc pc = .ok (.invokevirtual index, 3)) (hf : cells + mc ≤ R.cells ∧ slots + ms ≤ R.slots) :
    va_Run p l e R s m args below meth c H locs cells slots mc ms (F0 m pc ls st0) rest (Qc (Value.ref b :: As).toArray) free :=
  va_runV (g := F0 m pc ls st0) ⟨hexec, hb, hml, hown, hT⟩ hM ⟨cb_of hT hkw hlink hini hd hrc hrs hR, hT _ hinst, hT _ hsel⟩ ⟨Pm.blind, hP.recv hK he hc, Pm.use hK hP⟩ rfl hn hsz hst (lv_room hW) hdg hf
theorem c_S {Qc : Array Value → State → Outcome → State → Prop} {free : Addr → Prop} (hexec : p.tables.exec = Jvm.exec) (hb : c.code = cc) (hml : c.maxLocals = nL) (hsz : ls.size = nL) (hown : s.vm.findClass own = some m.cls) (hT : ∀ w ∈ TT, w.before args s = true) (hK : KK g s) (hP : PM g M H)
    (hM : Met l y (Cond.code y bytes maxL ret :: TT) rm (Pm g As H.size M) Qc mc ms free) (hkw : Cond.code y bytes maxL ret ∈ TT) (hlink : Cond.methodLink own index y ∈ TT) (hstat : Cond.static y ∈ TT) (hini : Cond.initialized y.cls ∈ TT) (hd : y.cls ≠ "java/lang/invoke/MethodHandle" ∧ y.cls ≠ "java/lang/invoke/VarHandle" ∧ (parseMethodDescriptor y.desc).map (fun d => d.parameters.length) = some n) (hrc : rm.cells = mc) (hrs : rm.slots = ms) (hR : rm.frames + 1 ≤ R.frames ∧ 8 + (maxL + 11) + rm.locals ≤ R.locals)
    (hn : As.length = n) (hst : st0 = As.reverse ++ rest) (hW : (rest.map fun v => v.category).sum ≤ 8) (hdg : decode cc pc = .ok (.invokestatic index, 3)) (hf : cells + mc ≤ R.cells ∧ slots + ms ≤ R.slots) :
    va_Run p l e R s m args below meth c H locs cells slots mc ms (F0 m pc ls st0) rest (Qc As.toArray) free :=
  va_runS (g := F0 m pc ls st0) ⟨hexec, hb, hml, hown, hT⟩ hM ⟨cb_of hT hkw hlink hini hd hrc hrs hR, hT _ hstat⟩ ⟨Pm.blind, Pm.use hK hP⟩ rfl hn hsz hst (lv_room hW) hdg hf
theorem c_I {Qc : Array Value → State → Outcome → State → Prop} {free : Addr → Prop} (hexec : p.tables.exec = Jvm.exec) (hb : c.code = cc) (hml : c.maxLocals = nL) (hsz : ls.size = nL) (hown : s.vm.findClass own = some m.cls) (hT : ∀ w ∈ TT, w.before args s = true) (hK : KK g s) (hP : PM g M H)
    (hM : Met l y (Cond.code y bytes maxL none :: TT) rm (Pm g (.ref b :: As) H.size M) Qc mc ms free) (hkw : Cond.code y bytes maxL none ∈ TT) (hlink : Cond.methodLink own index y ∈ TT) (hinst : Cond.instanceMethod y ∈ TT) (hy : y.name = "<init>") (hini : Cond.initialized y.cls ∈ TT) (hd : y.cls ≠ "java/lang/invoke/MethodHandle" ∧ y.cls ≠ "java/lang/invoke/VarHandle" ∧ (parseMethodDescriptor y.desc).map (fun d => d.parameters.length) = some n) (hrc : rm.cells = mc) (hrs : rm.slots = ms) (hR : rm.frames + 1 ≤ R.frames ∧ 8 + (maxL + 11) + rm.locals ≤ R.locals)
    (hn : As.length = n) (hst : st0 = As.reverse ++ .ref b :: rest) (hW : (rest.map fun v => v.category).sum ≤ 8) (hdg : decode cc pc = .ok (.invokespecial index, 3)) (hf : cells + mc ≤ R.cells ∧ slots + ms ≤ R.slots) :
    va_Run p l e R s m args below meth c H locs cells slots mc ms (F0 m pc ls st0) rest (Qc (Value.ref b :: As).toArray) free :=
  va_runI (g := F0 m pc ls st0) ⟨hexec, hb, hml, hown, hT⟩ hM ⟨cb_of hT hkw hlink hini hd hrc hrs hR, hy, hT _ hinst⟩ ⟨Pm.blind, Pm.use hK hP⟩ rfl hn hsz hst (lv_room hW) hdg hf
end CROWS
end
section
/-! Private methods: which is selected; joins and loops; numbers. -/
theorem selp_in {w : Cond} (h : w ∈ k2_sels lw_privs) (hg : goodWord w = true) : w ∈ TT := tt_mem (List.mem_append_left _ h) hg
theorem selp_AL_add2 : Cond.selects "java/util/ArrayList" y_AL_add2 y_AL_add2 ∈ TT := selp_in (List.mem_of_getElem? (i := 1) rfl) rfl
theorem selp_AL_grow1 : Cond.selects "java/util/ArrayList" y_AL_grow1 y_AL_grow1 ∈ TT := selp_in (List.mem_of_getElem? (i := 2) rfl) rfl
theorem selp_AL_grow2 : Cond.selects "java/util/ArrayList" y_AL_grow2 y_AL_grow2 ∈ TT := selp_in (List.mem_of_getElem? (i := 3) rfl) rfl
theorem selp_H_cardAt : Cond.selects "LockHouse" y_H_cardAt y_H_cardAt ∈ TT := selp_in (List.mem_of_getElem? (i := 4) rfl) rfl
theorem selp_H_isCard : Cond.selects "LockHouse" y_H_isCard y_H_isCard ∈ TT := selp_in (List.mem_of_getElem? (i := 5) rfl) rfl
theorem selp_Card_putNext : Cond.selects "LockHouse$Card" y_Card_putNext y_Card_putNext ∈ TT := selp_in (List.mem_of_getElem? (i := 6) rfl) rfl
theorem selp_EL_holds : Cond.selects "LockHouse$EntryList" y_EL_holds y_EL_holds ∈ TT := selp_in (List.mem_of_getElem? (i := 7) rfl) rfl
theorem selp_H_doorAt : Cond.selects "LockHouse" y_H_doorAt y_H_doorAt ∈ TT := selp_in (List.mem_of_getElem? (i := 8) rfl) rfl
theorem selp_H_isDoor : Cond.selects "LockHouse" y_H_isDoor y_H_isDoor ∈ TT := selp_in (List.mem_of_getElem? (i := 9) rfl) rfl
theorem selp_H_present : Cond.selects "LockHouse" y_H_present y_H_present ∈ TT := selp_in (List.mem_of_getElem? (i := 10) rfl) rfl
theorem selp_Door_startsRun : Cond.selects "LockHouse$Door" y_Door_startsRun y_Door_startsRun ∈ TT := selp_in (List.mem_of_getElem? (i := 11) rfl) rfl
theorem selp_T_noCard : Cond.selects "LockHouseModel" y_T_noCard y_T_noCard ∈ TT := selp_in (List.mem_of_getElem? (i := 12) rfl) rfl
theorem selp_T_write : Cond.selects "LockHouseModel" y_T_write y_T_write ∈ TT := selp_in (List.mem_of_getElem? (i := 13) rfl) rfl
theorem selp_T_tells : Cond.selects "LockHouseModel" y_T_tells y_T_tells ∈ TT := selp_in (List.mem_of_getElem? (i := 14) rfl) rfl
theorem selp_T_count : Cond.selects "LockHouseModel" y_T_count y_T_count ∈ TT := selp_in (List.mem_of_getElem? (i := 15) rfl) rfl
theorem selp_T_current : Cond.selects "LockHouseModel" y_T_current y_T_current ∈ TT := selp_in (List.mem_of_getElem? (i := 16) rfl) rfl
theorem selp_T_whole : Cond.selects "LockHouseModel" y_T_whole y_T_whole ∈ TT := selp_in (List.mem_of_getElem? (i := 17) rfl) rfl
theorem selp_T_wordAt : Cond.selects "LockHouseModel" y_T_wordAt y_T_wordAt ∈ TT := selp_in (List.mem_of_getElem? (i := 18) rfl) rfl
theorem selp_T_sequence : Cond.selects "LockHouseModel" y_T_sequence y_T_sequence ∈ TT := selp_in (List.mem_of_getElem? (i := 19) rfl) rfl
theorem selp_T_first : Cond.selects "LockHouseModel" y_T_first y_T_first ∈ TT := selp_in (List.mem_of_getElem? (i := 20) rfl) rfl
theorem selp_T_seen : Cond.selects "LockHouseModel" y_T_seen y_T_seen ∈ TT := selp_in (List.mem_of_getElem? (i := 21) rfl) rfl
theorem selp_T_give : Cond.selects "LockHouseModel" y_T_give y_T_give ∈ TT := selp_in (List.mem_of_getElem? (i := 22) rfl) rfl
theorem selp_T_visitAt : Cond.selects "LockHouseModel" y_T_visitAt y_T_visitAt ∈ TT := selp_in (List.mem_of_getElem? (i := 23) rfl) rfl
theorem selp_T_revokedAt : Cond.selects "LockHouseModel" y_T_revokedAt y_T_revokedAt ∈ TT := selp_in (List.mem_of_getElem? (i := 24) rfl) rfl
theorem selp_T_greatest : Cond.selects "LockHouseModel" y_T_greatest y_T_greatest ∈ TT := selp_in (List.mem_of_getElem? (i := 25) rfl) rfl
theorem selp_T_complete : Cond.selects "LockHouseModel" y_T_complete y_T_complete ∈ TT := selp_in (List.mem_of_getElem? (i := 26) rfl) rfl
theorem selp_T_marks : Cond.selects "LockHouseModel" y_T_marks y_T_marks ∈ TT := selp_in (List.mem_of_getElem? (i := 27) rfl) rfl
theorem selp_T_runs : Cond.selects "LockHouseModel" y_T_runs y_T_runs ∈ TT := selp_in (List.mem_of_getElem? (i := 28) rfl) rfl
section JROWS
variable {p : Program} {l : Launch} {e : Env} {R : Room} {s : State} {m : MethodId} {args : Array Value} {below : List Frame} {meth : Method} {c : Code} {H : Heap} {locs : List Loc} {cells slots : Nat} {Q : State → Prop}
theorem W.join {α : Type} {f : α → JFrame} {g : JFrame} (P : α → Prop) (k : ∀ x, P x → W p l e R s m args below meth c H locs cells slots Q (f x)) (kk : (∀ x, P x → W p l e R s m args below meth c H locs cells slots Q (f x)) → W p l e R s m args below meth c H locs cells slots Q g) : W p l e R s m args below meth c H locs cells slots Q g := kk k
/-- a loop: a measure falls at each turn -/
theorem W.rep {α : Type} (μ : α → Nat) (P : α → Prop) (Hf : α → Heap) (Lf : α → List Loc) (f : α → JFrame) (step : ∀ x, P x → (∀ x', P x' → μ x' < μ x → W p l e R s m args below meth c (Hf x') (Lf x') cells slots Q (f x')) → W p l e R s m args below meth c (Hf x) (Lf x) cells slots Q (f x)) : ∀ x, P x → W p l e R s m args below meth c (Hf x) (Lf x) cells slots Q (f x) := by
  have key : ∀ (n : Nat) x, μ x < n → P x → W p l e R s m args below meth c (Hf x) (Lf x) cells slots Q (f x) := by
    intro n
    induction n with
    | zero => intro x h; omega
    | succ n ih => intro x hn hp; exact step x hp (fun x' hp' hlt => ih x' (by omega) hp')
  exact fun x hp => key (μ x + 1) x (by omega) hp
end JROWS
theorem n_n (n : Nat) : nI n = Int32.ofNat n := rfl
theorem n_of {x : Int32} {n : Nat} (h0 : ¬ x < 0) (h1 : ¬ nI n ≤ x) (hn : n < 2 ^ 31) : ∃ j, j < n ∧ x = nI j := by
  obtain ⟨j, hj, rfl⟩ := nI_of h0
  exact ⟨j, by rcases Nat.lt_or_ge j n with h | h; exact h; exact absurd (nI_le h (by omega)) h1, rfl⟩
theorem ix3 (c b i : Nat) : (88 : Int32) * nI c + 44 * nI b + nI i = nI (88 * c + 44 * b + i) := by
  rw [show (88 : Int32) = nI 88 from rfl, show (44 : Int32) = nI 44 from rfl, pk_mul, pk_mul, nI_add, nI_add]
theorem ixd (d i : Nat) : (3001 : Int32) * nI d + nI i = nI (3001 * d + i) := by
  rw [show (3001 : Int32) = nI 3001 from rfl, pk_mul, nI_add]
end
section
/-! The reference: its state is 16 rows of numbers (row 0: code, cards, entries; the others its arrays), its cells lie one behind the other. -/
abbrev SG : Type := Nat → Nat → Int32
def su (σ : SG) (k i : Nat) (v : Int32) : SG := fun k' i' => if k' = k ∧ i' = i then v else σ k' i'
theorem su_s {σ : SG} {k i : Nat} {v : Int32} : su σ k i v k i = v := if_pos ⟨rfl, rfl⟩
theorem su_k {σ : SG} {k i k' i' : Nat} {v : Int32} (h : k' ≠ k) : su σ k i v k' i' = σ k' i' := if_neg (fun z => h z.1)
theorem su_i {σ : SG} {k i k' i' : Nat} {v : Int32} (h : i' ≠ i) : su σ k i v k' i' = σ k' i' := if_neg (fun z => h z.2)
theorem su_kf {σ : SG} {k i k' : Nat} {v : Int32} (h : k' ≠ k) : su σ k i v k' = σ k' := funext fun _ => su_k h
theorem su_f {σ : SG} {k i : Nat} {v : Int32} : su σ k i v k = upd (σ k) i v := funext fun j => by
  by_cases h : j = i
  · subst h; rw [su_s]; exact pk_us.symm
  · rw [su_i h]; exact (pk_un h).symm
def lenT (k : Nat) : Nat := if k = 5 then 352000 else if k = 7 then 3001 else if k = 8 then 600200 else if k ≤ 6 then 4000 else 200
def tiT (k : Nat) : Nat := if k = 5 then 1 else if k = 8 ∨ k = 10 ∨ k = 12 then 2 else 0
def aT (g : GG) (k : Nat) (f : Nat → Int32) : va_E := .inl (g.2 (tiT k), lenT k, .inl f)
def oT (t : Nat) (σ : SG) : va_E := .inr (7, [.int (σ 0 0), .int (σ 0 1), .ref (t + 1), .ref (t + 2), .ref (t + 3), .ref (t + 4), .ref (t + 5), .ref (t + 6), .ref (t + 7), .int (σ 0 2), .ref (t + 8), .ref (t + 9), .ref (t + 10), .ref (t + 11), .ref (t + 12), .ref (t + 13), .ref (t + 14), .ref (t + 15)])
def tw (g : GG) (t : Nat) (σ : SG) : MW := fun q => if q = t then some (oT t σ) else if t < q ∧ q ≤ t + 15 then some (aT g (q - t) (σ (q - t))) else none
theorem tw_t {g : GG} {t : Nat} {σ : SG} : tw g t σ t = some (oT t σ) := if_pos rfl
theorem tw_a {g : GG} {t : Nat} {σ : SG} (k : Nat) (h1 : 1 ≤ k) (h2 : k ≤ 15) : tw g t σ (t + k) = some (aT g k (σ k)) := by
  unfold tw
  rw [if_neg (by omega), if_pos ⟨by omega, by omega⟩, Nat.add_sub_cancel_left]
theorem tw_dom {g : GG} {t : Nat} {σ : SG} {q : Nat} : tw g t σ q ≠ none ↔ t ≤ q ∧ q ≤ t + 15 := by
  unfold tw
  by_cases h : q = t
  · rw [if_pos h]; simp; omega
  · rw [if_neg h]
    by_cases h2 : t < q ∧ q ≤ t + 15
    · rw [if_pos h2]; simp; omega
    · rw [if_neg h2]; simp; omega
theorem tw_put {g : GG} {t : Nat} {σ : SG} {k j : Nat} {v : Int32} (h1 : 1 ≤ k) (h2 : k ≤ 15) : mu (tw g t σ) (t + k) (aT g k (upd (σ k) j v)) = tw g t (su σ k j v) := by
  funext q
  by_cases hq : q = t + k
  · subst hq
    rw [mu_s, tw_a k h1 h2, su_f]
  · rw [mu_n hq]
    unfold tw
    by_cases h : q = t
    · rw [if_pos h, if_pos h]
      unfold oT
      simp only [su_k (show (0 : Nat) ≠ k by omega)]
    · rw [if_neg h, if_neg h]
      by_cases h3 : t < q ∧ q ≤ t + 15
      · rw [if_pos h3, if_pos h3, su_kf (by omega)]
      · rw [if_neg h3, if_neg h3]
theorem tw_putO {g : GG} {t : Nat} {σ : SG} {i : Nat} {v : Int32} : mu (tw g t σ) t (oT t (su σ 0 i v)) = tw g t (su σ 0 i v) := by
  funext q
  by_cases hq : q = t
  · subst hq
    rw [mu_s, tw_t]
  · rw [mu_n hq]
    unfold tw
    rw [if_neg hq, if_neg hq]
    by_cases h3 : t < q ∧ q ≤ t + 15
    · rw [if_pos h3, if_pos h3, su_kf (by omega)]
    · rw [if_neg h3, if_neg h3]
theorem tw_1 {g : GG} {t : Nat} {σ : SG} : tw g t σ (t + 1) = some (.inl (g.2 0, 4000, .inl (σ 1))) := tw_a 1 (by decide) (by decide)
theorem tws_1 {g : GG} {A : Nat → Prop} {H0 H : Heap} {locs : List Loc} {t j : Nat} {σ : SG} {v : Int32} (h : HS g A H0 (mu (tw g t σ) (t + 1) (.inl (g.2 0, 4000, .inl (upd (σ 1) j v)))) H locs) : HS g A H0 (tw g t (su σ 1 j v)) H locs := by
  rw [← tw_put (by decide) (by decide)]
  exact h
theorem tw_2 {g : GG} {t : Nat} {σ : SG} : tw g t σ (t + 2) = some (.inl (g.2 0, 4000, .inl (σ 2))) := tw_a 2 (by decide) (by decide)
theorem tws_2 {g : GG} {A : Nat → Prop} {H0 H : Heap} {locs : List Loc} {t j : Nat} {σ : SG} {v : Int32} (h : HS g A H0 (mu (tw g t σ) (t + 2) (.inl (g.2 0, 4000, .inl (upd (σ 2) j v)))) H locs) : HS g A H0 (tw g t (su σ 2 j v)) H locs := by
  rw [← tw_put (by decide) (by decide)]
  exact h
theorem tw_3 {g : GG} {t : Nat} {σ : SG} : tw g t σ (t + 3) = some (.inl (g.2 0, 4000, .inl (σ 3))) := tw_a 3 (by decide) (by decide)
theorem tws_3 {g : GG} {A : Nat → Prop} {H0 H : Heap} {locs : List Loc} {t j : Nat} {σ : SG} {v : Int32} (h : HS g A H0 (mu (tw g t σ) (t + 3) (.inl (g.2 0, 4000, .inl (upd (σ 3) j v)))) H locs) : HS g A H0 (tw g t (su σ 3 j v)) H locs := by
  rw [← tw_put (by decide) (by decide)]
  exact h
theorem tw_4 {g : GG} {t : Nat} {σ : SG} : tw g t σ (t + 4) = some (.inl (g.2 0, 4000, .inl (σ 4))) := tw_a 4 (by decide) (by decide)
theorem tws_4 {g : GG} {A : Nat → Prop} {H0 H : Heap} {locs : List Loc} {t j : Nat} {σ : SG} {v : Int32} (h : HS g A H0 (mu (tw g t σ) (t + 4) (.inl (g.2 0, 4000, .inl (upd (σ 4) j v)))) H locs) : HS g A H0 (tw g t (su σ 4 j v)) H locs := by
  rw [← tw_put (by decide) (by decide)]
  exact h
theorem tw_5 {g : GG} {t : Nat} {σ : SG} : tw g t σ (t + 5) = some (.inl (g.2 1, 352000, .inl (σ 5))) := tw_a 5 (by decide) (by decide)
theorem tws_5 {g : GG} {A : Nat → Prop} {H0 H : Heap} {locs : List Loc} {t j : Nat} {σ : SG} {v : Int32} (h : HS g A H0 (mu (tw g t σ) (t + 5) (.inl (g.2 1, 352000, .inl (upd (σ 5) j v)))) H locs) : HS g A H0 (tw g t (su σ 5 j v)) H locs := by
  rw [← tw_put (by decide) (by decide)]
  exact h
theorem tw_6 {g : GG} {t : Nat} {σ : SG} : tw g t σ (t + 6) = some (.inl (g.2 0, 4000, .inl (σ 6))) := tw_a 6 (by decide) (by decide)
theorem tws_6 {g : GG} {A : Nat → Prop} {H0 H : Heap} {locs : List Loc} {t j : Nat} {σ : SG} {v : Int32} (h : HS g A H0 (mu (tw g t σ) (t + 6) (.inl (g.2 0, 4000, .inl (upd (σ 6) j v)))) H locs) : HS g A H0 (tw g t (su σ 6 j v)) H locs := by
  rw [← tw_put (by decide) (by decide)]
  exact h
theorem tw_7 {g : GG} {t : Nat} {σ : SG} : tw g t σ (t + 7) = some (.inl (g.2 0, 3001, .inl (σ 7))) := tw_a 7 (by decide) (by decide)
theorem tws_7 {g : GG} {A : Nat → Prop} {H0 H : Heap} {locs : List Loc} {t j : Nat} {σ : SG} {v : Int32} (h : HS g A H0 (mu (tw g t σ) (t + 7) (.inl (g.2 0, 3001, .inl (upd (σ 7) j v)))) H locs) : HS g A H0 (tw g t (su σ 7 j v)) H locs := by
  rw [← tw_put (by decide) (by decide)]
  exact h
theorem tw_8 {g : GG} {t : Nat} {σ : SG} : tw g t σ (t + 8) = some (.inl (g.2 2, 600200, .inl (σ 8))) := tw_a 8 (by decide) (by decide)
theorem tws_8 {g : GG} {A : Nat → Prop} {H0 H : Heap} {locs : List Loc} {t j : Nat} {σ : SG} {v : Int32} (h : HS g A H0 (mu (tw g t σ) (t + 8) (.inl (g.2 2, 600200, .inl (upd (σ 8) j v)))) H locs) : HS g A H0 (tw g t (su σ 8 j v)) H locs := by
  rw [← tw_put (by decide) (by decide)]
  exact h
theorem tw_9 {g : GG} {t : Nat} {σ : SG} : tw g t σ (t + 9) = some (.inl (g.2 0, 200, .inl (σ 9))) := tw_a 9 (by decide) (by decide)
theorem tws_9 {g : GG} {A : Nat → Prop} {H0 H : Heap} {locs : List Loc} {t j : Nat} {σ : SG} {v : Int32} (h : HS g A H0 (mu (tw g t σ) (t + 9) (.inl (g.2 0, 200, .inl (upd (σ 9) j v)))) H locs) : HS g A H0 (tw g t (su σ 9 j v)) H locs := by
  rw [← tw_put (by decide) (by decide)]
  exact h
theorem tw_10 {g : GG} {t : Nat} {σ : SG} : tw g t σ (t + 10) = some (.inl (g.2 2, 200, .inl (σ 10))) := tw_a 10 (by decide) (by decide)
theorem tws_10 {g : GG} {A : Nat → Prop} {H0 H : Heap} {locs : List Loc} {t j : Nat} {σ : SG} {v : Int32} (h : HS g A H0 (mu (tw g t σ) (t + 10) (.inl (g.2 2, 200, .inl (upd (σ 10) j v)))) H locs) : HS g A H0 (tw g t (su σ 10 j v)) H locs := by
  rw [← tw_put (by decide) (by decide)]
  exact h
theorem tw_11 {g : GG} {t : Nat} {σ : SG} : tw g t σ (t + 11) = some (.inl (g.2 0, 200, .inl (σ 11))) := tw_a 11 (by decide) (by decide)
theorem tws_11 {g : GG} {A : Nat → Prop} {H0 H : Heap} {locs : List Loc} {t j : Nat} {σ : SG} {v : Int32} (h : HS g A H0 (mu (tw g t σ) (t + 11) (.inl (g.2 0, 200, .inl (upd (σ 11) j v)))) H locs) : HS g A H0 (tw g t (su σ 11 j v)) H locs := by
  rw [← tw_put (by decide) (by decide)]
  exact h
theorem tw_12 {g : GG} {t : Nat} {σ : SG} : tw g t σ (t + 12) = some (.inl (g.2 2, 200, .inl (σ 12))) := tw_a 12 (by decide) (by decide)
theorem tws_12 {g : GG} {A : Nat → Prop} {H0 H : Heap} {locs : List Loc} {t j : Nat} {σ : SG} {v : Int32} (h : HS g A H0 (mu (tw g t σ) (t + 12) (.inl (g.2 2, 200, .inl (upd (σ 12) j v)))) H locs) : HS g A H0 (tw g t (su σ 12 j v)) H locs := by
  rw [← tw_put (by decide) (by decide)]
  exact h
theorem tw_13 {g : GG} {t : Nat} {σ : SG} : tw g t σ (t + 13) = some (.inl (g.2 0, 200, .inl (σ 13))) := tw_a 13 (by decide) (by decide)
theorem tws_13 {g : GG} {A : Nat → Prop} {H0 H : Heap} {locs : List Loc} {t j : Nat} {σ : SG} {v : Int32} (h : HS g A H0 (mu (tw g t σ) (t + 13) (.inl (g.2 0, 200, .inl (upd (σ 13) j v)))) H locs) : HS g A H0 (tw g t (su σ 13 j v)) H locs := by
  rw [← tw_put (by decide) (by decide)]
  exact h
theorem tw_14 {g : GG} {t : Nat} {σ : SG} : tw g t σ (t + 14) = some (.inl (g.2 0, 200, .inl (σ 14))) := tw_a 14 (by decide) (by decide)
theorem tws_14 {g : GG} {A : Nat → Prop} {H0 H : Heap} {locs : List Loc} {t j : Nat} {σ : SG} {v : Int32} (h : HS g A H0 (mu (tw g t σ) (t + 14) (.inl (g.2 0, 200, .inl (upd (σ 14) j v)))) H locs) : HS g A H0 (tw g t (su σ 14 j v)) H locs := by
  rw [← tw_put (by decide) (by decide)]
  exact h
theorem tw_15 {g : GG} {t : Nat} {σ : SG} : tw g t σ (t + 15) = some (.inl (g.2 0, 200, .inl (σ 15))) := tw_a 15 (by decide) (by decide)
theorem tws_15 {g : GG} {A : Nat → Prop} {H0 H : Heap} {locs : List Loc} {t j : Nat} {σ : SG} {v : Int32} (h : HS g A H0 (mu (tw g t σ) (t + 15) (.inl (g.2 0, 200, .inl (upd (σ 15) j v)))) H locs) : HS g A H0 (tw g t (su σ 15 j v)) H locs := by
  rw [← tw_put (by decide) (by decide)]
  exact h
theorem two {g : GG} {A : Nat → Prop} {H0 H : Heap} {locs : List Loc} {t i : Nat} {σ : SG} {v : Int32} (h : HS g A H0 (mu (tw g t σ) t (oT t (su σ 0 i v))) H locs) : HS g A H0 (tw g t (su σ 0 i v)) H locs := by
  rw [← tw_putO]
  exact h
/-! what the numbers of a card say -/
def wd (σ : SG) (c b i : Nat) : Int32 := σ 5 (88 * c + 44 * b + i)
def whI (σ : SG) (c b : Nat) : Int32 := if wd σ c b 0 = wd σ c b 43 then 1 else 0
def sq (σ : SG) (c b : Nat) : Int32 := (wd σ c b 0 >>> ((8 : Int32) &&& 31)) &&& 255
def ahd (σ : SG) (c : Nat) : Int32 := (sq σ c 1 - sq σ c 0) &&& 255
def cur (σ : SG) (c : Nat) : Nat := if wd σ c 0 0 = wd σ c 0 43 ∧ wd σ c 1 0 = wd σ c 1 43 then (if ¬ ahd σ c ≤ 0 ∧ ¬ 128 ≤ ahd σ c then 1 else 0) else if wd σ c 0 0 = wd σ c 0 43 then 0 else 1
theorem cur_lt (σ : SG) (c : Nat) : cur σ c < 2 := by
  unfold cur
  repeat' split
  all_goals omega
theorem whI_0 {σ : SG} {c b : Nat} : whI σ c b = 0 ↔ ¬ wd σ c b 0 = wd σ c b 43 := by
  unfold whI
  by_cases h : wd σ c b 0 = wd σ c b 43
  · rw [if_pos h]; simp [h]
  · rw [if_neg h]; simp [h]
theorem nI_one : nI 1 = 1 := rfl
/-! what a door has: entry e at door d -/
def hs (σ : SG) (d e : Nat) : Int32 := σ 8 (3001 * d + e)
def grF (σ : SG) (d : Nat) : Nat → Nat
  | 0 => 0
  | n + 1 => if hs σ d (n + 1) = 0 then grF σ d n else n + 1
def gre (σ : SG) (d : Nat) : Nat := grF σ d 3000
def cpF (σ : SG) (d : Nat) : Nat → Nat → Nat
  | 0, e => e
  | f + 1, e => if hs σ d (e + 1) = 0 then e else cpF σ d f (e + 1)
def cmp (σ : SG) (d : Nat) : Nat := cpF σ d 3000 0
def mkF (σ : SG) (d : Nat) : Nat → Nat
  | 0 => 0
  | n + 1 => if hs σ d (n + 1) = 0 then mkF σ d n else mkF σ d n + 1
def rnF (σ : SG) (d : Nat) : Nat → Nat
  | 0 => 0
  | n + 1 => if ¬ hs σ d (n + 1) = 0 ∧ hs σ d n = 0 then rnF σ d n + 1 else rnF σ d n
def rvI (σ : SG) (d e : Nat) : Int32 := if ¬ nI e ≤ 0 ∧ ¬ hs σ d e = 0 then 1 else 0
def cnI (σ : SG) (c : Nat) : Int32 := wd σ c (cur σ c) 0 &&& 255
def fiI (σ : SG) (c : Nat) : Int32 := if cnI σ c = 0 then 0 else wd σ c (cur σ c) 1
def seI (σ : SG) (c : Nat) : Int32 := wd σ c (cur σ c) 2
def tl0 (σ : SG) (c a n : Nat) (h : Int32) : Prop := cnI σ c = nI n ∧ fiI σ c = nI a ∧ seI σ c = h
def tlW (σ : SG) (c a k : Nat) : Prop := ∀ j, j < k → wd σ c (cur σ c) (3 + j) = σ 7 (a + j)
noncomputable def smI (σ : SG) (c a n : Nat) (h : Int32) (k : Nat) : Int32 := @ite Int32 (tl0 σ c a n h ∧ tlW σ c a k) (Classical.propDecidable _) 1 0
theorem smI_1 {σ : SG} {c a n k : Nat} {h : Int32} (q : tl0 σ c a n h ∧ tlW σ c a k) : smI σ c a n h k = 1 := if_pos q
theorem smI_0 {σ : SG} {c a n k : Nat} {h : Int32} (q : ¬ (tl0 σ c a n h ∧ tlW σ c a k)) : smI σ c a n h k = 0 := if_neg q
theorem smI_z {σ : SG} {c a n k : Nat} {h : Int32} : smI σ c a n h k = 0 ↔ ¬ (tl0 σ c a n h ∧ tlW σ c a k) := by
  by_cases q : tl0 σ c a n h ∧ tlW σ c a k
  · rw [smI_1 q]; simp [q]
  · rw [smI_0 q]; simp only [q, not_false_eq_true]
theorem smI_01 (σ : SG) (c a n : Nat) (h : Int32) (k : Nat) : smI σ c a n h k = 0 ∨ smI σ c a n h k = 1 := by
  by_cases q : tl0 σ c a n h ∧ tlW σ c a k
  · exact Or.inr (smI_1 q)
  · exact Or.inl (smI_0 q)
theorem tlW_0 {σ : SG} {c a : Nat} : tlW σ c a 0 := fun j h => by omega
theorem tlW_s {σ : SG} {c a k : Nat} (h : tlW σ c a k) (hk : wd σ c (cur σ c) (3 + k) = σ 7 (a + k)) : tlW σ c a (k + 1) := lt_s h hk
theorem tlW_le {σ : SG} {c a k n : Nat} (h : tlW σ c a n) (hk : k ≤ n) : tlW σ c a k := fun j hj => h j (by omega)
def ncI (σ : SG) (x : Int32) : Int32 := if x < 0 ∨ ¬ x < σ 0 1 then 1 else 0
def ndI (x : Int32) : Int32 := if x < 0 ∨ ¬ x ≤ 199 then 1 else 0
end
section
/-! The reference: methods that only read. -/
set_option maxHeartbeats 4000000 in
set_option maxRecDepth 100000 in
theorem c_T_thrown (l : Launch) (g : GG) (t : Nat) (σ : SG) (sz : Nat) : Met l y_T_thrown (k_T_thrown :: TT) { frames := 0, cells := 0, slots := 0, locals := 0 } (Pm g [.ref t] sz (tw g t σ)) (Qrd (some (.int (σ 0 0)))) 0 0 (nofree) := by
  refine met_of (by decide) (Nat.le_of_ble_eq_true rfl) ?_
  intro pr en s mi below meth co hx hb hr hml hown hlocks hnm hT hsz hP hK ls hl
  have hl : lv_has ls 1 [(0, .ref t)] := hl
  refine lv_aload_n hx hb d_T_thrown_0 rfl (lv_at hl 0 rfl) ?_
  refine m_get (ci := 7) (v := .int (σ 0 0)) hx hb hT in_T hown hK hP (tw_t) rfl 0 (by decide) (hT _ w672) (fun _ h9 => h9) rfl d_T_thrown_1 ?_
  exact rd_iret hx hb hr hlocks (rfl) d_T_thrown_4
set_option maxHeartbeats 4000000 in
set_option maxRecDepth 100000 in
theorem c_T_noCard (l : Launch) (g : GG) (t : Nat) (σ : SG) (x : Int32) (sz : Nat) : Met l y_T_noCard (k_T_noCard :: TT) { frames := 0, cells := 0, slots := 0, locals := 0 } (Pm g [.ref t, .int x] sz (tw g t σ)) (Qrd (some (.int (ncI σ x)))) 0 0 (nofree) := by
  refine met_of (by decide) (Nat.le_of_ble_eq_true rfl) ?_
  intro pr en s mi below meth co hx hb hr hml hown hlocks hnm hT hsz hP hK ls hl
  have hl : lv_has ls 2 [(0, .ref t), (1, .int x)] := hl
  refine lv_iload_n hx hb d_T_noCard_0 rfl (lv_at hl 1 rfl) ?_
  refine lv_if_lt (tgt := 12) hx hb d_T_noCard_1 (by decide) (fun q1 => ?_) (fun q1 => ?_)
  · skip
    refine lv_iconst (v := 1) hx hb d_T_noCard_12 (by decide) ?_
    refine lv_goto (tgt := 17) hx hb d_T_noCard_13 (by decide) ?_
    exact rd_zret hx hb hr hlocks (by first | contradiction | (simp [ncI, q1]; done)) (by first | exact Or.inl rfl | exact Or.inr rfl | assumption | exact smI_01 _ _ _ _ _ _) d_T_noCard_17
  · skip
    refine lv_iload_n hx hb d_T_noCard_4 rfl (lv_at hl 1 rfl) ?_
    refine lv_aload_n hx hb d_T_noCard_5 rfl (lv_at hl 0 rfl) ?_
    refine m_get (ci := 7) (v := .int (σ 0 1)) hx hb hT in_T hown hK hP (tw_t) rfl 1 (by decide) (hT _ w673) (fun _ h9 => h9) rfl d_T_noCard_6 ?_
    refine lv_icmp_lt (tgt := 16) hx hb d_T_noCard_9 (by decide) (fun q2 => ?_) (fun q2 => ?_)
    · skip
      refine lv_iconst (v := 0) hx hb d_T_noCard_16 (by decide) ?_
      exact rd_zret hx hb hr hlocks (by first | contradiction | (simp [ncI, q1, q2]; done)) (by first | exact Or.inl rfl | exact Or.inr rfl | assumption | exact smI_01 _ _ _ _ _ _) d_T_noCard_17
    · skip
      refine lv_iconst (v := 1) hx hb d_T_noCard_12 (by decide) ?_
      refine lv_goto (tgt := 17) hx hb d_T_noCard_13 (by decide) ?_
      exact rd_zret hx hb hr hlocks (by first | contradiction | (simp [ncI, q1, q2]; done)) (by first | exact Or.inl rfl | exact Or.inr rfl | assumption | exact smI_01 _ _ _ _ _ _) d_T_noCard_17
set_option maxHeartbeats 4000000 in
set_option maxRecDepth 100000 in
theorem c_T_noDoor (l : Launch) (g : GG) (M : MW) (x : Int32) (sz : Nat) : Met l y_T_noDoor (k_T_noDoor :: TT) { frames := 0, cells := 0, slots := 0, locals := 0 } (Pm g [.int x] sz (M)) (Qrd (some (.int (ndI x)))) 0 0 (nofree) := by
  refine met_of (by decide) (Nat.le_of_ble_eq_true rfl) ?_
  intro pr en s mi below meth co hx hb hr hml hown hlocks hnm hT hsz hP hK ls hl
  have hl : lv_has ls 1 [(0, .int x)] := hl
  refine lv_iload_n hx hb d_T_noDoor_0 rfl (lv_at hl 0 rfl) ?_
  refine lv_if_lt (tgt := 11) hx hb d_T_noDoor_1 (by decide) (fun q1 => ?_) (fun q1 => ?_)
  · skip
    refine lv_iconst (v := 1) hx hb d_T_noDoor_11 (by decide) ?_
    refine lv_goto (tgt := 16) hx hb d_T_noDoor_12 (by decide) ?_
    exact rd_zret hx hb hr hlocks (by first | contradiction | (simp [ndI, q1]; done)) (by first | exact Or.inl rfl | exact Or.inr rfl | assumption | exact smI_01 _ _ _ _ _ _) d_T_noDoor_16
  · skip
    refine lv_iload_n hx hb d_T_noDoor_4 rfl (lv_at hl 0 rfl) ?_
    refine lv_sipush (v := 199) hx hb d_T_noDoor_5 (by decide) ?_
    refine lv_icmp_le (tgt := 15) hx hb d_T_noDoor_8 (by decide) (fun q2 => ?_) (fun q2 => ?_)
    · skip
      refine lv_iconst (v := 0) hx hb d_T_noDoor_15 (by decide) ?_
      exact rd_zret hx hb hr hlocks (by first | contradiction | (simp [ndI, q1, q2]; done)) (by first | exact Or.inl rfl | exact Or.inr rfl | assumption | exact smI_01 _ _ _ _ _ _) d_T_noDoor_16
    · skip
      refine lv_iconst (v := 1) hx hb d_T_noDoor_11 (by decide) ?_
      refine lv_goto (tgt := 16) hx hb d_T_noDoor_12 (by decide) ?_
      exact rd_zret hx hb hr hlocks (by first | contradiction | (simp [ndI, q1, q2]; done)) (by first | exact Or.inl rfl | exact Or.inr rfl | assumption | exact smI_01 _ _ _ _ _ _) d_T_noDoor_16
set_option maxHeartbeats 4000000 in
set_option maxRecDepth 100000 in
theorem c_T_wordAt (l : Launch) (g : GG) (t : Nat) (σ : SG) (c b i : Nat) (sz : Nat) (hc : c < 4000) (hb2 : b < 2) (hi : i < 44) : Met l y_T_wordAt (k_T_wordAt :: TT) { frames := 0, cells := 0, slots := 0, locals := 0 } (Pm g [.ref t, .int (nI c), .int (nI b), .int (nI i)] sz (tw g t σ)) (Qrd (some (.int (wd σ c b i)))) 0 0 (nofree) := by
  refine met_of (by decide) (Nat.le_of_ble_eq_true rfl) ?_
  intro pr en s mi below meth co hx hb hr hml hown hlocks hnm hT hsz hP hK ls hl
  have hl : lv_has ls 4 [(0, .ref t), (1, .int (nI c)), (2, .int (nI b)), (3, .int (nI i))] := hl
  refine lv_aload_n hx hb d_T_wordAt_0 rfl (lv_at hl 0 rfl) ?_
  refine m_get (ci := 7) (v := .ref (t + 5)) hx hb hT in_T hown hK hP (tw_t) rfl 6 (by decide) (hT _ w678) (fun _ h9 => h9) rfl d_T_wordAt_1 ?_
  refine lv_bipush (v := 88) hx hb d_T_wordAt_4 (by decide) ?_
  refine lv_iload_n hx hb d_T_wordAt_6 rfl (lv_at hl 1 rfl) ?_
  refine lv_imul hx hb d_T_wordAt_7 ?_
  refine lv_bipush (v := 44) hx hb d_T_wordAt_8 (by decide) ?_
  refine lv_iload_n hx hb d_T_wordAt_10 rfl (lv_at hl 2 rfl) ?_
  refine lv_imul hx hb d_T_wordAt_11 ?_
  refine lv_iadd hx hb d_T_wordAt_12 ?_
  refine lv_iload_n hx hb d_T_wordAt_13 rfl (lv_at hl 3 rfl) ?_
  refine lv_iadd hx hb d_T_wordAt_14 ?_
  refine m_sald hx hb hK hP 1 (tw_5) rfl (j := 88 * c + 44 * b + i) (ix3 c b i) (by omega) (by decide) d_T_wordAt_15 ?_
  exact rd_iret hx hb hr hlocks (rfl) d_T_wordAt_16
set_option maxHeartbeats 4000000 in
set_option maxRecDepth 100000 in
theorem c_T_whole (l : Launch) (g : GG) (t : Nat) (σ : SG) (c b : Nat) (sz : Nat) (hc : c < 4000) (hb2 : b < 2) : Met l y_T_whole (k_T_whole :: TT) { frames := 1, cells := 0, slots := 0, locals := 23 } (Pm g [.ref t, .int (nI c), .int (nI b)] sz (tw g t σ)) (Qrd (some (.int (whI σ c b)))) 0 0 (nofree) := by
  refine met_of (by decide) (Nat.le_of_ble_eq_true rfl) ?_
  intro pr en s mi below meth co hx hb hr hml hown hlocks hnm hT hsz hP hK ls hl
  have hl : lv_has ls 3 [(0, .ref t), (1, .int (nI c)), (2, .int (nI b))] := hl
  refine lv_aload_n hx hb d_T_whole_0 rfl (lv_at hl 0 rfl) ?_
  refine lv_iload_n hx hb d_T_whole_1 rfl (lv_at hl 1 rfl) ?_
  refine lv_iload_n hx hb d_T_whole_2 rfl (lv_at hl 2 rfl) ?_
  refine lv_iconst (v := 0) hx hb d_T_whole_3 (by decide) ?_
  refine rd_run (c_V (As := [.int (nI c), .int (nI b), .int 0]) (rest := []) hx hb hml hl.1 hown hT hK hP (c_T_wordAt l g t σ c b 0 s.heap.size (by omega) (by first | decide | assumption | exact cur_lt _ _) (by decide)) kw_T_wordAt w775 w777 selp_T_wordAt w8 hd_T_wordAt rfl rfl ⟨by decide, by decide⟩ (tw_t) rfl rfl rfl (Nat.le_of_ble_eq_true rfl) d_T_whole_4 ⟨by decide, by decide⟩) rfl ?_
  refine lv_aload_n hx hb d_T_whole_7 rfl (lv_at hl 0 rfl) ?_
  refine lv_iload_n hx hb d_T_whole_8 rfl (lv_at hl 1 rfl) ?_
  refine lv_iload_n hx hb d_T_whole_9 rfl (lv_at hl 2 rfl) ?_
  refine lv_bipush (v := 43) hx hb d_T_whole_10 (by decide) ?_
  refine rd_run (c_V (As := [.int (nI c), .int (nI b), .int 43]) (rest := [.int (wd σ c b 0)]) hx hb hml hl.1 hown hT hK hP (c_T_wordAt l g t σ c b 43 s.heap.size (by omega) (by first | decide | assumption | exact cur_lt _ _) (by decide)) kw_T_wordAt w775 w777 selp_T_wordAt w8 hd_T_wordAt rfl rfl ⟨by decide, by decide⟩ (tw_t) rfl rfl rfl (Nat.le_of_ble_eq_true rfl) d_T_whole_12 ⟨by decide, by decide⟩) rfl ?_
  refine lv_icmp_ne (tgt := 22) hx hb d_T_whole_15 (by decide) (fun q1 => ?_) (fun q1 => ?_)
  · skip
    refine lv_iconst (v := 0) hx hb d_T_whole_22 (by decide) ?_
    exact rd_zret hx hb hr hlocks (by first | contradiction | (simp [whI, q1]; done)) (by first | exact Or.inl rfl | exact Or.inr rfl | assumption | exact smI_01 _ _ _ _ _ _) d_T_whole_23
  · skip
    refine lv_iconst (v := 1) hx hb d_T_whole_18 (by decide) ?_
    refine lv_goto (tgt := 23) hx hb d_T_whole_19 (by decide) ?_
    exact rd_zret hx hb hr hlocks (by first | contradiction | (simp [whI, q1]; done)) (by first | exact Or.inl rfl | exact Or.inr rfl | assumption | exact smI_01 _ _ _ _ _ _) d_T_whole_23
set_option maxHeartbeats 4000000 in
set_option maxRecDepth 100000 in
theorem c_T_sequence (l : Launch) (g : GG) (t : Nat) (σ : SG) (c b : Nat) (sz : Nat) (hc : c < 4000) (hb2 : b < 2) : Met l y_T_sequence (k_T_sequence :: TT) { frames := 1, cells := 0, slots := 0, locals := 23 } (Pm g [.ref t, .int (nI c), .int (nI b)] sz (tw g t σ)) (Qrd (some (.int (sq σ c b)))) 0 0 (nofree) := by
  refine met_of (by decide) (Nat.le_of_ble_eq_true rfl) ?_
  intro pr en s mi below meth co hx hb hr hml hown hlocks hnm hT hsz hP hK ls hl
  have hl : lv_has ls 3 [(0, .ref t), (1, .int (nI c)), (2, .int (nI b))] := hl
  refine lv_aload_n hx hb d_T_sequence_0 rfl (lv_at hl 0 rfl) ?_
  refine lv_iload_n hx hb d_T_sequence_1 rfl (lv_at hl 1 rfl) ?_
  refine lv_iload_n hx hb d_T_sequence_2 rfl (lv_at hl 2 rfl) ?_
  refine lv_iconst (v := 0) hx hb d_T_sequence_3 (by decide) ?_
  refine rd_run (c_V (As := [.int (nI c), .int (nI b), .int 0]) (rest := []) hx hb hml hl.1 hown hT hK hP (c_T_wordAt l g t σ c b 0 s.heap.size (by omega) (by first | decide | assumption | exact cur_lt _ _) (by decide)) kw_T_wordAt w775 w777 selp_T_wordAt w8 hd_T_wordAt rfl rfl ⟨by decide, by decide⟩ (tw_t) rfl rfl rfl (Nat.le_of_ble_eq_true rfl) d_T_sequence_4 ⟨by decide, by decide⟩) rfl ?_
  refine lv_bipush (v := 8) hx hb d_T_sequence_7 (by decide) ?_
  refine lv_ishr hx hb d_T_sequence_9 ?_
  refine lv_sipush (v := 255) hx hb d_T_sequence_10 (by decide) ?_
  refine lv_iand hx hb d_T_sequence_13 ?_
  exact rd_iret hx hb hr hlocks (rfl) d_T_sequence_14
set_option maxHeartbeats 4000000 in
set_option maxRecDepth 100000 in
theorem c_T_current (l : Launch) (g : GG) (t : Nat) (σ : SG) (c : Nat) (sz : Nat) (hc : c < 4000) : Met l y_T_current (k_T_current :: TT) { frames := 2, cells := 0, slots := 0, locals := 45 } (Pm g [.ref t, .int (nI c)] sz (tw g t σ)) (Qrd (some (.int (nI (cur σ c))))) 0 0 (nofree) := by
  refine met_of (by decide) (Nat.le_of_ble_eq_true rfl) ?_
  intro pr en s mi below meth co hx hb hr hml hown hlocks hnm hT hsz hP hK ls hl
  have hl : lv_has ls 3 [(0, .ref t), (1, .int (nI c))] := hl
  refine lv_aload_n hx hb d_T_current_0 rfl (lv_at hl 0 rfl) ?_
  refine lv_iload_n hx hb d_T_current_1 rfl (lv_at hl 1 rfl) ?_
  refine lv_iconst (v := 0) hx hb d_T_current_2 (by decide) ?_
  refine rd_run (c_V (As := [.int (nI c), .int 0]) (rest := []) hx hb hml hl.1 hown hT hK hP (c_T_whole l g t σ c 0 s.heap.size hc (by decide)) kw_T_whole w771 w773 selp_T_whole w8 hd_T_whole rfl rfl ⟨by decide, by decide⟩ (tw_t) rfl rfl rfl (Nat.le_of_ble_eq_true rfl) d_T_current_3 ⟨by decide, by decide⟩) rfl ?_
  refine lv_if_eq (tgt := 18) hx hb d_T_current_6 (by decide) (fun c1 => ?_) (fun c1 => ?_)
  · skip
    rw [whI_0] at c1
    refine lv_aload_n hx hb d_T_current_18 rfl (lv_at hl 0 rfl) ?_
    refine lv_iload_n hx hb d_T_current_19 rfl (lv_at hl 1 rfl) ?_
    refine lv_iconst (v := 0) hx hb d_T_current_20 (by decide) ?_
    refine rd_run (c_V (As := [.int (nI c), .int 0]) (rest := []) hx hb hml hl.1 hown hT hK hP (c_T_whole l g t σ c 0 s.heap.size hc (by decide)) kw_T_whole w771 w773 selp_T_whole w8 hd_T_whole rfl rfl ⟨by decide, by decide⟩ (tw_t) rfl rfl rfl (Nat.le_of_ble_eq_true rfl) d_T_current_21 ⟨by decide, by decide⟩) rfl ?_
    refine lv_if_eq (tgt := 31) hx hb d_T_current_24 (by decide) (fun c3 => ?_) (fun c3 => ?_)
    · skip
      rw [whI_0] at c3
      refine lv_iconst (v := 1) hx hb d_T_current_31 (by decide) ?_
      exact rd_iret hx hb hr hlocks (by first | contradiction | (simp [cur, c1, c3, nI_0, nI_one]; done)) d_T_current_32
    · skip
      rw [whI_0, Classical.not_not] at c3
      refine lv_iconst (v := 0) hx hb d_T_current_27 (by decide) ?_
      refine lv_goto (tgt := 32) hx hb d_T_current_28 (by decide) ?_
      exact rd_iret hx hb hr hlocks (by first | contradiction | (simp [cur, c1, c3, nI_0, nI_one]; done)) d_T_current_32
  · skip
    rw [whI_0, Classical.not_not] at c1
    refine lv_aload_n hx hb d_T_current_9 rfl (lv_at hl 0 rfl) ?_
    refine lv_iload_n hx hb d_T_current_10 rfl (lv_at hl 1 rfl) ?_
    refine lv_iconst (v := 1) hx hb d_T_current_11 (by decide) ?_
    refine rd_run (c_V (As := [.int (nI c), .int 1]) (rest := []) hx hb hml hl.1 hown hT hK hP (c_T_whole l g t σ c 1 s.heap.size hc (by decide)) kw_T_whole w771 w773 selp_T_whole w8 hd_T_whole rfl rfl ⟨by decide, by decide⟩ (tw_t) rfl rfl rfl (Nat.le_of_ble_eq_true rfl) d_T_current_12 ⟨by decide, by decide⟩) rfl ?_
    refine lv_if_ne (tgt := 33) hx hb d_T_current_15 (by decide) (fun c2 => ?_) (fun c2 => ?_)
    · skip
      rw [whI_0, Classical.not_not] at c2
      refine lv_aload_n hx hb d_T_current_33 rfl (lv_at hl 0 rfl) ?_
      refine lv_iload_n hx hb d_T_current_34 rfl (lv_at hl 1 rfl) ?_
      refine lv_iconst (v := 1) hx hb d_T_current_35 (by decide) ?_
      refine rd_run (c_V (As := [.int (nI c), .int 1]) (rest := []) hx hb hml hl.1 hown hT hK hP (c_T_sequence l g t σ c 1 s.heap.size hc (by first | decide | assumption | exact cur_lt _ _)) kw_T_sequence w779 w781 selp_T_sequence w8 hd_T_sequence rfl rfl ⟨by decide, by decide⟩ (tw_t) rfl rfl rfl (Nat.le_of_ble_eq_true rfl) d_T_current_36 ⟨by decide, by decide⟩) rfl ?_
      refine lv_aload_n hx hb d_T_current_39 rfl (lv_at hl 0 rfl) ?_
      refine lv_iload_n hx hb d_T_current_40 rfl (lv_at hl 1 rfl) ?_
      refine lv_iconst (v := 0) hx hb d_T_current_41 (by decide) ?_
      refine rd_run (c_V (As := [.int (nI c), .int 0]) (rest := [.int (sq σ c 1)]) hx hb hml hl.1 hown hT hK hP (c_T_sequence l g t σ c 0 s.heap.size hc (by first | decide | assumption | exact cur_lt _ _)) kw_T_sequence w779 w781 selp_T_sequence w8 hd_T_sequence rfl rfl ⟨by decide, by decide⟩ (tw_t) rfl rfl rfl (Nat.le_of_ble_eq_true rfl) d_T_current_42 ⟨by decide, by decide⟩) rfl ?_
      refine lv_isub hx hb d_T_current_45 ?_
      refine lv_sipush (v := 255) hx hb d_T_current_46 (by decide) ?_
      refine lv_iand hx hb d_T_current_49 ?_
      refine lv_istore_n (lv' := [(2, .int (((sq σ c 1) - (sq σ c 0)) &&& 255)), (0, .ref t), (1, .int (nI c))]) hx hb d_T_current_50 rfl hl (by decide) rfl (fun ls hl => ?_)
      refine lv_iload_n hx hb d_T_current_51 rfl (lv_at hl 0 rfl) ?_
      refine lv_if_le (tgt := 66) hx hb d_T_current_52 (by decide) (fun q1 => ?_) (fun q1 => ?_)
      · skip
        refine lv_iconst (v := 0) hx hb d_T_current_66 (by decide) ?_
        exact rd_iret hx hb hr hlocks (by first | contradiction | (simp [cur, c1, c2, q1, ahd, nI_0, nI_one]; done)) d_T_current_67
      · skip
        refine lv_iload_n hx hb d_T_current_55 rfl (lv_at hl 0 rfl) ?_
        refine lv_sipush (v := 128) hx hb d_T_current_56 (by decide) ?_
        refine lv_icmp_ge (tgt := 66) hx hb d_T_current_59 (by decide) (fun q2 => ?_) (fun q2 => ?_)
        · skip
          refine lv_iconst (v := 0) hx hb d_T_current_66 (by decide) ?_
          exact rd_iret hx hb hr hlocks (by first | contradiction | (simp [cur, c1, c2, q1, q2, ahd, nI_0, nI_one]; done)) d_T_current_67
        · skip
          refine lv_iconst (v := 1) hx hb d_T_current_62 (by decide) ?_
          refine lv_goto (tgt := 67) hx hb d_T_current_63 (by decide) ?_
          exact rd_iret hx hb hr hlocks (by first | contradiction | (simp [cur, c1, c2, q1, q2, ahd, nI_0, nI_one]; done)) d_T_current_67
    · skip
      rw [whI_0] at c2
      refine lv_aload_n hx hb d_T_current_18 rfl (lv_at hl 0 rfl) ?_
      refine lv_iload_n hx hb d_T_current_19 rfl (lv_at hl 1 rfl) ?_
      refine lv_iconst (v := 0) hx hb d_T_current_20 (by decide) ?_
      refine rd_run (c_V (As := [.int (nI c), .int 0]) (rest := []) hx hb hml hl.1 hown hT hK hP (c_T_whole l g t σ c 0 s.heap.size hc (by decide)) kw_T_whole w771 w773 selp_T_whole w8 hd_T_whole rfl rfl ⟨by decide, by decide⟩ (tw_t) rfl rfl rfl (Nat.le_of_ble_eq_true rfl) d_T_current_21 ⟨by decide, by decide⟩) rfl ?_
      refine lv_if_eq (tgt := 31) hx hb d_T_current_24 (by decide) (fun c3 => ?_) (fun c3 => ?_)
      · skip
        rw [whI_0] at c3
        refine lv_iconst (v := 1) hx hb d_T_current_31 (by decide) ?_
        exact rd_iret hx hb hr hlocks (by first | contradiction | (simp [cur, c1, c2, c3, nI_0, nI_one]; done)) d_T_current_32
      · skip
        rw [whI_0, Classical.not_not] at c3
        refine lv_iconst (v := 0) hx hb d_T_current_27 (by decide) ?_
        refine lv_goto (tgt := 32) hx hb d_T_current_28 (by decide) ?_
        exact rd_iret hx hb hr hlocks (by first | contradiction | (simp [cur, c1, c2, c3, nI_0, nI_one]; done)) d_T_current_32
set_option maxHeartbeats 4000000 in
set_option maxRecDepth 100000 in
theorem c_T_count (l : Launch) (g : GG) (t : Nat) (σ : SG) (c : Nat) (sz : Nat) (hc : c < 4000) : Met l y_T_count (k_T_count :: TT) { frames := 3, cells := 0, slots := 0, locals := 67 } (Pm g [.ref t, .int (nI c)] sz (tw g t σ)) (Qrd (some (.int (cnI σ c)))) 0 0 (nofree) := by
  refine met_of (by decide) (Nat.le_of_ble_eq_true rfl) ?_
  intro pr en s mi below meth co hx hb hr hml hown hlocks hnm hT hsz hP hK ls hl
  have hl : lv_has ls 2 [(0, .ref t), (1, .int (nI c))] := hl
  refine lv_aload_n hx hb d_T_count_0 rfl (lv_at hl 0 rfl) ?_
  refine lv_iload_n hx hb d_T_count_1 rfl (lv_at hl 1 rfl) ?_
  refine lv_aload_n hx hb d_T_count_2 rfl (lv_at hl 0 rfl) ?_
  refine lv_iload_n hx hb d_T_count_3 rfl (lv_at hl 1 rfl) ?_
  refine rd_run (c_V (As := [.int (nI c)]) (rest := [.int (nI c), .ref t]) hx hb hml hl.1 hown hT hK hP (c_T_current l g t σ c s.heap.size hc) kw_T_current w767 w769 selp_T_current w8 hd_T_current rfl rfl ⟨by decide, by decide⟩ (tw_t) rfl rfl rfl (Nat.le_of_ble_eq_true rfl) d_T_count_4 ⟨by decide, by decide⟩) rfl ?_
  refine lv_iconst (v := 0) hx hb d_T_count_7 (by decide) ?_
  refine rd_run (c_V (As := [.int (nI c), .int (nI (cur σ c)), .int 0]) (rest := []) hx hb hml hl.1 hown hT hK hP (c_T_wordAt l g t σ c (cur σ c) 0 s.heap.size (by omega) (by first | decide | assumption | exact cur_lt _ _) (by decide)) kw_T_wordAt w775 w777 selp_T_wordAt w8 hd_T_wordAt rfl rfl ⟨by decide, by decide⟩ (tw_t) rfl rfl rfl (Nat.le_of_ble_eq_true rfl) d_T_count_8 ⟨by decide, by decide⟩) rfl ?_
  refine lv_sipush (v := 255) hx hb d_T_count_11 (by decide) ?_
  refine lv_iand hx hb d_T_count_14 ?_
  exact rd_iret hx hb hr hlocks (rfl) d_T_count_15
set_option maxHeartbeats 4000000 in
set_option maxRecDepth 100000 in
theorem c_T_first (l : Launch) (g : GG) (t : Nat) (σ : SG) (c : Nat) (sz : Nat) (hc : c < 4000) : Met l y_T_first (k_T_first :: TT) { frames := 4, cells := 0, slots := 0, locals := 88 } (Pm g [.ref t, .int (nI c)] sz (tw g t σ)) (Qrd (some (.int (fiI σ c)))) 0 0 (nofree) := by
  refine met_of (by decide) (Nat.le_of_ble_eq_true rfl) ?_
  intro pr en s mi below meth co hx hb hr hml hown hlocks hnm hT hsz hP hK ls hl
  have hl : lv_has ls 2 [(0, .ref t), (1, .int (nI c))] := hl
  refine lv_aload_n hx hb d_T_first_0 rfl (lv_at hl 0 rfl) ?_
  refine lv_iload_n hx hb d_T_first_1 rfl (lv_at hl 1 rfl) ?_
  refine rd_run (c_V (As := [.int (nI c)]) (rest := []) hx hb hml hl.1 hown hT hK hP (c_T_count l g t σ c s.heap.size hc) kw_T_count w763 w765 selp_T_count w8 hd_T_count rfl rfl ⟨by decide, by decide⟩ (tw_t) rfl rfl rfl (Nat.le_of_ble_eq_true rfl) d_T_first_2 ⟨by decide, by decide⟩) rfl ?_
  refine lv_if_ne (tgt := 12) hx hb d_T_first_5 (by decide) (fun q1 => ?_) (fun q1 => ?_)
  · skip
    refine lv_aload_n hx hb d_T_first_12 rfl (lv_at hl 0 rfl) ?_
    refine lv_iload_n hx hb d_T_first_13 rfl (lv_at hl 1 rfl) ?_
    refine lv_aload_n hx hb d_T_first_14 rfl (lv_at hl 0 rfl) ?_
    refine lv_iload_n hx hb d_T_first_15 rfl (lv_at hl 1 rfl) ?_
    refine rd_run (c_V (As := [.int (nI c)]) (rest := [.int (nI c), .ref t]) hx hb hml hl.1 hown hT hK hP (c_T_current l g t σ c s.heap.size hc) kw_T_current w767 w769 selp_T_current w8 hd_T_current rfl rfl ⟨by decide, by decide⟩ (tw_t) rfl rfl rfl (Nat.le_of_ble_eq_true rfl) d_T_first_16 ⟨by decide, by decide⟩) rfl ?_
    refine lv_iconst (v := 1) hx hb d_T_first_19 (by decide) ?_
    refine rd_run (c_V (As := [.int (nI c), .int (nI (cur σ c)), .int 1]) (rest := []) hx hb hml hl.1 hown hT hK hP (c_T_wordAt l g t σ c (cur σ c) 1 s.heap.size (by omega) (by first | decide | assumption | exact cur_lt _ _) (by decide)) kw_T_wordAt w775 w777 selp_T_wordAt w8 hd_T_wordAt rfl rfl ⟨by decide, by decide⟩ (tw_t) rfl rfl rfl (Nat.le_of_ble_eq_true rfl) d_T_first_20 ⟨by decide, by decide⟩) rfl ?_
    exact rd_iret hx hb hr hlocks (by first | contradiction | (simp [fiI, q1]; done)) d_T_first_23
  · skip
    refine lv_iconst (v := 0) hx hb d_T_first_8 (by decide) ?_
    refine lv_goto (tgt := 23) hx hb d_T_first_9 (by decide) ?_
    exact rd_iret hx hb hr hlocks (by first | contradiction | (simp [fiI, q1]; done)) d_T_first_23
set_option maxHeartbeats 4000000 in
set_option maxRecDepth 100000 in
theorem c_T_seen (l : Launch) (g : GG) (t : Nat) (σ : SG) (c : Nat) (sz : Nat) (hc : c < 4000) : Met l y_T_seen (k_T_seen :: TT) { frames := 3, cells := 0, slots := 0, locals := 67 } (Pm g [.ref t, .int (nI c)] sz (tw g t σ)) (Qrd (some (.int (seI σ c)))) 0 0 (nofree) := by
  refine met_of (by decide) (Nat.le_of_ble_eq_true rfl) ?_
  intro pr en s mi below meth co hx hb hr hml hown hlocks hnm hT hsz hP hK ls hl
  have hl : lv_has ls 2 [(0, .ref t), (1, .int (nI c))] := hl
  refine lv_aload_n hx hb d_T_seen_0 rfl (lv_at hl 0 rfl) ?_
  refine lv_iload_n hx hb d_T_seen_1 rfl (lv_at hl 1 rfl) ?_
  refine lv_aload_n hx hb d_T_seen_2 rfl (lv_at hl 0 rfl) ?_
  refine lv_iload_n hx hb d_T_seen_3 rfl (lv_at hl 1 rfl) ?_
  refine rd_run (c_V (As := [.int (nI c)]) (rest := [.int (nI c), .ref t]) hx hb hml hl.1 hown hT hK hP (c_T_current l g t σ c s.heap.size hc) kw_T_current w767 w769 selp_T_current w8 hd_T_current rfl rfl ⟨by decide, by decide⟩ (tw_t) rfl rfl rfl (Nat.le_of_ble_eq_true rfl) d_T_seen_4 ⟨by decide, by decide⟩) rfl ?_
  refine lv_iconst (v := 2) hx hb d_T_seen_7 (by decide) ?_
  refine rd_run (c_V (As := [.int (nI c), .int (nI (cur σ c)), .int 2]) (rest := []) hx hb hml hl.1 hown hT hK hP (c_T_wordAt l g t σ c (cur σ c) 2 s.heap.size (by omega) (by first | decide | assumption | exact cur_lt _ _) (by decide)) kw_T_wordAt w775 w777 selp_T_wordAt w8 hd_T_wordAt rfl rfl ⟨by decide, by decide⟩ (tw_t) rfl rfl rfl (Nat.le_of_ble_eq_true rfl) d_T_seen_8 ⟨by decide, by decide⟩) rfl ?_
  exact rd_iret hx hb hr hlocks (rfl) d_T_seen_11
set_option maxHeartbeats 4000000 in
set_option maxRecDepth 100000 in
theorem c_T_greatest (l : Launch) (g : GG) (t : Nat) (σ : SG) (d : Nat) (sz : Nat) (hd2 : d < 200) : Met l y_T_greatest (k_T_greatest :: TT) { frames := 0, cells := 0, slots := 0, locals := 0 } (Pm g [.ref t, .int (nI d)] sz (tw g t σ)) (Qrd (some (.int (nI (gre σ d))))) 0 0 (nofree) := by
  refine met_of (by decide) (Nat.le_of_ble_eq_true rfl) ?_
  intro pr en s mi below meth co hx hb hr hml hown hlocks hnm hT hsz hP hK ls hl
  have hl : lv_has ls 3 [(0, .ref t), (1, .int (nI d))] := hl
  refine lv_sipush (v := 3000) hx hb d_T_greatest_0 (by decide) ?_
  refine lv_istore_n (lv' := [(2, .int 3000), (0, .ref t), (1, .int (nI d))]) hx hb d_T_greatest_3 rfl hl (by decide) rfl (fun ls hl => ?_)
  refine W.rep (α := Array Slot × Nat) (fun (ls, k) => k) (fun (ls, k) => lv_has ls 3 [(0, .ref t), (1, .int (nI d)), (2, .int (nI k))] ∧ k ≤ 3000 ∧ grF σ d 3000 = grF σ d k) (fun (ls, k) => s.heap) (fun (ls, k) => []) (fun (ls, k) => F0 mi 4 ls []) ?_ (ls, 3000) ⟨lv_sub hl [1, 2, 0] rfl, by omega, rfl⟩
  rintro ⟨ls, k⟩ ⟨hl, hi1, hi2⟩ ih
  dsimp only at hl hi1 hi2 ih ⊢
  refine lv_iload_n hx hb d_T_greatest_4 rfl (lv_at hl 2 rfl) ?_
  refine lv_if_le (tgt := 29) hx hb d_T_greatest_5 (by decide) (fun c1 => ?_) (fun c1 => ?_)
  · skip
    have hk0 : k = 0 := by rcases Nat.eq_zero_or_pos k with h | h; exact h; exact absurd c1 (nI_nle h (by omega))
    subst hk0
    refine lv_iload_n hx hb d_T_greatest_29 rfl (lv_at hl 2 rfl) ?_
    exact rd_iret hx hb hr hlocks (by first | (unfold gre; rw [hi2]; rfl) | (unfold gre; rw [hi2]; cases k with | zero => rfl | succ k => exact congrArg nI (if_neg c2).symm)) d_T_greatest_30
  · skip
    refine lv_aload_n hx hb d_T_greatest_8 rfl (lv_at hl 0 rfl) ?_
    refine m_get (ci := 7) (v := .ref (t + 8)) hx hb hT in_T hown hK hP (tw_t) rfl 10 (by decide) (hT _ w682) (fun _ h9 => h9) rfl d_T_greatest_9 ?_
    refine lv_sipush (v := 3001) hx hb d_T_greatest_12 (by decide) ?_
    refine lv_iload_n hx hb d_T_greatest_15 rfl (lv_at hl 1 rfl) ?_
    refine lv_imul hx hb d_T_greatest_16 ?_
    refine lv_iload_n hx hb d_T_greatest_17 rfl (lv_at hl 2 rfl) ?_
    refine lv_iadd hx hb d_T_greatest_18 ?_
    refine m_zald hx hb hK hP 2 (tw_8) rfl (j := 3001 * d + k) (ixd d k) (by omega) (by decide) d_T_greatest_19 ?_
    refine lv_if_ne (tgt := 29) hx hb d_T_greatest_20 (by decide) (fun c2 => ?_) (fun c2 => ?_)
    · skip
      refine lv_iload_n hx hb d_T_greatest_29 rfl (lv_at hl 2 rfl) ?_
      exact rd_iret hx hb hr hlocks (by first | (unfold gre; rw [hi2]; rfl) | (unfold gre; rw [hi2]; cases k with | zero => rfl | succ k => exact congrArg nI (if_neg c2).symm)) d_T_greatest_30
    · skip
      obtain ⟨k, rfl⟩ : ∃ j, k = j + 1 := ⟨k - 1, by rcases Nat.eq_zero_or_pos k with h | h; exact absurd (by rw [h]; decide) c1; omega⟩
      have hrec : grF σ d (k + 1) = grF σ d k := if_pos c2
      refine lv_iinc (v := nI k) (lv' := [(2, .int (nI k)), (0, .ref t), (1, .int (nI d))]) hx hb d_T_greatest_23 hl (k := 2) rfl (pk_m1 k) (by decide) rfl (fun ls hl => ?_)
      refine lv_goto (tgt := 4) hx hb d_T_greatest_26 (by decide) ?_
      exact ih (_, k) ⟨lv_sub hl [1, 2, 0] rfl, by omega, by rw [hi2, hrec]⟩ (by omega)
theorem ixd1 (d k : Nat) : (3001 : Int32) * nI d + nI k + 1 = nI (3001 * d + (k + 1)) := by
  rw [ixd, nI_1]; rfl
theorem ixd2 (d k : Nat) : (3001 : Int32) * nI d + nI (k + 1) - 1 = nI (3001 * d + k) := by
  rw [ixd]; exact nI_pred (3001 * d + k)
theorem ge_of {a b : Nat} (h : nI a ≤ nI b) (ha : a < 2 ^ 31) (hb : b < 2 ^ 31) : a ≤ b := (nI_leI ha hb).mp h
theorem lt_of {a b : Nat} (h : nI a < nI b) (ha : a < 2 ^ 31) (hb : b < 2 ^ 31) : a < b := (nI_ltI ha hb).mp h
set_option maxHeartbeats 4000000 in
set_option maxRecDepth 100000 in
theorem c_T_complete (l : Launch) (g : GG) (t : Nat) (σ : SG) (d : Nat) (sz : Nat) (hd2 : d < 200) : Met l y_T_complete (k_T_complete :: TT) { frames := 0, cells := 0, slots := 0, locals := 0 } (Pm g [.ref t, .int (nI d)] sz (tw g t σ)) (Qrd (some (.int (nI (cmp σ d))))) 0 0 (nofree) := by
  refine met_of (by decide) (Nat.le_of_ble_eq_true rfl) ?_
  intro pr en s mi below meth co hx hb hr hml hown hlocks hnm hT hsz hP hK ls hl
  have hl : lv_has ls 3 [(0, .ref t), (1, .int (nI d))] := hl
  refine lv_iconst (v := 0) hx hb d_T_complete_0 (by decide) ?_
  refine lv_istore_n (lv' := [(2, .int 0), (0, .ref t), (1, .int (nI d))]) hx hb d_T_complete_1 rfl hl (by decide) rfl (fun ls hl => ?_)
  refine W.rep (α := Array Slot × Nat) (fun (ls, k) => 3000 - k) (fun (ls, k) => lv_has ls 3 [(0, .ref t), (1, .int (nI d)), (2, .int (nI k))] ∧ k ≤ 3000 ∧ cpF σ d 3000 0 = cpF σ d (3000 - k) k) (fun (ls, k) => s.heap) (fun (ls, k) => []) (fun (ls, k) => F0 mi 2 ls []) ?_ (ls, 0) ⟨lv_sub hl [1, 2, 0] rfl, by omega, rfl⟩
  rintro ⟨ls, k⟩ ⟨hl, hi1, hi2⟩ ih
  dsimp only at hl hi1 hi2 ih ⊢
  refine lv_iload_n hx hb d_T_complete_2 rfl (lv_at hl 2 rfl) ?_
  refine lv_sipush (v := 3000) hx hb d_T_complete_3 (by decide) ?_
  refine lv_icmp_ge (tgt := 32) hx hb d_T_complete_6 (by decide) (fun c1 => ?_) (fun c1 => ?_)
  · skip
    have hk0 : 3000 ≤ k := ge_of (a := 3000) c1 (by decide) (by omega)
    have hk1 : k = 3000 := by omega
    refine lv_iload_n hx hb d_T_complete_32 rfl (lv_at hl 2 rfl) ?_
    exact rd_iret hx hb hr hlocks (by first | (unfold cmp; rw [hi2, hrec]) | (unfold cmp; rw [hi2, hk1]; rfl)) d_T_complete_33
  · skip
    have hk0 : ¬ 3000 ≤ k := fun h => c1 (nI_le (a := 3000) h (by omega))
    refine lv_aload_n hx hb d_T_complete_9 rfl (lv_at hl 0 rfl) ?_
    refine m_get (ci := 7) (v := .ref (t + 8)) hx hb hT in_T hown hK hP (tw_t) rfl 10 (by decide) (hT _ w682) (fun _ h9 => h9) rfl d_T_complete_10 ?_
    refine lv_sipush (v := 3001) hx hb d_T_complete_13 (by decide) ?_
    refine lv_iload_n hx hb d_T_complete_16 rfl (lv_at hl 1 rfl) ?_
    refine lv_imul hx hb d_T_complete_17 ?_
    refine lv_iload_n hx hb d_T_complete_18 rfl (lv_at hl 2 rfl) ?_
    refine lv_iadd hx hb d_T_complete_19 ?_
    refine lv_iconst (v := 1) hx hb d_T_complete_20 (by decide) ?_
    refine lv_iadd hx hb d_T_complete_21 ?_
    refine m_zald hx hb hK hP 2 (tw_8) rfl (j := 3001 * d + (k + 1)) (ixd1 d k) (by omega) (by decide) d_T_complete_22 ?_
    refine lv_if_eq (tgt := 32) hx hb d_T_complete_23 (by decide) (fun c2 => ?_) (fun c2 => ?_)
    · skip
      have hrec : cpF σ d (3000 - k) k = k := by obtain ⟨f, hf⟩ : ∃ f, 3000 - k = f + 1 := ⟨3000 - k - 1, by omega⟩; rw [hf]; exact if_pos c2
      refine lv_iload_n hx hb d_T_complete_32 rfl (lv_at hl 2 rfl) ?_
      exact rd_iret hx hb hr hlocks (by first | (unfold cmp; rw [hi2, hrec]) | (unfold cmp; rw [hi2, hk1]; rfl)) d_T_complete_33
    · skip
      have hrec : cpF σ d (3000 - k) k = cpF σ d (3000 - (k + 1)) (k + 1) := by obtain ⟨f, hf⟩ : ∃ f, 3000 - k = f + 1 := ⟨3000 - k - 1, by omega⟩; rw [hf, show 3000 - (k + 1) = f by omega]; exact if_neg c2
      refine lv_iinc (v := nI (k + 1)) (lv' := [(2, .int (nI (k + 1))), (0, .ref t), (1, .int (nI d))]) hx hb d_T_complete_26 hl (k := 2) rfl (nI_1 k) (by decide) rfl (fun ls hl => ?_)
      refine lv_goto (tgt := 2) hx hb d_T_complete_29 (by decide) ?_
      exact ih (_, k + 1) ⟨lv_sub hl [1, 2, 0] rfl, by omega, by rw [hi2, hrec]⟩ (by omega)
set_option maxHeartbeats 4000000 in
set_option maxRecDepth 100000 in
theorem c_T_marks (l : Launch) (g : GG) (t : Nat) (σ : SG) (d : Nat) (sz : Nat) (hd2 : d < 200) : Met l y_T_marks (k_T_marks :: TT) { frames := 0, cells := 0, slots := 0, locals := 0 } (Pm g [.ref t, .int (nI d)] sz (tw g t σ)) (Qrd (some (.int (nI (mkF σ d 3000))))) 0 0 (nofree) := by
  refine met_of (by decide) (Nat.le_of_ble_eq_true rfl) ?_
  intro pr en s mi below meth co hx hb hr hml hown hlocks hnm hT hsz hP hK ls hl
  have hl : lv_has ls 4 [(0, .ref t), (1, .int (nI d))] := hl
  refine lv_iconst (v := 0) hx hb d_T_marks_0 (by decide) ?_
  refine lv_istore_n (lv' := [(2, .int 0), (0, .ref t), (1, .int (nI d))]) hx hb d_T_marks_1 rfl hl (by decide) rfl (fun ls hl => ?_)
  refine lv_iconst (v := 1) hx hb d_T_marks_2 (by decide) ?_
  refine lv_istore_n (lv' := [(3, .int 1), (2, .int 0), (0, .ref t), (1, .int (nI d))]) hx hb d_T_marks_3 rfl hl (by decide) rfl (fun ls hl => ?_)
  refine W.rep (α := Array Slot × Nat) (fun (ls, k) => 3000 - k) (fun (ls, k) => lv_has ls 4 [(0, .ref t), (1, .int (nI d)), (2, .int (nI (mkF σ d k))), (3, .int (nI (k + 1)))] ∧ k ≤ 3000) (fun (ls, k) => s.heap) (fun (ls, k) => []) (fun (ls, k) => F0 mi 4 ls []) ?_ (ls, 0) ⟨lv_sub hl [2, 3, 1, 0] rfl, by omega⟩
  rintro ⟨ls, k⟩ ⟨hl, hi1⟩ ih
  dsimp only at hl hi1 ih ⊢
  refine lv_iload_n hx hb d_T_marks_4 rfl (lv_at hl 3 rfl) ?_
  refine lv_sipush (v := 3000) hx hb d_T_marks_5 (by decide) ?_
  refine lv_icmp_gt (tgt := 40) hx hb d_T_marks_8 (by decide) (fun c1 => ?_) (fun c1 => ?_)
  · skip
    have hk0 : 3000 < k + 1 := lt_of (a := 3000) c1 (by decide) (by omega)
    have hk1 : k = 3000 := by omega
    subst hk1
    refine lv_iload_n hx hb d_T_marks_40 rfl (lv_at hl 2 rfl) ?_
    exact rd_iret hx hb hr hlocks (rfl) d_T_marks_41
  · skip
    have hk0 : k < 3000 := by rcases Nat.lt_or_ge k 3000 with h | h; exact h; exact absurd (nI_lt (a := 3000) (b := k + 1) (by omega) (by omega)) c1
    refine lv_aload_n hx hb d_T_marks_11 rfl (lv_at hl 0 rfl) ?_
    refine m_get (ci := 7) (v := .ref (t + 8)) hx hb hT in_T hown hK hP (tw_t) rfl 10 (by decide) (hT _ w682) (fun _ h9 => h9) rfl d_T_marks_12 ?_
    refine lv_sipush (v := 3001) hx hb d_T_marks_15 (by decide) ?_
    refine lv_iload_n hx hb d_T_marks_18 rfl (lv_at hl 1 rfl) ?_
    refine lv_imul hx hb d_T_marks_19 ?_
    refine lv_iload_n hx hb d_T_marks_20 rfl (lv_at hl 3 rfl) ?_
    refine lv_iadd hx hb d_T_marks_21 ?_
    refine m_zald hx hb hK hP 2 (tw_8) rfl (j := 3001 * d + (k + 1)) (ixd d (k + 1)) (by omega) (by decide) d_T_marks_22 ?_
    refine lv_if_eq (tgt := 32) hx hb d_T_marks_23 (by decide) (fun c2 => ?_) (fun c2 => ?_)
    · skip
      have hrec : mkF σ d (k + 1) = mkF σ d k := if_pos c2
      refine lv_iload_n hx hb d_T_marks_32 rfl (lv_at hl 2 rfl) ?_
      refine lv_istore_n (lv' := [(2, .int (nI (mkF σ d k))), (0, .ref t), (1, .int (nI d)), (3, .int (nI (k + 1)))]) hx hb d_T_marks_33 rfl hl (by decide) rfl (fun ls hl => ?_)
      refine lv_iinc (v := nI (k + 1 + 1)) (lv' := [(3, .int (nI (k + 1 + 1))), (2, .int (nI (mkF σ d k))), (0, .ref t), (1, .int (nI d))]) hx hb d_T_marks_34 hl (k := 3) rfl (nI_1 (k + 1)) (by decide) rfl (fun ls hl => ?_)
      refine lv_goto (tgt := 4) hx hb d_T_marks_37 (by decide) ?_
      exact ih (_, k + 1) ⟨by rw [hrec]; exact lv_sub hl [2, 3, 1, 0] rfl, by omega⟩ (by omega)
    · skip
      have hrec : mkF σ d (k + 1) = mkF σ d k + 1 := if_neg c2
      refine lv_iload_n hx hb d_T_marks_26 rfl (lv_at hl 2 rfl) ?_
      refine lv_iconst (v := 1) hx hb d_T_marks_27 (by decide) ?_
      refine lv_iadd hx hb d_T_marks_28 ?_
      rw [show ((nI (mkF σ d k)) + 1) = nI (mkF σ d k + 1) from nI_1 _]
      refine lv_goto (tgt := 33) hx hb d_T_marks_29 (by decide) ?_
      refine lv_istore_n (lv' := [(2, .int (nI (mkF σ d k + 1))), (0, .ref t), (1, .int (nI d)), (3, .int (nI (k + 1)))]) hx hb d_T_marks_33 rfl hl (by decide) rfl (fun ls hl => ?_)
      refine lv_iinc (v := nI (k + 1 + 1)) (lv' := [(3, .int (nI (k + 1 + 1))), (2, .int (nI (mkF σ d k + 1))), (0, .ref t), (1, .int (nI d))]) hx hb d_T_marks_34 hl (k := 3) rfl (nI_1 (k + 1)) (by decide) rfl (fun ls hl => ?_)
      refine lv_goto (tgt := 4) hx hb d_T_marks_37 (by decide) ?_
      exact ih (_, k + 1) ⟨by rw [hrec]; exact lv_sub hl [2, 3, 1, 0] rfl, by omega⟩ (by omega)
set_option maxHeartbeats 4000000 in
set_option maxRecDepth 100000 in
theorem c_T_runs (l : Launch) (g : GG) (t : Nat) (σ : SG) (d : Nat) (sz : Nat) (hd2 : d < 200) : Met l y_T_runs (k_T_runs :: TT) { frames := 0, cells := 0, slots := 0, locals := 0 } (Pm g [.ref t, .int (nI d)] sz (tw g t σ)) (Qrd (some (.int (nI (rnF σ d 3000))))) 0 0 (nofree) := by
  refine met_of (by decide) (Nat.le_of_ble_eq_true rfl) ?_
  intro pr en s mi below meth co hx hb hr hml hown hlocks hnm hT hsz hP hK ls hl
  have hl : lv_has ls 4 [(0, .ref t), (1, .int (nI d))] := hl
  refine lv_iconst (v := 0) hx hb d_T_runs_0 (by decide) ?_
  refine lv_istore_n (lv' := [(2, .int 0), (0, .ref t), (1, .int (nI d))]) hx hb d_T_runs_1 rfl hl (by decide) rfl (fun ls hl => ?_)
  refine lv_iconst (v := 1) hx hb d_T_runs_2 (by decide) ?_
  refine lv_istore_n (lv' := [(3, .int 1), (2, .int 0), (0, .ref t), (1, .int (nI d))]) hx hb d_T_runs_3 rfl hl (by decide) rfl (fun ls hl => ?_)
  refine W.rep (α := Array Slot × Nat) (fun (ls, k) => 3000 - k) (fun (ls, k) => lv_has ls 4 [(0, .ref t), (1, .int (nI d)), (2, .int (nI (rnF σ d k))), (3, .int (nI (k + 1)))] ∧ k ≤ 3000) (fun (ls, k) => s.heap) (fun (ls, k) => []) (fun (ls, k) => F0 mi 4 ls []) ?_ (ls, 0) ⟨lv_sub hl [2, 3, 1, 0] rfl, by omega⟩
  rintro ⟨ls, k⟩ ⟨hl, hi1⟩ ih
  dsimp only at hl hi1 ih ⊢
  refine lv_iload_n hx hb d_T_runs_4 rfl (lv_at hl 3 rfl) ?_
  refine lv_sipush (v := 3000) hx hb d_T_runs_5 (by decide) ?_
  refine lv_icmp_gt (tgt := 57) hx hb d_T_runs_8 (by decide) (fun c1 => ?_) (fun c1 => ?_)
  · skip
    have hk0 : 3000 < k + 1 := lt_of (a := 3000) c1 (by decide) (by omega)
    have hk1 : k = 3000 := by omega
    subst hk1
    refine lv_iload_n hx hb d_T_runs_57 rfl (lv_at hl 2 rfl) ?_
    exact rd_iret hx hb hr hlocks (rfl) d_T_runs_58
  · skip
    have hk0 : k < 3000 := by rcases Nat.lt_or_ge k 3000 with h | h; exact h; exact absurd (nI_lt (a := 3000) (b := k + 1) (by omega) (by omega)) c1
    refine lv_aload_n hx hb d_T_runs_11 rfl (lv_at hl 0 rfl) ?_
    refine m_get (ci := 7) (v := .ref (t + 8)) hx hb hT in_T hown hK hP (tw_t) rfl 10 (by decide) (hT _ w682) (fun _ h9 => h9) rfl d_T_runs_12 ?_
    refine lv_sipush (v := 3001) hx hb d_T_runs_15 (by decide) ?_
    refine lv_iload_n hx hb d_T_runs_18 rfl (lv_at hl 1 rfl) ?_
    refine lv_imul hx hb d_T_runs_19 ?_
    refine lv_iload_n hx hb d_T_runs_20 rfl (lv_at hl 3 rfl) ?_
    refine lv_iadd hx hb d_T_runs_21 ?_
    refine m_zald hx hb hK hP 2 (tw_8) rfl (j := 3001 * d + (k + 1)) (ixd d (k + 1)) (by omega) (by decide) d_T_runs_22 ?_
    refine lv_if_eq (tgt := 49) hx hb d_T_runs_23 (by decide) (fun c2 => ?_) (fun c2 => ?_)
    · skip
      have hrec : rnF σ d (k + 1) = rnF σ d k := if_neg (fun h => h.1 c2)
      refine lv_iload_n hx hb d_T_runs_49 rfl (lv_at hl 2 rfl) ?_
      refine lv_istore_n (lv' := [(2, .int (nI (rnF σ d k))), (0, .ref t), (1, .int (nI d)), (3, .int (nI (k + 1)))]) hx hb d_T_runs_50 rfl hl (by decide) rfl (fun ls hl => ?_)
      refine lv_iinc (v := nI (k + 1 + 1)) (lv' := [(3, .int (nI (k + 1 + 1))), (2, .int (nI (rnF σ d k))), (0, .ref t), (1, .int (nI d))]) hx hb d_T_runs_51 hl (k := 3) rfl (nI_1 (k + 1)) (by decide) rfl (fun ls hl => ?_)
      refine lv_goto (tgt := 4) hx hb d_T_runs_54 (by decide) ?_
      exact ih (_, k + 1) ⟨by rw [hrec]; exact lv_sub hl [2, 3, 1, 0] rfl, by omega⟩ (by omega)
    · skip
      refine lv_aload_n hx hb d_T_runs_26 rfl (lv_at hl 0 rfl) ?_
      refine m_get (ci := 7) (v := .ref (t + 8)) hx hb hT in_T hown hK hP (tw_t) rfl 10 (by decide) (hT _ w682) (fun _ h9 => h9) rfl d_T_runs_27 ?_
      refine lv_sipush (v := 3001) hx hb d_T_runs_30 (by decide) ?_
      refine lv_iload_n hx hb d_T_runs_33 rfl (lv_at hl 1 rfl) ?_
      refine lv_imul hx hb d_T_runs_34 ?_
      refine lv_iload_n hx hb d_T_runs_35 rfl (lv_at hl 3 rfl) ?_
      refine lv_iadd hx hb d_T_runs_36 ?_
      refine lv_iconst (v := 1) hx hb d_T_runs_37 (by decide) ?_
      refine lv_isub hx hb d_T_runs_38 ?_
      refine m_zald hx hb hK hP 2 (tw_8) rfl (j := 3001 * d + k) (ixd2 d k) (by omega) (by decide) d_T_runs_39 ?_
      refine lv_if_ne (tgt := 49) hx hb d_T_runs_40 (by decide) (fun c3 => ?_) (fun c3 => ?_)
      · skip
        have hrec : rnF σ d (k + 1) = rnF σ d k := if_neg (fun h => c3 h.2)
        refine lv_iload_n hx hb d_T_runs_49 rfl (lv_at hl 2 rfl) ?_
        refine lv_istore_n (lv' := [(2, .int (nI (rnF σ d k))), (0, .ref t), (1, .int (nI d)), (3, .int (nI (k + 1)))]) hx hb d_T_runs_50 rfl hl (by decide) rfl (fun ls hl => ?_)
        refine lv_iinc (v := nI (k + 1 + 1)) (lv' := [(3, .int (nI (k + 1 + 1))), (2, .int (nI (rnF σ d k))), (0, .ref t), (1, .int (nI d))]) hx hb d_T_runs_51 hl (k := 3) rfl (nI_1 (k + 1)) (by decide) rfl (fun ls hl => ?_)
        refine lv_goto (tgt := 4) hx hb d_T_runs_54 (by decide) ?_
        exact ih (_, k + 1) ⟨by rw [hrec]; exact lv_sub hl [2, 3, 1, 0] rfl, by omega⟩ (by omega)
      · skip
        have hrec : rnF σ d (k + 1) = rnF σ d k + 1 := if_pos ⟨c2, c3⟩
        refine lv_iload_n hx hb d_T_runs_43 rfl (lv_at hl 2 rfl) ?_
        refine lv_iconst (v := 1) hx hb d_T_runs_44 (by decide) ?_
        refine lv_iadd hx hb d_T_runs_45 ?_
        rw [show ((nI (rnF σ d k)) + 1) = nI (rnF σ d k + 1) from nI_1 _]
        refine lv_goto (tgt := 50) hx hb d_T_runs_46 (by decide) ?_
        refine lv_istore_n (lv' := [(2, .int (nI (rnF σ d k + 1))), (0, .ref t), (1, .int (nI d)), (3, .int (nI (k + 1)))]) hx hb d_T_runs_50 rfl hl (by decide) rfl (fun ls hl => ?_)
        refine lv_iinc (v := nI (k + 1 + 1)) (lv' := [(3, .int (nI (k + 1 + 1))), (2, .int (nI (rnF σ d k + 1))), (0, .ref t), (1, .int (nI d))]) hx hb d_T_runs_51 hl (k := 3) rfl (nI_1 (k + 1)) (by decide) rfl (fun ls hl => ?_)
        refine lv_goto (tgt := 4) hx hb d_T_runs_54 (by decide) ?_
        exact ih (_, k + 1) ⟨by rw [hrec]; exact lv_sub hl [2, 3, 1, 0] rfl, by omega⟩ (by omega)
set_option maxHeartbeats 4000000 in
set_option maxRecDepth 100000 in
theorem c_T_revokedAt (l : Launch) (g : GG) (t : Nat) (σ : SG) (d c e2 : Nat) (sz : Nat) (hd2 : d < 200) (hc : c < 4000) (he : σ 6 c = nI e2) (he2 : e2 ≤ 3000) : Met l y_T_revokedAt (k_T_revokedAt :: TT) { frames := 0, cells := 0, slots := 0, locals := 0 } (Pm g [.ref t, .int (nI d), .int (nI c)] sz (tw g t σ)) (Qrd (some (.int (rvI σ d e2)))) 0 0 (nofree) := by
  refine met_of (by decide) (Nat.le_of_ble_eq_true rfl) ?_
  intro pr en s mi below meth co hx hb hr hml hown hlocks hnm hT hsz hP hK ls hl
  have hl : lv_has ls 3 [(0, .ref t), (1, .int (nI d)), (2, .int (nI c))] := hl
  refine lv_aload_n hx hb d_T_revokedAt_0 rfl (lv_at hl 0 rfl) ?_
  refine m_get (ci := 7) (v := .ref (t + 6)) hx hb hT in_T hown hK hP (tw_t) rfl 7 (by decide) (hT _ w679) (fun _ h9 => h9) rfl d_T_revokedAt_1 ?_
  refine lv_iload_n hx hb d_T_revokedAt_4 rfl (lv_at hl 2 rfl) ?_
  refine m_iald hx hb hK hP 0 (tw_6) rfl (j := c) (rfl) (by omega) (by decide) d_T_revokedAt_5 ?_
  rw [show (σ 6 (c)) = nI e2 from he]
  refine lv_if_le (tgt := 33) hx hb d_T_revokedAt_6 (by decide) (fun q1 => ?_) (fun q1 => ?_)
  · skip
    refine lv_iconst (v := 0) hx hb d_T_revokedAt_33 (by decide) ?_
    exact rd_zret hx hb hr hlocks (by first | contradiction | (simp [rvI, q1, hs]; done)) (by first | exact Or.inl rfl | exact Or.inr rfl | assumption | exact smI_01 _ _ _ _ _ _) d_T_revokedAt_34
  · skip
    refine lv_aload_n hx hb d_T_revokedAt_9 rfl (lv_at hl 0 rfl) ?_
    refine m_get (ci := 7) (v := .ref (t + 8)) hx hb hT in_T hown hK hP (tw_t) rfl 10 (by decide) (hT _ w682) (fun _ h9 => h9) rfl d_T_revokedAt_10 ?_
    refine lv_sipush (v := 3001) hx hb d_T_revokedAt_13 (by decide) ?_
    refine lv_iload_n hx hb d_T_revokedAt_16 rfl (lv_at hl 1 rfl) ?_
    refine lv_imul hx hb d_T_revokedAt_17 ?_
    refine lv_aload_n hx hb d_T_revokedAt_18 rfl (lv_at hl 0 rfl) ?_
    refine m_get (ci := 7) (v := .ref (t + 6)) hx hb hT in_T hown hK hP (tw_t) rfl 7 (by decide) (hT _ w679) (fun _ h9 => h9) rfl d_T_revokedAt_19 ?_
    refine lv_iload_n hx hb d_T_revokedAt_22 rfl (lv_at hl 2 rfl) ?_
    refine m_iald hx hb hK hP 0 (tw_6) rfl (j := c) (rfl) (by omega) (by decide) d_T_revokedAt_23 ?_
    rw [show (σ 6 (c)) = nI e2 from he]
    refine lv_iadd hx hb d_T_revokedAt_24 ?_
    refine m_zald hx hb hK hP 2 (tw_8) rfl (j := 3001 * d + e2) (ixd d e2) (by omega) (by decide) d_T_revokedAt_25 ?_
    refine lv_if_eq (tgt := 33) hx hb d_T_revokedAt_26 (by decide) (fun q2 => ?_) (fun q2 => ?_)
    · skip
      refine lv_iconst (v := 0) hx hb d_T_revokedAt_33 (by decide) ?_
      exact rd_zret hx hb hr hlocks (by first | contradiction | (simp [rvI, q1, q2, hs]; done)) (by first | exact Or.inl rfl | exact Or.inr rfl | assumption | exact smI_01 _ _ _ _ _ _) d_T_revokedAt_34
    · skip
      refine lv_iconst (v := 1) hx hb d_T_revokedAt_29 (by decide) ?_
      refine lv_goto (tgt := 34) hx hb d_T_revokedAt_30 (by decide) ?_
      exact rd_zret hx hb hr hlocks (by first | contradiction | (simp [rvI, q1, q2, hs]; done)) (by first | exact Or.inl rfl | exact Or.inr rfl | assumption | exact smI_01 _ _ _ _ _ _) d_T_revokedAt_34
theorem nI_add' (a b : Nat) : nI a + nI b = nI (a + b) := nI_add a b
set_option maxHeartbeats 4000000 in
set_option maxRecDepth 100000 in
theorem c_T_tells (l : Launch) (g : GG) (t : Nat) (σ : SG) (c a n : Nat) (h : Int32) (sz : Nat) (hc : c < 4000) (ha : a + n ≤ 3001) (hn : n ≤ 40) : Met l y_T_tells (k_T_tells :: TT) { frames := 5, cells := 0, slots := 0, locals := 109 } (Pm g [.ref t, .int (nI c), .int (nI a), .int (nI n), .int h] sz (tw g t σ)) (Qrd (some (.int (smI σ c a n h n)))) 0 0 (nofree) := by
  refine met_of (by decide) (Nat.le_of_ble_eq_true rfl) ?_
  intro pr en s mi below meth co hx hb hr hml hown hlocks hnm hT hsz hP hK ls hl
  have hl : lv_has ls 7 [(0, .ref t), (1, .int (nI c)), (2, .int (nI a)), (3, .int (nI n)), (4, .int h)] := hl
  refine W.join (fun x : Int32 => x = smI σ c a n h 0) (f := fun x => F0 mi 33 ls (.int x :: [])) (fun x ex => ?_) (fun hj => ?_)
  · skip
    subst ex
    refine lv_istore (lv' := [(5, .int (smI σ c a n h 0)), (0, .ref t), (1, .int (nI c)), (2, .int (nI a)), (3, .int (nI n)), (4, .int h)]) hx hb d_T_tells_33 hl (by decide) rfl (fun ls hl => ?_)
    refine lv_iconst (v := 0) hx hb d_T_tells_35 (by decide) ?_
    refine lv_istore (lv' := [(6, .int 0), (5, .int (smI σ c a n h 0)), (0, .ref t), (1, .int (nI c)), (2, .int (nI a)), (3, .int (nI n)), (4, .int h)]) hx hb d_T_tells_36 hl (by decide) rfl (fun ls hl => ?_)
    refine W.rep (α := Array Slot × Nat) (fun (ls, k) => n - k) (fun (ls, k) => lv_has ls 7 [(0, .ref t), (1, .int (nI c)), (2, .int (nI a)), (3, .int (nI n)), (4, .int h), (5, .int (smI σ c a n h k)), (6, .int (nI k))] ∧ k ≤ n) (fun (ls, k) => s.heap) (fun (ls, k) => []) (fun (ls, k) => F0 mi 38 ls []) ?_ (ls, 0) ⟨lv_sub hl [2, 3, 4, 5, 6, 1, 0] rfl, by omega⟩
    rintro ⟨ls, k⟩ ⟨hl, hi1⟩ ih
    dsimp only at hl hi1 ih ⊢
    refine lv_iload hx hb d_T_tells_38 (lv_at hl 6 rfl) ?_
    refine lv_iload_n hx hb d_T_tells_40 rfl (lv_at hl 3 rfl) ?_
    refine lv_icmp_ge (tgt := 88) hx hb d_T_tells_41 (by decide) (fun c4 => ?_) (fun c4 => ?_)
    · skip
      have hkn : n ≤ k := ge_of c4 (by omega) (by omega)
      have hkk : k = n := by omega
      subst hkk
      refine lv_iload hx hb d_T_tells_88 (lv_at hl 5 rfl) ?_
      exact rd_zret hx hb hr hlocks (by first | rfl | exact hz.symm) (by first | exact Or.inl rfl | exact Or.inr rfl | assumption | exact smI_01 _ _ _ _ _ _) d_T_tells_90
    · skip
      have hkn : k < n := by rcases Nat.lt_or_ge k n with h9 | h9; exact h9; exact absurd (nI_le h9 (by omega)) c4
      refine lv_iload hx hb d_T_tells_44 (lv_at hl 5 rfl) ?_
      refine lv_if_eq (tgt := 88) hx hb d_T_tells_46 (by decide) (fun c5 => ?_) (fun c5 => ?_)
      · skip
        have hz : smI σ c a n h n = smI σ c a n h k := by rw [c5]; exact smI_0 (fun q => (smI_z.mp c5) ⟨q.1, tlW_le q.2 (by omega)⟩)
        refine lv_iload hx hb d_T_tells_88 (lv_at hl 5 rfl) ?_
        exact rd_zret hx hb hr hlocks (by first | rfl | exact hz.symm) (by first | exact Or.inl rfl | exact Or.inr rfl | assumption | exact smI_01 _ _ _ _ _ _) d_T_tells_90
      · skip
        have c5 := Classical.not_not.mp (fun z => c5 (smI_z.mpr z))
        refine W.join (fun x : Int32 => x = smI σ c a n h (k + 1)) (f := fun x => F0 mi 80 ls (.int x :: [])) (fun x ex => ?_) (fun hj => ?_)
        · skip
          subst ex
          refine lv_istore (lv' := [(5, .int (smI σ c a n h (k + 1))), (0, .ref t), (1, .int (nI c)), (2, .int (nI a)), (3, .int (nI n)), (4, .int h), (6, .int (nI k))]) hx hb d_T_tells_80 hl (by decide) rfl (fun ls hl => ?_)
          refine lv_iinc (v := nI (k + 1)) (lv' := [(6, .int (nI (k + 1))), (5, .int (smI σ c a n h (k + 1))), (0, .ref t), (1, .int (nI c)), (2, .int (nI a)), (3, .int (nI n)), (4, .int h)]) hx hb d_T_tells_82 hl (k := 6) rfl (nI_1 k) (by decide) rfl (fun ls hl => ?_)
          refine lv_goto (tgt := 38) hx hb d_T_tells_85 (by decide) ?_
          exact ih (_, k + 1) ⟨lv_sub hl [2, 3, 4, 5, 6, 1, 0] rfl, by omega⟩ (by omega)
        · skip
          refine lv_aload_n hx hb d_T_tells_49 rfl (lv_at hl 0 rfl) ?_
          refine lv_iload_n hx hb d_T_tells_50 rfl (lv_at hl 1 rfl) ?_
          refine lv_aload_n hx hb d_T_tells_51 rfl (lv_at hl 0 rfl) ?_
          refine lv_iload_n hx hb d_T_tells_52 rfl (lv_at hl 1 rfl) ?_
          refine rd_run (c_V (As := [.int (nI c)]) (rest := [.int (nI c), .ref t]) hx hb hml hl.1 hown hT hK hP (c_T_current l g t σ c s.heap.size hc) kw_T_current w767 w769 selp_T_current w8 hd_T_current rfl rfl ⟨by decide, by decide⟩ (tw_t) rfl rfl rfl (Nat.le_of_ble_eq_true rfl) d_T_tells_53 ⟨by decide, by decide⟩) rfl ?_
          refine lv_iconst (v := 3) hx hb d_T_tells_56 (by decide) ?_
          refine lv_iload hx hb d_T_tells_57 (lv_at hl 6 rfl) ?_
          refine lv_iadd hx hb d_T_tells_59 ?_
          rw [show (3 + (nI k)) = nI (3 + k) from nI_add 3 k]
          refine rd_run (c_V (As := [.int (nI c), .int (nI (cur σ c)), .int (nI (3 + k))]) (rest := []) hx hb hml hl.1 hown hT hK hP (c_T_wordAt l g t σ c (cur σ c) (3 + k) s.heap.size hc (cur_lt _ _) (by omega)) kw_T_wordAt w775 w777 selp_T_wordAt w8 hd_T_wordAt rfl rfl ⟨by decide, by decide⟩ (tw_t) rfl rfl rfl (Nat.le_of_ble_eq_true rfl) d_T_tells_60 ⟨by decide, by decide⟩) rfl ?_
          refine lv_aload_n hx hb d_T_tells_63 rfl (lv_at hl 0 rfl) ?_
          refine m_get (ci := 7) (v := .ref (t + 7)) hx hb hT in_T hown hK hP (tw_t) rfl 8 (by decide) (hT _ w680) (fun _ h9 => h9) rfl d_T_tells_64 ?_
          refine lv_iload_n hx hb d_T_tells_67 rfl (lv_at hl 2 rfl) ?_
          refine lv_iload hx hb d_T_tells_68 (lv_at hl 6 rfl) ?_
          refine lv_iadd hx hb d_T_tells_70 ?_
          refine m_iald hx hb hK hP 0 (tw_7) rfl (j := a + k) (nI_add a k) (by omega) (by decide) d_T_tells_71 ?_
          refine lv_icmp_ne (tgt := 79) hx hb d_T_tells_72 (by decide) (fun c6 => ?_) (fun c6 => ?_)
          · skip
            refine lv_iconst (v := 0) hx hb d_T_tells_79 (by decide) ?_
            exact hj _ (by first | exact (smI_1 ⟨c5.1, tlW_s c5.2 c6⟩).symm | exact (smI_0 (fun q => c6 (q.2 k (by omega)))).symm)
          · skip
            refine lv_iconst (v := 1) hx hb d_T_tells_75 (by decide) ?_
            refine lv_goto (tgt := 80) hx hb d_T_tells_76 (by decide) ?_
            exact hj _ (by first | exact (smI_1 ⟨c5.1, tlW_s c5.2 c6⟩).symm | exact (smI_0 (fun q => c6 (q.2 k (by omega)))).symm)
  · skip
    refine lv_aload_n hx hb d_T_tells_0 rfl (lv_at hl 0 rfl) ?_
    refine lv_iload_n hx hb d_T_tells_1 rfl (lv_at hl 1 rfl) ?_
    refine rd_run (c_V (As := [.int (nI c)]) (rest := []) hx hb hml hl.1 hown hT hK hP (c_T_count l g t σ c s.heap.size hc) kw_T_count w763 w765 selp_T_count w8 hd_T_count rfl rfl ⟨by decide, by decide⟩ (tw_t) rfl rfl rfl (Nat.le_of_ble_eq_true rfl) d_T_tells_2 ⟨by decide, by decide⟩) rfl ?_
    refine lv_iload_n hx hb d_T_tells_5 rfl (lv_at hl 3 rfl) ?_
    refine lv_icmp_ne (tgt := 32) hx hb d_T_tells_6 (by decide) (fun c1 => ?_) (fun c1 => ?_)
    · skip
      have c1 : ¬ cnI σ c = nI n := c1
      refine lv_iconst (v := 0) hx hb d_T_tells_32 (by decide) ?_
      exact hj _ (by first | exact (smI_1 ⟨⟨Classical.not_not.mp c1, Classical.not_not.mp c2, Classical.not_not.mp c3⟩, tlW_0⟩).symm | exact (smI_0 (fun q => c1 q.1.1)).symm | exact (smI_0 (fun q => c2 q.1.2.1)).symm | exact (smI_0 (fun q => c3 q.1.2.2)).symm)
    · skip
      have c1 : ¬ ¬ cnI σ c = nI n := fun z => z c1
      refine lv_aload_n hx hb d_T_tells_9 rfl (lv_at hl 0 rfl) ?_
      refine lv_iload_n hx hb d_T_tells_10 rfl (lv_at hl 1 rfl) ?_
      refine rd_run (c_V (As := [.int (nI c)]) (rest := []) hx hb hml hl.1 hown hT hK hP (c_T_first l g t σ c s.heap.size hc) kw_T_first w783 w785 selp_T_first w8 hd_T_first rfl rfl ⟨by decide, by decide⟩ (tw_t) rfl rfl rfl (Nat.le_of_ble_eq_true rfl) d_T_tells_11 ⟨by decide, by decide⟩) rfl ?_
      refine lv_iload_n hx hb d_T_tells_14 rfl (lv_at hl 2 rfl) ?_
      refine lv_icmp_ne (tgt := 32) hx hb d_T_tells_15 (by decide) (fun c2 => ?_) (fun c2 => ?_)
      · skip
        have c2 : ¬ fiI σ c = nI a := c2
        refine lv_iconst (v := 0) hx hb d_T_tells_32 (by decide) ?_
        exact hj _ (by first | exact (smI_1 ⟨⟨Classical.not_not.mp c1, Classical.not_not.mp c2, Classical.not_not.mp c3⟩, tlW_0⟩).symm | exact (smI_0 (fun q => c1 q.1.1)).symm | exact (smI_0 (fun q => c2 q.1.2.1)).symm | exact (smI_0 (fun q => c3 q.1.2.2)).symm)
      · skip
        have c2 : ¬ ¬ fiI σ c = nI a := fun z => z c2
        refine lv_aload_n hx hb d_T_tells_18 rfl (lv_at hl 0 rfl) ?_
        refine lv_iload_n hx hb d_T_tells_19 rfl (lv_at hl 1 rfl) ?_
        refine rd_run (c_V (As := [.int (nI c)]) (rest := []) hx hb hml hl.1 hown hT hK hP (c_T_seen l g t σ c s.heap.size hc) kw_T_seen w787 w789 selp_T_seen w8 hd_T_seen rfl rfl ⟨by decide, by decide⟩ (tw_t) rfl rfl rfl (Nat.le_of_ble_eq_true rfl) d_T_tells_20 ⟨by decide, by decide⟩) rfl ?_
        refine lv_iload hx hb d_T_tells_23 (lv_at hl 4 rfl) ?_
        refine lv_icmp_ne (tgt := 32) hx hb d_T_tells_25 (by decide) (fun c3 => ?_) (fun c3 => ?_)
        · skip
          have c3 : ¬ seI σ c = h := c3
          refine lv_iconst (v := 0) hx hb d_T_tells_32 (by decide) ?_
          exact hj _ (by first | exact (smI_1 ⟨⟨Classical.not_not.mp c1, Classical.not_not.mp c2, Classical.not_not.mp c3⟩, tlW_0⟩).symm | exact (smI_0 (fun q => c1 q.1.1)).symm | exact (smI_0 (fun q => c2 q.1.2.1)).symm | exact (smI_0 (fun q => c3 q.1.2.2)).symm)
        · skip
          have c3 : ¬ ¬ seI σ c = h := fun z => z c3
          refine lv_iconst (v := 1) hx hb d_T_tells_28 (by decide) ?_
          refine lv_goto (tgt := 33) hx hb d_T_tells_29 (by decide) ?_
          exact hj _ (by first | exact (smI_1 ⟨⟨Classical.not_not.mp c1, Classical.not_not.mp c2, Classical.not_not.mp c3⟩, tlW_0⟩).symm | exact (smI_0 (fun q => c1 q.1.1)).symm | exact (smI_0 (fun q => c2 q.1.2.1)).symm | exact (smI_0 (fun q => c3 q.1.2.2)).symm)
end
section
/-! The reference: what a write is. -/
def atN (n k : Nat) : Nat := if k = n + 3 then 43 else k
def hdI (σ : SG) (c n : Nat) : Int32 := 256 * ((sq σ c (cur σ c) + 1) &&& 255) + nI n
def vlI (σ : SG) (c a n : Nat) (v : Int32) (k : Nat) : Int32 := if k = 0 ∨ k = n + 3 then hdI σ c n else if k = 1 then nI a else if k = 2 then v else σ 7 (a + k - 3)
def wv5 (σ τ : SG) (c a n : Nat) (v : Int32) (k : Nat) : SG := su τ 5 (88 * c + 44 * (1 - cur σ c) + atN n k) (vlI σ c a n v k).toInt16.toInt32
def wl (σ : SG) (c a n : Nat) (v : Int32) : Nat → SG
  | 0 => σ
  | k + 1 => su (wv5 σ (wl σ c a n v k) c a n v k) 4 c ((wl σ c a n v k) 4 c + 1)
theorem wl_r {σ : SG} {c a n : Nat} {v : Int32} (r : Nat) (h4 : r ≠ 4) (h5 : r ≠ 5) : ∀ k, wl σ c a n v k r = σ r
  | 0 => rfl
  | k + 1 => by
    show su (wv5 σ (wl σ c a n v k) c a n v k) 4 c ((wl σ c a n v k) 4 c + 1) r = σ r
    rw [su_kf h4]
    show su (wl σ c a n v k) 5 _ _ r = σ r
    rw [su_kf h5]
    exact wl_r r h4 h5 k
def w0N (σ : SG) (c : Nat) : Nat := if σ 3 c = -1 then 50 else (σ 3 c).toNatClampNeg
def kOK (σ : SG) (c : Nat) : Prop := σ 3 c = -1 ∨ ∃ k, k ≤ 50 ∧ σ 3 c = nI k
theorem nI_m1 {k : Nat} (h : k ≤ 50) : ¬ nI k = -1 := fun z => by
  have h2 := congrArg Int32.toInt z
  rw [nI_toInt (by omega)] at h2
  have : (-1 : Int32).toInt = -1 := by decide
  omega
theorem w0N_a {σ : SG} {c : Nat} (h : σ 3 c = -1) : w0N σ c = 50 := if_pos h
theorem w0N_b {σ : SG} {c : Nat} (hk : kOK σ c) (h : ¬ σ 3 c = -1) : σ 3 c = nI (w0N σ c) ∧ w0N σ c ≤ 50 := by
  rcases hk with hk | ⟨k, hk, e⟩
  · exact absurd hk h
  · unfold w0N
    rw [if_neg h, e, nI_clamp (by omega)]
    exact ⟨rfl, hk⟩
theorem w0N_le {σ : SG} {c : Nat} (hk : kOK σ c) : w0N σ c ≤ 50 := by
  by_cases h : σ 3 c = -1
  · rw [w0N_a h]; omega
  · exact (w0N_b hk h).2
def wrS (σ : SG) (c a n : Nat) (v : Int32) : SG := su (wl σ c a n v (min (n + 4) (w0N σ c))) 3 c (-1)
noncomputable def wtS (σ : SG) (c a n : Nat) (v : Int32) : SG := @ite SG (tl0 σ c a n v ∧ tlW σ c a n) (Classical.propDecidable _) σ (wrS σ c a n v)
theorem wtS_1 {σ : SG} {c a n : Nat} {v : Int32} (h : tl0 σ c a n v ∧ tlW σ c a n) : wtS σ c a n v = σ := if_pos h
theorem wtS_0 {σ : SG} {c a n : Nat} {v : Int32} (h : ¬ (tl0 σ c a n v ∧ tlW σ c a n)) : wtS σ c a n v = wrS σ c a n v := if_neg h
theorem n1cur (σ : SG) (c : Nat) : (1 : Int32) - nI (cur σ c) = nI (1 - cur σ c) := by
  rcases (show cur σ c = 0 ∨ cur σ c = 1 by have := cur_lt σ c; omega) with h | h <;> rw [h] <;> rfl
theorem n2cur (σ : SG) (c : Nat) : (1 : Int32) - nI (1 - cur σ c) = nI (cur σ c) := by
  rcases (show cur σ c = 0 ∨ cur σ c = 1 by have := cur_lt σ c; omega) with h | h <;> rw [h] <;> rfl
theorem atN_lt {n k : Nat} (hn : n ≤ 40) (hk : k < n + 4) : atN n k < 44 := by
  unfold atN
  split <;> omega
theorem ak3 {a k : Nat} (h : 3 ≤ k) : nI a + nI k - 3 = nI (a + k - 3) := by
  rw [nI_add]
  exact pk_sub (a := a + k) (b := 3) (by omega)
set_option maxHeartbeats 4000000 in
set_option maxRecDepth 100000 in
theorem c_T_write (l : Launch) (g : GG) (t : Nat) (σ : SG) (c a n : Nat) (v : Int32) (sz : Nat) (hc : c < 4000) (ha : a + n ≤ 3001) (hn : n ≤ 40) (hk : kOK σ c) : Met l y_T_write (k_T_write :: TT) { frames := 6, cells := 0, slots := 0, locals := 135 } (Pm g [.ref t, .int (nI c), .int (nI a), .int (nI n), .int v] sz (tw g t σ)) (Qm g (tw g t σ) (fun _ : Unit => none) (fun _ M1 => M1 = tw g t (wtS σ c a n v))) 0 0 (mA (tw g t σ) sz) := by
  refine met_of (by decide) (Nat.le_of_ble_eq_true rfl) ?_
  intro pr en s mi below meth co hx hb hr hml hown hlocks hnm hT hsz hP hK ls hl
  have hl : lv_has ls 11 [(0, .ref t), (1, .int (nI c)), (2, .int (nI a)), (3, .int (nI n)), (4, .int v)] := hl
  have hH := HS.start hP
  have hkl := w0N_le hk
  refine lv_aload_n hx hb d_T_write_0 rfl (lv_at hl 0 rfl) ?_
  refine lv_iload_n hx hb d_T_write_1 rfl (lv_at hl 1 rfl) ?_
  refine lv_iload_n hx hb d_T_write_2 rfl (lv_at hl 2 rfl) ?_
  refine lv_iload_n hx hb d_T_write_3 rfl (lv_at hl 3 rfl) ?_
  refine lv_iload hx hb d_T_write_4 (lv_at hl 4 rfl) ?_
  refine rd_run (c_V (As := [.int (nI c), .int (nI a), .int (nI n), .int v]) (rest := []) hx hb hml hl.1 hown hT hK hH.1 (c_T_tells l g t σ c a n v s.heap.size hc ha hn) kw_T_tells w759 w761 selp_T_tells w8 hd_T_tells rfl rfl ⟨by decide, by decide⟩ (tw_t) rfl rfl rfl (Nat.le_of_ble_eq_true rfl) d_T_write_6 ⟨by decide, by decide⟩) rfl ?_
  refine lv_if_eq (tgt := 13) hx hb d_T_write_9 (by decide) (fun c0 => ?_) (fun c0 => ?_)
  · skip
    have c0 := smI_z.mp c0
    refine lv_iconst (v := 1) hx hb d_T_write_13 (by decide) ?_
    refine lv_aload_n hx hb d_T_write_14 rfl (lv_at hl 0 rfl) ?_
    refine lv_iload_n hx hb d_T_write_15 rfl (lv_at hl 1 rfl) ?_
    refine rd_run (c_V (As := [.int (nI c)]) (rest := [.int 1]) hx hb hml hl.1 hown hT hK hH.1 (c_T_current l g t σ c s.heap.size hc) kw_T_current w767 w769 selp_T_current w8 hd_T_current rfl rfl ⟨by decide, by decide⟩ (tw_t) rfl rfl rfl (Nat.le_of_ble_eq_true rfl) d_T_write_16 ⟨by decide, by decide⟩) rfl ?_
    refine lv_isub hx hb d_T_write_19 ?_
    rw [show (1 - (nI (cur σ c))) = nI (1 - cur σ c) from n1cur σ c]
    refine lv_istore (lv' := [(5, .int (nI (1 - cur σ c))), (0, .ref t), (1, .int (nI c)), (2, .int (nI a)), (3, .int (nI n)), (4, .int v)]) hx hb d_T_write_20 hl (by decide) rfl (fun ls hl => ?_)
    refine lv_sipush (v := 256) hx hb d_T_write_22 (by decide) ?_
    refine lv_aload_n hx hb d_T_write_25 rfl (lv_at hl 1 rfl) ?_
    refine lv_iload_n hx hb d_T_write_26 rfl (lv_at hl 2 rfl) ?_
    refine lv_iconst (v := 1) hx hb d_T_write_27 (by decide) ?_
    refine lv_iload hx hb d_T_write_28 (lv_at hl 0 rfl) ?_
    refine lv_isub hx hb d_T_write_30 ?_
    rw [show (1 - (nI (1 - cur σ c))) = nI (cur σ c) from n2cur σ c]
    refine rd_run (c_V (As := [.int (nI c), .int (nI (cur σ c))]) (rest := [.int 256]) hx hb hml hl.1 hown hT hK hH.1 (c_T_sequence l g t σ c (cur σ c) s.heap.size hc (cur_lt _ _)) kw_T_sequence w779 w781 selp_T_sequence w8 hd_T_sequence rfl rfl ⟨by decide, by decide⟩ (tw_t) rfl rfl rfl (Nat.le_of_ble_eq_true rfl) d_T_write_31 ⟨by decide, by decide⟩) rfl ?_
    refine lv_iconst (v := 1) hx hb d_T_write_34 (by decide) ?_
    refine lv_iadd hx hb d_T_write_35 ?_
    refine lv_sipush (v := 255) hx hb d_T_write_36 (by decide) ?_
    refine lv_iand hx hb d_T_write_39 ?_
    refine lv_imul hx hb d_T_write_40 ?_
    refine lv_iload_n hx hb d_T_write_41 rfl (lv_at hl 4 rfl) ?_
    refine lv_iadd hx hb d_T_write_42 ?_
    rw [show ((256 * (((sq σ c (cur σ c)) + 1) &&& 255)) + (nI n)) = hdI σ c n from rfl]
    refine lv_istore (lv' := [(6, .int (hdI σ c n)), (5, .int (nI (1 - cur σ c))), (0, .ref t), (1, .int (nI c)), (2, .int (nI a)), (3, .int (nI n)), (4, .int v)]) hx hb d_T_write_43 hl (by decide) rfl (fun ls hl => ?_)
    refine W.join (fun x : Int32 => x = nI (w0N σ c)) (f := fun x => F0 mi 66 ls (.int x :: [])) (fun x ex => ?_) (fun hj => ?_)
    · skip
      subst ex
      refine lv_istore (lv' := [(7, .int (nI (w0N σ c))), (6, .int (hdI σ c n)), (5, .int (nI (1 - cur σ c))), (0, .ref t), (1, .int (nI c)), (2, .int (nI a)), (3, .int (nI n)), (4, .int v)]) hx hb d_T_write_66 hl (by decide) rfl (fun ls hl => ?_)
      refine lv_iconst (v := 0) hx hb d_T_write_68 (by decide) ?_
      refine lv_istore (lv' := [(8, .int 0), (7, .int (nI (w0N σ c))), (6, .int (hdI σ c n)), (5, .int (nI (1 - cur σ c))), (0, .ref t), (1, .int (nI c)), (2, .int (nI a)), (3, .int (nI n)), (4, .int v)]) hx hb d_T_write_69 hl (by decide) rfl (fun ls hl => ?_)
      refine W.rep (α := Heap × List Loc × Array Slot × Nat) (fun (H, locs, ls, k) => n + 4 - k) (fun (H, locs, ls, k) => lv_has ls 11 [(0, .ref t), (1, .int (nI c)), (2, .int (nI a)), (3, .int (nI n)), (4, .int v), (5, .int (nI (1 - cur σ c))), (6, .int (hdI σ c n)), (7, .int (nI (w0N σ c))), (8, .int (nI k))] ∧ HS g (mA (tw g t σ) s.heap.size) s.heap (tw g t (wl σ c a n v k)) H locs ∧ k ≤ n + 4 ∧ k ≤ w0N σ c) (fun (H, locs, ls, k) => H) (fun (H, locs, ls, k) => locs) (fun (H, locs, ls, k) => F0 mi 71 ls []) ?_ (s.heap, [], ls, 0) ⟨lv_sub hl [4, 5, 6, 7, 8, 3, 2, 1, 0] rfl, hH, by omega, by omega⟩
      rintro ⟨H, locs, ls, k⟩ ⟨hl, hH, hi1, hi2⟩ ih
      dsimp only at hl hH hi1 hi2 ih ⊢
      refine lv_iload hx hb d_T_write_71 (lv_at hl 8 rfl) ?_
      refine lv_iload_n hx hb d_T_write_73 rfl (lv_at hl 3 rfl) ?_
      refine lv_iconst (v := 4) hx hb d_T_write_74 (by decide) ?_
      refine lv_iadd hx hb d_T_write_75 ?_
      rw [show ((nI n) + 4) = nI (n + 4) from nI_add n 4]
      refine lv_icmp_ge (tgt := 192) hx hb d_T_write_76 (by decide) (fun c2 => ?_) (fun c2 => ?_)
      · skip
        have hk2 : min (n + 4) (w0N σ c) = k := by have := ge_of c2 (by omega) (by omega); omega
        refine lv_aload_n hx hb d_T_write_192 rfl (lv_at hl 0 rfl) ?_
        refine m_get (ci := 7) (v := .ref (t + 3)) hx hb hT in_T hown hK hH.1 (tw_t) rfl 4 (by decide) (hT _ w676) (fun _ h9 => h9) rfl d_T_write_193 ?_
        refine lv_iload_n hx hb d_T_write_196 rfl (lv_at hl 1 rfl) ?_
        refine lv_iconst (v := (-1)) hx hb d_T_write_197 (by decide) ?_
        refine m_iast hx hb hK hH 0 (tw_3) rfl (j := c) (rfl) (by omega) (by decide) d_T_write_198 (fun H locs hH hzz => ?_)
        replace hH := tws_3 hH
        exact m_vret hx hb hr hlocks hsz hH (by rw [wtS_0 c0]; unfold wrS; rw [hk2]) d_T_write_199
      · skip
        have hk1 : k < n + 4 := by rcases Nat.lt_or_ge k (n + 4) with h9 | h9; exact h9; exact absurd (nI_le h9 (by omega)) c2
        refine lv_iload hx hb d_T_write_79 (lv_at hl 8 rfl) ?_
        refine lv_iload hx hb d_T_write_81 (lv_at hl 7 rfl) ?_
        refine lv_icmp_ge (tgt := 192) hx hb d_T_write_83 (by decide) (fun c3 => ?_) (fun c3 => ?_)
        · skip
          have hk2 : min (n + 4) (w0N σ c) = k := by have := ge_of c3 (by omega) (by omega); omega
          refine lv_aload_n hx hb d_T_write_192 rfl (lv_at hl 0 rfl) ?_
          refine m_get (ci := 7) (v := .ref (t + 3)) hx hb hT in_T hown hK hH.1 (tw_t) rfl 4 (by decide) (hT _ w676) (fun _ h9 => h9) rfl d_T_write_193 ?_
          refine lv_iload_n hx hb d_T_write_196 rfl (lv_at hl 1 rfl) ?_
          refine lv_iconst (v := (-1)) hx hb d_T_write_197 (by decide) ?_
          refine m_iast hx hb hK hH 0 (tw_3) rfl (j := c) (rfl) (by omega) (by decide) d_T_write_198 (fun H locs hH hzz => ?_)
          replace hH := tws_3 hH
          exact m_vret hx hb hr hlocks hsz hH (by rw [wtS_0 c0]; unfold wrS; rw [hk2]) d_T_write_199
        · skip
          have hk3 : k < w0N σ c := by rcases Nat.lt_or_ge k (w0N σ c) with h9 | h9; exact h9; exact absurd (nI_le h9 (by omega)) c3
          refine W.join (fun x : Int32 => x = nI (atN n k)) (f := fun x => F0 mi 101 ls (.int x :: [])) (fun x ex => ?_) (fun hj => ?_)
          · skip
            subst ex
            refine lv_istore (lv' := [(9, .int (nI (atN n k))), (0, .ref t), (1, .int (nI c)), (2, .int (nI a)), (3, .int (nI n)), (4, .int v), (5, .int (nI (1 - cur σ c))), (6, .int (hdI σ c n)), (7, .int (nI (w0N σ c))), (8, .int (nI k))]) hx hb d_T_write_101 hl (by decide) rfl (fun ls hl => ?_)
            refine W.join (fun x : Int32 => x = vlI σ c a n v k) (f := fun x => F0 mi 153 ls (.int x :: [])) (fun x ex => ?_) (fun hj => ?_)
            · skip
              subst ex
              refine lv_istore (lv' := [(10, .int (vlI σ c a n v k)), (9, .int (nI (atN n k))), (0, .ref t), (1, .int (nI c)), (2, .int (nI a)), (3, .int (nI n)), (4, .int v), (5, .int (nI (1 - cur σ c))), (6, .int (hdI σ c n)), (7, .int (nI (w0N σ c))), (8, .int (nI k))]) hx hb d_T_write_153 hl (by decide) rfl (fun ls hl => ?_)
              refine lv_aload_n hx hb d_T_write_155 rfl (lv_at hl 2 rfl) ?_
              refine m_get (ci := 7) (v := .ref (t + 5)) hx hb hT in_T hown hK hH.1 (tw_t) rfl 6 (by decide) (hT _ w678) (fun _ h9 => h9) rfl d_T_write_156 ?_
              refine lv_bipush (v := 88) hx hb d_T_write_159 (by decide) ?_
              refine lv_iload_n hx hb d_T_write_161 rfl (lv_at hl 3 rfl) ?_
              refine lv_imul hx hb d_T_write_162 ?_
              refine lv_bipush (v := 44) hx hb d_T_write_163 (by decide) ?_
              refine lv_iload hx hb d_T_write_165 (lv_at hl 7 rfl) ?_
              refine lv_imul hx hb d_T_write_167 ?_
              refine lv_iadd hx hb d_T_write_168 ?_
              refine lv_iload hx hb d_T_write_169 (lv_at hl 1 rfl) ?_
              refine lv_iadd hx hb d_T_write_171 ?_
              refine lv_iload hx hb d_T_write_172 (lv_at hl 0 rfl) ?_
              refine lv_i2s (v := (vlI σ c a n v k).toInt16.toInt32) hx hb d_T_write_174 rfl ?_
              refine m_sast hx hb hK hH 1 (tw_5) rfl (j := 88 * c + 44 * (1 - cur σ c) + atN n k) (ix3 c (1 - cur σ c) (atN n k)) (by have := atN_lt hn hk1; omega) (by decide) d_T_write_175 (fun H locs hH hzz => ?_)
              rw [pk_vs] at hH
              replace hH := tws_5 hH
              refine lv_aload_n hx hb d_T_write_176 rfl (lv_at hl 2 rfl) ?_
              refine m_get (ci := 7) (v := .ref (t + 4)) hx hb hT in_T hown hK hH.1 (tw_t) rfl 5 (by decide) (hT _ w677) (fun _ h9 => h9) rfl d_T_write_177 ?_
              refine lv_iload_n hx hb d_T_write_180 rfl (lv_at hl 3 rfl) ?_
              refine lv_dup2_11 hx hb d_T_write_181 rfl rfl ?_
              refine m_iald hx hb hK hH.1 0 (tw_4) rfl (j := c) (rfl) (by omega) (by decide) d_T_write_182 ?_
              refine lv_iconst (v := 1) hx hb d_T_write_183 (by decide) ?_
              refine lv_iadd hx hb d_T_write_184 ?_
              refine m_iast hx hb hK hH 0 (tw_4) rfl (j := c) (rfl) (by omega) (by decide) d_T_write_185 (fun H locs hH hzz => ?_)
              replace hH := tws_4 hH
              refine lv_iinc (v := nI (k + 1)) (lv' := [(8, .int (nI (k + 1))), (10, .int (vlI σ c a n v k)), (9, .int (nI (atN n k))), (0, .ref t), (1, .int (nI c)), (2, .int (nI a)), (3, .int (nI n)), (4, .int v), (5, .int (nI (1 - cur σ c))), (6, .int (hdI σ c n)), (7, .int (nI (w0N σ c)))]) hx hb d_T_write_186 hl (k := 10) rfl (nI_1 k) (by decide) rfl (fun ls hl => ?_)
              refine lv_goto (tgt := 71) hx hb d_T_write_189 (by decide) ?_
              exact ih (_, _, _, k + 1) ⟨lv_sub hl [3, 4, 5, 6, 7, 8, 9, 10, 0] rfl, hH, by dsimp only; omega, by dsimp only; omega⟩ (by dsimp only; omega)
            · skip
              refine lv_iload hx hb d_T_write_103 (lv_at hl 9 rfl) ?_
              refine lv_if_eq (tgt := 116) hx hb d_T_write_105 (by decide) (fun c5 => ?_) (fun c5 => ?_)
              · skip
                have c5 : k = 0 := (nI_eq (b := 0) (by omega) (by decide)).mp c5
                refine lv_iload hx hb d_T_write_116 (lv_at hl 7 rfl) ?_
                refine lv_goto (tgt := 153) hx hb d_T_write_118 (by decide) ?_
                exact hj _ (by first | (unfold vlI; rw [if_pos (Or.inl c5)]) | (unfold vlI; rw [if_pos (Or.inr c6)]) | (unfold vlI; rw [if_neg (fun z => z.elim c5 c6), if_pos c7]) | (unfold vlI; rw [if_neg (fun z => z.elim c5 c6), if_neg c7, if_pos c8]) | (unfold vlI; rw [if_neg (fun z => z.elim c5 c6), if_neg c7, if_neg c8, wl_r 7 (by decide) (by decide)]))
              · skip
                have c5 : ¬ k = 0 := fun z => c5 (by rw [z]; rfl)
                refine lv_iload hx hb d_T_write_108 (lv_at hl 9 rfl) ?_
                refine lv_iload_n hx hb d_T_write_110 rfl (lv_at hl 4 rfl) ?_
                refine lv_iconst (v := 3) hx hb d_T_write_111 (by decide) ?_
                refine lv_iadd hx hb d_T_write_112 ?_
                rw [show ((nI n) + 3) = nI (n + 3) from nI_add n 3]
                refine lv_icmp_ne (tgt := 121) hx hb d_T_write_113 (by decide) (fun c6 => ?_) (fun c6 => ?_)
                · skip
                  have c6 : ¬ k = n + 3 := fun z => c6 (by rw [z])
                  refine lv_iload hx hb d_T_write_121 (lv_at hl 9 rfl) ?_
                  refine lv_iconst (v := 1) hx hb d_T_write_123 (by decide) ?_
                  refine lv_icmp_ne (tgt := 131) hx hb d_T_write_124 (by decide) (fun c7 => ?_) (fun c7 => ?_)
                  · skip
                    have c7 : ¬ k = 1 := fun z => c7 (by rw [z]; rfl)
                    refine lv_iload hx hb d_T_write_131 (lv_at hl 9 rfl) ?_
                    refine lv_iconst (v := 2) hx hb d_T_write_133 (by decide) ?_
                    refine lv_icmp_ne (tgt := 142) hx hb d_T_write_134 (by decide) (fun c8 => ?_) (fun c8 => ?_)
                    · skip
                      have c8 : ¬ k = 2 := fun z => c8 (by rw [z]; rfl)
                      have hk9 : 3 ≤ k := by omega
                      refine lv_aload_n hx hb d_T_write_142 rfl (lv_at hl 1 rfl) ?_
                      refine m_get (ci := 7) (v := .ref (t + 7)) hx hb hT in_T hown hK hH.1 (tw_t) rfl 8 (by decide) (hT _ w680) (fun _ h9 => h9) rfl d_T_write_143 ?_
                      refine lv_iload_n hx hb d_T_write_146 rfl (lv_at hl 3 rfl) ?_
                      refine lv_iload hx hb d_T_write_147 (lv_at hl 9 rfl) ?_
                      refine lv_iadd hx hb d_T_write_149 ?_
                      refine lv_iconst (v := 3) hx hb d_T_write_150 (by decide) ?_
                      refine lv_isub hx hb d_T_write_151 ?_
                      refine m_iald hx hb hK hH.1 0 (tw_7) rfl (j := a + k - 3) (ak3 hk9) (by omega) (by decide) d_T_write_152 ?_
                      exact hj _ (by first | (unfold vlI; rw [if_pos (Or.inl c5)]) | (unfold vlI; rw [if_pos (Or.inr c6)]) | (unfold vlI; rw [if_neg (fun z => z.elim c5 c6), if_pos c7]) | (unfold vlI; rw [if_neg (fun z => z.elim c5 c6), if_neg c7, if_pos c8]) | (unfold vlI; rw [if_neg (fun z => z.elim c5 c6), if_neg c7, if_neg c8, wl_r 7 (by decide) (by decide)]))
                    · skip
                      have c8 : k = 2 := (nI_eq (b := 2) (by omega) (by decide)).mp c8
                      refine lv_iload hx hb d_T_write_137 (lv_at hl 5 rfl) ?_
                      refine lv_goto (tgt := 153) hx hb d_T_write_139 (by decide) ?_
                      exact hj _ (by first | (unfold vlI; rw [if_pos (Or.inl c5)]) | (unfold vlI; rw [if_pos (Or.inr c6)]) | (unfold vlI; rw [if_neg (fun z => z.elim c5 c6), if_pos c7]) | (unfold vlI; rw [if_neg (fun z => z.elim c5 c6), if_neg c7, if_pos c8]) | (unfold vlI; rw [if_neg (fun z => z.elim c5 c6), if_neg c7, if_neg c8, wl_r 7 (by decide) (by decide)]))
                  · skip
                    have c7 : k = 1 := (nI_eq (b := 1) (by omega) (by decide)).mp c7
                    refine lv_iload_n hx hb d_T_write_127 rfl (lv_at hl 3 rfl) ?_
                    refine lv_goto (tgt := 153) hx hb d_T_write_128 (by decide) ?_
                    exact hj _ (by first | (unfold vlI; rw [if_pos (Or.inl c5)]) | (unfold vlI; rw [if_pos (Or.inr c6)]) | (unfold vlI; rw [if_neg (fun z => z.elim c5 c6), if_pos c7]) | (unfold vlI; rw [if_neg (fun z => z.elim c5 c6), if_neg c7, if_pos c8]) | (unfold vlI; rw [if_neg (fun z => z.elim c5 c6), if_neg c7, if_neg c8, wl_r 7 (by decide) (by decide)]))
                · skip
                  have c6 : k = n + 3 := (nI_eq (by omega) (by omega)).mp c6
                  refine lv_iload hx hb d_T_write_116 (lv_at hl 7 rfl) ?_
                  refine lv_goto (tgt := 153) hx hb d_T_write_118 (by decide) ?_
                  exact hj _ (by first | (unfold vlI; rw [if_pos (Or.inl c5)]) | (unfold vlI; rw [if_pos (Or.inr c6)]) | (unfold vlI; rw [if_neg (fun z => z.elim c5 c6), if_pos c7]) | (unfold vlI; rw [if_neg (fun z => z.elim c5 c6), if_neg c7, if_pos c8]) | (unfold vlI; rw [if_neg (fun z => z.elim c5 c6), if_neg c7, if_neg c8, wl_r 7 (by decide) (by decide)]))
          · skip
            refine lv_iload hx hb d_T_write_86 (lv_at hl 8 rfl) ?_
            refine lv_iload_n hx hb d_T_write_88 rfl (lv_at hl 3 rfl) ?_
            refine lv_iconst (v := 3) hx hb d_T_write_89 (by decide) ?_
            refine lv_iadd hx hb d_T_write_90 ?_
            rw [show ((nI n) + 3) = nI (n + 3) from nI_add n 3]
            refine lv_icmp_ne (tgt := 99) hx hb d_T_write_91 (by decide) (fun c4 => ?_) (fun c4 => ?_)
            · skip
              have c4 : ¬ k = n + 3 := fun z => c4 (by rw [z])
              refine lv_iload hx hb d_T_write_99 (lv_at hl 8 rfl) ?_
              exact hj _ (by first | (unfold atN; rw [if_pos c4]; rfl) | (unfold atN; rw [if_neg c4]))
            · skip
              have c4 : k = n + 3 := (nI_eq (by omega) (by omega)).mp c4
              refine lv_bipush (v := 43) hx hb d_T_write_94 (by decide) ?_
              refine lv_goto (tgt := 101) hx hb d_T_write_96 (by decide) ?_
              exact hj _ (by first | (unfold atN; rw [if_pos c4]; rfl) | (unfold atN; rw [if_neg c4]))
    · skip
      refine lv_aload_n hx hb d_T_write_45 rfl (lv_at hl 2 rfl) ?_
      refine m_get (ci := 7) (v := .ref (t + 3)) hx hb hT in_T hown hK hH.1 (tw_t) rfl 4 (by decide) (hT _ w676) (fun _ h9 => h9) rfl d_T_write_46 ?_
      refine lv_iload_n hx hb d_T_write_49 rfl (lv_at hl 3 rfl) ?_
      refine m_iald hx hb hK hH.1 0 (tw_3) rfl (j := c) (rfl) (by omega) (by decide) d_T_write_50 ?_
      refine lv_iconst (v := (-1)) hx hb d_T_write_51 (by decide) ?_
      refine lv_icmp_ne (tgt := 60) hx hb d_T_write_52 (by decide) (fun c1 => ?_) (fun c1 => ?_)
      · skip
        refine lv_aload_n hx hb d_T_write_60 rfl (lv_at hl 2 rfl) ?_
        refine m_get (ci := 7) (v := .ref (t + 3)) hx hb hT in_T hown hK hH.1 (tw_t) rfl 4 (by decide) (hT _ w676) (fun _ h9 => h9) rfl d_T_write_61 ?_
        refine lv_iload_n hx hb d_T_write_64 rfl (lv_at hl 3 rfl) ?_
        refine m_iald hx hb hK hH.1 0 (tw_3) rfl (j := c) (rfl) (by omega) (by decide) d_T_write_65 ?_
        exact hj _ (by first | (rw [w0N_a c1]; rfl) | exact (w0N_b hk c1).1)
      · skip
        refine lv_bipush (v := 50) hx hb d_T_write_55 (by decide) ?_
        refine lv_goto (tgt := 66) hx hb d_T_write_57 (by decide) ?_
        exact hj _ (by first | (rw [w0N_a c1]; rfl) | exact (w0N_b hk c1).1)
  · skip
    have c0 := Classical.not_not.mp (fun z => c0 (smI_z.mpr z))
    exact m_vret hx hb hr hlocks hsz hH (by rw [wtS_1 c0]) d_T_write_12
end
section
/-! The reference: giving a run, a visit. -/
theorem wd5 {σ τ : SG} (h : σ 5 = τ 5) (c b i : Nat) : wd σ c b i = wd τ c b i := by unfold wd; rw [h]
theorem sq5 {σ τ : SG} (h : σ 5 = τ 5) (c b : Nat) : sq σ c b = sq τ c b := by unfold sq; rw [wd5 h]
theorem cur5 {σ τ : SG} (h : σ 5 = τ 5) (c : Nat) : cur σ c = cur τ c := by unfold cur ahd; simp only [wd5 h, sq5 h]
theorem cn5 {σ τ : SG} (h : σ 5 = τ 5) (c : Nat) : cnI σ c = cnI τ c := by unfold cnI; rw [wd5 h, cur5 h]
theorem fi5 {σ τ : SG} (h : σ 5 = τ 5) (c : Nat) : fiI σ c = fiI τ c := by unfold fiI; rw [cn5 h, wd5 h, cur5 h]
theorem se5 {σ τ : SG} (h : σ 5 = τ 5) (c : Nat) : seI σ c = seI τ c := by unfold seI; rw [wd5 h, cur5 h]
theorem kOK3 {σ τ : SG} (h : σ 3 = τ 3) {c : Nat} (hk : kOK τ c) : kOK σ c := by unfold kOK at *; rw [h]; exact hk
def gvB (a b : Nat) : Nat := if b - a ≤ 39 then a else b - 39
theorem gvB_le {a b : Nat} (h : a ≤ b) : gvB a b ≤ b ∧ a ≤ gvB a b ∧ b - gvB a b + 1 ≤ 40 := by
  unfold gvB
  split <;> omega
def tkS (σ : SG) (d a : Nat) : Nat → SG
  | 0 => σ
  | k + 1 => su (tkS σ d a k) 8 (3001 * d + a + k) 1
theorem tkS_r {σ : SG} {d a : Nat} (r : Nat) (h : r ≠ 8) : ∀ k, tkS σ d a k r = σ r
  | 0 => rfl
  | k + 1 => by
    show su (tkS σ d a k) 8 _ _ r = σ r
    rw [su_kf h]
    exact tkS_r r h k
def mxI (x y : Int32) : Int32 := if x ≤ y then y else x
def v1S (σ : SG) (c d a n : Nat) : SG := su (tkS (su σ 10 d 1) d a n) 11 d (mxI (seI σ c) (σ 11 d))
theorem v1S_r {σ : SG} {c d a n : Nat} (r : Nat) (h8 : r ≠ 8) (h10 : r ≠ 10) (h11 : r ≠ 11) : v1S σ c d a n r = σ r := by
  unfold v1S
  rw [su_kf h11, tkS_r r h8, su_kf h10]
def inI (σ : SG) (c d : Nat) : Int32 := if ¬ (σ 1 c >>> (σ 9 d &&& 31)) &&& 1 = 1 then 0 else 1
def anI (σ τ : SG) (c d e2 : Nat) (day : Int32) : Int32 := if ¬ rvI τ d e2 = 0 then 1 else if ¬ day ≤ σ 2 c then 2 else if ¬ inI σ c d = 0 then 0 else 3
def bgF (σ : SG) (d : Nat) : Nat → Nat
  | 0 => 0
  | k + 1 => if k = 0 ∨ hs σ d k = 0 then k + 1 else bgF σ d k
theorem bgF_in (σ : SG) (d : Nat) : ∀ k, bgF σ d (k + 1) ≤ k + 1 ∧ 1 ≤ bgF σ d (k + 1)
  | 0 => by
    show (if (0 : Nat) = 0 ∨ hs σ d 0 = 0 then 0 + 1 else bgF σ d 0) ≤ 0 + 1 ∧ 1 ≤ (if (0 : Nat) = 0 ∨ hs σ d 0 = 0 then 0 + 1 else bgF σ d 0)
    rw [if_pos (Or.inl rfl)]
    omega
  | k + 1 => by
    have := bgF_in σ d k
    show (if k + 1 = 0 ∨ hs σ d (k + 1) = 0 then k + 1 + 1 else bgF σ d (k + 1)) ≤ k + 1 + 1 ∧ 1 ≤ (if k + 1 = 0 ∨ hs σ d (k + 1) = 0 then k + 1 + 1 else bgF σ d (k + 1))
    split <;> omega
theorem grF_le (σ : SG) (d : Nat) : ∀ k, grF σ d k ≤ k
  | 0 => Nat.le_refl 0
  | k + 1 => by
    have := grF_le σ d k
    show (if hs σ d (k + 1) = 0 then grF σ d k else k + 1) ≤ k + 1
    split <;> omega
theorem gre_le (σ : SG) (d : Nat) : gre σ d ≤ 3000 := grF_le σ d 3000
noncomputable def gvS (σ : SG) (c a b : Nat) (v : Int32) : SG := wtS σ c (gvB a b) (b - gvB a b + 1) v
noncomputable def v2S (σ τ : SG) (c d : Nat) : SG := if gre τ d = 0 then τ else gvS τ c (bgF τ d (gre τ d)) (gre τ d) (seI σ c)
noncomputable def vsS (σ : SG) (c d a n : Nat) : SG := v2S σ (v1S σ c d a n) c d
theorem ixd3 (d a k : Nat) : (3001 : Int32) * nI d + nI a + nI k = nI (3001 * d + a + k) := by rw [ixd, nI_add]
theorem ixd4 (d k : Nat) : (3001 : Int32) * nI d + nI (k + 1) - 1 = nI (3001 * d + k) := ixd2 d k
set_option maxHeartbeats 4000000 in
set_option maxRecDepth 100000 in
theorem c_T_give (l : Launch) (g : GG) (t : Nat) (σ : SG) (c a b : Nat) (v : Int32) (sz : Nat) (hc : c < 4000) (hab : a ≤ b) (hb3 : b ≤ 3000) (hk : kOK σ c) : Met l y_T_give (k_T_give :: TT) { frames := 7, cells := 0, slots := 0, locals := 165 } (Pm g [.ref t, .int (nI c), .int (nI a), .int (nI b), .int v] sz (tw g t σ)) (Qm g (tw g t σ) (fun _ : Unit => none) (fun _ M1 => M1 = tw g t (gvS σ c a b v))) 0 0 (mA (tw g t σ) sz) := by
  refine met_of (by decide) (Nat.le_of_ble_eq_true rfl) ?_
  intro pr en s mi below meth co hx hb hr hml hown hlocks hnm hT hsz hP hK ls hl
  have hl : lv_has ls 6 [(0, .ref t), (1, .int (nI c)), (2, .int (nI a)), (3, .int (nI b)), (4, .int v)] := hl
  have hH := HS.start hP
  have hg := gvB_le hab
  refine W.join (fun x : Int32 => x = nI (gvB a b)) (f := fun x => F0 mi 16 ls (.int x :: [])) (fun x ex => ?_) (fun hj => ?_)
  · skip
    subst ex
    refine lv_istore (lv' := [(5, .int (nI (gvB a b))), (0, .ref t), (1, .int (nI c)), (2, .int (nI a)), (3, .int (nI b)), (4, .int v)]) hx hb d_T_give_16 hl (by decide) rfl (fun ls hl => ?_)
    refine lv_aload_n hx hb d_T_give_18 rfl (lv_at hl 1 rfl) ?_
    refine lv_iload_n hx hb d_T_give_19 rfl (lv_at hl 2 rfl) ?_
    refine lv_iload hx hb d_T_give_20 (lv_at hl 0 rfl) ?_
    refine lv_iload_n hx hb d_T_give_22 rfl (lv_at hl 4 rfl) ?_
    refine lv_iload_n hx hb d_T_give_23 rfl (lv_at hl 3 rfl) ?_
    refine lv_icmp_ge (tgt := 31) hx hb d_T_give_24 (by decide) (fun _ => ?_) (fun hc => absurd (nI_le hab (by omega)) hc)
    refine lv_iload_n hx hb d_T_give_31 rfl (lv_at hl 4 rfl) ?_
    refine lv_iload hx hb d_T_give_32 (lv_at hl 0 rfl) ?_
    refine lv_isub hx hb d_T_give_34 ?_
    rw [show ((nI b) - (nI (gvB a b))) = nI (b - gvB a b) from pk_sub hg.1]
    refine lv_iconst (v := 1) hx hb d_T_give_35 (by decide) ?_
    refine lv_iadd hx hb d_T_give_36 ?_
    rw [show ((nI (b - gvB a b)) + 1) = nI (b - gvB a b + 1) from nI_1 _]
    refine lv_iload hx hb d_T_give_37 (lv_at hl 5 rfl) ?_
    refine m_run (c_V (As := [.int (nI c), .int (nI (gvB a b)), .int (nI (b - gvB a b + 1)), .int v]) (rest := []) hx hb hml hl.1 hown hT hK hH.1 (c_T_write l g t σ c (gvB a b) (b - gvB a b + 1) v s.heap.size hc (by omega) hg.2.2 hk) kw_T_write w755 w757 selp_T_write w8 hd_T_write rfl rfl ⟨by decide, by decide⟩ (tw_t) rfl rfl rfl (Nat.le_of_ble_eq_true rfl) d_T_give_39 ⟨by decide, by decide⟩) hH (fun rv M1 H locs hpost hH hzz hdm hfr => ?_)
    obtain rfl : M1 = tw g t (gvS σ c a b v) := hpost
    refine W.eq (g2 := F0 mi 42 ls []) rfl ?_
    exact m_vret hx hb hr hlocks hsz hH (rfl) d_T_give_42
  · skip
    refine lv_iload_n hx hb d_T_give_0 rfl (lv_at hl 3 rfl) ?_
    refine lv_iload_n hx hb d_T_give_1 rfl (lv_at hl 2 rfl) ?_
    refine lv_isub hx hb d_T_give_2 ?_
    rw [show ((nI b) - (nI a)) = nI (b - a) from pk_sub hab]
    refine lv_bipush (v := 39) hx hb d_T_give_3 (by decide) ?_
    refine lv_icmp_le (tgt := 15) hx hb d_T_give_5 (by decide) (fun c1 => ?_) (fun c1 => ?_)
    · skip
      have c1 : b - a ≤ 39 := ge_of (b := 39) c1 (by omega) (by decide)
      refine lv_iload_n hx hb d_T_give_15 rfl (lv_at hl 2 rfl) ?_
      exact hj _ (by first | (unfold gvB; rw [if_pos c1]) | (unfold gvB; rw [if_neg c1]))
    · skip
      have c1 : ¬ b - a ≤ 39 := fun z => c1 (nI_le (b := 39) z (by decide))
      refine lv_iload_n hx hb d_T_give_8 rfl (lv_at hl 3 rfl) ?_
      refine lv_bipush (v := 39) hx hb d_T_give_9 (by decide) ?_
      refine lv_isub hx hb d_T_give_11 ?_
      rw [show ((nI b) - 39) = nI (b - 39) from pk_sub (a := b) (b := 39) (by omega)]
      refine lv_goto (tgt := 16) hx hb d_T_give_12 (by decide) ?_
      exact hj _ (by first | (unfold gvB; rw [if_pos c1]) | (unfold gvB; rw [if_neg c1]))
set_option maxHeartbeats 4000000 in
set_option maxRecDepth 100000 in
theorem c_T_visitAt (l : Launch) (g : GG) (t : Nat) (σ : SG) (c d a n e2 : Nat) (day : Int32) (sz : Nat) (hc : c < 4000) (hd2 : d < 200) (hf : fiI σ c = nI a) (hn : cnI σ c = nI n) (han : a + n ≤ 3001) (hn4 : n ≤ 40) (he : σ 6 c = nI e2) (he2 : e2 ≤ 3000) (hk : kOK σ c) : Met l y_T_visitAt (k_T_visitAt :: TT) { frames := 8, cells := 0, slots := 0, locals := 190 } (Pm g [.ref t, .int (nI c), .int (nI d), .int day] sz (tw g t σ)) (Qm g (tw g t σ) (fun r : Int32 => some (.int r)) (fun r M1 => r = anI σ (v1S σ c d a n) c d e2 day ∧ M1 = tw g t (vsS σ c d a n))) 0 0 (mA (tw g t σ) sz) := by
  refine met_of (by decide) (Nat.le_of_ble_eq_true rfl) ?_
  intro pr en s mi below meth co hx hb hr hml hown hlocks hnm hT hsz hP hK ls hl
  have hl : lv_has ls 9 [(0, .ref t), (1, .int (nI c)), (2, .int (nI d)), (3, .int day)] := hl
  have hH := HS.start hP
  have hgl := gre_le (v1S σ c d a n) d
  refine lv_aload_n hx hb d_T_visitAt_0 rfl (lv_at hl 0 rfl) ?_
  refine m_get (ci := 7) (v := .ref (t + 10)) hx hb hT in_T hown hK hH.1 (tw_t) rfl 12 (by decide) (hT _ w684) (fun _ h9 => h9) rfl d_T_visitAt_1 ?_
  refine lv_iload_n hx hb d_T_visitAt_4 rfl (lv_at hl 2 rfl) ?_
  refine lv_iconst (v := 1) hx hb d_T_visitAt_5 (by decide) ?_
  refine m_zast hx hb hK hH 2 (tw_10) rfl (j := d) (rfl) (by omega) (by decide) d_T_visitAt_6 (fun H locs hH hzz => ?_)
  rw [show vp_nar .boolean 1 = 1 from rfl] at hH
  replace hH := tws_10 hH
  refine lv_aload_n hx hb d_T_visitAt_7 rfl (lv_at hl 0 rfl) ?_
  refine lv_iload_n hx hb d_T_visitAt_8 rfl (lv_at hl 1 rfl) ?_
  refine rd_run (c_V (As := [.int (nI c)]) (rest := []) hx hb hml hl.1 hown hT hK hH.1 (c_T_first l g t (su σ 10 d 1) c H.size hc) kw_T_first w783 w785 selp_T_first w8 hd_T_first rfl rfl ⟨by decide, by decide⟩ (tw_t) rfl rfl rfl (Nat.le_of_ble_eq_true rfl) d_T_visitAt_9 ⟨by decide, by decide⟩) rfl ?_
  rw [show (fiI (su σ 10 d 1) c) = nI a from (fi5 (su_kf (by decide)) c).trans hf]
  refine lv_istore (lv' := [(4, .int (nI a)), (0, .ref t), (1, .int (nI c)), (2, .int (nI d)), (3, .int day)]) hx hb d_T_visitAt_12 hl (by decide) rfl (fun ls hl => ?_)
  refine lv_iconst (v := 0) hx hb d_T_visitAt_14 (by decide) ?_
  refine lv_istore (lv' := [(5, .int 0), (4, .int (nI a)), (0, .ref t), (1, .int (nI c)), (2, .int (nI d)), (3, .int day)]) hx hb d_T_visitAt_15 hl (by decide) rfl (fun ls hl => ?_)
  refine W.rep (α := Heap × List Loc × Array Slot × Nat) (fun (H, locs, ls, k) => n - k) (fun (H, locs, ls, k) => lv_has ls 9 [(0, .ref t), (1, .int (nI c)), (2, .int (nI d)), (3, .int day), (4, .int (nI a)), (5, .int (nI k))] ∧ HS g (mA (tw g t σ) s.heap.size) s.heap (tw g t (tkS (su σ 10 d 1) d a k)) H locs ∧ k ≤ n) (fun (H, locs, ls, k) => H) (fun (H, locs, ls, k) => locs) (fun (H, locs, ls, k) => F0 mi 17 ls []) ?_ (H, locs, ls, 0) ⟨lv_sub hl [2, 3, 4, 5, 1, 0] rfl, hH, by omega⟩
  rintro ⟨H, locs, ls, k⟩ ⟨hl, hH, hi1⟩ ih
  dsimp only at hl hH hi1 ih ⊢
  refine lv_iload hx hb d_T_visitAt_17 (lv_at hl 5 rfl) ?_
  refine lv_aload_n hx hb d_T_visitAt_19 rfl (lv_at hl 0 rfl) ?_
  refine lv_iload_n hx hb d_T_visitAt_20 rfl (lv_at hl 1 rfl) ?_
  refine rd_run (c_V (As := [.int (nI c)]) (rest := [.int (nI k)]) hx hb hml hl.1 hown hT hK hH.1 (c_T_count l g t (tkS (su σ 10 d 1) d a k) c H.size hc) kw_T_count w763 w765 selp_T_count w8 hd_T_count rfl rfl ⟨by decide, by decide⟩ (tw_t) rfl rfl rfl (Nat.le_of_ble_eq_true rfl) d_T_visitAt_21 ⟨by decide, by decide⟩) rfl ?_
  rw [show (cnI (tkS (su σ 10 d 1) d a k) c) = nI n from (cn5 ((tkS_r 5 (by decide) k).trans (su_kf (by decide))) c).trans hn]
  refine lv_icmp_ge (tgt := 50) hx hb d_T_visitAt_24 (by decide) (fun c1 => ?_) (fun c1 => ?_)
  · skip
    have hkn : n = k := by have := ge_of c1 (by omega) (by omega); omega
    subst hkn
    refine lv_aload_n hx hb d_T_visitAt_50 rfl (lv_at hl 0 rfl) ?_
    refine m_get (ci := 7) (v := .ref (t + 11)) hx hb hT in_T hown hK hH.1 (tw_t) rfl 13 (by decide) (hT _ w685) (fun _ h9 => h9) rfl d_T_visitAt_51 ?_
    refine lv_iload_n hx hb d_T_visitAt_54 rfl (lv_at hl 2 rfl) ?_
    refine W.join (fun x : Int32 => x = mxI (seI σ c) (σ 11 d)) (f := fun x => F0 mi 83 ls (.int x :: [.int (nI d), .ref (t + 11)])) (fun x ex => ?_) (fun hj => ?_)
    · skip
      subst ex
      refine m_iast hx hb hK hH 0 (tw_11) rfl (j := d) (rfl) (by omega) (by decide) d_T_visitAt_83 (fun H locs hH hzz => ?_)
      replace hH := tws_11 hH
      replace hH : HS g (mA (tw g t σ) s.heap.size) s.heap (tw g t (v1S σ c d a n)) H locs := hH
      refine W.join (fun x : Int32 => x = inI σ c d) (f := fun x => F0 mi 108 ls (.int x :: [])) (fun x ex => ?_) (fun hj => ?_)
      · skip
        subst ex
        refine lv_istore (lv' := [(5, .int (inI σ c d)), (0, .ref t), (1, .int (nI c)), (2, .int (nI d)), (3, .int day), (4, .int (nI a))]) hx hb d_T_visitAt_108 hl (by decide) rfl (fun ls hl => ?_)
        refine W.join (fun x : Int32 => x = anI σ (v1S σ c d a n) c d e2 day) (f := fun x => F0 mi 147 ls (.int x :: [])) (fun x ex => ?_) (fun hj => ?_)
        · skip
          subst ex
          refine lv_istore (lv' := [(6, .int (anI σ (v1S σ c d a n) c d e2 day)), (5, .int (inI σ c d)), (0, .ref t), (1, .int (nI c)), (2, .int (nI d)), (3, .int day), (4, .int (nI a))]) hx hb d_T_visitAt_147 hl (by decide) rfl (fun ls hl => ?_)
          refine lv_aload_n hx hb d_T_visitAt_149 rfl (lv_at hl 2 rfl) ?_
          refine lv_iload_n hx hb d_T_visitAt_150 rfl (lv_at hl 4 rfl) ?_
          refine rd_run (c_V (As := [.int (nI d)]) (rest := []) hx hb hml hl.1 hown hT hK hH.1 (c_T_greatest l g t (v1S σ c d a n) d H.size hd2) kw_T_greatest w814 w816 selp_T_greatest w8 hd_T_greatest rfl rfl ⟨by decide, by decide⟩ (tw_t) rfl rfl rfl (Nat.le_of_ble_eq_true rfl) d_T_visitAt_151 ⟨by decide, by decide⟩) rfl ?_
          refine lv_istore (lv' := [(7, .int (nI (gre (v1S σ c d a n) d))), (6, .int (anI σ (v1S σ c d a n) c d e2 day)), (5, .int (inI σ c d)), (0, .ref t), (1, .int (nI c)), (2, .int (nI d)), (3, .int day), (4, .int (nI a))]) hx hb d_T_visitAt_154 hl (by decide) rfl (fun ls hl => ?_)
          refine lv_iload hx hb d_T_visitAt_156 (lv_at hl 0 rfl) ?_
          refine lv_istore (lv' := [(8, .int (nI (gre (v1S σ c d a n) d))), (7, .int (nI (gre (v1S σ c d a n) d))), (6, .int (anI σ (v1S σ c d a n) c d e2 day)), (5, .int (inI σ c d)), (0, .ref t), (1, .int (nI c)), (2, .int (nI d)), (3, .int day), (4, .int (nI a))]) hx hb d_T_visitAt_158 hl (by decide) rfl (fun ls hl => ?_)
          refine W.rep (α := Heap × List Loc × Array Slot × Nat) (fun (H, locs, ls, k) => k) (fun (H, locs, ls, k) => lv_has ls 9 [(0, .ref t), (1, .int (nI c)), (2, .int (nI d)), (3, .int day), (6, .int (anI σ (v1S σ c d a n) c d e2 day)), (7, .int (nI (gre (v1S σ c d a n) d))), (8, .int (nI k))] ∧ HS g (mA (tw g t σ) s.heap.size) s.heap (tw g t (v1S σ c d a n)) H locs ∧ k ≤ gre (v1S σ c d a n) d ∧ bgF (v1S σ c d a n) d (gre (v1S σ c d a n) d) = bgF (v1S σ c d a n) d k ∧ (gre (v1S σ c d a n) d = 0 ↔ k = 0)) (fun (H, locs, ls, k) => H) (fun (H, locs, ls, k) => locs) (fun (H, locs, ls, k) => F0 mi 160 ls []) ?_ (H, locs, ls, gre (v1S σ c d a n) d) ⟨lv_sub hl [4, 5, 6, 7, 2, 1, 0] rfl, hH, Nat.le_refl _, rfl, Iff.rfl⟩
          rintro ⟨H, locs, ls, k⟩ ⟨hl, hH, hi1, hi2, hi3⟩ ih
          dsimp only at hl hH hi1 hi2 hi3 ih ⊢
          refine lv_iload hx hb d_T_visitAt_160 (lv_at hl 6 rfl) ?_
          refine lv_iconst (v := 1) hx hb d_T_visitAt_162 (by decide) ?_
          refine lv_icmp_le (tgt := 190) hx hb d_T_visitAt_163 (by decide) (fun c7 => ?_) (fun c7 => ?_)
          · skip
            have hk1 : k ≤ 1 := ge_of (b := 1) c7 (by omega) (by decide)
            have hbg : bgF (v1S σ c d a n) d k = k := by rcases (show k = 0 ∨ k = 1 by omega) with rfl | rfl <;> first | rfl | exact if_pos (Or.inl rfl)
            refine lv_iload hx hb d_T_visitAt_190 (lv_at hl 5 rfl) ?_
            refine lv_if_le (tgt := 209) hx hb d_T_visitAt_192 (by decide) (fun c9 => ?_) (fun c9 => ?_)
            · skip
              have hg0 : gre (v1S σ c d a n) d = 0 := by have := ge_of (b := 0) c9 (by omega) (by decide); omega
              refine lv_iload hx hb d_T_visitAt_209 (lv_at hl 4 rfl) ?_
              exact m_iret hx hb hr hlocks hsz hH (⟨rfl, by first | (unfold vsS v2S; rw [if_pos hg0]) | (unfold vsS v2S; rw [if_neg hg0, hi2, hbg])⟩) d_T_visitAt_211
            · skip
              have hg0 : ¬ gre (v1S σ c d a n) d = 0 := fun z => c9 (by rw [z]; decide)
              refine lv_aload_n hx hb d_T_visitAt_195 rfl (lv_at hl 0 rfl) ?_
              refine lv_iload_n hx hb d_T_visitAt_196 rfl (lv_at hl 1 rfl) ?_
              refine lv_iload hx hb d_T_visitAt_197 (lv_at hl 6 rfl) ?_
              refine lv_iload hx hb d_T_visitAt_199 (lv_at hl 5 rfl) ?_
              refine lv_aload_n hx hb d_T_visitAt_201 rfl (lv_at hl 0 rfl) ?_
              refine lv_iload_n hx hb d_T_visitAt_202 rfl (lv_at hl 1 rfl) ?_
              refine rd_run (c_V (As := [.int (nI c)]) (rest := [.int (nI (gre (v1S σ c d a n) d)), .int (nI k), .int (nI c), .ref t]) hx hb hml hl.1 hown hT hK hH.1 (c_T_seen l g t (v1S σ c d a n) c H.size hc) kw_T_seen w787 w789 selp_T_seen w8 hd_T_seen rfl rfl ⟨by decide, by decide⟩ (tw_t) rfl rfl rfl (Nat.le_of_ble_eq_true rfl) d_T_visitAt_203 ⟨by decide, by decide⟩) rfl ?_
              rw [show (seI (v1S σ c d a n) c) = seI σ c from se5 (v1S_r 5 (by decide) (by decide) (by decide)) c]
              refine m_run (c_V (As := [.int (nI c), .int (nI k), .int (nI (gre (v1S σ c d a n) d)), .int (seI σ c)]) (rest := []) hx hb hml hl.1 hown hT hK hH.1 (c_T_give l g t (v1S σ c d a n) c k (gre (v1S σ c d a n) d) (seI σ c) H.size hc (by omega) (by omega) (kOK3 (v1S_r 3 (by decide) (by decide) (by decide)) hk)) kw_T_give w791 w793 selp_T_give w8 hd_T_give rfl rfl ⟨by decide, by decide⟩ (tw_t) rfl rfl rfl (Nat.le_of_ble_eq_true rfl) d_T_visitAt_206 ⟨by decide, by decide⟩) hH (fun rv M1 H locs hpost hH hzz hdm hfr => ?_)
              obtain rfl : M1 = tw g t (gvS (v1S σ c d a n) c k (gre (v1S σ c d a n) d) (seI σ c)) := hpost
              refine W.eq (g2 := F0 mi 209 ls []) rfl ?_
              refine lv_iload hx hb d_T_visitAt_209 (lv_at hl 4 rfl) ?_
              exact m_iret hx hb hr hlocks hsz hH (⟨rfl, by first | (unfold vsS v2S; rw [if_pos hg0]) | (unfold vsS v2S; rw [if_neg hg0, hi2, hbg])⟩) d_T_visitAt_211
          · skip
            have hk1 : ¬ k ≤ 1 := fun z => c7 (nI_le (b := 1) z (by decide))
            obtain ⟨j, hj⟩ : ∃ j, k = j + 1 := ⟨k - 1, by omega⟩
            refine lv_aload_n hx hb d_T_visitAt_166 rfl (lv_at hl 0 rfl) ?_
            refine m_get (ci := 7) (v := .ref (t + 8)) hx hb hT in_T hown hK hH.1 (tw_t) rfl 10 (by decide) (hT _ w682) (fun _ h9 => h9) rfl d_T_visitAt_167 ?_
            refine lv_sipush (v := 3001) hx hb d_T_visitAt_170 (by decide) ?_
            refine lv_iload_n hx hb d_T_visitAt_173 rfl (lv_at hl 2 rfl) ?_
            refine lv_imul hx hb d_T_visitAt_174 ?_
            refine lv_iload hx hb d_T_visitAt_175 (lv_at hl 6 rfl) ?_
            refine lv_iadd hx hb d_T_visitAt_177 ?_
            refine lv_iconst (v := 1) hx hb d_T_visitAt_178 (by decide) ?_
            refine lv_isub hx hb d_T_visitAt_179 ?_
            refine m_zald hx hb hK hH.1 2 (tw_8) rfl (j := 3001 * d + j) (by rw [hj]; exact ixd2 d j) (by omega) (by decide) d_T_visitAt_180 ?_
            refine lv_if_eq (tgt := 190) hx hb d_T_visitAt_181 (by decide) (fun c8 => ?_) (fun c8 => ?_)
            · skip
              have hbg : bgF (v1S σ c d a n) d k = k := by rw [hj]; exact if_pos (Or.inr c8)
              refine lv_iload hx hb d_T_visitAt_190 (lv_at hl 5 rfl) ?_
              refine lv_if_le (tgt := 209) hx hb d_T_visitAt_192 (by decide) (fun c9 => ?_) (fun c9 => ?_)
              · skip
                have hg0 : gre (v1S σ c d a n) d = 0 := by have := ge_of (b := 0) c9 (by omega) (by decide); omega
                refine lv_iload hx hb d_T_visitAt_209 (lv_at hl 4 rfl) ?_
                exact m_iret hx hb hr hlocks hsz hH (⟨rfl, by first | (unfold vsS v2S; rw [if_pos hg0]) | (unfold vsS v2S; rw [if_neg hg0, hi2, hbg])⟩) d_T_visitAt_211
              · skip
                have hg0 : ¬ gre (v1S σ c d a n) d = 0 := fun z => c9 (by rw [z]; decide)
                refine lv_aload_n hx hb d_T_visitAt_195 rfl (lv_at hl 0 rfl) ?_
                refine lv_iload_n hx hb d_T_visitAt_196 rfl (lv_at hl 1 rfl) ?_
                refine lv_iload hx hb d_T_visitAt_197 (lv_at hl 6 rfl) ?_
                refine lv_iload hx hb d_T_visitAt_199 (lv_at hl 5 rfl) ?_
                refine lv_aload_n hx hb d_T_visitAt_201 rfl (lv_at hl 0 rfl) ?_
                refine lv_iload_n hx hb d_T_visitAt_202 rfl (lv_at hl 1 rfl) ?_
                refine rd_run (c_V (As := [.int (nI c)]) (rest := [.int (nI (gre (v1S σ c d a n) d)), .int (nI k), .int (nI c), .ref t]) hx hb hml hl.1 hown hT hK hH.1 (c_T_seen l g t (v1S σ c d a n) c H.size hc) kw_T_seen w787 w789 selp_T_seen w8 hd_T_seen rfl rfl ⟨by decide, by decide⟩ (tw_t) rfl rfl rfl (Nat.le_of_ble_eq_true rfl) d_T_visitAt_203 ⟨by decide, by decide⟩) rfl ?_
                rw [show (seI (v1S σ c d a n) c) = seI σ c from se5 (v1S_r 5 (by decide) (by decide) (by decide)) c]
                refine m_run (c_V (As := [.int (nI c), .int (nI k), .int (nI (gre (v1S σ c d a n) d)), .int (seI σ c)]) (rest := []) hx hb hml hl.1 hown hT hK hH.1 (c_T_give l g t (v1S σ c d a n) c k (gre (v1S σ c d a n) d) (seI σ c) H.size hc (by omega) (by omega) (kOK3 (v1S_r 3 (by decide) (by decide) (by decide)) hk)) kw_T_give w791 w793 selp_T_give w8 hd_T_give rfl rfl ⟨by decide, by decide⟩ (tw_t) rfl rfl rfl (Nat.le_of_ble_eq_true rfl) d_T_visitAt_206 ⟨by decide, by decide⟩) hH (fun rv M1 H locs hpost hH hzz hdm hfr => ?_)
                obtain rfl : M1 = tw g t (gvS (v1S σ c d a n) c k (gre (v1S σ c d a n) d) (seI σ c)) := hpost
                refine W.eq (g2 := F0 mi 209 ls []) rfl ?_
                refine lv_iload hx hb d_T_visitAt_209 (lv_at hl 4 rfl) ?_
                exact m_iret hx hb hr hlocks hsz hH (⟨rfl, by first | (unfold vsS v2S; rw [if_pos hg0]) | (unfold vsS v2S; rw [if_neg hg0, hi2, hbg])⟩) d_T_visitAt_211
            · skip
              have hrec : bgF (v1S σ c d a n) d k = bgF (v1S σ c d a n) d j := by rw [hj]; exact if_neg (fun z => z.elim (fun z => by omega) c8)
              refine lv_iinc (v := nI j) (lv' := [(8, .int (nI j)), (0, .ref t), (1, .int (nI c)), (2, .int (nI d)), (3, .int day), (6, .int (anI σ (v1S σ c d a n) c d e2 day)), (7, .int (nI (gre (v1S σ c d a n) d)))]) hx hb d_T_visitAt_184 hl (k := 6) rfl (by rw [hj]; exact pk_m1 j) (by decide) rfl (fun ls hl => ?_)
              refine lv_goto (tgt := 160) hx hb d_T_visitAt_187 (by decide) ?_
              exact ih (_, _, _, j) ⟨lv_sub hl [1, 2, 3, 4, 5, 6, 0] rfl, hH, by dsimp only; omega, by rw [hi2, hrec], by dsimp only; omega⟩ (by dsimp only; omega)
        · skip
          refine lv_aload_n hx hb d_T_visitAt_110 rfl (lv_at hl 1 rfl) ?_
          refine lv_iload_n hx hb d_T_visitAt_111 rfl (lv_at hl 3 rfl) ?_
          refine lv_iload_n hx hb d_T_visitAt_112 rfl (lv_at hl 2 rfl) ?_
          refine rd_run (c_V (As := [.int (nI d), .int (nI c)]) (rest := []) hx hb hml hl.1 hown hT hK hH.1 (c_T_revokedAt l g t (v1S σ c d a n) d c e2 H.size hd2 hc ((congrFun (v1S_r 6 (by decide) (by decide) (by decide)) c).trans he) he2) kw_T_revokedAt w810 w812 selp_T_revokedAt w8 hd_T_revokedAt rfl rfl ⟨by decide, by decide⟩ (tw_t) rfl rfl rfl (Nat.le_of_ble_eq_true rfl) d_T_visitAt_113 ⟨by decide, by decide⟩) rfl ?_
          refine lv_if_eq (tgt := 123) hx hb d_T_visitAt_116 (by decide) (fun c4 => ?_) (fun c4 => ?_)
          · skip
            have c4 : ¬ ¬ rvI (v1S σ c d a n) d e2 = 0 := fun z => z c4
            refine lv_aload_n hx hb d_T_visitAt_123 rfl (lv_at hl 1 rfl) ?_
            refine m_get (ci := 7) (v := .ref (t + 2)) hx hb hT in_T hown hK hH.1 (tw_t) rfl 3 (by decide) (hT _ w675) (fun _ h9 => h9) rfl d_T_visitAt_124 ?_
            refine lv_iload_n hx hb d_T_visitAt_127 rfl (lv_at hl 2 rfl) ?_
            refine m_iald hx hb hK hH.1 0 (tw_2) rfl (j := c) (rfl) (by omega) (by decide) d_T_visitAt_128 ?_
            rw [show ((v1S σ c d a n) 2 (c)) = σ 2 c from congrFun (v1S_r 2 (by decide) (by decide) (by decide)) c]
            refine lv_iload_n hx hb d_T_visitAt_129 rfl (lv_at hl 4 rfl) ?_
            refine lv_icmp_ge (tgt := 137) hx hb d_T_visitAt_130 (by decide) (fun c5 => ?_) (fun c5 => ?_)
            · skip
              have c5 : ¬ ¬ day ≤ σ 2 c := fun z => z c5
              refine lv_iload hx hb d_T_visitAt_137 (lv_at hl 0 rfl) ?_
              refine lv_if_eq (tgt := 146) hx hb d_T_visitAt_139 (by decide) (fun c6 => ?_) (fun c6 => ?_)
              · skip
                have c6 : ¬ ¬ inI σ c d = 0 := fun z => z c6
                refine lv_iconst (v := 3) hx hb d_T_visitAt_146 (by decide) ?_
                exact hj _ (by first | (unfold anI; rw [if_pos c4]) | (unfold anI; rw [if_neg c4, if_neg c5, if_pos c6]) | (unfold anI; rw [if_neg c4, if_pos c5]) | (unfold anI; rw [if_neg c4, if_neg c5, if_neg c6]))
              · skip
                refine lv_iconst (v := 0) hx hb d_T_visitAt_142 (by decide) ?_
                refine lv_goto (tgt := 147) hx hb d_T_visitAt_143 (by decide) ?_
                exact hj _ (by first | (unfold anI; rw [if_pos c4]) | (unfold anI; rw [if_neg c4, if_neg c5, if_pos c6]) | (unfold anI; rw [if_neg c4, if_pos c5]) | (unfold anI; rw [if_neg c4, if_neg c5, if_neg c6]))
            · skip
              refine lv_iconst (v := 2) hx hb d_T_visitAt_133 (by decide) ?_
              refine lv_goto (tgt := 147) hx hb d_T_visitAt_134 (by decide) ?_
              exact hj _ (by first | (unfold anI; rw [if_pos c4]) | (unfold anI; rw [if_neg c4, if_neg c5, if_pos c6]) | (unfold anI; rw [if_neg c4, if_pos c5]) | (unfold anI; rw [if_neg c4, if_neg c5, if_neg c6]))
          · skip
            refine lv_iconst (v := 1) hx hb d_T_visitAt_119 (by decide) ?_
            refine lv_goto (tgt := 147) hx hb d_T_visitAt_120 (by decide) ?_
            exact hj _ (by first | (unfold anI; rw [if_pos c4]) | (unfold anI; rw [if_neg c4, if_neg c5, if_pos c6]) | (unfold anI; rw [if_neg c4, if_pos c5]) | (unfold anI; rw [if_neg c4, if_neg c5, if_neg c6]))
      · skip
        refine lv_aload_n hx hb d_T_visitAt_84 rfl (lv_at hl 0 rfl) ?_
        refine m_get (ci := 7) (v := .ref (t + 1)) hx hb hT in_T hown hK hH.1 (tw_t) rfl 2 (by decide) (hT _ w674) (fun _ h9 => h9) rfl d_T_visitAt_85 ?_
        refine lv_iload_n hx hb d_T_visitAt_88 rfl (lv_at hl 1 rfl) ?_
        refine m_iald hx hb hK hH.1 0 (tw_1) rfl (j := c) (rfl) (by omega) (by decide) d_T_visitAt_89 ?_
        rw [show ((v1S σ c d a n) 1 (c)) = σ 1 c from congrFun (v1S_r 1 (by decide) (by decide) (by decide)) c]
        refine lv_aload_n hx hb d_T_visitAt_90 rfl (lv_at hl 0 rfl) ?_
        refine m_get (ci := 7) (v := .ref (t + 9)) hx hb hT in_T hown hK hH.1 (tw_t) rfl 11 (by decide) (hT _ w683) (fun _ h9 => h9) rfl d_T_visitAt_91 ?_
        refine lv_iload_n hx hb d_T_visitAt_94 rfl (lv_at hl 2 rfl) ?_
        refine m_iald hx hb hK hH.1 0 (tw_9) rfl (j := d) (rfl) (by omega) (by decide) d_T_visitAt_95 ?_
        rw [show ((v1S σ c d a n) 9 (d)) = σ 9 d from congrFun (v1S_r 9 (by decide) (by decide) (by decide)) d]
        refine lv_ishr hx hb d_T_visitAt_96 ?_
        refine lv_iconst (v := 1) hx hb d_T_visitAt_97 (by decide) ?_
        refine lv_iand hx hb d_T_visitAt_98 ?_
        refine lv_iconst (v := 1) hx hb d_T_visitAt_99 (by decide) ?_
        refine lv_icmp_ne (tgt := 107) hx hb d_T_visitAt_100 (by decide) (fun c3 => ?_) (fun c3 => ?_)
        · skip
          refine lv_iconst (v := 0) hx hb d_T_visitAt_107 (by decide) ?_
          exact hj _ (by first | (unfold inI; rw [if_pos c3]) | (unfold inI; rw [if_neg c3]))
        · skip
          have c3 : ¬ ¬ (σ 1 c >>> (σ 9 d &&& 31)) &&& 1 = 1 := fun z => z c3
          refine lv_iconst (v := 1) hx hb d_T_visitAt_103 (by decide) ?_
          refine lv_goto (tgt := 108) hx hb d_T_visitAt_104 (by decide) ?_
          exact hj _ (by first | (unfold inI; rw [if_pos c3]) | (unfold inI; rw [if_neg c3]))
    · skip
      refine lv_aload_n hx hb d_T_visitAt_55 rfl (lv_at hl 0 rfl) ?_
      refine lv_iload_n hx hb d_T_visitAt_56 rfl (lv_at hl 1 rfl) ?_
      refine rd_run (c_V (As := [.int (nI c)]) (rest := [.int (nI d), .ref (t + 11)]) hx hb hml hl.1 hown hT hK hH.1 (c_T_seen l g t (tkS (su σ 10 d 1) d a n) c H.size hc) kw_T_seen w787 w789 selp_T_seen w8 hd_T_seen rfl rfl ⟨by decide, by decide⟩ (tw_t) rfl rfl rfl (Nat.le_of_ble_eq_true rfl) d_T_visitAt_57 ⟨by decide, by decide⟩) rfl ?_
      rw [show (seI (tkS (su σ 10 d 1) d a n) c) = seI σ c from se5 ((tkS_r 5 (by decide) n).trans (su_kf (by decide))) c]
      refine lv_aload_n hx hb d_T_visitAt_60 rfl (lv_at hl 0 rfl) ?_
      refine m_get (ci := 7) (v := .ref (t + 11)) hx hb hT in_T hown hK hH.1 (tw_t) rfl 13 (by decide) (hT _ w685) (fun _ h9 => h9) rfl d_T_visitAt_61 ?_
      refine lv_iload_n hx hb d_T_visitAt_64 rfl (lv_at hl 2 rfl) ?_
      refine m_iald hx hb hK hH.1 0 (tw_11) rfl (j := d) (rfl) (by omega) (by decide) d_T_visitAt_65 ?_
      rw [show ((tkS (su σ 10 d 1) d a n) 11 (d)) = σ 11 d from congrFun ((tkS_r 11 (by decide) n).trans (su_kf (by decide))) d]
      refine lv_icmp_le (tgt := 77) hx hb d_T_visitAt_66 (by decide) (fun c2 => ?_) (fun c2 => ?_)
      · skip
        refine lv_aload_n hx hb d_T_visitAt_77 rfl (lv_at hl 0 rfl) ?_
        refine m_get (ci := 7) (v := .ref (t + 11)) hx hb hT in_T hown hK hH.1 (tw_t) rfl 13 (by decide) (hT _ w685) (fun _ h9 => h9) rfl d_T_visitAt_78 ?_
        refine lv_iload_n hx hb d_T_visitAt_81 rfl (lv_at hl 2 rfl) ?_
        refine m_iald hx hb hK hH.1 0 (tw_11) rfl (j := d) (rfl) (by omega) (by decide) d_T_visitAt_82 ?_
        rw [show ((tkS (su σ 10 d 1) d a n) 11 (d)) = σ 11 d from congrFun ((tkS_r 11 (by decide) n).trans (su_kf (by decide))) d]
        exact hj _ (by first | (unfold mxI; rw [if_pos c2]) | (unfold mxI; rw [if_neg c2]))
      · skip
        refine lv_aload_n hx hb d_T_visitAt_69 rfl (lv_at hl 0 rfl) ?_
        refine lv_iload_n hx hb d_T_visitAt_70 rfl (lv_at hl 1 rfl) ?_
        refine rd_run (c_V (As := [.int (nI c)]) (rest := [.int (nI d), .ref (t + 11)]) hx hb hml hl.1 hown hT hK hH.1 (c_T_seen l g t (tkS (su σ 10 d 1) d a n) c H.size hc) kw_T_seen w787 w789 selp_T_seen w8 hd_T_seen rfl rfl ⟨by decide, by decide⟩ (tw_t) rfl rfl rfl (Nat.le_of_ble_eq_true rfl) d_T_visitAt_71 ⟨by decide, by decide⟩) rfl ?_
        rw [show (seI (tkS (su σ 10 d 1) d a n) c) = seI σ c from se5 ((tkS_r 5 (by decide) n).trans (su_kf (by decide))) c]
        refine lv_goto (tgt := 83) hx hb d_T_visitAt_74 (by decide) ?_
        exact hj _ (by first | (unfold mxI; rw [if_pos c2]) | (unfold mxI; rw [if_neg c2]))
  · skip
    have hkn : k < n := by rcases Nat.lt_or_ge k n with h9 | h9; exact h9; exact absurd (nI_le h9 (by omega)) c1
    refine lv_aload_n hx hb d_T_visitAt_27 rfl (lv_at hl 0 rfl) ?_
    refine m_get (ci := 7) (v := .ref (t + 8)) hx hb hT in_T hown hK hH.1 (tw_t) rfl 10 (by decide) (hT _ w682) (fun _ h9 => h9) rfl d_T_visitAt_28 ?_
    refine lv_sipush (v := 3001) hx hb d_T_visitAt_31 (by decide) ?_
    refine lv_iload_n hx hb d_T_visitAt_34 rfl (lv_at hl 2 rfl) ?_
    refine lv_imul hx hb d_T_visitAt_35 ?_
    refine lv_iload hx hb d_T_visitAt_36 (lv_at hl 4 rfl) ?_
    refine lv_iadd hx hb d_T_visitAt_38 ?_
    refine lv_iload hx hb d_T_visitAt_39 (lv_at hl 5 rfl) ?_
    refine lv_iadd hx hb d_T_visitAt_41 ?_
    refine lv_iconst (v := 1) hx hb d_T_visitAt_42 (by decide) ?_
    refine m_zast hx hb hK hH 2 (tw_8) rfl (j := 3001 * d + a + k) (ixd3 d a k) (by omega) (by decide) d_T_visitAt_43 (fun H locs hH hzz => ?_)
    rw [show vp_nar .boolean 1 = 1 from rfl] at hH
    replace hH := tws_8 hH
    refine lv_iinc (v := nI (k + 1)) (lv' := [(5, .int (nI (k + 1))), (0, .ref t), (1, .int (nI c)), (2, .int (nI d)), (3, .int day), (4, .int (nI a))]) hx hb d_T_visitAt_44 hl (k := 5) rfl (nI_1 k) (by decide) rfl (fun ls hl => ?_)
    refine lv_goto (tgt := 17) hx hb d_T_visitAt_47 (by decide) ?_
    exact ih (_, _, _, k + 1) ⟨lv_sub hl [1, 2, 3, 4, 5, 0] rfl, hH, by dsimp only; omega⟩ (by dsimp only; omega)
end
