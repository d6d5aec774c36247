/-! The world as a map from addresses to cells: my own rows over the machine's rows. -/
abbrev GG : Type := va_G × (Nat → ClassId)
abbrev tyL (g : GG) : List (ClassId × FieldType) := [(g.2 0, .int), (g.2 1, .short), (g.2 2, .boolean), (g.2 3, .long), (g.2 4, .object "LockHouse$Door"), (g.2 5, .object "java/lang/Object")]
/-- the words that no frame keeps by itself -/
def NW : List Cond := [(Cond.methodLinkNest "LockHouse" (18 : Nat) ({ cls := "LockHouse$EntryList", name := "<init>", desc := "()V" } : MethodName) "LockHouse"), (Cond.arrayOver (FieldType.object "LockHouse$Door")), (Cond.fieldLinkNest "LockHouse" (110 : Nat) "LockHouse$Door" "zone" "I" "LockHouse"), (Cond.fieldLinkNest "LockHouse" (160 : Nat) "LockHouse$Door" "heard" "I" "LockHouse"), (Cond.fieldLinkNest "LockHouse" (157 : Nat) "LockHouse$Door" "greatest" "I" "LockHouse"), (Cond.fieldLinkNest "LockHouse" (104 : Nat) "LockHouse$Door" "used" "Z" "LockHouse"), (Cond.castable "java/lang/IllegalStateException" "java/lang/IllegalStateException"), (Cond.declares ({ cls := "java/lang/RuntimeException", name := "<init>", desc := "()V" } : MethodName)), (Cond.declares ({ cls := "java/lang/RuntimeException", name := "<init>", desc := "(Ljava/lang/String;)V" } : MethodName)), (Cond.declares ({ cls := "java/lang/Exception", name := "<init>", desc := "()V" } : MethodName)), (Cond.declares ({ cls := "java/lang/Exception", name := "<init>", desc := "(Ljava/lang/String;)V" } : MethodName)), (Cond.declares ({ cls := "java/lang/Throwable", name := "<init>", desc := "()V" } : MethodName)), (Cond.declares ({ cls := "java/lang/Throwable", name := "<init>", desc := "(Ljava/lang/String;)V" } : MethodName)), (Cond.methodLinkNest "LockHouse$Card" (9 : Nat) ({ cls := "LockHouse$Image", name := "<init>", desc := "()V" } : MethodName) "LockHouse"), (Cond.fieldLinkNest "LockHouse$Door" (63 : Nat) "LockHouse$Card" "endDay" "I" "LockHouse"), (Cond.fieldLinkNest "LockHouse$Door" (54 : Nat) "LockHouse$Card" "entry" "I" "LockHouse"), (Cond.fieldLinkNest "LockHouse" (72 : Nat) "LockHouse$Card" "entry" "I" "LockHouse"), (Cond.fieldLinkNest "LockHouse" (119 : Nat) "LockHouse$Card" "keep" "I" "LockHouse"), (Cond.fieldLinkNest "LockHouse" (122 : Nat) "LockHouse$Card" "wordsWritten" "I" "LockHouse"), (Cond.arrayOver (FieldType.object "java/lang/Object")), (Cond.castable "java/lang/IndexOutOfBoundsException" "java/lang/IndexOutOfBoundsException"), (Cond.fieldLinkNest "LockHouse$EntryList" (39 : Nat) "LockHouse$Entry" "card" "I" "LockHouse"), (Cond.castable "java/lang/IllegalArgumentException" "java/lang/IllegalArgumentException"), (Cond.castable "LockHouse$Card" "LockHouse$Card"), (Cond.castable "LockHouse$Entry" "LockHouse$Entry"), (Cond.declares ({ cls := "java/lang/Object", name := "getClass", desc := "()Ljava/lang/Class;" } : MethodName)), (Cond.castable "LockHouse" "java/lang/Object"), (Cond.castable "LockHouse$EntryList" "java/lang/Object"), (Cond.castable "LockHouse$Door" "java/lang/Object"), (Cond.castable "LockHouseModel" "java/lang/Object"), (Cond.castable "LockHouse$Card" "java/lang/Object"), (Cond.castable "LockHouse$Image" "java/lang/Object"), (Cond.castable "LockHouse$Entry" "java/lang/Object"), (Cond.castable "java/lang/String" "java/lang/Object")]
theorem nw_in : ∀ w ∈ NW, w ∈ lw_tbl := by
  unfold NW
  simp only [List.forall_mem_cons]
  exact ⟨u59, u70, u78, u80, u82, u84, u146, u147, u148, u149, u150, u151, u152, u220, u231, u235, u236, u238, u241, u307, u335, u375, u460, u880, u881, u884, u885, u886, u887, u888, u889, u890, u891, u892, fun _ h => absurd h List.not_mem_nil⟩
theorem nw59 : (Cond.methodLinkNest "LockHouse" (18 : Nat) ({ cls := "LockHouse$EntryList", name := "<init>", desc := "()V" } : MethodName) "LockHouse") ∈ NW := List.mem_of_getElem? (i := 0) rfl
theorem nw70 : (Cond.arrayOver (FieldType.object "LockHouse$Door")) ∈ NW := List.mem_of_getElem? (i := 1) rfl
theorem nw78 : (Cond.fieldLinkNest "LockHouse" (110 : Nat) "LockHouse$Door" "zone" "I" "LockHouse") ∈ NW := List.mem_of_getElem? (i := 2) rfl
theorem nw80 : (Cond.fieldLinkNest "LockHouse" (160 : Nat) "LockHouse$Door" "heard" "I" "LockHouse") ∈ NW := List.mem_of_getElem? (i := 3) rfl
theorem nw82 : (Cond.fieldLinkNest "LockHouse" (157 : Nat) "LockHouse$Door" "greatest" "I" "LockHouse") ∈ NW := List.mem_of_getElem? (i := 4) rfl
theorem nw84 : (Cond.fieldLinkNest "LockHouse" (104 : Nat) "LockHouse$Door" "used" "Z" "LockHouse") ∈ NW := List.mem_of_getElem? (i := 5) rfl
theorem nw146 : (Cond.castable "java/lang/IllegalStateException" "java/lang/IllegalStateException") ∈ NW := List.mem_of_getElem? (i := 6) rfl
theorem nw147 : (Cond.declares ({ cls := "java/lang/RuntimeException", name := "<init>", desc := "()V" } : MethodName)) ∈ NW := List.mem_of_getElem? (i := 7) rfl
theorem nw148 : (Cond.declares ({ cls := "java/lang/RuntimeException", name := "<init>", desc := "(Ljava/lang/String;)V" } : MethodName)) ∈ NW := List.mem_of_getElem? (i := 8) rfl
theorem nw149 : (Cond.declares ({ cls := "java/lang/Exception", name := "<init>", desc := "()V" } : MethodName)) ∈ NW := List.mem_of_getElem? (i := 9) rfl
theorem nw150 : (Cond.declares ({ cls := "java/lang/Exception", name := "<init>", desc := "(Ljava/lang/String;)V" } : MethodName)) ∈ NW := List.mem_of_getElem? (i := 10) rfl
theorem nw151 : (Cond.declares ({ cls := "java/lang/Throwable", name := "<init>", desc := "()V" } : MethodName)) ∈ NW := List.mem_of_getElem? (i := 11) rfl
theorem nw152 : (Cond.declares ({ cls := "java/lang/Throwable", name := "<init>", desc := "(Ljava/lang/String;)V" } : MethodName)) ∈ NW := List.mem_of_getElem? (i := 12) rfl
theorem nw220 : (Cond.methodLinkNest "LockHouse$Card" (9 : Nat) ({ cls := "LockHouse$Image", name := "<init>", desc := "()V" } : MethodName) "LockHouse") ∈ NW := List.mem_of_getElem? (i := 13) rfl
theorem nw231 : (Cond.fieldLinkNest "LockHouse$Door" (63 : Nat) "LockHouse$Card" "endDay" "I" "LockHouse") ∈ NW := List.mem_of_getElem? (i := 14) rfl
theorem nw235 : (Cond.fieldLinkNest "LockHouse$Door" (54 : Nat) "LockHouse$Card" "entry" "I" "LockHouse") ∈ NW := List.mem_of_getElem? (i := 15) rfl
theorem nw236 : (Cond.fieldLinkNest "LockHouse" (72 : Nat) "LockHouse$Card" "entry" "I" "LockHouse") ∈ NW := List.mem_of_getElem? (i := 16) rfl
theorem nw238 : (Cond.fieldLinkNest "LockHouse" (119 : Nat) "LockHouse$Card" "keep" "I" "LockHouse") ∈ NW := List.mem_of_getElem? (i := 17) rfl
theorem nw241 : (Cond.fieldLinkNest "LockHouse" (122 : Nat) "LockHouse$Card" "wordsWritten" "I" "LockHouse") ∈ NW := List.mem_of_getElem? (i := 18) rfl
theorem nw307 : (Cond.arrayOver (FieldType.object "java/lang/Object")) ∈ NW := List.mem_of_getElem? (i := 19) rfl
theorem nw335 : (Cond.castable "java/lang/IndexOutOfBoundsException" "java/lang/IndexOutOfBoundsException") ∈ NW := List.mem_of_getElem? (i := 20) rfl
theorem nw375 : (Cond.fieldLinkNest "LockHouse$EntryList" (39 : Nat) "LockHouse$Entry" "card" "I" "LockHouse") ∈ NW := List.mem_of_getElem? (i := 21) rfl
theorem nw460 : (Cond.castable "java/lang/IllegalArgumentException" "java/lang/IllegalArgumentException") ∈ NW := List.mem_of_getElem? (i := 22) rfl
theorem nw880 : (Cond.castable "LockHouse$Card" "LockHouse$Card") ∈ NW := List.mem_of_getElem? (i := 23) rfl
theorem nw881 : (Cond.castable "LockHouse$Entry" "LockHouse$Entry") ∈ NW := List.mem_of_getElem? (i := 24) rfl
theorem nw884 : (Cond.declares ({ cls := "java/lang/Object", name := "getClass", desc := "()Ljava/lang/Class;" } : MethodName)) ∈ NW := List.mem_of_getElem? (i := 25) rfl
theorem nw885 : (Cond.castable "LockHouse" "java/lang/Object") ∈ NW := List.mem_of_getElem? (i := 26) rfl
theorem nw886 : (Cond.castable "LockHouse$EntryList" "java/lang/Object") ∈ NW := List.mem_of_getElem? (i := 27) rfl
theorem nw887 : (Cond.castable "LockHouse$Door" "java/lang/Object") ∈ NW := List.mem_of_getElem? (i := 28) rfl
theorem nw888 : (Cond.castable "LockHouseModel" "java/lang/Object") ∈ NW := List.mem_of_getElem? (i := 29) rfl
theorem nw889 : (Cond.castable "LockHouse$Card" "java/lang/Object") ∈ NW := List.mem_of_getElem? (i := 30) rfl
theorem nw890 : (Cond.castable "LockHouse$Image" "java/lang/Object") ∈ NW := List.mem_of_getElem? (i := 31) rfl
theorem nw891 : (Cond.castable "LockHouse$Entry" "java/lang/Object") ∈ NW := List.mem_of_getElem? (i := 32) rfl
theorem nw892 : (Cond.castable "java/lang/String" "java/lang/Object") ∈ NW := List.mem_of_getElem? (i := 33) rfl
def nwOK : Cond → Bool
  | .fieldLinkNest .. => true
  | .methodLinkNest .. => true
  | .castable .. => true
  | .declares _ => true
  | .arrayOver (.object _) => true
  | _ => false
theorem nw_ok : ∀ w ∈ NW, nwOK w = true := by decide +kernel
theorem nw_warm {s U : State} (hW : s.WarmedH U.vm) {w : Cond} (hw : nwOK w = true) (h : va_Nw w s) : va_Nw w U := by
  cases w <;> first
    | exact va_Nw.warmF hW h
    | exact va_Nw.warmM hW h
    | exact va_Nw.warmC hW h
    | exact va_Nw.warmD hW h
    | (rename_i ty; cases ty <;> first | exact va_AO.moved hW.alike h | (simp [nwOK] at hw; done))
    | (simp [nwOK] at hw; done)
theorem nw_of {args : Array Value} {s : State} {w : Cond} (hw : nwOK w = true) (h : w.before args s = true) : va_Nw w s := by
  cases w <;> first
    | exact va_Nw.of rfl h
    | (rename_i ty; cases ty <;> first | exact h | (simp [nwOK] at hw; done))
    | (simp [nwOK] at hw; done)
def STRS : List (String × Nat × String) := [("LockHouse", 54, "no more cards can be issued"), ("LockHouse", 207, "no such card"), ("LockHouse", 79, "no more entries can be made"), ("LockHouse", 209, "no such door"), ("LockHouse", 101, "no such zone"), ("LockHouse", 108, "a card was shown there already"), ("LockHouse", 117, "no such number of words"), ("LockHouse", 129, "no such word"), ("LockHouse", 149, "a card carries no such thing"), ("LockHouse", 151, "no such entry on the card"), ("LockHouse", 172, "there is no such thing about a door"), ("LockHouse", 178, "no such run"), ("LockHouse", 187, "no such entry"), ("LockHouse", 199, "no such visit, card or door"), ("LockHouse", 201, "no such number of visits")]
theorem st54 : ("LockHouse", 54, "no more cards can be issued") ∈ STRS := List.mem_of_getElem? (i := 0) rfl
theorem st207 : ("LockHouse", 207, "no such card") ∈ STRS := List.mem_of_getElem? (i := 1) rfl
theorem st79 : ("LockHouse", 79, "no more entries can be made") ∈ STRS := List.mem_of_getElem? (i := 2) rfl
theorem st209 : ("LockHouse", 209, "no such door") ∈ STRS := List.mem_of_getElem? (i := 3) rfl
theorem st101 : ("LockHouse", 101, "no such zone") ∈ STRS := List.mem_of_getElem? (i := 4) rfl
theorem st108 : ("LockHouse", 108, "a card was shown there already") ∈ STRS := List.mem_of_getElem? (i := 5) rfl
theorem st117 : ("LockHouse", 117, "no such number of words") ∈ STRS := List.mem_of_getElem? (i := 6) rfl
theorem st129 : ("LockHouse", 129, "no such word") ∈ STRS := List.mem_of_getElem? (i := 7) rfl
theorem st149 : ("LockHouse", 149, "a card carries no such thing") ∈ STRS := List.mem_of_getElem? (i := 8) rfl
theorem st151 : ("LockHouse", 151, "no such entry on the card") ∈ STRS := List.mem_of_getElem? (i := 9) rfl
theorem st172 : ("LockHouse", 172, "there is no such thing about a door") ∈ STRS := List.mem_of_getElem? (i := 10) rfl
theorem st178 : ("LockHouse", 178, "no such run") ∈ STRS := List.mem_of_getElem? (i := 11) rfl
theorem st187 : ("LockHouse", 187, "no such entry") ∈ STRS := List.mem_of_getElem? (i := 12) rfl
theorem st199 : ("LockHouse", 199, "no such visit, card or door") ∈ STRS := List.mem_of_getElem? (i := 13) rfl
theorem st201 : ("LockHouse", 201, "no such number of visits") ∈ STRS := List.mem_of_getElem? (i := 14) rfl
/-- what the tables say, in a state -/
def KK (g : GG) (U : State) : Prop := va_K g.1 cls8 (tyL g) U ∧ (∀ w ∈ NW, va_Nw w U) ∧ ∀ q ∈ STRS, ∃ a : Nat, vk_R q.1 q.2.1 q.2.2 a U
theorem KK.warm {g : GG} {s U : State} (hW : s.WarmedH U.vm) (h : KK g s) : KK g U := ⟨va_K.moved hW.alike h.1, fun w hw => nw_warm hW (nw_ok w hw) (h.2.1 w hw), fun q hq => by
  obtain ⟨a, ha⟩ := h.2.2 q hq
  exact ⟨a, vk_R.warm hW ha⟩⟩
theorem KK.K {g : GG} {s : State} (h : KK g s) : va_K g.1 cls8 (tyL g) s := h.1
abbrev MW : Type := Nat → Option va_E
def PM (g : GG) (M : MW) (H : Heap) : Prop := ∀ (a : Nat) (e : va_E), M a = some e → va_at g.1 cls8 (a, e) H
def mu (M : MW) (a : Nat) (e : va_E) : MW := fun q => if q = a then some e else M q
theorem mu_s {M : MW} {a : Nat} {e : va_E} : mu M a e a = some e := if_pos rfl
theorem mu_n {M : MW} {a q : Nat} {e : va_E} (h : q ≠ a) : mu M a e q = M q := if_neg h
theorem mu_dom {M : MW} {a q : Nat} {e : va_E} (h : mu M a e q ≠ none) : q = a ∨ M q ≠ none := by
  by_cases hq : q = a
  · exact Or.inl hq
  · rw [mu_n hq] at h; exact Or.inr h
theorem some_ne {α : Type} {x : Option α} {e : α} (h : x = some e) : x ≠ none := by rw [h]; exact fun z => by cases z
theorem mu_keep {M : MW} {a q : Nat} {e : va_E} (h : M q ≠ none) : mu M a e q ≠ none := by
  by_cases hq : q = a
  · subst hq; rw [mu_s]; exact fun z => by cases z
  · rw [mu_n hq]; exact h
theorem PM.lt {g : GG} {M : MW} {H : Heap} {a : Nat} {e : va_E} (h : PM g M H) (he : M a = some e) : a < H.size := (h a e he).lt
theorem PM.ltn {g : GG} {M : MW} {H : Heap} {a : Nat} (h : PM g M H) (he : M a ≠ none) : a < H.size := by
  cases hm : M a with
  | none => exact absurd hm he
  | some e => exact h.lt hm
theorem PM.none {g : GG} {M : MW} {H : Heap} {a : Nat} (h : PM g M H) (ha : H.size ≤ a) : M a = none := by
  cases hm : M a with
  | none => rfl
  | some e => exact absurd (h.lt hm) (by omega)
theorem PM.one {g : GG} {M : MW} {H : Heap} {a : Nat} {e : va_E} (h : PM g M H) (he : M a = some e) : va_P g.1 cls8 [(a, e)] H := by
  intro k q hk
  cases k with
  | zero => cases hk; exact h a e he
  | succ k => simp at hk
theorem PM.put {g : GG} {M : MW} {H H1 : Heap} {a : Nat} {e : va_E} (h : PM g M H) (he : va_at g.1 cls8 (a, e) H1) (oq : ∀ q : Nat, q ≠ a → H1[q]? = H[q]?) : PM g (mu M a e) H1 := by
  intro q x hq
  by_cases hqa : q = a
  · subst hqa; rw [mu_s] at hq; cases hq; exact he
  · rw [mu_n hqa] at hq; exact (h q x hq).kept (oq q hqa)
theorem PM.new {g : GG} {M : MW} {H H1 : Heap} {e : va_E} (h : PM g M H) (he : va_at g.1 cls8 (H.size, e) H1) (oq : ∀ q : Nat, q < H.size → H1[q]? = H[q]?) : PM g (mu M H.size e) H1 := by
  intro q x hq
  by_cases hqa : q = H.size
  · subst hqa; rw [mu_s] at hq; cases hq; exact he
  · rw [mu_n hqa] at hq; exact (h q x hq).kept (oq q (h.lt hq))
theorem PM.kept {g : GG} {M : MW} {H H1 : Heap} (h : PM g M H) (hq : ∀ q : Nat, M q ≠ none → H1[q]? = H[q]?) : PM g M H1 := fun q x hx => (h q x hx).kept (hq q (some_ne hx))
theorem PM.recv {g : GG} {M : MW} {H : Heap} {s : State} {a ci : Nat} {r : vw_C} {fs : List Value} (hK : KK g s) (h : PM g M H) (he : M a = some (.inr (ci, fs))) (hc : cls8[ci]? = some r) : ∃ cell : Cell, H[a]? = some cell ∧ cell.vm.isStatics = false ∧ s.vm.findClass r.1 = some cell.cls := va_recv hK.1 (h.one he) hc (q0 := 0) rfl
/-- which cells a method may change -/
def mA (M : MW) (sz : Nat) : Nat → Prop := fun q => M q ≠ none ∨ sz ≤ q
/-- a walk's heap: it holds the map M, whose cells may be written; since H0 nothing outside A has changed -/
def HS (g : GG) (A : Nat → Prop) (H0 : Heap) (M : MW) (H : Heap) (locs : List Loc) : Prop := PM g M H ∧ (∀ q : Nat, M q ≠ none → A q) ∧ (∀ q : Nat, H0.size ≤ q → A q) ∧ va_S A H0 H locs
theorem HS.start {g : GG} {M : MW} {H : Heap} (h : PM g M H) : HS g (mA M H.size) H M H [] := ⟨h, fun _ q => Or.inl q, fun _ q => Or.inr q, va_S.rf⟩
theorem HS.P {g : GG} {A : Nat → Prop} {H0 : Heap} {M : MW} {H : Heap} {locs : List Loc} (h : HS g A H0 M H locs) : PM g M H := h.1
theorem HS.S {g : GG} {A : Nat → Prop} {H0 : Heap} {M : MW} {H : Heap} {locs : List Loc} (h : HS g A H0 M H locs) : va_S A H0 H locs := h.2.2.2
theorem HS.put {g : GG} {A : Nat → Prop} {H0 : Heap} {M : MW} {H H1 : Heap} {locs : List Loc} {a k : Nat} {e e0 : va_E} (h : HS g A H0 M H locs) (ha : M a = some e0) (he : va_at g.1 cls8 (a, e) H1) (z : H1.size = H.size) (oq : ∀ q : Nat, q ≠ a → H1[q]? = H[q]?) : HS g A H0 (mu M a e) H1 (locs ++ [⟨a, k⟩]) := by
  have hAa : A a := h.2.1 a (some_ne ha)
  refine ⟨h.1.put he oq, fun q hq => ?_, h.2.2.1, h.2.2.2.put z oq hAa⟩
  rcases mu_dom hq with rfl | hq
  · exact hAa
  · exact h.2.1 q hq
theorem HS.new {g : GG} {A : Nat → Prop} {H0 : Heap} {M : MW} {H H1 : Heap} {locs : List Loc} {e : va_E} (h : HS g A H0 M H locs) (he : va_at g.1 cls8 (H.size, e) H1) (z : H1.size = H.size + 1) (oq : ∀ q : Nat, q < H.size → H1[q]? = H[q]?) : HS g A H0 (mu M H.size e) H1 locs := by
  refine ⟨h.1.new he oq, fun q hq => ?_, h.2.2.1, ⟨Nat.le_trans h.S.1 (by omega), fun x h1 h2 => (oq x (Nat.lt_of_lt_of_le h1 h.S.1)).trans (h.S.2.1 x h1 h2), h.S.2.2⟩⟩
  rcases mu_dom hq with rfl | hq
  · exact h.2.2.1 _ h.S.1
  · exact h.2.1 q hq
theorem HS.mA {g : GG} {A : Nat → Prop} {H0 : Heap} {M : MW} {H : Heap} {locs : List Loc} (h : HS g A H0 M H locs) : ∀ q : Nat, mA M H.size q → A q := fun q hq => hq.elim (h.2.1 q) (fun z => h.2.2.1 q (Nat.le_trans h.S.1 z))
/-- a contract's start: the arguments, the map, the tables -/
def Pm (g : GG) (av : List Value) (sz : Nat) (M : MW) : Array Value → State → Prop := va_Pc av (fun U => U.heap.size = sz ∧ PM g M U.heap ∧ KK g U)
theorem Pm.blind {g : GG} {av : List Value} {sz : Nat} {M : MW} : FrameBlind (Pm g av sz M) := fun a U f mk q => by
  obtain ⟨q0, q1, qP, qK⟩ := q
  exact ⟨q0, q1, qP, KK.warm (s := U) (U := U.calling f mk a) (State.WarmedH.refl U) qK⟩
/-- the end of a method that only reads -/
def Qrd (v : Option Value) : Array Value → State → Outcome → State → Prop := fun _ st oc t => oc = .returned v ∧ t.heap = st.heap
/-- the end of a method that writes: the answer and the new map -/
def Qm {α : Type} (g : GG) (M : MW) (vf : α → Option Value) (post : α → MW → Prop) : Array Value → State → Outcome → State → Prop := fun _ st oc t => ∃ (v : α) (M' : MW), oc = .returned (vf v) ∧ post v M' ∧ PM g M' t.heap ∧ (∀ q : Nat, M' q ≠ none → mA M st.heap.size q) ∧ st.heap.size ≤ t.heap.size ∧ ∀ q : Nat, q < st.heap.size → M q = none → t.heap[q]? = st.heap[q]?
def nofree : Addr → Prop := fun _ => False
section MROWS
variable {p : Program} {l : Launch} {e : Env} {R : Room} {s : State} {m : MethodId} {args : Array Value} {below : List Frame} {meth : Method} {c : Code} {H : Heap} {locs : List Loc} {cells slots : Nat} {Q : State → Prop}
variable {cc : ByteArray} {pc : Nat} {ls : Array Slot} {rest : List Value} {g : GG} {A : Nat → Prop} {a : Nat} {M : MW} {H0 : Heap}
theorem m_get (hexec : p.tables.exec = Jvm.exec) (hb : c.code = cc) {own ref C : String} {T : u_T} {N ci index : Nat} {Ts : List Cond} (hts : ∀ w ∈ Ts, w.before args s = true) (hin : ∀ w ∈ u_ws C T N, w ∈ Ts) (hown : s.vm.findClass own = some m.cls) (hK : KK g s) (hP : PM g M H) {fs : List Value} (he : M a = some (.inr (ci, fs))) (hc : cls8[ci]? = some (C, T, N)) (k : Nat) (hk : k < N) (hlink : (Cond.fieldLink own index ref (T k).2.1 (T k).2.2.1).before args s = true) (hsame : ∀ x, s.fieldFound? (T k).1 (T k).2.1 (T k).2.2.1 = some x → s.fieldFound? ref (T k).2.1 (T k).2.2.1 = some x) {v : Value} (hv : fs[k]? = some v) (hdg : decode cc pc = .ok (.getfield index, 3))
    (kk : W p l e R s m args below meth c H locs cells slots Q (F0 m (pc + 3) ls (v :: rest))) : W p l e R s m args below meth c H locs cells slots Q (F0 m pc ls (.ref a :: rest)) :=
  va_get hexec hb hts hin hown hK.1 (hP.one he) 0 rfl hc k hk hlink hsame hv hdg kk
theorem m_getN (hexec : p.tables.exec = Jvm.exec) (hb : c.code = cc) {host : String} {own ref C : String} {T : u_T} {N ci index : Nat} {Ts : List Cond} (hts : ∀ w ∈ Ts, w.before args s = true) (hin : ∀ w ∈ u_ws C T N, w ∈ Ts) (hown : s.vm.findClass own = some m.cls) (hK : KK g s) (hP : PM g M H) {fs : List Value} (he : M a = some (.inr (ci, fs))) (hc : cls8[ci]? = some (C, T, N)) (k : Nat) (hk : k < N) (hlink : (Cond.fieldLinkNest own index ref (T k).2.1 (T k).2.2.1 host).before args s = true) (hsame : ∀ x, s.fieldFound? (T k).1 (T k).2.1 (T k).2.2.1 = some x → s.fieldFound? ref (T k).2.1 (T k).2.2.1 = some x) {v : Value} (hv : fs[k]? = some v) (hdg : decode cc pc = .ok (.getfield index, 3))
    (kk : W p l e R s m args below meth c H locs cells slots Q (F0 m (pc + 3) ls (v :: rest))) : W p l e R s m args below meth c H locs cells slots Q (F0 m pc ls (.ref a :: rest)) :=
  va_getN hexec hb hts hin hown hK.1 (hP.one he) 0 rfl hc k hk hlink hsame hv hdg kk
theorem m_put (hexec : p.tables.exec = Jvm.exec) (hb : c.code = cc) {own ref C : String} {T : u_T} {N ci index : Nat} {Ts : List Cond} (hts : ∀ w ∈ Ts, w.before args s = true) (hin : ∀ w ∈ u_ws C T N, w ∈ Ts) (ty0 : Nat → FieldType) (hty : ∀ k, k < N → parseFieldDescriptor (T k).2.2.1 = some (ty0 k)) (hnm : ∀ a, a < N → ∀ b, b < N → a ≠ b → (T a).2.1 ≠ (T b).2.1) (hown : s.vm.findClass own = some m.cls) (hK : KK g s) (hH : HS g A H0 M H locs) {fs : List Value} (he : M a = some (.inr (ci, fs))) (hc : cls8[ci]? = some (C, T, N)) (k : Nat) (hk : k < N) (hlink : (Cond.fieldLink own index ref (T k).2.1 (T k).2.2.1).before args s = true) (hsame : ∀ x, s.fieldFound? (T k).1 (T k).2.1 (T k).2.2.1 = some x → s.fieldFound? ref (T k).2.1 (T k).2.2.1 = some x) (hfin : (T k).2.2.2 = false) {ty : FieldType} {v : Value} (hd : parseFieldDescriptor (T k).2.2.1 = some ty) (hn : narrow ty v = v) (hfit : fits ty v = true) (hl : k < fs.length)
    (hdg : decode cc pc = .ok (.putfield index, 3)) {e1 : va_E} (he1 : e1 = .inr (ci, fs.set k v)) (kk : ∀ (H1 : Heap) (locs1 : List Loc), HS g A H0 (mu M a e1) H1 locs1 → H1.size = H.size → W p l e R s m args below meth c H1 locs1 cells slots Q (F0 m (pc + 3) ls rest)) : W p l e R s m args below meth c H locs cells slots Q (F0 m pc ls (v :: .ref a :: rest)) := by
  subst he1
  have hap := va_apart (own := own) hts hin ty0 hty hnm hK.1 hc
  obtain ⟨r, h1, cell, q1, q2, q3, q4⟩ := hH.1 a _ he
  have hr : r = (C, T, N) := Option.some.inj (h1.symm.trans hc)
  subst hr
  obtain ⟨hS, hfc, kC, hkC, hkind⟩ := hK.1.1 ci _ hc
  obtain ⟨cf, kf, fi, f, hi, hsl⟩ := hS k hk
  have hlay := hts _ (hin _ (u_in_lay hk))
  unfold u_lay at hlay
  rw [if_neg (by rw [hfin]; decide)] at hlay
  have hst := (u_facts hfc hkC (u_lays hts hin hk) hi).1
  have h6 := u_store hfc hkC hkind hlay hi hd hn hfit
  refine W.putK hexec hb (f := f) ⟨hown, hlink, ⟨_, _, _, hsame _ hi⟩, hst⟩ (by rw [q2]; exact h6) q1 q3 (by rw [hsl]; exact k2_hasslot (q4 k hk)) rfl rfl hdg fun H' x1 x2 x3 => ?_
  rw [hsl] at x1 ⊢
  exact kk H' _ (hH.put he ⟨_, hc, t_OB.to (V := updV (vp_V fs) k v) ⟨_, x1, q2, q3, t_set q4 hap hk v⟩ (fun j _ => vp_updV_set hl v j)⟩ x2 x3) x2
theorem m_putF (hexec : p.tables.exec = Jvm.exec) (hb : c.code = cc) {own ref C : String} {T : u_T} {N ci index : Nat} {Ts : List Cond} (hts : ∀ w ∈ Ts, w.before args s = true) (hin : ∀ w ∈ u_ws C T N, w ∈ Ts) (ty0 : Nat → FieldType) (hty : ∀ k, k < N → parseFieldDescriptor (T k).2.2.1 = some (ty0 k)) (hnm : ∀ a, a < N → ∀ b, b < N → a ≠ b → (T a).2.1 ≠ (T b).2.1) (hown : s.vm.findClass own = some m.cls) (hK : KK g s) (hH : HS g A H0 M H locs) {fs : List Value} (he : M a = some (.inr (ci, fs))) (hc : cls8[ci]? = some (C, T, N)) (k : Nat) (hk : k < N) (hlink : (Cond.fieldLink own index ref (T k).2.1 (T k).2.2.1).before args s = true) (hsame : ∀ x, s.fieldFound? (T k).1 (T k).2.1 (T k).2.2.1 = some x → s.fieldFound? ref (T k).2.1 (T k).2.2.1 = some x) (hfin : (T k).2.2.2 = true) (hin2 : meth.name = "<init>") (hdecl : (T k).1 = own) {ty : FieldType} {v : Value} (hd : parseFieldDescriptor (T k).2.2.1 = some ty) (hn : narrow ty v = v) (hfit : fits ty v = true) (hl : k < fs.length)
    (hdg : decode cc pc = .ok (.putfield index, 3)) {e1 : va_E} (he1 : e1 = .inr (ci, fs.set k v)) (kk : ∀ (H1 : Heap) (locs1 : List Loc), HS g A H0 (mu M a e1) H1 locs1 → H1.size = H.size → W p l e R s m args below meth c H1 locs1 cells slots Q (F0 m (pc + 3) ls rest)) : W p l e R s m args below meth c H locs cells slots Q (F0 m pc ls (v :: .ref a :: rest)) := by
  subst he1
  have hap := va_apart (own := own) hts hin ty0 hty hnm hK.1 hc
  obtain ⟨r, h1, cell, q1, q2, q3, q4⟩ := hH.1 a _ he
  have hr : r = (C, T, N) := Option.some.inj (h1.symm.trans hc)
  subst hr
  obtain ⟨hS, hfc, kC, hkC, hkind⟩ := hK.1.1 ci _ hc
  obtain ⟨cf, kf, fi, f, hi, hsl⟩ := hS k hk
  have hlay := hts _ (hin _ (u_in_lay hk))
  unfold u_lay at hlay
  rw [if_pos hfin] at hlay
  have hst := (u_facts hfc hkC (u_lays hts hin hk) hi).1
  have hcf : m.cls = cf := by
    obtain ⟨_, _, c', _, _, _, -, -, hf', -, -, -, hown2, -⟩ := Cond.laysFinal_spec hlay
    have x1 : c' = cf := by have := hi.symm.trans hf'; simp at this; exact this.1.symm
    rw [hdecl] at hown2
    rw [← x1]; exact Option.some.inj (hown.symm.trans hown2)
  have h6 := u_fits hfc hkC hkind (Or.inr hlay) hi hd hn hfit
  refine W.putFinK hexec hb hown hlink (hsame _ hi) hst hcf hin2 (by rw [q2]; exact h6) q1 q3 (by rw [hsl]; exact k2_hasslot (q4 k hk)) rfl rfl hdg fun H' x1 x2 x3 => ?_
  rw [hsl] at x1 ⊢
  exact kk H' _ (hH.put he ⟨_, hc, t_OB.to (V := updV (vp_V fs) k v) ⟨_, x1, q2, q3, t_set q4 hap hk v⟩ (fun j _ => vp_updV_set hl v j)⟩ x2 x3) x2
theorem m_new (hexec : p.tables.exec = Jvm.exec) (hb : c.code = cc) {own C : String} {T : u_T} {N ci index : Nat} {Ts : List Cond} (hts : ∀ w ∈ Ts, w.before args s = true) (hin : ∀ w ∈ u_ws C T N, w ∈ Ts) (ty : Nat → FieldType) (hty : ∀ k, k < N → parseFieldDescriptor (T k).2.2.1 = some (ty k)) (hown : s.vm.findClass own = some m.cls) (hcl : (Cond.classLink own index C).before args s = true) (hinst : (Cond.instantiable C N).before args s = true) (hini : (Cond.initialized C).before args s = true)
    (hK : KK g s) (hH : HS g A H0 M H locs) (hc : cls8[ci]? = some (C, T, N)) {fs : List Value} (hfs : ∀ j, j < N → defaultValue (ty j) = vp_V fs j) (hcells : cells + 1 ≤ R.cells) (hslots : slots + N ≤ R.slots) (hdg : decode cc pc = .ok (.new index, 3))
    (kk : ∀ (H1 : Heap), HS g A H0 (mu M H.size (.inr (ci, fs))) H1 locs → H1.size = H.size + 1 →
      W p l e R s m args below meth c H1 locs (cells + 1) (slots + N) Q (F0 m (pc + 3) ls (.ref H.size :: rest))) : W p l e R s m args below meth c H locs cells slots Q (F0 m pc ls rest) := by
  have hKn := hK.1.1 ci _ hc
  refine W.newcK hexec hb hown hcl hinst hini rfl hdg hcells hslots hKn.2.1 rfl fun H1 kC hkC x1 z1 o1 => ?_
  exact kk H1 (hH.new ⟨_, hc, (u_born ty hts hin hKn hkC x1 hty).to hfs⟩ z1 o1) z1
theorem m_iald (hexec : p.tables.exec = Jvm.exec) (hb : c.code = cc) (hK : KK g s) (hP : PM g M H) (t0 : Nat) {cA : ClassId} {n : Nat} {f : Nat → Int32} (ha : M a = some (.inl (cA, n, .inl f))) (ht : (tyL g)[t0]? = some (cA, .int)) {i : Int32} {j : Nat} (hj : i = nI j) (hin : j < n) (hn : n < 2 ^ 31) (hdg : decode cc pc = .ok (.iaload, 1))
    (kk : W p l e R s m args below meth c H locs cells slots Q (F0 m (pc + 1) ls (.int (f j) :: rest))) : W p l e R s m args below meth c H locs cells slots Q (F0 m pc ls (.int i :: .ref a :: rest)) := by
  subst hj
  refine va_iald hexec hb hK.1 (hP.one ha) 0 t0 rfl ht (vp_in_nI hin hn) hdg ?_
  rw [nI_clamp (by omega)]
  exact kk
theorem m_sald (hexec : p.tables.exec = Jvm.exec) (hb : c.code = cc) (hK : KK g s) (hP : PM g M H) (t0 : Nat) {cA : ClassId} {n : Nat} {f : Nat → Int32} (ha : M a = some (.inl (cA, n, .inl f))) (ht : (tyL g)[t0]? = some (cA, .short)) {i : Int32} {j : Nat} (hj : i = nI j) (hin : j < n) (hn : n < 2 ^ 31) (hdg : decode cc pc = .ok (.saload, 1))
    (kk : W p l e R s m args below meth c H locs cells slots Q (F0 m (pc + 1) ls (.int (f j) :: rest))) : W p l e R s m args below meth c H locs cells slots Q (F0 m pc ls (.int i :: .ref a :: rest)) := by
  subst hj
  refine va_sald hexec hb hK.1 (hP.one ha) 0 t0 rfl ht (vp_in_nI hin hn) hdg ?_
  rw [nI_clamp (by omega)]
  exact kk
theorem m_zald (hexec : p.tables.exec = Jvm.exec) (hb : c.code = cc) (hK : KK g s) (hP : PM g M H) (t0 : Nat) {cA : ClassId} {n : Nat} {f : Nat → Int32} (ha : M a = some (.inl (cA, n, .inl f))) (ht : (tyL g)[t0]? = some (cA, .boolean)) {i : Int32} {j : Nat} (hj : i = nI j) (hin : j < n) (hn : n < 2 ^ 31) (hdg : decode cc pc = .ok (.baload, 1))
    (kk : W p l e R s m args below meth c H locs cells slots Q (F0 m (pc + 1) ls (.int (f j) :: rest))) : W p l e R s m args below meth c H locs cells slots Q (F0 m pc ls (.int i :: .ref a :: rest)) := by
  subst hj
  refine va_zald hexec hb hK.1 (hP.one ha) 0 t0 rfl ht (vp_in_nI hin hn) hdg ?_
  rw [nI_clamp (by omega)]
  exact kk
theorem m_lald (hexec : p.tables.exec = Jvm.exec) (hb : c.code = cc) (hK : KK g s) (hP : PM g M H) (t0 : Nat) {cA : ClassId} {n : Nat} {f : Nat → Int64} (ha : M a = some (.inl (cA, n, .inr (.inl f)))) (ht : (tyL g)[t0]? = some (cA, .long)) {i : Int32} {j : Nat} (hj : i = nI j) (hin : j < n) (hn : n < 2 ^ 31) (hdg : decode cc pc = .ok (.laload, 1))
    (kk : W p l e R s m args below meth c H locs cells slots Q (F0 m (pc + 1) ls (.long (f j) :: rest))) : W p l e R s m args below meth c H locs cells slots Q (F0 m pc ls (.int i :: .ref a :: rest)) := by
  subst hj
  refine va_lald hexec hb hK.1 (hP.one ha) 0 t0 rfl ht (vp_in_nI hin hn) hdg ?_
  rw [nI_clamp (by omega)]
  exact kk
theorem m_aald (hexec : p.tables.exec = Jvm.exec) (hb : c.code = cc) (hK : KK g s) (hP : PM g M H) (t0 : Nat) {cA : ClassId} {C : String} {n : Nat} {f : Nat → Option Nat} (ha : M a = some (.inl (cA, n, .inr (.inr (.inr (.inr f)))))) (ht : (tyL g)[t0]? = some (cA, .object C)) {i : Int32} {j : Nat} (hj : i = nI j) (hin : j < n) (hn : n < 2 ^ 31) {v : Value} (hv : va_rf (f j) = v) (hdg : decode cc pc = .ok (.aaload, 1))
    (kk : W p l e R s m args below meth c H locs cells slots Q (F0 m (pc + 1) ls (v :: rest))) : W p l e R s m args below meth c H locs cells slots Q (F0 m pc ls (.int i :: .ref a :: rest)) := by
  subst hj
  refine va_aldq hexec hb hK.1 (hP.one ha) 0 t0 rfl ht (vp_in_nI hin hn) hdg ?_
  rw [nI_clamp (by omega), hv]
  exact kk
theorem m_alen (hexec : p.tables.exec = Jvm.exec) (hb : c.code = cc) (hK : KK g s) (hP : PM g M H) (t0 : Nat) {cA : ClassId} {x : vp_A} (ha : M a = some (.inl (cA, x))) {ty : FieldType} (ht : (tyL g)[t0]? = some (cA, ty)) {v : Int32} (hv : nI x.1 = v) (hdg : decode cc pc = .ok (.arraylength, 1))
    (kk : W p l e R s m args below meth c H locs cells slots Q (F0 m (pc + 1) ls (.int v :: rest))) : W p l e R s m args below meth c H locs cells slots Q (F0 m pc ls (.ref a :: rest)) :=
  va_alen hexec hb hK.1 (hP.one ha) 0 t0 rfl ht hv hdg kk
theorem m_iast (hexec : p.tables.exec = Jvm.exec) (hb : c.code = cc) (hK : KK g s) (hH : HS g A H0 M H locs) (t0 : Nat) {cA : ClassId} {n : Nat} {f : Nat → Int32} (ha : M a = some (.inl (cA, n, .inl f))) (ht : (tyL g)[t0]? = some (cA, .int)) {i x : Int32} {j : Nat} (hj : i = nI j) (hin : j < n) (hn : n < 2 ^ 31) (hdg : decode cc pc = .ok (.iastore, 1))
    (kk : ∀ (H1 : Heap) (locs1 : List Loc), HS g A H0 (mu M a (.inl (cA, n, .inl (upd f j x)))) H1 locs1 → H1.size = H.size → W p l e R s m args below meth c H1 locs1 cells slots Q (F0 m (pc + 1) ls rest)) : W p l e R s m args below meth c H locs cells slots Q (F0 m pc ls (.int x :: .int i :: .ref a :: rest)) := by
  subst hj
  have hcl : (nI j).toNatClampNeg = j := nI_clamp (by omega)
  refine W.iast hexec hb (hH.1 a _ ha) ((hK.1.2 t0 _ ht).1 n (fun j => .int (f j))) (fun q => by cases q) (by show ¬ (nI j < 0 ∨ (arrV _ _ _).slots.size ≤ _); rw [arrV_size]; exact vp_in_nI hin hn) rfl rfl hdg fun H1 x1 z oq => ?_
  refine kk H1 _ (hH.put ha ?_ z oq) z
  show H1[a]? = some (vp_cell _ _)
  rw [x1]
  rw [vp_cell_i, vp_cell_i, arrV_store, hcl]
  congr 2
  funext q
  by_cases hq : q = j
  · subst hq
    simp [updV, upd]
    first | done | rfl
  · simp [updV, upd, hq]
theorem m_sast (hexec : p.tables.exec = Jvm.exec) (hb : c.code = cc) (hK : KK g s) (hH : HS g A H0 M H locs) (t0 : Nat) {cA : ClassId} {n : Nat} {f : Nat → Int32} (ha : M a = some (.inl (cA, n, .inl f))) (ht : (tyL g)[t0]? = some (cA, .short)) {i x : Int32} {j : Nat} (hj : i = nI j) (hin : j < n) (hn : n < 2 ^ 31) (hdg : decode cc pc = .ok (.sastore, 1))
    (kk : ∀ (H1 : Heap) (locs1 : List Loc), HS g A H0 (mu M a (.inl (cA, n, .inl (upd f j (vp_nar .short x))))) H1 locs1 → H1.size = H.size → W p l e R s m args below meth c H1 locs1 cells slots Q (F0 m (pc + 1) ls rest)) : W p l e R s m args below meth c H locs cells slots Q (F0 m pc ls (.int x :: .int i :: .ref a :: rest)) := by
  subst hj
  have hcl : (nI j).toNatClampNeg = j := nI_clamp (by omega)
  refine W.sast hexec hb (hH.1 a _ ha) ((hK.1.2 t0 _ ht).1 n (fun j => .int (f j))) (fun q => by cases q) (by show ¬ (nI j < 0 ∨ (arrV _ _ _).slots.size ≤ _); rw [arrV_size]; exact vp_in_nI hin hn) rfl rfl hdg fun H1 x1 z oq => ?_
  refine kk H1 _ (hH.put ha ?_ z oq) z
  show H1[a]? = some (vp_cell _ _)
  rw [x1]
  rw [vp_cell_i, vp_cell_i, arrV_store, hcl]
  congr 2
  funext q
  by_cases hq : q = j
  · subst hq
    simp [updV, upd]
    first | done | rfl
  · simp [updV, upd, hq]
theorem m_zast (hexec : p.tables.exec = Jvm.exec) (hb : c.code = cc) (hK : KK g s) (hH : HS g A H0 M H locs) (t0 : Nat) {cA : ClassId} {n : Nat} {f : Nat → Int32} (ha : M a = some (.inl (cA, n, .inl f))) (ht : (tyL g)[t0]? = some (cA, .boolean)) {i x : Int32} {j : Nat} (hj : i = nI j) (hin : j < n) (hn : n < 2 ^ 31) (hdg : decode cc pc = .ok (.bastore, 1))
    (kk : ∀ (H1 : Heap) (locs1 : List Loc), HS g A H0 (mu M a (.inl (cA, n, .inl (upd f j (vp_nar .boolean x))))) H1 locs1 → H1.size = H.size → W p l e R s m args below meth c H1 locs1 cells slots Q (F0 m (pc + 1) ls rest)) : W p l e R s m args below meth c H locs cells slots Q (F0 m pc ls (.int x :: .int i :: .ref a :: rest)) := by
  subst hj
  have hcl : (nI j).toNatClampNeg = j := nI_clamp (by omega)
  refine W.zast hexec hb (hH.1 a _ ha) ((hK.1.2 t0 _ ht).1 n (fun j => .int (f j))) (fun q => by cases q) (by show ¬ (nI j < 0 ∨ (arrV _ _ _).slots.size ≤ _); rw [arrV_size]; exact vp_in_nI hin hn) rfl rfl hdg fun H1 x1 z oq => ?_
  refine kk H1 _ (hH.put ha ?_ z oq) z
  show H1[a]? = some (vp_cell _ _)
  rw [x1]
  rw [vp_cell_i, vp_cell_i, arrV_store, hcl]
  congr 2
  funext q
  by_cases hq : q = j
  · subst hq
    simp [updV, upd]
    first | done | rfl
  · simp [updV, upd, hq]
theorem m_last (hexec : p.tables.exec = Jvm.exec) (hb : c.code = cc) (hK : KK g s) (hH : HS g A H0 M H locs) (t0 : Nat) {cA : ClassId} {n : Nat} {f : Nat → Int64} (ha : M a = some (.inl (cA, n, .inr (.inl f)))) (ht : (tyL g)[t0]? = some (cA, .long)) {i : Int32} {x : Int64} {j : Nat} (hj : i = nI j) (hin : j < n) (hn : n < 2 ^ 31) (hdg : decode cc pc = .ok (.lastore, 1))
    (kk : ∀ (H1 : Heap) (locs1 : List Loc), HS g A H0 (mu M a (.inl (cA, n, .inr (.inl (vp_updL f j x))))) H1 locs1 → H1.size = H.size → W p l e R s m args below meth c H1 locs1 cells slots Q (F0 m (pc + 1) ls rest)) : W p l e R s m args below meth c H locs cells slots Q (F0 m pc ls (.long x :: .int i :: .ref a :: rest)) := by
  subst hj
  have hcl : (nI j).toNatClampNeg = j := nI_clamp (by omega)
  refine W.last hexec hb (hH.1 a _ ha) ((hK.1.2 t0 _ ht).1 n (fun j => .long (f j))) (fun q => by cases q) (by show ¬ (nI j < 0 ∨ (arrV _ _ _).slots.size ≤ _); rw [arrV_size]; exact vp_in_nI hin hn) rfl rfl hdg fun H1 x1 z oq => ?_
  refine kk H1 _ (hH.put ha ?_ z oq) z
  show H1[a]? = some (vp_cell _ _)
  rw [x1]
  rw [vp_cell_l, vp_cell_l, arrV_store, hcl]
  congr 2
  funext q
  by_cases hq : q = j
  · subst hq
    simp [updV, vp_updL]
  · simp [updV, vp_updL, hq]
theorem m_newa (hexec : p.tables.exec = Jvm.exec) (hb : c.code = cc) {atype : ArrayType} (harr : (Cond.arrayClass (newarray.typeOf atype)).before args s = true) {ty : FieldType} (hty : newarray.typeOf atype = ty) (hK : KK g s) (hH : HS g A H0 M H locs) (t0 : Nat) {cA : ClassId} (ht : (tyL g)[t0]? = some (cA, ty)) (hRA : va_RA s cA ty → s.vm.findClass ("[" ++ ty.toString) = some cA)
    {n : Int32} {N' : Nat} {a0 : vp_A} (ha : vp_cell cA a0 = arrV cA N' (fun _ => defaultValue ty)) (hn : n = nI N') (hN : N' < 2 ^ 31) (hbytes : N' * componentBytes ty ≤ 536870912) (hcells : cells + 1 ≤ R.cells) (hslots : slots + N' ≤ R.slots) (hdg : decode cc pc = .ok (.newarray atype, 2))
    (kk : ∀ (H1 : Heap), HS g A H0 (mu M H.size (.inl (cA, a0))) H1 locs → H1.size = H.size + 1 → W p l e R s m args below meth c H1 locs (cells + 1) (slots + N') Q (F0 m (pc + 2) ls (.ref H.size :: rest))) : W p l e R s m args below meth c H locs cells slots Q (F0 m pc ls (.int n :: rest)) := by
  subst hty
  subst hn
  refine va_newaK hexec hb harr rfl hdg rfl (nI_pos hN) (nI_clamp hN) hbytes hcells hslots rfl fun H1 cB x1 z1 o1 hAr hNm => ?_
  have hcc : cB = cA := Option.some.inj (hNm.symm.trans (hRA (hK.1.2 t0 _ ht).2))
  subst hcc
  refine kk H1 (hH.new ?_ z1 o1) z1
  show H1[H.size]? = some (vp_cell _ _)
  rw [ha]
  exact x1
end MROWS
