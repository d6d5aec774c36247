/-! The world as a map from addresses to cells: my own rows over the machine's rows. -/
abbrev GG : Type := va_G × (Nat → ClassId)
abbrev tyL (g : GG) : List (ClassId × FieldType) := [(g.2 0, .int), (g.2 1, .short), (g.2 2, .boolean), (g.2 3, .long), (g.2 4, .object "LockHouse$Door"), (g.2 5, .object "java/lang/Object")]
/-- the words that no frame keeps by itself -/
def NW : List Cond := [(Cond.methodLinkNest "LockHouse" (18 : Nat) ({ cls := "LockHouse$EntryList", name := "<init>", desc := "()V" } : MethodName) "LockHouse"), (Cond.arrayOver (FieldType.object "LockHouse$Door")), (Cond.fieldLinkNest "LockHouse" (110 : Nat) "LockHouse$Door" "zone" "I" "LockHouse"), (Cond.fieldLinkNest "LockHouse" (160 : Nat) "LockHouse$Door" "heard" "I" "LockHouse"), (Cond.fieldLinkNest "LockHouse" (157 : Nat) "LockHouse$Door" "greatest" "I" "LockHouse"), (Cond.fieldLinkNest "LockHouse" (104 : Nat) "LockHouse$Door" "used" "Z" "LockHouse"), (Cond.castable "java/lang/IllegalStateException" "java/lang/IllegalStateException"), (Cond.declares ({ cls := "java/lang/RuntimeException", name := "<init>", desc := "()V" } : MethodName)), (Cond.declares ({ cls := "java/lang/RuntimeException", name := "<init>", desc := "(Ljava/lang/String;)V" } : MethodName)), (Cond.declares ({ cls := "java/lang/Exception", name := "<init>", desc := "()V" } : MethodName)), (Cond.declares ({ cls := "java/lang/Exception", name := "<init>", desc := "(Ljava/lang/String;)V" } : MethodName)), (Cond.declares ({ cls := "java/lang/Throwable", name := "<init>", desc := "()V" } : MethodName)), (Cond.declares ({ cls := "java/lang/Throwable", name := "<init>", desc := "(Ljava/lang/String;)V" } : MethodName)), (Cond.methodLinkNest "LockHouse$Card" (9 : Nat) ({ cls := "LockHouse$Image", name := "<init>", desc := "()V" } : MethodName) "LockHouse"), (Cond.fieldLinkNest "LockHouse$Door" (63 : Nat) "LockHouse$Card" "endDay" "I" "LockHouse"), (Cond.fieldLinkNest "LockHouse$Door" (54 : Nat) "LockHouse$Card" "entry" "I" "LockHouse"), (Cond.fieldLinkNest "LockHouse" (72 : Nat) "LockHouse$Card" "entry" "I" "LockHouse"), (Cond.fieldLinkNest "LockHouse" (119 : Nat) "LockHouse$Card" "keep" "I" "LockHouse"), (Cond.fieldLinkNest "LockHouse" (122 : Nat) "LockHouse$Card" "wordsWritten" "I" "LockHouse"), (Cond.arrayOver (FieldType.object "java/lang/Object")), (Cond.castable "java/lang/IndexOutOfBoundsException" "java/lang/IndexOutOfBoundsException"), (Cond.fieldLinkNest "LockHouse$EntryList" (39 : Nat) "LockHouse$Entry" "card" "I" "LockHouse"), (Cond.castable "java/lang/IllegalArgumentException" "java/lang/IllegalArgumentException"), (Cond.castable "LockHouse$Card" "LockHouse$Card"), (Cond.castable "LockHouse$Entry" "LockHouse$Entry"), (Cond.declares ({ cls := "java/lang/Object", name := "getClass", desc := "()Ljava/lang/Class;" } : MethodName)), (Cond.castable "LockHouse" "java/lang/Object"), (Cond.castable "LockHouse$EntryList" "java/lang/Object"), (Cond.castable "LockHouse$Door" "java/lang/Object"), (Cond.castable "LockHouseModel" "java/lang/Object"), (Cond.castable "LockHouse$Card" "java/lang/Object"), (Cond.castable "LockHouse$Image" "java/lang/Object"), (Cond.castable "LockHouse$Entry" "java/lang/Object"), (Cond.castable "java/lang/String" "java/lang/Object")]
theorem nw_in : ∀ w ∈ NW, w ∈ lw_tbl := by
  unfold NW
  simp only [List.forall_mem_cons]
  exact ⟨u59, u70, u78, u80, u82, u84, u146, u147, u148, u149, u150, u151, u152, u220, u231, u235, u236, u238, u241, u307, u335, u375, u460, u880, u881, u884, u885, u886, u887, u888, u889, u890, u891, u892, fun _ h => absurd h List.not_mem_nil⟩
theorem nw59 : (Cond.methodLinkNest "LockHouse" (18 : Nat) ({ cls := "LockHouse$EntryList", name := "<init>", desc := "()V" } : MethodName) "LockHouse") ∈ NW := List.mem_of_getElem? (i := 0) rfl
theorem nw70 : (Cond.arrayOver (FieldType.object "LockHouse$Door")) ∈ NW := List.mem_of_getElem? (i := 1) rfl
theorem nw78 : (Cond.fieldLinkNest "LockHouse" (110 : Nat) "LockHouse$Door" "zone" "I" "LockHouse") ∈ NW := List.mem_of_getElem? (i := 2) rfl
theorem nw80 : (Cond.fieldLinkNest "LockHouse" (160 : Nat) "LockHouse$Door" "heard" "I" "LockHouse") ∈ NW := List.mem_of_getElem? (i := 3) rfl
theorem nw82 : (Cond.fieldLinkNest "LockHouse" (157 : Nat) "LockHouse$Door" "greatest" "I" "LockHouse") ∈ NW := List.mem_of_getElem? (i := 4) rfl
theorem nw84 : (Cond.fieldLinkNest "LockHouse" (104 : Nat) "LockHouse$Door" "used" "Z" "LockHouse") ∈ NW := List.mem_of_getElem? (i := 5) rfl
theorem nw146 : (Cond.castable "java/lang/IllegalStateException" "java/lang/IllegalStateException") ∈ NW := List.mem_of_getElem? (i := 6) rfl
theorem nw147 : (Cond.declares ({ cls := "java/lang/RuntimeException", name := "<init>", desc := "()V" } : MethodName)) ∈ NW := List.mem_of_getElem? (i := 7) rfl
theorem nw148 : (Cond.declares ({ cls := "java/lang/RuntimeException", name := "<init>", desc := "(Ljava/lang/String;)V" } : MethodName)) ∈ NW := List.mem_of_getElem? (i := 8) rfl
theorem nw149 : (Cond.declares ({ cls := "java/lang/Exception", name := "<init>", desc := "()V" } : MethodName)) ∈ NW := List.mem_of_getElem? (i := 9) rfl
theorem nw150 : (Cond.declares ({ cls := "java/lang/Exception", name := "<init>", desc := "(Ljava/lang/String;)V" } : MethodName)) ∈ NW := List.mem_of_getElem? (i := 10) rfl
theorem nw151 : (Cond.declares ({ cls := "java/lang/Throwable", name := "<init>", desc := "()V" } : MethodName)) ∈ NW := List.mem_of_getElem? (i := 11) rfl
theorem nw152 : (Cond.declares ({ cls := "java/lang/Throwable", name := "<init>", desc := "(Ljava/lang/String;)V" } : MethodName)) ∈ NW := List.mem_of_getElem? (i := 12) rfl
theorem nw220 : (Cond.methodLinkNest "LockHouse$Card" (9 : Nat) ({ cls := "LockHouse$Image", name := "<init>", desc := "()V" } : MethodName) "LockHouse") ∈ NW := List.mem_of_getElem? (i := 13) rfl
theorem nw231 : (Cond.fieldLinkNest "LockHouse$Door" (63 : Nat) "LockHouse$Card" "endDay" "I" "LockHouse") ∈ NW := List.mem_of_getElem? (i := 14) rfl
theorem nw235 : (Cond.fieldLinkNest "LockHouse$Door" (54 : Nat) "LockHouse$Card" "entry" "I" "LockHouse") ∈ NW := List.mem_of_getElem? (i := 15) rfl
theorem nw236 : (Cond.fieldLinkNest "LockHouse" (72 : Nat) "LockHouse$Card" "entry" "I" "LockHouse") ∈ NW := List.mem_of_getElem? (i := 16) rfl
theorem nw238 : (Cond.fieldLinkNest "LockHouse" (119 : Nat) "LockHouse$Card" "keep" "I" "LockHouse") ∈ NW := List.mem_of_getElem? (i := 17) rfl
theorem nw241 : (Cond.fieldLinkNest "LockHouse" (122 : Nat) "LockHouse$Card" "wordsWritten" "I" "LockHouse") ∈ NW := List.mem_of_getElem? (i := 18) rfl
theorem nw307 : (Cond.arrayOver (FieldType.object "java/lang/Object")) ∈ NW := List.mem_of_getElem? (i := 19) rfl
theorem nw335 : (Cond.castable "java/lang/IndexOutOfBoundsException" "java/lang/IndexOutOfBoundsException") ∈ NW := List.mem_of_getElem? (i := 20) rfl
theorem nw375 : (Cond.fieldLinkNest "LockHouse$EntryList" (39 : Nat) "LockHouse$Entry" "card" "I" "LockHouse") ∈ NW := List.mem_of_getElem? (i := 21) rfl
theorem nw460 : (Cond.castable "java/lang/IllegalArgumentException" "java/lang/IllegalArgumentException") ∈ NW := List.mem_of_getElem? (i := 22) rfl
theorem nw880 : (Cond.castable "LockHouse$Card" "LockHouse$Card") ∈ NW := List.mem_of_getElem? (i := 23) rfl
theorem nw881 : (Cond.castable "LockHouse$Entry" "LockHouse$Entry") ∈ NW := List.mem_of_getElem? (i := 24) rfl
theorem nw884 : (Cond.declares ({ cls := "java/lang/Object", name := "getClass", desc := "()Ljava/lang/Class;" } : MethodName)) ∈ NW := List.mem_of_getElem? (i := 25) rfl
theorem nw885 : (Cond.castable "LockHouse" "java/lang/Object") ∈ NW := List.mem_of_getElem? (i := 26) rfl
theorem nw886 : (Cond.castable "LockHouse$EntryList" "java/lang/Object") ∈ NW := List.mem_of_getElem? (i := 27) rfl
theorem nw887 : (Cond.castable "LockHouse$Door" "java/lang/Object") ∈ NW := List.mem_of_getElem? (i := 28) rfl
theorem nw888 : (Cond.castable "LockHouseModel" "java/lang/Object") ∈ NW := List.mem_of_getElem? (i := 29) rfl
theorem nw889 : (Cond.castable "LockHouse$Card" "java/lang/Object") ∈ NW := List.mem_of_getElem? (i := 30) rfl
theorem nw890 : (Cond.castable "LockHouse$Image" "java/lang/Object") ∈ NW := List.mem_of_getElem? (i := 31) rfl
theorem nw891 : (Cond.castable "LockHouse$Entry" "java/lang/Object") ∈ NW := List.mem_of_getElem? (i := 32) rfl
theorem nw892 : (Cond.castable "java/lang/String" "java/lang/Object") ∈ NW := List.mem_of_getElem? (i := 33) rfl
def nwOK : Cond → Bool
  | .fieldLinkNest .. => true
  | .methodLinkNest .. => true
  | .castable .. => true
  | .declares _ => true
  | .arrayOver (.object _) => true
  | _ => false
theorem nw_ok : ∀ w ∈ NW, nwOK w = true := by decide +kernel
theorem nw_warm {s U : State} (hW : s.WarmedH U.vm) {w : Cond} (hw : nwOK w = true) (h : va_Nw w s) : va_Nw w U := by
  cases w <;> first
    | exact va_Nw.warmF hW h
    | exact va_Nw.warmM hW h
    | exact va_Nw.warmC hW h
    | exact va_Nw.warmD hW h
    | (rename_i ty; cases ty <;> first | exact va_AO.moved hW.alike h | (simp [nwOK] at hw; done))
    | (simp [nwOK] at hw; done)
theorem nw_of {args : Array Value} {s : State} {w : Cond} (hw : nwOK w = true) (h : w.before args s = true) : va_Nw w s := by
  cases w <;> first
    | exact va_Nw.of rfl h
    | (rename_i ty; cases ty <;> first | exact h | (simp [nwOK] at hw; done))
    | (simp [nwOK] at hw; done)
