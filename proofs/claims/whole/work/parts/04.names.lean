/-! Classes with their fields, methods by name (by program). -/
def F_AL : u_T := fun k => match k with
  | 0 => ("java/util/ArrayList", "elementData", "[Ljava/lang/Object;", false)
  | 1 => ("java/util/ArrayList", "size", "I", false)
  | _ => ("java/util/AbstractList", "modCount", "I", false)
def ty_AL : Nat → FieldType := fun k => match k with
  | 0 => .array (.object "java/lang/Object")
  | 1 => .int
  | _ => .int
theorem tk_AL : ∀ k, k < 3 → parseFieldDescriptor (F_AL k).2.2.1 = some (ty_AL k) := by decide +kernel
theorem nm_AL : ∀ a, a < 3 → ∀ b, b < 3 → a ≠ b → (F_AL a).2.1 ≠ (F_AL b).2.1 := by decide +kernel
theorem in_AL : ∀ w ∈ u_ws "java/util/ArrayList" F_AL 3, w ∈ TT := by
  intro w hw
  obtain ⟨k, hk, rfl⟩ := List.mem_map.mp hw
  have hk := List.mem_range.mp hk
  rcases (show k = 0 ∨ k = 1 ∨ k = 2 by omega) with rfl | rfl | rfl
  · exact w50
  · exact w52
  · exact w54
def F_Card : u_T := fun k => match k with
  | 0 => ("LockHouse$Card", "zones", "I", true)
  | 1 => ("LockHouse$Card", "endDay", "I", true)
  | 2 => ("LockHouse$Card", "image0", "LLockHouse$Image;", true)
  | 3 => ("LockHouse$Card", "image1", "LLockHouse$Image;", true)
  | 4 => ("LockHouse$Card", "entry", "I", false)
  | 5 => ("LockHouse$Card", "keep", "I", false)
  | 6 => ("LockHouse$Card", "wordsLeft", "I", false)
  | _ => ("LockHouse$Card", "wordsWritten", "I", false)
def ty_Card : Nat → FieldType := fun k => match k with
  | 0 => .int
  | 1 => .int
  | 2 => .object "LockHouse$Image"
  | 3 => .object "LockHouse$Image"
  | 4 => .int
  | 5 => .int
  | 6 => .int
  | _ => .int
theorem tk_Card : ∀ k, k < 8 → parseFieldDescriptor (F_Card k).2.2.1 = some (ty_Card k) := by decide +kernel
theorem nm_Card : ∀ a, a < 8 → ∀ b, b < 8 → a ≠ b → (F_Card a).2.1 ≠ (F_Card b).2.1 := by decide +kernel
theorem in_Card : ∀ w ∈ u_ws "LockHouse$Card" F_Card 8, w ∈ TT := by
  intro w hw
  obtain ⟨k, hk, rfl⟩ := List.mem_map.mp hw
  have hk := List.mem_range.mp hk
  rcases (show k = 0 ∨ k = 1 ∨ k = 2 ∨ k = 3 ∨ k = 4 ∨ k = 5 ∨ k = 6 ∨ k = 7 by omega) with rfl | rfl | rfl | rfl | rfl | rfl | rfl | rfl
  · exact w242
  · exact w244
  · exact w246
  · exact w248
  · exact w250
  · exact w252
  · exact w254
  · exact w256
def F_Door : u_T := fun k => match k with
  | 0 => ("LockHouse$Door", "number", "I", true)
  | 1 => ("LockHouse$Door", "zone", "I", false)
  | 2 => ("LockHouse$Door", "heard", "I", false)
  | 3 => ("LockHouse$Door", "greatest", "I", false)
  | _ => ("LockHouse$Door", "used", "Z", false)
def ty_Door : Nat → FieldType := fun k => match k with
  | 0 => .int
  | 1 => .int
  | 2 => .int
  | 3 => .int
  | _ => .boolean
theorem tk_Door : ∀ k, k < 5 → parseFieldDescriptor (F_Door k).2.2.1 = some (ty_Door k) := by decide +kernel
theorem nm_Door : ∀ a, a < 5 → ∀ b, b < 5 → a ≠ b → (F_Door a).2.1 ≠ (F_Door b).2.1 := by decide +kernel
theorem in_Door : ∀ w ∈ u_ws "LockHouse$Door" F_Door 5, w ∈ TT := by
  intro w hw
  obtain ⟨k, hk, rfl⟩ := List.mem_map.mp hw
  have hk := List.mem_range.mp hk
  rcases (show k = 0 ∨ k = 1 ∨ k = 2 ∨ k = 3 ∨ k = 4 by omega) with rfl | rfl | rfl | rfl | rfl
  · exact w85
  · exact w87
  · exact w89
  · exact w91
  · exact w93
def F_Entry : u_T := fun k => match k with
  | 0 => ("LockHouse$Entry", "card", "I", true)
  | _ => ("LockHouse$Entry", "atDoor", "[Z", true)
def ty_Entry : Nat → FieldType := fun k => match k with
  | 0 => .int
  | _ => .array .boolean
theorem tk_Entry : ∀ k, k < 2 → parseFieldDescriptor (F_Entry k).2.2.1 = some (ty_Entry k) := by decide +kernel
theorem nm_Entry : ∀ a, a < 2 → ∀ b, b < 2 → a ≠ b → (F_Entry a).2.1 ≠ (F_Entry b).2.1 := by decide +kernel
theorem in_Entry : ∀ w ∈ u_ws "LockHouse$Entry" F_Entry 2, w ∈ TT := by
  intro w hw
  obtain ⟨k, hk, rfl⟩ := List.mem_map.mp hw
  have hk := List.mem_range.mp hk
  rcases (show k = 0 ∨ k = 1 by omega) with rfl | rfl
  · exact w377
  · exact w379
def F_EL : u_T := fun k => match k with
  | _ => ("LockHouse$EntryList", "inOrder", "Ljava/util/ArrayList;", true)
def ty_EL : Nat → FieldType := fun k => match k with
  | _ => .object "java/util/ArrayList"
theorem tk_EL : ∀ k, k < 1 → parseFieldDescriptor (F_EL k).2.2.1 = some (ty_EL k) := by decide +kernel
theorem nm_EL : ∀ a, a < 1 → ∀ b, b < 1 → a ≠ b → (F_EL a).2.1 ≠ (F_EL b).2.1 := by decide +kernel
theorem in_EL : ∀ w ∈ u_ws "LockHouse$EntryList" F_EL 1, w ∈ TT := by
  intro w hw
  obtain ⟨k, hk, rfl⟩ := List.mem_map.mp hw
  have hk := List.mem_range.mp hk
  have : k = 0 := by omega
  subst this
  exact w66
def F_Im : u_T := fun k => match k with
  | _ => ("LockHouse$Image", "words", "[S", true)
def ty_Im : Nat → FieldType := fun k => match k with
  | _ => .array .short
theorem tk_Im : ∀ k, k < 1 → parseFieldDescriptor (F_Im k).2.2.1 = some (ty_Im k) := by decide +kernel
theorem nm_Im : ∀ a, a < 1 → ∀ b, b < 1 → a ≠ b → (F_Im a).2.1 ≠ (F_Im b).2.1 := by decide +kernel
theorem in_Im : ∀ w ∈ u_ws "LockHouse$Image" F_Im 1, w ∈ TT := by
  intro w hw
  obtain ⟨k, hk, rfl⟩ := List.mem_map.mp hw
  have hk := List.mem_range.mp hk
  have : k = 0 := by omega
  subst this
  exact w225
def F_H : u_T := fun k => match k with
  | 0 => ("LockHouse", "issued", "Ljava/util/ArrayList;", true)
  | 1 => ("LockHouse", "list", "LLockHouse$EntryList;", true)
  | 2 => ("LockHouse", "doors", "[LLockHouse$Door;", true)
  | 3 => ("LockHouse", "visitCard", "[I", true)
  | 4 => ("LockHouse", "visitDoor", "[I", true)
  | _ => ("LockHouse", "visitDay", "[I", true)
def ty_H : Nat → FieldType := fun k => match k with
  | 0 => .object "java/util/ArrayList"
  | 1 => .object "LockHouse$EntryList"
  | 2 => .array (.object "LockHouse$Door")
  | 3 => .array .int
  | 4 => .array .int
  | _ => .array .int
theorem tk_H : ∀ k, k < 6 → parseFieldDescriptor (F_H k).2.2.1 = some (ty_H k) := by decide +kernel
theorem nm_H : ∀ a, a < 6 → ∀ b, b < 6 → a ≠ b → (F_H a).2.1 ≠ (F_H b).2.1 := by decide +kernel
theorem in_H : ∀ w ∈ u_ws "LockHouse" F_H 6, w ∈ TT := by
  intro w hw
  obtain ⟨k, hk, rfl⟩ := List.mem_map.mp hw
  have hk := List.mem_range.mp hk
  rcases (show k = 0 ∨ k = 1 ∨ k = 2 ∨ k = 3 ∨ k = 4 ∨ k = 5 by omega) with rfl | rfl | rfl | rfl | rfl | rfl
  · exact w106
  · exact w108
  · exact w110
  · exact w112
  · exact w114
  · exact w116
def F_T : u_T := fun k => match k with
  | 0 => ("LockHouseModel", "code", "I", false)
  | 1 => ("LockHouseModel", "cards", "I", false)
  | 2 => ("LockHouseModel", "zones", "[I", true)
  | 3 => ("LockHouseModel", "endDay", "[I", true)
  | 4 => ("LockHouseModel", "keep", "[I", true)
  | 5 => ("LockHouseModel", "written", "[I", true)
  | 6 => ("LockHouseModel", "words", "[S", true)
  | 7 => ("LockHouseModel", "entryFor", "[I", true)
  | 8 => ("LockHouseModel", "cardOf", "[I", true)
  | 9 => ("LockHouseModel", "entries", "I", false)
  | 10 => ("LockHouseModel", "has", "[Z", true)
  | 11 => ("LockHouseModel", "zone", "[I", true)
  | 12 => ("LockHouseModel", "used", "[Z", true)
  | 13 => ("LockHouseModel", "heard", "[I", true)
  | 14 => ("LockHouseModel", "some", "[Z", true)
  | 15 => ("LockHouseModel", "visitCard", "[I", true)
  | 16 => ("LockHouseModel", "visitDoor", "[I", true)
  | _ => ("LockHouseModel", "visitDay", "[I", true)
def ty_T : Nat → FieldType := fun k => match k with
  | 0 => .int
  | 1 => .int
  | 2 => .array .int
  | 3 => .array .int
  | 4 => .array .int
  | 5 => .array .int
  | 6 => .array .short
  | 7 => .array .int
  | 8 => .array .int
  | 9 => .int
  | 10 => .array .boolean
  | 11 => .array .int
  | 12 => .array .boolean
  | 13 => .array .int
  | 14 => .array .boolean
  | 15 => .array .int
  | 16 => .array .int
  | _ => .array .int
theorem tk_T : ∀ k, k < 18 → parseFieldDescriptor (F_T k).2.2.1 = some (ty_T k) := by decide +kernel
theorem nm_T : ∀ a, a < 18 → ∀ b, b < 18 → a ≠ b → (F_T a).2.1 ≠ (F_T b).2.1 := by decide +kernel
theorem in_T : ∀ w ∈ u_ws "LockHouseModel" F_T 18, w ∈ TT := by
  intro w hw
  obtain ⟨k, hk, rfl⟩ := List.mem_map.mp hw
  have hk := List.mem_range.mp hk
  rcases (show k = 0 ∨ k = 1 ∨ k = 2 ∨ k = 3 ∨ k = 4 ∨ k = 5 ∨ k = 6 ∨ k = 7 ∨ k = 8 ∨ k = 9 ∨ k = 10 ∨ k = 11 ∨ k = 12 ∨ k = 13 ∨ k = 14 ∨ k = 15 ∨ k = 16 ∨ k = 17 by omega) with rfl | rfl | rfl | rfl | rfl | rfl | rfl | rfl | rfl | rfl | rfl | rfl | rfl | rfl | rfl | rfl | rfl | rfl
  · exact w690
  · exact w692
  · exact w694
  · exact w696
  · exact w698
  · exact w700
  · exact w702
  · exact w704
  · exact w706
  · exact w708
  · exact w710
  · exact w712
  · exact w714
  · exact w716
  · exact w718
  · exact w720
  · exact w722
  · exact w724
abbrev cls8 : List vw_C := [("java/util/ArrayList", F_AL, 3), ("LockHouse$Card", F_Card, 8), ("LockHouse$Door", F_Door, 5), ("LockHouse$Entry", F_Entry, 2), ("LockHouse$EntryList", F_EL, 1), ("LockHouse$Image", F_Im, 1), ("LockHouse", F_H, 6), ("LockHouseModel", F_T, 18)]
abbrev y_H_init : MethodName := ⟨"LockHouse", "<init>", "()V"⟩
abbrev b_H_init : ByteArray := prog_1_method_1_code
abbrev k_H_init : Cond := .code y_H_init b_H_init 2 none
theorem kw_H_init : k_H_init ∈ TT := w27
theorem hd_H_init : y_H_init.cls ≠ "java/lang/invoke/MethodHandle" ∧ y_H_init.cls ≠ "java/lang/invoke/VarHandle" ∧ (parseMethodDescriptor y_H_init.desc).map (fun d => d.parameters.length) = some 0 := by decide +kernel
abbrev y_Obj_init : MethodName := ⟨"java/lang/Object", "<init>", "()V"⟩
abbrev b_Obj_init : ByteArray := object_method_1_code
abbrev k_Obj_init : Cond := .code y_Obj_init b_Obj_init 1 none
theorem kw_Obj_init : k_Obj_init ∈ TT := w30
theorem hd_Obj_init : y_Obj_init.cls ≠ "java/lang/invoke/MethodHandle" ∧ y_Obj_init.cls ≠ "java/lang/invoke/VarHandle" ∧ (parseMethodDescriptor y_Obj_init.desc).map (fun d => d.parameters.length) = some 0 := by decide +kernel
abbrev y_AL_init : MethodName := ⟨"java/util/ArrayList", "<init>", "()V"⟩
abbrev b_AL_init : ByteArray := prog_23_method_2_code
abbrev k_AL_init : Cond := .code y_AL_init b_AL_init 1 none
theorem kw_AL_init : k_AL_init ∈ TT := w35
theorem hd_AL_init : y_AL_init.cls ≠ "java/lang/invoke/MethodHandle" ∧ y_AL_init.cls ≠ "java/lang/invoke/VarHandle" ∧ (parseMethodDescriptor y_AL_init.desc).map (fun d => d.parameters.length) = some 0 := by decide +kernel
abbrev y_AbL_init : MethodName := ⟨"java/util/AbstractList", "<init>", "()V"⟩
abbrev b_AbL_init : ByteArray := prog_22_method_1_code
abbrev k_AbL_init : Cond := .code y_AbL_init b_AbL_init 1 none
theorem kw_AbL_init : k_AbL_init ∈ TT := w38
theorem hd_AbL_init : y_AbL_init.cls ≠ "java/lang/invoke/MethodHandle" ∧ y_AbL_init.cls ≠ "java/lang/invoke/VarHandle" ∧ (parseMethodDescriptor y_AbL_init.desc).map (fun d => d.parameters.length) = some 0 := by decide +kernel
abbrev y_AbC_init : MethodName := ⟨"java/util/AbstractCollection", "<init>", "()V"⟩
abbrev b_AbC_init : ByteArray := prog_21_method_1_code
abbrev k_AbC_init : Cond := .code y_AbC_init b_AbC_init 1 none
theorem kw_AbC_init : k_AbC_init ∈ TT := w41
theorem hd_AbC_init : y_AbC_init.cls ≠ "java/lang/invoke/MethodHandle" ∧ y_AbC_init.cls ≠ "java/lang/invoke/VarHandle" ∧ (parseMethodDescriptor y_AbC_init.desc).map (fun d => d.parameters.length) = some 0 := by decide +kernel
abbrev y_EL_init : MethodName := ⟨"LockHouse$EntryList", "<init>", "()V"⟩
abbrev b_EL_init : ByteArray := prog_5_method_1_code
abbrev k_EL_init : Cond := .code y_EL_init b_EL_init 1 none
theorem kw_EL_init : k_EL_init ∈ TT := w61
theorem hd_EL_init : y_EL_init.cls ≠ "java/lang/invoke/MethodHandle" ∧ y_EL_init.cls ≠ "java/lang/invoke/VarHandle" ∧ (parseMethodDescriptor y_EL_init.desc).map (fun d => d.parameters.length) = some 0 := by decide +kernel
abbrev y_Door_init : MethodName := ⟨"LockHouse$Door", "<init>", "(I)V"⟩
abbrev b_Door_init : ByteArray := prog_3_method_1_code
abbrev k_Door_init : Cond := .code y_Door_init b_Door_init 2 none
theorem kw_Door_init : k_Door_init ∈ TT := w74
theorem hd_Door_init : y_Door_init.cls ≠ "java/lang/invoke/MethodHandle" ∧ y_Door_init.cls ≠ "java/lang/invoke/VarHandle" ∧ (parseMethodDescriptor y_Door_init.desc).map (fun d => d.parameters.length) = some 1 := by decide +kernel
abbrev y_Arr_fill : MethodName := ⟨"java/util/Arrays", "fill", "([II)V"⟩
abbrev b_Arr_fill : ByteArray := prog_24_method_103_code
abbrev k_Arr_fill : Cond := .code y_Arr_fill b_Arr_fill 4 none
theorem kw_Arr_fill : k_Arr_fill ∈ TT := w99
theorem hd_Arr_fill : y_Arr_fill.cls ≠ "java/lang/invoke/MethodHandle" ∧ y_Arr_fill.cls ≠ "java/lang/invoke/VarHandle" ∧ (parseMethodDescriptor y_Arr_fill.desc).map (fun d => d.parameters.length) = some 2 := by decide +kernel
abbrev y_H_cards : MethodName := ⟨"LockHouse", "cards", "()I"⟩
abbrev b_H_cards : ByteArray := prog_1_method_3_code
abbrev k_H_cards : Cond := .code y_H_cards b_H_cards 1 (some FieldType.int)
theorem kw_H_cards : k_H_cards ∈ TT := w122
theorem hd_H_cards : y_H_cards.cls ≠ "java/lang/invoke/MethodHandle" ∧ y_H_cards.cls ≠ "java/lang/invoke/VarHandle" ∧ (parseMethodDescriptor y_H_cards.desc).map (fun d => d.parameters.length) = some 0 := by decide +kernel
abbrev y_AL_size : MethodName := ⟨"java/util/ArrayList", "size", "()I"⟩
abbrev b_AL_size : ByteArray := prog_23_method_8_code
abbrev k_AL_size : Cond := .code y_AL_size b_AL_size 1 (some FieldType.int)
theorem kw_AL_size : k_AL_size ∈ TT := w126
theorem hd_AL_size : y_AL_size.cls ≠ "java/lang/invoke/MethodHandle" ∧ y_AL_size.cls ≠ "java/lang/invoke/VarHandle" ∧ (parseMethodDescriptor y_AL_size.desc).map (fun d => d.parameters.length) = some 0 := by decide +kernel
abbrev y_H_entries : MethodName := ⟨"LockHouse", "entries", "()I"⟩
abbrev b_H_entries : ByteArray := prog_1_method_5_code
abbrev k_H_entries : Cond := .code y_H_entries b_H_entries 1 (some FieldType.int)
theorem kw_H_entries : k_H_entries ∈ TT := w130
theorem hd_H_entries : y_H_entries.cls ≠ "java/lang/invoke/MethodHandle" ∧ y_H_entries.cls ≠ "java/lang/invoke/VarHandle" ∧ (parseMethodDescriptor y_H_entries.desc).map (fun d => d.parameters.length) = some 0 := by decide +kernel
abbrev y_EL_made : MethodName := ⟨"LockHouse$EntryList", "made", "()I"⟩
abbrev b_EL_made : ByteArray := prog_5_method_2_code
abbrev k_EL_made : Cond := .code y_EL_made b_EL_made 1 (some FieldType.int)
theorem kw_EL_made : k_EL_made ∈ TT := w134
theorem hd_EL_made : y_EL_made.cls ≠ "java/lang/invoke/MethodHandle" ∧ y_EL_made.cls ≠ "java/lang/invoke/VarHandle" ∧ (parseMethodDescriptor y_EL_made.desc).map (fun d => d.parameters.length) = some 0 := by decide +kernel
abbrev y_L_issue : MethodName := ⟨"LockHouseLaw", "issue", "(LLockHouse;II[J)I"⟩
abbrev b_L_issue : ByteArray := method_3_code
abbrev k_L_issue : Cond := .codeWith y_L_issue b_L_issue 5 (some FieldType.int) [(0, 10, 13, 13)]
theorem kw_L_issue : k_L_issue ∈ TT := w138
theorem hd_L_issue : y_L_issue.cls ≠ "java/lang/invoke/MethodHandle" ∧ y_L_issue.cls ≠ "java/lang/invoke/VarHandle" ∧ (parseMethodDescriptor y_L_issue.desc).map (fun d => d.parameters.length) = some 4 := by decide +kernel
abbrev y_H_issue : MethodName := ⟨"LockHouse", "issue", "(II)I"⟩
abbrev b_H_issue : ByteArray := prog_1_method_2_code
abbrev k_H_issue : Cond := .code y_H_issue b_H_issue 3 (some FieldType.int)
theorem kw_H_issue : k_H_issue ∈ TT := w143
theorem hd_H_issue : y_H_issue.cls ≠ "java/lang/invoke/MethodHandle" ∧ y_H_issue.cls ≠ "java/lang/invoke/VarHandle" ∧ (parseMethodDescriptor y_H_issue.desc).map (fun d => d.parameters.length) = some 2 := by decide +kernel
abbrev y_Card_init : MethodName := ⟨"LockHouse$Card", "<init>", "(II)V"⟩
abbrev b_Card_init : ByteArray := prog_2_method_1_code
abbrev k_Card_init : Cond := .code y_Card_init b_Card_init 3 none
theorem kw_Card_init : k_Card_init ∈ TT := w216
theorem hd_Card_init : y_Card_init.cls ≠ "java/lang/invoke/MethodHandle" ∧ y_Card_init.cls ≠ "java/lang/invoke/VarHandle" ∧ (parseMethodDescriptor y_Card_init.desc).map (fun d => d.parameters.length) = some 2 := by decide +kernel
abbrev y_Im_init : MethodName := ⟨"LockHouse$Image", "<init>", "()V"⟩
abbrev b_Im_init : ByteArray := prog_6_method_1_code
abbrev k_Im_init : Cond := .code y_Im_init b_Im_init 1 none
theorem kw_Im_init : k_Im_init ∈ TT := w222
theorem hd_Im_init : y_Im_init.cls ≠ "java/lang/invoke/MethodHandle" ∧ y_Im_init.cls ≠ "java/lang/invoke/VarHandle" ∧ (parseMethodDescriptor y_Im_init.desc).map (fun d => d.parameters.length) = some 0 := by decide +kernel
abbrev y_AL_add1 : MethodName := ⟨"java/util/ArrayList", "add", "(Ljava/lang/Object;)Z"⟩
abbrev b_AL_add1 : ByteArray := prog_23_method_25_code
abbrev k_AL_add1 : Cond := .code y_AL_add1 b_AL_add1 2 (some FieldType.boolean)
theorem kw_AL_add1 : k_AL_add1 ∈ TT := w262
theorem hd_AL_add1 : y_AL_add1.cls ≠ "java/lang/invoke/MethodHandle" ∧ y_AL_add1.cls ≠ "java/lang/invoke/VarHandle" ∧ (parseMethodDescriptor y_AL_add1.desc).map (fun d => d.parameters.length) = some 1 := by decide +kernel
abbrev y_AL_add2 : MethodName := ⟨"java/util/ArrayList", "add", "(Ljava/lang/Object;[Ljava/lang/Object;I)V"⟩
abbrev b_AL_add2 : ByteArray := prog_23_method_24_code
abbrev k_AL_add2 : Cond := .code y_AL_add2 b_AL_add2 4 none
theorem kw_AL_add2 : k_AL_add2 ∈ TT := w266
theorem hd_AL_add2 : y_AL_add2.cls ≠ "java/lang/invoke/MethodHandle" ∧ y_AL_add2.cls ≠ "java/lang/invoke/VarHandle" ∧ (parseMethodDescriptor y_AL_add2.desc).map (fun d => d.parameters.length) = some 3 := by decide +kernel
abbrev y_AL_grow1 : MethodName := ⟨"java/util/ArrayList", "grow", "()[Ljava/lang/Object;"⟩
abbrev b_AL_grow1 : ByteArray := prog_23_method_7_code
abbrev k_AL_grow1 : Cond := .code y_AL_grow1 b_AL_grow1 1 (some (FieldType.array (FieldType.object "java/lang/Object")))
theorem kw_AL_grow1 : k_AL_grow1 ∈ TT := w270
theorem hd_AL_grow1 : y_AL_grow1.cls ≠ "java/lang/invoke/MethodHandle" ∧ y_AL_grow1.cls ≠ "java/lang/invoke/VarHandle" ∧ (parseMethodDescriptor y_AL_grow1.desc).map (fun d => d.parameters.length) = some 0 := by decide +kernel
abbrev y_AL_grow2 : MethodName := ⟨"java/util/ArrayList", "grow", "(I)[Ljava/lang/Object;"⟩
abbrev b_AL_grow2 : ByteArray := prog_23_method_6_code
abbrev k_AL_grow2 : Cond := .code y_AL_grow2 b_AL_grow2 4 (some (FieldType.array (FieldType.object "java/lang/Object")))
theorem kw_AL_grow2 : k_AL_grow2 ∈ TT := w274
theorem hd_AL_grow2 : y_AL_grow2.cls ≠ "java/lang/invoke/MethodHandle" ∧ y_AL_grow2.cls ≠ "java/lang/invoke/VarHandle" ∧ (parseMethodDescriptor y_AL_grow2.desc).map (fun d => d.parameters.length) = some 1 := by decide +kernel
abbrev y_ASup_newLength : MethodName := ⟨"jdk/internal/util/ArraysSupport", "newLength", "(III)I"⟩
abbrev b_ASup_newLength : ByteArray := prog_30_method_27_code
abbrev k_ASup_newLength : Cond := .code y_ASup_newLength b_ASup_newLength 4 (some FieldType.int)
theorem kw_ASup_newLength : k_ASup_newLength ∈ TT := w277
theorem hd_ASup_newLength : y_ASup_newLength.cls ≠ "java/lang/invoke/MethodHandle" ∧ y_ASup_newLength.cls ≠ "java/lang/invoke/VarHandle" ∧ (parseMethodDescriptor y_ASup_newLength.desc).map (fun d => d.parameters.length) = some 3 := by decide +kernel
abbrev y_Math_max : MethodName := ⟨"java/lang/Math", "max", "(II)I"⟩
abbrev b_Math_max : ByteArray := prog_16_method_65_code
abbrev k_Math_max : Cond := .code y_Math_max b_Math_max 2 (some FieldType.int)
theorem kw_Math_max : k_Math_max ∈ TT := w280
theorem hd_Math_max : y_Math_max.cls ≠ "java/lang/invoke/MethodHandle" ∧ y_Math_max.cls ≠ "java/lang/invoke/VarHandle" ∧ (parseMethodDescriptor y_Math_max.desc).map (fun d => d.parameters.length) = some 2 := by decide +kernel
abbrev y_ASup_hugeLength : MethodName := ⟨"jdk/internal/util/ArraysSupport", "hugeLength", "(II)I"⟩
abbrev b_ASup_hugeLength : ByteArray := prog_30_method_28_code
abbrev k_ASup_hugeLength : Cond := .code y_ASup_hugeLength b_ASup_hugeLength 3 (some FieldType.int)
theorem kw_ASup_hugeLength : k_ASup_hugeLength ∈ TT := w284
theorem hd_ASup_hugeLength : y_ASup_hugeLength.cls ≠ "java/lang/invoke/MethodHandle" ∧ y_ASup_hugeLength.cls ≠ "java/lang/invoke/VarHandle" ∧ (parseMethodDescriptor y_ASup_hugeLength.desc).map (fun d => d.parameters.length) = some 2 := by decide +kernel
abbrev y_Arr_copyOf1 : MethodName := ⟨"java/util/Arrays", "copyOf", "([Ljava/lang/Object;I)[Ljava/lang/Object;"⟩
abbrev b_Arr_copyOf1 : ByteArray := prog_24_method_119_code
abbrev k_Arr_copyOf1 : Cond := .code y_Arr_copyOf1 b_Arr_copyOf1 2 (some (FieldType.array (FieldType.object "java/lang/Object")))
theorem kw_Arr_copyOf1 : k_Arr_copyOf1 ∈ TT := w287
theorem hd_Arr_copyOf1 : y_Arr_copyOf1.cls ≠ "java/lang/invoke/MethodHandle" ∧ y_Arr_copyOf1.cls ≠ "java/lang/invoke/VarHandle" ∧ (parseMethodDescriptor y_Arr_copyOf1.desc).map (fun d => d.parameters.length) = some 2 := by decide +kernel
abbrev y_Arr_copyOf2 : MethodName := ⟨"java/util/Arrays", "copyOf", "([Ljava/lang/Object;ILjava/lang/Class;)[Ljava/lang/Object;"⟩
abbrev b_Arr_copyOf2 : ByteArray := prog_24_method_120_code
abbrev k_Arr_copyOf2 : Cond := .code y_Arr_copyOf2 b_Arr_copyOf2 4 (some (FieldType.array (FieldType.object "java/lang/Object")))
theorem kw_Arr_copyOf2 : k_Arr_copyOf2 ∈ TT := w305
theorem hd_Arr_copyOf2 : y_Arr_copyOf2.cls ≠ "java/lang/invoke/MethodHandle" ∧ y_Arr_copyOf2.cls ≠ "java/lang/invoke/VarHandle" ∧ (parseMethodDescriptor y_Arr_copyOf2.desc).map (fun d => d.parameters.length) = some 3 := by decide +kernel
abbrev y_Math_min : MethodName := ⟨"java/lang/Math", "min", "(II)I"⟩
abbrev b_Math_min : ByteArray := prog_16_method_69_code
abbrev k_Math_min : Cond := .code y_Math_min b_Math_min 2 (some FieldType.int)
theorem kw_Math_min : k_Math_min ∈ TT := w311
theorem hd_Math_min : y_Math_min.cls ≠ "java/lang/invoke/MethodHandle" ∧ y_Math_min.cls ≠ "java/lang/invoke/VarHandle" ∧ (parseMethodDescriptor y_Math_min.desc).map (fun d => d.parameters.length) = some 2 := by decide +kernel
abbrev y_L_revoke : MethodName := ⟨"LockHouseLaw", "revoke", "(LLockHouse;I[J)I"⟩
abbrev b_L_revoke : ByteArray := method_4_code
abbrev k_L_revoke : Cond := .codeWith y_L_revoke b_L_revoke 4 (some FieldType.int) [(0, 9, 12, 19), (0, 9, 15, 13)]
theorem kw_L_revoke : k_L_revoke ∈ TT := w319
theorem hd_L_revoke : y_L_revoke.cls ≠ "java/lang/invoke/MethodHandle" ∧ y_L_revoke.cls ≠ "java/lang/invoke/VarHandle" ∧ (parseMethodDescriptor y_L_revoke.desc).map (fun d => d.parameters.length) = some 3 := by decide +kernel
abbrev y_H_revoke : MethodName := ⟨"LockHouse", "revoke", "(I)I"⟩
abbrev b_H_revoke : ByteArray := prog_1_method_4_code
abbrev k_H_revoke : Cond := .code y_H_revoke b_H_revoke 3 (some FieldType.int)
theorem kw_H_revoke : k_H_revoke ∈ TT := w324
theorem hd_H_revoke : y_H_revoke.cls ≠ "java/lang/invoke/MethodHandle" ∧ y_H_revoke.cls ≠ "java/lang/invoke/VarHandle" ∧ (parseMethodDescriptor y_H_revoke.desc).map (fun d => d.parameters.length) = some 1 := by decide +kernel
abbrev y_H_cardAt : MethodName := ⟨"LockHouse", "cardAt", "(I)LLockHouse$Card;"⟩
abbrev b_H_cardAt : ByteArray := prog_1_method_23_code
abbrev k_H_cardAt : Cond := .code y_H_cardAt b_H_cardAt 2 (some (FieldType.object "LockHouse$Card"))
theorem kw_H_cardAt : k_H_cardAt ∈ TT := w328
theorem hd_H_cardAt : y_H_cardAt.cls ≠ "java/lang/invoke/MethodHandle" ∧ y_H_cardAt.cls ≠ "java/lang/invoke/VarHandle" ∧ (parseMethodDescriptor y_H_cardAt.desc).map (fun d => d.parameters.length) = some 1 := by decide +kernel
abbrev y_H_isCard : MethodName := ⟨"LockHouse", "isCard", "(I)Z"⟩
abbrev b_H_isCard : ByteArray := prog_1_method_21_code
abbrev k_H_isCard : Cond := .code y_H_isCard b_H_isCard 2 (some FieldType.boolean)
theorem kw_H_isCard : k_H_isCard ∈ TT := w332
theorem hd_H_isCard : y_H_isCard.cls ≠ "java/lang/invoke/MethodHandle" ∧ y_H_isCard.cls ≠ "java/lang/invoke/VarHandle" ∧ (parseMethodDescriptor y_H_isCard.desc).map (fun d => d.parameters.length) = some 1 := by decide +kernel
abbrev y_AL_get : MethodName := ⟨"java/util/ArrayList", "get", "(I)Ljava/lang/Object;"⟩
abbrev b_AL_get : ByteArray := prog_23_method_20_code
abbrev k_AL_get : Cond := .code y_AL_get b_AL_get 2 (some (FieldType.object "java/lang/Object"))
theorem kw_AL_get : k_AL_get ∈ TT := w352
theorem hd_AL_get : y_AL_get.cls ≠ "java/lang/invoke/MethodHandle" ∧ y_AL_get.cls ≠ "java/lang/invoke/VarHandle" ∧ (parseMethodDescriptor y_AL_get.desc).map (fun d => d.parameters.length) = some 1 := by decide +kernel
abbrev y_Objs_checkIndex : MethodName := ⟨"java/util/Objects", "checkIndex", "(II)I"⟩
abbrev b_Objs_checkIndex : ByteArray := prog_27_method_17_code
abbrev k_Objs_checkIndex : Cond := .code y_Objs_checkIndex b_Objs_checkIndex 2 (some FieldType.int)
theorem kw_Objs_checkIndex : k_Objs_checkIndex ∈ TT := w355
theorem hd_Objs_checkIndex : y_Objs_checkIndex.cls ≠ "java/lang/invoke/MethodHandle" ∧ y_Objs_checkIndex.cls ≠ "java/lang/invoke/VarHandle" ∧ (parseMethodDescriptor y_Objs_checkIndex.desc).map (fun d => d.parameters.length) = some 2 := by decide +kernel
abbrev y_Pre_checkIndex : MethodName := ⟨"jdk/internal/util/Preconditions", "checkIndex", "(IILjava/util/function/BiFunction;)I"⟩
abbrev b_Pre_checkIndex : ByteArray := prog_31_method_11_code
abbrev k_Pre_checkIndex : Cond := .code y_Pre_checkIndex b_Pre_checkIndex 3 (some FieldType.int)
theorem kw_Pre_checkIndex : k_Pre_checkIndex ∈ TT := w358
theorem hd_Pre_checkIndex : y_Pre_checkIndex.cls ≠ "java/lang/invoke/MethodHandle" ∧ y_Pre_checkIndex.cls ≠ "java/lang/invoke/VarHandle" ∧ (parseMethodDescriptor y_Pre_checkIndex.desc).map (fun d => d.parameters.length) = some 3 := by decide +kernel
abbrev y_AL_elementData : MethodName := ⟨"java/util/ArrayList", "elementData", "(I)Ljava/lang/Object;"⟩
abbrev b_AL_elementData : ByteArray := prog_23_method_18_code
abbrev k_AL_elementData : Cond := .code y_AL_elementData b_AL_elementData 2 (some (FieldType.object "java/lang/Object"))
theorem kw_AL_elementData : k_AL_elementData ∈ TT := w362
theorem hd_AL_elementData : y_AL_elementData.cls ≠ "java/lang/invoke/MethodHandle" ∧ y_AL_elementData.cls ≠ "java/lang/invoke/VarHandle" ∧ (parseMethodDescriptor y_AL_elementData.desc).map (fun d => d.parameters.length) = some 1 := by decide +kernel
abbrev y_EL_append : MethodName := ⟨"LockHouse$EntryList", "append", "(I)I"⟩
abbrev b_EL_append : ByteArray := prog_5_method_3_code
abbrev k_EL_append : Cond := .code y_EL_append b_EL_append 2 (some FieldType.int)
theorem kw_EL_append : k_EL_append ∈ TT := w367
theorem hd_EL_append : y_EL_append.cls ≠ "java/lang/invoke/MethodHandle" ∧ y_EL_append.cls ≠ "java/lang/invoke/VarHandle" ∧ (parseMethodDescriptor y_EL_append.desc).map (fun d => d.parameters.length) = some 1 := by decide +kernel
abbrev y_Entry_init : MethodName := ⟨"LockHouse$Entry", "<init>", "(I)V"⟩
abbrev b_Entry_init : ByteArray := prog_4_method_1_code
abbrev k_Entry_init : Cond := .code y_Entry_init b_Entry_init 2 none
theorem kw_Entry_init : k_Entry_init ∈ TT := w372
theorem hd_Entry_init : y_Entry_init.cls ≠ "java/lang/invoke/MethodHandle" ∧ y_Entry_init.cls ≠ "java/lang/invoke/VarHandle" ∧ (parseMethodDescriptor y_Entry_init.desc).map (fun d => d.parameters.length) = some 1 := by decide +kernel
abbrev y_L_gate : MethodName := ⟨"LockHouseLaw", "gate", "(LLockHouse;I)I"⟩
abbrev b_L_gate : ByteArray := method_5_code
abbrev k_L_gate : Cond := .codeWith y_L_gate b_L_gate 3 (some FieldType.int) [(0, 5, 8, 19)]
theorem kw_L_gate : k_L_gate ∈ TT := w386
theorem hd_L_gate : y_L_gate.cls ≠ "java/lang/invoke/MethodHandle" ∧ y_L_gate.cls ≠ "java/lang/invoke/VarHandle" ∧ (parseMethodDescriptor y_L_gate.desc).map (fun d => d.parameters.length) = some 2 := by decide +kernel
abbrev y_H_gate : MethodName := ⟨"LockHouse", "gate", "(I)V"⟩
abbrev b_H_gate : ByteArray := prog_1_method_6_code
abbrev k_H_gate : Cond := .code y_H_gate b_H_gate 6 none
theorem kw_H_gate : k_H_gate ∈ TT := w390
theorem hd_H_gate : y_H_gate.cls ≠ "java/lang/invoke/MethodHandle" ∧ y_H_gate.cls ≠ "java/lang/invoke/VarHandle" ∧ (parseMethodDescriptor y_H_gate.desc).map (fun d => d.parameters.length) = some 1 := by decide +kernel
abbrev y_Card_store : MethodName := ⟨"LockHouse$Card", "store", "(IIILLockHouse$EntryList;)V"⟩
abbrev b_Card_store : ByteArray := prog_2_method_5_code
abbrev k_Card_store : Cond := .code y_Card_store b_Card_store 10 none
theorem kw_Card_store : k_Card_store ∈ TT := w395
theorem hd_Card_store : y_Card_store.cls ≠ "java/lang/invoke/MethodHandle" ∧ y_Card_store.cls ≠ "java/lang/invoke/VarHandle" ∧ (parseMethodDescriptor y_Card_store.desc).map (fun d => d.parameters.length) = some 4 := by decide +kernel
abbrev y_Card_currentIndex : MethodName := ⟨"LockHouse$Card", "currentIndex", "()I"⟩
abbrev b_Card_currentIndex : ByteArray := prog_2_method_3_code
abbrev k_Card_currentIndex : Cond := .code y_Card_currentIndex b_Card_currentIndex 2 (some FieldType.int)
theorem kw_Card_currentIndex : k_Card_currentIndex ∈ TT := w399
theorem hd_Card_currentIndex : y_Card_currentIndex.cls ≠ "java/lang/invoke/MethodHandle" ∧ y_Card_currentIndex.cls ≠ "java/lang/invoke/VarHandle" ∧ (parseMethodDescriptor y_Card_currentIndex.desc).map (fun d => d.parameters.length) = some 0 := by decide +kernel
abbrev y_Im_isWhole : MethodName := ⟨"LockHouse$Image", "isWhole", "()Z"⟩
abbrev b_Im_isWhole : ByteArray := prog_6_method_4_code
abbrev k_Im_isWhole : Cond := .code y_Im_isWhole b_Im_isWhole 1 (some FieldType.boolean)
theorem kw_Im_isWhole : k_Im_isWhole ∈ TT := w403
theorem hd_Im_isWhole : y_Im_isWhole.cls ≠ "java/lang/invoke/MethodHandle" ∧ y_Im_isWhole.cls ≠ "java/lang/invoke/VarHandle" ∧ (parseMethodDescriptor y_Im_isWhole.desc).map (fun d => d.parameters.length) = some 0 := by decide +kernel
abbrev y_Im_at : MethodName := ⟨"LockHouse$Image", "at", "(I)I"⟩
abbrev b_Im_at : ByteArray := prog_6_method_2_code
abbrev k_Im_at : Cond := .code y_Im_at b_Im_at 2 (some FieldType.int)
theorem kw_Im_at : k_Im_at ∈ TT := w407
theorem hd_Im_at : y_Im_at.cls ≠ "java/lang/invoke/MethodHandle" ∧ y_Im_at.cls ≠ "java/lang/invoke/VarHandle" ∧ (parseMethodDescriptor y_Im_at.desc).map (fun d => d.parameters.length) = some 1 := by decide +kernel
abbrev y_Im_sequence : MethodName := ⟨"LockHouse$Image", "sequence", "()I"⟩
abbrev b_Im_sequence : ByteArray := prog_6_method_5_code
abbrev k_Im_sequence : Cond := .code y_Im_sequence b_Im_sequence 1 (some FieldType.int)
theorem kw_Im_sequence : k_Im_sequence ∈ TT := w411
theorem hd_Im_sequence : y_Im_sequence.cls ≠ "java/lang/invoke/MethodHandle" ∧ y_Im_sequence.cls ≠ "java/lang/invoke/VarHandle" ∧ (parseMethodDescriptor y_Im_sequence.desc).map (fun d => d.parameters.length) = some 0 := by decide +kernel
abbrev y_Card_image : MethodName := ⟨"LockHouse$Card", "image", "(I)LLockHouse$Image;"⟩
abbrev b_Card_image : ByteArray := prog_2_method_2_code
abbrev k_Card_image : Cond := .code y_Card_image b_Card_image 2 (some (FieldType.object "LockHouse$Image"))
theorem kw_Card_image : k_Card_image ∈ TT := w415
theorem hd_Card_image : y_Card_image.cls ≠ "java/lang/invoke/MethodHandle" ∧ y_Card_image.cls ≠ "java/lang/invoke/VarHandle" ∧ (parseMethodDescriptor y_Card_image.desc).map (fun d => d.parameters.length) = some 1 := by decide +kernel
abbrev y_Im_tells : MethodName := ⟨"LockHouse$Image", "tells", "(III)Z"⟩
abbrev b_Im_tells : ByteArray := prog_6_method_7_code
abbrev k_Im_tells : Cond := .code y_Im_tells b_Im_tells 4 (some FieldType.boolean)
theorem kw_Im_tells : k_Im_tells ∈ TT := w419
theorem hd_Im_tells : y_Im_tells.cls ≠ "java/lang/invoke/MethodHandle" ∧ y_Im_tells.cls ≠ "java/lang/invoke/VarHandle" ∧ (parseMethodDescriptor y_Im_tells.desc).map (fun d => d.parameters.length) = some 3 := by decide +kernel
abbrev y_Im_count : MethodName := ⟨"LockHouse$Image", "count", "()I"⟩
abbrev b_Im_count : ByteArray := prog_6_method_6_code
abbrev k_Im_count : Cond := .code y_Im_count b_Im_count 1 (some FieldType.int)
theorem kw_Im_count : k_Im_count ∈ TT := w423
theorem hd_Im_count : y_Im_count.cls ≠ "java/lang/invoke/MethodHandle" ∧ y_Im_count.cls ≠ "java/lang/invoke/VarHandle" ∧ (parseMethodDescriptor y_Im_count.desc).map (fun d => d.parameters.length) = some 0 := by decide +kernel
abbrev y_Card_putNext : MethodName := ⟨"LockHouse$Card", "putNext", "(LLockHouse$Image;II)V"⟩
abbrev b_Card_putNext : ByteArray := prog_2_method_6_code
abbrev k_Card_putNext : Cond := .code y_Card_putNext b_Card_putNext 4 none
theorem kw_Card_putNext : k_Card_putNext ∈ TT := w427
theorem hd_Card_putNext : y_Card_putNext.cls ≠ "java/lang/invoke/MethodHandle" ∧ y_Card_putNext.cls ≠ "java/lang/invoke/VarHandle" ∧ (parseMethodDescriptor y_Card_putNext.desc).map (fun d => d.parameters.length) = some 3 := by decide +kernel
abbrev y_Im_put : MethodName := ⟨"LockHouse$Image", "put", "(II)V"⟩
abbrev b_Im_put : ByteArray := prog_6_method_3_code
abbrev k_Im_put : Cond := .code y_Im_put b_Im_put 3 none
theorem kw_Im_put : k_Im_put ∈ TT := w431
theorem hd_Im_put : y_Im_put.cls ≠ "java/lang/invoke/MethodHandle" ∧ y_Im_put.cls ≠ "java/lang/invoke/VarHandle" ∧ (parseMethodDescriptor y_Im_put.desc).map (fun d => d.parameters.length) = some 2 := by decide +kernel
abbrev y_EL_cardOf : MethodName := ⟨"LockHouse$EntryList", "cardOf", "(I)I"⟩
abbrev b_EL_cardOf : ByteArray := prog_5_method_5_code
abbrev k_EL_cardOf : Cond := .code y_EL_cardOf b_EL_cardOf 2 (some FieldType.int)
theorem kw_EL_cardOf : k_EL_cardOf ∈ TT := w435
theorem hd_EL_cardOf : y_EL_cardOf.cls ≠ "java/lang/invoke/MethodHandle" ∧ y_EL_cardOf.cls ≠ "java/lang/invoke/VarHandle" ∧ (parseMethodDescriptor y_EL_cardOf.desc).map (fun d => d.parameters.length) = some 1 := by decide +kernel
abbrev y_EL_holds : MethodName := ⟨"LockHouse$EntryList", "holds", "(I)Z"⟩
abbrev b_EL_holds : ByteArray := prog_5_method_4_code
abbrev k_EL_holds : Cond := .code y_EL_holds b_EL_holds 2 (some FieldType.boolean)
theorem kw_EL_holds : k_EL_holds ∈ TT := w439
theorem hd_EL_holds : y_EL_holds.cls ≠ "java/lang/invoke/MethodHandle" ∧ y_EL_holds.cls ≠ "java/lang/invoke/VarHandle" ∧ (parseMethodDescriptor y_EL_holds.desc).map (fun d => d.parameters.length) = some 1 := by decide +kernel
abbrev y_L_zoneOf : MethodName := ⟨"LockHouseLaw", "zoneOf", "(LLockHouse;II)I"⟩
abbrev b_L_zoneOf : ByteArray := method_6_code
abbrev k_L_zoneOf : Cond := .codeWith y_L_zoneOf b_L_zoneOf 4 (some FieldType.int) [(0, 6, 9, 19), (0, 6, 12, 29), (0, 6, 15, 13)]
theorem kw_L_zoneOf : k_L_zoneOf ∈ TT := w443
theorem hd_L_zoneOf : y_L_zoneOf.cls ≠ "java/lang/invoke/MethodHandle" ∧ y_L_zoneOf.cls ≠ "java/lang/invoke/VarHandle" ∧ (parseMethodDescriptor y_L_zoneOf.desc).map (fun d => d.parameters.length) = some 3 := by decide +kernel
abbrev y_H_zoneOf : MethodName := ⟨"LockHouse", "zoneOf", "(II)V"⟩
abbrev b_H_zoneOf : ByteArray := prog_1_method_7_code
abbrev k_H_zoneOf : Cond := .code y_H_zoneOf b_H_zoneOf 4 none
theorem kw_H_zoneOf : k_H_zoneOf ∈ TT := w448
theorem hd_H_zoneOf : y_H_zoneOf.cls ≠ "java/lang/invoke/MethodHandle" ∧ y_H_zoneOf.cls ≠ "java/lang/invoke/VarHandle" ∧ (parseMethodDescriptor y_H_zoneOf.desc).map (fun d => d.parameters.length) = some 2 := by decide +kernel
abbrev y_H_doorAt : MethodName := ⟨"LockHouse", "doorAt", "(I)LLockHouse$Door;"⟩
abbrev b_H_doorAt : ByteArray := prog_1_method_24_code
abbrev k_H_doorAt : Cond := .code y_H_doorAt b_H_doorAt 2 (some (FieldType.object "LockHouse$Door"))
theorem kw_H_doorAt : k_H_doorAt ∈ TT := w452
theorem hd_H_doorAt : y_H_doorAt.cls ≠ "java/lang/invoke/MethodHandle" ∧ y_H_doorAt.cls ≠ "java/lang/invoke/VarHandle" ∧ (parseMethodDescriptor y_H_doorAt.desc).map (fun d => d.parameters.length) = some 1 := by decide +kernel
abbrev y_H_isDoor : MethodName := ⟨"LockHouse", "isDoor", "(I)Z"⟩
abbrev b_H_isDoor : ByteArray := prog_1_method_22_code
abbrev k_H_isDoor : Cond := .code y_H_isDoor b_H_isDoor 2 (some FieldType.boolean)
theorem kw_H_isDoor : k_H_isDoor ∈ TT := w456
theorem hd_H_isDoor : y_H_isDoor.cls ≠ "java/lang/invoke/MethodHandle" ∧ y_H_isDoor.cls ≠ "java/lang/invoke/VarHandle" ∧ (parseMethodDescriptor y_H_isDoor.desc).map (fun d => d.parameters.length) = some 1 := by decide +kernel
abbrev y_L_show : MethodName := ⟨"LockHouseLaw", "show", "(LLockHouse;III[J)I"⟩
abbrev b_L_show : ByteArray := method_7_code
abbrev k_L_show : Cond := .codeWith y_L_show b_L_show 6 (some FieldType.int) [(0, 12, 15, 19)]
theorem kw_L_show : k_L_show ∈ TT := w477
theorem hd_L_show : y_L_show.cls ≠ "java/lang/invoke/MethodHandle" ∧ y_L_show.cls ≠ "java/lang/invoke/VarHandle" ∧ (parseMethodDescriptor y_L_show.desc).map (fun d => d.parameters.length) = some 5 := by decide +kernel
abbrev y_H_show : MethodName := ⟨"LockHouse", "show", "(III)I"⟩
abbrev b_H_show : ByteArray := prog_1_method_8_code
abbrev k_H_show : Cond := .code y_H_show b_H_show 6 (some FieldType.int)
theorem kw_H_show : k_H_show ∈ TT := w481
theorem hd_H_show : y_H_show.cls ≠ "java/lang/invoke/MethodHandle" ∧ y_H_show.cls ≠ "java/lang/invoke/VarHandle" ∧ (parseMethodDescriptor y_H_show.desc).map (fun d => d.parameters.length) = some 3 := by decide +kernel
abbrev y_H_present : MethodName := ⟨"LockHouse", "present", "(LLockHouse$Card;LLockHouse$Door;I)I"⟩
abbrev b_H_present : ByteArray := prog_1_method_25_code
abbrev k_H_present : Cond := .code y_H_present b_H_present 5 (some FieldType.int)
theorem kw_H_present : k_H_present ∈ TT := w485
theorem hd_H_present : y_H_present.cls ≠ "java/lang/invoke/MethodHandle" ∧ y_H_present.cls ≠ "java/lang/invoke/VarHandle" ∧ (parseMethodDescriptor y_H_present.desc).map (fun d => d.parameters.length) = some 3 := by decide +kernel
abbrev y_Card_current : MethodName := ⟨"LockHouse$Card", "current", "()LLockHouse$Image;"⟩
abbrev b_Card_current : ByteArray := prog_2_method_4_code
abbrev k_Card_current : Cond := .code y_Card_current b_Card_current 1 (some (FieldType.object "LockHouse$Image"))
theorem kw_Card_current : k_Card_current ∈ TT := w489
theorem hd_Card_current : y_Card_current.cls ≠ "java/lang/invoke/MethodHandle" ∧ y_Card_current.cls ≠ "java/lang/invoke/VarHandle" ∧ (parseMethodDescriptor y_Card_current.desc).map (fun d => d.parameters.length) = some 0 := by decide +kernel
abbrev y_Door_take : MethodName := ⟨"LockHouse$Door", "take", "(LLockHouse$Image;LLockHouse$EntryList;)V"⟩
abbrev b_Door_take : ByteArray := prog_3_method_3_code
abbrev k_Door_take : Cond := .code y_Door_take b_Door_take 6 none
theorem kw_Door_take : k_Door_take ∈ TT := w493
theorem hd_Door_take : y_Door_take.cls ≠ "java/lang/invoke/MethodHandle" ∧ y_Door_take.cls ≠ "java/lang/invoke/VarHandle" ∧ (parseMethodDescriptor y_Door_take.desc).map (fun d => d.parameters.length) = some 2 := by decide +kernel
abbrev y_EL_bringTo : MethodName := ⟨"LockHouse$EntryList", "bringTo", "(II)V"⟩
abbrev b_EL_bringTo : ByteArray := prog_5_method_7_code
abbrev k_EL_bringTo : Cond := .code y_EL_bringTo b_EL_bringTo 3 none
theorem kw_EL_bringTo : k_EL_bringTo ∈ TT := w499
theorem hd_EL_bringTo : y_EL_bringTo.cls ≠ "java/lang/invoke/MethodHandle" ∧ y_EL_bringTo.cls ≠ "java/lang/invoke/VarHandle" ∧ (parseMethodDescriptor y_EL_bringTo.desc).map (fun d => d.parameters.length) = some 2 := by decide +kernel
abbrev y_Entry_bringTo : MethodName := ⟨"LockHouse$Entry", "bringTo", "(I)V"⟩
abbrev b_Entry_bringTo : ByteArray := prog_4_method_3_code
abbrev k_Entry_bringTo : Cond := .code y_Entry_bringTo b_Entry_bringTo 2 none
theorem kw_Entry_bringTo : k_Entry_bringTo ∈ TT := w503
theorem hd_Entry_bringTo : y_Entry_bringTo.cls ≠ "java/lang/invoke/MethodHandle" ∧ y_Entry_bringTo.cls ≠ "java/lang/invoke/VarHandle" ∧ (parseMethodDescriptor y_Entry_bringTo.desc).map (fun d => d.parameters.length) = some 1 := by decide +kernel
abbrev y_Door_judge : MethodName := ⟨"LockHouse$Door", "judge", "(LLockHouse$Card;ILLockHouse$EntryList;)I"⟩
abbrev b_Door_judge : ByteArray := prog_3_method_4_code
abbrev k_Door_judge : Cond := .code y_Door_judge b_Door_judge 4 (some FieldType.int)
theorem kw_Door_judge : k_Door_judge ∈ TT := w508
theorem hd_Door_judge : y_Door_judge.cls ≠ "java/lang/invoke/MethodHandle" ∧ y_Door_judge.cls ≠ "java/lang/invoke/VarHandle" ∧ (parseMethodDescriptor y_Door_judge.desc).map (fun d => d.parameters.length) = some 3 := by decide +kernel
abbrev y_Door_has : MethodName := ⟨"LockHouse$Door", "has", "(ILLockHouse$EntryList;)Z"⟩
abbrev b_Door_has : ByteArray := prog_3_method_2_code
abbrev k_Door_has : Cond := .code y_Door_has b_Door_has 3 (some FieldType.boolean)
theorem kw_Door_has : k_Door_has ∈ TT := w512
theorem hd_Door_has : y_Door_has.cls ≠ "java/lang/invoke/MethodHandle" ∧ y_Door_has.cls ≠ "java/lang/invoke/VarHandle" ∧ (parseMethodDescriptor y_Door_has.desc).map (fun d => d.parameters.length) = some 2 := by decide +kernel
abbrev y_EL_isAt : MethodName := ⟨"LockHouse$EntryList", "isAt", "(II)Z"⟩
abbrev b_EL_isAt : ByteArray := prog_5_method_6_code
abbrev k_EL_isAt : Cond := .code y_EL_isAt b_EL_isAt 3 (some FieldType.boolean)
theorem kw_EL_isAt : k_EL_isAt ∈ TT := w516
theorem hd_EL_isAt : y_EL_isAt.cls ≠ "java/lang/invoke/MethodHandle" ∧ y_EL_isAt.cls ≠ "java/lang/invoke/VarHandle" ∧ (parseMethodDescriptor y_EL_isAt.desc).map (fun d => d.parameters.length) = some 2 := by decide +kernel
abbrev y_Entry_isAt : MethodName := ⟨"LockHouse$Entry", "isAt", "(I)Z"⟩
abbrev b_Entry_isAt : ByteArray := prog_4_method_2_code
abbrev k_Entry_isAt : Cond := .code y_Entry_isAt b_Entry_isAt 2 (some FieldType.boolean)
theorem kw_Entry_isAt : k_Entry_isAt ∈ TT := w520
theorem hd_Entry_isAt : y_Entry_isAt.cls ≠ "java/lang/invoke/MethodHandle" ∧ y_Entry_isAt.cls ≠ "java/lang/invoke/VarHandle" ∧ (parseMethodDescriptor y_Entry_isAt.desc).map (fun d => d.parameters.length) = some 1 := by decide +kernel
abbrev y_Card_opens : MethodName := ⟨"LockHouse$Card", "opens", "(I)Z"⟩
abbrev b_Card_opens : ByteArray := prog_2_method_7_code
abbrev k_Card_opens : Cond := .code y_Card_opens b_Card_opens 2 (some FieldType.boolean)
theorem kw_Card_opens : k_Card_opens ∈ TT := w524
theorem hd_Card_opens : y_Card_opens.cls ≠ "java/lang/invoke/MethodHandle" ∧ y_Card_opens.cls ≠ "java/lang/invoke/VarHandle" ∧ (parseMethodDescriptor y_Card_opens.desc).map (fun d => d.parameters.length) = some 1 := by decide +kernel
abbrev y_Door_pass : MethodName := ⟨"LockHouse$Door", "pass", "(LLockHouse$Card;LLockHouse$EntryList;)V"⟩
abbrev b_Door_pass : ByteArray := prog_3_method_5_code
abbrev k_Door_pass : Cond := .code y_Door_pass b_Door_pass 4 none
theorem kw_Door_pass : k_Door_pass ∈ TT := w528
theorem hd_Door_pass : y_Door_pass.cls ≠ "java/lang/invoke/MethodHandle" ∧ y_Door_pass.cls ≠ "java/lang/invoke/VarHandle" ∧ (parseMethodDescriptor y_Door_pass.desc).map (fun d => d.parameters.length) = some 2 := by decide +kernel
abbrev y_L_tear : MethodName := ⟨"LockHouseLaw", "tear", "(LLockHouse;II)I"⟩
abbrev b_L_tear : ByteArray := method_8_code
abbrev k_L_tear : Cond := .codeWith y_L_tear b_L_tear 4 (some FieldType.int) [(0, 6, 9, 19), (0, 6, 12, 29)]
theorem kw_L_tear : k_L_tear ∈ TT := w533
theorem hd_L_tear : y_L_tear.cls ≠ "java/lang/invoke/MethodHandle" ∧ y_L_tear.cls ≠ "java/lang/invoke/VarHandle" ∧ (parseMethodDescriptor y_L_tear.desc).map (fun d => d.parameters.length) = some 3 := by decide +kernel
abbrev y_H_tear : MethodName := ⟨"LockHouse", "tear", "(II)V"⟩
abbrev b_H_tear : ByteArray := prog_1_method_9_code
abbrev k_H_tear : Cond := .code y_H_tear b_H_tear 4 none
theorem kw_H_tear : k_H_tear ∈ TT := w537
theorem hd_H_tear : y_H_tear.cls ≠ "java/lang/invoke/MethodHandle" ∧ y_H_tear.cls ≠ "java/lang/invoke/VarHandle" ∧ (parseMethodDescriptor y_H_tear.desc).map (fun d => d.parameters.length) = some 2 := by decide +kernel
abbrev y_L_written : MethodName := ⟨"LockHouseLaw", "written", "(LLockHouse;I[J)I"⟩
abbrev b_L_written : ByteArray := method_9_code
abbrev k_L_written : Cond := .codeWith y_L_written b_L_written 4 (some FieldType.int) [(0, 9, 12, 19)]
theorem kw_L_written : k_L_written ∈ TT := w541
theorem hd_L_written : y_L_written.cls ≠ "java/lang/invoke/MethodHandle" ∧ y_L_written.cls ≠ "java/lang/invoke/VarHandle" ∧ (parseMethodDescriptor y_L_written.desc).map (fun d => d.parameters.length) = some 3 := by decide +kernel
abbrev y_H_written : MethodName := ⟨"LockHouse", "written", "(I)I"⟩
abbrev b_H_written : ByteArray := prog_1_method_10_code
abbrev k_H_written : Cond := .code y_H_written b_H_written 2 (some FieldType.int)
theorem kw_H_written : k_H_written ∈ TT := w545
theorem hd_H_written : y_H_written.cls ≠ "java/lang/invoke/MethodHandle" ∧ y_H_written.cls ≠ "java/lang/invoke/VarHandle" ∧ (parseMethodDescriptor y_H_written.desc).map (fun d => d.parameters.length) = some 1 := by decide +kernel
abbrev y_L_word : MethodName := ⟨"LockHouseLaw", "word", "(LLockHouse;III[J)I"⟩
abbrev b_L_word : ByteArray := method_10_code
abbrev k_L_word : Cond := .codeWith y_L_word b_L_word 6 (some FieldType.int) [(0, 12, 15, 19)]
theorem kw_L_word : k_L_word ∈ TT := w548
theorem hd_L_word : y_L_word.cls ≠ "java/lang/invoke/MethodHandle" ∧ y_L_word.cls ≠ "java/lang/invoke/VarHandle" ∧ (parseMethodDescriptor y_L_word.desc).map (fun d => d.parameters.length) = some 5 := by decide +kernel
abbrev y_H_word : MethodName := ⟨"LockHouse", "word", "(III)I"⟩
abbrev b_H_word : ByteArray := prog_1_method_11_code
abbrev k_H_word : Cond := .code y_H_word b_H_word 5 (some FieldType.int)
theorem kw_H_word : k_H_word ∈ TT := w552
theorem hd_H_word : y_H_word.cls ≠ "java/lang/invoke/MethodHandle" ∧ y_H_word.cls ≠ "java/lang/invoke/VarHandle" ∧ (parseMethodDescriptor y_H_word.desc).map (fun d => d.parameters.length) = some 3 := by decide +kernel
abbrev y_L_carries : MethodName := ⟨"LockHouseLaw", "carries", "(LLockHouse;II[J)I"⟩
abbrev b_L_carries : ByteArray := method_11_code
abbrev k_L_carries : Cond := .codeWith y_L_carries b_L_carries 5 (some FieldType.int) [(0, 10, 13, 19), (0, 10, 17, 29)]
theorem kw_L_carries : k_L_carries ∈ TT := w558
theorem hd_L_carries : y_L_carries.cls ≠ "java/lang/invoke/MethodHandle" ∧ y_L_carries.cls ≠ "java/lang/invoke/VarHandle" ∧ (parseMethodDescriptor y_L_carries.desc).map (fun d => d.parameters.length) = some 4 := by decide +kernel
abbrev y_H_carries : MethodName := ⟨"LockHouse", "carries", "(II)I"⟩
abbrev b_H_carries : ByteArray := prog_1_method_12_code
abbrev k_H_carries : Cond := .code y_H_carries b_H_carries 4 (some FieldType.int)
theorem kw_H_carries : k_H_carries ∈ TT := w562
theorem hd_H_carries : y_H_carries.cls ≠ "java/lang/invoke/MethodHandle" ∧ y_H_carries.cls ≠ "java/lang/invoke/VarHandle" ∧ (parseMethodDescriptor y_H_carries.desc).map (fun d => d.parameters.length) = some 2 := by decide +kernel
abbrev y_L_memory : MethodName := ⟨"LockHouseLaw", "memory", "(LLockHouse;II[J)I"⟩
abbrev b_L_memory : ByteArray := method_12_code
abbrev k_L_memory : Cond := .codeWith y_L_memory b_L_memory 5 (some FieldType.int) [(0, 10, 13, 19)]
theorem kw_L_memory : k_L_memory ∈ TT := w568
theorem hd_L_memory : y_L_memory.cls ≠ "java/lang/invoke/MethodHandle" ∧ y_L_memory.cls ≠ "java/lang/invoke/VarHandle" ∧ (parseMethodDescriptor y_L_memory.desc).map (fun d => d.parameters.length) = some 4 := by decide +kernel
abbrev y_H_memory : MethodName := ⟨"LockHouse", "memory", "(II)I"⟩
abbrev b_H_memory : ByteArray := prog_1_method_13_code
abbrev k_H_memory : Cond := .code y_H_memory b_H_memory 4 (some FieldType.int)
theorem kw_H_memory : k_H_memory ∈ TT := w572
theorem hd_H_memory : y_H_memory.cls ≠ "java/lang/invoke/MethodHandle" ∧ y_H_memory.cls ≠ "java/lang/invoke/VarHandle" ∧ (parseMethodDescriptor y_H_memory.desc).map (fun d => d.parameters.length) = some 2 := by decide +kernel
abbrev y_L_about : MethodName := ⟨"LockHouseLaw", "about", "(LLockHouse;II[J)I"⟩
abbrev b_L_about : ByteArray := method_13_code
abbrev k_L_about : Cond := .codeWith y_L_about b_L_about 5 (some FieldType.int) [(0, 10, 13, 19), (0, 10, 17, 29)]
theorem kw_L_about : k_L_about ∈ TT := w576
theorem hd_L_about : y_L_about.cls ≠ "java/lang/invoke/MethodHandle" ∧ y_L_about.cls ≠ "java/lang/invoke/VarHandle" ∧ (parseMethodDescriptor y_L_about.desc).map (fun d => d.parameters.length) = some 4 := by decide +kernel
abbrev y_H_about : MethodName := ⟨"LockHouse", "about", "(II)I"⟩
abbrev b_H_about : ByteArray := prog_1_method_14_code
abbrev k_H_about : Cond := .code y_H_about b_H_about 4 (some FieldType.int)
theorem kw_H_about : k_H_about ∈ TT := w580
theorem hd_H_about : y_H_about.cls ≠ "java/lang/invoke/MethodHandle" ∧ y_H_about.cls ≠ "java/lang/invoke/VarHandle" ∧ (parseMethodDescriptor y_H_about.desc).map (fun d => d.parameters.length) = some 2 := by decide +kernel
abbrev y_Door_complete : MethodName := ⟨"LockHouse$Door", "complete", "(LLockHouse$EntryList;)I"⟩
abbrev b_Door_complete : ByteArray := prog_3_method_6_code
abbrev k_Door_complete : Cond := .code y_Door_complete b_Door_complete 2 (some FieldType.int)
theorem kw_Door_complete : k_Door_complete ∈ TT := w584
theorem hd_Door_complete : y_Door_complete.cls ≠ "java/lang/invoke/MethodHandle" ∧ y_Door_complete.cls ≠ "java/lang/invoke/VarHandle" ∧ (parseMethodDescriptor y_Door_complete.desc).map (fun d => d.parameters.length) = some 1 := by decide +kernel
abbrev y_Door_endOfRun : MethodName := ⟨"LockHouse$Door", "endOfRun", "(ILLockHouse$EntryList;)I"⟩
abbrev b_Door_endOfRun : ByteArray := prog_3_method_10_code
abbrev k_Door_endOfRun : Cond := .code y_Door_endOfRun b_Door_endOfRun 4 (some FieldType.int)
theorem kw_Door_endOfRun : k_Door_endOfRun ∈ TT := w588
theorem hd_Door_endOfRun : y_Door_endOfRun.cls ≠ "java/lang/invoke/MethodHandle" ∧ y_Door_endOfRun.cls ≠ "java/lang/invoke/VarHandle" ∧ (parseMethodDescriptor y_Door_endOfRun.desc).map (fun d => d.parameters.length) = some 2 := by decide +kernel
abbrev y_Door_countEntries : MethodName := ⟨"LockHouse$Door", "countEntries", "(LLockHouse$EntryList;)I"⟩
abbrev b_Door_countEntries : ByteArray := prog_3_method_7_code
abbrev k_Door_countEntries : Cond := .code y_Door_countEntries b_Door_countEntries 4 (some FieldType.int)
theorem kw_Door_countEntries : k_Door_countEntries ∈ TT := w594
theorem hd_Door_countEntries : y_Door_countEntries.cls ≠ "java/lang/invoke/MethodHandle" ∧ y_Door_countEntries.cls ≠ "java/lang/invoke/VarHandle" ∧ (parseMethodDescriptor y_Door_countEntries.desc).map (fun d => d.parameters.length) = some 1 := by decide +kernel
abbrev y_Door_countRuns : MethodName := ⟨"LockHouse$Door", "countRuns", "(LLockHouse$EntryList;)I"⟩
abbrev b_Door_countRuns : ByteArray := prog_3_method_8_code
abbrev k_Door_countRuns : Cond := .code y_Door_countRuns b_Door_countRuns 4 (some FieldType.int)
theorem kw_Door_countRuns : k_Door_countRuns ∈ TT := w598
theorem hd_Door_countRuns : y_Door_countRuns.cls ≠ "java/lang/invoke/MethodHandle" ∧ y_Door_countRuns.cls ≠ "java/lang/invoke/VarHandle" ∧ (parseMethodDescriptor y_Door_countRuns.desc).map (fun d => d.parameters.length) = some 1 := by decide +kernel
abbrev y_Door_startsRun : MethodName := ⟨"LockHouse$Door", "startsRun", "(ILLockHouse$EntryList;)Z"⟩
abbrev b_Door_startsRun : ByteArray := prog_3_method_11_code
abbrev k_Door_startsRun : Cond := .code y_Door_startsRun b_Door_startsRun 3 (some FieldType.boolean)
theorem kw_Door_startsRun : k_Door_startsRun ∈ TT := w602
theorem hd_Door_startsRun : y_Door_startsRun.cls ≠ "java/lang/invoke/MethodHandle" ∧ y_Door_startsRun.cls ≠ "java/lang/invoke/VarHandle" ∧ (parseMethodDescriptor y_Door_startsRun.desc).map (fun d => d.parameters.length) = some 2 := by decide +kernel
abbrev y_L_run : MethodName := ⟨"LockHouseLaw", "run", "(LLockHouse;IIZ[J)I"⟩
abbrev b_L_run : ByteArray := method_14_code
abbrev k_L_run : Cond := .codeWith y_L_run b_L_run 6 (some FieldType.int) [(0, 12, 15, 19)]
theorem kw_L_run : k_L_run ∈ TT := w606
theorem hd_L_run : y_L_run.cls ≠ "java/lang/invoke/MethodHandle" ∧ y_L_run.cls ≠ "java/lang/invoke/VarHandle" ∧ (parseMethodDescriptor y_L_run.desc).map (fun d => d.parameters.length) = some 5 := by decide +kernel
abbrev y_H_run : MethodName := ⟨"LockHouse", "run", "(IIZ)I"⟩
abbrev b_H_run : ByteArray := prog_1_method_15_code
abbrev k_H_run : Cond := .code y_H_run b_H_run 6 (some FieldType.int)
theorem kw_H_run : k_H_run ∈ TT := w610
theorem hd_H_run : y_H_run.cls ≠ "java/lang/invoke/MethodHandle" ∧ y_H_run.cls ≠ "java/lang/invoke/VarHandle" ∧ (parseMethodDescriptor y_H_run.desc).map (fun d => d.parameters.length) = some 3 := by decide +kernel
abbrev y_Door_startOfRun : MethodName := ⟨"LockHouse$Door", "startOfRun", "(ILLockHouse$EntryList;)I"⟩
abbrev b_Door_startOfRun : ByteArray := prog_3_method_9_code
abbrev k_Door_startOfRun : Cond := .code y_Door_startOfRun b_Door_startOfRun 5 (some FieldType.int)
theorem kw_Door_startOfRun : k_Door_startOfRun ∈ TT := w614
theorem hd_Door_startOfRun : y_Door_startOfRun.cls ≠ "java/lang/invoke/MethodHandle" ∧ y_Door_startOfRun.cls ≠ "java/lang/invoke/VarHandle" ∧ (parseMethodDescriptor y_Door_startOfRun.desc).map (fun d => d.parameters.length) = some 2 := by decide +kernel
abbrev y_L_refuses : MethodName := ⟨"LockHouseLaw", "refuses", "(LLockHouse;II[J)I"⟩
abbrev b_L_refuses : ByteArray := method_15_code
abbrev k_L_refuses : Cond := .codeWith y_L_refuses b_L_refuses 5 (some FieldType.int) [(0, 17, 20, 19)]
theorem kw_L_refuses : k_L_refuses ∈ TT := w619
theorem hd_L_refuses : y_L_refuses.cls ≠ "java/lang/invoke/MethodHandle" ∧ y_L_refuses.cls ≠ "java/lang/invoke/VarHandle" ∧ (parseMethodDescriptor y_L_refuses.desc).map (fun d => d.parameters.length) = some 4 := by decide +kernel
abbrev y_H_refuses : MethodName := ⟨"LockHouse", "refuses", "(II)Z"⟩
abbrev b_H_refuses : ByteArray := prog_1_method_16_code
abbrev k_H_refuses : Cond := .code y_H_refuses b_H_refuses 4 (some FieldType.boolean)
theorem kw_H_refuses : k_H_refuses ∈ TT := w623
theorem hd_H_refuses : y_H_refuses.cls ≠ "java/lang/invoke/MethodHandle" ∧ y_H_refuses.cls ≠ "java/lang/invoke/VarHandle" ∧ (parseMethodDescriptor y_H_refuses.desc).map (fun d => d.parameters.length) = some 2 := by decide +kernel
abbrev y_L_reach : MethodName := ⟨"LockHouseLaw", "reach", "(LLockHouse;I[J)I"⟩
abbrev b_L_reach : ByteArray := method_16_code
abbrev k_L_reach : Cond := .codeWith y_L_reach b_L_reach 4 (some FieldType.int) [(0, 9, 12, 19)]
theorem kw_L_reach : k_L_reach ∈ TT := w627
theorem hd_L_reach : y_L_reach.cls ≠ "java/lang/invoke/MethodHandle" ∧ y_L_reach.cls ≠ "java/lang/invoke/VarHandle" ∧ (parseMethodDescriptor y_L_reach.desc).map (fun d => d.parameters.length) = some 3 := by decide +kernel
abbrev y_H_reach : MethodName := ⟨"LockHouse", "reach", "(I)I"⟩
abbrev b_H_reach : ByteArray := prog_1_method_17_code
abbrev k_H_reach : Cond := .code y_H_reach b_H_reach 2 (some FieldType.int)
theorem kw_H_reach : k_H_reach ∈ TT := w631
theorem hd_H_reach : y_H_reach.cls ≠ "java/lang/invoke/MethodHandle" ∧ y_H_reach.cls ≠ "java/lang/invoke/VarHandle" ∧ (parseMethodDescriptor y_H_reach.desc).map (fun d => d.parameters.length) = some 1 := by decide +kernel
abbrev y_EL_countDoorsWith : MethodName := ⟨"LockHouse$EntryList", "countDoorsWith", "(I)I"⟩
abbrev b_EL_countDoorsWith : ByteArray := prog_5_method_8_code
abbrev k_EL_countDoorsWith : Cond := .code y_EL_countDoorsWith b_EL_countDoorsWith 2 (some FieldType.int)
theorem kw_EL_countDoorsWith : k_EL_countDoorsWith ∈ TT := w636
theorem hd_EL_countDoorsWith : y_EL_countDoorsWith.cls ≠ "java/lang/invoke/MethodHandle" ∧ y_EL_countDoorsWith.cls ≠ "java/lang/invoke/VarHandle" ∧ (parseMethodDescriptor y_EL_countDoorsWith.desc).map (fun d => d.parameters.length) = some 1 := by decide +kernel
abbrev y_Entry_countDoors : MethodName := ⟨"LockHouse$Entry", "countDoors", "()I"⟩
abbrev b_Entry_countDoors : ByteArray := prog_4_method_4_code
abbrev k_Entry_countDoors : Cond := .code y_Entry_countDoors b_Entry_countDoors 6 (some FieldType.int)
theorem kw_Entry_countDoors : k_Entry_countDoors ∈ TT := w640
theorem hd_Entry_countDoors : y_Entry_countDoors.cls ≠ "java/lang/invoke/MethodHandle" ∧ y_Entry_countDoors.cls ≠ "java/lang/invoke/VarHandle" ∧ (parseMethodDescriptor y_Entry_countDoors.desc).map (fun d => d.parameters.length) = some 0 := by decide +kernel
abbrev y_L_loseBattery : MethodName := ⟨"LockHouseLaw", "loseBattery", "(LLockHouse;I)I"⟩
abbrev b_L_loseBattery : ByteArray := method_17_code
abbrev k_L_loseBattery : Cond := .codeWith y_L_loseBattery b_L_loseBattery 3 (some FieldType.int) [(0, 5, 8, 19)]
theorem kw_L_loseBattery : k_L_loseBattery ∈ TT := w643
theorem hd_L_loseBattery : y_L_loseBattery.cls ≠ "java/lang/invoke/MethodHandle" ∧ y_L_loseBattery.cls ≠ "java/lang/invoke/VarHandle" ∧ (parseMethodDescriptor y_L_loseBattery.desc).map (fun d => d.parameters.length) = some 2 := by decide +kernel
abbrev y_H_loseBattery : MethodName := ⟨"LockHouse", "loseBattery", "(I)V"⟩
abbrev b_H_loseBattery : ByteArray := prog_1_method_18_code
abbrev k_H_loseBattery : Cond := .code y_H_loseBattery b_H_loseBattery 2 none
theorem kw_H_loseBattery : k_H_loseBattery ∈ TT := w647
theorem hd_H_loseBattery : y_H_loseBattery.cls ≠ "java/lang/invoke/MethodHandle" ∧ y_H_loseBattery.cls ≠ "java/lang/invoke/VarHandle" ∧ (parseMethodDescriptor y_H_loseBattery.desc).map (fun d => d.parameters.length) = some 1 := by decide +kernel
abbrev y_L_visit : MethodName := ⟨"LockHouseLaw", "visit", "(LLockHouse;IIII)I"⟩
abbrev b_L_visit : ByteArray := method_18_code
abbrev k_L_visit : Cond := .codeWith y_L_visit b_L_visit 6 (some FieldType.int) [(0, 9, 12, 19)]
theorem kw_L_visit : k_L_visit ∈ TT := w650
theorem hd_L_visit : y_L_visit.cls ≠ "java/lang/invoke/MethodHandle" ∧ y_L_visit.cls ≠ "java/lang/invoke/VarHandle" ∧ (parseMethodDescriptor y_L_visit.desc).map (fun d => d.parameters.length) = some 5 := by decide +kernel
abbrev y_H_visit : MethodName := ⟨"LockHouse", "visit", "(IIII)V"⟩
abbrev b_H_visit : ByteArray := prog_1_method_19_code
abbrev k_H_visit : Cond := .code y_H_visit b_H_visit 5 none
theorem kw_H_visit : k_H_visit ∈ TT := w654
theorem hd_H_visit : y_H_visit.cls ≠ "java/lang/invoke/MethodHandle" ∧ y_H_visit.cls ≠ "java/lang/invoke/VarHandle" ∧ (parseMethodDescriptor y_H_visit.desc).map (fun d => d.parameters.length) = some 4 := by decide +kernel
abbrev y_L_spread : MethodName := ⟨"LockHouseLaw", "spread", "(LLockHouse;I[J)I"⟩
abbrev b_L_spread : ByteArray := method_19_code
abbrev k_L_spread : Cond := .codeWith y_L_spread b_L_spread 4 (some FieldType.int) [(0, 9, 12, 29)]
theorem kw_L_spread : k_L_spread ∈ TT := w658
theorem hd_L_spread : y_L_spread.cls ≠ "java/lang/invoke/MethodHandle" ∧ y_L_spread.cls ≠ "java/lang/invoke/VarHandle" ∧ (parseMethodDescriptor y_L_spread.desc).map (fun d => d.parameters.length) = some 3 := by decide +kernel
abbrev y_H_spread : MethodName := ⟨"LockHouse", "spread", "(I)I"⟩
abbrev b_H_spread : ByteArray := prog_1_method_20_code
abbrev k_H_spread : Cond := .code y_H_spread b_H_spread 4 (some FieldType.int)
theorem kw_H_spread : k_H_spread ∈ TT := w662
theorem hd_H_spread : y_H_spread.cls ≠ "java/lang/invoke/MethodHandle" ∧ y_H_spread.cls ≠ "java/lang/invoke/VarHandle" ∧ (parseMethodDescriptor y_H_spread.desc).map (fun d => d.parameters.length) = some 1 := by decide +kernel
abbrev y_T_init : MethodName := ⟨"LockHouseModel", "<init>", "()V"⟩
abbrev b_T_init : ByteArray := prog_8_method_1_code
abbrev k_T_init : Cond := .code y_T_init b_T_init 1 none
theorem kw_T_init : k_T_init ∈ TT := w668
theorem hd_T_init : y_T_init.cls ≠ "java/lang/invoke/MethodHandle" ∧ y_T_init.cls ≠ "java/lang/invoke/VarHandle" ∧ (parseMethodDescriptor y_T_init.desc).map (fun d => d.parameters.length) = some 0 := by decide +kernel
abbrev y_T_thrown : MethodName := ⟨"LockHouseModel", "thrown", "()I"⟩
abbrev b_T_thrown : ByteArray := prog_8_method_2_code
abbrev k_T_thrown : Cond := .code y_T_thrown b_T_thrown 1 (some FieldType.int)
theorem kw_T_thrown : k_T_thrown ∈ TT := w730
theorem hd_T_thrown : y_T_thrown.cls ≠ "java/lang/invoke/MethodHandle" ∧ y_T_thrown.cls ≠ "java/lang/invoke/VarHandle" ∧ (parseMethodDescriptor y_T_thrown.desc).map (fun d => d.parameters.length) = some 0 := by decide +kernel
abbrev y_T_issue : MethodName := ⟨"LockHouseModel", "issue", "(II)I"⟩
abbrev b_T_issue : ByteArray := prog_8_method_5_code
abbrev k_T_issue : Cond := .code y_T_issue b_T_issue 3 (some FieldType.int)
theorem kw_T_issue : k_T_issue ∈ TT := w734
theorem hd_T_issue : y_T_issue.cls ≠ "java/lang/invoke/MethodHandle" ∧ y_T_issue.cls ≠ "java/lang/invoke/VarHandle" ∧ (parseMethodDescriptor y_T_issue.desc).map (fun d => d.parameters.length) = some 2 := by decide +kernel
abbrev y_T_cards : MethodName := ⟨"LockHouseModel", "cards", "()I"⟩
abbrev b_T_cards : ByteArray := prog_8_method_6_code
abbrev k_T_cards : Cond := .code y_T_cards b_T_cards 1 (some FieldType.int)
theorem kw_T_cards : k_T_cards ∈ TT := w738
theorem hd_T_cards : y_T_cards.cls ≠ "java/lang/invoke/MethodHandle" ∧ y_T_cards.cls ≠ "java/lang/invoke/VarHandle" ∧ (parseMethodDescriptor y_T_cards.desc).map (fun d => d.parameters.length) = some 0 := by decide +kernel
abbrev y_T_revoke : MethodName := ⟨"LockHouseModel", "revoke", "(I)I"⟩
abbrev b_T_revoke : ByteArray := prog_8_method_7_code
abbrev k_T_revoke : Cond := .code y_T_revoke b_T_revoke 2 (some FieldType.int)
theorem kw_T_revoke : k_T_revoke ∈ TT := w742
theorem hd_T_revoke : y_T_revoke.cls ≠ "java/lang/invoke/MethodHandle" ∧ y_T_revoke.cls ≠ "java/lang/invoke/VarHandle" ∧ (parseMethodDescriptor y_T_revoke.desc).map (fun d => d.parameters.length) = some 1 := by decide +kernel
abbrev y_T_noCard : MethodName := ⟨"LockHouseModel", "noCard", "(I)Z"⟩
abbrev b_T_noCard : ByteArray := prog_8_method_3_code
abbrev k_T_noCard : Cond := .code y_T_noCard b_T_noCard 2 (some FieldType.boolean)
theorem kw_T_noCard : k_T_noCard ∈ TT := w746
theorem hd_T_noCard : y_T_noCard.cls ≠ "java/lang/invoke/MethodHandle" ∧ y_T_noCard.cls ≠ "java/lang/invoke/VarHandle" ∧ (parseMethodDescriptor y_T_noCard.desc).map (fun d => d.parameters.length) = some 1 := by decide +kernel
abbrev y_T_entries : MethodName := ⟨"LockHouseModel", "entries", "()I"⟩
abbrev b_T_entries : ByteArray := prog_8_method_8_code
abbrev k_T_entries : Cond := .code y_T_entries b_T_entries 1 (some FieldType.int)
theorem kw_T_entries : k_T_entries ∈ TT := w750
theorem hd_T_entries : y_T_entries.cls ≠ "java/lang/invoke/MethodHandle" ∧ y_T_entries.cls ≠ "java/lang/invoke/VarHandle" ∧ (parseMethodDescriptor y_T_entries.desc).map (fun d => d.parameters.length) = some 0 := by decide +kernel
abbrev y_T_gate : MethodName := ⟨"LockHouseModel", "gate", "(I)V"⟩
abbrev b_T_gate : ByteArray := prog_8_method_19_code
abbrev k_T_gate : Cond := .code y_T_gate b_T_gate 2 none
theorem kw_T_gate : k_T_gate ∈ TT := w754
theorem hd_T_gate : y_T_gate.cls ≠ "java/lang/invoke/MethodHandle" ∧ y_T_gate.cls ≠ "java/lang/invoke/VarHandle" ∧ (parseMethodDescriptor y_T_gate.desc).map (fun d => d.parameters.length) = some 1 := by decide +kernel
abbrev y_T_write : MethodName := ⟨"LockHouseModel", "write", "(IIII)V"⟩
abbrev b_T_write : ByteArray := prog_8_method_17_code
abbrev k_T_write : Cond := .code y_T_write b_T_write 11 none
theorem kw_T_write : k_T_write ∈ TT := w758
theorem hd_T_write : y_T_write.cls ≠ "java/lang/invoke/MethodHandle" ∧ y_T_write.cls ≠ "java/lang/invoke/VarHandle" ∧ (parseMethodDescriptor y_T_write.desc).map (fun d => d.parameters.length) = some 4 := by decide +kernel
abbrev y_T_tells : MethodName := ⟨"LockHouseModel", "tells", "(IIII)Z"⟩
abbrev b_T_tells : ByteArray := prog_8_method_16_code
abbrev k_T_tells : Cond := .code y_T_tells b_T_tells 7 (some FieldType.boolean)
theorem kw_T_tells : k_T_tells ∈ TT := w762
theorem hd_T_tells : y_T_tells.cls ≠ "java/lang/invoke/MethodHandle" ∧ y_T_tells.cls ≠ "java/lang/invoke/VarHandle" ∧ (parseMethodDescriptor y_T_tells.desc).map (fun d => d.parameters.length) = some 4 := by decide +kernel
abbrev y_T_count : MethodName := ⟨"LockHouseModel", "count", "(I)I"⟩
abbrev b_T_count : ByteArray := prog_8_method_13_code
abbrev k_T_count : Cond := .code y_T_count b_T_count 2 (some FieldType.int)
theorem kw_T_count : k_T_count ∈ TT := w766
theorem hd_T_count : y_T_count.cls ≠ "java/lang/invoke/MethodHandle" ∧ y_T_count.cls ≠ "java/lang/invoke/VarHandle" ∧ (parseMethodDescriptor y_T_count.desc).map (fun d => d.parameters.length) = some 1 := by decide +kernel
abbrev y_T_current : MethodName := ⟨"LockHouseModel", "current", "(I)I"⟩
abbrev b_T_current : ByteArray := prog_8_method_12_code
abbrev k_T_current : Cond := .code y_T_current b_T_current 3 (some FieldType.int)
theorem kw_T_current : k_T_current ∈ TT := w770
theorem hd_T_current : y_T_current.cls ≠ "java/lang/invoke/MethodHandle" ∧ y_T_current.cls ≠ "java/lang/invoke/VarHandle" ∧ (parseMethodDescriptor y_T_current.desc).map (fun d => d.parameters.length) = some 1 := by decide +kernel
abbrev y_T_whole : MethodName := ⟨"LockHouseModel", "whole", "(II)Z"⟩
abbrev b_T_whole : ByteArray := prog_8_method_10_code
abbrev k_T_whole : Cond := .code y_T_whole b_T_whole 3 (some FieldType.boolean)
theorem kw_T_whole : k_T_whole ∈ TT := w774
theorem hd_T_whole : y_T_whole.cls ≠ "java/lang/invoke/MethodHandle" ∧ y_T_whole.cls ≠ "java/lang/invoke/VarHandle" ∧ (parseMethodDescriptor y_T_whole.desc).map (fun d => d.parameters.length) = some 2 := by decide +kernel
abbrev y_T_wordAt : MethodName := ⟨"LockHouseModel", "wordAt", "(III)I"⟩
abbrev b_T_wordAt : ByteArray := prog_8_method_9_code
abbrev k_T_wordAt : Cond := .code y_T_wordAt b_T_wordAt 4 (some FieldType.int)
theorem kw_T_wordAt : k_T_wordAt ∈ TT := w778
theorem hd_T_wordAt : y_T_wordAt.cls ≠ "java/lang/invoke/MethodHandle" ∧ y_T_wordAt.cls ≠ "java/lang/invoke/VarHandle" ∧ (parseMethodDescriptor y_T_wordAt.desc).map (fun d => d.parameters.length) = some 3 := by decide +kernel
abbrev y_T_sequence : MethodName := ⟨"LockHouseModel", "sequence", "(II)I"⟩
abbrev b_T_sequence : ByteArray := prog_8_method_11_code
abbrev k_T_sequence : Cond := .code y_T_sequence b_T_sequence 3 (some FieldType.int)
theorem kw_T_sequence : k_T_sequence ∈ TT := w782
theorem hd_T_sequence : y_T_sequence.cls ≠ "java/lang/invoke/MethodHandle" ∧ y_T_sequence.cls ≠ "java/lang/invoke/VarHandle" ∧ (parseMethodDescriptor y_T_sequence.desc).map (fun d => d.parameters.length) = some 2 := by decide +kernel
abbrev y_T_first : MethodName := ⟨"LockHouseModel", "first", "(I)I"⟩
abbrev b_T_first : ByteArray := prog_8_method_14_code
abbrev k_T_first : Cond := .code y_T_first b_T_first 2 (some FieldType.int)
theorem kw_T_first : k_T_first ∈ TT := w786
theorem hd_T_first : y_T_first.cls ≠ "java/lang/invoke/MethodHandle" ∧ y_T_first.cls ≠ "java/lang/invoke/VarHandle" ∧ (parseMethodDescriptor y_T_first.desc).map (fun d => d.parameters.length) = some 1 := by decide +kernel
abbrev y_T_seen : MethodName := ⟨"LockHouseModel", "seen", "(I)I"⟩
abbrev b_T_seen : ByteArray := prog_8_method_15_code
abbrev k_T_seen : Cond := .code y_T_seen b_T_seen 2 (some FieldType.int)
theorem kw_T_seen : k_T_seen ∈ TT := w790
theorem hd_T_seen : y_T_seen.cls ≠ "java/lang/invoke/MethodHandle" ∧ y_T_seen.cls ≠ "java/lang/invoke/VarHandle" ∧ (parseMethodDescriptor y_T_seen.desc).map (fun d => d.parameters.length) = some 1 := by decide +kernel
abbrev y_T_give : MethodName := ⟨"LockHouseModel", "give", "(IIII)V"⟩
abbrev b_T_give : ByteArray := prog_8_method_18_code
abbrev k_T_give : Cond := .code y_T_give b_T_give 6 none
theorem kw_T_give : k_T_give ∈ TT := w794
theorem hd_T_give : y_T_give.cls ≠ "java/lang/invoke/MethodHandle" ∧ y_T_give.cls ≠ "java/lang/invoke/VarHandle" ∧ (parseMethodDescriptor y_T_give.desc).map (fun d => d.parameters.length) = some 4 := by decide +kernel
abbrev y_T_zoneOf : MethodName := ⟨"LockHouseModel", "zoneOf", "(II)V"⟩
abbrev b_T_zoneOf : ByteArray := prog_8_method_20_code
abbrev k_T_zoneOf : Cond := .code y_T_zoneOf b_T_zoneOf 3 none
theorem kw_T_zoneOf : k_T_zoneOf ∈ TT := w798
theorem hd_T_zoneOf : y_T_zoneOf.cls ≠ "java/lang/invoke/MethodHandle" ∧ y_T_zoneOf.cls ≠ "java/lang/invoke/VarHandle" ∧ (parseMethodDescriptor y_T_zoneOf.desc).map (fun d => d.parameters.length) = some 2 := by decide +kernel
abbrev y_T_noDoor : MethodName := ⟨"LockHouseModel", "noDoor", "(I)Z"⟩
abbrev b_T_noDoor : ByteArray := prog_8_method_4_code
abbrev k_T_noDoor : Cond := .code y_T_noDoor b_T_noDoor 1 (some FieldType.boolean)
theorem kw_T_noDoor : k_T_noDoor ∈ TT := w801
theorem hd_T_noDoor : y_T_noDoor.cls ≠ "java/lang/invoke/MethodHandle" ∧ y_T_noDoor.cls ≠ "java/lang/invoke/VarHandle" ∧ (parseMethodDescriptor y_T_noDoor.desc).map (fun d => d.parameters.length) = some 1 := by decide +kernel
abbrev y_T_show : MethodName := ⟨"LockHouseModel", "show", "(III)I"⟩
abbrev b_T_show : ByteArray := prog_8_method_25_code
abbrev k_T_show : Cond := .code y_T_show b_T_show 4 (some FieldType.int)
theorem kw_T_show : k_T_show ∈ TT := w805
theorem hd_T_show : y_T_show.cls ≠ "java/lang/invoke/MethodHandle" ∧ y_T_show.cls ≠ "java/lang/invoke/VarHandle" ∧ (parseMethodDescriptor y_T_show.desc).map (fun d => d.parameters.length) = some 3 := by decide +kernel
abbrev y_T_visitAt : MethodName := ⟨"LockHouseModel", "visitAt", "(III)I"⟩
abbrev b_T_visitAt : ByteArray := prog_8_method_23_code
abbrev k_T_visitAt : Cond := .code y_T_visitAt b_T_visitAt 9 (some FieldType.int)
theorem kw_T_visitAt : k_T_visitAt ∈ TT := w809
theorem hd_T_visitAt : y_T_visitAt.cls ≠ "java/lang/invoke/MethodHandle" ∧ y_T_visitAt.cls ≠ "java/lang/invoke/VarHandle" ∧ (parseMethodDescriptor y_T_visitAt.desc).map (fun d => d.parameters.length) = some 3 := by decide +kernel
abbrev y_T_revokedAt : MethodName := ⟨"LockHouseModel", "revokedAt", "(II)Z"⟩
abbrev b_T_revokedAt : ByteArray := prog_8_method_24_code
abbrev k_T_revokedAt : Cond := .code y_T_revokedAt b_T_revokedAt 3 (some FieldType.boolean)
theorem kw_T_revokedAt : k_T_revokedAt ∈ TT := w813
theorem hd_T_revokedAt : y_T_revokedAt.cls ≠ "java/lang/invoke/MethodHandle" ∧ y_T_revokedAt.cls ≠ "java/lang/invoke/VarHandle" ∧ (parseMethodDescriptor y_T_revokedAt.desc).map (fun d => d.parameters.length) = some 2 := by decide +kernel
abbrev y_T_greatest : MethodName := ⟨"LockHouseModel", "greatest", "(I)I"⟩
abbrev b_T_greatest : ByteArray := prog_8_method_21_code
abbrev k_T_greatest : Cond := .code y_T_greatest b_T_greatest 3 (some FieldType.int)
theorem kw_T_greatest : k_T_greatest ∈ TT := w817
theorem hd_T_greatest : y_T_greatest.cls ≠ "java/lang/invoke/MethodHandle" ∧ y_T_greatest.cls ≠ "java/lang/invoke/VarHandle" ∧ (parseMethodDescriptor y_T_greatest.desc).map (fun d => d.parameters.length) = some 1 := by decide +kernel
abbrev y_T_tear : MethodName := ⟨"LockHouseModel", "tear", "(II)V"⟩
abbrev b_T_tear : ByteArray := prog_8_method_26_code
abbrev k_T_tear : Cond := .code y_T_tear b_T_tear 3 none
theorem kw_T_tear : k_T_tear ∈ TT := w821
theorem hd_T_tear : y_T_tear.cls ≠ "java/lang/invoke/MethodHandle" ∧ y_T_tear.cls ≠ "java/lang/invoke/VarHandle" ∧ (parseMethodDescriptor y_T_tear.desc).map (fun d => d.parameters.length) = some 2 := by decide +kernel
abbrev y_T_written : MethodName := ⟨"LockHouseModel", "written", "(I)I"⟩
abbrev b_T_written : ByteArray := prog_8_method_27_code
abbrev k_T_written : Cond := .code y_T_written b_T_written 2 (some FieldType.int)
theorem kw_T_written : k_T_written ∈ TT := w825
theorem hd_T_written : y_T_written.cls ≠ "java/lang/invoke/MethodHandle" ∧ y_T_written.cls ≠ "java/lang/invoke/VarHandle" ∧ (parseMethodDescriptor y_T_written.desc).map (fun d => d.parameters.length) = some 1 := by decide +kernel
abbrev y_T_word : MethodName := ⟨"LockHouseModel", "word", "(III)I"⟩
abbrev b_T_word : ByteArray := prog_8_method_28_code
abbrev k_T_word : Cond := .code y_T_word b_T_word 4 (some FieldType.int)
theorem kw_T_word : k_T_word ∈ TT := w829
theorem hd_T_word : y_T_word.cls ≠ "java/lang/invoke/MethodHandle" ∧ y_T_word.cls ≠ "java/lang/invoke/VarHandle" ∧ (parseMethodDescriptor y_T_word.desc).map (fun d => d.parameters.length) = some 3 := by decide +kernel
abbrev y_T_carries : MethodName := ⟨"LockHouseModel", "carries", "(II)I"⟩
abbrev b_T_carries : ByteArray := prog_8_method_29_code
abbrev k_T_carries : Cond := .code y_T_carries b_T_carries 3 (some FieldType.int)
theorem kw_T_carries : k_T_carries ∈ TT := w833
theorem hd_T_carries : y_T_carries.cls ≠ "java/lang/invoke/MethodHandle" ∧ y_T_carries.cls ≠ "java/lang/invoke/VarHandle" ∧ (parseMethodDescriptor y_T_carries.desc).map (fun d => d.parameters.length) = some 2 := by decide +kernel
abbrev y_T_memory : MethodName := ⟨"LockHouseModel", "memory", "(II)I"⟩
abbrev b_T_memory : ByteArray := prog_8_method_30_code
abbrev k_T_memory : Cond := .code y_T_memory b_T_memory 3 (some FieldType.int)
theorem kw_T_memory : k_T_memory ∈ TT := w837
theorem hd_T_memory : y_T_memory.cls ≠ "java/lang/invoke/MethodHandle" ∧ y_T_memory.cls ≠ "java/lang/invoke/VarHandle" ∧ (parseMethodDescriptor y_T_memory.desc).map (fun d => d.parameters.length) = some 2 := by decide +kernel
abbrev y_T_about : MethodName := ⟨"LockHouseModel", "about", "(II)I"⟩
abbrev b_T_about : ByteArray := prog_8_method_33_code
abbrev k_T_about : Cond := .code y_T_about b_T_about 5 (some FieldType.int)
theorem kw_T_about : k_T_about ∈ TT := w841
theorem hd_T_about : y_T_about.cls ≠ "java/lang/invoke/MethodHandle" ∧ y_T_about.cls ≠ "java/lang/invoke/VarHandle" ∧ (parseMethodDescriptor y_T_about.desc).map (fun d => d.parameters.length) = some 2 := by decide +kernel
abbrev y_T_complete : MethodName := ⟨"LockHouseModel", "complete", "(I)I"⟩
abbrev b_T_complete : ByteArray := prog_8_method_22_code
abbrev k_T_complete : Cond := .code y_T_complete b_T_complete 3 (some FieldType.int)
theorem kw_T_complete : k_T_complete ∈ TT := w845
theorem hd_T_complete : y_T_complete.cls ≠ "java/lang/invoke/MethodHandle" ∧ y_T_complete.cls ≠ "java/lang/invoke/VarHandle" ∧ (parseMethodDescriptor y_T_complete.desc).map (fun d => d.parameters.length) = some 1 := by decide +kernel
abbrev y_T_marks : MethodName := ⟨"LockHouseModel", "marks", "(I)I"⟩
abbrev b_T_marks : ByteArray := prog_8_method_31_code
abbrev k_T_marks : Cond := .code y_T_marks b_T_marks 4 (some FieldType.int)
theorem kw_T_marks : k_T_marks ∈ TT := w849
theorem hd_T_marks : y_T_marks.cls ≠ "java/lang/invoke/MethodHandle" ∧ y_T_marks.cls ≠ "java/lang/invoke/VarHandle" ∧ (parseMethodDescriptor y_T_marks.desc).map (fun d => d.parameters.length) = some 1 := by decide +kernel
abbrev y_T_runs : MethodName := ⟨"LockHouseModel", "runs", "(I)I"⟩
abbrev b_T_runs : ByteArray := prog_8_method_32_code
abbrev k_T_runs : Cond := .code y_T_runs b_T_runs 4 (some FieldType.int)
theorem kw_T_runs : k_T_runs ∈ TT := w853
theorem hd_T_runs : y_T_runs.cls ≠ "java/lang/invoke/MethodHandle" ∧ y_T_runs.cls ≠ "java/lang/invoke/VarHandle" ∧ (parseMethodDescriptor y_T_runs.desc).map (fun d => d.parameters.length) = some 1 := by decide +kernel
abbrev y_T_run : MethodName := ⟨"LockHouseModel", "run", "(IIZ)I"⟩
abbrev b_T_run : ByteArray := prog_8_method_34_code
abbrev k_T_run : Cond := .code y_T_run b_T_run 6 (some FieldType.int)
theorem kw_T_run : k_T_run ∈ TT := w857
theorem hd_T_run : y_T_run.cls ≠ "java/lang/invoke/MethodHandle" ∧ y_T_run.cls ≠ "java/lang/invoke/VarHandle" ∧ (parseMethodDescriptor y_T_run.desc).map (fun d => d.parameters.length) = some 3 := by decide +kernel
abbrev y_T_refuses : MethodName := ⟨"LockHouseModel", "refuses", "(II)Z"⟩
abbrev b_T_refuses : ByteArray := prog_8_method_35_code
abbrev k_T_refuses : Cond := .code y_T_refuses b_T_refuses 3 (some FieldType.boolean)
theorem kw_T_refuses : k_T_refuses ∈ TT := w861
theorem hd_T_refuses : y_T_refuses.cls ≠ "java/lang/invoke/MethodHandle" ∧ y_T_refuses.cls ≠ "java/lang/invoke/VarHandle" ∧ (parseMethodDescriptor y_T_refuses.desc).map (fun d => d.parameters.length) = some 2 := by decide +kernel
abbrev y_T_reach : MethodName := ⟨"LockHouseModel", "reach", "(I)I"⟩
abbrev b_T_reach : ByteArray := prog_8_method_36_code
abbrev k_T_reach : Cond := .code y_T_reach b_T_reach 4 (some FieldType.int)
theorem kw_T_reach : k_T_reach ∈ TT := w865
theorem hd_T_reach : y_T_reach.cls ≠ "java/lang/invoke/MethodHandle" ∧ y_T_reach.cls ≠ "java/lang/invoke/VarHandle" ∧ (parseMethodDescriptor y_T_reach.desc).map (fun d => d.parameters.length) = some 1 := by decide +kernel
abbrev y_T_loseBattery : MethodName := ⟨"LockHouseModel", "loseBattery", "(I)V"⟩
abbrev b_T_loseBattery : ByteArray := prog_8_method_37_code
abbrev k_T_loseBattery : Cond := .code y_T_loseBattery b_T_loseBattery 2 none
theorem kw_T_loseBattery : k_T_loseBattery ∈ TT := w869
theorem hd_T_loseBattery : y_T_loseBattery.cls ≠ "java/lang/invoke/MethodHandle" ∧ y_T_loseBattery.cls ≠ "java/lang/invoke/VarHandle" ∧ (parseMethodDescriptor y_T_loseBattery.desc).map (fun d => d.parameters.length) = some 1 := by decide +kernel
abbrev y_T_visit : MethodName := ⟨"LockHouseModel", "visit", "(IIII)V"⟩
abbrev b_T_visit : ByteArray := prog_8_method_38_code
abbrev k_T_visit : Cond := .code y_T_visit b_T_visit 5 none
theorem kw_T_visit : k_T_visit ∈ TT := w873
theorem hd_T_visit : y_T_visit.cls ≠ "java/lang/invoke/MethodHandle" ∧ y_T_visit.cls ≠ "java/lang/invoke/VarHandle" ∧ (parseMethodDescriptor y_T_visit.desc).map (fun d => d.parameters.length) = some 4 := by decide +kernel
abbrev y_T_spread : MethodName := ⟨"LockHouseModel", "spread", "(I)I"⟩
abbrev b_T_spread : ByteArray := prog_8_method_39_code
abbrev k_T_spread : Cond := .code y_T_spread b_T_spread 4 (some FieldType.int)
theorem kw_T_spread : k_T_spread ∈ TT := w877
theorem hd_T_spread : y_T_spread.cls ≠ "java/lang/invoke/MethodHandle" ∧ y_T_spread.cls ≠ "java/lang/invoke/VarHandle" ∧ (parseMethodDescriptor y_T_spread.desc).map (fun d => d.parameters.length) = some 1 := by decide +kernel
