def STRS : List (String × Nat × String) := [("LockHouse", 54, "no more cards can be issued"), ("LockHouse", 207, "no such card"), ("LockHouse", 79, "no more entries can be made"), ("LockHouse", 209, "no such door"), ("LockHouse", 101, "no such zone"), ("LockHouse", 108, "a card was shown there already"), ("LockHouse", 117, "no such number of words"), ("LockHouse", 129, "no such word"), ("LockHouse", 149, "a card carries no such thing"), ("LockHouse", 151, "no such entry on the card"), ("LockHouse", 172, "there is no such thing about a door"), ("LockHouse", 178, "no such run"), ("LockHouse", 187, "no such entry"), ("LockHouse", 199, "no such visit, card or door"), ("LockHouse", 201, "no such number of visits")]
theorem st54 : ("LockHouse", 54, "no more cards can be issued") ∈ STRS := List.mem_of_getElem? (i := 0) rfl
theorem st207 : ("LockHouse", 207, "no such card") ∈ STRS := List.mem_of_getElem? (i := 1) rfl
theorem st79 : ("LockHouse", 79, "no more entries can be made") ∈ STRS := List.mem_of_getElem? (i := 2) rfl
theorem st209 : ("LockHouse", 209, "no such door") ∈ STRS := List.mem_of_getElem? (i := 3) rfl
theorem st101 : ("LockHouse", 101, "no such zone") ∈ STRS := List.mem_of_getElem? (i := 4) rfl
theorem st108 : ("LockHouse", 108, "a card was shown there already") ∈ STRS := List.mem_of_getElem? (i := 5) rfl
theorem st117 : ("LockHouse", 117, "no such number of words") ∈ STRS := List.mem_of_getElem? (i := 6) rfl
theorem st129 : ("LockHouse", 129, "no such word") ∈ STRS := List.mem_of_getElem? (i := 7) rfl
theorem st149 : ("LockHouse", 149, "a card carries no such thing") ∈ STRS := List.mem_of_getElem? (i := 8) rfl
theorem st151 : ("LockHouse", 151, "no such entry on the card") ∈ STRS := List.mem_of_getElem? (i := 9) rfl
theorem st172 : ("LockHouse", 172, "there is no such thing about a door") ∈ STRS := List.mem_of_getElem? (i := 10) rfl
theorem st178 : ("LockHouse", 178, "no such run") ∈ STRS := List.mem_of_getElem? (i := 11) rfl
theorem st187 : ("LockHouse", 187, "no such entry") ∈ STRS := List.mem_of_getElem? (i := 12) rfl
theorem st199 : ("LockHouse", 199, "no such visit, card or door") ∈ STRS := List.mem_of_getElem? (i := 13) rfl
theorem st201 : ("LockHouse", 201, "no such number of visits") ∈ STRS := List.mem_of_getElem? (i := 14) rfl
/-- what the tables say, in a state -/
def KK (g : GG) (U : State) : Prop := va_K g.1 cls8 (tyL g) U ∧ (∀ w ∈ NW, va_Nw w U) ∧ ∀ q ∈ STRS, ∃ a : Nat, vk_R q.1 q.2.1 q.2.2 a U
theorem KK.warm {g : GG} {s U : State} (hW : s.WarmedH U.vm) (h : KK g s) : KK g U := ⟨va_K.moved hW.alike h.1, fun w hw => nw_warm hW (nw_ok w hw) (h.2.1 w hw), fun q hq => by
  obtain ⟨a, ha⟩ := h.2.2 q hq
  exact ⟨a, vk_R.warm hW ha⟩⟩
theorem KK.K {g : GG} {s : State} (h : KK g s) : va_K g.1 cls8 (tyL g) s := h.1
abbrev MW : Type := Nat → Option va_E
def PM (g : GG) (M : MW) (H : Heap) : Prop := ∀ (a : Nat) (e : va_E), M a = some e → va_at g.1 cls8 (a, e) H
def mu (M : MW) (a : Nat) (e : va_E) : MW := fun q => if q = a then some e else M q
theorem mu_s {M : MW} {a : Nat} {e : va_E} : mu M a e a = some e := if_pos rfl
theorem mu_n {M : MW} {a q : Nat} {e : va_E} (h : q ≠ a) : mu M a e q = M q := if_neg h
theorem mu_dom {M : MW} {a q : Nat} {e : va_E} (h : mu M a e q ≠ none) : q = a ∨ M q ≠ none := by
  by_cases hq : q = a
  · exact Or.inl hq
  · rw [mu_n hq] at h; exact Or.inr h
theorem some_ne {α : Type} {x : Option α} {e : α} (h : x = some e) : x ≠ none := by rw [h]; exact fun z => by cases z
theorem mu_keep {M : MW} {a q : Nat} {e : va_E} (h : M q ≠ none) : mu M a e q ≠ none := by
  by_cases hq : q = a
  · subst hq; rw [mu_s]; exact fun z => by cases z
  · rw [mu_n hq]; exact h
theorem PM.lt {g : GG} {M : MW} {H : Heap} {a : Nat} {e : va_E} (h : PM g M H) (he : M a = some e) : a < H.size := (h a e he).lt
theorem PM.ltn {g : GG} {M : MW} {H : Heap} {a : Nat} (h : PM g M H) (he : M a ≠ none) : a < H.size := by
  cases hm : M a with
  | none => exact absurd hm he
  | some e => exact h.lt hm
theorem PM.nil {g : GG} {M : MW} {H : Heap} {a : Nat} (h : PM g M H) (ha : H.size ≤ a) : M a = none := by
  cases hm : M a with
  | none => rfl
  | some e => exact absurd (h.lt hm) (by omega)
theorem PM.one {g : GG} {M : MW} {H : Heap} {a : Nat} {e : va_E} (h : PM g M H) (he : M a = some e) : va_P g.1 cls8 [(a, e)] H := by
  intro k q hk
  cases k with
  | zero => cases hk; exact h a e he
  | succ k => simp at hk
theorem PM.put {g : GG} {M : MW} {H H1 : Heap} {a : Nat} {e : va_E} (h : PM g M H) (he : va_at g.1 cls8 (a, e) H1) (oq : ∀ q : Nat, q ≠ a → H1[q]? = H[q]?) : PM g (mu M a e) H1 := by
  intro q x hq
  by_cases hqa : q = a
  · subst hqa; rw [mu_s] at hq; cases hq; exact he
  · rw [mu_n hqa] at hq; exact (h q x hq).kept (oq q hqa)
theorem PM.new {g : GG} {M : MW} {H H1 : Heap} {e : va_E} (h : PM g M H) (he : va_at g.1 cls8 (H.size, e) H1) (oq : ∀ q : Nat, q < H.size → H1[q]? = H[q]?) : PM g (mu M H.size e) H1 := by
  intro q x hq
  by_cases hqa : q = H.size
  · subst hqa; rw [mu_s] at hq; cases hq; exact he
  · rw [mu_n hqa] at hq; exact (h q x hq).kept (oq q (h.lt hq))
theorem PM.kept {g : GG} {M : MW} {H H1 : Heap} (h : PM g M H) (hq : ∀ q : Nat, M q ≠ none → H1[q]? = H[q]?) : PM g M H1 := fun q x hx => (h q x hx).kept (hq q (some_ne hx))
theorem PM.recv {g : GG} {M : MW} {H : Heap} {s : State} {a ci : Nat} {r : vw_C} {fs : List Value} (hK : KK g s) (h : PM g M H) (he : M a = some (.inr (ci, fs))) (hc : cls8[ci]? = some r) : ∃ cell : Cell, H[a]? = some cell ∧ cell.vm.isStatics = false ∧ s.vm.findClass r.1 = some cell.cls := va_recv hK.1 (h.one he) hc (q0 := 0) rfl
/-- which cells a method may change -/
def mA (M : MW) (sz : Nat) : Nat → Prop := fun q => M q ≠ none ∨ sz ≤ q
/-- a walk's heap: it holds the map M, whose cells may be written; since H0 nothing outside A has changed -/
def HS (g : GG) (A : Nat → Prop) (H0 : Heap) (M : MW) (H : Heap) (locs : List Loc) : Prop := PM g M H ∧ (∀ q : Nat, M q ≠ none → A q) ∧ (∀ q : Nat, H0.size ≤ q → A q) ∧ va_S A H0 H locs
theorem HS.start {g : GG} {M : MW} {H : Heap} (h : PM g M H) : HS g (mA M H.size) H M H [] := ⟨h, fun _ q => Or.inl q, fun _ q => Or.inr q, va_S.rf⟩
theorem HS.P {g : GG} {A : Nat → Prop} {H0 : Heap} {M : MW} {H : Heap} {locs : List Loc} (h : HS g A H0 M H locs) : PM g M H := h.1
theorem HS.S {g : GG} {A : Nat → Prop} {H0 : Heap} {M : MW} {H : Heap} {locs : List Loc} (h : HS g A H0 M H locs) : va_S A H0 H locs := h.2.2.2
theorem HS.put {g : GG} {A : Nat → Prop} {H0 : Heap} {M : MW} {H H1 : Heap} {locs : List Loc} {a k : Nat} {e e0 : va_E} (h : HS g A H0 M H locs) (ha : M a = some e0) (he : va_at g.1 cls8 (a, e) H1) (z : H1.size = H.size) (oq : ∀ q : Nat, q ≠ a → H1[q]? = H[q]?) : HS g A H0 (mu M a e) H1 (locs ++ [⟨a, k⟩]) := by
  have hAa : A a := h.2.1 a (some_ne ha)
  refine ⟨h.1.put he oq, fun q hq => ?_, h.2.2.1, h.2.2.2.put z oq hAa⟩
  rcases mu_dom hq with rfl | hq
  · exact hAa
  · exact h.2.1 q hq
theorem HS.new {g : GG} {A : Nat → Prop} {H0 : Heap} {M : MW} {H H1 : Heap} {locs : List Loc} {e : va_E} (h : HS g A H0 M H locs) (he : va_at g.1 cls8 (H.size, e) H1) (z : H1.size = H.size + 1) (oq : ∀ q : Nat, q < H.size → H1[q]? = H[q]?) : HS g A H0 (mu M H.size e) H1 locs := by
  refine ⟨h.1.new he oq, fun q hq => ?_, h.2.2.1, ⟨Nat.le_trans h.S.1 (by omega), fun x h1 h2 => (oq x (Nat.lt_of_lt_of_le h1 h.S.1)).trans (h.S.2.1 x h1 h2), h.S.2.2⟩⟩
  rcases mu_dom hq with rfl | hq
  · exact h.2.2.1 _ h.S.1
  · exact h.2.1 q hq
theorem HS.mA {g : GG} {A : Nat → Prop} {H0 : Heap} {M : MW} {H : Heap} {locs : List Loc} (h : HS g A H0 M H locs) : ∀ q : Nat, mA M H.size q → A q := fun q hq => hq.elim (h.2.1 q) (fun z => h.2.2.1 q (Nat.le_trans h.S.1 z))
/-- a contract's start: the arguments, the map, the tables -/
def Pm (g : GG) (av : List Value) (sz : Nat) (M : MW) : Array Value → State → Prop := va_Pc av (fun U => U.heap.size = sz ∧ PM g M U.heap ∧ KK g U)
theorem Pm.blind {g : GG} {av : List Value} {sz : Nat} {M : MW} : FrameBlind (Pm g av sz M) := fun a U f mk q => by
  obtain ⟨q0, q1, qP, qK⟩ := q
  exact ⟨q0, q1, qP, KK.warm (s := U) (U := U.calling f mk a) (State.WarmedH.refl U) qK⟩
/-- the end of a method that only reads -/
def Qrd (v : Option Value) : Array Value → State → Outcome → State → Prop := fun _ st oc t => oc = .returned v ∧ t.heap = st.heap
/-- the end of a method that writes: the answer and the new map -/
def Qm {α : Type} (g : GG) (M : MW) (vf : α → Option Value) (post : α → MW → Prop) : Array Value → State → Outcome → State → Prop := fun _ st oc t => ∃ (v : α) (M' : MW), oc = .returned (vf v) ∧ post v M' ∧ PM g M' t.heap ∧ (∀ q : Nat, M' q ≠ none → mA M st.heap.size q) ∧ st.heap.size ≤ t.heap.size ∧ ∀ q : Nat, q < st.heap.size → M q = none → t.heap[q]? = st.heap[q]?
def nofree : Addr → Prop := fun _ => False
