/-! What the tables and the start give. -/
def clsF (a0 a1 a2 a3 a4 a5 a6 a7 : ClassId) : Nat → ClassId := fun c => match c with
  | 0 => a0 | 1 => a1 | 2 => a2 | 3 => a3 | 4 => a4 | 5 => a5 | 6 => a6 | _ => a7
def slotF (a0 a1 a2 a3 a4 a5 a6 a7 : Nat → Nat) : Nat → Nat → Nat := fun c => match c with
  | 0 => a0 | 1 => a1 | 2 => a2 | 3 => a3 | 4 => a4 | 5 => a5 | 6 => a6 | _ => a7
def arrF (a0 a1 a2 a3 a4 a5 : ClassId) : Nat → ClassId := fun c => match c with
  | 0 => a0 | 1 => a1 | 2 => a2 | 3 => a3 | 4 => a4 | _ => a5
theorem arr_of {args : Array Value} {s : State} {ty : FieldType} (h : (Cond.arrayClass ty).before args s = true) : ∃ cA, ArrOfT s cA ty ∧ s.vm.findClass ("[" ++ ty.toString) = some cA := by
  obtain ⟨cA, kA, comp, h1, h2, h3⟩ := Cond.arrayClass_spec h
  exact ⟨cA, fun n z => ⟨fun k h => (by cases h), kA, h2, comp, h3⟩, h1⟩
theorem arr_ofO {args : Array Value} {s : State} {C : String} (h : (Cond.arrayOver (.object C)).before args s = true) : ∃ cA, ArrOfT s cA (.object C) ∧ va_RA s cA (.object C) := by
  obtain ⟨comp, cA, kA, h1, -, h3, h4, h5⟩ := Cond.arrayOver_spec h
  exact ⟨cA, fun n z => ⟨fun k h => (by cases h), kA, h3, comp, h4⟩, kA, comp, h3, h4, h1, h5⟩
theorem strs_in : ∀ q ∈ STRS, Cond.stringRef q.1 q.2.1 q.2.2 ∈ lw_tbl := by decide +kernel
theorem strs_ex : ∀ q ∈ STRS, Cond.exactly (.string q.1 q.2.1) "java/lang/String" ∈ flatC (Jvm.Cond.and given_1 narrow_1) := by decide +kernel
abbrev DTm : Term := .static "java/util/ArrayList" DCE OBA
theorem dt_ex : Cond.exactly DTm OBA ∈ flatC (Jvm.Cond.and given_1 narrow_1) := by decide +kernel
theorem dt_ar : Cond.arrayOf DTm (.object "java/lang/Object") ∈ flatC (Jvm.Cond.and given_1 narrow_1) := by decide +kernel
theorem dt_le : Cond.eq (.length DTm) (.int 0) ∈ flatC (Jvm.Cond.and given_1 narrow_1) := by decide +kernel
theorem dt_mi : Cond.isRef (.mirror OBA) ∈ flatC (Jvm.Cond.and given_1 narrow_1) := by decide +kernel
theorem dt_us : Cond.isRef (.static Bundle.tN "UNASSIGNED_STACK" Bundle.steD) ∈ flatC (Jvm.Cond.and given_1 narrow_1) := by decide +kernel
theorem dt_ss : Cond.isRef (.static Bundle.tN "SUPPRESSED_SENTINEL" Bundle.listD) ∈ flatC (Jvm.Cond.and given_1 narrow_1) := by decide +kernel
theorem nc_1 : Cond.not (.castable IAE IOE) ∈ flatC (Jvm.Cond.and given_1 narrow_1) := by decide +kernel
theorem nc_2 : Cond.not (.castable ISE IOE) ∈ flatC (Jvm.Cond.and given_1 narrow_1) := by decide +kernel
theorem nc_3 : Cond.not (.castable ISE IAE) ∈ flatC (Jvm.Cond.and given_1 narrow_1) := by decide +kernel
theorem len_small {args : Array Value} {s : State} {t : Term} {v : Value} (h : (Term.length t).eval args s none [] s = some v) : ∃ a cell, t.eval args s none [] s = some (.ref a) ∧ s.arrayAt? a = some cell ∧ v = .int cell.slots.size.toInt32 ∧ cell.slots.size < 2 ^ 31 := by
  simp only [Term.eval, Option.bind_eq_bind] at h
  cases ht : t.eval args s none [] s with
  | none => simp [ht] at h
  | some x =>
    cases x <;> simp [ht] at h
    rename_i a
    cases hc : s.arrayAt? a with
    | none => simp [hc] at h
    | some cell =>
      simp [hc] at h
      exact ⟨a, cell, rfl, hc, h.2.symm, h.1⟩
theorem de_start {args : Array Value} {s : State} (hf : ∀ w ∈ flatC (Jvm.Cond.and given_1 narrow_1), w.before args s = true) : ∃ de, DTm.eval args s none [] s = some (.ref de) ∧ dE de s s.heap := by
  obtain ⟨de, c, cell, k, h1, h2, h3, -⟩ := Cond.exactly_spec (hf _ dt_ex)
  obtain ⟨h5, h6⟩ := Cond.arrayOf_spec (hf _ dt_ar) h1 h3
  refine ⟨de, h1, cell, h3, h5, ?_⟩
  have he := hf _ dt_le
  cases hl : (Term.length DTm).eval args s none [] s with
  | none => simp [Cond.before, Cond.holds, Cond.value, hl] at he
  | some v =>
    obtain ⟨a', cell', t1, t2, rfl, t4⟩ := len_small hl
    cases (h1.symm.trans t1)
    obtain ⟨t5, -⟩ := State.arrayAt?_spec t2
    cases (h3.symm.trans t5)
    have hv := Cond.eq_ints (first := s) (o := none) (idx := []) hl (show (Term.int 0).eval args s none [] s = some (.int 0) from rfl)
    have hz : cell.slots.size.toInt32 = 0 := by simpa [Cond.before, Cond.holds, hv] using he
    have hz2 : nI cell.slots.size = nI 0 := hz
    exact (nI_eq t4 (by decide)).mp hz2
theorem kk_start {args : Array Value} {s : State} (hts : ∀ w ∈ lw_tbl, w.before args s = true) (hgv : (Jvm.Cond.and given_1 narrow_1).before args s = true) : ∃ (g : GG) (de mi : Nat), KK g s ∧ ZH s s.heap ∧ DD g (fun q => s.heap.size ≤ q) de mi s s.heap ∧ ZN s := by
  have hT : ∀ w ∈ TT, w.before args s = true := fun w h => hts w (tt_lw h)
  have hf := flat_of_before _ hgv
  obtain ⟨c0, i0, k0⟩ := u_known hT in_AL (hT _ w32)
  obtain ⟨c1, i1, k1⟩ := u_known hT in_Card (hT _ w213)
  obtain ⟨c2, i2, k2⟩ := u_known hT in_Door (hT _ w71)
  obtain ⟨c3, i3, k3⟩ := u_known hT in_Entry (hT _ w369)
  obtain ⟨c4, i4, k4⟩ := u_known hT in_EL (hT _ w58)
  obtain ⟨c5, i5, k5⟩ := u_known hT in_Im (hT _ w219)
  obtain ⟨c6, i6, k6⟩ := u_known hT in_H (hT _ w24)
  obtain ⟨c7, i7, k7⟩ := u_known hT in_T (hT _ w665)
  obtain ⟨b0, x0, y0⟩ := arr_of (hT _ w96)
  obtain ⟨b1, x1, y1⟩ := arr_of (hT _ w228)
  obtain ⟨b2, x2, y2⟩ := arr_of (hT _ w382)
  obtain ⟨b3, x3, y3⟩ := arr_of (hT _ w878)
  obtain ⟨b4, x4, y4⟩ := arr_ofO (hts _ (nw_in _ nw70))
  obtain ⟨b5, x5, y5⟩ := arr_ofO (hts _ (nw_in _ nw307))
  obtain ⟨de, e1, e2⟩ := de_start hf
  obtain ⟨mi, e3⟩ := va_Mi.of (hf _ dt_mi)
  have no : ∀ a : Nat, a < s.heap.size → ¬ s.heap.size ≤ a := fun a h => Nat.not_le.mpr h
  refine ⟨((clsF c0 c1 c2 c3 c4 c5 c6 c7, slotF i0 i1 i2 i3 i4 i5 i6 i7), arrF b0 b1 b2 b3 b4 b5), de, mi, ⟨⟨fun c q hq => ?_, fun k q hq => ?_⟩, fun w hw => nw_of (nw_ok w hw) (hts w (nw_in w hw)), fun q hq => ?_⟩, ⟨?_, ?_⟩, ⟨va_Zref (hts _ u44) (hT _ w4) e1 no, e2, fun z => absurd e2.lt (Nat.not_lt.mpr z), e3, hts _ u314, hts _ u302⟩, va_Nc.of (hf _ nc_1), va_Nc.of (hf _ nc_2), va_Nc.of (hf _ nc_3)⟩
  · rcases c with _ | _ | _ | _ | _ | _ | _ | _ | c
    · cases hq; exact k0
    · cases hq; exact k1
    · cases hq; exact k2
    · cases hq; exact k3
    · cases hq; exact k4
    · cases hq; exact k5
    · cases hq; exact k6
    · cases hq; exact k7
    · cases hq
  · rcases k with _ | _ | _ | _ | _ | _ | k
    · cases hq; exact ⟨x0, y0⟩
    · cases hq; exact ⟨x1, y1⟩
    · cases hq; exact ⟨x2, y2⟩
    · cases hq; exact ⟨x3, y3⟩
    · cases hq; exact ⟨x4, y4⟩
    · cases hq; exact ⟨x5, y5⟩
    · cases hq
  · obtain ⟨a, -, -, -, h1, -⟩ := Cond.exactly_spec (hf _ (strs_ex q hq))
    exact ⟨a, vk_R.of (hts _ (strs_in q hq)) h1⟩
  · exact vx_Zqof (hts _ u171) (hT _ w9) (hf _ dt_us) (fun _ _ h => h)
  · exact vx_Zqof (hts _ u173) (hT _ w9) (hf _ dt_ss) (fun _ _ h => h)
