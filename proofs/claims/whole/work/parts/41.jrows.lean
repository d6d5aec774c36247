/-! Arrays of references: made, written, copied; the static empty array of lists. -/
abbrev DCE : String := "DEFAULTCAPACITY_EMPTY_ELEMENTDATA"
abbrev OBA : String := "[Ljava/lang/Object;"
def oArr (g : GG) (n : Nat) (f : Nat → Option Nat) : va_E := .inl (g.2 5, n, .inr (.inr (.inr (.inr f))))
theorem nat_moved {x : MethodName} {u U : State} (hvm : u.vm.Alike U.vm) (h : va_Nw (.native x) u) : va_Nw (.native x) U := va_tabs rfl (rfl : (u.setVm U.vm).vm = U.vm) (by rw [Cond.native_setVm hvm]; exact h)
abbrev y_getC : MethodName := ⟨"java/lang/Object", "getClass", "()Ljava/lang/Class;"⟩
/-- the empty array of lists: only its class and length are known -/
def dE (de : Nat) (U : State) (H : Heap) : Prop := ∃ cell : Cell, H[de]? = some cell ∧ U.isArrayOf cell (.object "java/lang/Object") ∧ cell.slots.size = 0
theorem dE.lt {de : Nat} {U : State} {H : Heap} (h : dE de U H) : de < H.size := by
  obtain ⟨cell, h1, -⟩ := h
  exact (Array.getElem?_eq_some_iff.mp h1).1
theorem dE.kept {de : Nat} {U : State} {H H1 : Heap} (h : dE de U H) (hq : H1[de]? = H[de]?) : dE de U H1 := by
  obtain ⟨cell, h1, h2⟩ := h
  exact ⟨cell, by rw [hq]; exact h1, h2⟩
theorem dE.moved {de : Nat} {u U : State} {H : Heap} (hvm : u.vm.Alike U.vm) (h : dE de u H) : dE de U H := by
  obtain ⟨cell, h1, h2, h3⟩ := h
  exact ⟨cell, h1, State.isArrayOf_alike hvm h2, h3⟩
/-- what the lists need beside: the empty array, the class object, two native methods -/
def DD (g : GG) (A : Nat → Prop) (de mi : Nat) (U : State) (H : Heap) : Prop := va_Z "java/util/ArrayList" DCE OBA (.ref de) A U H ∧ dE de U H ∧ ¬ A de ∧ va_Mi OBA mi U ∧ va_Nw (.native arraycopyName) U ∧ va_Nw (.native y_getC) U
theorem DD.moved {g : GG} {A : Nat → Prop} {de mi : Nat} {u U : State} {H : Heap} (hvm : u.vm.Alike U.vm) (h : DD g A de mi u H) : DD g A de mi U H := ⟨va_Z.moved hvm h.1, h.2.1.moved hvm, h.2.2.1, va_Mi.moved hvm h.2.2.2.1, nat_moved hvm h.2.2.2.2.1, nat_moved hvm h.2.2.2.2.2⟩
theorem DD.kept {g : GG} {A : Nat → Prop} {de mi : Nat} {U : State} {H H1 : Heap} (h : DD g A de mi U H) (hq : ∀ a : Nat, a < H.size → ¬ A a → H1[a]? = H[a]?) : DD g A de mi U H1 := ⟨va_Z.kept h.1 hq, h.2.1.kept (hq de h.2.1.lt h.2.2.1), h.2.2.1, h.2.2.2⟩
theorem DD.narrow {g : GG} {A B : Nat → Prop} {de mi : Nat} {U : State} {H : Heap} (h : DD g A de mi U H) (hAB : ∀ q, B q → A q) : DD g B de mi U H := ⟨va_Z.narrow h.1 hAB, h.2.1, fun z => h.2.2.1 (hAB _ z), h.2.2.2⟩
def Pd (g : GG) (av : List Value) (sz : Nat) (M : MW) (de mi : Nat) : Array Value → State → Prop := va_Pc av (fun U => U.heap.size = sz ∧ PM g M U.heap ∧ KK g U ∧ DD g (mA M sz) de mi U U.heap)
theorem Pd.blind {g : GG} {av : List Value} {sz : Nat} {M : MW} {de mi : Nat} : FrameBlind (Pd g av sz M de mi) := fun a U f mk q => by
  obtain ⟨q0, q1, qP, qK, qZ⟩ := q
  exact ⟨q0, q1, qP, KK.warm (s := U) (U := U.calling f mk a) (State.WarmedH.refl U) qK, DD.moved (u := U) (U := U.calling f mk a) (Vm.Alike.refl U.vm) qZ⟩
theorem Pd.use {g : GG} {s : State} {M : MW} {H : Heap} {av : List Value} {de mi : Nat} (hK : KK g s) (hP : PM g M H) (hZ : DD g (mA M H.size) de mi s H) : ∀ U : State, U.heap = H → s.WarmedH U.vm → Pd g av H.size M de mi av.toArray U := fun U hU hW => ⟨rfl, by rw [hU], by rw [hU]; exact hP, hK.warm hW, by rw [hU]; exact DD.moved hW.alike hZ⟩
theorem dmet_of {l : Launch} {g : GG} {av : List Value} {sz : Nat} {M : MW} {de mir : Nat} {Qc : Array Value → State → Outcome → State → Prop} {mc ms maxL : Nat} {free : Addr → Prop} {cc : ByteArray} {ret : Option FieldType} {y : MethodName} {rm : Room} (hy : plainName y.cls = true) (hlen : (lg_sl av).length ≤ maxL)
    (body : ∀ (p : Program) (e : Env) (s : State) (m : MethodId) (below : List Frame) (meth : Method) (c : Code), p.tables.exec = Jvm.exec → c.code = cc → meth.sig.returnType = ret → c.maxLocals = maxL → s.vm.findClass y.cls = some m.cls → meth.locks = false → meth.name = y.name → (∀ w ∈ TT, w.before av.toArray s = true) → s.heap.size = sz → PM g M s.heap → KK g s → DD g (mA M s.heap.size) de mir s s.heap →
      ∀ ls : Array Slot, lv_has ls maxL (lv_args 0 av) → W p l e rm s m av.toArray below meth c s.heap [] 0 0 (MQ below Qc av.toArray s mc ms free) (F0 m 0 ls [])) : Met l y (Cond.code y cc maxL ret :: TT) rm (Pd g av sz M de mir) Qc mc ms free := by
  refine Met.ofW (cc := cc) (maxL := maxL) (ret := ret) hy rfl ?_
  intro p e s m args below meth c s₁ B hml hv
  obtain ⟨rfl, hsz, hP, hK, hZ⟩ := hv
  have hts := atoms_spec (ws := Cond.code y cc maxL ret :: TT) B.pre
  have hl := lv_entry av (n := maxL) hlen
  rw [lg_entry_eq]
  generalize (lg_sl av ++ List.replicate (maxL - (lg_sl av).length) Slot.unset).toArray = ls at hl ⊢
  exact body p e s m below meth c B.exec B.bytes B.returns hml (findClass_of_methodNamed B.named) B.notSynchronized (name_of_methodNamed B.named B.method).1 (fun w h => hts w (List.mem_cons_of_mem _ h)) hsz hP hK (by rw [hsz]; exact hZ) ls hl
section JROWS2
variable {p : Program} {l : Launch} {e : Env} {R : Room} {s : State} {m : MethodId} {args : Array Value} {below : List Frame} {meth : Method} {c : Code} {H : Heap} {locs : List Loc} {cells slots : Nat} {Q : State → Prop}
variable {cc : ByteArray} {pc : Nat} {ls : Array Slot} {rest st0 : List Value} {g : GG} {A : Nat → Prop} {a : Nat} {M : MW} {H0 : Heap}
theorem m_newq (hexec : p.tables.exec = Jvm.exec) (hb : c.code = cc) {own C : String} {index : Nat} (hown : s.vm.findClass own = some m.cls) (hclink : (Cond.classLink own index C).before args s = true) (hK : KK g s) (hover : Cond.arrayOver (.object C) ∈ NW) (hH : HS g A H0 M H locs) (t0 : Nat) {cA : ClassId} (ht : (tyL g)[t0]? = some (cA, .object C))
    {n : Int32} {N' : Nat} (hn : n = nI N') (hN : N' < 2 ^ 20) (hcells : cells + 1 ≤ R.cells) (hslots : slots + N' ≤ R.slots) (hdg : decode cc pc = .ok (.anewarray index, 3))
    (kk : ∀ (H1 : Heap), HS g A H0 (mu M H.size (.inl (cA, N', .inr (.inr (.inr (.inr (fun _ => none))))))) H1 locs → H1.size = H.size + 1 → W p l e R s m args below meth c H1 locs (cells + 1) (slots + N') Q (F0 m (pc + 3) ls (.ref H.size :: rest))) : W p l e R s m args below meth c H locs cells slots Q (F0 m pc ls (.int n :: rest)) := by
  subst hn
  have hcl : (nI N').toNatClampNeg = N' := nI_clamp (by omega)
  refine W.anew hexec hb hown hclink (hK.2.1 _ hover) rfl hdg rfl (nI_pos (by omega)) (by rw [hcl]; omega) hcells (by rw [hcl]; exact hslots) fun cB kA comp f1 f2 f3 f4 => ?_
  obtain ⟨kA', comp', k1, k2, k3, k4⟩ := (hK.1.2 t0 _ ht).2
  have hcc : cB = cA := Option.some.inj (f1.symm.trans k4)
  subst hcc
  rw [hcl]
  generalize hH1 : H.push ({ cls := cB, slots := Array.replicate N' .null, vm := .none } : Cell) = H1
  have z1 : H1.size = H.size + 1 := by rw [← hH1, Array.size_push]
  refine kk H1 (hH.new ?_ z1 (fun q hq => by rw [← hH1, Array.getElem?_push, if_neg (Nat.ne_of_lt hq)])) z1
  show H1[H.size]? = some (vp_cell _ _)
  rw [vp_cell_q, ← hH1, Array.getElem?_push_size]
  exact congrArg some (arrV_new cB N' .null)
theorem m_aast (hexec : p.tables.exec = Jvm.exec) (hb : c.code = cc) (hK : KK g s) (hH : HS g A H0 M H locs) (t0 ci : Nat) {E : String} {cA : ClassId} {r : vw_C} {n v : Nat} {vs : List Value} {f : Nat → Option Nat} (ha : M a = some (.inl (cA, n, .inr (.inr (.inr (.inr f)))))) (ht : (tyL g)[t0]? = some (cA, .object E)) (hca : r.1 = E ∨ Cond.castable r.1 E ∈ NW) (hv : M v = some (.inr (ci, vs))) (hc : cls8[ci]? = some r) {i : Int32} {j : Nat} (hj : i = nI j) (hin : j < n) (hn : n < 2 ^ 31) (hdg : decode cc pc = .ok (.aastore, 1))
    (kk : ∀ (H1 : Heap) (locs1 : List Loc), HS g A H0 (mu M a (.inl (cA, n, .inr (.inr (.inr (.inr (va_up f j (some v)))))))) H1 locs1 → H1.size = H.size → W p l e R s m args below meth c H1 locs1 cells slots Q (F0 m (pc + 1) ls rest)) : W p l e R s m args below meth c H locs cells slots Q (F0 m pc ls (.ref v :: .int i :: .ref a :: rest)) := by
  subst hj
  have hcl : (nI j).toNatClampNeg = j := nI_clamp (by omega)
  obtain ⟨r', hr', cellV, g1, g2, g3, -⟩ := hH.1 v _ hv
  have hcls := (hK.1.1 ci r hc).2
  obtain ⟨kA, comp, k1, k2, k3, -⟩ := (hK.1.2 t0 _ ht).2
  obtain ⟨kE, hkE, -⟩ := Vm.findClass_spec k3
  obtain ⟨kC, hkC, -⟩ := hcls.2
  have hasg : s.vm.assignable (g.1.1 ci) comp = true := by
    rcases hca with rfl | hca
    · cases Option.some.inj (hcls.1.symm.trans k3)
      exact va_assign hcls
    · obtain ⟨c0, t1, f1, f2, f3⟩ := Cond.castable_spec (va_Nw.use (A := args) rfl (hK.2.1 _ hca))
      cases Option.some.inj (hcls.1.symm.trans f1)
      cases Option.some.inj (k3.symm.trans f2)
      exact f3
  refine W.aast hexec hb (hH.1 a _ ha) (fun q h => by cases h) (fun h => by cases h) k1 k2 rfl hkE ⟨nI_pos (by omega), by show _ < (arrV _ _ _).slots.size; rw [arrV_size, hcl]; exact hin⟩ g1 (fun q h => by rw [g3] at h; cases h) (by rw [g2]; exact hkC) (by rw [g2]; exact hasg) rfl rfl hdg fun H1 x1 z oq => ?_
  refine kk H1 _ (hH.put ha ?_ z oq) z
  show H1[a]? = some (vp_cell _ _)
  rw [x1]
  rw [vp_cell_q, vp_cell_q, arrV_store, hcl]
  congr 2
  funext q
  by_cases hq : q = j
  · subst hq
    simp [updV, va_up, va_rf]
  · simp [updV, va_up, hq]
theorem m_gets (hexec : p.tables.exec = Jvm.exec) (hb : c.code = cc) {de mir index : Nat} (hZ : DD g A de mir s s.heap) (hH : HS g A s.heap M H locs) (hown : s.vm.findClass "java/util/ArrayList" = some m.cls) (hT : ∀ w ∈ TT, w.before args s = true) (hdg : decode cc pc = .ok (.getstatic 39, 3))
    (kk : W p l e R s m args below meth c H locs cells slots Q (F0 m (pc + 3) ls (.ref de :: rest))) : W p l e R s m args below meth c H locs cells slots Q (F0 m pc ls rest) :=
  va_gets hexec hb hZ.1 hH.S hown (hT _ w43) (fun _ h => h) hdg kk
theorem m_len0 (hexec : p.tables.exec = Jvm.exec) (hb : c.code = cc) {de mir : Nat} {A' : Nat → Prop} (hD : DD g A' de mir s H) (hdg : decode cc pc = .ok (.arraylength, 1))
    (kk : W p l e R s m args below meth c H locs cells slots Q (F0 m (pc + 1) ls (.int 0 :: rest))) : W p l e R s m args below meth c H locs cells slots Q (F0 m pc ls (.ref de :: rest)) := by
  obtain ⟨cell, h1, h2, h3⟩ := hD.2.1
  exact W.alen (n := 0) hexec hb h1 h2 (by rw [h3]; rfl) rfl rfl hdg kk
end JROWS2
