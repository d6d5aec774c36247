/-! Calls of methods that need the lists' surroundings; slack; copies of arrays of references. -/
section KROWS
variable {p : Program} {l : Launch} {e : Env} {R : Room} {s : State} {m : MethodId} {args : Array Value} {below : List Frame} {meth : Method} {c : Code} {H : Heap} {locs : List Loc} {cells slots : Nat} {Q : State → Prop}
variable {cc : ByteArray} {pc : Nat} {ls : Array Slot} {rest st0 : List Value} {g : GG} {A : Nat → Prop} {a : Nat} {M : MW} {H0 : Heap}
theorem W.more {f : JFrame} {cells' slots' : Nat} (hc : cells ≤ cells') (hs : slots ≤ slots') (k : W p l e R s m args below meth c H locs cells' slots' Q f) : W p l e R s m args below meth c H locs cells slots Q f := fun T hT X => k T hT (X.mono hc hs)
theorem dd_of {de mir : Nat} (hH : HS g A s.heap M H locs) (hZ : DD g A de mir s s.heap) : DD g (mA M H.size) de mir s H := (hZ.kept (fun a h1 h2 => hH.S.2.1 a h1 h2)).narrow hH.mA
theorem m_copyq (hexec : p.tables.exec = Jvm.exec) (hb : c.code = cc) (hml : c.maxLocals = ls.size) {de mir : Nat} (hZ : DD g A de mir s s.heap) (hown : s.vm.findClass "java/util/Arrays" = some m.cls) (hT : ∀ w ∈ TT, w.before args s = true) (hK : KK g s) (hH : HS g A H0 M H []) {a0 n0 n1 n : Nat} {f h : Nat → Option Nat} (ha0 : M a0 = some (oArr g n0 f)) (ha1 : M a = some (oArr g n1 h)) (hne : a0 ≠ a) (ci : Nat) {r : vw_C} (hc : cls8[ci]? = some r) (hca : Cond.castable r.1 "java/lang/Object" ∈ NW) (hel : ∀ i y, f i = some y → ∃ vs, M y = some (.inr (ci, vs))) (hn0 : n ≤ n0) (hn1 : n ≤ n1) (hn : n < 2 ^ 31) (hframes : 1 ≤ R.frames) (hlocals : (rest.map fun v => v.category).sum + (nativeFrameWords "java/lang/System" "arraycopy" 5 + 11) ≤ R.locals) (hdg : decode cc pc = .ok (.invokestatic 150, 3))
    (kk : ∀ (H1 : Heap) (locs1 : List Loc), HS g A H0 (mu M a (oArr g n1 (va_cpy f h 0 0 n))) H1 locs1 → H.size ≤ H1.size → W p l e R s m args below meth c H1 locs1 cells slots Q (F0 m (pc + 3) ls rest)) : W p l e R s m args below meth c H [] cells slots Q (F0 m pc ls (.int (nI n) :: .int 0 :: .ref a :: .int 0 :: .ref a0 :: rest)) := by
  have hcl : (nI n).toNatClampNeg = n := nI_clamp hn
  have hP : va_P g.1 cls8 [(a0, oArr g n0 f), (a, oArr g n1 h)] H := by
    intro k q hk
    cases k with
    | zero => cases hk; exact hH.1 _ _ ha0
    | succ k =>
      cases k with
      | zero => cases hk; exact hH.1 _ _ ha1
      | succ k => simp at hk
  have hD : va_D (fun q => q = a ∨ q = a0) [(a0, oArr g n0 f), (a, oArr g n1 h)] := by
    refine ⟨fun i j p q hi hj hpq => ?_, fun k q hk => ?_⟩
    · rcases i with _ | _ | i <;> rcases j with _ | _ | j <;> simp at hi hj <;> first | rfl | (subst hi; subst hj; exact absurd hpq hne) | (subst hi; subst hj; exact absurd hpq.symm hne)
    · rcases k with _ | _ | k <;> simp at hk
      · subst hk; exact Or.inr rfl
      · subst hk; exact Or.inl rfl
  refine va_copyq hexec hb hml hown (hT _ w312) (va_Nw.use rfl hZ.2.2.2.2.1) (hT _ w313) (hT _ w17) hK.1 hP hD (va_S.rf (H0 := H)) 0 1 5 5 (C := r.1) rfl rfl rfl rfl (by decide) (by decide) (nI_pos hn) (by rw [hcl]; show 0 + n ≤ n0; omega) (by rw [hcl]; show 0 + n ≤ n1; omega) (fun i hi y hy => ?_) (fun comp c0 h1 h2 => ?_) hframes hlocals hdg (fun H1 locs1 hP1 hD1 hS1 => ?_)
  · obtain ⟨vs, hv⟩ := hel _ _ hy
    exact hH.1.recv hK hv hc
  · obtain ⟨c1, t1, f1, f2, f3⟩ := Cond.castable_spec (va_Nw.use (A := args) rfl (hK.2.1 _ hca))
    cases Option.some.inj (h2.symm.trans f1)
    cases Option.some.inj (h1.symm.trans f2)
    exact f3
  · rw [hcl] at hP1
    have hAa : A a := hH.2.1 a (some_ne ha1)
    have hAa0 : A a0 := hH.2.1 a0 (some_ne ha0)
    refine kk H1 locs1 ⟨?_, fun q hq => ?_, hH.2.2.1, ?_⟩ hS1.1
    · intro q x hq
      by_cases h1 : q = a
      · subst h1; rw [mu_s] at hq; cases hq; exact hP1 1 _ rfl
      · rw [mu_n h1] at hq
        by_cases h2 : q = a0
        · subst h2; cases ha0.symm.trans hq; exact hP1 0 _ rfl
        · exact (hH.1 q x hq).kept (hS1.2.1 q (hH.1.lt hq) (fun z => z.elim h1 h2))
    · rcases mu_dom hq with rfl | hq
      · exact hAa
      · exact hH.2.1 q hq
    · refine ⟨Nat.le_trans hH.S.1 hS1.1, fun q h1 h2 => ?_, fun q hq => ?_⟩
      · rw [hS1.2.1 q (Nat.lt_of_lt_of_le h1 hH.S.1) (fun z => h2 (by rcases z with rfl | rfl <;> assumption))]
        exact hH.S.2.1 q h1 h2
      · rcases hS1.2.2 q hq with z | z
        · rw [z]; exact hAa
        · rw [z]; exact hAa0
variable {y : MethodName} {bytes : ByteArray} {maxL nL n index mc ms : Nat} {ret : Option FieldType} {rm : Room} {own C : String} {b ci : Nat} {As : List Value} {fs : List Value} {r : vw_C} {de mir : Nat}
theorem d_V {Qc : Array Value → State → Outcome → State → Prop} {free : Addr → Prop} (hexec : p.tables.exec = Jvm.exec) (hb : c.code = cc) (hml : c.maxLocals = nL) (hsz : ls.size = nL) (hown : s.vm.findClass own = some m.cls) (hT : ∀ w ∈ TT, w.before args s = true) (hK : KK g s) (hP : PM g M H) (hZ : DD g (mA M H.size) de mir s H)
    (hM : Met l y (Cond.code y bytes maxL ret :: TT) rm (Pd g (.ref b :: As) H.size M de mir) Qc mc ms free) (hkw : Cond.code y bytes maxL ret ∈ TT) (hlink : Cond.methodLink own index y ∈ TT) (hinst : Cond.instanceMethod y ∈ TT) (hsel : Cond.selects r.1 y y ∈ TT) (hini : Cond.initialized y.cls ∈ TT) (hd : y.cls ≠ "java/lang/invoke/MethodHandle" ∧ y.cls ≠ "java/lang/invoke/VarHandle" ∧ (parseMethodDescriptor y.desc).map (fun d => d.parameters.length) = some n) (hrc : rm.cells = mc) (hrs : rm.slots = ms) (hR : rm.frames + 1 ≤ R.frames ∧ 8 + (maxL + 11) + rm.locals ≤ R.locals)
    (he : M b = some (.inr (ci, fs))) (hc : cls8[ci]? = some r) (hn : As.length = n) (hst : st0 = As.reverse ++ .ref b :: rest) (hW : (rest.map fun v => v.category).sum ≤ 8) (hdg : decode cc pc = .ok (.invokevirtual index, 3)) (hf : cells + mc ≤ R.cells ∧ slots + ms ≤ R.slots) :
    va_Run p l e R s m args below meth c H locs cells slots mc ms (F0 m pc ls st0) rest (Qc (Value.ref b :: As).toArray) free :=
  va_runV (g := F0 m pc ls st0) ⟨hexec, hb, hml, hown, hT⟩ hM ⟨cb_of hT hkw hlink hini hd hrc hrs hR, hT _ hinst, hT _ hsel⟩ ⟨Pd.blind, hP.recv hK he hc, Pd.use hK hP hZ⟩ rfl hn hsz hst (lv_room hW) hdg hf
theorem d_S {Qc : Array Value → State → Outcome → State → Prop} {free : Addr → Prop} (hexec : p.tables.exec = Jvm.exec) (hb : c.code = cc) (hml : c.maxLocals = nL) (hsz : ls.size = nL) (hown : s.vm.findClass own = some m.cls) (hT : ∀ w ∈ TT, w.before args s = true) (hK : KK g s) (hP : PM g M H) (hZ : DD g (mA M H.size) de mir s H)
    (hM : Met l y (Cond.code y bytes maxL ret :: TT) rm (Pd g As H.size M de mir) Qc mc ms free) (hkw : Cond.code y bytes maxL ret ∈ TT) (hlink : Cond.methodLink own index y ∈ TT) (hstat : Cond.static y ∈ TT) (hini : Cond.initialized y.cls ∈ TT) (hd : y.cls ≠ "java/lang/invoke/MethodHandle" ∧ y.cls ≠ "java/lang/invoke/VarHandle" ∧ (parseMethodDescriptor y.desc).map (fun d => d.parameters.length) = some n) (hrc : rm.cells = mc) (hrs : rm.slots = ms) (hR : rm.frames + 1 ≤ R.frames ∧ 8 + (maxL + 11) + rm.locals ≤ R.locals)
    (hn : As.length = n) (hst : st0 = As.reverse ++ rest) (hW : (rest.map fun v => v.category).sum ≤ 8) (hdg : decode cc pc = .ok (.invokestatic index, 3)) (hf : cells + mc ≤ R.cells ∧ slots + ms ≤ R.slots) :
    va_Run p l e R s m args below meth c H locs cells slots mc ms (F0 m pc ls st0) rest (Qc As.toArray) free :=
  va_runS (g := F0 m pc ls st0) ⟨hexec, hb, hml, hown, hT⟩ hM ⟨cb_of hT hkw hlink hini hd hrc hrs hR, hT _ hstat⟩ ⟨Pd.blind, Pd.use hK hP hZ⟩ rfl hn hsz hst (lv_room hW) hdg hf
theorem d_I {Qc : Array Value → State → Outcome → State → Prop} {free : Addr → Prop} (hexec : p.tables.exec = Jvm.exec) (hb : c.code = cc) (hml : c.maxLocals = nL) (hsz : ls.size = nL) (hown : s.vm.findClass own = some m.cls) (hT : ∀ w ∈ TT, w.before args s = true) (hK : KK g s) (hP : PM g M H) (hZ : DD g (mA M H.size) de mir s H)
    (hM : Met l y (Cond.code y bytes maxL none :: TT) rm (Pd g (.ref b :: As) H.size M de mir) Qc mc ms free) (hkw : Cond.code y bytes maxL none ∈ TT) (hlink : Cond.methodLink own index y ∈ TT) (hinst : Cond.instanceMethod y ∈ TT) (hy : y.name = "<init>") (hini : Cond.initialized y.cls ∈ TT) (hd : y.cls ≠ "java/lang/invoke/MethodHandle" ∧ y.cls ≠ "java/lang/invoke/VarHandle" ∧ (parseMethodDescriptor y.desc).map (fun d => d.parameters.length) = some n) (hrc : rm.cells = mc) (hrs : rm.slots = ms) (hR : rm.frames + 1 ≤ R.frames ∧ 8 + (maxL + 11) + rm.locals ≤ R.locals)
    (hn : As.length = n) (hst : st0 = As.reverse ++ .ref b :: rest) (hW : (rest.map fun v => v.category).sum ≤ 8) (hdg : decode cc pc = .ok (.invokespecial index, 3)) (hf : cells + mc ≤ R.cells ∧ slots + ms ≤ R.slots) :
    va_Run p l e R s m args below meth c H locs cells slots mc ms (F0 m pc ls st0) rest (Qc (Value.ref b :: As).toArray) free :=
  va_runI (g := F0 m pc ls st0) ⟨hexec, hb, hml, hown, hT⟩ hM ⟨cb_of hT hkw hlink hini hd hrc hrs hR, hy, hT _ hinst⟩ ⟨Pd.blind, Pd.use hK hP hZ⟩ rfl hn hsz hst (lv_room hW) hdg hf
/-- constructors of nest mates -/
theorem c_IN {host : String} {Qc : Array Value → State → Outcome → State → Prop} {free : Addr → Prop} (hexec : p.tables.exec = Jvm.exec) (hb : c.code = cc) (hml : c.maxLocals = nL) (hsz : ls.size = nL) (hown : s.vm.findClass own = some m.cls) (hT : ∀ w ∈ TT, w.before args s = true) (hK : KK g s) (hP : PM g M H)
    (hM : Met l y (Cond.code y bytes maxL none :: TT) rm (Pm g (.ref b :: As) H.size M) Qc mc ms free) (hkw : Cond.code y bytes maxL none ∈ TT) (hlink : Cond.methodLinkNest own index y host ∈ NW) (hinst : Cond.instanceMethod y ∈ TT) (hy : y.name = "<init>") (hini : Cond.initialized y.cls ∈ TT) (hd : y.cls ≠ "java/lang/invoke/MethodHandle" ∧ y.cls ≠ "java/lang/invoke/VarHandle" ∧ (parseMethodDescriptor y.desc).map (fun d => d.parameters.length) = some n) (hrc : rm.cells = mc) (hrs : rm.slots = ms) (hR : rm.frames + 1 ≤ R.frames ∧ 8 + (maxL + 11) + rm.locals ≤ R.locals)
    (hn : As.length = n) (hst : st0 = As.reverse ++ .ref b :: rest) (hW : (rest.map fun v => v.category).sum ≤ 8) (hdg : decode cc pc = .ok (.invokespecial index, 3)) (hf : cells + mc ≤ R.cells ∧ slots + ms ≤ R.slots) :
    va_Run p l e R s m args below meth c H locs cells slots mc ms (F0 m pc ls st0) rest (Qc (Value.ref b :: As).toArray) free :=
  va_runIN (g := F0 m pc ls st0) ⟨hexec, hb, hml, hown, hT⟩ hM ⟨va_cnB n hT (tt_in0 hkw) rfl hrc hrs (hK.2.1 _ hlink) (hT _ hini) hd hR, hy, hT _ hinst⟩ ⟨Pm.blind, Pm.use hK hP⟩ rfl hn hsz hst (lv_room hW) hdg hf
theorem d_IN {host : String} {Qc : Array Value → State → Outcome → State → Prop} {free : Addr → Prop} (hexec : p.tables.exec = Jvm.exec) (hb : c.code = cc) (hml : c.maxLocals = nL) (hsz : ls.size = nL) (hown : s.vm.findClass own = some m.cls) (hT : ∀ w ∈ TT, w.before args s = true) (hK : KK g s) (hP : PM g M H) (hZ : DD g (mA M H.size) de mir s H)
    (hM : Met l y (Cond.code y bytes maxL none :: TT) rm (Pd g (.ref b :: As) H.size M de mir) Qc mc ms free) (hkw : Cond.code y bytes maxL none ∈ TT) (hlink : Cond.methodLinkNest own index y host ∈ NW) (hinst : Cond.instanceMethod y ∈ TT) (hy : y.name = "<init>") (hini : Cond.initialized y.cls ∈ TT) (hd : y.cls ≠ "java/lang/invoke/MethodHandle" ∧ y.cls ≠ "java/lang/invoke/VarHandle" ∧ (parseMethodDescriptor y.desc).map (fun d => d.parameters.length) = some n) (hrc : rm.cells = mc) (hrs : rm.slots = ms) (hR : rm.frames + 1 ≤ R.frames ∧ 8 + (maxL + 11) + rm.locals ≤ R.locals)
    (hn : As.length = n) (hst : st0 = As.reverse ++ .ref b :: rest) (hW : (rest.map fun v => v.category).sum ≤ 8) (hdg : decode cc pc = .ok (.invokespecial index, 3)) (hf : cells + mc ≤ R.cells ∧ slots + ms ≤ R.slots) :
    va_Run p l e R s m args below meth c H locs cells slots mc ms (F0 m pc ls st0) rest (Qc (Value.ref b :: As).toArray) free :=
  va_runIN (g := F0 m pc ls st0) ⟨hexec, hb, hml, hown, hT⟩ hM ⟨va_cnB n hT (tt_in0 hkw) rfl hrc hrs (hK.2.1 _ hlink) (hT _ hini) hd hR, hy, hT _ hinst⟩ ⟨Pd.blind, Pd.use hK hP hZ⟩ rfl hn hsz hst (lv_room hW) hdg hf
end KROWS
