/-! Starts and ends of contracts, calls over maps. -/
theorem tt_in0 {c2 : Cond} (h2 : c2 ∈ TT) : GoodIn TT (c2 :: TT) := fun w hw => by
  have h : w ∈ TT := by
    rcases List.mem_cons.mp hw with rfl | h
    · exact h2
    · exact h
  exact ⟨h, good_of_word (tt_good h)⟩
theorem met_of {l : Launch} {g : GG} {av : List Value} {sz : Nat} {M : MW} {Qc : Array Value → State → Outcome → State → Prop} {mc ms maxL : Nat} {free : Addr → Prop} {cc : ByteArray} {ret : Option FieldType} {y : MethodName} {rm : Room} (hy : plainName y.cls = true) (hlen : (lg_sl av).length ≤ maxL)
    (body : ∀ (p : Program) (e : Env) (s : State) (m : MethodId) (below : List Frame) (meth : Method) (c : Code), p.tables.exec = Jvm.exec → c.code = cc → meth.sig.returnType = ret → c.maxLocals = maxL → s.vm.findClass y.cls = some m.cls → meth.locks = false → meth.name = y.name → (∀ w ∈ TT, w.before av.toArray s = true) → s.heap.size = sz → PM g M s.heap → KK g s →
      ∀ ls : Array Slot, lv_has ls maxL (lv_args 0 av) → W p l e rm s m av.toArray below meth c s.heap [] 0 0 (MQ below Qc av.toArray s mc ms free) (F0 m 0 ls [])) : Met l y (Cond.code y cc maxL ret :: TT) rm (Pm g av sz M) Qc mc ms free := by
  refine Met.ofW (cc := cc) (maxL := maxL) (ret := ret) hy rfl ?_
  intro p e s m args below meth c s₁ B hml hv
  obtain ⟨rfl, hsz, hP, hK⟩ := hv
  have hts := atoms_spec (ws := Cond.code y cc maxL ret :: TT) B.pre
  have hl := lv_entry av (n := maxL) hlen
  rw [lg_entry_eq]
  generalize (lg_sl av ++ List.replicate (maxL - (lg_sl av).length) Slot.unset).toArray = ls at hl ⊢
  exact body p e s m below meth c B.exec B.bytes B.returns hml (findClass_of_methodNamed B.named) B.notSynchronized (name_of_methodNamed B.named B.method).1 (fun w h => hts w (List.mem_cons_of_mem _ h)) hsz hP hK ls hl
section CROWS
variable {p : Program} {l : Launch} {e : Env} {R : Room} {s : State} {m : MethodId} {args : Array Value} {below : List Frame} {meth : Method} {c : Code} {H : Heap} {locs : List Loc} {cells slots : Nat} {Q : State → Prop}
variable {cc : ByteArray} {pc : Nat} {ls : Array Slot} {rest st0 : List Value} {g : GG} {A : Nat → Prop} {a : Nat} {M : MW} {H0 : Heap}
theorem rd_iret (hexec : p.tables.exec = Jvm.exec) (hb : c.code = cc) (hr : meth.sig.returnType = some .int) (hlocks : meth.locks = false) {v r : Int32} (hv : v = r) (hdg : decode cc pc = .ok (.ireturn, 1)) : W p l e R s m args below meth c s.heap [] 0 0 (MQ below (Qrd (some (.int r))) args s 0 0 nofree) (F0 m pc ls [.int v]) := by
  subst hv
  exact W.iret hexec hb hr (fun t ht _ => ⟨rfl, ht⟩) (fun _ h => by cases h) hdg hlocks
theorem rd_zret (hexec : p.tables.exec = Jvm.exec) (hb : c.code = cc) (hr : meth.sig.returnType = some .boolean) (hlocks : meth.locks = false) {v r : Int32} (hv : v = r) (hn : v = 0 ∨ v = 1) (hdg : decode cc pc = .ok (.ireturn, 1)) : W p l e R s m args below meth c s.heap [] 0 0 (MQ below (Qrd (some (.int r))) args s 0 0 nofree) (F0 m pc ls [.int v]) := by
  subst hv
  exact W.zret hexec hb hr (by rcases hn with rfl | rfl <;> decide) (fun t ht _ => ⟨rfl, ht⟩) (fun _ h => by cases h) hdg hlocks
theorem rd_aret (hexec : p.tables.exec = Jvm.exec) (hb : c.code = cc) {rt : FieldType} (hr : meth.sig.returnType = some rt) (hrt : (∃ n, rt = .object n) ∨ ∃ t, rt = .array t) (hlocks : meth.locks = false) {v r : Nat} (hv : v = r) (hdg : decode cc pc = .ok (.areturn, 1)) : W p l e R s m args below meth c s.heap [] 0 0 (MQ below (Qrd (some (.ref r))) args s 0 0 nofree) (F0 m pc ls [.ref v]) := by
  subst hv
  exact W.aret hexec hb hr hrt (Or.inr ⟨_, rfl⟩) (fun t ht _ => ⟨rfl, ht⟩) (fun _ h => by cases h) hdg hlocks
theorem qm_end {α : Type} {M' : MW} {vf : α → Option Value} {post : α → MW → Prop} {v : α} {t : State} (hH : HS g (mA M s.heap.size) s.heap M' H locs) (hp : post v M') (ht : t.heap = H) : Qm g M vf post args s (.returned (vf v)) t :=
  ⟨v, M', rfl, hp, by rw [ht]; exact hH.1, hH.2.1, by rw [ht]; exact hH.S.1, fun q h1 h2 => by rw [ht]; exact hH.S.2.1 q h1 (fun h => h.elim (fun z => z h2) (fun z => by omega))⟩
theorem m_vret {post : Unit → MW → Prop} {M' : MW} {sz : Nat} (hexec : p.tables.exec = Jvm.exec) (hb : c.code = cc) (hr : meth.sig.returnType = none) (hlocks : meth.locks = false) (hsz : s.heap.size = sz) (hH : HS g (mA M s.heap.size) s.heap M' H locs) (hp : post () M') (hdg : decode cc pc = .ok (.return_, 1)) : W p l e R s m args below meth c H locs cells slots (MQ below (Qm g M (fun _ => none) post) args s cells slots (mA M sz)) (F0 m pc ls []) := by
  subst hsz
  exact W.vret hexec hb hr (fun t ht _ => qm_end (v := ()) hH hp ht) hH.S.2.2 hdg hlocks
theorem m_iret {post : Int32 → MW → Prop} {M' : MW} {sz : Nat} {v : Int32} (hexec : p.tables.exec = Jvm.exec) (hb : c.code = cc) (hr : meth.sig.returnType = some .int) (hlocks : meth.locks = false) (hsz : s.heap.size = sz) (hH : HS g (mA M s.heap.size) s.heap M' H locs) (hp : post v M') (hdg : decode cc pc = .ok (.ireturn, 1)) : W p l e R s m args below meth c H locs cells slots (MQ below (Qm g M (fun r => some (.int r)) post) args s cells slots (mA M sz)) (F0 m pc ls [.int v]) := by
  subst hsz
  exact W.iret hexec hb hr (fun t ht _ => qm_end (v := v) (vf := fun r => some (.int r)) hH hp ht) hH.S.2.2 hdg hlocks
theorem m_zret {post : Int32 → MW → Prop} {M' : MW} {sz : Nat} {v : Int32} (hexec : p.tables.exec = Jvm.exec) (hb : c.code = cc) (hr : meth.sig.returnType = some .boolean) (hlocks : meth.locks = false) (hsz : s.heap.size = sz) (hH : HS g (mA M s.heap.size) s.heap M' H locs) (hn : v = 0 ∨ v = 1) (hp : post v M') (hdg : decode cc pc = .ok (.ireturn, 1)) : W p l e R s m args below meth c H locs cells slots (MQ below (Qm g M (fun r => some (.int r)) post) args s cells slots (mA M sz)) (F0 m pc ls [.int v]) := by
  subst hsz
  exact W.zret hexec hb hr (by rcases hn with rfl | rfl <;> decide) (fun t ht _ => qm_end (v := v) (vf := fun r => some (.int r)) hH hp ht) hH.S.2.2 hdg hlocks
theorem m_aret {post : Nat → MW → Prop} {M' : MW} {sz v : Nat} {rt : FieldType} (hexec : p.tables.exec = Jvm.exec) (hb : c.code = cc) (hr : meth.sig.returnType = some rt) (hrt : (∃ n, rt = .object n) ∨ ∃ t, rt = .array t) (hlocks : meth.locks = false) (hsz : s.heap.size = sz) (hH : HS g (mA M s.heap.size) s.heap M' H locs) (hp : post v M') (hdg : decode cc pc = .ok (.areturn, 1)) : W p l e R s m args below meth c H locs cells slots (MQ below (Qm g M (fun r => some (.ref r)) post) args s cells slots (mA M sz)) (F0 m pc ls [.ref v]) := by
  subst hsz
  exact W.aret hexec hb hr hrt (Or.inr ⟨_, rfl⟩) (fun t ht _ => qm_end (v := v) (vf := fun r => some (.ref r)) hH hp ht) hH.S.2.2 hdg hlocks
variable {y : MethodName} {bytes : ByteArray} {maxL nL n index mc ms : Nat} {ret : Option FieldType} {rm : Room} {own C : String} {b ci : Nat} {As : List Value} {fs : List Value} {r : vw_C}
theorem Pm.use {av : List Value} (hK : KK g s) (hP : PM g M H) : ∀ U : State, U.heap = H → s.WarmedH U.vm → Pm g av H.size M av.toArray U := fun U hU hW => ⟨rfl, by rw [hU], by rw [hU]; exact hP, hK.warm hW⟩
theorem rd_run {v : Option Value} {av : Array Value} {st1 : List Value} (hr : va_Run p l e R s m args below meth c H locs cells slots 0 0 (F0 m pc ls st0) rest (Qrd v av) nofree) (hst : v.toList ++ rest = st1)
    (kk : W p l e R s m args below meth c H locs cells slots Q (F0 m (pc + 3) ls st1)) : W p l e R s m args below meth c H locs cells slots Q (F0 m pc ls st0) := by
  subst hst
  intro T hT X
  obtain ⟨w, st₀, t, T', L, h0, X', hL, e1, e2, ⟨hv, hh⟩, st⟩ := hr T hT X
  cases hv
  obtain ⟨t2, a1, b1⟩ := kk T' (by rw [e1, hh, h0]) (Stand.forget X' (fun q h => (hL q h).elim))
  exact ⟨t2, st t2 a1, b1⟩
theorem m_run {α : Type} {vf : α → Option Value} {post : α → MW → Prop} {av : Array Value} (hr : va_Run p l e R s m args below meth c H locs cells slots mc ms (F0 m pc ls st0) rest (Qm g M vf post av) (mA M H.size)) (hH : HS g A H0 M H locs)
    (kk : ∀ (v : α) (M' : MW) (H1 : Heap) (locs1 : List Loc), post v M' → HS g A H0 M' H1 locs1 → H.size ≤ H1.size → (∀ q : Nat, M' q ≠ none → mA M H.size q) → (∀ q : Nat, q < H.size → M q = none → H1[q]? = H[q]?) → W p l e R s m args below meth c H1 locs1 (cells + mc) (slots + ms) Q (F0 m (pc + 3) ls ((vf v).toList ++ rest))) : W p l e R s m args below meth c H locs cells slots Q (F0 m pc ls st0) := by
  intro T hT X
  obtain ⟨w, st₀, t, T', L, h0, X', hL, e1, e2, ⟨v, M', hv, hp, hP, hd, hz, hk⟩, st⟩ := hr T hT X
  cases hv
  rw [h0] at hz hk hd
  obtain ⟨t2, a1, b1⟩ := kk v M' T'.heap (locs ++ L) hp ⟨by rw [e1]; exact hP, fun q hq => hH.mA q (hd q hq), hH.2.2.1, ⟨Nat.le_trans hH.S.1 (by rw [e1]; exact hz), fun q h1 h2 => by
      rw [e1, hk q (Nat.lt_of_lt_of_le h1 hH.S.1) (Classical.byContradiction fun z => h2 (hH.2.1 q z))]; exact hH.S.2.1 q h1 h2, fun q hq => by
      rcases List.mem_append.mp hq with h | h
      · exact hH.S.2.2 q h
      · exact hH.mA _ (hL q h)⟩⟩ (by rw [e1]; exact hz) hd (fun q h1 h2 => by rw [e1]; exact hk q h1 h2) T' rfl X'
  exact ⟨t2, st t2 a1, b1⟩
theorem cb_of (hT : ∀ w ∈ TT, w.before args s = true) (hkw : Cond.code y bytes maxL ret ∈ TT) (hlink : Cond.methodLink own index y ∈ TT) (hini : Cond.initialized y.cls ∈ TT) (hd : y.cls ≠ "java/lang/invoke/MethodHandle" ∧ y.cls ≠ "java/lang/invoke/VarHandle" ∧ (parseMethodDescriptor y.desc).map (fun d => d.parameters.length) = some n) (hrc : rm.cells = mc) (hrs : rm.slots = ms) (hR : rm.frames + 1 ≤ R.frames ∧ 8 + (maxL + 11) + rm.locals ≤ R.locals) :
    CallB R s args own index y bytes maxL ret (Cond.code y bytes maxL ret :: TT) rm mc ms n := callB_of n hT (tt_in0 hkw) rfl hrc hrs (hT _ hini) (hT _ hlink) hd hR
/-- an instance method: how it is called -/
theorem c_V {Qc : Array Value → State → Outcome → State → Prop} {free : Addr → Prop} (hexec : p.tables.exec = Jvm.exec) (hb : c.code = cc) (hml : c.maxLocals = nL) (hsz : ls.size = nL) (hown : s.vm.findClass own = some m.cls) (hT : ∀ w ∈ TT, w.before args s = true) (hK : KK g s) (hP : PM g M H)
    (hM : Met l y (Cond.code y bytes maxL ret :: TT) rm (Pm g (.ref b :: As) H.size M) Qc mc ms free) (hkw : Cond.code y bytes maxL ret ∈ TT) (hlink : Cond.methodLink own index y ∈ TT) (hinst : Cond.instanceMethod y ∈ TT) (hsel : Cond.selects r.1 y y ∈ TT) (hini : Cond.initialized y.cls ∈ TT) (hd : y.cls ≠ "java/lang/invoke/MethodHandle" ∧ y.cls ≠ "java/lang/invoke/VarHandle" ∧ (parseMethodDescriptor y.desc).map (fun d => d.parameters.length) = some n) (hrc : rm.cells = mc) (hrs : rm.slots = ms) (hR : rm.frames + 1 ≤ R.frames ∧ 8 + (maxL + 11) + rm.locals ≤ R.locals)
    (he : M b = some (.inr (ci, fs))) (hc : cls8[ci]? = some r) (hn : As.length = n) (hst : st0 = As.reverse ++ .ref b :: rest) (hW : (rest.map fun v => v.category).sum ≤ 8) (hdg : decode cc pc = .ok (.invokevirtual index, 3)) (hf : cells + mc ≤ R.cells ∧ slots + ms ≤ R.slots) :
    va_Run p l e R s m args below meth c H locs cells slots mc ms (F0 m pc ls st0) rest (Qc (Value.ref b :: As).toArray) free :=
  va_runV (g := F0 m pc ls st0) ⟨hexec, hb, hml, hown, hT⟩ hM ⟨cb_of hT hkw hlink hini hd hrc hrs hR, hT _ hinst, hT _ hsel⟩ ⟨Pm.blind, hP.recv hK he hc, Pm.use hK hP⟩ rfl hn hsz hst (lv_room hW) hdg hf
theorem c_S {Qc : Array Value → State → Outcome → State → Prop} {free : Addr → Prop} (hexec : p.tables.exec = Jvm.exec) (hb : c.code = cc) (hml : c.maxLocals = nL) (hsz : ls.size = nL) (hown : s.vm.findClass own = some m.cls) (hT : ∀ w ∈ TT, w.before args s = true) (hK : KK g s) (hP : PM g M H)
    (hM : Met l y (Cond.code y bytes maxL ret :: TT) rm (Pm g As H.size M) Qc mc ms free) (hkw : Cond.code y bytes maxL ret ∈ TT) (hlink : Cond.methodLink own index y ∈ TT) (hstat : Cond.static y ∈ TT) (hini : Cond.initialized y.cls ∈ TT) (hd : y.cls ≠ "java/lang/invoke/MethodHandle" ∧ y.cls ≠ "java/lang/invoke/VarHandle" ∧ (parseMethodDescriptor y.desc).map (fun d => d.parameters.length) = some n) (hrc : rm.cells = mc) (hrs : rm.slots = ms) (hR : rm.frames + 1 ≤ R.frames ∧ 8 + (maxL + 11) + rm.locals ≤ R.locals)
    (hn : As.length = n) (hst : st0 = As.reverse ++ rest) (hW : (rest.map fun v => v.category).sum ≤ 8) (hdg : decode cc pc = .ok (.invokestatic index, 3)) (hf : cells + mc ≤ R.cells ∧ slots + ms ≤ R.slots) :
    va_Run p l e R s m args below meth c H locs cells slots mc ms (F0 m pc ls st0) rest (Qc As.toArray) free :=
  va_runS (g := F0 m pc ls st0) ⟨hexec, hb, hml, hown, hT⟩ hM ⟨cb_of hT hkw hlink hini hd hrc hrs hR, hT _ hstat⟩ ⟨Pm.blind, Pm.use hK hP⟩ rfl hn hsz hst (lv_room hW) hdg hf
theorem c_I {Qc : Array Value → State → Outcome → State → Prop} {free : Addr → Prop} (hexec : p.tables.exec = Jvm.exec) (hb : c.code = cc) (hml : c.maxLocals = nL) (hsz : ls.size = nL) (hown : s.vm.findClass own = some m.cls) (hT : ∀ w ∈ TT, w.before args s = true) (hK : KK g s) (hP : PM g M H)
    (hM : Met l y (Cond.code y bytes maxL none :: TT) rm (Pm g (.ref b :: As) H.size M) Qc mc ms free) (hkw : Cond.code y bytes maxL none ∈ TT) (hlink : Cond.methodLink own index y ∈ TT) (hinst : Cond.instanceMethod y ∈ TT) (hy : y.name = "<init>") (hini : Cond.initialized y.cls ∈ TT) (hd : y.cls ≠ "java/lang/invoke/MethodHandle" ∧ y.cls ≠ "java/lang/invoke/VarHandle" ∧ (parseMethodDescriptor y.desc).map (fun d => d.parameters.length) = some n) (hrc : rm.cells = mc) (hrs : rm.slots = ms) (hR : rm.frames + 1 ≤ R.frames ∧ 8 + (maxL + 11) + rm.locals ≤ R.locals)
    (hn : As.length = n) (hst : st0 = As.reverse ++ .ref b :: rest) (hW : (rest.map fun v => v.category).sum ≤ 8) (hdg : decode cc pc = .ok (.invokespecial index, 3)) (hf : cells + mc ≤ R.cells ∧ slots + ms ≤ R.slots) :
    va_Run p l e R s m args below meth c H locs cells slots mc ms (F0 m pc ls st0) rest (Qc (Value.ref b :: As).toArray) free :=
  va_runI (g := F0 m pc ls st0) ⟨hexec, hb, hml, hown, hT⟩ hM ⟨cb_of hT hkw hlink hini hd hrc hrs hR, hy, hT _ hinst⟩ ⟨Pm.blind, Pm.use hK hP⟩ rfl hn hsz hst (lv_room hW) hdg hf
end CROWS
