/-! Refused calls: contracts of methods that throw and change nothing. -/
def ZH (s : State) (H : Heap) : Prop := vx_Zq Bundle.tN "UNASSIGNED_STACK" Bundle.steD (fun _ => False) s H ∧ vx_Zq Bundle.tN "SUPPRESSED_SENTINEL" Bundle.listD (fun _ => False) s H
theorem ZH.moved {u U : State} {H : Heap} (hvm : u.vm.Alike U.vm) (h : ZH u H) : ZH U H := ⟨vx_Zq.moved hvm h.1, vx_Zq.moved hvm h.2⟩
theorem ZH.kept {s : State} {H H1 : Heap} (h : ZH s H) (hq : ∀ a : Nat, a < H.size → H1[a]? = H[a]?) : ZH s H1 := ⟨vx_Zq.kept h.1 (fun a ha _ => hq a ha), vx_Zq.kept h.2 (fun a ha _ => hq a ha)⟩
def Pz (g : GG) (av : List Value) (sz : Nat) (M : MW) : Array Value → State → Prop := va_Pc av (fun U => U.heap.size = sz ∧ PM g M U.heap ∧ KK g U ∧ ZH U U.heap)
theorem Pz.blind {g : GG} {av : List Value} {sz : Nat} {M : MW} : FrameBlind (Pz g av sz M) := fun a U f mk q => by
  obtain ⟨q0, q1, qP, qK, qZ⟩ := q
  exact ⟨q0, q1, qP, KK.warm (s := U) (U := U.calling f mk a) (State.WarmedH.refl U) qK, ZH.moved (u := U) (U := U.calling f mk a) (Vm.Alike.refl U.vm) qZ⟩
theorem Pz.use {g : GG} {s : State} {M : MW} {H : Heap} {av : List Value} (hK : KK g s) (hP : PM g M H) (hZ : ZH s H) : ∀ U : State, U.heap = H → s.WarmedH U.vm → Pz g av H.size M av.toArray U := fun U hU hW => ⟨rfl, by rw [hU], by rw [hU]; exact hP, hK.warm hW, by rw [hU]; exact ZH.moved hW.alike hZ⟩
def XE (E : String) : String → State → State → Prop := fun E' st t => E' = E ∧ st.heap.size ≤ t.heap.size ∧ ∀ q : Nat, q < st.heap.size → t.heap[q]? = st.heap[q]?
def QF : Array Value → State → Outcome → State → Prop := fun _ _ _ _ => False
theorem nw_use {args : Array Value} {s : State} {w : Cond} (hw : nwOK w = true) (h : va_Nw w s) : w.before args s = true := by
  cases w <;> first
    | exact va_Nw.use rfl h
    | (rename_i ty; cases ty <;> first | exact h | (simp [nwOK] at hw; done))
    | (simp [nwOK] at hw; done)
abbrev EXN : List String := ["java/lang/RuntimeException", "java/lang/Exception"]
theorem hatI_g : ∀ w ∈ (vx_atS "LockHouse" 131 "java/lang/IndexOutOfBoundsException" EXN).filter goodWord, w ∈ lw_tbl := by decide +kernel
theorem hatI_n : ∀ w ∈ (vx_atS "LockHouse" 131 "java/lang/IndexOutOfBoundsException" EXN).filter (fun w => !goodWord w), w ∈ NW := by decide +kernel
theorem hatI_o : ∀ w ∈ Cond.classLink "LockHouse" 127 "java/lang/IndexOutOfBoundsException" :: Cond.initialized "java/lang/IndexOutOfBoundsException" :: vx_atS "LockHouse" 131 "java/lang/IndexOutOfBoundsException" EXN, vx_ot w = true := by decide +kernel
theorem hatA_g : ∀ w ∈ (vx_atS "LockHouse" 103 "java/lang/IllegalArgumentException" EXN).filter goodWord, w ∈ lw_tbl := by decide +kernel
theorem hatA_n : ∀ w ∈ (vx_atS "LockHouse" 103 "java/lang/IllegalArgumentException" EXN).filter (fun w => !goodWord w), w ∈ NW := by decide +kernel
theorem hatA_o : ∀ w ∈ Cond.classLink "LockHouse" 99 "java/lang/IllegalArgumentException" :: Cond.initialized "java/lang/IllegalArgumentException" :: vx_atS "LockHouse" 103 "java/lang/IllegalArgumentException" EXN, vx_ot w = true := by decide +kernel
theorem hatS_g : ∀ w ∈ (vx_atS "LockHouse" 56 "java/lang/IllegalStateException" EXN).filter goodWord, w ∈ lw_tbl := by decide +kernel
theorem hatS_n : ∀ w ∈ (vx_atS "LockHouse" 56 "java/lang/IllegalStateException" EXN).filter (fun w => !goodWord w), w ∈ NW := by decide +kernel
theorem hatS_o : ∀ w ∈ Cond.classLink "LockHouse" 52 "java/lang/IllegalStateException" :: Cond.initialized "java/lang/IllegalStateException" :: vx_atS "LockHouse" 56 "java/lang/IllegalStateException" EXN, vx_ot w = true := by decide +kernel
theorem vmet_of {l : Launch} {g : GG} {av : List Value} {sz : Nat} {M : MW} {E : String} {mc ms maxL : Nat} {cc : ByteArray} {ret : Option FieldType} {y : MethodName} {rm : Room} (hy : plainName y.cls = true) (hlen : (lg_sl av).length ≤ maxL)
    (body : ∀ (p : Program) (e : Env) (s : State) (m : MethodId) (below : List Frame) (meth : Method) (c : Code), p.tables.exec = Jvm.exec → c.code = cc → meth.sig.returnType = ret → c.maxLocals = maxL → s.vm.findClass y.cls = some m.cls → meth.locks = false → meth.name = y.name → (∀ w ∈ TT, w.before av.toArray s = true) → s.heap.size = sz → PM g M s.heap → KK g s → ZH s s.heap → (∀ x ∈ c.exceptionTable.toList, False) →
      ∀ ls : Array Slot, lv_has ls maxL (lv_args 0 av) → W p l e rm s m av.toArray below meth c s.heap [] 0 0 (vx_MQ below QF (XE E) av.toArray s mc ms nofree) (F0 m 0 ls [])) : vx_Met l y (Cond.code y cc maxL ret :: TT) rm (Pz g av sz M) QF (XE E) mc ms nofree := by
  refine vx_ofW (cc := cc) (maxL := maxL) (ret := ret) hy rfl ?_
  intro p e s m args below meth c s₁ B hml htab hv
  obtain ⟨rfl, hsz, hP, hK, hZ⟩ := hv
  have hts := atoms_spec (ws := Cond.code y cc maxL ret :: TT) B.pre
  have hl := lv_entry av (n := maxL) hlen
  rw [lg_entry_eq]
  generalize (lg_sl av ++ List.replicate (maxL - (lg_sl av).length) Slot.unset).toArray = ls at hl ⊢
  exact body p e s m below meth c B.exec B.bytes B.returns hml (findClass_of_methodNamed B.named) B.notSynchronized (name_of_methodNamed B.named B.method).1 (fun w h => hts w (List.mem_cons_of_mem _ h)) hsz hP hK hZ htab ls hl
section XROWS
variable {p : Program} {l : Launch} {e : Env} {R : Room} {s : State} {m : MethodId} {args : Array Value} {below : List Frame} {meth : Method} {c : Code} {H : Heap} {locs : List Loc} {cells slots : Nat} {Q : State → Prop}
variable {cc : ByteArray} {pc : Nat} {ls : Array Slot} {rest st0 : List Value} {g : GG} {M : MW}
theorem x_throw {cls text : String} {ik is ic mc ms nL : Nat} (hlf : l.stackTraces = false) (hexec : p.tables.exec = Jvm.exec) (hb : c.code = cc) (hml : c.maxLocals = nL) (hsz : ls.size = nL) (hown : s.vm.findClass "LockHouse" = some m.cls) (hlocks : meth.locks = false) (htab : ∀ x ∈ c.exceptionTable.toList, False) (hT : ∀ w ∈ TT, w.before args s = true) (hK : KK g s) (hZ : ZH s s.heap)
    (hcls : Bundle.fit cls = true) (hk : Cond.classLink "LockHouse" ik cls ∈ TT) (hini : Cond.initialized cls ∈ TT) (hst : ("LockHouse", is, text) ∈ STRS)
    (hg : ∀ w ∈ (vx_atS "LockHouse" ic cls EXN).filter goodWord, w ∈ lw_tbl) (hn : ∀ w ∈ (vx_atS "LockHouse" ic cls EXN).filter (fun w => !goodWord w), w ∈ NW) (ho : ∀ w ∈ Cond.classLink "LockHouse" ik cls :: Cond.initialized cls :: vx_atS "LockHouse" ic cls EXN, vx_ot w = true)
    (d0 : decode cc pc = .ok (.new ik, 3)) (d3 : decode cc (pc + 3) = .ok (.dup, 1)) (d4 : decode cc (pc + 4) = .ok (.ldc is, 2)) (d6 : decode cc (pc + 6) = .ok (.invokespecial ic, 3)) (d9 : decode cc (pc + 9) = .ok (.athrow, 1))
    (hRf : 5 < R.frames) (hRl : (rest.map fun v => v.category).sum + 82 ≤ R.locals) (hRc : 1 ≤ R.cells) (hRs : 6 ≤ R.slots) (hc : 1 ≤ mc) (hs : 6 ≤ ms) :
    W p l e R s m args below meth c s.heap [] 0 0 (vx_MQ below QF (XE cls) args s mc ms nofree) (F0 m pc ls rest) := by
  obtain ⟨sa, hsa⟩ := hK.2.2 _ hst
  exact vx_throwS (A := fun _ => False) hexec hb hlf hown hcls (by decide) (hT _ hk) (hT _ hini) hsa (vx_hat (B := NW) (fun w h => hT w (tt_mem (hg w h) (List.mem_filter.mp h).2)) hn (fun w h => nw_use (nw_ok w h) (hK.2.1 w h))) ho hZ.1 hZ.2 va_S.rf (hsz.trans hml.symm) d0 d3 d4 d6 d9 (fun x h => (htab x h).elim) hRf hRl (by omega) (by omega) hlocks (fun t _ h1 h2 => ⟨rfl, h1, h2⟩) (fun z h => by cases h) (by omega) (by omega)
theorem x_run {E : String} {mc ms : Nat} {av : Array Value} (hr : vx_Run p l e R s m args below meth c H locs cells slots mc ms (F0 m pc ls st0) rest (QF av) (XE E) nofree)
    (kk : ∀ (q : Addr) (ce : Cell) (H1 : Heap), H.size ≤ H1.size → (∀ x : Nat, x < H.size → H1[x]? = H[x]?) → H1[q]? = some ce → ce.vm = .none → s.vm.findClass E = some ce.cls → vx_W p l e R s m args below meth c H1 locs (cells + mc) (slots + ms) Q (F0 m pc ls rest) q) : W p l e R s m args below meth c H locs cells slots Q (F0 m pc ls st0) := by
  intro T hT X
  rcases hr T hT X with ⟨v, st₀, t, T', L, h0, X', hL, e1, e2, hf, st⟩ | ⟨q, st₀, t, T', L, E', ce, h0, X', hL, e1, e2, ⟨hE, hz, hk⟩, hce, hcv, hcl, st⟩
  · exact hf.elim
  · subst hE
    rw [h0] at hz hk
    obtain ⟨t2, a1, b1⟩ := kk q ce T'.heap (by rw [e1]; exact hz) (fun x hx => by rw [e1]; exact hk x hx) (by rw [e1]; exact hce) hcv hcl T' rfl (Stand.forget X' (fun z h => (hL z h).elim))
    exact ⟨t2, st.trans a1, b1⟩
/-- not caught here -/
theorem x_out {E : String} {mc ms : Nat} {av : Array Value} (htab : ∀ x ∈ c.exceptionTable.toList, False) (hlocks : meth.locks = false) (hr : vx_Run p l e R s m args below meth c s.heap [] 0 0 mc ms (F0 m pc ls st0) rest (QF av) (XE E) nofree) : W p l e R s m args below meth c s.heap [] 0 0 (vx_MQ below QF (XE E) args s mc ms nofree) (F0 m pc ls st0) := by
  refine x_run hr (fun q ce H1 hz hk hce hcv hcl => ?_)
  exact vx_out (fun x h => (htab x h).elim) hlocks hce hcv hcl (fun t ht _ => ⟨rfl, by rw [ht]; exact hz, fun x hx => by rw [ht]; exact hk x hx⟩) (fun z h => by cases h) (by omega) (by omega)
variable {y : MethodName} {bytes : ByteArray} {maxL nL n index mc ms : Nat} {ret : Option FieldType} {rm : Room} {own : String} {b ci : Nat} {As : List Value} {fs : List Value} {r : vw_C} {E : String}
theorem cx_V (hexec : p.tables.exec = Jvm.exec) (hb : c.code = cc) (hml : c.maxLocals = nL) (hsz : ls.size = nL) (hown : s.vm.findClass own = some m.cls) (hT : ∀ w ∈ TT, w.before args s = true) (hK : KK g s) (hP : PM g M H) (hZ : ZH s H)
    (hM : vx_Met l y (Cond.code y bytes maxL ret :: TT) rm (Pz g (.ref b :: As) H.size M) QF (XE E) mc ms nofree) (hkw : Cond.code y bytes maxL ret ∈ TT) (hlink : Cond.methodLink own index y ∈ TT) (hinst : Cond.instanceMethod y ∈ TT) (hsel : Cond.selects r.1 y y ∈ TT) (hini : Cond.initialized y.cls ∈ TT) (hd : y.cls ≠ "java/lang/invoke/MethodHandle" ∧ y.cls ≠ "java/lang/invoke/VarHandle" ∧ (parseMethodDescriptor y.desc).map (fun d => d.parameters.length) = some n) (hrc : rm.cells = mc) (hrs : rm.slots = ms) (hR : rm.frames + 1 ≤ R.frames ∧ 8 + (maxL + 11) + rm.locals ≤ R.locals)
    (he : M b = some (.inr (ci, fs))) (hc : cls8[ci]? = some r) (hn : As.length = n) (hst : st0 = As.reverse ++ .ref b :: rest) (hW : (rest.map fun v => v.category).sum ≤ 8) (hdg : decode cc pc = .ok (.invokevirtual index, 3)) (hf : cells + mc ≤ R.cells ∧ slots + ms ≤ R.slots) :
    vx_Run p l e R s m args below meth c H locs cells slots mc ms (F0 m pc ls st0) rest (QF (Value.ref b :: As).toArray) (XE E) nofree :=
  vx_runV (g := F0 m pc ls st0) ⟨hexec, hb, hml, hown, hT⟩ hM ⟨cb_of hT hkw hlink hini hd hrc hrs hR, hT _ hinst, hT _ hsel⟩ ⟨Pz.blind, hP.recv hK he hc, Pz.use hK hP hZ⟩ rfl hn hsz hst (lv_room hW) hdg hf
end XROWS
