/-! The law: what it calls; how the class, the reference and the array of one long lie side by side. -/
abbrev IOE : String := "java/lang/IndexOutOfBoundsException"
abbrev IAE : String := "java/lang/IllegalArgumentException"
abbrev ISE : String := "java/lang/IllegalStateException"
def ZN (U : State) : Prop := va_Nc IAE IOE U ∧ va_Nc ISE IOE U ∧ va_Nc ISE IAE U
theorem ZN.moved {u U : State} (hvm : u.vm.Alike U.vm) (h : ZN u) : ZN U := ⟨va_Nc.moved hvm h.1, va_Nc.moved hvm h.2.1, va_Nc.moved hvm h.2.2⟩
def oL (g : GG) (f : Nat → Int64) : va_E := .inl (g.2 3, 1, .inr (.inl f))
def Pl (g : GG) (av : List Value) (sz : Nat) (M : MW) (de mi : Nat) : Array Value → State → Prop := va_Pc av (fun U => U.heap.size = sz ∧ PM g M U.heap ∧ KK g U ∧ ZH U U.heap ∧ DD g (mA M sz) de mi U U.heap ∧ ZN U)
theorem Pl.blind {g : GG} {av : List Value} {sz : Nat} {M : MW} {de mi : Nat} : FrameBlind (Pl g av sz M de mi) := fun a U f mk q => by
  obtain ⟨q0, q1, qP, qK, qZ, qD, qN⟩ := q
  exact ⟨q0, q1, qP, KK.warm (s := U) (U := U.calling f mk a) (State.WarmedH.refl U) qK, ZH.moved (u := U) (U := U.calling f mk a) (Vm.Alike.refl U.vm) qZ, DD.moved (u := U) (U := U.calling f mk a) (Vm.Alike.refl U.vm) qD, ZN.moved (u := U) (U := U.calling f mk a) (Vm.Alike.refl U.vm) qN⟩
theorem Pl.use {g : GG} {s : State} {M : MW} {H : Heap} {av : List Value} {de mi : Nat} (hK : KK g s) (hP : PM g M H) (hZ : ZH s H) (hD : DD g (mA M H.size) de mi s H) (hN : ZN s) : ∀ U : State, U.heap = H → s.WarmedH U.vm → Pl g av H.size M de mi av.toArray U := fun U hU hW => ⟨rfl, by rw [hU], by rw [hU]; exact hP, hK.warm hW, by rw [hU]; exact ZH.moved hW.alike hZ, by rw [hU]; exact DD.moved hW.alike hD, ZN.moved hW.alike hN⟩
theorem lmet_of {l : Launch} {g : GG} {av : List Value} {sz : Nat} {M : MW} {de mir : Nat} {Qc : Array Value → State → Outcome → State → Prop} {mc ms maxL : Nat} {free : Addr → Prop} {cc : ByteArray} {ret : Option FieldType} {y : MethodName} {rm : Room} {hh : List (Nat × Nat × Nat × Nat)} (hy : plainName y.cls = true) (hlen : (lg_sl av).length ≤ maxL)
    (body : ∀ (p : Program) (e : Env) (s : State) (m : MethodId) (below : List Frame) (meth : Method) (c : Code), p.tables.exec = Jvm.exec → c.code = cc → meth.sig.returnType = ret → c.maxLocals = maxL → s.vm.findClass y.cls = some m.cls → meth.locks = false → (∀ w ∈ TT, w.before av.toArray s = true) → s.heap.size = sz → PM g M s.heap → KK g s → ZH s s.heap → DD g (mA M s.heap.size) de mir s s.heap → ZN s → c.exceptionTable.toList = tableOf hh →
      ∀ ls : Array Slot, lv_has ls maxL (lv_args 0 av) → W p l e rm s m av.toArray below meth c s.heap [] 0 0 (MQ below Qc av.toArray s mc ms free) (F0 m 0 ls [])) : Met l y (Cond.codeWith y cc maxL ret hh :: TT) rm (Pl g av sz M de mir) Qc mc ms free := by
  refine va_MetW (cc := cc) (maxL := maxL) (ret := ret) (hh := hh) hy rfl ?_
  intro p e s m args below meth c s₁ B hml hv
  obtain ⟨rfl, hsz, hP, hK, hZ, hD, hN⟩ := hv
  have hts := atoms_spec (ws := Cond.codeWith y cc maxL ret hh :: TT) B.pre
  have hl := lv_entry av (n := maxL) hlen
  have htab : c.exceptionTable.toList = tableOf hh := vx_table (x := y) B (hts _ List.mem_cons_self)
  rw [lg_entry_eq]
  generalize (lg_sl av ++ List.replicate (maxL - (lg_sl av).length) Slot.unset).toArray = ls at hl ⊢
  exact body p e s m below meth c B.exec B.bytes B.returns hml (findClass_of_methodNamed B.named) B.notSynchronized (fun w h => hts w (List.mem_cons_of_mem _ h)) hsz hP hK hZ (by rw [hsz]; exact hD) hN htab ls hl
theorem pm_pd {l : Launch} {y : MethodName} {ws : List Cond} {rm : Room} {g : GG} {av : List Value} {sz : Nat} {M : MW} {de mi : Nat} {Qc : Array Value → State → Outcome → State → Prop} {mc ms : Nat} {free : Addr → Prop} (h : Met l y ws rm (Pm g av sz M) Qc mc ms free) : Met l y ws rm (Pd g av sz M de mi) Qc mc ms free := fun p e h1 h2 h3 s m args below hf ha hP hk => h p e h1 h2 h3 s m args below hf ha ⟨hP.1, hP.2.1, hP.2.2.1, hP.2.2.2.1⟩ hk
theorem rd_pd {l : Launch} {y : MethodName} {ws : List Cond} {rm : Room} {g : GG} {av : List Value} {sz : Nat} {M : MW} {de mi : Nat} {v : Int32} (h : Met l y ws rm (Pm g av sz M) (Qrd (some (.int v))) 0 0 nofree) : Met l y ws rm (Pd g av sz M de mi) (Qm g M (fun r : Int32 => some (.int r)) (fun r M1 => r = v ∧ M1 = M)) 0 0 (mA M sz) := fun p e h1 h2 h3 s m args below hf ha hP hk => by
  obtain ⟨n, o, w1, w2, w3, ⟨ho, hh⟩, L, fe, hL⟩ := h p e h1 h2 h3 s m args below hf ha ⟨hP.1, hP.2.1, hP.2.2.1, hP.2.2.2.1⟩ hk
  exact ⟨n, o, w1, w2, w3, ⟨v, M, ho, ⟨rfl, rfl⟩, by rw [hh]; exact hP.2.2.1, fun q hq => Or.inl hq, by rw [hh]; exact Nat.le_refl _, fun q _ _ => by rw [hh]⟩, L, fe, fun q hq => (hL q hq).elim⟩
theorem pm_in {g : GG} {M : MW} {o : Nat} {w : va_E} {H : Heap} (ho : M o = none) (h : PM g (mu M o w) H) : PM g M H := fun q e hq => h q e (by rw [mu_n (fun z => by rw [z, ho] at hq; cases hq)]; exact hq)
theorem dd_in {g : GG} {M : MW} {o n : Nat} {w : va_E} {H : Heap} {U : State} {de mi : Nat} (h : DD g (mA (mu M o w) n) de mi U H) : DD g (mA M n) de mi U H := h.narrow (fun _ hq => hq.elim (fun z => Or.inl (mu_keep z)) Or.inr)
theorem mu_mu2 {M : MW} {o : Nat} {w w' : va_E} : mu (mu M o w) o w' = mu M o w' := by
  funext q
  by_cases h : q = o
  · rw [h, mu_s, mu_s]
  · rw [mu_n h, mu_n h, mu_n h]
theorem HS.grow {g : GG} {A : Nat → Prop} {H0 : Heap} {M : MW} {H H1 : Heap} {locs : List Loc} (h : HS g A H0 M H locs) (hz : H.size ≤ H1.size) (hk : ∀ x : Nat, x < H.size → H1[x]? = H[x]?) : HS g A H0 M H1 locs := ⟨h.1.kept (fun q hq => hk q (h.1.ltn hq)), h.2.1, h.2.2.1, Nat.le_trans h.S.1 hz, fun q h1 h2 => (hk q (Nat.lt_of_lt_of_le h1 h.S.1)).trans (h.S.2.1 q h1 h2), h.S.2.2⟩
section LROWS
variable {p : Program} {l : Launch} {e : Env} {R : Room} {s : State} {m : MethodId} {args : Array Value} {below : List Frame} {meth : Method} {c : Code} {H : Heap} {locs : List Loc} {cells slots : Nat} {Q : State → Prop}
variable {cc : ByteArray} {pc : Nat} {ls : Array Slot} {rest st0 : List Value} {g : GG} {A : Nat → Prop} {a : Nat} {M : MW} {H0 : Heap} {mc ms : Nat}
/-- a call over M, beside one more cell -/
theorem m_runO {α : Type} {vf : α → Option Value} {post : α → MW → Prop} {av : Array Value} {o : Nat} {w : va_E} (ho : M o = none) (hr : va_Run p l e R s m args below meth c H locs cells slots mc ms (F0 m pc ls st0) rest (Qm g M vf post av) (mA M H.size)) (hH : HS g A H0 (mu M o w) H locs)
    (kk : ∀ (v : α) (M' : MW) (H1 : Heap) (locs1 : List Loc), post v M' → HS g A H0 (mu M' o w) H1 locs1 → M' o = none → W p l e R s m args below meth c H1 locs1 (cells + mc) (slots + ms) Q (F0 m (pc + 3) ls ((vf v).toList ++ rest))) : W p l e R s m args below meth c H locs cells slots Q (F0 m pc ls st0) := by
  have hol : o < H.size := hH.1.lt mu_s
  have hs0 : HS g A H0 M H locs := ⟨pm_in ho hH.1, fun q hq => hH.2.1 q (mu_keep hq), hH.2.2⟩
  refine m_run hr hs0 (fun v M' H1 locs1 hp hH1 hz hdm hfr => ?_)
  have ho' : M' o = none := Classical.byContradiction fun z => (hdm o z).elim (fun y => y ho) (fun y => by omega)
  refine kk v M' H1 locs1 hp ⟨fun q x hq => ?_, fun q hq => ?_, hH1.2.2⟩ ho'
  · by_cases hqo : q = o
    · subst hqo
      rw [mu_s] at hq
      cases hq
      exact (hH.1 q _ mu_s).kept (hfr q hol ho)
    · rw [mu_n hqo] at hq
      exact hH1.1 q x hq
  · rcases mu_dom hq with rfl | hq
    · exact hH.2.1 q (some_ne mu_s)
    · exact hH1.2.1 q hq
theorem W.forgetL {f : JFrame} (h : ∀ y ∈ locs, s.heap.size ≤ y.base) (k : W p l e R s m args below meth c H [] cells slots Q f) : W p l e R s m args below meth c H locs cells slots Q f := fun T hT X => k T hT (Stand.forget (locs := []) (extra := locs) X h)
theorem tw_o {t q : Nat} {σ : SG} (h : q < t ∨ t + 15 < q) : tw g t σ q = none := by
  unfold tw
  rw [if_neg (by omega), if_neg (by omega)]
theorem tw_d {t q : Nat} {σ : SG} (h : tw g t σ q ≠ none) : t ≤ q ∧ q ≤ t + 15 := by
  rcases Nat.lt_or_ge q t with z | z
  · exact absurd (tw_o (Or.inl z)) h
  · rcases Nat.lt_or_ge (t + 15) q with y | y
    · exact absurd (tw_o (Or.inr y)) h
    · exact ⟨z, y⟩
/-- the three side by side, all made since the law began -/
def LI (g : GG) (s : State) (t o : Nat) (σ : SG) (MC : MW) (f : Nat → Int64) (H : Heap) : Prop := PM g MC H ∧ PM g (tw g t σ) H ∧ va_at g.1 cls8 (o, oL g f) H ∧ (∀ q, MC q ≠ none → s.heap.size ≤ q ∧ q ≠ o ∧ (q < t ∨ t + 15 < q)) ∧ (s.heap.size ≤ t ∧ s.heap.size ≤ o ∧ (o < t ∨ t + 15 < o)) ∧ va_S (fun q => s.heap.size ≤ q) s.heap H []
variable {t o : Nat} {σ : SG} {MC : MW} {f : Nat → Int64}
theorem LI.no (h : LI g s t o σ MC f H) : MC o = none := Classical.byContradiction fun z => (h.2.2.2.1 o z).2.1 rfl
theorem LI.hsM (h : LI g s t o σ MC f H) : HS g (fun q => s.heap.size ≤ q) s.heap (mu MC o (oL g f)) H [] := by
  refine ⟨fun q x hq => ?_, fun q hq => ?_, fun q hq => hq, h.2.2.2.2.2⟩
  · by_cases hqo : q = o
    · subst hqo
      rw [mu_s] at hq
      cases hq
      exact h.2.2.1
    · rw [mu_n hqo] at hq
      exact h.1 q x hq
  · rcases mu_dom hq with rfl | hq
    · exact h.2.2.2.2.1.2.1
    · exact (h.2.2.2.1 q hq).1
theorem LI.hsT (h : LI g s t o σ MC f H) : HS g (fun q => s.heap.size ≤ q) s.heap (tw g t σ) H [] := ⟨h.2.1, fun q hq => Nat.le_trans h.2.2.2.2.1.1 (tw_d hq).1, fun q hq => hq, h.2.2.2.2.2⟩
theorem LI.hsC (h : LI g s t o σ MC f H) : HS g (fun q => s.heap.size ≤ q) s.heap MC H [] := ⟨h.1, fun q hq => (h.2.2.2.1 q hq).1, fun q hq => hq, h.2.2.2.2.2⟩
theorem LI.t15 (h : LI g s t o σ MC f H) : t + 15 < H.size := h.2.1.ltn (a := t + 15) (by
  unfold tw
  rw [if_neg (by omega), if_pos (by omega)]
  exact fun z => by cases z)
theorem LI.z (h : LI g s t o σ MC f H) (hZ : ZH s s.heap) : ZH s H := hZ.kept (fun a ha => h.2.2.2.2.2.2.1 a ha (fun z => absurd ha (Nat.not_lt.mpr z)))
/-- what a helper comes back with -/
def LPq (g : GG) (a0 n0 n1 o de : Nat) (σ' : SG) (Rr : Int64 → Prop) : Int32 → MW → Prop := fun k M' => ∃ (MC' : MW) (α : AL3) (ν : Nat → Nat) (χ : SG) (f : Nat → Int64), M' = mu MC' o (oL g f) ∧ MC' o = none ∧ HW g α ν χ MC' ∧ nOK ν ∧ LD α ν de ∧ RI ν χ σ' ∧ α 0 0 0 = a0 ∧ ν 0 ≤ n0 + 1 ∧ ν 1 ≤ n1 + 1 ∧ k = σ' 0 0 ∧ (k = 0 → Rr (f 0))
theorem w_help {a0 n0 n1 de : Nat} {σ' : SG} {Rr : Int64 → Prop} {av : Array Value} (h : LI g s t o σ MC f H) (hr : va_Run p l e R s m args below meth c H [] cells slots mc ms (F0 m pc ls st0) rest (Qm g (mu MC o (oL g f)) (fun k : Int32 => some (.int k)) (LPq g a0 n0 n1 o de σ' Rr) av) (mA (mu MC o (oL g f)) H.size))
    (kk : ∀ (MC' : MW) (α : AL3) (ν : Nat → Nat) (χ : SG) (f' : Nat → Int64) (H1 : Heap), HW g α ν χ MC' → nOK ν → LD α ν de → RI ν χ σ' → α 0 0 0 = a0 → ν 0 ≤ n0 + 1 → ν 1 ≤ n1 + 1 → (σ' 0 0 = 0 → Rr (f' 0)) → LI g s t o σ MC' f' H1 → W p l e R s m args below meth c H1 [] (cells + mc) (slots + ms) Q (F0 m (pc + 3) ls (.int (σ' 0 0) :: rest))) : W p l e R s m args below meth c H [] cells slots Q (F0 m pc ls st0) := by
  have h15 := h.t15
  have hol : o < H.size := h.2.2.1.lt
  refine m_run hr h.hsM (fun k M' H1 locs1 hp hH hz hdm hfr => ?_)
  obtain ⟨MC', α, ν, χ, f', rfl, ho', k1, k2, k3, k4, k5, k6, k7, rfl, k9⟩ := hp
  refine W.forgetL (fun y hy => hH.S.2.2 y hy) (kk MC' α ν χ f' H1 k1 k2 k3 k4 k5 k6 k7 k9 ⟨pm_in ho' hH.1, h.2.1.kept (fun q hq => ?_), hH.1 o _ mu_s, fun q hq => ?_, h.2.2.2.2.1, hH.S.1, hH.S.2.1, fun z hz => by cases hz⟩)
  · have := tw_d hq
    have d1 := h.2.2.2.2.1
    refine hfr q (by omega) ?_
    rw [mu_n (by omega)]
    exact Classical.byContradiction fun z => by have := (h.2.2.2.1 q z).2.2; omega
  · have hqo : q ≠ o := fun z => hq (by rw [z]; exact ho')
    rcases hdm q (mu_keep hq) with z | z
    · rcases mu_dom z with z | z
      · exact absurd z hqo
      · exact h.2.2.2.1 q z
    · exact ⟨Nat.le_trans h.2.2.2.2.2.1 z, hqo, Or.inr (by omega)⟩
theorem w_twin {α : Type} {vf : α → Option Value} {r0 : α} {σ' : SG} {av : Array Value} (h : LI g s t o σ MC f H) (hr : va_Run p l e R s m args below meth c H [] cells slots mc ms (F0 m pc ls st0) rest (Qm g (tw g t σ) vf (fun r M1 => r = r0 ∧ M1 = tw g t σ') av) (mA (tw g t σ) H.size))
    (kk : ∀ (H1 : Heap), LI g s t o σ' MC f H1 → W p l e R s m args below meth c H1 [] (cells + mc) (slots + ms) Q (F0 m (pc + 3) ls ((vf r0).toList ++ rest))) : W p l e R s m args below meth c H [] cells slots Q (F0 m pc ls st0) := by
  refine m_run hr h.hsT (fun r M' H1 locs1 hp hH hz hdm hfr => ?_)
  obtain ⟨rfl, rfl⟩ := hp
  refine W.forgetL (fun y hy => hH.S.2.2 y hy) (kk H1 ⟨h.1.kept (fun q hq => hfr q (h.1.ltn hq) (tw_o (h.2.2.2.1 q hq).2.2)), hH.1, h.2.2.1.kept (hfr o h.2.2.1.lt (tw_o h.2.2.2.2.1.2.2)), h.2.2.2.1, h.2.2.2.2.1, hH.S.1, hH.S.2.1, fun z hz => by cases hz⟩)
variable {y : MethodName} {bytes : ByteArray} {maxL nL n index : Nat} {ret : Option FieldType} {rm : Room} {own : String} {As : List Value} {de mir : Nat} {hh : List (Nat × Nat × Nat × Nat)}
theorem c_SW {Qc : Array Value → State → Outcome → State → Prop} {free : Addr → Prop} (hexec : p.tables.exec = Jvm.exec) (hb : c.code = cc) (hml : c.maxLocals = nL) (hsz : ls.size = nL) (hown : s.vm.findClass own = some m.cls) (hT : ∀ w ∈ TT, w.before args s = true) (hK : KK g s) (hP : PM g M H) (hZ : ZH s H) (hD : DD g (mA M H.size) de mir s H) (hN : ZN s)
    (hM : Met l y (Cond.codeWith y bytes maxL ret hh :: TT) rm (Pl g As H.size M de mir) Qc mc ms free) (hkw : Cond.codeWith y bytes maxL ret hh ∈ TT) (hlink : Cond.methodLink own index y ∈ TT) (hstat : Cond.static y ∈ TT) (hini : Cond.initialized y.cls ∈ TT) (hd : y.cls ≠ "java/lang/invoke/MethodHandle" ∧ y.cls ≠ "java/lang/invoke/VarHandle" ∧ (parseMethodDescriptor y.desc).map (fun d => d.parameters.length) = some n) (hrc : rm.cells = mc) (hrs : rm.slots = ms) (hR : rm.frames + 1 ≤ R.frames ∧ 8 + (maxL + 11) + rm.locals ≤ R.locals)
    (hn : As.length = n) (hst : st0 = As.reverse ++ rest) (hW : (rest.map fun v => v.category).sum ≤ 8) (hdg : decode cc pc = .ok (.invokestatic index, 3)) (hf : cells + mc ≤ R.cells ∧ slots + ms ≤ R.slots) :
    va_Run p l e R s m args below meth c H locs cells slots mc ms (F0 m pc ls st0) rest (Qc As.toArray) free :=
  vx_runSW (g := F0 m pc ls st0) (hh := hh) (bytes := bytes) (maxL := maxL) (ret := ret) ⟨hexec, hb, hml, hown, hT⟩ hM ⟨⟨hrc, hrs, hR.1, hR.2, pay_in hT (tt_in0 hkw), List.mem_cons_self⟩, hT _ hkw, hT _ hini, ⟨hd.1, hd.2.1⟩, fun sig h => by
    have h2 := hd.2.2
    rw [h] at h2
    exact (Option.some.inj h2).symm, hT _ hlink, hT _ hstat⟩ ⟨Pl.blind, Pl.use hK hP hZ hD hN⟩ rfl hn hsz hst (lv_room hW) hdg hf
end LROWS
