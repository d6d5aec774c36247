/-! JDK lists: constructors, growth. -/
theorem rd_vret {p : Program} {l : Launch} {e : Env} {R : Room} {s : State} {m : MethodId} {args : Array Value} {below : List Frame} {meth : Method} {c : Code} {cc : ByteArray} {pc : Nat} {ls : Array Slot} (hexec : p.tables.exec = Jvm.exec) (hb : c.code = cc) (hr : meth.sig.returnType = none) (hlocks : meth.locks = false) (hdg : decode cc pc = .ok (.return_, 1)) : W p l e R s m args below meth c s.heap [] 0 0 (MQ below (Qrd none) args s 0 0 nofree) (F0 m pc ls []) := W.vret hexec hb hr (fun t ht _ => ⟨rfl, ht⟩) (fun _ h => by cases h) hdg hlocks
theorem pm_one {g : GG} {H : Heap} {a : Nat} {e : va_E} (h : va_at g.1 cls8 (a, e) H) : PM g (mu (fun _ => none) a e) H := by
  intro q x hq
  by_cases h1 : q = a
  · subst h1; rw [mu_s] at hq; cases hq; exact h
  · rw [mu_n h1] at hq; cases hq
set_option maxHeartbeats 4000000 in
theorem c_AbC_init (l : Launch) (g : GG) (M : MW) (al : Nat) (sz : Nat) : Met l y_AbC_init (k_AbC_init :: TT) { frames := 1, cells := 0, slots := 0, locals := 32 } (Pm g [.ref al] sz (M)) (Qrd none) 0 0 nofree := by
  refine met_of (by decide) (Nat.le_of_ble_eq_true rfl) ?_
  intro pr en s mi below meth co hx hb hr hml hown hlocks hnm hT hsz hP hK ls hl
  have hl : lv_has ls 1 [(0, .ref al)] := hl
  refine lv_aload_n hx hb d_AbC_init_0 rfl (lv_at hl 0 rfl) ?_
  refine W.objInit hx hb hown (hT _ w42) (hT _ w29) (hT _ w30) rfl (by rw [hml]; exact hl.1) rfl d_AbC_init_1 (Nat.le_of_ble_eq_true rfl) (Nat.le_of_ble_eq_true rfl) ?_
  exact rd_vret hx hb hr hlocks d_AbC_init_4
set_option maxHeartbeats 800000 in
set_option maxRecDepth 100000 in
theorem c_AbL_init (l : Launch) (g : GG) (M : MW) (al : Nat) (sz : Nat) (hA : M al = some (.inr (0, [.null, .int 0, .int 0]))) : Met l y_AbL_init (k_AbL_init :: TT) { frames := 2, cells := 0, slots := 0, locals := 52 } (Pm g [.ref al] sz (M)) (Qm g M (fun _ : Unit => none) (fun _ M' => M' = mu M al (.inr (0, [.null, .int 0, .int 0])))) 0 0 (mA M sz) := by
  refine met_of (by decide) (Nat.le_of_ble_eq_true rfl) ?_
  intro pr en s mi below meth co hx hb hr hml hown hlocks hnm hT hsz hP hK ls hl
  have hl : lv_has ls 1 [(0, .ref al)] := hl
  have hH := HS.start hP
  have o0 : M al = some (.inr (0, [.null, .int 0, .int 0])) := hA
  have fr : ∀ q, q < s.heap.size → q ≠ al → M q = M q := fun q h1 _ => rfl
  refine lv_aload_n hx hb d_AbL_init_0 rfl (lv_at hl 0 rfl) ?_
  refine rd_run (c_I (As := []) (rest := []) hx hb hml hl.1 hown hT hK hH.1 (c_AbC_init l g _ al _) kw_AbC_init w39 w40 rfl w2 hd_AbC_init rfl rfl ⟨by decide, by decide⟩ rfl rfl (Nat.le_of_ble_eq_true rfl) d_AbL_init_1 ⟨by decide, Nat.le_of_ble_eq_true rfl⟩) rfl ?_
  refine lv_aload_n hx hb d_AbL_init_4 rfl (lv_at hl 0 rfl) ?_
  refine lv_iconst (v := 0) hx hb d_AbL_init_5 (by decide) ?_
  refine m_put (ci := 0) (v := .int 0) (ty := .int) hx hb hT in_AL ty_AL tk_AL nm_AL hown hK hH (o0) rfl 2 (by decide) (hT _ w47) (fun _ h9 => h9) rfl (by decide +kernel) rfl rfl (Nat.le_of_ble_eq_true rfl) d_AbL_init_6 (e1 := .inr (0, [.null, .int 0, .int 0])) rfl (fun H1 locs hH zH1 => ?_)
  obtain ⟨M1, hM1⟩ : ∃ Mz : MW, Mz = mu M al (.inr (0, [.null, .int 0, .int 0])) := ⟨_, rfl⟩
  replace hH : HS g (mA M s.heap.size) s.heap M1 H1 locs := by rw [hM1]; exact hH
  have o0 : M1 al = some (.inr (0, [.null, .int 0, .int 0])) := by rw [hM1]; exact mu_s
  replace fr : ∀ q, q < s.heap.size → q ≠ al → M1 q = M q := fun q h1 h2 => by rw [hM1]; exact (mu_n (by omega)).trans (fr q h1 h2)
  exact m_vret hx hb hr hlocks hsz hH (hM1) d_AbL_init_9
set_option maxHeartbeats 800000 in
set_option maxRecDepth 100000 in
theorem c_AL_init (l : Launch) (g : GG) (M : MW) (al : Nat) (de mir : Nat) (sz : Nat) (hA : M al = some (.inr (0, [.null, .int 0, .int 0]))) : Met l y_AL_init (k_AL_init :: TT) { frames := 3, cells := 0, slots := 0, locals := 72 } (Pd g [.ref al] sz (M) de mir) (Qm g M (fun _ : Unit => none) (fun _ M' => M' al = some (.inr (0, [.ref de, .int 0, .int 0])) ∧ ∀ q, q ≠ al → M' q = M q)) 0 0 (mA M sz) := by
  refine dmet_of (by decide) (Nat.le_of_ble_eq_true rfl) ?_
  intro pr en s mi below meth co hx hb hr hml hown hlocks hnm hT hsz hP hK hZ ls hl
  have hl : lv_has ls 1 [(0, .ref al)] := hl
  have hH := HS.start hP
  have o0 : M al = some (.inr (0, [.null, .int 0, .int 0])) := hA
  have fr : ∀ q, q < s.heap.size → q ≠ al → M q = M q := fun q h1 _ => rfl
  refine lv_aload_n hx hb d_AL_init_0 rfl (lv_at hl 0 rfl) ?_
  have l0 := hH.1.lt o0
  refine m_run (c_I (As := []) (rest := []) hx hb hml hl.1 hown hT hK hH.1 (c_AbL_init l g _ al _ hA) kw_AbL_init w36 w37 rfl w3 hd_AbL_init rfl rfl ⟨by decide, by decide⟩ rfl rfl (Nat.le_of_ble_eq_true rfl) d_AL_init_1 ⟨by decide, Nat.le_of_ble_eq_true rfl⟩) hH (fun rv M1 H1 locs hpost hH zH1 hdm hfr => ?_)
  have e9 := hpost
  replace o0 : M1 al = some (.inr (0, [.null, .int 0, .int 0])) := by rw [e9]; exact mu_s
  replace fr : ∀ q, q < s.heap.size → q ≠ al → M1 q = M q := fun q h1 h2 => Eq.trans (by rw [e9]; exact mu_n h2) (fr q h1 h2)
  refine lv_aload_n hx hb d_AL_init_4 rfl (lv_at hl 0 rfl) ?_
  refine m_gets hx hb (index := 39) hZ hH hown hT d_AL_init_5 ?_
  refine m_put (ci := 0) (v := .ref de) (ty := .array (.object "java/lang/Object")) hx hb hT in_AL ty_AL tk_AL nm_AL hown hK hH (o0) rfl 0 (by decide) (hT _ w45) (fun _ h9 => h9) rfl (by decide +kernel) rfl rfl (Nat.le_of_ble_eq_true rfl) d_AL_init_8 (e1 := .inr (0, [.ref de, .int 0, .int 0])) rfl (fun H2 locs hH zH2 => ?_)
  obtain ⟨M2, hM2⟩ : ∃ Mz : MW, Mz = mu M1 al (.inr (0, [.ref de, .int 0, .int 0])) := ⟨_, rfl⟩
  replace hH : HS g (mA M s.heap.size) s.heap M2 H2 locs := by rw [hM2]; exact hH
  have o0 : M2 al = some (.inr (0, [.ref de, .int 0, .int 0])) := by rw [hM2]; exact mu_s
  replace fr : ∀ q, q < s.heap.size → q ≠ al → M2 q = M q := fun q h1 h2 => by rw [hM2]; exact (mu_n (by omega)).trans (fr q h1 h2)
  exact m_vret hx hb hr hlocks hsz hH (⟨o0, fun q hq => by rw [hM2, mu_n hq, e9, mu_n hq]⟩) d_AL_init_11
theorem nl_max {b k : Nat} (hb : b < 2 ^ 20) (hk : k < 2 ^ 20) : mxJ (nI b) (nI k) = nI (max b k) := by
  unfold mxJ
  by_cases h : b < k
  · rw [if_pos (nI_lt h (by omega)), show max b k = k by omega]
  · rw [if_neg (nI_nlt (by omega) (by omega)), show max b k = b by omega]
set_option maxHeartbeats 4000000 in
set_option maxRecDepth 100000 in
theorem c_ASup_newLength (l : Launch) (g : GG) (M : MW) (a b k : Nat) (sz : Nat) (ha : a < 2 ^ 20) (hb2 : b < 2 ^ 20) (hk : k < 2 ^ 20) (hp : 1 ≤ b) : Met l y_ASup_newLength (k_ASup_newLength :: TT) { frames := 1, cells := 0, slots := 0, locals := 21 } (Pm g [.int (nI a), .int (nI b), .int (nI k)] sz (M)) (Qrd (some (.int (nI (a + max b k))))) 0 0 (nofree) := by
  refine met_of (by decide) (Nat.le_of_ble_eq_true rfl) ?_
  intro pr en s mi below meth co hx hb hr hml hown hlocks hnm hT hsz hP hK ls hl
  have hl : lv_has ls 4 [(0, .int (nI a)), (1, .int (nI b)), (2, .int (nI k))] := hl
  refine lv_iload_n hx hb d_ASup_newLength_0 rfl (lv_at hl 0 rfl) ?_
  refine lv_iload_n hx hb d_ASup_newLength_1 rfl (lv_at hl 1 rfl) ?_
  refine lv_iload_n hx hb d_ASup_newLength_2 rfl (lv_at hl 2 rfl) ?_
  refine va_mmax hx hb (hml.trans hl.1.symm) hown (hT _ w278) (hT _ w279) (hT _ w16) (hT _ w280) (by decide) (Nat.le_of_ble_eq_true rfl) (by decide) (by decide) d_ASup_newLength_3 ?_
  refine W.eq (g2 := F0 mi 6 ls [.int (mxJ (nI b) (nI k)), .int (nI a)]) rfl ?_
  rw [show (mxJ (nI b) (nI k)) = nI (max b k) from nl_max hb2 hk]
  refine lv_iadd hx hb d_ASup_newLength_6 ?_
  rw [show ((nI a) + (nI (max b k))) = nI (a + max b k) from nI_add _ _]
  refine lv_istore_n (lv' := [(3, .int (nI (a + max b k))), (0, .int (nI a)), (1, .int (nI b)), (2, .int (nI k))]) hx hb d_ASup_newLength_7 rfl hl (by decide) rfl (fun ls hl => ?_)
  refine lv_iconst (v := 0) hx hb d_ASup_newLength_8 (by decide) ?_
  refine lv_iload_n hx hb d_ASup_newLength_9 rfl (lv_at hl 0 rfl) ?_
  refine lv_icmp_ge (tgt := 21) hx hb d_ASup_newLength_10 (by decide) (fun hq9 => absurd hq9 (fun z => absurd ((nI_leI (b := 0) (by omega) (by decide)).mp z) (by omega))) (fun _ => ?_)
  refine lv_iload_n hx hb d_ASup_newLength_13 rfl (lv_at hl 0 rfl) ?_
  refine lv_ldc hx hb hown (hT _ w281) d_ASup_newLength_14 ?_
  refine lv_icmp_gt (tgt := 21) hx hb d_ASup_newLength_16 (by decide) (fun hq9 => absurd hq9 (nI_nlt (a := 2147483639) (by omega) (by decide))) (fun _ => ?_)
  refine lv_iload_n hx hb d_ASup_newLength_19 rfl (lv_at hl 0 rfl) ?_
  exact rd_iret hx hb hr hlocks (rfl) d_ASup_newLength_20
