/-! The law's helpers: what they make of an answer, of a throw. -/
set_option maxHeartbeats 4000000 in
set_option maxRecDepth 100000 in
theorem g_L_issue (l : Launch) (g : GG) (MC : MW) (o a : Nat) (f : Nat → Int64) (de mir : Nat) (x1 x2 : Int32) (fs : List Value) (ha : MC a = some (.inr (6, fs))) (ho : MC o = none) (post : Int32 → MW → Prop) (hM : ∀ sz, Met l y_H_issue (k_H_issue :: TT) { frames := 7, cells := 6, slots := 1098, locals := 178 } (Pd g [.ref a, .int x1, .int x2] sz MC de mir) (Qm g MC (fun r : Int32 => some (.int r)) post) 6 1098 (mA MC sz)) (sz : Nat) : Met l y_L_issue (k_L_issue :: TT) { frames := 8, cells := 6, slots := 1098, locals := 200 } (Pl g [.ref a, .int x1, .int x2, .ref o] sz (mu MC o (oL g f)) de mir) (Qm g (mu MC o (oL g f)) (fun k : Int32 => some (.int k)) (fun k M' => k = 0 ∧ ∃ (v : Int32) (MC' : MW) (f' : Nat → Int64), post v MC' ∧ M' = mu MC' o (oL g f') ∧ MC' o = none ∧ f' 0 = v.toInt64)) 6 1098 (mA (mu MC o (oL g f)) sz) := by
  refine lmet_of (by decide) (Nat.le_of_ble_eq_true rfl) ?_
  intro pr en s mi below meth co hx hb hr hml hown hlocks hT hsz hP hK hZH hZ hN htab ls hl
  have hl : lv_has ls 5 [(0, .ref a), (1, .int x1), (2, .int x2), (3, .ref o)] := hl
  have hH := HS.start hP
  refine lv_aload_n hx hb d_L_issue_0 rfl (lv_at hl 3 rfl) ?_
  refine lv_iconst (v := 0) hx hb d_L_issue_1 (by decide) ?_
  refine lv_aload_n hx hb d_L_issue_2 rfl (lv_at hl 0 rfl) ?_
  refine lv_iload_n hx hb d_L_issue_3 rfl (lv_at hl 1 rfl) ?_
  refine lv_iload_n hx hb d_L_issue_4 rfl (lv_at hl 2 rfl) ?_
  refine m_runO ho (d_V (As := [.int x1, .int x2]) (rest := [.int 0, .ref o]) hx hb hml hl.1 hown hT hK (pm_in ho hH.1) (dd_in (dd_of hH hZ)) (hM _) kw_H_issue w140 w141 w142 w1 hd_H_issue rfl rfl ⟨by decide, by decide⟩ ha rfl rfl rfl (Nat.le_of_ble_eq_true rfl) d_L_issue_5 ⟨by decide, Nat.le_of_ble_eq_true rfl⟩) hH (fun v MC' H locs hpost hH ho' => ?_)
  refine W.eq (g2 := F0 mi 8 ls [.int v, .int 0, .ref o]) rfl ?_
  refine lv_i2l (v := v.toInt64) hx hb d_L_issue_8 rfl ?_
  refine m_last hx hb hK hH 3 (show mu MC' o (oL g f) o = some (.inl (g.2 3, 1, .inr (.inl f))) from mu_s) rfl (j := 0) rfl (by decide) (by decide) d_L_issue_9 (fun H locs hH hzz => ?_)
  rw [mu_mu2] at hH
  refine lv_goto (tgt := 17) hx hb d_L_issue_10 (by decide) ?_
  refine lv_iconst (v := 0) hx hb d_L_issue_17 (by decide) ?_
  refine W.more (cells' := 6) (slots' := 1098) (by decide) (by decide) ?_
  exact m_iret hx hb hr hlocks hsz hH ⟨rfl, v, MC', vp_updL f 0 (v.toInt64), hpost, rfl, ho', if_pos rfl⟩ d_L_issue_18
set_option maxHeartbeats 4000000 in
set_option maxRecDepth 100000 in
theorem g_L_revoke (l : Launch) (g : GG) (MC : MW) (o a : Nat) (f : Nat → Int64) (de mir : Nat) (x1 : Int32) (fs : List Value) (ha : MC a = some (.inr (6, fs))) (ho : MC o = none) (post : Int32 → MW → Prop) (hM : ∀ sz, Met l y_H_revoke (k_H_revoke :: TT) { frames := 8, cells := 3, slots := 1202, locals := 199 } (Pd g [.ref a, .int x1] sz MC de mir) (Qm g MC (fun r : Int32 => some (.int r)) post) 3 1202 (mA MC sz)) (sz : Nat) : Met l y_L_revoke (k_L_revoke :: TT) { frames := 9, cells := 3, slots := 1202, locals := 221 } (Pl g [.ref a, .int x1, .ref o] sz (mu MC o (oL g f)) de mir) (Qm g (mu MC o (oL g f)) (fun k : Int32 => some (.int k)) (fun k M' => k = 0 ∧ ∃ (v : Int32) (MC' : MW) (f' : Nat → Int64), post v MC' ∧ M' = mu MC' o (oL g f') ∧ MC' o = none ∧ f' 0 = v.toInt64)) 3 1202 (mA (mu MC o (oL g f)) sz) := by
  refine lmet_of (by decide) (Nat.le_of_ble_eq_true rfl) ?_
  intro pr en s mi below meth co hx hb hr hml hown hlocks hT hsz hP hK hZH hZ hN htab ls hl
  have hl : lv_has ls 4 [(0, .ref a), (1, .int x1), (2, .ref o)] := hl
  have hH := HS.start hP
  refine lv_aload_n hx hb d_L_revoke_0 rfl (lv_at hl 2 rfl) ?_
  refine lv_iconst (v := 0) hx hb d_L_revoke_1 (by decide) ?_
  refine lv_aload_n hx hb d_L_revoke_2 rfl (lv_at hl 0 rfl) ?_
  refine lv_iload_n hx hb d_L_revoke_3 rfl (lv_at hl 1 rfl) ?_
  refine m_runO ho (d_V (As := [.int x1]) (rest := [.int 0, .ref o]) hx hb hml hl.1 hown hT hK (pm_in ho hH.1) (dd_in (dd_of hH hZ)) (hM _) kw_H_revoke w321 w322 w323 w1 hd_H_revoke rfl rfl ⟨by decide, by decide⟩ ha rfl rfl rfl (Nat.le_of_ble_eq_true rfl) d_L_revoke_4 ⟨by decide, Nat.le_of_ble_eq_true rfl⟩) hH (fun v MC' H locs hpost hH ho' => ?_)
  refine W.eq (g2 := F0 mi 7 ls [.int v, .int 0, .ref o]) rfl ?_
  refine lv_i2l (v := v.toInt64) hx hb d_L_revoke_7 rfl ?_
  refine m_last hx hb hK hH 3 (show mu MC' o (oL g f) o = some (.inl (g.2 3, 1, .inr (.inl f))) from mu_s) rfl (j := 0) rfl (by decide) (by decide) d_L_revoke_8 (fun H locs hH hzz => ?_)
  rw [mu_mu2] at hH
  refine lv_goto (tgt := 18) hx hb d_L_revoke_9 (by decide) ?_
  refine lv_iconst (v := 0) hx hb d_L_revoke_18 (by decide) ?_
  refine W.more (cells' := 3) (slots' := 1202) (by decide) (by decide) ?_
  exact m_iret hx hb hr hlocks hsz hH ⟨rfl, v, MC', vp_updL f 0 (v.toInt64), hpost, rfl, ho', if_pos rfl⟩ d_L_revoke_19
set_option maxHeartbeats 4000000 in
set_option maxRecDepth 100000 in
theorem g_L_revoke_2 (l : Launch) (g : GG) (MC : MW) (o a : Nat) (f : Nat → Int64) (de mir : Nat) (x1 : Int32) (fs : List Value) (ha : MC a = some (.inr (6, fs))) (ho : MC o = none) (post : Int32 → MW → Prop) (hM : ∀ sz, Met l y_H_revoke (k_H_revoke :: TT) { frames := 8, cells := 0, slots := 0, locals := 199 } (Pd g [.ref a, .int x1] sz MC de mir) (Qm g MC (fun r : Int32 => some (.int r)) post) 0 0 (mA MC sz)) (sz : Nat) : Met l y_L_revoke (k_L_revoke :: TT) { frames := 9, cells := 3, slots := 1202, locals := 221 } (Pl g [.ref a, .int x1, .ref o] sz (mu MC o (oL g f)) de mir) (Qm g (mu MC o (oL g f)) (fun k : Int32 => some (.int k)) (fun k M' => k = 0 ∧ ∃ (v : Int32) (MC' : MW) (f' : Nat → Int64), post v MC' ∧ M' = mu MC' o (oL g f') ∧ MC' o = none ∧ f' 0 = v.toInt64)) 3 1202 (mA (mu MC o (oL g f)) sz) := by
  refine lmet_of (by decide) (Nat.le_of_ble_eq_true rfl) ?_
  intro pr en s mi below meth co hx hb hr hml hown hlocks hT hsz hP hK hZH hZ hN htab ls hl
  have hl : lv_has ls 4 [(0, .ref a), (1, .int x1), (2, .ref o)] := hl
  have hH := HS.start hP
  refine lv_aload_n hx hb d_L_revoke_0 rfl (lv_at hl 2 rfl) ?_
  refine lv_iconst (v := 0) hx hb d_L_revoke_1 (by decide) ?_
  refine lv_aload_n hx hb d_L_revoke_2 rfl (lv_at hl 0 rfl) ?_
  refine lv_iload_n hx hb d_L_revoke_3 rfl (lv_at hl 1 rfl) ?_
  refine m_runO ho (d_V (As := [.int x1]) (rest := [.int 0, .ref o]) hx hb hml hl.1 hown hT hK (pm_in ho hH.1) (dd_in (dd_of hH hZ)) (hM _) kw_H_revoke w321 w322 w323 w1 hd_H_revoke rfl rfl ⟨by decide, by decide⟩ ha rfl rfl rfl (Nat.le_of_ble_eq_true rfl) d_L_revoke_4 ⟨by decide, Nat.le_of_ble_eq_true rfl⟩) hH (fun v MC' H locs hpost hH ho' => ?_)
  refine W.eq (g2 := F0 mi 7 ls [.int v, .int 0, .ref o]) rfl ?_
  refine lv_i2l (v := v.toInt64) hx hb d_L_revoke_7 rfl ?_
  refine m_last hx hb hK hH 3 (show mu MC' o (oL g f) o = some (.inl (g.2 3, 1, .inr (.inl f))) from mu_s) rfl (j := 0) rfl (by decide) (by decide) d_L_revoke_8 (fun H locs hH hzz => ?_)
  rw [mu_mu2] at hH
  refine lv_goto (tgt := 18) hx hb d_L_revoke_9 (by decide) ?_
  refine lv_iconst (v := 0) hx hb d_L_revoke_18 (by decide) ?_
  refine W.more (cells' := 3) (slots' := 1202) (by decide) (by decide) ?_
  exact m_iret hx hb hr hlocks hsz hH ⟨rfl, v, MC', vp_updL f 0 (v.toInt64), hpost, rfl, ho', if_pos rfl⟩ d_L_revoke_19
set_option maxHeartbeats 4000000 in
set_option maxRecDepth 100000 in
theorem b_L_revoke_1 (l : Launch) (g : GG) (MC : MW) (o a : Nat) (f : Nat → Int64) (de mir : Nat) (x1 : Int32) (fs : List Value) (ha : MC a = some (.inr (6, fs))) (ho : MC o = none) (hM : ∀ sz, vx_Met l y_H_revoke (k_H_revoke :: TT) { frames := 8, cells := 1, slots := 6, locals := 199 } (Pz g [.ref a, .int x1] sz MC) QF (XE IOE) 1 6 nofree) (sz : Nat) : Met l y_L_revoke (k_L_revoke :: TT) { frames := 9, cells := 3, slots := 1202, locals := 221 } (Pl g [.ref a, .int x1, .ref o] sz (mu MC o (oL g f)) de mir) (Qm g (mu MC o (oL g f)) (fun k : Int32 => some (.int k)) (fun k M' => k = 1 ∧ M' = mu MC o (oL g f))) 3 1202 (mA (mu MC o (oL g f)) sz) := by
  refine lmet_of (by decide) (Nat.le_of_ble_eq_true rfl) ?_
  intro pr en s mi below meth co hx hb hr hml hown hlocks hT hsz hP hK hZH hZ hN htab ls hl
  have hl : lv_has ls 4 [(0, .ref a), (1, .int x1), (2, .ref o)] := hl
  have hH := HS.start hP
  refine lv_aload_n hx hb d_L_revoke_0 rfl (lv_at hl 2 rfl) ?_
  refine lv_iconst (v := 0) hx hb d_L_revoke_1 (by decide) ?_
  refine lv_aload_n hx hb d_L_revoke_2 rfl (lv_at hl 0 rfl) ?_
  refine lv_iload_n hx hb d_L_revoke_3 rfl (lv_at hl 1 rfl) ?_
  refine x_run (cx_V (As := [.int x1]) (rest := [.int 0, .ref o]) hx hb hml hl.1 hown hT hK (pm_in ho hP) hZH (hM _) kw_H_revoke w321 w322 w323 w1 hd_H_revoke rfl rfl ⟨by decide, by decide⟩ ha rfl rfl rfl (Nat.le_of_ble_eq_true rfl) d_L_revoke_4 ⟨by decide, Nat.le_of_ble_eq_true rfl⟩) (fun q ce H1 hz hk hce hcv hcl => ?_)
  replace hH := hH.grow hz hk
  refine vx_catch (E := IOE) (name := IOE) hown [] ⟨0, 9, 12, 19⟩ [⟨0, 9, 15, 13⟩] (htab.trans rfl) (fun z h => by cases h) (by decide) (by decide) (hT _ w320) (va_Nw.use rfl (hK.2.1 _ nw335)) hce hcv hcl ?_
  refine W.eq (g2 := F0 mi 12 ls [.ref q]) rfl ?_
  refine lv_astore_n (lv' := [(3, .ref q), (0, .ref a), (1, .int x1), (2, .ref o)]) hx hb d_L_revoke_12 rfl hl (by decide) rfl (fun ls hl => ?_)
  refine lv_iconst (v := 1) hx hb d_L_revoke_13 (by decide) ?_
  refine W.more (cells' := 3) (slots' := 1202) (by decide) (by decide) ?_
  exact m_iret hx hb hr hlocks hsz hH ⟨rfl, rfl⟩ d_L_revoke_14
set_option maxHeartbeats 4000000 in
set_option maxRecDepth 100000 in
theorem g_L_gate (l : Launch) (g : GG) (MC : MW) (o a : Nat) (f : Nat → Int64) (de mir : Nat) (x1 : Int32) (fs : List Value) (ha : MC a = some (.inr (6, fs))) (ho : MC o = none) (post : Unit → MW → Prop) (hM : ∀ sz, Met l y_H_gate (k_H_gate :: TT) { frames := 7, cells := 0, slots := 0, locals := 121 } (Pd g [.ref a, .int x1] sz MC de mir) (Qm g MC (fun _ : Unit => none) post) 0 0 (mA MC sz)) (sz : Nat) : Met l y_L_gate (k_L_gate :: TT) { frames := 8, cells := 1, slots := 6, locals := 146 } (Pl g [.ref a, .int x1] sz (mu MC o (oL g f)) de mir) (Qm g (mu MC o (oL g f)) (fun k : Int32 => some (.int k)) (fun k M' => k = 0 ∧ ∃ MC' : MW, post () MC' ∧ M' = mu MC' o (oL g f) ∧ MC' o = none)) 1 6 (mA (mu MC o (oL g f)) sz) := by
  refine lmet_of (by decide) (Nat.le_of_ble_eq_true rfl) ?_
  intro pr en s mi below meth co hx hb hr hml hown hlocks hT hsz hP hK hZH hZ hN htab ls hl
  have hl : lv_has ls 3 [(0, .ref a), (1, .int x1)] := hl
  have hH := HS.start hP
  refine lv_aload_n hx hb d_L_gate_0 rfl (lv_at hl 0 rfl) ?_
  refine lv_iload_n hx hb d_L_gate_1 rfl (lv_at hl 1 rfl) ?_
  refine m_runO ho (d_V (As := [.int x1]) (rest := []) hx hb hml hl.1 hown hT hK (pm_in ho hH.1) (dd_in (dd_of hH hZ)) (hM _) kw_H_gate w387 w388 w389 w1 hd_H_gate rfl rfl ⟨by decide, by decide⟩ ha rfl rfl rfl (Nat.le_of_ble_eq_true rfl) d_L_gate_2 ⟨by decide, Nat.le_of_ble_eq_true rfl⟩) hH (fun v MC' H locs hpost hH ho' => ?_)
  refine W.eq (g2 := F0 mi 5 ls []) rfl ?_
  refine lv_goto (tgt := 11) hx hb d_L_gate_5 (by decide) ?_
  refine lv_iconst (v := 0) hx hb d_L_gate_11 (by decide) ?_
  refine W.more (cells' := 1) (slots' := 6) (by decide) (by decide) ?_
  exact m_iret hx hb hr hlocks hsz hH ⟨rfl, MC', hpost, rfl, ho'⟩ d_L_gate_12
set_option maxHeartbeats 4000000 in
set_option maxRecDepth 100000 in
theorem b_L_gate_1 (l : Launch) (g : GG) (MC : MW) (o a : Nat) (f : Nat → Int64) (de mir : Nat) (x1 : Int32) (fs : List Value) (ha : MC a = some (.inr (6, fs))) (ho : MC o = none) (hM : ∀ sz, vx_Met l y_H_gate (k_H_gate :: TT) { frames := 7, cells := 1, slots := 6, locals := 121 } (Pz g [.ref a, .int x1] sz MC) QF (XE IOE) 1 6 nofree) (sz : Nat) : Met l y_L_gate (k_L_gate :: TT) { frames := 8, cells := 1, slots := 6, locals := 146 } (Pl g [.ref a, .int x1] sz (mu MC o (oL g f)) de mir) (Qm g (mu MC o (oL g f)) (fun k : Int32 => some (.int k)) (fun k M' => k = 1 ∧ M' = mu MC o (oL g f))) 1 6 (mA (mu MC o (oL g f)) sz) := by
  refine lmet_of (by decide) (Nat.le_of_ble_eq_true rfl) ?_
  intro pr en s mi below meth co hx hb hr hml hown hlocks hT hsz hP hK hZH hZ hN htab ls hl
  have hl : lv_has ls 3 [(0, .ref a), (1, .int x1)] := hl
  have hH := HS.start hP
  refine lv_aload_n hx hb d_L_gate_0 rfl (lv_at hl 0 rfl) ?_
  refine lv_iload_n hx hb d_L_gate_1 rfl (lv_at hl 1 rfl) ?_
  refine x_run (cx_V (As := [.int x1]) (rest := []) hx hb hml hl.1 hown hT hK (pm_in ho hP) hZH (hM _) kw_H_gate w387 w388 w389 w1 hd_H_gate rfl rfl ⟨by decide, by decide⟩ ha rfl rfl rfl (Nat.le_of_ble_eq_true rfl) d_L_gate_2 ⟨by decide, Nat.le_of_ble_eq_true rfl⟩) (fun q ce H1 hz hk hce hcv hcl => ?_)
  replace hH := hH.grow hz hk
  refine vx_catch (E := IOE) (name := IOE) hown [] ⟨0, 5, 8, 19⟩ [] (htab.trans rfl) (fun z h => by cases h) (by decide) (by decide) (hT _ w320) (va_Nw.use rfl (hK.2.1 _ nw335)) hce hcv hcl ?_
  refine W.eq (g2 := F0 mi 8 ls [.ref q]) rfl ?_
  refine lv_astore_n (lv' := [(2, .ref q), (0, .ref a), (1, .int x1)]) hx hb d_L_gate_8 rfl hl (by decide) rfl (fun ls hl => ?_)
  refine lv_iconst (v := 1) hx hb d_L_gate_9 (by decide) ?_
  refine W.more (cells' := 1) (slots' := 6) (by decide) (by decide) ?_
  exact m_iret hx hb hr hlocks hsz hH ⟨rfl, rfl⟩ d_L_gate_10
set_option maxHeartbeats 4000000 in
set_option maxRecDepth 100000 in
theorem g_L_zoneOf (l : Launch) (g : GG) (MC : MW) (o a : Nat) (f : Nat → Int64) (de mir : Nat) (x1 x2 : Int32) (fs : List Value) (ha : MC a = some (.inr (6, fs))) (ho : MC o = none) (post : Unit → MW → Prop) (hM : ∀ sz, Met l y_H_zoneOf (k_H_zoneOf :: TT) { frames := 7, cells := 0, slots := 0, locals := 121 } (Pd g [.ref a, .int x1, .int x2] sz MC de mir) (Qm g MC (fun _ : Unit => none) post) 0 0 (mA MC sz)) (sz : Nat) : Met l y_L_zoneOf (k_L_zoneOf :: TT) { frames := 8, cells := 1, slots := 6, locals := 144 } (Pl g [.ref a, .int x1, .int x2] sz (mu MC o (oL g f)) de mir) (Qm g (mu MC o (oL g f)) (fun k : Int32 => some (.int k)) (fun k M' => k = 0 ∧ ∃ MC' : MW, post () MC' ∧ M' = mu MC' o (oL g f) ∧ MC' o = none)) 1 6 (mA (mu MC o (oL g f)) sz) := by
  refine lmet_of (by decide) (Nat.le_of_ble_eq_true rfl) ?_
  intro pr en s mi below meth co hx hb hr hml hown hlocks hT hsz hP hK hZH hZ hN htab ls hl
  have hl : lv_has ls 4 [(0, .ref a), (1, .int x1), (2, .int x2)] := hl
  have hH := HS.start hP
  refine lv_aload_n hx hb d_L_zoneOf_0 rfl (lv_at hl 0 rfl) ?_
  refine lv_iload_n hx hb d_L_zoneOf_1 rfl (lv_at hl 1 rfl) ?_
  refine lv_iload_n hx hb d_L_zoneOf_2 rfl (lv_at hl 2 rfl) ?_
  refine m_runO ho (d_V (As := [.int x1, .int x2]) (rest := []) hx hb hml hl.1 hown hT hK (pm_in ho hH.1) (dd_in (dd_of hH hZ)) (hM _) kw_H_zoneOf w445 w446 w447 w1 hd_H_zoneOf rfl rfl ⟨by decide, by decide⟩ ha rfl rfl rfl (Nat.le_of_ble_eq_true rfl) d_L_zoneOf_3 ⟨by decide, Nat.le_of_ble_eq_true rfl⟩) hH (fun v MC' H locs hpost hH ho' => ?_)
  refine W.eq (g2 := F0 mi 6 ls []) rfl ?_
  refine lv_goto (tgt := 18) hx hb d_L_zoneOf_6 (by decide) ?_
  refine lv_iconst (v := 0) hx hb d_L_zoneOf_18 (by decide) ?_
  refine W.more (cells' := 1) (slots' := 6) (by decide) (by decide) ?_
  exact m_iret hx hb hr hlocks hsz hH ⟨rfl, MC', hpost, rfl, ho'⟩ d_L_zoneOf_19
set_option maxHeartbeats 4000000 in
set_option maxRecDepth 100000 in
theorem b_L_zoneOf_1 (l : Launch) (g : GG) (MC : MW) (o a : Nat) (f : Nat → Int64) (de mir : Nat) (x1 x2 : Int32) (fs : List Value) (ha : MC a = some (.inr (6, fs))) (ho : MC o = none) (hM : ∀ sz, vx_Met l y_H_zoneOf (k_H_zoneOf :: TT) { frames := 7, cells := 1, slots := 6, locals := 121 } (Pz g [.ref a, .int x1, .int x2] sz MC) QF (XE IOE) 1 6 nofree) (sz : Nat) : Met l y_L_zoneOf (k_L_zoneOf :: TT) { frames := 8, cells := 1, slots := 6, locals := 144 } (Pl g [.ref a, .int x1, .int x2] sz (mu MC o (oL g f)) de mir) (Qm g (mu MC o (oL g f)) (fun k : Int32 => some (.int k)) (fun k M' => k = 1 ∧ M' = mu MC o (oL g f))) 1 6 (mA (mu MC o (oL g f)) sz) := by
  refine lmet_of (by decide) (Nat.le_of_ble_eq_true rfl) ?_
  intro pr en s mi below meth co hx hb hr hml hown hlocks hT hsz hP hK hZH hZ hN htab ls hl
  have hl : lv_has ls 4 [(0, .ref a), (1, .int x1), (2, .int x2)] := hl
  have hH := HS.start hP
  refine lv_aload_n hx hb d_L_zoneOf_0 rfl (lv_at hl 0 rfl) ?_
  refine lv_iload_n hx hb d_L_zoneOf_1 rfl (lv_at hl 1 rfl) ?_
  refine lv_iload_n hx hb d_L_zoneOf_2 rfl (lv_at hl 2 rfl) ?_
  refine x_run (cx_V (As := [.int x1, .int x2]) (rest := []) hx hb hml hl.1 hown hT hK (pm_in ho hP) hZH (hM _) kw_H_zoneOf w445 w446 w447 w1 hd_H_zoneOf rfl rfl ⟨by decide, by decide⟩ ha rfl rfl rfl (Nat.le_of_ble_eq_true rfl) d_L_zoneOf_3 ⟨by decide, Nat.le_of_ble_eq_true rfl⟩) (fun q ce H1 hz hk hce hcv hcl => ?_)
  replace hH := hH.grow hz hk
  refine vx_catch (E := IOE) (name := IOE) hown [] ⟨0, 6, 9, 19⟩ [⟨0, 6, 12, 29⟩, ⟨0, 6, 15, 13⟩] (htab.trans rfl) (fun z h => by cases h) (by decide) (by decide) (hT _ w320) (va_Nw.use rfl (hK.2.1 _ nw335)) hce hcv hcl ?_
  refine W.eq (g2 := F0 mi 9 ls [.ref q]) rfl ?_
  refine lv_astore_n (lv' := [(3, .ref q), (0, .ref a), (1, .int x1), (2, .int x2)]) hx hb d_L_zoneOf_9 rfl hl (by decide) rfl (fun ls hl => ?_)
  refine lv_iconst (v := 1) hx hb d_L_zoneOf_10 (by decide) ?_
  refine W.more (cells' := 1) (slots' := 6) (by decide) (by decide) ?_
  exact m_iret hx hb hr hlocks hsz hH ⟨rfl, rfl⟩ d_L_zoneOf_11
set_option maxHeartbeats 4000000 in
set_option maxRecDepth 100000 in
theorem b_L_zoneOf_2 (l : Launch) (g : GG) (MC : MW) (o a : Nat) (f : Nat → Int64) (de mir : Nat) (x1 x2 : Int32) (fs : List Value) (ha : MC a = some (.inr (6, fs))) (ho : MC o = none) (hM : ∀ sz, vx_Met l y_H_zoneOf (k_H_zoneOf :: TT) { frames := 7, cells := 1, slots := 6, locals := 121 } (Pz g [.ref a, .int x1, .int x2] sz MC) QF (XE IAE) 1 6 nofree) (sz : Nat) : Met l y_L_zoneOf (k_L_zoneOf :: TT) { frames := 8, cells := 1, slots := 6, locals := 144 } (Pl g [.ref a, .int x1, .int x2] sz (mu MC o (oL g f)) de mir) (Qm g (mu MC o (oL g f)) (fun k : Int32 => some (.int k)) (fun k M' => k = 2 ∧ M' = mu MC o (oL g f))) 1 6 (mA (mu MC o (oL g f)) sz) := by
  refine lmet_of (by decide) (Nat.le_of_ble_eq_true rfl) ?_
  intro pr en s mi below meth co hx hb hr hml hown hlocks hT hsz hP hK hZH hZ hN htab ls hl
  have hl : lv_has ls 4 [(0, .ref a), (1, .int x1), (2, .int x2)] := hl
  have hH := HS.start hP
  refine lv_aload_n hx hb d_L_zoneOf_0 rfl (lv_at hl 0 rfl) ?_
  refine lv_iload_n hx hb d_L_zoneOf_1 rfl (lv_at hl 1 rfl) ?_
  refine lv_iload_n hx hb d_L_zoneOf_2 rfl (lv_at hl 2 rfl) ?_
  refine x_run (cx_V (As := [.int x1, .int x2]) (rest := []) hx hb hml hl.1 hown hT hK (pm_in ho hP) hZH (hM _) kw_H_zoneOf w445 w446 w447 w1 hd_H_zoneOf rfl rfl ⟨by decide, by decide⟩ ha rfl rfl rfl (Nat.le_of_ble_eq_true rfl) d_L_zoneOf_3 ⟨by decide, Nat.le_of_ble_eq_true rfl⟩) (fun q ce H1 hz hk hce hcv hcl => ?_)
  replace hH := hH.grow hz hk
  refine vx_catch (E := IAE) (name := IAE) hown [⟨0, 6, 9, 19⟩] ⟨0, 6, 12, 29⟩ [⟨0, 6, 15, 13⟩] (htab.trans rfl) (fun z hz => by
      simp only [List.mem_cons, List.not_mem_nil, or_false] at hz
      rcases hz with rfl
      · exact Or.inr ⟨by decide, _, hT _ w320, hN.1⟩) (by decide) (by decide) (hT _ w444) (va_Nw.use rfl (hK.2.1 _ nw460)) hce hcv hcl ?_
  refine W.eq (g2 := F0 mi 12 ls [.ref q]) rfl ?_
  refine lv_astore_n (lv' := [(3, .ref q), (0, .ref a), (1, .int x1), (2, .int x2)]) hx hb d_L_zoneOf_12 rfl hl (by decide) rfl (fun ls hl => ?_)
  refine lv_iconst (v := 2) hx hb d_L_zoneOf_13 (by decide) ?_
  refine W.more (cells' := 1) (slots' := 6) (by decide) (by decide) ?_
  exact m_iret hx hb hr hlocks hsz hH ⟨rfl, rfl⟩ d_L_zoneOf_14
set_option maxHeartbeats 4000000 in
set_option maxRecDepth 100000 in
theorem b_L_zoneOf_3 (l : Launch) (g : GG) (MC : MW) (o a : Nat) (f : Nat → Int64) (de mir : Nat) (x1 x2 : Int32) (fs : List Value) (ha : MC a = some (.inr (6, fs))) (ho : MC o = none) (hM : ∀ sz, vx_Met l y_H_zoneOf (k_H_zoneOf :: TT) { frames := 7, cells := 1, slots := 6, locals := 121 } (Pz g [.ref a, .int x1, .int x2] sz MC) QF (XE ISE) 1 6 nofree) (sz : Nat) : Met l y_L_zoneOf (k_L_zoneOf :: TT) { frames := 8, cells := 1, slots := 6, locals := 144 } (Pl g [.ref a, .int x1, .int x2] sz (mu MC o (oL g f)) de mir) (Qm g (mu MC o (oL g f)) (fun k : Int32 => some (.int k)) (fun k M' => k = 3 ∧ M' = mu MC o (oL g f))) 1 6 (mA (mu MC o (oL g f)) sz) := by
  refine lmet_of (by decide) (Nat.le_of_ble_eq_true rfl) ?_
  intro pr en s mi below meth co hx hb hr hml hown hlocks hT hsz hP hK hZH hZ hN htab ls hl
  have hl : lv_has ls 4 [(0, .ref a), (1, .int x1), (2, .int x2)] := hl
  have hH := HS.start hP
  refine lv_aload_n hx hb d_L_zoneOf_0 rfl (lv_at hl 0 rfl) ?_
  refine lv_iload_n hx hb d_L_zoneOf_1 rfl (lv_at hl 1 rfl) ?_
  refine lv_iload_n hx hb d_L_zoneOf_2 rfl (lv_at hl 2 rfl) ?_
  refine x_run (cx_V (As := [.int x1, .int x2]) (rest := []) hx hb hml hl.1 hown hT hK (pm_in ho hP) hZH (hM _) kw_H_zoneOf w445 w446 w447 w1 hd_H_zoneOf rfl rfl ⟨by decide, by decide⟩ ha rfl rfl rfl (Nat.le_of_ble_eq_true rfl) d_L_zoneOf_3 ⟨by decide, Nat.le_of_ble_eq_true rfl⟩) (fun q ce H1 hz hk hce hcv hcl => ?_)
  replace hH := hH.grow hz hk
  refine vx_catch (E := ISE) (name := ISE) hown [⟨0, 6, 9, 19⟩, ⟨0, 6, 12, 29⟩] ⟨0, 6, 15, 13⟩ [] (htab.trans rfl) (fun z hz => by
      simp only [List.mem_cons, List.not_mem_nil, or_false] at hz
      rcases hz with rfl | rfl
      · exact Or.inr ⟨by decide, _, hT _ w320, hN.2.1⟩
      · exact Or.inr ⟨by decide, _, hT _ w444, hN.2.2⟩) (by decide) (by decide) (hT _ w139) (va_Nw.use rfl (hK.2.1 _ nw146)) hce hcv hcl ?_
  refine W.eq (g2 := F0 mi 15 ls [.ref q]) rfl ?_
  refine lv_astore_n (lv' := [(3, .ref q), (0, .ref a), (1, .int x1), (2, .int x2)]) hx hb d_L_zoneOf_15 rfl hl (by decide) rfl (fun ls hl => ?_)
  refine lv_iconst (v := 3) hx hb d_L_zoneOf_16 (by decide) ?_
  refine W.more (cells' := 1) (slots' := 6) (by decide) (by decide) ?_
  exact m_iret hx hb hr hlocks hsz hH ⟨rfl, rfl⟩ d_L_zoneOf_17
set_option maxHeartbeats 4000000 in
set_option maxRecDepth 100000 in
theorem g_L_show (l : Launch) (g : GG) (MC : MW) (o a : Nat) (f : Nat → Int64) (de mir : Nat) (x1 x2 x3 : Int32) (fs : List Value) (ha : MC a = some (.inr (6, fs))) (ho : MC o = none) (post : Int32 → MW → Prop) (hM : ∀ sz, Met l y_H_show (k_H_show :: TT) { frames := 7, cells := 0, slots := 0, locals := 161 } (Pd g [.ref a, .int x1, .int x2, .int x3] sz MC de mir) (Qm g MC (fun r : Int32 => some (.int r)) post) 0 0 (mA MC sz)) (sz : Nat) : Met l y_L_show (k_L_show :: TT) { frames := 8, cells := 1, slots := 6, locals := 186 } (Pl g [.ref a, .int x1, .int x2, .int x3, .ref o] sz (mu MC o (oL g f)) de mir) (Qm g (mu MC o (oL g f)) (fun k : Int32 => some (.int k)) (fun k M' => k = 0 ∧ ∃ (v : Int32) (MC' : MW) (f' : Nat → Int64), post v MC' ∧ M' = mu MC' o (oL g f') ∧ MC' o = none ∧ f' 0 = v.toInt64)) 1 6 (mA (mu MC o (oL g f)) sz) := by
  refine lmet_of (by decide) (Nat.le_of_ble_eq_true rfl) ?_
  intro pr en s mi below meth co hx hb hr hml hown hlocks hT hsz hP hK hZH hZ hN htab ls hl
  have hl : lv_has ls 6 [(0, .ref a), (1, .int x1), (2, .int x2), (3, .int x3), (4, .ref o)] := hl
  have hH := HS.start hP
  refine lv_aload hx hb d_L_show_0 (lv_at hl 4 rfl) ?_
  refine lv_iconst (v := 0) hx hb d_L_show_2 (by decide) ?_
  refine lv_aload_n hx hb d_L_show_3 rfl (lv_at hl 0 rfl) ?_
  refine lv_iload_n hx hb d_L_show_4 rfl (lv_at hl 1 rfl) ?_
  refine lv_iload_n hx hb d_L_show_5 rfl (lv_at hl 2 rfl) ?_
  refine lv_iload_n hx hb d_L_show_6 rfl (lv_at hl 3 rfl) ?_
  refine m_runO ho (d_V (As := [.int x1, .int x2, .int x3]) (rest := [.int 0, .ref o]) hx hb hml hl.1 hown hT hK (pm_in ho hH.1) (dd_in (dd_of hH hZ)) (hM _) kw_H_show w478 w479 w480 w1 hd_H_show rfl rfl ⟨by decide, by decide⟩ ha rfl rfl rfl (Nat.le_of_ble_eq_true rfl) d_L_show_7 ⟨by decide, Nat.le_of_ble_eq_true rfl⟩) hH (fun v MC' H locs hpost hH ho' => ?_)
  refine W.eq (g2 := F0 mi 10 ls [.int v, .int 0, .ref o]) rfl ?_
  refine lv_i2l (v := v.toInt64) hx hb d_L_show_10 rfl ?_
  refine m_last hx hb hK hH 3 (show mu MC' o (oL g f) o = some (.inl (g.2 3, 1, .inr (.inl f))) from mu_s) rfl (j := 0) rfl (by decide) (by decide) d_L_show_11 (fun H locs hH hzz => ?_)
  rw [mu_mu2] at hH
  refine lv_goto (tgt := 19) hx hb d_L_show_12 (by decide) ?_
  refine lv_iconst (v := 0) hx hb d_L_show_19 (by decide) ?_
  refine W.more (cells' := 1) (slots' := 6) (by decide) (by decide) ?_
  exact m_iret hx hb hr hlocks hsz hH ⟨rfl, v, MC', vp_updL f 0 (v.toInt64), hpost, rfl, ho', if_pos rfl⟩ d_L_show_20
set_option maxHeartbeats 4000000 in
set_option maxRecDepth 100000 in
theorem b_L_show_1 (l : Launch) (g : GG) (MC : MW) (o a : Nat) (f : Nat → Int64) (de mir : Nat) (x1 x2 x3 : Int32) (fs : List Value) (ha : MC a = some (.inr (6, fs))) (ho : MC o = none) (hM : ∀ sz, vx_Met l y_H_show (k_H_show :: TT) { frames := 7, cells := 1, slots := 6, locals := 161 } (Pz g [.ref a, .int x1, .int x2, .int x3] sz MC) QF (XE IOE) 1 6 nofree) (sz : Nat) : Met l y_L_show (k_L_show :: TT) { frames := 8, cells := 1, slots := 6, locals := 186 } (Pl g [.ref a, .int x1, .int x2, .int x3, .ref o] sz (mu MC o (oL g f)) de mir) (Qm g (mu MC o (oL g f)) (fun k : Int32 => some (.int k)) (fun k M' => k = 1 ∧ M' = mu MC o (oL g f))) 1 6 (mA (mu MC o (oL g f)) sz) := by
  refine lmet_of (by decide) (Nat.le_of_ble_eq_true rfl) ?_
  intro pr en s mi below meth co hx hb hr hml hown hlocks hT hsz hP hK hZH hZ hN htab ls hl
  have hl : lv_has ls 6 [(0, .ref a), (1, .int x1), (2, .int x2), (3, .int x3), (4, .ref o)] := hl
  have hH := HS.start hP
  refine lv_aload hx hb d_L_show_0 (lv_at hl 4 rfl) ?_
  refine lv_iconst (v := 0) hx hb d_L_show_2 (by decide) ?_
  refine lv_aload_n hx hb d_L_show_3 rfl (lv_at hl 0 rfl) ?_
  refine lv_iload_n hx hb d_L_show_4 rfl (lv_at hl 1 rfl) ?_
  refine lv_iload_n hx hb d_L_show_5 rfl (lv_at hl 2 rfl) ?_
  refine lv_iload_n hx hb d_L_show_6 rfl (lv_at hl 3 rfl) ?_
  refine x_run (cx_V (As := [.int x1, .int x2, .int x3]) (rest := [.int 0, .ref o]) hx hb hml hl.1 hown hT hK (pm_in ho hP) hZH (hM _) kw_H_show w478 w479 w480 w1 hd_H_show rfl rfl ⟨by decide, by decide⟩ ha rfl rfl rfl (Nat.le_of_ble_eq_true rfl) d_L_show_7 ⟨by decide, Nat.le_of_ble_eq_true rfl⟩) (fun q ce H1 hz hk hce hcv hcl => ?_)
  replace hH := hH.grow hz hk
  refine vx_catch (E := IOE) (name := IOE) hown [] ⟨0, 12, 15, 19⟩ [] (htab.trans rfl) (fun z h => by cases h) (by decide) (by decide) (hT _ w320) (va_Nw.use rfl (hK.2.1 _ nw335)) hce hcv hcl ?_
  refine W.eq (g2 := F0 mi 15 ls [.ref q]) rfl ?_
  refine lv_astore (lv' := [(5, .ref q), (0, .ref a), (1, .int x1), (2, .int x2), (3, .int x3), (4, .ref o)]) hx hb d_L_show_15 hl (by decide) rfl (fun ls hl => ?_)
  refine lv_iconst (v := 1) hx hb d_L_show_17 (by decide) ?_
  refine W.more (cells' := 1) (slots' := 6) (by decide) (by decide) ?_
  exact m_iret hx hb hr hlocks hsz hH ⟨rfl, rfl⟩ d_L_show_18
set_option maxHeartbeats 4000000 in
set_option maxRecDepth 100000 in
theorem g_L_tear (l : Launch) (g : GG) (MC : MW) (o a : Nat) (f : Nat → Int64) (de mir : Nat) (x1 x2 : Int32) (fs : List Value) (ha : MC a = some (.inr (6, fs))) (ho : MC o = none) (post : Unit → MW → Prop) (hM : ∀ sz, Met l y_H_tear (k_H_tear :: TT) { frames := 7, cells := 0, slots := 0, locals := 121 } (Pd g [.ref a, .int x1, .int x2] sz MC de mir) (Qm g MC (fun _ : Unit => none) post) 0 0 (mA MC sz)) (sz : Nat) : Met l y_L_tear (k_L_tear :: TT) { frames := 8, cells := 1, slots := 6, locals := 144 } (Pl g [.ref a, .int x1, .int x2] sz (mu MC o (oL g f)) de mir) (Qm g (mu MC o (oL g f)) (fun k : Int32 => some (.int k)) (fun k M' => k = 0 ∧ ∃ MC' : MW, post () MC' ∧ M' = mu MC' o (oL g f) ∧ MC' o = none)) 1 6 (mA (mu MC o (oL g f)) sz) := by
  refine lmet_of (by decide) (Nat.le_of_ble_eq_true rfl) ?_
  intro pr en s mi below meth co hx hb hr hml hown hlocks hT hsz hP hK hZH hZ hN htab ls hl
  have hl : lv_has ls 4 [(0, .ref a), (1, .int x1), (2, .int x2)] := hl
  have hH := HS.start hP
  refine lv_aload_n hx hb d_L_tear_0 rfl (lv_at hl 0 rfl) ?_
  refine lv_iload_n hx hb d_L_tear_1 rfl (lv_at hl 1 rfl) ?_
  refine lv_iload_n hx hb d_L_tear_2 rfl (lv_at hl 2 rfl) ?_
  refine m_runO ho (d_V (As := [.int x1, .int x2]) (rest := []) hx hb hml hl.1 hown hT hK (pm_in ho hH.1) (dd_in (dd_of hH hZ)) (hM _) kw_H_tear w534 w535 w536 w1 hd_H_tear rfl rfl ⟨by decide, by decide⟩ ha rfl rfl rfl (Nat.le_of_ble_eq_true rfl) d_L_tear_3 ⟨by decide, Nat.le_of_ble_eq_true rfl⟩) hH (fun v MC' H locs hpost hH ho' => ?_)
  refine W.eq (g2 := F0 mi 6 ls []) rfl ?_
  refine lv_goto (tgt := 15) hx hb d_L_tear_6 (by decide) ?_
  refine lv_iconst (v := 0) hx hb d_L_tear_15 (by decide) ?_
  refine W.more (cells' := 1) (slots' := 6) (by decide) (by decide) ?_
  exact m_iret hx hb hr hlocks hsz hH ⟨rfl, MC', hpost, rfl, ho'⟩ d_L_tear_16
set_option maxHeartbeats 4000000 in
set_option maxRecDepth 100000 in
theorem b_L_tear_1 (l : Launch) (g : GG) (MC : MW) (o a : Nat) (f : Nat → Int64) (de mir : Nat) (x1 x2 : Int32) (fs : List Value) (ha : MC a = some (.inr (6, fs))) (ho : MC o = none) (hM : ∀ sz, vx_Met l y_H_tear (k_H_tear :: TT) { frames := 7, cells := 1, slots := 6, locals := 121 } (Pz g [.ref a, .int x1, .int x2] sz MC) QF (XE IOE) 1 6 nofree) (sz : Nat) : Met l y_L_tear (k_L_tear :: TT) { frames := 8, cells := 1, slots := 6, locals := 144 } (Pl g [.ref a, .int x1, .int x2] sz (mu MC o (oL g f)) de mir) (Qm g (mu MC o (oL g f)) (fun k : Int32 => some (.int k)) (fun k M' => k = 1 ∧ M' = mu MC o (oL g f))) 1 6 (mA (mu MC o (oL g f)) sz) := by
  refine lmet_of (by decide) (Nat.le_of_ble_eq_true rfl) ?_
  intro pr en s mi below meth co hx hb hr hml hown hlocks hT hsz hP hK hZH hZ hN htab ls hl
  have hl : lv_has ls 4 [(0, .ref a), (1, .int x1), (2, .int x2)] := hl
  have hH := HS.start hP
  refine lv_aload_n hx hb d_L_tear_0 rfl (lv_at hl 0 rfl) ?_
  refine lv_iload_n hx hb d_L_tear_1 rfl (lv_at hl 1 rfl) ?_
  refine lv_iload_n hx hb d_L_tear_2 rfl (lv_at hl 2 rfl) ?_
  refine x_run (cx_V (As := [.int x1, .int x2]) (rest := []) hx hb hml hl.1 hown hT hK (pm_in ho hP) hZH (hM _) kw_H_tear w534 w535 w536 w1 hd_H_tear rfl rfl ⟨by decide, by decide⟩ ha rfl rfl rfl (Nat.le_of_ble_eq_true rfl) d_L_tear_3 ⟨by decide, Nat.le_of_ble_eq_true rfl⟩) (fun q ce H1 hz hk hce hcv hcl => ?_)
  replace hH := hH.grow hz hk
  refine vx_catch (E := IOE) (name := IOE) hown [] ⟨0, 6, 9, 19⟩ [⟨0, 6, 12, 29⟩] (htab.trans rfl) (fun z h => by cases h) (by decide) (by decide) (hT _ w320) (va_Nw.use rfl (hK.2.1 _ nw335)) hce hcv hcl ?_
  refine W.eq (g2 := F0 mi 9 ls [.ref q]) rfl ?_
  refine lv_astore_n (lv' := [(3, .ref q), (0, .ref a), (1, .int x1), (2, .int x2)]) hx hb d_L_tear_9 rfl hl (by decide) rfl (fun ls hl => ?_)
  refine lv_iconst (v := 1) hx hb d_L_tear_10 (by decide) ?_
  refine W.more (cells' := 1) (slots' := 6) (by decide) (by decide) ?_
  exact m_iret hx hb hr hlocks hsz hH ⟨rfl, rfl⟩ d_L_tear_11
set_option maxHeartbeats 4000000 in
set_option maxRecDepth 100000 in
theorem b_L_tear_2 (l : Launch) (g : GG) (MC : MW) (o a : Nat) (f : Nat → Int64) (de mir : Nat) (x1 x2 : Int32) (fs : List Value) (ha : MC a = some (.inr (6, fs))) (ho : MC o = none) (hM : ∀ sz, vx_Met l y_H_tear (k_H_tear :: TT) { frames := 7, cells := 1, slots := 6, locals := 121 } (Pz g [.ref a, .int x1, .int x2] sz MC) QF (XE IAE) 1 6 nofree) (sz : Nat) : Met l y_L_tear (k_L_tear :: TT) { frames := 8, cells := 1, slots := 6, locals := 144 } (Pl g [.ref a, .int x1, .int x2] sz (mu MC o (oL g f)) de mir) (Qm g (mu MC o (oL g f)) (fun k : Int32 => some (.int k)) (fun k M' => k = 2 ∧ M' = mu MC o (oL g f))) 1 6 (mA (mu MC o (oL g f)) sz) := by
  refine lmet_of (by decide) (Nat.le_of_ble_eq_true rfl) ?_
  intro pr en s mi below meth co hx hb hr hml hown hlocks hT hsz hP hK hZH hZ hN htab ls hl
  have hl : lv_has ls 4 [(0, .ref a), (1, .int x1), (2, .int x2)] := hl
  have hH := HS.start hP
  refine lv_aload_n hx hb d_L_tear_0 rfl (lv_at hl 0 rfl) ?_
  refine lv_iload_n hx hb d_L_tear_1 rfl (lv_at hl 1 rfl) ?_
  refine lv_iload_n hx hb d_L_tear_2 rfl (lv_at hl 2 rfl) ?_
  refine x_run (cx_V (As := [.int x1, .int x2]) (rest := []) hx hb hml hl.1 hown hT hK (pm_in ho hP) hZH (hM _) kw_H_tear w534 w535 w536 w1 hd_H_tear rfl rfl ⟨by decide, by decide⟩ ha rfl rfl rfl (Nat.le_of_ble_eq_true rfl) d_L_tear_3 ⟨by decide, Nat.le_of_ble_eq_true rfl⟩) (fun q ce H1 hz hk hce hcv hcl => ?_)
  replace hH := hH.grow hz hk
  refine vx_catch (E := IAE) (name := IAE) hown [⟨0, 6, 9, 19⟩] ⟨0, 6, 12, 29⟩ [] (htab.trans rfl) (fun z hz => by
      simp only [List.mem_cons, List.not_mem_nil, or_false] at hz
      rcases hz with rfl
      · exact Or.inr ⟨by decide, _, hT _ w320, hN.1⟩) (by decide) (by decide) (hT _ w444) (va_Nw.use rfl (hK.2.1 _ nw460)) hce hcv hcl ?_
  refine W.eq (g2 := F0 mi 12 ls [.ref q]) rfl ?_
  refine lv_astore_n (lv' := [(3, .ref q), (0, .ref a), (1, .int x1), (2, .int x2)]) hx hb d_L_tear_12 rfl hl (by decide) rfl (fun ls hl => ?_)
  refine lv_iconst (v := 2) hx hb d_L_tear_13 (by decide) ?_
  refine W.more (cells' := 1) (slots' := 6) (by decide) (by decide) ?_
  exact m_iret hx hb hr hlocks hsz hH ⟨rfl, rfl⟩ d_L_tear_14
set_option maxHeartbeats 4000000 in
set_option maxRecDepth 100000 in
theorem g_L_written (l : Launch) (g : GG) (MC : MW) (o a : Nat) (f : Nat → Int64) (de mir : Nat) (x1 : Int32) (fs : List Value) (ha : MC a = some (.inr (6, fs))) (ho : MC o = none) (post : Int32 → MW → Prop) (hM : ∀ sz, Met l y_H_written (k_H_written :: TT) { frames := 7, cells := 0, slots := 0, locals := 121 } (Pd g [.ref a, .int x1] sz MC de mir) (Qm g MC (fun r : Int32 => some (.int r)) post) 0 0 (mA MC sz)) (sz : Nat) : Met l y_L_written (k_L_written :: TT) { frames := 8, cells := 1, slots := 6, locals := 142 } (Pl g [.ref a, .int x1, .ref o] sz (mu MC o (oL g f)) de mir) (Qm g (mu MC o (oL g f)) (fun k : Int32 => some (.int k)) (fun k M' => k = 0 ∧ ∃ (v : Int32) (MC' : MW) (f' : Nat → Int64), post v MC' ∧ M' = mu MC' o (oL g f') ∧ MC' o = none ∧ f' 0 = v.toInt64)) 1 6 (mA (mu MC o (oL g f)) sz) := by
  refine lmet_of (by decide) (Nat.le_of_ble_eq_true rfl) ?_
  intro pr en s mi below meth co hx hb hr hml hown hlocks hT hsz hP hK hZH hZ hN htab ls hl
  have hl : lv_has ls 4 [(0, .ref a), (1, .int x1), (2, .ref o)] := hl
  have hH := HS.start hP
  refine lv_aload_n hx hb d_L_written_0 rfl (lv_at hl 2 rfl) ?_
  refine lv_iconst (v := 0) hx hb d_L_written_1 (by decide) ?_
  refine lv_aload_n hx hb d_L_written_2 rfl (lv_at hl 0 rfl) ?_
  refine lv_iload_n hx hb d_L_written_3 rfl (lv_at hl 1 rfl) ?_
  refine m_runO ho (d_V (As := [.int x1]) (rest := [.int 0, .ref o]) hx hb hml hl.1 hown hT hK (pm_in ho hH.1) (dd_in (dd_of hH hZ)) (hM _) kw_H_written w542 w543 w544 w1 hd_H_written rfl rfl ⟨by decide, by decide⟩ ha rfl rfl rfl (Nat.le_of_ble_eq_true rfl) d_L_written_4 ⟨by decide, Nat.le_of_ble_eq_true rfl⟩) hH (fun v MC' H locs hpost hH ho' => ?_)
  refine W.eq (g2 := F0 mi 7 ls [.int v, .int 0, .ref o]) rfl ?_
  refine lv_i2l (v := v.toInt64) hx hb d_L_written_7 rfl ?_
  refine m_last hx hb hK hH 3 (show mu MC' o (oL g f) o = some (.inl (g.2 3, 1, .inr (.inl f))) from mu_s) rfl (j := 0) rfl (by decide) (by decide) d_L_written_8 (fun H locs hH hzz => ?_)
  rw [mu_mu2] at hH
  refine lv_goto (tgt := 15) hx hb d_L_written_9 (by decide) ?_
  refine lv_iconst (v := 0) hx hb d_L_written_15 (by decide) ?_
  refine W.more (cells' := 1) (slots' := 6) (by decide) (by decide) ?_
  exact m_iret hx hb hr hlocks hsz hH ⟨rfl, v, MC', vp_updL f 0 (v.toInt64), hpost, rfl, ho', if_pos rfl⟩ d_L_written_16
set_option maxHeartbeats 4000000 in
set_option maxRecDepth 100000 in
theorem b_L_written_1 (l : Launch) (g : GG) (MC : MW) (o a : Nat) (f : Nat → Int64) (de mir : Nat) (x1 : Int32) (fs : List Value) (ha : MC a = some (.inr (6, fs))) (ho : MC o = none) (hM : ∀ sz, vx_Met l y_H_written (k_H_written :: TT) { frames := 7, cells := 1, slots := 6, locals := 121 } (Pz g [.ref a, .int x1] sz MC) QF (XE IOE) 1 6 nofree) (sz : Nat) : Met l y_L_written (k_L_written :: TT) { frames := 8, cells := 1, slots := 6, locals := 142 } (Pl g [.ref a, .int x1, .ref o] sz (mu MC o (oL g f)) de mir) (Qm g (mu MC o (oL g f)) (fun k : Int32 => some (.int k)) (fun k M' => k = 1 ∧ M' = mu MC o (oL g f))) 1 6 (mA (mu MC o (oL g f)) sz) := by
  refine lmet_of (by decide) (Nat.le_of_ble_eq_true rfl) ?_
  intro pr en s mi below meth co hx hb hr hml hown hlocks hT hsz hP hK hZH hZ hN htab ls hl
  have hl : lv_has ls 4 [(0, .ref a), (1, .int x1), (2, .ref o)] := hl
  have hH := HS.start hP
  refine lv_aload_n hx hb d_L_written_0 rfl (lv_at hl 2 rfl) ?_
  refine lv_iconst (v := 0) hx hb d_L_written_1 (by decide) ?_
  refine lv_aload_n hx hb d_L_written_2 rfl (lv_at hl 0 rfl) ?_
  refine lv_iload_n hx hb d_L_written_3 rfl (lv_at hl 1 rfl) ?_
  refine x_run (cx_V (As := [.int x1]) (rest := [.int 0, .ref o]) hx hb hml hl.1 hown hT hK (pm_in ho hP) hZH (hM _) kw_H_written w542 w543 w544 w1 hd_H_written rfl rfl ⟨by decide, by decide⟩ ha rfl rfl rfl (Nat.le_of_ble_eq_true rfl) d_L_written_4 ⟨by decide, Nat.le_of_ble_eq_true rfl⟩) (fun q ce H1 hz hk hce hcv hcl => ?_)
  replace hH := hH.grow hz hk
  refine vx_catch (E := IOE) (name := IOE) hown [] ⟨0, 9, 12, 19⟩ [] (htab.trans rfl) (fun z h => by cases h) (by decide) (by decide) (hT _ w320) (va_Nw.use rfl (hK.2.1 _ nw335)) hce hcv hcl ?_
  refine W.eq (g2 := F0 mi 12 ls [.ref q]) rfl ?_
  refine lv_astore_n (lv' := [(3, .ref q), (0, .ref a), (1, .int x1), (2, .ref o)]) hx hb d_L_written_12 rfl hl (by decide) rfl (fun ls hl => ?_)
  refine lv_iconst (v := 1) hx hb d_L_written_13 (by decide) ?_
  refine W.more (cells' := 1) (slots' := 6) (by decide) (by decide) ?_
  exact m_iret hx hb hr hlocks hsz hH ⟨rfl, rfl⟩ d_L_written_14
set_option maxHeartbeats 4000000 in
set_option maxRecDepth 100000 in
theorem g_L_word (l : Launch) (g : GG) (MC : MW) (o a : Nat) (f : Nat → Int64) (de mir : Nat) (x1 x2 x3 : Int32) (fs : List Value) (ha : MC a = some (.inr (6, fs))) (ho : MC o = none) (post : Int32 → MW → Prop) (hM : ∀ sz, Met l y_H_word (k_H_word :: TT) { frames := 7, cells := 0, slots := 0, locals := 121 } (Pd g [.ref a, .int x1, .int x2, .int x3] sz MC de mir) (Qm g MC (fun r : Int32 => some (.int r)) post) 0 0 (mA MC sz)) (sz : Nat) : Met l y_L_word (k_L_word :: TT) { frames := 8, cells := 1, slots := 6, locals := 145 } (Pl g [.ref a, .int x1, .int x2, .int x3, .ref o] sz (mu MC o (oL g f)) de mir) (Qm g (mu MC o (oL g f)) (fun k : Int32 => some (.int k)) (fun k M' => k = 0 ∧ ∃ (v : Int32) (MC' : MW) (f' : Nat → Int64), post v MC' ∧ M' = mu MC' o (oL g f') ∧ MC' o = none ∧ f' 0 = v.toInt64)) 1 6 (mA (mu MC o (oL g f)) sz) := by
  refine lmet_of (by decide) (Nat.le_of_ble_eq_true rfl) ?_
  intro pr en s mi below meth co hx hb hr hml hown hlocks hT hsz hP hK hZH hZ hN htab ls hl
  have hl : lv_has ls 6 [(0, .ref a), (1, .int x1), (2, .int x2), (3, .int x3), (4, .ref o)] := hl
  have hH := HS.start hP
  refine lv_aload hx hb d_L_word_0 (lv_at hl 4 rfl) ?_
  refine lv_iconst (v := 0) hx hb d_L_word_2 (by decide) ?_
  refine lv_aload_n hx hb d_L_word_3 rfl (lv_at hl 0 rfl) ?_
  refine lv_iload_n hx hb d_L_word_4 rfl (lv_at hl 1 rfl) ?_
  refine lv_iload_n hx hb d_L_word_5 rfl (lv_at hl 2 rfl) ?_
  refine lv_iload_n hx hb d_L_word_6 rfl (lv_at hl 3 rfl) ?_
  refine m_runO ho (d_V (As := [.int x1, .int x2, .int x3]) (rest := [.int 0, .ref o]) hx hb hml hl.1 hown hT hK (pm_in ho hH.1) (dd_in (dd_of hH hZ)) (hM _) kw_H_word w549 w550 w551 w1 hd_H_word rfl rfl ⟨by decide, by decide⟩ ha rfl rfl rfl (Nat.le_of_ble_eq_true rfl) d_L_word_7 ⟨by decide, Nat.le_of_ble_eq_true rfl⟩) hH (fun v MC' H locs hpost hH ho' => ?_)
  refine W.eq (g2 := F0 mi 10 ls [.int v, .int 0, .ref o]) rfl ?_
  refine lv_i2l (v := v.toInt64) hx hb d_L_word_10 rfl ?_
  refine m_last hx hb hK hH 3 (show mu MC' o (oL g f) o = some (.inl (g.2 3, 1, .inr (.inl f))) from mu_s) rfl (j := 0) rfl (by decide) (by decide) d_L_word_11 (fun H locs hH hzz => ?_)
  rw [mu_mu2] at hH
  refine lv_goto (tgt := 19) hx hb d_L_word_12 (by decide) ?_
  refine lv_iconst (v := 0) hx hb d_L_word_19 (by decide) ?_
  refine W.more (cells' := 1) (slots' := 6) (by decide) (by decide) ?_
  exact m_iret hx hb hr hlocks hsz hH ⟨rfl, v, MC', vp_updL f 0 (v.toInt64), hpost, rfl, ho', if_pos rfl⟩ d_L_word_20
set_option maxHeartbeats 4000000 in
set_option maxRecDepth 100000 in
theorem b_L_word_1 (l : Launch) (g : GG) (MC : MW) (o a : Nat) (f : Nat → Int64) (de mir : Nat) (x1 x2 x3 : Int32) (fs : List Value) (ha : MC a = some (.inr (6, fs))) (ho : MC o = none) (hM : ∀ sz, vx_Met l y_H_word (k_H_word :: TT) { frames := 7, cells := 1, slots := 6, locals := 121 } (Pz g [.ref a, .int x1, .int x2, .int x3] sz MC) QF (XE IOE) 1 6 nofree) (sz : Nat) : Met l y_L_word (k_L_word :: TT) { frames := 8, cells := 1, slots := 6, locals := 145 } (Pl g [.ref a, .int x1, .int x2, .int x3, .ref o] sz (mu MC o (oL g f)) de mir) (Qm g (mu MC o (oL g f)) (fun k : Int32 => some (.int k)) (fun k M' => k = 1 ∧ M' = mu MC o (oL g f))) 1 6 (mA (mu MC o (oL g f)) sz) := by
  refine lmet_of (by decide) (Nat.le_of_ble_eq_true rfl) ?_
  intro pr en s mi below meth co hx hb hr hml hown hlocks hT hsz hP hK hZH hZ hN htab ls hl
  have hl : lv_has ls 6 [(0, .ref a), (1, .int x1), (2, .int x2), (3, .int x3), (4, .ref o)] := hl
  have hH := HS.start hP
  refine lv_aload hx hb d_L_word_0 (lv_at hl 4 rfl) ?_
  refine lv_iconst (v := 0) hx hb d_L_word_2 (by decide) ?_
  refine lv_aload_n hx hb d_L_word_3 rfl (lv_at hl 0 rfl) ?_
  refine lv_iload_n hx hb d_L_word_4 rfl (lv_at hl 1 rfl) ?_
  refine lv_iload_n hx hb d_L_word_5 rfl (lv_at hl 2 rfl) ?_
  refine lv_iload_n hx hb d_L_word_6 rfl (lv_at hl 3 rfl) ?_
  refine x_run (cx_V (As := [.int x1, .int x2, .int x3]) (rest := [.int 0, .ref o]) hx hb hml hl.1 hown hT hK (pm_in ho hP) hZH (hM _) kw_H_word w549 w550 w551 w1 hd_H_word rfl rfl ⟨by decide, by decide⟩ ha rfl rfl rfl (Nat.le_of_ble_eq_true rfl) d_L_word_7 ⟨by decide, Nat.le_of_ble_eq_true rfl⟩) (fun q ce H1 hz hk hce hcv hcl => ?_)
  replace hH := hH.grow hz hk
  refine vx_catch (E := IOE) (name := IOE) hown [] ⟨0, 12, 15, 19⟩ [] (htab.trans rfl) (fun z h => by cases h) (by decide) (by decide) (hT _ w320) (va_Nw.use rfl (hK.2.1 _ nw335)) hce hcv hcl ?_
  refine W.eq (g2 := F0 mi 15 ls [.ref q]) rfl ?_
  refine lv_astore (lv' := [(5, .ref q), (0, .ref a), (1, .int x1), (2, .int x2), (3, .int x3), (4, .ref o)]) hx hb d_L_word_15 hl (by decide) rfl (fun ls hl => ?_)
  refine lv_iconst (v := 1) hx hb d_L_word_17 (by decide) ?_
  refine W.more (cells' := 1) (slots' := 6) (by decide) (by decide) ?_
  exact m_iret hx hb hr hlocks hsz hH ⟨rfl, rfl⟩ d_L_word_18
set_option maxHeartbeats 4000000 in
set_option maxRecDepth 100000 in
theorem g_L_carries (l : Launch) (g : GG) (MC : MW) (o a : Nat) (f : Nat → Int64) (de mir : Nat) (x1 x2 : Int32) (fs : List Value) (ha : MC a = some (.inr (6, fs))) (ho : MC o = none) (post : Int32 → MW → Prop) (hM : ∀ sz, Met l y_H_carries (k_H_carries :: TT) { frames := 7, cells := 0, slots := 0, locals := 121 } (Pd g [.ref a, .int x1, .int x2] sz MC de mir) (Qm g MC (fun r : Int32 => some (.int r)) post) 0 0 (mA MC sz)) (sz : Nat) : Met l y_L_carries (k_L_carries :: TT) { frames := 8, cells := 1, slots := 6, locals := 144 } (Pl g [.ref a, .int x1, .int x2, .ref o] sz (mu MC o (oL g f)) de mir) (Qm g (mu MC o (oL g f)) (fun k : Int32 => some (.int k)) (fun k M' => k = 0 ∧ ∃ (v : Int32) (MC' : MW) (f' : Nat → Int64), post v MC' ∧ M' = mu MC' o (oL g f') ∧ MC' o = none ∧ f' 0 = v.toInt64)) 1 6 (mA (mu MC o (oL g f)) sz) := by
  refine lmet_of (by decide) (Nat.le_of_ble_eq_true rfl) ?_
  intro pr en s mi below meth co hx hb hr hml hown hlocks hT hsz hP hK hZH hZ hN htab ls hl
  have hl : lv_has ls 5 [(0, .ref a), (1, .int x1), (2, .int x2), (3, .ref o)] := hl
  have hH := HS.start hP
  refine lv_aload_n hx hb d_L_carries_0 rfl (lv_at hl 3 rfl) ?_
  refine lv_iconst (v := 0) hx hb d_L_carries_1 (by decide) ?_
  refine lv_aload_n hx hb d_L_carries_2 rfl (lv_at hl 0 rfl) ?_
  refine lv_iload_n hx hb d_L_carries_3 rfl (lv_at hl 1 rfl) ?_
  refine lv_iload_n hx hb d_L_carries_4 rfl (lv_at hl 2 rfl) ?_
  refine m_runO ho (d_V (As := [.int x1, .int x2]) (rest := [.int 0, .ref o]) hx hb hml hl.1 hown hT hK (pm_in ho hH.1) (dd_in (dd_of hH hZ)) (hM _) kw_H_carries w559 w560 w561 w1 hd_H_carries rfl rfl ⟨by decide, by decide⟩ ha rfl rfl rfl (Nat.le_of_ble_eq_true rfl) d_L_carries_5 ⟨by decide, Nat.le_of_ble_eq_true rfl⟩) hH (fun v MC' H locs hpost hH ho' => ?_)
  refine W.eq (g2 := F0 mi 8 ls [.int v, .int 0, .ref o]) rfl ?_
  refine lv_i2l (v := v.toInt64) hx hb d_L_carries_8 rfl ?_
  refine m_last hx hb hK hH 3 (show mu MC' o (oL g f) o = some (.inl (g.2 3, 1, .inr (.inl f))) from mu_s) rfl (j := 0) rfl (by decide) (by decide) d_L_carries_9 (fun H locs hH hzz => ?_)
  rw [mu_mu2] at hH
  refine lv_goto (tgt := 21) hx hb d_L_carries_10 (by decide) ?_
  refine lv_iconst (v := 0) hx hb d_L_carries_21 (by decide) ?_
  refine W.more (cells' := 1) (slots' := 6) (by decide) (by decide) ?_
  exact m_iret hx hb hr hlocks hsz hH ⟨rfl, v, MC', vp_updL f 0 (v.toInt64), hpost, rfl, ho', if_pos rfl⟩ d_L_carries_22
set_option maxHeartbeats 4000000 in
set_option maxRecDepth 100000 in
theorem b_L_carries_1 (l : Launch) (g : GG) (MC : MW) (o a : Nat) (f : Nat → Int64) (de mir : Nat) (x1 x2 : Int32) (fs : List Value) (ha : MC a = some (.inr (6, fs))) (ho : MC o = none) (hM : ∀ sz, vx_Met l y_H_carries (k_H_carries :: TT) { frames := 7, cells := 1, slots := 6, locals := 121 } (Pz g [.ref a, .int x1, .int x2] sz MC) QF (XE IOE) 1 6 nofree) (sz : Nat) : Met l y_L_carries (k_L_carries :: TT) { frames := 8, cells := 1, slots := 6, locals := 144 } (Pl g [.ref a, .int x1, .int x2, .ref o] sz (mu MC o (oL g f)) de mir) (Qm g (mu MC o (oL g f)) (fun k : Int32 => some (.int k)) (fun k M' => k = 1 ∧ M' = mu MC o (oL g f))) 1 6 (mA (mu MC o (oL g f)) sz) := by
  refine lmet_of (by decide) (Nat.le_of_ble_eq_true rfl) ?_
  intro pr en s mi below meth co hx hb hr hml hown hlocks hT hsz hP hK hZH hZ hN htab ls hl
  have hl : lv_has ls 5 [(0, .ref a), (1, .int x1), (2, .int x2), (3, .ref o)] := hl
  have hH := HS.start hP
  refine lv_aload_n hx hb d_L_carries_0 rfl (lv_at hl 3 rfl) ?_
  refine lv_iconst (v := 0) hx hb d_L_carries_1 (by decide) ?_
  refine lv_aload_n hx hb d_L_carries_2 rfl (lv_at hl 0 rfl) ?_
  refine lv_iload_n hx hb d_L_carries_3 rfl (lv_at hl 1 rfl) ?_
  refine lv_iload_n hx hb d_L_carries_4 rfl (lv_at hl 2 rfl) ?_
  refine x_run (cx_V (As := [.int x1, .int x2]) (rest := [.int 0, .ref o]) hx hb hml hl.1 hown hT hK (pm_in ho hP) hZH (hM _) kw_H_carries w559 w560 w561 w1 hd_H_carries rfl rfl ⟨by decide, by decide⟩ ha rfl rfl rfl (Nat.le_of_ble_eq_true rfl) d_L_carries_5 ⟨by decide, Nat.le_of_ble_eq_true rfl⟩) (fun q ce H1 hz hk hce hcv hcl => ?_)
  replace hH := hH.grow hz hk
  refine vx_catch (E := IOE) (name := IOE) hown [] ⟨0, 10, 13, 19⟩ [⟨0, 10, 17, 29⟩] (htab.trans rfl) (fun z h => by cases h) (by decide) (by decide) (hT _ w320) (va_Nw.use rfl (hK.2.1 _ nw335)) hce hcv hcl ?_
  refine W.eq (g2 := F0 mi 13 ls [.ref q]) rfl ?_
  refine lv_astore (lv' := [(4, .ref q), (0, .ref a), (1, .int x1), (2, .int x2), (3, .ref o)]) hx hb d_L_carries_13 hl (by decide) rfl (fun ls hl => ?_)
  refine lv_iconst (v := 1) hx hb d_L_carries_15 (by decide) ?_
  refine W.more (cells' := 1) (slots' := 6) (by decide) (by decide) ?_
  exact m_iret hx hb hr hlocks hsz hH ⟨rfl, rfl⟩ d_L_carries_16
set_option maxHeartbeats 4000000 in
set_option maxRecDepth 100000 in
theorem b_L_carries_2 (l : Launch) (g : GG) (MC : MW) (o a : Nat) (f : Nat → Int64) (de mir : Nat) (x1 x2 : Int32) (fs : List Value) (ha : MC a = some (.inr (6, fs))) (ho : MC o = none) (hM : ∀ sz, vx_Met l y_H_carries (k_H_carries :: TT) { frames := 7, cells := 1, slots := 6, locals := 121 } (Pz g [.ref a, .int x1, .int x2] sz MC) QF (XE IAE) 1 6 nofree) (sz : Nat) : Met l y_L_carries (k_L_carries :: TT) { frames := 8, cells := 1, slots := 6, locals := 144 } (Pl g [.ref a, .int x1, .int x2, .ref o] sz (mu MC o (oL g f)) de mir) (Qm g (mu MC o (oL g f)) (fun k : Int32 => some (.int k)) (fun k M' => k = 2 ∧ M' = mu MC o (oL g f))) 1 6 (mA (mu MC o (oL g f)) sz) := by
  refine lmet_of (by decide) (Nat.le_of_ble_eq_true rfl) ?_
  intro pr en s mi below meth co hx hb hr hml hown hlocks hT hsz hP hK hZH hZ hN htab ls hl
  have hl : lv_has ls 5 [(0, .ref a), (1, .int x1), (2, .int x2), (3, .ref o)] := hl
  have hH := HS.start hP
  refine lv_aload_n hx hb d_L_carries_0 rfl (lv_at hl 3 rfl) ?_
  refine lv_iconst (v := 0) hx hb d_L_carries_1 (by decide) ?_
  refine lv_aload_n hx hb d_L_carries_2 rfl (lv_at hl 0 rfl) ?_
  refine lv_iload_n hx hb d_L_carries_3 rfl (lv_at hl 1 rfl) ?_
  refine lv_iload_n hx hb d_L_carries_4 rfl (lv_at hl 2 rfl) ?_
  refine x_run (cx_V (As := [.int x1, .int x2]) (rest := [.int 0, .ref o]) hx hb hml hl.1 hown hT hK (pm_in ho hP) hZH (hM _) kw_H_carries w559 w560 w561 w1 hd_H_carries rfl rfl ⟨by decide, by decide⟩ ha rfl rfl rfl (Nat.le_of_ble_eq_true rfl) d_L_carries_5 ⟨by decide, Nat.le_of_ble_eq_true rfl⟩) (fun q ce H1 hz hk hce hcv hcl => ?_)
  replace hH := hH.grow hz hk
  refine vx_catch (E := IAE) (name := IAE) hown [⟨0, 10, 13, 19⟩] ⟨0, 10, 17, 29⟩ [] (htab.trans rfl) (fun z hz => by
      simp only [List.mem_cons, List.not_mem_nil, or_false] at hz
      rcases hz with rfl
      · exact Or.inr ⟨by decide, _, hT _ w320, hN.1⟩) (by decide) (by decide) (hT _ w444) (va_Nw.use rfl (hK.2.1 _ nw460)) hce hcv hcl ?_
  refine W.eq (g2 := F0 mi 17 ls [.ref q]) rfl ?_
  refine lv_astore (lv' := [(4, .ref q), (0, .ref a), (1, .int x1), (2, .int x2), (3, .ref o)]) hx hb d_L_carries_17 hl (by decide) rfl (fun ls hl => ?_)
  refine lv_iconst (v := 2) hx hb d_L_carries_19 (by decide) ?_
  refine W.more (cells' := 1) (slots' := 6) (by decide) (by decide) ?_
  exact m_iret hx hb hr hlocks hsz hH ⟨rfl, rfl⟩ d_L_carries_20
set_option maxHeartbeats 4000000 in
set_option maxRecDepth 100000 in
theorem g_L_memory (l : Launch) (g : GG) (MC : MW) (o a : Nat) (f : Nat → Int64) (de mir : Nat) (x1 x2 : Int32) (fs : List Value) (ha : MC a = some (.inr (6, fs))) (ho : MC o = none) (post : Int32 → MW → Prop) (hM : ∀ sz, Met l y_H_memory (k_H_memory :: TT) { frames := 7, cells := 0, slots := 0, locals := 121 } (Pd g [.ref a, .int x1, .int x2] sz MC de mir) (Qm g MC (fun r : Int32 => some (.int r)) post) 0 0 (mA MC sz)) (sz : Nat) : Met l y_L_memory (k_L_memory :: TT) { frames := 8, cells := 1, slots := 6, locals := 144 } (Pl g [.ref a, .int x1, .int x2, .ref o] sz (mu MC o (oL g f)) de mir) (Qm g (mu MC o (oL g f)) (fun k : Int32 => some (.int k)) (fun k M' => k = 0 ∧ ∃ (v : Int32) (MC' : MW) (f' : Nat → Int64), post v MC' ∧ M' = mu MC' o (oL g f') ∧ MC' o = none ∧ f' 0 = v.toInt64)) 1 6 (mA (mu MC o (oL g f)) sz) := by
  refine lmet_of (by decide) (Nat.le_of_ble_eq_true rfl) ?_
  intro pr en s mi below meth co hx hb hr hml hown hlocks hT hsz hP hK hZH hZ hN htab ls hl
  have hl : lv_has ls 5 [(0, .ref a), (1, .int x1), (2, .int x2), (3, .ref o)] := hl
  have hH := HS.start hP
  refine lv_aload_n hx hb d_L_memory_0 rfl (lv_at hl 3 rfl) ?_
  refine lv_iconst (v := 0) hx hb d_L_memory_1 (by decide) ?_
  refine lv_aload_n hx hb d_L_memory_2 rfl (lv_at hl 0 rfl) ?_
  refine lv_iload_n hx hb d_L_memory_3 rfl (lv_at hl 1 rfl) ?_
  refine lv_iload_n hx hb d_L_memory_4 rfl (lv_at hl 2 rfl) ?_
  refine m_runO ho (d_V (As := [.int x1, .int x2]) (rest := [.int 0, .ref o]) hx hb hml hl.1 hown hT hK (pm_in ho hH.1) (dd_in (dd_of hH hZ)) (hM _) kw_H_memory w569 w570 w571 w1 hd_H_memory rfl rfl ⟨by decide, by decide⟩ ha rfl rfl rfl (Nat.le_of_ble_eq_true rfl) d_L_memory_5 ⟨by decide, Nat.le_of_ble_eq_true rfl⟩) hH (fun v MC' H locs hpost hH ho' => ?_)
  refine W.eq (g2 := F0 mi 8 ls [.int v, .int 0, .ref o]) rfl ?_
  refine lv_i2l (v := v.toInt64) hx hb d_L_memory_8 rfl ?_
  refine m_last hx hb hK hH 3 (show mu MC' o (oL g f) o = some (.inl (g.2 3, 1, .inr (.inl f))) from mu_s) rfl (j := 0) rfl (by decide) (by decide) d_L_memory_9 (fun H locs hH hzz => ?_)
  rw [mu_mu2] at hH
  refine lv_goto (tgt := 17) hx hb d_L_memory_10 (by decide) ?_
  refine lv_iconst (v := 0) hx hb d_L_memory_17 (by decide) ?_
  refine W.more (cells' := 1) (slots' := 6) (by decide) (by decide) ?_
  exact m_iret hx hb hr hlocks hsz hH ⟨rfl, v, MC', vp_updL f 0 (v.toInt64), hpost, rfl, ho', if_pos rfl⟩ d_L_memory_18
set_option maxHeartbeats 4000000 in
set_option maxRecDepth 100000 in
theorem b_L_memory_1 (l : Launch) (g : GG) (MC : MW) (o a : Nat) (f : Nat → Int64) (de mir : Nat) (x1 x2 : Int32) (fs : List Value) (ha : MC a = some (.inr (6, fs))) (ho : MC o = none) (hM : ∀ sz, vx_Met l y_H_memory (k_H_memory :: TT) { frames := 7, cells := 1, slots := 6, locals := 121 } (Pz g [.ref a, .int x1, .int x2] sz MC) QF (XE IOE) 1 6 nofree) (sz : Nat) : Met l y_L_memory (k_L_memory :: TT) { frames := 8, cells := 1, slots := 6, locals := 144 } (Pl g [.ref a, .int x1, .int x2, .ref o] sz (mu MC o (oL g f)) de mir) (Qm g (mu MC o (oL g f)) (fun k : Int32 => some (.int k)) (fun k M' => k = 1 ∧ M' = mu MC o (oL g f))) 1 6 (mA (mu MC o (oL g f)) sz) := by
  refine lmet_of (by decide) (Nat.le_of_ble_eq_true rfl) ?_
  intro pr en s mi below meth co hx hb hr hml hown hlocks hT hsz hP hK hZH hZ hN htab ls hl
  have hl : lv_has ls 5 [(0, .ref a), (1, .int x1), (2, .int x2), (3, .ref o)] := hl
  have hH := HS.start hP
  refine lv_aload_n hx hb d_L_memory_0 rfl (lv_at hl 3 rfl) ?_
  refine lv_iconst (v := 0) hx hb d_L_memory_1 (by decide) ?_
  refine lv_aload_n hx hb d_L_memory_2 rfl (lv_at hl 0 rfl) ?_
  refine lv_iload_n hx hb d_L_memory_3 rfl (lv_at hl 1 rfl) ?_
  refine lv_iload_n hx hb d_L_memory_4 rfl (lv_at hl 2 rfl) ?_
  refine x_run (cx_V (As := [.int x1, .int x2]) (rest := [.int 0, .ref o]) hx hb hml hl.1 hown hT hK (pm_in ho hP) hZH (hM _) kw_H_memory w569 w570 w571 w1 hd_H_memory rfl rfl ⟨by decide, by decide⟩ ha rfl rfl rfl (Nat.le_of_ble_eq_true rfl) d_L_memory_5 ⟨by decide, Nat.le_of_ble_eq_true rfl⟩) (fun q ce H1 hz hk hce hcv hcl => ?_)
  replace hH := hH.grow hz hk
  refine vx_catch (E := IOE) (name := IOE) hown [] ⟨0, 10, 13, 19⟩ [] (htab.trans rfl) (fun z h => by cases h) (by decide) (by decide) (hT _ w320) (va_Nw.use rfl (hK.2.1 _ nw335)) hce hcv hcl ?_
  refine W.eq (g2 := F0 mi 13 ls [.ref q]) rfl ?_
  refine lv_astore (lv' := [(4, .ref q), (0, .ref a), (1, .int x1), (2, .int x2), (3, .ref o)]) hx hb d_L_memory_13 hl (by decide) rfl (fun ls hl => ?_)
  refine lv_iconst (v := 1) hx hb d_L_memory_15 (by decide) ?_
  refine W.more (cells' := 1) (slots' := 6) (by decide) (by decide) ?_
  exact m_iret hx hb hr hlocks hsz hH ⟨rfl, rfl⟩ d_L_memory_16
set_option maxHeartbeats 4000000 in
set_option maxRecDepth 100000 in
theorem g_L_about (l : Launch) (g : GG) (MC : MW) (o a : Nat) (f : Nat → Int64) (de mir : Nat) (x1 x2 : Int32) (fs : List Value) (ha : MC a = some (.inr (6, fs))) (ho : MC o = none) (post : Int32 → MW → Prop) (hM : ∀ sz, Met l y_H_about (k_H_about :: TT) { frames := 7, cells := 0, slots := 0, locals := 153 } (Pd g [.ref a, .int x1, .int x2] sz MC de mir) (Qm g MC (fun r : Int32 => some (.int r)) post) 0 0 (mA MC sz)) (sz : Nat) : Met l y_L_about (k_L_about :: TT) { frames := 8, cells := 1, slots := 6, locals := 176 } (Pl g [.ref a, .int x1, .int x2, .ref o] sz (mu MC o (oL g f)) de mir) (Qm g (mu MC o (oL g f)) (fun k : Int32 => some (.int k)) (fun k M' => k = 0 ∧ ∃ (v : Int32) (MC' : MW) (f' : Nat → Int64), post v MC' ∧ M' = mu MC' o (oL g f') ∧ MC' o = none ∧ f' 0 = v.toInt64)) 1 6 (mA (mu MC o (oL g f)) sz) := by
  refine lmet_of (by decide) (Nat.le_of_ble_eq_true rfl) ?_
  intro pr en s mi below meth co hx hb hr hml hown hlocks hT hsz hP hK hZH hZ hN htab ls hl
  have hl : lv_has ls 5 [(0, .ref a), (1, .int x1), (2, .int x2), (3, .ref o)] := hl
  have hH := HS.start hP
  refine lv_aload_n hx hb d_L_about_0 rfl (lv_at hl 3 rfl) ?_
  refine lv_iconst (v := 0) hx hb d_L_about_1 (by decide) ?_
  refine lv_aload_n hx hb d_L_about_2 rfl (lv_at hl 0 rfl) ?_
  refine lv_iload_n hx hb d_L_about_3 rfl (lv_at hl 1 rfl) ?_
  refine lv_iload_n hx hb d_L_about_4 rfl (lv_at hl 2 rfl) ?_
  refine m_runO ho (d_V (As := [.int x1, .int x2]) (rest := [.int 0, .ref o]) hx hb hml hl.1 hown hT hK (pm_in ho hH.1) (dd_in (dd_of hH hZ)) (hM _) kw_H_about w577 w578 w579 w1 hd_H_about rfl rfl ⟨by decide, by decide⟩ ha rfl rfl rfl (Nat.le_of_ble_eq_true rfl) d_L_about_5 ⟨by decide, Nat.le_of_ble_eq_true rfl⟩) hH (fun v MC' H locs hpost hH ho' => ?_)
  refine W.eq (g2 := F0 mi 8 ls [.int v, .int 0, .ref o]) rfl ?_
  refine lv_i2l (v := v.toInt64) hx hb d_L_about_8 rfl ?_
  refine m_last hx hb hK hH 3 (show mu MC' o (oL g f) o = some (.inl (g.2 3, 1, .inr (.inl f))) from mu_s) rfl (j := 0) rfl (by decide) (by decide) d_L_about_9 (fun H locs hH hzz => ?_)
  rw [mu_mu2] at hH
  refine lv_goto (tgt := 21) hx hb d_L_about_10 (by decide) ?_
  refine lv_iconst (v := 0) hx hb d_L_about_21 (by decide) ?_
  refine W.more (cells' := 1) (slots' := 6) (by decide) (by decide) ?_
  exact m_iret hx hb hr hlocks hsz hH ⟨rfl, v, MC', vp_updL f 0 (v.toInt64), hpost, rfl, ho', if_pos rfl⟩ d_L_about_22
set_option maxHeartbeats 4000000 in
set_option maxRecDepth 100000 in
theorem b_L_about_1 (l : Launch) (g : GG) (MC : MW) (o a : Nat) (f : Nat → Int64) (de mir : Nat) (x1 x2 : Int32) (fs : List Value) (ha : MC a = some (.inr (6, fs))) (ho : MC o = none) (hM : ∀ sz, vx_Met l y_H_about (k_H_about :: TT) { frames := 7, cells := 1, slots := 6, locals := 153 } (Pz g [.ref a, .int x1, .int x2] sz MC) QF (XE IOE) 1 6 nofree) (sz : Nat) : Met l y_L_about (k_L_about :: TT) { frames := 8, cells := 1, slots := 6, locals := 176 } (Pl g [.ref a, .int x1, .int x2, .ref o] sz (mu MC o (oL g f)) de mir) (Qm g (mu MC o (oL g f)) (fun k : Int32 => some (.int k)) (fun k M' => k = 1 ∧ M' = mu MC o (oL g f))) 1 6 (mA (mu MC o (oL g f)) sz) := by
  refine lmet_of (by decide) (Nat.le_of_ble_eq_true rfl) ?_
  intro pr en s mi below meth co hx hb hr hml hown hlocks hT hsz hP hK hZH hZ hN htab ls hl
  have hl : lv_has ls 5 [(0, .ref a), (1, .int x1), (2, .int x2), (3, .ref o)] := hl
  have hH := HS.start hP
  refine lv_aload_n hx hb d_L_about_0 rfl (lv_at hl 3 rfl) ?_
  refine lv_iconst (v := 0) hx hb d_L_about_1 (by decide) ?_
  refine lv_aload_n hx hb d_L_about_2 rfl (lv_at hl 0 rfl) ?_
  refine lv_iload_n hx hb d_L_about_3 rfl (lv_at hl 1 rfl) ?_
  refine lv_iload_n hx hb d_L_about_4 rfl (lv_at hl 2 rfl) ?_
  refine x_run (cx_V (As := [.int x1, .int x2]) (rest := [.int 0, .ref o]) hx hb hml hl.1 hown hT hK (pm_in ho hP) hZH (hM _) kw_H_about w577 w578 w579 w1 hd_H_about rfl rfl ⟨by decide, by decide⟩ ha rfl rfl rfl (Nat.le_of_ble_eq_true rfl) d_L_about_5 ⟨by decide, Nat.le_of_ble_eq_true rfl⟩) (fun q ce H1 hz hk hce hcv hcl => ?_)
  replace hH := hH.grow hz hk
  refine vx_catch (E := IOE) (name := IOE) hown [] ⟨0, 10, 13, 19⟩ [⟨0, 10, 17, 29⟩] (htab.trans rfl) (fun z h => by cases h) (by decide) (by decide) (hT _ w320) (va_Nw.use rfl (hK.2.1 _ nw335)) hce hcv hcl ?_
  refine W.eq (g2 := F0 mi 13 ls [.ref q]) rfl ?_
  refine lv_astore (lv' := [(4, .ref q), (0, .ref a), (1, .int x1), (2, .int x2), (3, .ref o)]) hx hb d_L_about_13 hl (by decide) rfl (fun ls hl => ?_)
  refine lv_iconst (v := 1) hx hb d_L_about_15 (by decide) ?_
  refine W.more (cells' := 1) (slots' := 6) (by decide) (by decide) ?_
  exact m_iret hx hb hr hlocks hsz hH ⟨rfl, rfl⟩ d_L_about_16
set_option maxHeartbeats 4000000 in
set_option maxRecDepth 100000 in
theorem b_L_about_2 (l : Launch) (g : GG) (MC : MW) (o a : Nat) (f : Nat → Int64) (de mir : Nat) (x1 x2 : Int32) (fs : List Value) (ha : MC a = some (.inr (6, fs))) (ho : MC o = none) (hM : ∀ sz, vx_Met l y_H_about (k_H_about :: TT) { frames := 7, cells := 1, slots := 6, locals := 153 } (Pz g [.ref a, .int x1, .int x2] sz MC) QF (XE IAE) 1 6 nofree) (sz : Nat) : Met l y_L_about (k_L_about :: TT) { frames := 8, cells := 1, slots := 6, locals := 176 } (Pl g [.ref a, .int x1, .int x2, .ref o] sz (mu MC o (oL g f)) de mir) (Qm g (mu MC o (oL g f)) (fun k : Int32 => some (.int k)) (fun k M' => k = 2 ∧ M' = mu MC o (oL g f))) 1 6 (mA (mu MC o (oL g f)) sz) := by
  refine lmet_of (by decide) (Nat.le_of_ble_eq_true rfl) ?_
  intro pr en s mi below meth co hx hb hr hml hown hlocks hT hsz hP hK hZH hZ hN htab ls hl
  have hl : lv_has ls 5 [(0, .ref a), (1, .int x1), (2, .int x2), (3, .ref o)] := hl
  have hH := HS.start hP
  refine lv_aload_n hx hb d_L_about_0 rfl (lv_at hl 3 rfl) ?_
  refine lv_iconst (v := 0) hx hb d_L_about_1 (by decide) ?_
  refine lv_aload_n hx hb d_L_about_2 rfl (lv_at hl 0 rfl) ?_
  refine lv_iload_n hx hb d_L_about_3 rfl (lv_at hl 1 rfl) ?_
  refine lv_iload_n hx hb d_L_about_4 rfl (lv_at hl 2 rfl) ?_
  refine x_run (cx_V (As := [.int x1, .int x2]) (rest := [.int 0, .ref o]) hx hb hml hl.1 hown hT hK (pm_in ho hP) hZH (hM _) kw_H_about w577 w578 w579 w1 hd_H_about rfl rfl ⟨by decide, by decide⟩ ha rfl rfl rfl (Nat.le_of_ble_eq_true rfl) d_L_about_5 ⟨by decide, Nat.le_of_ble_eq_true rfl⟩) (fun q ce H1 hz hk hce hcv hcl => ?_)
  replace hH := hH.grow hz hk
  refine vx_catch (E := IAE) (name := IAE) hown [⟨0, 10, 13, 19⟩] ⟨0, 10, 17, 29⟩ [] (htab.trans rfl) (fun z hz => by
      simp only [List.mem_cons, List.not_mem_nil, or_false] at hz
      rcases hz with rfl
      · exact Or.inr ⟨by decide, _, hT _ w320, hN.1⟩) (by decide) (by decide) (hT _ w444) (va_Nw.use rfl (hK.2.1 _ nw460)) hce hcv hcl ?_
  refine W.eq (g2 := F0 mi 17 ls [.ref q]) rfl ?_
  refine lv_astore (lv' := [(4, .ref q), (0, .ref a), (1, .int x1), (2, .int x2), (3, .ref o)]) hx hb d_L_about_17 hl (by decide) rfl (fun ls hl => ?_)
  refine lv_iconst (v := 2) hx hb d_L_about_19 (by decide) ?_
  refine W.more (cells' := 1) (slots' := 6) (by decide) (by decide) ?_
  exact m_iret hx hb hr hlocks hsz hH ⟨rfl, rfl⟩ d_L_about_20
set_option maxHeartbeats 4000000 in
set_option maxRecDepth 100000 in
theorem g_L_run (l : Launch) (g : GG) (MC : MW) (o a : Nat) (f : Nat → Int64) (de mir : Nat) (x1 x2 x3 : Int32) (fs : List Value) (ha : MC a = some (.inr (6, fs))) (ho : MC o = none) (post : Int32 → MW → Prop) (hM : ∀ sz, Met l y_H_run (k_H_run :: TT) { frames := 7, cells := 0, slots := 0, locals := 154 } (Pd g [.ref a, .int x1, .int x2, .int x3] sz MC de mir) (Qm g MC (fun r : Int32 => some (.int r)) post) 0 0 (mA MC sz)) (sz : Nat) : Met l y_L_run (k_L_run :: TT) { frames := 8, cells := 1, slots := 6, locals := 179 } (Pl g [.ref a, .int x1, .int x2, .int x3, .ref o] sz (mu MC o (oL g f)) de mir) (Qm g (mu MC o (oL g f)) (fun k : Int32 => some (.int k)) (fun k M' => k = 0 ∧ ∃ (v : Int32) (MC' : MW) (f' : Nat → Int64), post v MC' ∧ M' = mu MC' o (oL g f') ∧ MC' o = none ∧ f' 0 = v.toInt64)) 1 6 (mA (mu MC o (oL g f)) sz) := by
  refine lmet_of (by decide) (Nat.le_of_ble_eq_true rfl) ?_
  intro pr en s mi below meth co hx hb hr hml hown hlocks hT hsz hP hK hZH hZ hN htab ls hl
  have hl : lv_has ls 6 [(0, .ref a), (1, .int x1), (2, .int x2), (3, .int x3), (4, .ref o)] := hl
  have hH := HS.start hP
  refine lv_aload hx hb d_L_run_0 (lv_at hl 4 rfl) ?_
  refine lv_iconst (v := 0) hx hb d_L_run_2 (by decide) ?_
  refine lv_aload_n hx hb d_L_run_3 rfl (lv_at hl 0 rfl) ?_
  refine lv_iload_n hx hb d_L_run_4 rfl (lv_at hl 1 rfl) ?_
  refine lv_iload_n hx hb d_L_run_5 rfl (lv_at hl 2 rfl) ?_
  refine lv_iload_n hx hb d_L_run_6 rfl (lv_at hl 3 rfl) ?_
  refine m_runO ho (d_V (As := [.int x1, .int x2, .int x3]) (rest := [.int 0, .ref o]) hx hb hml hl.1 hown hT hK (pm_in ho hH.1) (dd_in (dd_of hH hZ)) (hM _) kw_H_run w607 w608 w609 w1 hd_H_run rfl rfl ⟨by decide, by decide⟩ ha rfl rfl rfl (Nat.le_of_ble_eq_true rfl) d_L_run_7 ⟨by decide, Nat.le_of_ble_eq_true rfl⟩) hH (fun v MC' H locs hpost hH ho' => ?_)
  refine W.eq (g2 := F0 mi 10 ls [.int v, .int 0, .ref o]) rfl ?_
  refine lv_i2l (v := v.toInt64) hx hb d_L_run_10 rfl ?_
  refine m_last hx hb hK hH 3 (show mu MC' o (oL g f) o = some (.inl (g.2 3, 1, .inr (.inl f))) from mu_s) rfl (j := 0) rfl (by decide) (by decide) d_L_run_11 (fun H locs hH hzz => ?_)
  rw [mu_mu2] at hH
  refine lv_goto (tgt := 19) hx hb d_L_run_12 (by decide) ?_
  refine lv_iconst (v := 0) hx hb d_L_run_19 (by decide) ?_
  refine W.more (cells' := 1) (slots' := 6) (by decide) (by decide) ?_
  exact m_iret hx hb hr hlocks hsz hH ⟨rfl, v, MC', vp_updL f 0 (v.toInt64), hpost, rfl, ho', if_pos rfl⟩ d_L_run_20
set_option maxHeartbeats 4000000 in
set_option maxRecDepth 100000 in
theorem b_L_run_1 (l : Launch) (g : GG) (MC : MW) (o a : Nat) (f : Nat → Int64) (de mir : Nat) (x1 x2 x3 : Int32) (fs : List Value) (ha : MC a = some (.inr (6, fs))) (ho : MC o = none) (hM : ∀ sz, vx_Met l y_H_run (k_H_run :: TT) { frames := 7, cells := 1, slots := 6, locals := 154 } (Pz g [.ref a, .int x1, .int x2, .int x3] sz MC) QF (XE IOE) 1 6 nofree) (sz : Nat) : Met l y_L_run (k_L_run :: TT) { frames := 8, cells := 1, slots := 6, locals := 179 } (Pl g [.ref a, .int x1, .int x2, .int x3, .ref o] sz (mu MC o (oL g f)) de mir) (Qm g (mu MC o (oL g f)) (fun k : Int32 => some (.int k)) (fun k M' => k = 1 ∧ M' = mu MC o (oL g f))) 1 6 (mA (mu MC o (oL g f)) sz) := by
  refine lmet_of (by decide) (Nat.le_of_ble_eq_true rfl) ?_
  intro pr en s mi below meth co hx hb hr hml hown hlocks hT hsz hP hK hZH hZ hN htab ls hl
  have hl : lv_has ls 6 [(0, .ref a), (1, .int x1), (2, .int x2), (3, .int x3), (4, .ref o)] := hl
  have hH := HS.start hP
  refine lv_aload hx hb d_L_run_0 (lv_at hl 4 rfl) ?_
  refine lv_iconst (v := 0) hx hb d_L_run_2 (by decide) ?_
  refine lv_aload_n hx hb d_L_run_3 rfl (lv_at hl 0 rfl) ?_
  refine lv_iload_n hx hb d_L_run_4 rfl (lv_at hl 1 rfl) ?_
  refine lv_iload_n hx hb d_L_run_5 rfl (lv_at hl 2 rfl) ?_
  refine lv_iload_n hx hb d_L_run_6 rfl (lv_at hl 3 rfl) ?_
  refine x_run (cx_V (As := [.int x1, .int x2, .int x3]) (rest := [.int 0, .ref o]) hx hb hml hl.1 hown hT hK (pm_in ho hP) hZH (hM _) kw_H_run w607 w608 w609 w1 hd_H_run rfl rfl ⟨by decide, by decide⟩ ha rfl rfl rfl (Nat.le_of_ble_eq_true rfl) d_L_run_7 ⟨by decide, Nat.le_of_ble_eq_true rfl⟩) (fun q ce H1 hz hk hce hcv hcl => ?_)
  replace hH := hH.grow hz hk
  refine vx_catch (E := IOE) (name := IOE) hown [] ⟨0, 12, 15, 19⟩ [] (htab.trans rfl) (fun z h => by cases h) (by decide) (by decide) (hT _ w320) (va_Nw.use rfl (hK.2.1 _ nw335)) hce hcv hcl ?_
  refine W.eq (g2 := F0 mi 15 ls [.ref q]) rfl ?_
  refine lv_astore (lv' := [(5, .ref q), (0, .ref a), (1, .int x1), (2, .int x2), (3, .int x3), (4, .ref o)]) hx hb d_L_run_15 hl (by decide) rfl (fun ls hl => ?_)
  refine lv_iconst (v := 1) hx hb d_L_run_17 (by decide) ?_
  refine W.more (cells' := 1) (slots' := 6) (by decide) (by decide) ?_
  exact m_iret hx hb hr hlocks hsz hH ⟨rfl, rfl⟩ d_L_run_18
set_option maxHeartbeats 4000000 in
set_option maxRecDepth 100000 in
theorem g_L_refuses (l : Launch) (g : GG) (MC : MW) (o a : Nat) (f : Nat → Int64) (de mir : Nat) (x1 x2 : Int32) (fs : List Value) (ha : MC a = some (.inr (6, fs))) (ho : MC o = none) (post : Int32 → MW → Prop) (hM : ∀ sz, Met l y_H_refuses (k_H_refuses :: TT) { frames := 7, cells := 0, slots := 0, locals := 121 } (Pd g [.ref a, .int x1, .int x2] sz MC de mir) (Qm g MC (fun r : Int32 => some (.int r)) post) 0 0 (mA MC sz)) (sz : Nat) : Met l y_L_refuses (k_L_refuses :: TT) { frames := 8, cells := 1, slots := 6, locals := 144 } (Pl g [.ref a, .int x1, .int x2, .ref o] sz (mu MC o (oL g f)) de mir) (Qm g (mu MC o (oL g f)) (fun k : Int32 => some (.int k)) (fun k M' => k = 0 ∧ ∃ (v : Int32) (MC' : MW) (f' : Nat → Int64), post v MC' ∧ M' = mu MC' o (oL g f') ∧ MC' o = none ∧ f' 0 = if v = 0 then 0 else 1)) 1 6 (mA (mu MC o (oL g f)) sz) := by
  refine lmet_of (by decide) (Nat.le_of_ble_eq_true rfl) ?_
  intro pr en s mi below meth co hx hb hr hml hown hlocks hT hsz hP hK hZH hZ hN htab ls hl
  have hl : lv_has ls 5 [(0, .ref a), (1, .int x1), (2, .int x2), (3, .ref o)] := hl
  have hH := HS.start hP
  refine lv_aload_n hx hb d_L_refuses_0 rfl (lv_at hl 3 rfl) ?_
  refine lv_iconst (v := 0) hx hb d_L_refuses_1 (by decide) ?_
  refine lv_aload_n hx hb d_L_refuses_2 rfl (lv_at hl 0 rfl) ?_
  refine lv_iload_n hx hb d_L_refuses_3 rfl (lv_at hl 1 rfl) ?_
  refine lv_iload_n hx hb d_L_refuses_4 rfl (lv_at hl 2 rfl) ?_
  refine m_runO ho (d_V (As := [.int x1, .int x2]) (rest := [.int 0, .ref o]) hx hb hml hl.1 hown hT hK (pm_in ho hH.1) (dd_in (dd_of hH hZ)) (hM _) kw_H_refuses w620 w621 w622 w1 hd_H_refuses rfl rfl ⟨by decide, by decide⟩ ha rfl rfl rfl (Nat.le_of_ble_eq_true rfl) d_L_refuses_5 ⟨by decide, Nat.le_of_ble_eq_true rfl⟩) hH (fun v MC' H locs hpost hH ho' => ?_)
  refine W.eq (g2 := F0 mi 8 ls [.int v, .int 0, .ref o]) rfl ?_
  refine lv_if_eq (tgt := 15) hx hb d_L_refuses_8 (by decide) (fun c1 => ?_) (fun c1 => ?_)
  · skip
    refine lv_lconst (v := 0) hx hb d_L_refuses_15 (by decide) ?_
    refine m_last hx hb hK hH 3 (show mu MC' o (oL g f) o = some (.inl (g.2 3, 1, .inr (.inl f))) from mu_s) rfl (j := 0) rfl (by decide) (by decide) d_L_refuses_16 (fun H locs hH hzz => ?_)
    rw [mu_mu2] at hH
    refine lv_goto (tgt := 24) hx hb d_L_refuses_17 (by decide) ?_
    refine lv_iconst (v := 0) hx hb d_L_refuses_24 (by decide) ?_
    refine W.more (cells' := 1) (slots' := 6) (by decide) (by decide) ?_
    exact m_iret hx hb hr hlocks hsz hH ⟨rfl, v, MC', vp_updL f 0 0, hpost, rfl, ho', by first | (rw [if_pos c1]; exact if_pos rfl) | (rw [if_neg c1]; exact if_pos rfl)⟩ d_L_refuses_25
  · skip
    refine lv_lconst (v := 1) hx hb d_L_refuses_11 (by decide) ?_
    refine lv_goto (tgt := 16) hx hb d_L_refuses_12 (by decide) ?_
    refine m_last hx hb hK hH 3 (show mu MC' o (oL g f) o = some (.inl (g.2 3, 1, .inr (.inl f))) from mu_s) rfl (j := 0) rfl (by decide) (by decide) d_L_refuses_16 (fun H locs hH hzz => ?_)
    rw [mu_mu2] at hH
    refine lv_goto (tgt := 24) hx hb d_L_refuses_17 (by decide) ?_
    refine lv_iconst (v := 0) hx hb d_L_refuses_24 (by decide) ?_
    refine W.more (cells' := 1) (slots' := 6) (by decide) (by decide) ?_
    exact m_iret hx hb hr hlocks hsz hH ⟨rfl, v, MC', vp_updL f 0 1, hpost, rfl, ho', by first | (rw [if_pos c1]; exact if_pos rfl) | (rw [if_neg c1]; exact if_pos rfl)⟩ d_L_refuses_25
set_option maxHeartbeats 4000000 in
set_option maxRecDepth 100000 in
theorem b_L_refuses_1 (l : Launch) (g : GG) (MC : MW) (o a : Nat) (f : Nat → Int64) (de mir : Nat) (x1 x2 : Int32) (fs : List Value) (ha : MC a = some (.inr (6, fs))) (ho : MC o = none) (hM : ∀ sz, vx_Met l y_H_refuses (k_H_refuses :: TT) { frames := 7, cells := 1, slots := 6, locals := 121 } (Pz g [.ref a, .int x1, .int x2] sz MC) QF (XE IOE) 1 6 nofree) (sz : Nat) : Met l y_L_refuses (k_L_refuses :: TT) { frames := 8, cells := 1, slots := 6, locals := 144 } (Pl g [.ref a, .int x1, .int x2, .ref o] sz (mu MC o (oL g f)) de mir) (Qm g (mu MC o (oL g f)) (fun k : Int32 => some (.int k)) (fun k M' => k = 1 ∧ M' = mu MC o (oL g f))) 1 6 (mA (mu MC o (oL g f)) sz) := by
  refine lmet_of (by decide) (Nat.le_of_ble_eq_true rfl) ?_
  intro pr en s mi below meth co hx hb hr hml hown hlocks hT hsz hP hK hZH hZ hN htab ls hl
  have hl : lv_has ls 5 [(0, .ref a), (1, .int x1), (2, .int x2), (3, .ref o)] := hl
  have hH := HS.start hP
  refine lv_aload_n hx hb d_L_refuses_0 rfl (lv_at hl 3 rfl) ?_
  refine lv_iconst (v := 0) hx hb d_L_refuses_1 (by decide) ?_
  refine lv_aload_n hx hb d_L_refuses_2 rfl (lv_at hl 0 rfl) ?_
  refine lv_iload_n hx hb d_L_refuses_3 rfl (lv_at hl 1 rfl) ?_
  refine lv_iload_n hx hb d_L_refuses_4 rfl (lv_at hl 2 rfl) ?_
  refine x_run (cx_V (As := [.int x1, .int x2]) (rest := [.int 0, .ref o]) hx hb hml hl.1 hown hT hK (pm_in ho hP) hZH (hM _) kw_H_refuses w620 w621 w622 w1 hd_H_refuses rfl rfl ⟨by decide, by decide⟩ ha rfl rfl rfl (Nat.le_of_ble_eq_true rfl) d_L_refuses_5 ⟨by decide, Nat.le_of_ble_eq_true rfl⟩) (fun q ce H1 hz hk hce hcv hcl => ?_)
  replace hH := hH.grow hz hk
  refine vx_catch (E := IOE) (name := IOE) hown [] ⟨0, 17, 20, 19⟩ [] (htab.trans rfl) (fun z h => by cases h) (by decide) (by decide) (hT _ w320) (va_Nw.use rfl (hK.2.1 _ nw335)) hce hcv hcl ?_
  refine W.eq (g2 := F0 mi 20 ls [.ref q]) rfl ?_
  refine lv_astore (lv' := [(4, .ref q), (0, .ref a), (1, .int x1), (2, .int x2), (3, .ref o)]) hx hb d_L_refuses_20 hl (by decide) rfl (fun ls hl => ?_)
  refine lv_iconst (v := 1) hx hb d_L_refuses_22 (by decide) ?_
  refine W.more (cells' := 1) (slots' := 6) (by decide) (by decide) ?_
  exact m_iret hx hb hr hlocks hsz hH ⟨rfl, rfl⟩ d_L_refuses_23
set_option maxHeartbeats 4000000 in
set_option maxRecDepth 100000 in
theorem g_L_reach (l : Launch) (g : GG) (MC : MW) (o a : Nat) (f : Nat → Int64) (de mir : Nat) (x1 : Int32) (fs : List Value) (ha : MC a = some (.inr (6, fs))) (ho : MC o = none) (post : Int32 → MW → Prop) (hM : ∀ sz, Met l y_H_reach (k_H_reach :: TT) { frames := 6, cells := 0, slots := 0, locals := 100 } (Pd g [.ref a, .int x1] sz MC de mir) (Qm g MC (fun r : Int32 => some (.int r)) post) 0 0 (mA MC sz)) (sz : Nat) : Met l y_L_reach (k_L_reach :: TT) { frames := 7, cells := 1, slots := 6, locals := 121 } (Pl g [.ref a, .int x1, .ref o] sz (mu MC o (oL g f)) de mir) (Qm g (mu MC o (oL g f)) (fun k : Int32 => some (.int k)) (fun k M' => k = 0 ∧ ∃ (v : Int32) (MC' : MW) (f' : Nat → Int64), post v MC' ∧ M' = mu MC' o (oL g f') ∧ MC' o = none ∧ f' 0 = v.toInt64)) 1 6 (mA (mu MC o (oL g f)) sz) := by
  refine lmet_of (by decide) (Nat.le_of_ble_eq_true rfl) ?_
  intro pr en s mi below meth co hx hb hr hml hown hlocks hT hsz hP hK hZH hZ hN htab ls hl
  have hl : lv_has ls 4 [(0, .ref a), (1, .int x1), (2, .ref o)] := hl
  have hH := HS.start hP
  refine lv_aload_n hx hb d_L_reach_0 rfl (lv_at hl 2 rfl) ?_
  refine lv_iconst (v := 0) hx hb d_L_reach_1 (by decide) ?_
  refine lv_aload_n hx hb d_L_reach_2 rfl (lv_at hl 0 rfl) ?_
  refine lv_iload_n hx hb d_L_reach_3 rfl (lv_at hl 1 rfl) ?_
  refine m_runO ho (d_V (As := [.int x1]) (rest := [.int 0, .ref o]) hx hb hml hl.1 hown hT hK (pm_in ho hH.1) (dd_in (dd_of hH hZ)) (hM _) kw_H_reach w628 w629 w630 w1 hd_H_reach rfl rfl ⟨by decide, by decide⟩ ha rfl rfl rfl (Nat.le_of_ble_eq_true rfl) d_L_reach_4 ⟨by decide, Nat.le_of_ble_eq_true rfl⟩) hH (fun v MC' H locs hpost hH ho' => ?_)
  refine W.eq (g2 := F0 mi 7 ls [.int v, .int 0, .ref o]) rfl ?_
  refine lv_i2l (v := v.toInt64) hx hb d_L_reach_7 rfl ?_
  refine m_last hx hb hK hH 3 (show mu MC' o (oL g f) o = some (.inl (g.2 3, 1, .inr (.inl f))) from mu_s) rfl (j := 0) rfl (by decide) (by decide) d_L_reach_8 (fun H locs hH hzz => ?_)
  rw [mu_mu2] at hH
  refine lv_goto (tgt := 15) hx hb d_L_reach_9 (by decide) ?_
  refine lv_iconst (v := 0) hx hb d_L_reach_15 (by decide) ?_
  refine W.more (cells' := 1) (slots' := 6) (by decide) (by decide) ?_
  exact m_iret hx hb hr hlocks hsz hH ⟨rfl, v, MC', vp_updL f 0 (v.toInt64), hpost, rfl, ho', if_pos rfl⟩ d_L_reach_16
set_option maxHeartbeats 4000000 in
set_option maxRecDepth 100000 in
theorem b_L_reach_1 (l : Launch) (g : GG) (MC : MW) (o a : Nat) (f : Nat → Int64) (de mir : Nat) (x1 : Int32) (fs : List Value) (ha : MC a = some (.inr (6, fs))) (ho : MC o = none) (hM : ∀ sz, vx_Met l y_H_reach (k_H_reach :: TT) { frames := 6, cells := 1, slots := 6, locals := 100 } (Pz g [.ref a, .int x1] sz MC) QF (XE IOE) 1 6 nofree) (sz : Nat) : Met l y_L_reach (k_L_reach :: TT) { frames := 7, cells := 1, slots := 6, locals := 121 } (Pl g [.ref a, .int x1, .ref o] sz (mu MC o (oL g f)) de mir) (Qm g (mu MC o (oL g f)) (fun k : Int32 => some (.int k)) (fun k M' => k = 1 ∧ M' = mu MC o (oL g f))) 1 6 (mA (mu MC o (oL g f)) sz) := by
  refine lmet_of (by decide) (Nat.le_of_ble_eq_true rfl) ?_
  intro pr en s mi below meth co hx hb hr hml hown hlocks hT hsz hP hK hZH hZ hN htab ls hl
  have hl : lv_has ls 4 [(0, .ref a), (1, .int x1), (2, .ref o)] := hl
  have hH := HS.start hP
  refine lv_aload_n hx hb d_L_reach_0 rfl (lv_at hl 2 rfl) ?_
  refine lv_iconst (v := 0) hx hb d_L_reach_1 (by decide) ?_
  refine lv_aload_n hx hb d_L_reach_2 rfl (lv_at hl 0 rfl) ?_
  refine lv_iload_n hx hb d_L_reach_3 rfl (lv_at hl 1 rfl) ?_
  refine x_run (cx_V (As := [.int x1]) (rest := [.int 0, .ref o]) hx hb hml hl.1 hown hT hK (pm_in ho hP) hZH (hM _) kw_H_reach w628 w629 w630 w1 hd_H_reach rfl rfl ⟨by decide, by decide⟩ ha rfl rfl rfl (Nat.le_of_ble_eq_true rfl) d_L_reach_4 ⟨by decide, Nat.le_of_ble_eq_true rfl⟩) (fun q ce H1 hz hk hce hcv hcl => ?_)
  replace hH := hH.grow hz hk
  refine vx_catch (E := IOE) (name := IOE) hown [] ⟨0, 9, 12, 19⟩ [] (htab.trans rfl) (fun z h => by cases h) (by decide) (by decide) (hT _ w320) (va_Nw.use rfl (hK.2.1 _ nw335)) hce hcv hcl ?_
  refine W.eq (g2 := F0 mi 12 ls [.ref q]) rfl ?_
  refine lv_astore_n (lv' := [(3, .ref q), (0, .ref a), (1, .int x1), (2, .ref o)]) hx hb d_L_reach_12 rfl hl (by decide) rfl (fun ls hl => ?_)
  refine lv_iconst (v := 1) hx hb d_L_reach_13 (by decide) ?_
  refine W.more (cells' := 1) (slots' := 6) (by decide) (by decide) ?_
  exact m_iret hx hb hr hlocks hsz hH ⟨rfl, rfl⟩ d_L_reach_14
set_option maxHeartbeats 4000000 in
set_option maxRecDepth 100000 in
theorem g_L_loseBattery (l : Launch) (g : GG) (MC : MW) (o a : Nat) (f : Nat → Int64) (de mir : Nat) (x1 : Int32) (fs : List Value) (ha : MC a = some (.inr (6, fs))) (ho : MC o = none) (post : Unit → MW → Prop) (hM : ∀ sz, Met l y_H_loseBattery (k_H_loseBattery :: TT) { frames := 7, cells := 0, slots := 0, locals := 121 } (Pd g [.ref a, .int x1] sz MC de mir) (Qm g MC (fun _ : Unit => none) post) 0 0 (mA MC sz)) (sz : Nat) : Met l y_L_loseBattery (k_L_loseBattery :: TT) { frames := 8, cells := 1, slots := 6, locals := 142 } (Pl g [.ref a, .int x1] sz (mu MC o (oL g f)) de mir) (Qm g (mu MC o (oL g f)) (fun k : Int32 => some (.int k)) (fun k M' => k = 0 ∧ ∃ MC' : MW, post () MC' ∧ M' = mu MC' o (oL g f) ∧ MC' o = none)) 1 6 (mA (mu MC o (oL g f)) sz) := by
  refine lmet_of (by decide) (Nat.le_of_ble_eq_true rfl) ?_
  intro pr en s mi below meth co hx hb hr hml hown hlocks hT hsz hP hK hZH hZ hN htab ls hl
  have hl : lv_has ls 3 [(0, .ref a), (1, .int x1)] := hl
  have hH := HS.start hP
  refine lv_aload_n hx hb d_L_loseBattery_0 rfl (lv_at hl 0 rfl) ?_
  refine lv_iload_n hx hb d_L_loseBattery_1 rfl (lv_at hl 1 rfl) ?_
  refine m_runO ho (d_V (As := [.int x1]) (rest := []) hx hb hml hl.1 hown hT hK (pm_in ho hH.1) (dd_in (dd_of hH hZ)) (hM _) kw_H_loseBattery w644 w645 w646 w1 hd_H_loseBattery rfl rfl ⟨by decide, by decide⟩ ha rfl rfl rfl (Nat.le_of_ble_eq_true rfl) d_L_loseBattery_2 ⟨by decide, Nat.le_of_ble_eq_true rfl⟩) hH (fun v MC' H locs hpost hH ho' => ?_)
  refine W.eq (g2 := F0 mi 5 ls []) rfl ?_
  refine lv_goto (tgt := 11) hx hb d_L_loseBattery_5 (by decide) ?_
  refine lv_iconst (v := 0) hx hb d_L_loseBattery_11 (by decide) ?_
  refine W.more (cells' := 1) (slots' := 6) (by decide) (by decide) ?_
  exact m_iret hx hb hr hlocks hsz hH ⟨rfl, MC', hpost, rfl, ho'⟩ d_L_loseBattery_12
set_option maxHeartbeats 4000000 in
set_option maxRecDepth 100000 in
theorem b_L_loseBattery_1 (l : Launch) (g : GG) (MC : MW) (o a : Nat) (f : Nat → Int64) (de mir : Nat) (x1 : Int32) (fs : List Value) (ha : MC a = some (.inr (6, fs))) (ho : MC o = none) (hM : ∀ sz, vx_Met l y_H_loseBattery (k_H_loseBattery :: TT) { frames := 7, cells := 1, slots := 6, locals := 121 } (Pz g [.ref a, .int x1] sz MC) QF (XE IOE) 1 6 nofree) (sz : Nat) : Met l y_L_loseBattery (k_L_loseBattery :: TT) { frames := 8, cells := 1, slots := 6, locals := 142 } (Pl g [.ref a, .int x1] sz (mu MC o (oL g f)) de mir) (Qm g (mu MC o (oL g f)) (fun k : Int32 => some (.int k)) (fun k M' => k = 1 ∧ M' = mu MC o (oL g f))) 1 6 (mA (mu MC o (oL g f)) sz) := by
  refine lmet_of (by decide) (Nat.le_of_ble_eq_true rfl) ?_
  intro pr en s mi below meth co hx hb hr hml hown hlocks hT hsz hP hK hZH hZ hN htab ls hl
  have hl : lv_has ls 3 [(0, .ref a), (1, .int x1)] := hl
  have hH := HS.start hP
  refine lv_aload_n hx hb d_L_loseBattery_0 rfl (lv_at hl 0 rfl) ?_
  refine lv_iload_n hx hb d_L_loseBattery_1 rfl (lv_at hl 1 rfl) ?_
  refine x_run (cx_V (As := [.int x1]) (rest := []) hx hb hml hl.1 hown hT hK (pm_in ho hP) hZH (hM _) kw_H_loseBattery w644 w645 w646 w1 hd_H_loseBattery rfl rfl ⟨by decide, by decide⟩ ha rfl rfl rfl (Nat.le_of_ble_eq_true rfl) d_L_loseBattery_2 ⟨by decide, Nat.le_of_ble_eq_true rfl⟩) (fun q ce H1 hz hk hce hcv hcl => ?_)
  replace hH := hH.grow hz hk
  refine vx_catch (E := IOE) (name := IOE) hown [] ⟨0, 5, 8, 19⟩ [] (htab.trans rfl) (fun z h => by cases h) (by decide) (by decide) (hT _ w320) (va_Nw.use rfl (hK.2.1 _ nw335)) hce hcv hcl ?_
  refine W.eq (g2 := F0 mi 8 ls [.ref q]) rfl ?_
  refine lv_astore_n (lv' := [(2, .ref q), (0, .ref a), (1, .int x1)]) hx hb d_L_loseBattery_8 rfl hl (by decide) rfl (fun ls hl => ?_)
  refine lv_iconst (v := 1) hx hb d_L_loseBattery_9 (by decide) ?_
  refine W.more (cells' := 1) (slots' := 6) (by decide) (by decide) ?_
  exact m_iret hx hb hr hlocks hsz hH ⟨rfl, rfl⟩ d_L_loseBattery_10
set_option maxHeartbeats 4000000 in
set_option maxRecDepth 100000 in
theorem g_L_visit (l : Launch) (g : GG) (MC : MW) (o a : Nat) (f : Nat → Int64) (de mir : Nat) (x1 x2 x3 x4 : Int32) (fs : List Value) (ha : MC a = some (.inr (6, fs))) (ho : MC o = none) (post : Unit → MW → Prop) (hM : ∀ sz, Met l y_H_visit (k_H_visit :: TT) { frames := 6, cells := 0, slots := 0, locals := 100 } (Pd g [.ref a, .int x1, .int x2, .int x3, .int x4] sz MC de mir) (Qm g MC (fun _ : Unit => none) post) 0 0 (mA MC sz)) (sz : Nat) : Met l y_L_visit (k_L_visit :: TT) { frames := 7, cells := 1, slots := 6, locals := 124 } (Pl g [.ref a, .int x1, .int x2, .int x3, .int x4] sz (mu MC o (oL g f)) de mir) (Qm g (mu MC o (oL g f)) (fun k : Int32 => some (.int k)) (fun k M' => k = 0 ∧ ∃ MC' : MW, post () MC' ∧ M' = mu MC' o (oL g f) ∧ MC' o = none)) 1 6 (mA (mu MC o (oL g f)) sz) := by
  refine lmet_of (by decide) (Nat.le_of_ble_eq_true rfl) ?_
  intro pr en s mi below meth co hx hb hr hml hown hlocks hT hsz hP hK hZH hZ hN htab ls hl
  have hl : lv_has ls 6 [(0, .ref a), (1, .int x1), (2, .int x2), (3, .int x3), (4, .int x4)] := hl
  have hH := HS.start hP
  refine lv_aload_n hx hb d_L_visit_0 rfl (lv_at hl 0 rfl) ?_
  refine lv_iload_n hx hb d_L_visit_1 rfl (lv_at hl 1 rfl) ?_
  refine lv_iload_n hx hb d_L_visit_2 rfl (lv_at hl 2 rfl) ?_
  refine lv_iload_n hx hb d_L_visit_3 rfl (lv_at hl 3 rfl) ?_
  refine lv_iload hx hb d_L_visit_4 (lv_at hl 4 rfl) ?_
  refine m_runO ho (d_V (As := [.int x1, .int x2, .int x3, .int x4]) (rest := []) hx hb hml hl.1 hown hT hK (pm_in ho hH.1) (dd_in (dd_of hH hZ)) (hM _) kw_H_visit w651 w652 w653 w1 hd_H_visit rfl rfl ⟨by decide, by decide⟩ ha rfl rfl rfl (Nat.le_of_ble_eq_true rfl) d_L_visit_6 ⟨by decide, Nat.le_of_ble_eq_true rfl⟩) hH (fun v MC' H locs hpost hH ho' => ?_)
  refine W.eq (g2 := F0 mi 9 ls []) rfl ?_
  refine lv_goto (tgt := 16) hx hb d_L_visit_9 (by decide) ?_
  refine lv_iconst (v := 0) hx hb d_L_visit_16 (by decide) ?_
  refine W.more (cells' := 1) (slots' := 6) (by decide) (by decide) ?_
  exact m_iret hx hb hr hlocks hsz hH ⟨rfl, MC', hpost, rfl, ho'⟩ d_L_visit_17
set_option maxHeartbeats 4000000 in
set_option maxRecDepth 100000 in
theorem b_L_visit_1 (l : Launch) (g : GG) (MC : MW) (o a : Nat) (f : Nat → Int64) (de mir : Nat) (x1 x2 x3 x4 : Int32) (fs : List Value) (ha : MC a = some (.inr (6, fs))) (ho : MC o = none) (hM : ∀ sz, vx_Met l y_H_visit (k_H_visit :: TT) { frames := 6, cells := 1, slots := 6, locals := 100 } (Pz g [.ref a, .int x1, .int x2, .int x3, .int x4] sz MC) QF (XE IOE) 1 6 nofree) (sz : Nat) : Met l y_L_visit (k_L_visit :: TT) { frames := 7, cells := 1, slots := 6, locals := 124 } (Pl g [.ref a, .int x1, .int x2, .int x3, .int x4] sz (mu MC o (oL g f)) de mir) (Qm g (mu MC o (oL g f)) (fun k : Int32 => some (.int k)) (fun k M' => k = 1 ∧ M' = mu MC o (oL g f))) 1 6 (mA (mu MC o (oL g f)) sz) := by
  refine lmet_of (by decide) (Nat.le_of_ble_eq_true rfl) ?_
  intro pr en s mi below meth co hx hb hr hml hown hlocks hT hsz hP hK hZH hZ hN htab ls hl
  have hl : lv_has ls 6 [(0, .ref a), (1, .int x1), (2, .int x2), (3, .int x3), (4, .int x4)] := hl
  have hH := HS.start hP
  refine lv_aload_n hx hb d_L_visit_0 rfl (lv_at hl 0 rfl) ?_
  refine lv_iload_n hx hb d_L_visit_1 rfl (lv_at hl 1 rfl) ?_
  refine lv_iload_n hx hb d_L_visit_2 rfl (lv_at hl 2 rfl) ?_
  refine lv_iload_n hx hb d_L_visit_3 rfl (lv_at hl 3 rfl) ?_
  refine lv_iload hx hb d_L_visit_4 (lv_at hl 4 rfl) ?_
  refine x_run (cx_V (As := [.int x1, .int x2, .int x3, .int x4]) (rest := []) hx hb hml hl.1 hown hT hK (pm_in ho hP) hZH (hM _) kw_H_visit w651 w652 w653 w1 hd_H_visit rfl rfl ⟨by decide, by decide⟩ ha rfl rfl rfl (Nat.le_of_ble_eq_true rfl) d_L_visit_6 ⟨by decide, Nat.le_of_ble_eq_true rfl⟩) (fun q ce H1 hz hk hce hcv hcl => ?_)
  replace hH := hH.grow hz hk
  refine vx_catch (E := IOE) (name := IOE) hown [] ⟨0, 9, 12, 19⟩ [] (htab.trans rfl) (fun z h => by cases h) (by decide) (by decide) (hT _ w320) (va_Nw.use rfl (hK.2.1 _ nw335)) hce hcv hcl ?_
  refine W.eq (g2 := F0 mi 12 ls [.ref q]) rfl ?_
  refine lv_astore (lv' := [(5, .ref q), (0, .ref a), (1, .int x1), (2, .int x2), (3, .int x3), (4, .int x4)]) hx hb d_L_visit_12 hl (by decide) rfl (fun ls hl => ?_)
  refine lv_iconst (v := 1) hx hb d_L_visit_14 (by decide) ?_
  refine W.more (cells' := 1) (slots' := 6) (by decide) (by decide) ?_
  exact m_iret hx hb hr hlocks hsz hH ⟨rfl, rfl⟩ d_L_visit_15
set_option maxHeartbeats 4000000 in
set_option maxRecDepth 100000 in
theorem g_L_spread (l : Launch) (g : GG) (MC : MW) (o a : Nat) (f : Nat → Int64) (de mir : Nat) (x1 : Int32) (fs : List Value) (ha : MC a = some (.inr (6, fs))) (ho : MC o = none) (post : Int32 → MW → Prop) (hM : ∀ sz, Met l y_H_spread (k_H_spread :: TT) { frames := 7, cells := 0, slots := 0, locals := 161 } (Pd g [.ref a, .int x1] sz MC de mir) (Qm g MC (fun r : Int32 => some (.int r)) post) 0 0 (mA MC sz)) (sz : Nat) : Met l y_L_spread (k_L_spread :: TT) { frames := 8, cells := 1, slots := 6, locals := 184 } (Pl g [.ref a, .int x1, .ref o] sz (mu MC o (oL g f)) de mir) (Qm g (mu MC o (oL g f)) (fun k : Int32 => some (.int k)) (fun k M' => k = 0 ∧ ∃ (v : Int32) (MC' : MW) (f' : Nat → Int64), post v MC' ∧ M' = mu MC' o (oL g f') ∧ MC' o = none ∧ f' 0 = v.toInt64)) 1 6 (mA (mu MC o (oL g f)) sz) := by
  refine lmet_of (by decide) (Nat.le_of_ble_eq_true rfl) ?_
  intro pr en s mi below meth co hx hb hr hml hown hlocks hT hsz hP hK hZH hZ hN htab ls hl
  have hl : lv_has ls 4 [(0, .ref a), (1, .int x1), (2, .ref o)] := hl
  have hH := HS.start hP
  refine lv_aload_n hx hb d_L_spread_0 rfl (lv_at hl 2 rfl) ?_
  refine lv_iconst (v := 0) hx hb d_L_spread_1 (by decide) ?_
  refine lv_aload_n hx hb d_L_spread_2 rfl (lv_at hl 0 rfl) ?_
  refine lv_iload_n hx hb d_L_spread_3 rfl (lv_at hl 1 rfl) ?_
  refine m_runO ho (d_V (As := [.int x1]) (rest := [.int 0, .ref o]) hx hb hml hl.1 hown hT hK (pm_in ho hH.1) (dd_in (dd_of hH hZ)) (hM _) kw_H_spread w659 w660 w661 w1 hd_H_spread rfl rfl ⟨by decide, by decide⟩ ha rfl rfl rfl (Nat.le_of_ble_eq_true rfl) d_L_spread_4 ⟨by decide, Nat.le_of_ble_eq_true rfl⟩) hH (fun v MC' H locs hpost hH ho' => ?_)
  refine W.eq (g2 := F0 mi 7 ls [.int v, .int 0, .ref o]) rfl ?_
  refine lv_i2l (v := v.toInt64) hx hb d_L_spread_7 rfl ?_
  refine m_last hx hb hK hH 3 (show mu MC' o (oL g f) o = some (.inl (g.2 3, 1, .inr (.inl f))) from mu_s) rfl (j := 0) rfl (by decide) (by decide) d_L_spread_8 (fun H locs hH hzz => ?_)
  rw [mu_mu2] at hH
  refine lv_goto (tgt := 15) hx hb d_L_spread_9 (by decide) ?_
  refine lv_iconst (v := 0) hx hb d_L_spread_15 (by decide) ?_
  refine W.more (cells' := 1) (slots' := 6) (by decide) (by decide) ?_
  exact m_iret hx hb hr hlocks hsz hH ⟨rfl, v, MC', vp_updL f 0 (v.toInt64), hpost, rfl, ho', if_pos rfl⟩ d_L_spread_16
set_option maxHeartbeats 4000000 in
set_option maxRecDepth 100000 in
theorem b_L_spread_1 (l : Launch) (g : GG) (MC : MW) (o a : Nat) (f : Nat → Int64) (de mir : Nat) (x1 : Int32) (fs : List Value) (ha : MC a = some (.inr (6, fs))) (ho : MC o = none) (hM : ∀ sz, vx_Met l y_H_spread (k_H_spread :: TT) { frames := 7, cells := 1, slots := 6, locals := 161 } (Pz g [.ref a, .int x1] sz MC) QF (XE IAE) 1 6 nofree) (sz : Nat) : Met l y_L_spread (k_L_spread :: TT) { frames := 8, cells := 1, slots := 6, locals := 184 } (Pl g [.ref a, .int x1, .ref o] sz (mu MC o (oL g f)) de mir) (Qm g (mu MC o (oL g f)) (fun k : Int32 => some (.int k)) (fun k M' => k = 1 ∧ M' = mu MC o (oL g f))) 1 6 (mA (mu MC o (oL g f)) sz) := by
  refine lmet_of (by decide) (Nat.le_of_ble_eq_true rfl) ?_
  intro pr en s mi below meth co hx hb hr hml hown hlocks hT hsz hP hK hZH hZ hN htab ls hl
  have hl : lv_has ls 4 [(0, .ref a), (1, .int x1), (2, .ref o)] := hl
  have hH := HS.start hP
  refine lv_aload_n hx hb d_L_spread_0 rfl (lv_at hl 2 rfl) ?_
  refine lv_iconst (v := 0) hx hb d_L_spread_1 (by decide) ?_
  refine lv_aload_n hx hb d_L_spread_2 rfl (lv_at hl 0 rfl) ?_
  refine lv_iload_n hx hb d_L_spread_3 rfl (lv_at hl 1 rfl) ?_
  refine x_run (cx_V (As := [.int x1]) (rest := [.int 0, .ref o]) hx hb hml hl.1 hown hT hK (pm_in ho hP) hZH (hM _) kw_H_spread w659 w660 w661 w1 hd_H_spread rfl rfl ⟨by decide, by decide⟩ ha rfl rfl rfl (Nat.le_of_ble_eq_true rfl) d_L_spread_4 ⟨by decide, Nat.le_of_ble_eq_true rfl⟩) (fun q ce H1 hz hk hce hcv hcl => ?_)
  replace hH := hH.grow hz hk
  refine vx_catch (E := IAE) (name := IAE) hown [] ⟨0, 9, 12, 29⟩ [] (htab.trans rfl) (fun z h => by cases h) (by decide) (by decide) (hT _ w444) (va_Nw.use rfl (hK.2.1 _ nw460)) hce hcv hcl ?_
  refine W.eq (g2 := F0 mi 12 ls [.ref q]) rfl ?_
  refine lv_astore_n (lv' := [(3, .ref q), (0, .ref a), (1, .int x1), (2, .ref o)]) hx hb d_L_spread_12 rfl hl (by decide) rfl (fun ls hl => ?_)
  refine lv_iconst (v := 1) hx hb d_L_spread_13 (by decide) ?_
  refine W.more (cells' := 1) (slots' := 6) (by decide) (by decide) ?_
  exact m_iret hx hb hr hlocks hsz hH ⟨rfl, rfl⟩ d_L_spread_14
