/-! The class revokes a card. -/
set_option maxHeartbeats 800000 in
set_option maxRecDepth 100000 in
theorem c_H_revoke_n (l : Launch) (g : GG) (M : MW) (α : AL3) (ν : Nat → Nat) (χ : SG) (c : Nat) (de mir : Nat) (sz : Nat) (hW : HW g α ν χ M) (hN : nOK ν) (hL : LD α ν de) (hc : c < ν 0) (hz : χ 6 c = 0) (hlt6 : ν 1 < 600) : Met l y_H_revoke (k_H_revoke :: TT) { frames := 8, cells := 3, slots := 1202, locals := 199 } (Pd g [.ref (α 0 0 0), .int (nI c)] sz (M) de mir) (Qm g M (fun r : Int32 => some (.int r)) (fun rv M' => rv = nI (ν 1 + 1) ∧ ∃ α' ν', HW g α' ν' (su (rvX χ (ν 1 + 1) (nI c)) 6 c (nI (ν 1 + 1))) M' ∧ nOK ν' ∧ LD α' ν' de ∧ ν' 0 = ν 0 ∧ ν' 1 = ν 1 + 1 ∧ α' 0 0 0 = α 0 0 0)) 3 1202 (mA M sz) := by
  refine dmet_of (by decide) (Nat.le_of_ble_eq_true rfl) ?_
  intro pr en s mi below meth co hx hb hr hml hown hlocks hnm hT hsz hP hK hZ ls hl
  have hl : lv_has ls 3 [(0, .ref (α 0 0 0)), (1, .int (nI c))] := hl
  have hH := HS.start hP
  have o0 : M (α 0 0 0) = some (.inr (6, [.ref (α 0 1 0), .ref (α 0 3 0), .ref (α 0 6 0), .ref (α 0 7 0), .ref (α 0 8 0), .ref (α 0 9 0)])) := hw_00 hW
  have o1 : M (α 0 3 0) = some (.inr (4, [.ref (α 0 4 0)])) := hw_03 hW
  have o2 : M (α 1 c 0) = some (.inr (1, [.int (χ 1 c), .int (χ 2 c), .ref (α 2 c 0), .ref (α 2 c 1), .int (χ 6 c), .int (χ 3 c), .int (χ 16 c), .int (χ 4 c)])) := hw_card hW hc
  have hN0 : ν 0 ≤ 600 := hN.2.2.2.2.1
  have hN1 : ν 1 ≤ 600 := hN.2.2.2.2.2
  refine lv_aload_n hx hb d_H_revoke_0 rfl (lv_at hl 0 rfl) ?_
  refine lv_iload_n hx hb d_H_revoke_1 rfl (lv_at hl 1 rfl) ?_
  refine rd_run (c_V (As := [.int (nI c)]) (rest := []) hx hb hml hl.1 hown hT hK hH.1 (c_H_cardAt l g _ α ν χ c _ hW hN hc) kw_H_cardAt w325 w327 selp_H_cardAt w1 hd_H_cardAt rfl rfl ⟨by decide, by decide⟩ (o0) rfl rfl rfl (Nat.le_of_ble_eq_true rfl) d_H_revoke_2 ⟨by decide, Nat.le_of_ble_eq_true rfl⟩) rfl ?_
  refine lv_astore_n (lv' := [(2, .ref (α 1 c 0)), (0, .ref (α 0 0 0)), (1, .int (nI c))]) hx hb d_H_revoke_5 rfl hl (by decide) rfl (fun ls hl => ?_)
  refine lv_aload_n hx hb d_H_revoke_6 rfl (lv_at hl 0 rfl) ?_
  refine m_getN (ci := 1) (v := .int (χ 6 c)) hx hb hT in_Card hown hK hH.1 (o2) rfl 4 (by decide) (va_Nw.use rfl (hK.2.1 _ nw236)) (fun _ h9 => h9) rfl d_H_revoke_7 ?_
  refine lv_if_eq (tgt := 15) hx hb d_H_revoke_10 (by decide) (fun _ => ?_) (fun hq9 => absurd (hz) hq9)
  refine lv_aload_n hx hb d_H_revoke_15 rfl (lv_at hl 1 rfl) ?_
  refine m_get (ci := 6) (v := .ref (α 0 3 0)) hx hb hT in_H hown hK hH.1 (o0) rfl 1 (by decide) (hT _ w101) (fun _ h9 => h9) rfl d_H_revoke_16 ?_
  refine rd_run (c_V (As := []) (rest := []) hx hb hml hl.1 hown hT hK hH.1 (c_EL_made l g _ α ν χ _ hW) kw_EL_made w131 w132 w133 w5 hd_EL_made rfl rfl ⟨by decide, by decide⟩ (o1) rfl rfl rfl (Nat.le_of_ble_eq_true rfl) d_H_revoke_19 ⟨by decide, Nat.le_of_ble_eq_true rfl⟩) rfl ?_
  refine lv_sipush (v := 3000) hx hb d_H_revoke_22 (by decide) ?_
  refine lv_icmp_lt (tgt := 38) hx hb d_H_revoke_25 (by decide) (fun _ => ?_) (fun hq9 => absurd (nI_lt (b := 3000) (by omega) (by decide)) hq9)
  refine lv_aload_n hx hb d_H_revoke_38 rfl (lv_at hl 0 rfl) ?_
  refine lv_aload_n hx hb d_H_revoke_39 rfl (lv_at hl 1 rfl) ?_
  refine m_get (ci := 6) (v := .ref (α 0 3 0)) hx hb hT in_H hown hK hH.1 (o0) rfl 1 (by decide) (hT _ w101) (fun _ h9 => h9) rfl d_H_revoke_40 ?_
  refine lv_iload_n hx hb d_H_revoke_43 rfl (lv_at hl 2 rfl) ?_
  have l0 := hH.1.lt o0
  have l1 := hH.1.lt o1
  have l2 := hH.1.lt o2
  refine m_run (d_V (As := [.int (nI c)]) (rest := [.ref (α 1 c 0)]) hx hb hml hl.1 hown hT hK hH.1 (dd_of hH hZ) (c_EL_append l g _ α ν χ (nI c) de mir _ hW hN hL hlt6) kw_EL_append w364 w365 w366 w5 hd_EL_append rfl rfl ⟨by decide, by decide⟩ (o1) rfl rfl rfl (Nat.le_of_ble_eq_true rfl) d_H_revoke_44 ⟨by decide, Nat.le_of_ble_eq_true rfl⟩) hH (fun rv0 M1 H1 locs hpost hH zH1 hdm hfr => ?_)
  obtain ⟨rfl, α', ν', hW2, hN2, hL2, q0, q1, q2, q3⟩ := hpost
  have hc2 : c < ν' 0 := by omega
  have o2 : M1 (α 1 c 0) = some (.inr (1, [.int ((rvX χ (ν 1 + 1) (nI c)) 1 c), .int ((rvX χ (ν 1 + 1) (nI c)) 2 c), .ref (α' 2 c 0), .ref (α' 2 c 1), .int ((rvX χ (ν 1 + 1) (nI c)) 6 c), .int ((rvX χ (ν 1 + 1) (nI c)) 3 c), .int ((rvX χ (ν 1 + 1) (nI c)) 16 c), .int ((rvX χ (ν 1 + 1) (nI c)) 4 c)])) := by rw [← q3 c]; exact hw_card hW2 hc2
  have fr : True := trivial
  refine m_putN (ci := 1) (v := .int (nI (ν 1 + 1))) (ty := .int) hx hb hT in_Card ty_Card tk_Card nm_Card hown hK hH o2 rfl 4 (by decide) (va_Nw.use rfl (hK.2.1 _ nw236)) (fun _ h9 => h9) rfl (by decide +kernel) rfl rfl (Nat.le_of_ble_eq_true rfl) d_H_revoke_47 (e1 := .inr (1, [.int ((rvX χ (ν 1 + 1) (nI c)) 1 c), .int ((rvX χ (ν 1 + 1) (nI c)) 2 c), .ref (α' 2 c 0), .ref (α' 2 c 1), .int (nI (ν 1 + 1)), .int ((rvX χ (ν 1 + 1) (nI c)) 3 c), .int ((rvX χ (ν 1 + 1) (nI c)) 16 c), .int ((rvX χ (ν 1 + 1) (nI c)) 4 c)])) rfl (fun H8 locs hH zH8 => ?_)
  have hW3 := hws_c6 hW2 hc2 (v := nI (ν 1 + 1))
  rw [q3 c] at hW3
  refine lv_aload_n hx hb d_H_revoke_50 rfl (lv_at hl 0 rfl) ?_
  refine m_getN (ci := 1) (v := .int (nI (ν 1 + 1))) hx hb hT in_Card hown hK hH.1 (mu_s) rfl 4 (by decide) (va_Nw.use rfl (hK.2.1 _ nw236)) (fun _ h9 => h9) rfl d_H_revoke_51 ?_
  exact m_iret hx hb hr hlocks hsz hH (⟨rfl, α', ν', hW3, hN2, hL2, q0, q1, q2⟩) d_H_revoke_54
set_option maxHeartbeats 4000000 in
set_option maxRecDepth 100000 in
theorem c_H_revoke_o (l : Launch) (g : GG) (M : MW) (α : AL3) (ν : Nat → Nat) (χ : SG) (c : Nat) (sz : Nat) (hW : HW g α ν χ M) (hN : nOK ν) (hc : c < ν 0) (hz : ¬ χ 6 c = 0) : Met l y_H_revoke (k_H_revoke :: TT) { frames := 8, cells := 0, slots := 0, locals := 199 } (Pm g [.ref (α 0 0 0), .int (nI c)] sz (M)) (Qrd (some (.int (-1)))) 0 0 (nofree) := by
  refine met_of (by decide) (Nat.le_of_ble_eq_true rfl) ?_
  intro pr en s mi below meth co hx hb hr hml hown hlocks hnm hT hsz hP hK ls hl
  have hl : lv_has ls 3 [(0, .ref (α 0 0 0)), (1, .int (nI c))] := hl
  refine lv_aload_n hx hb d_H_revoke_0 rfl (lv_at hl 0 rfl) ?_
  refine lv_iload_n hx hb d_H_revoke_1 rfl (lv_at hl 1 rfl) ?_
  refine rd_run (c_V (As := [.int (nI c)]) (rest := []) hx hb hml hl.1 hown hT hK hP (c_H_cardAt l g _ α ν χ c _ hW hN hc) kw_H_cardAt w325 w327 selp_H_cardAt w1 hd_H_cardAt rfl rfl ⟨by decide, by decide⟩ (hw_00 hW) rfl rfl rfl (Nat.le_of_ble_eq_true rfl) d_H_revoke_2 ⟨by decide, by decide⟩) rfl ?_
  refine lv_astore_n (lv' := [(2, .ref (α 1 c 0)), (0, .ref (α 0 0 0)), (1, .int (nI c))]) hx hb d_H_revoke_5 rfl hl (by decide) rfl (fun ls hl => ?_)
  refine lv_aload_n hx hb d_H_revoke_6 rfl (lv_at hl 0 rfl) ?_
  refine m_getN (ci := 1) (v := .int ((χ) 6 c)) hx hb hT in_Card hown hK hP (hw_card hW hc) rfl 4 (by decide) (va_Nw.use rfl (hK.2.1 _ nw236)) (fun _ h9 => h9) rfl d_H_revoke_7 ?_
  refine lv_if_eq (tgt := 15) hx hb d_H_revoke_10 (by decide) (fun hq9 => absurd hq9 (hz)) (fun _ => ?_)
  refine lv_iconst (v := (-1)) hx hb d_H_revoke_13 (by decide) ?_
  exact rd_iret hx hb hr hlocks (rfl) d_H_revoke_14
