/-! The class: the public methods, good calls. -/
def xic (ν : Nat → Nat) (x : Int32) : Int32 := if x < 0 ∨ nI (ν 0) ≤ x then 0 else 1
def xid (x : Int32) : Int32 := if x < 0 ∨ nI 200 ≤ x then 0 else 1
theorem xic_01 (ν : Nat → Nat) (x : Int32) : xic ν x = 0 ∨ xic ν x = 1 := by
  unfold xic
  split
  · exact Or.inl rfl
  · exact Or.inr rfl
theorem xid_01 (x : Int32) : xid x = 0 ∨ xid x = 1 := by
  unfold xid
  split
  · exact Or.inl rfl
  · exact Or.inr rfl
theorem xic_1 {ν : Nat → Nat} {c : Nat} (h : c < ν 0) (h9 : ν 0 ≤ 600) : ¬ xic ν (nI c) = 0 := by
  unfold xic
  rw [if_neg (fun z => z.elim (nI_pos (by omega)) (nI_ge h (by omega)))]
  decide
theorem xid_1 {d : Nat} (h : d < 200) : ¬ xid (nI d) = 0 := by
  unfold xid
  rw [if_neg (fun z => z.elim (nI_pos (by omega)) (nI_ge h (by decide)))]
  decide
set_option maxHeartbeats 4000000 in
set_option maxRecDepth 100000 in
theorem c_H_isCard (l : Launch) (g : GG) (M : MW) (α : AL3) (ν : Nat → Nat) (χ : SG) (x : Int32) (sz : Nat) (hW : HW g α ν χ M) : Met l y_H_isCard (k_H_isCard :: TT) { frames := 1, cells := 0, slots := 0, locals := 20 } (Pm g [.ref (α 0 0 0), .int x] sz (M)) (Qrd (some (.int (xic ν x)))) 0 0 (nofree) := by
  refine met_of (by decide) (Nat.le_of_ble_eq_true rfl) ?_
  intro pr en s mi below meth co hx hb hr hml hown hlocks hnm hT hsz hP hK ls hl
  have hl : lv_has ls 2 [(0, .ref (α 0 0 0)), (1, .int x)] := hl
  refine lv_iload_n hx hb d_H_isCard_0 rfl (lv_at hl 1 rfl) ?_
  refine lv_if_lt (tgt := 19) hx hb d_H_isCard_1 (by decide) (fun q1 => ?_) (fun q1 => ?_)
  · skip
    refine lv_iconst (v := 0) hx hb d_H_isCard_19 (by decide) ?_
    exact rd_zret hx hb hr hlocks (by first | contradiction | (simp [xic, q1]; done)) (by first | exact Or.inl rfl | exact Or.inr rfl | assumption | exact smI_01 _ _ _ _ _ _ | exact xtl_01 _ _ _ _ _ _ | exact bI_01 _ | exact xop_01 _ _ _ | exact xic_01 _ _ | exact xid_01 _) d_H_isCard_20
  · skip
    refine lv_iload_n hx hb d_H_isCard_4 rfl (lv_at hl 1 rfl) ?_
    refine lv_aload_n hx hb d_H_isCard_5 rfl (lv_at hl 0 rfl) ?_
    refine m_get (ci := 6) (v := .ref (α 0 1 0)) hx hb hT in_H hown hK hP (hw_00 hW) rfl 0 (by decide) (hT _ w100) (fun _ h9 => h9) rfl d_H_isCard_6 ?_
    refine rd_run (c_V (As := []) (rest := [.int x]) hx hb hml hl.1 hown hT hK hP (c_AL_size l g M (α 0 1 0) (α 0 2 0) (nI (ν 0)) (χ 0 3) s.heap.size (hw_01 hW)) kw_AL_size w123 w124 w125 w4 hd_AL_size rfl rfl ⟨by decide, by decide⟩ (hw_01 hW) rfl rfl rfl (Nat.le_of_ble_eq_true rfl) d_H_isCard_9 ⟨by decide, by decide⟩) rfl ?_
    refine lv_icmp_ge (tgt := 19) hx hb d_H_isCard_12 (by decide) (fun q2 => ?_) (fun q2 => ?_)
    · skip
      refine lv_iconst (v := 0) hx hb d_H_isCard_19 (by decide) ?_
      exact rd_zret hx hb hr hlocks (by first | contradiction | (simp [xic, q1, q2]; done)) (by first | exact Or.inl rfl | exact Or.inr rfl | assumption | exact smI_01 _ _ _ _ _ _ | exact xtl_01 _ _ _ _ _ _ | exact bI_01 _ | exact xop_01 _ _ _ | exact xic_01 _ _ | exact xid_01 _) d_H_isCard_20
    · skip
      refine lv_iconst (v := 1) hx hb d_H_isCard_15 (by decide) ?_
      refine lv_goto (tgt := 20) hx hb d_H_isCard_16 (by decide) ?_
      exact rd_zret hx hb hr hlocks (by first | contradiction | (simp [xic, q1, q2]; done)) (by first | exact Or.inl rfl | exact Or.inr rfl | assumption | exact smI_01 _ _ _ _ _ _ | exact xtl_01 _ _ _ _ _ _ | exact bI_01 _ | exact xop_01 _ _ _ | exact xic_01 _ _ | exact xid_01 _) d_H_isCard_20
set_option maxHeartbeats 4000000 in
set_option maxRecDepth 100000 in
theorem c_H_isDoor (l : Launch) (g : GG) (M : MW) (α : AL3) (ν : Nat → Nat) (χ : SG) (x : Int32) (sz : Nat) (hW : HW g α ν χ M) : Met l y_H_isDoor (k_H_isDoor :: TT) { frames := 0, cells := 0, slots := 0, locals := 0 } (Pm g [.ref (α 0 0 0), .int x] sz (M)) (Qrd (some (.int (xid x)))) 0 0 (nofree) := by
  refine met_of (by decide) (Nat.le_of_ble_eq_true rfl) ?_
  intro pr en s mi below meth co hx hb hr hml hown hlocks hnm hT hsz hP hK ls hl
  have hl : lv_has ls 2 [(0, .ref (α 0 0 0)), (1, .int x)] := hl
  refine lv_iload_n hx hb d_H_isDoor_0 rfl (lv_at hl 1 rfl) ?_
  refine lv_if_lt (tgt := 17) hx hb d_H_isDoor_1 (by decide) (fun q1 => ?_) (fun q1 => ?_)
  · skip
    refine lv_iconst (v := 0) hx hb d_H_isDoor_17 (by decide) ?_
    exact rd_zret hx hb hr hlocks (by first | contradiction | (simp [xid, q1]; done)) (by first | exact Or.inl rfl | exact Or.inr rfl | assumption | exact smI_01 _ _ _ _ _ _ | exact xtl_01 _ _ _ _ _ _ | exact bI_01 _ | exact xop_01 _ _ _ | exact xic_01 _ _ | exact xid_01 _) d_H_isDoor_18
  · skip
    refine lv_iload_n hx hb d_H_isDoor_4 rfl (lv_at hl 1 rfl) ?_
    refine lv_aload_n hx hb d_H_isDoor_5 rfl (lv_at hl 0 rfl) ?_
    refine m_get (ci := 6) (v := .ref (α 0 6 0)) hx hb hT in_H hown hK hP (hw_00 hW) rfl 2 (by decide) (hT _ w102) (fun _ h9 => h9) rfl d_H_isDoor_6 ?_
    refine m_alen (v := nI 200) hx hb hK hP 4 (hw_06 hW) rfl rfl d_H_isDoor_9 ?_
    refine lv_icmp_ge (tgt := 17) hx hb d_H_isDoor_10 (by decide) (fun q2 => ?_) (fun q2 => ?_)
    · skip
      refine lv_iconst (v := 0) hx hb d_H_isDoor_17 (by decide) ?_
      exact rd_zret hx hb hr hlocks (by first | contradiction | (simp [xid, q1, q2]; done)) (by first | exact Or.inl rfl | exact Or.inr rfl | assumption | exact smI_01 _ _ _ _ _ _ | exact xtl_01 _ _ _ _ _ _ | exact bI_01 _ | exact xop_01 _ _ _ | exact xic_01 _ _ | exact xid_01 _) d_H_isDoor_18
    · skip
      refine lv_iconst (v := 1) hx hb d_H_isDoor_13 (by decide) ?_
      refine lv_goto (tgt := 18) hx hb d_H_isDoor_14 (by decide) ?_
      exact rd_zret hx hb hr hlocks (by first | contradiction | (simp [xid, q1, q2]; done)) (by first | exact Or.inl rfl | exact Or.inr rfl | assumption | exact smI_01 _ _ _ _ _ _ | exact xtl_01 _ _ _ _ _ _ | exact bI_01 _ | exact xop_01 _ _ _ | exact xic_01 _ _ | exact xid_01 _) d_H_isDoor_18
set_option maxHeartbeats 4000000 in
set_option maxRecDepth 100000 in
theorem c_H_cardAt (l : Launch) (g : GG) (M : MW) (α : AL3) (ν : Nat → Nat) (χ : SG) (c : Nat) (sz : Nat) (hW : HW g α ν χ M) (hN : nOK ν) (hc : c < ν 0) : Met l y_H_cardAt (k_H_cardAt :: TT) { frames := 6, cells := 0, slots := 0, locals := 100 } (Pm g [.ref (α 0 0 0), .int (nI c)] sz (M)) (Qrd (some (.ref (α 1 c 0)))) 0 0 (nofree) := by
  refine met_of (by decide) (Nat.le_of_ble_eq_true rfl) ?_
  intro pr en s mi below meth co hx hb hr hml hown hlocks hnm hT hsz hP hK ls hl
  have hl : lv_has ls 2 [(0, .ref (α 0 0 0)), (1, .int (nI c))] := hl
  have hN0 : ν 0 ≤ 600 := hN.2.2.2.2.1
  have hN1 : ν 1 ≤ 600 := hN.2.2.2.2.2
  have hN2 : ν 0 ≤ ν 2 := hN.1
  have hN3 : ν 2 < 2 ^ 20 := hN.2.2.1
  refine lv_aload_n hx hb d_H_cardAt_0 rfl (lv_at hl 0 rfl) ?_
  refine lv_iload_n hx hb d_H_cardAt_1 rfl (lv_at hl 1 rfl) ?_
  refine rd_run (c_V (As := [.int (nI c)]) (rest := []) hx hb hml hl.1 hown hT hK hP (c_H_isCard l g _ α ν χ (nI c) _ hW) kw_H_isCard w329 w331 selp_H_isCard w1 hd_H_isCard rfl rfl ⟨by decide, by decide⟩ (hw_00 hW) rfl rfl rfl (Nat.le_of_ble_eq_true rfl) d_H_cardAt_2 ⟨by decide, by decide⟩) rfl ?_
  refine lv_if_ne (tgt := 18) hx hb d_H_cardAt_5 (by decide) (fun _ => ?_) (fun hq9 => absurd hq9 (xic_1 hc hN0))
  refine lv_aload_n hx hb d_H_cardAt_18 rfl (lv_at hl 0 rfl) ?_
  refine m_get (ci := 6) (v := .ref (α 0 1 0)) hx hb hT in_H hown hK hP (hw_00 hW) rfl 0 (by decide) (hT _ w100) (fun _ h9 => h9) rfl d_H_cardAt_19 ?_
  refine lv_iload_n hx hb d_H_cardAt_22 rfl (lv_at hl 1 rfl) ?_
  refine rd_run (c_V (As := [.int (nI c)]) (rest := []) hx hb hml hl.1 hown hT hK hP (c_AL_get l g _ (α 0 1 0) (α 0 2 0) (ν 0) (ν 2) c (α 1 c 0) (χ 0 3) (fun q => if q < ν 0 then some (α 1 q 0) else none) _ (hw_01 hW) (hw_02 hW (by omega)) hc hN2 (by omega) (if_pos hc)) kw_AL_get w349 w350 w351 w4 hd_AL_get rfl rfl ⟨by decide, by decide⟩ (hw_01 hW) rfl rfl rfl (Nat.le_of_ble_eq_true rfl) d_H_cardAt_23 ⟨by decide, by decide⟩) rfl ?_
  refine va_castY (C := "LockHouse$Card") hx hb hown (hT _ w212) (hK.2.1 _ nw880) (hP.recv hK (hw_card hW hc) rfl) d_H_cardAt_26 ?_
  exact rd_aret hx hb hr (Or.inl ⟨_, rfl⟩) hlocks (rfl) d_H_cardAt_29
set_option maxHeartbeats 4000000 in
set_option maxRecDepth 100000 in
theorem c_H_doorAt (l : Launch) (g : GG) (M : MW) (α : AL3) (ν : Nat → Nat) (χ : SG) (d : Nat) (sz : Nat) (hW : HW g α ν χ M) (hd : d < 200) : Met l y_H_doorAt (k_H_doorAt :: TT) { frames := 6, cells := 0, slots := 0, locals := 100 } (Pm g [.ref (α 0 0 0), .int (nI d)] sz (M)) (Qrd (some (.ref (α 6 d 0)))) 0 0 (nofree) := by
  refine met_of (by decide) (Nat.le_of_ble_eq_true rfl) ?_
  intro pr en s mi below meth co hx hb hr hml hown hlocks hnm hT hsz hP hK ls hl
  have hl : lv_has ls 2 [(0, .ref (α 0 0 0)), (1, .int (nI d))] := hl
  refine lv_aload_n hx hb d_H_doorAt_0 rfl (lv_at hl 0 rfl) ?_
  refine lv_iload_n hx hb d_H_doorAt_1 rfl (lv_at hl 1 rfl) ?_
  refine rd_run (c_V (As := [.int (nI d)]) (rest := []) hx hb hml hl.1 hown hT hK hP (c_H_isDoor l g _ α ν χ (nI d) _ hW) kw_H_isDoor w453 w455 selp_H_isDoor w1 hd_H_isDoor rfl rfl ⟨by decide, by decide⟩ (hw_00 hW) rfl rfl rfl (Nat.le_of_ble_eq_true rfl) d_H_doorAt_2 ⟨by decide, by decide⟩) rfl ?_
  refine lv_if_ne (tgt := 18) hx hb d_H_doorAt_5 (by decide) (fun _ => ?_) (fun hq9 => absurd hq9 (xid_1 hd))
  refine lv_aload_n hx hb d_H_doorAt_18 rfl (lv_at hl 0 rfl) ?_
  refine m_get (ci := 6) (v := .ref (α 0 6 0)) hx hb hT in_H hown hK hP (hw_00 hW) rfl 2 (by decide) (hT _ w102) (fun _ h9 => h9) rfl d_H_doorAt_19 ?_
  refine lv_iload_n hx hb d_H_doorAt_22 rfl (lv_at hl 1 rfl) ?_
  refine m_aald hx hb hK hP 4 (hw_06 hW) rfl (j := d) (rfl) (hd) (by decide) (v := .ref (α 6 d 0)) (by show va_rf (if d < 200 then some (α 6 d 0) else none) = _; rw [if_pos hd]; rfl) d_H_doorAt_23 ?_
  exact rd_aret hx hb hr (Or.inl ⟨_, rfl⟩) hlocks (rfl) d_H_doorAt_24
set_option maxHeartbeats 4000000 in
set_option maxRecDepth 100000 in
theorem c_H_cards (l : Launch) (g : GG) (M : MW) (α : AL3) (ν : Nat → Nat) (χ : SG) (sz : Nat) (hW : HW g α ν χ M) : Met l y_H_cards (k_H_cards :: TT) { frames := 1, cells := 0, slots := 0, locals := 20 } (Pm g [.ref (α 0 0 0)] sz (M)) (Qrd (some (.int (nI (ν 0))))) 0 0 (nofree) := by
  refine met_of (by decide) (Nat.le_of_ble_eq_true rfl) ?_
  intro pr en s mi below meth co hx hb hr hml hown hlocks hnm hT hsz hP hK ls hl
  have hl : lv_has ls 1 [(0, .ref (α 0 0 0))] := hl
  refine lv_aload_n hx hb d_H_cards_0 rfl (lv_at hl 0 rfl) ?_
  refine m_get (ci := 6) (v := .ref (α 0 1 0)) hx hb hT in_H hown hK hP (hw_00 hW) rfl 0 (by decide) (hT _ w100) (fun _ h9 => h9) rfl d_H_cards_1 ?_
  refine rd_run (c_V (As := []) (rest := []) hx hb hml hl.1 hown hT hK hP (c_AL_size l g M (α 0 1 0) (α 0 2 0) (nI (ν 0)) (χ 0 3) s.heap.size (hw_01 hW)) kw_AL_size w123 w124 w125 w4 hd_AL_size rfl rfl ⟨by decide, by decide⟩ (hw_01 hW) rfl rfl rfl (Nat.le_of_ble_eq_true rfl) d_H_cards_4 ⟨by decide, by decide⟩) rfl ?_
  exact rd_iret hx hb hr hlocks (rfl) d_H_cards_7
set_option maxHeartbeats 4000000 in
set_option maxRecDepth 100000 in
theorem c_H_entries (l : Launch) (g : GG) (M : MW) (α : AL3) (ν : Nat → Nat) (χ : SG) (sz : Nat) (hW : HW g α ν χ M) : Met l y_H_entries (k_H_entries :: TT) { frames := 2, cells := 0, slots := 0, locals := 40 } (Pm g [.ref (α 0 0 0)] sz (M)) (Qrd (some (.int (nI (ν 1))))) 0 0 (nofree) := by
  refine met_of (by decide) (Nat.le_of_ble_eq_true rfl) ?_
  intro pr en s mi below meth co hx hb hr hml hown hlocks hnm hT hsz hP hK ls hl
  have hl : lv_has ls 1 [(0, .ref (α 0 0 0))] := hl
  refine lv_aload_n hx hb d_H_entries_0 rfl (lv_at hl 0 rfl) ?_
  refine m_get (ci := 6) (v := .ref (α 0 3 0)) hx hb hT in_H hown hK hP (hw_00 hW) rfl 1 (by decide) (hT _ w101) (fun _ h9 => h9) rfl d_H_entries_1 ?_
  refine rd_run (c_V (As := []) (rest := []) hx hb hml hl.1 hown hT hK hP (c_EL_made l g _ α ν χ _ hW) kw_EL_made w131 w132 w133 w5 hd_EL_made rfl rfl ⟨by decide, by decide⟩ (hw_03 hW) rfl rfl rfl (Nat.le_of_ble_eq_true rfl) d_H_entries_4 ⟨by decide, by decide⟩) rfl ?_
  exact rd_iret hx hb hr hlocks (rfl) d_H_entries_7
set_option maxHeartbeats 4000000 in
set_option maxRecDepth 100000 in
theorem c_H_written (l : Launch) (g : GG) (M : MW) (α : AL3) (ν : Nat → Nat) (χ : SG) (c : Nat) (sz : Nat) (hW : HW g α ν χ M) (hN : nOK ν) (hc : c < ν 0) : Met l y_H_written (k_H_written :: TT) { frames := 7, cells := 0, slots := 0, locals := 121 } (Pm g [.ref (α 0 0 0), .int (nI c)] sz (M)) (Qrd (some (.int (χ 4 c)))) 0 0 (nofree) := by
  refine met_of (by decide) (Nat.le_of_ble_eq_true rfl) ?_
  intro pr en s mi below meth co hx hb hr hml hown hlocks hnm hT hsz hP hK ls hl
  have hl : lv_has ls 2 [(0, .ref (α 0 0 0)), (1, .int (nI c))] := hl
  refine lv_aload_n hx hb d_H_written_0 rfl (lv_at hl 0 rfl) ?_
  refine lv_iload_n hx hb d_H_written_1 rfl (lv_at hl 1 rfl) ?_
  refine rd_run (c_V (As := [.int (nI c)]) (rest := []) hx hb hml hl.1 hown hT hK hP (c_H_cardAt l g _ α ν χ c _ hW hN hc) kw_H_cardAt w325 w327 selp_H_cardAt w1 hd_H_cardAt rfl rfl ⟨by decide, by decide⟩ (hw_00 hW) rfl rfl rfl (Nat.le_of_ble_eq_true rfl) d_H_written_2 ⟨by decide, by decide⟩) rfl ?_
  refine m_getN (ci := 1) (v := .int ((χ) 4 c)) hx hb hT in_Card hown hK hP (hw_card hW hc) rfl 7 (by decide) (va_Nw.use rfl (hK.2.1 _ nw241)) (fun _ h9 => h9) rfl d_H_written_5 ?_
  exact rd_iret hx hb hr hlocks (rfl) d_H_written_8
set_option maxHeartbeats 4000000 in
set_option maxRecDepth 100000 in
theorem c_H_word (l : Launch) (g : GG) (M : MW) (α : AL3) (ν : Nat → Nat) (χ : SG) (c b k : Nat) (sz : Nat) (hW : HW g α ν χ M) (hN : nOK ν) (hc : c < ν 0) (hb2 : b < 2) (hk : k < 44) : Met l y_H_word (k_H_word :: TT) { frames := 7, cells := 0, slots := 0, locals := 121 } (Pm g [.ref (α 0 0 0), .int (nI c), .int (nI b), .int (nI k)] sz (M)) (Qrd (some (.int (χ (rW c b) k)))) 0 0 (nofree) := by
  refine met_of (by decide) (Nat.le_of_ble_eq_true rfl) ?_
  intro pr en s mi below meth co hx hb hr hml hown hlocks hnm hT hsz hP hK ls hl
  have hl : lv_has ls 5 [(0, .ref (α 0 0 0)), (1, .int (nI c)), (2, .int (nI b)), (3, .int (nI k))] := hl
  refine lv_aload_n hx hb d_H_word_0 rfl (lv_at hl 0 rfl) ?_
  refine lv_iload_n hx hb d_H_word_1 rfl (lv_at hl 1 rfl) ?_
  refine rd_run (c_V (As := [.int (nI c)]) (rest := []) hx hb hml hl.1 hown hT hK hP (c_H_cardAt l g _ α ν χ c _ hW hN hc) kw_H_cardAt w325 w327 selp_H_cardAt w1 hd_H_cardAt rfl rfl ⟨by decide, by decide⟩ (hw_00 hW) rfl rfl rfl (Nat.le_of_ble_eq_true rfl) d_H_word_2 ⟨by decide, by decide⟩) rfl ?_
  refine lv_astore (lv' := [(4, .ref (α 1 c 0)), (0, .ref (α 0 0 0)), (1, .int (nI c)), (2, .int (nI b)), (3, .int (nI k))]) hx hb d_H_word_5 hl (by decide) rfl (fun ls hl => ?_)
  refine lv_iload_n hx hb d_H_word_7 rfl (lv_at hl 3 rfl) ?_
  refine lv_if_lt (tgt := 26) hx hb d_H_word_8 (by decide) (fun hq9 => absurd hq9 (nI_pos (by omega))) (fun _ => ?_)
  refine lv_iload_n hx hb d_H_word_11 rfl (lv_at hl 3 rfl) ?_
  refine lv_iconst (v := 1) hx hb d_H_word_12 (by decide) ?_
  refine lv_icmp_gt (tgt := 26) hx hb d_H_word_13 (by decide) (fun hq9 => absurd hq9 (fun q => absurd ((nI_ltI (a := 1) (by decide) (by omega)).mp q) (by omega))) (fun _ => ?_)
  refine lv_iload_n hx hb d_H_word_16 rfl (lv_at hl 4 rfl) ?_
  refine lv_if_lt (tgt := 26) hx hb d_H_word_17 (by decide) (fun hq9 => absurd hq9 (nI_pos (by omega))) (fun _ => ?_)
  refine lv_iload_n hx hb d_H_word_20 rfl (lv_at hl 4 rfl) ?_
  refine lv_bipush (v := 44) hx hb d_H_word_21 (by decide) ?_
  refine lv_icmp_lt (tgt := 36) hx hb d_H_word_23 (by decide) (fun _ => ?_) (fun hq9 => absurd (nI_lt (b := 44) hk (by decide)) hq9)
  refine lv_aload hx hb d_H_word_36 (lv_at hl 0 rfl) ?_
  refine lv_iload_n hx hb d_H_word_38 rfl (lv_at hl 3 rfl) ?_
  refine rd_run (c_V (As := [.int (nI b)]) (rest := []) hx hb hml hl.1 hown hT hK hP (c_Card_image l g _ α ν χ c b _ hW hc hb2) kw_Card_image w554 w413 w414 w13 hd_Card_image rfl rfl ⟨by decide, by decide⟩ (hw_card hW hc) rfl rfl rfl (Nat.le_of_ble_eq_true rfl) d_H_word_39 ⟨by decide, by decide⟩) rfl ?_
  refine lv_iload_n hx hb d_H_word_42 rfl (lv_at hl 4 rfl) ?_
  refine rd_run (c_V (As := [.int (nI k)]) (rest := []) hx hb hml hl.1 hown hT hK hP (c_Im_at l g _ α ν χ c b k _ hW hc hb2 hk) kw_Im_at w555 w405 w406 w14 hd_Im_at rfl rfl ⟨by decide, by decide⟩ (hw_im hW hc hb2) rfl rfl rfl (Nat.le_of_ble_eq_true rfl) d_H_word_43 ⟨by decide, by decide⟩) rfl ?_
  exact rd_iret hx hb hr hlocks (rfl) d_H_word_46
set_option maxHeartbeats 4000000 in
set_option maxRecDepth 100000 in
theorem c_H_carries_0 (l : Launch) (g : GG) (M : MW) (α : AL3) (ν : Nat → Nat) (χ : SG) (c : Nat) (sz : Nat) (hW : HW g α ν χ M) (hN : nOK ν) (hc : c < ν 0) : Met l y_H_carries (k_H_carries :: TT) { frames := 7, cells := 0, slots := 0, locals := 121 } (Pm g [.ref (α 0 0 0), .int (nI c), .int 0] sz (M)) (Qrd (some (.int (nI (xcur χ c))))) 0 0 (nofree) := by
  refine met_of (by decide) (Nat.le_of_ble_eq_true rfl) ?_
  intro pr en s mi below meth co hx hb hr hml hown hlocks hnm hT hsz hP hK ls hl
  have hl : lv_has ls 4 [(0, .ref (α 0 0 0)), (1, .int (nI c)), (2, .int 0)] := hl
  refine lv_aload_n hx hb d_H_carries_0 rfl (lv_at hl 0 rfl) ?_
  refine lv_iload_n hx hb d_H_carries_1 rfl (lv_at hl 1 rfl) ?_
  refine rd_run (c_V (As := [.int (nI c)]) (rest := []) hx hb hml hl.1 hown hT hK hP (c_H_cardAt l g _ α ν χ c _ hW hN hc) kw_H_cardAt w325 w327 selp_H_cardAt w1 hd_H_cardAt rfl rfl ⟨by decide, by decide⟩ (hw_00 hW) rfl rfl rfl (Nat.le_of_ble_eq_true rfl) d_H_carries_2 ⟨by decide, by decide⟩) rfl ?_
  refine lv_astore_n (lv' := [(3, .ref (α 1 c 0)), (0, .ref (α 0 0 0)), (1, .int (nI c)), (2, .int 0)]) hx hb d_H_carries_5 rfl hl (by decide) rfl (fun ls hl => ?_)
  refine lv_iload_n hx hb d_H_carries_6 rfl (lv_at hl 3 rfl) ?_
  refine lv_tableIn (tgt := 36) hx hb d_H_carries_7 (by decide) (by decide) rfl (by decide) ?_
  refine lv_aload_n hx hb d_H_carries_36 rfl (lv_at hl 0 rfl) ?_
  refine rd_run (c_V (As := []) (rest := []) hx hb hml hl.1 hown hT hK hP (c_Card_currentIndex l g _ α ν χ c _ hW hc) kw_Card_currentIndex w563 w397 w398 w13 hd_Card_currentIndex rfl rfl ⟨by decide, by decide⟩ (hw_card hW hc) rfl rfl rfl (Nat.le_of_ble_eq_true rfl) d_H_carries_37 ⟨by decide, by decide⟩) rfl ?_
  exact rd_iret hx hb hr hlocks (rfl) d_H_carries_40
set_option maxHeartbeats 4000000 in
set_option maxRecDepth 100000 in
theorem c_H_carries_1 (l : Launch) (g : GG) (M : MW) (α : AL3) (ν : Nat → Nat) (χ : SG) (c : Nat) (sz : Nat) (hW : HW g α ν χ M) (hN : nOK ν) (hc : c < ν 0) : Met l y_H_carries (k_H_carries :: TT) { frames := 7, cells := 0, slots := 0, locals := 121 } (Pm g [.ref (α 0 0 0), .int (nI c), .int 1] sz (M)) (Qrd (some (.int (xcn χ c (xcur χ c))))) 0 0 (nofree) := by
  refine met_of (by decide) (Nat.le_of_ble_eq_true rfl) ?_
  intro pr en s mi below meth co hx hb hr hml hown hlocks hnm hT hsz hP hK ls hl
  have hl : lv_has ls 4 [(0, .ref (α 0 0 0)), (1, .int (nI c)), (2, .int 1)] := hl
  refine lv_aload_n hx hb d_H_carries_0 rfl (lv_at hl 0 rfl) ?_
  refine lv_iload_n hx hb d_H_carries_1 rfl (lv_at hl 1 rfl) ?_
  refine rd_run (c_V (As := [.int (nI c)]) (rest := []) hx hb hml hl.1 hown hT hK hP (c_H_cardAt l g _ α ν χ c _ hW hN hc) kw_H_cardAt w325 w327 selp_H_cardAt w1 hd_H_cardAt rfl rfl ⟨by decide, by decide⟩ (hw_00 hW) rfl rfl rfl (Nat.le_of_ble_eq_true rfl) d_H_carries_2 ⟨by decide, by decide⟩) rfl ?_
  refine lv_astore_n (lv' := [(3, .ref (α 1 c 0)), (0, .ref (α 0 0 0)), (1, .int (nI c)), (2, .int 1)]) hx hb d_H_carries_5 rfl hl (by decide) rfl (fun ls hl => ?_)
  refine lv_iload_n hx hb d_H_carries_6 rfl (lv_at hl 3 rfl) ?_
  refine lv_tableIn (tgt := 41) hx hb d_H_carries_7 (by decide) (by decide) rfl (by decide) ?_
  refine lv_aload_n hx hb d_H_carries_41 rfl (lv_at hl 0 rfl) ?_
  refine rd_run (c_V (As := []) (rest := []) hx hb hml hl.1 hown hT hK hP (c_Card_current l g _ α ν χ c _ hW hc) kw_Card_current w486 w487 w488 w13 hd_Card_current rfl rfl ⟨by decide, by decide⟩ (hw_card hW hc) rfl rfl rfl (Nat.le_of_ble_eq_true rfl) d_H_carries_42 ⟨by decide, by decide⟩) rfl ?_
  refine rd_run (c_V (As := []) (rest := []) hx hb hml hl.1 hown hT hK hP (c_Im_count l g _ α ν χ c (xcur χ c) _ hW hc (xcur_lt χ c)) kw_Im_count w564 w421 w422 w14 hd_Im_count rfl rfl ⟨by decide, by decide⟩ (hw_im hW hc (xcur_lt χ c)) rfl rfl rfl (Nat.le_of_ble_eq_true rfl) d_H_carries_45 ⟨by decide, by decide⟩) rfl ?_
  exact rd_iret hx hb hr hlocks (rfl) d_H_carries_48
set_option maxHeartbeats 4000000 in
set_option maxRecDepth 100000 in
theorem c_H_carries_2 (l : Launch) (g : GG) (M : MW) (α : AL3) (ν : Nat → Nat) (χ : SG) (c : Nat) (sz : Nat) (hW : HW g α ν χ M) (hN : nOK ν) (hc : c < ν 0) : Met l y_H_carries (k_H_carries :: TT) { frames := 7, cells := 0, slots := 0, locals := 121 } (Pm g [.ref (α 0 0 0), .int (nI c), .int 2] sz (M)) (Qrd (some (.int (χ (rW c (xcur χ c)) 1)))) 0 0 (nofree) := by
  refine met_of (by decide) (Nat.le_of_ble_eq_true rfl) ?_
  intro pr en s mi below meth co hx hb hr hml hown hlocks hnm hT hsz hP hK ls hl
  have hl : lv_has ls 4 [(0, .ref (α 0 0 0)), (1, .int (nI c)), (2, .int 2)] := hl
  refine lv_aload_n hx hb d_H_carries_0 rfl (lv_at hl 0 rfl) ?_
  refine lv_iload_n hx hb d_H_carries_1 rfl (lv_at hl 1 rfl) ?_
  refine rd_run (c_V (As := [.int (nI c)]) (rest := []) hx hb hml hl.1 hown hT hK hP (c_H_cardAt l g _ α ν χ c _ hW hN hc) kw_H_cardAt w325 w327 selp_H_cardAt w1 hd_H_cardAt rfl rfl ⟨by decide, by decide⟩ (hw_00 hW) rfl rfl rfl (Nat.le_of_ble_eq_true rfl) d_H_carries_2 ⟨by decide, by decide⟩) rfl ?_
  refine lv_astore_n (lv' := [(3, .ref (α 1 c 0)), (0, .ref (α 0 0 0)), (1, .int (nI c)), (2, .int 2)]) hx hb d_H_carries_5 rfl hl (by decide) rfl (fun ls hl => ?_)
  refine lv_iload_n hx hb d_H_carries_6 rfl (lv_at hl 3 rfl) ?_
  refine lv_tableIn (tgt := 49) hx hb d_H_carries_7 (by decide) (by decide) rfl (by decide) ?_
  refine lv_aload_n hx hb d_H_carries_49 rfl (lv_at hl 0 rfl) ?_
  refine rd_run (c_V (As := []) (rest := []) hx hb hml hl.1 hown hT hK hP (c_Card_current l g _ α ν χ c _ hW hc) kw_Card_current w486 w487 w488 w13 hd_Card_current rfl rfl ⟨by decide, by decide⟩ (hw_card hW hc) rfl rfl rfl (Nat.le_of_ble_eq_true rfl) d_H_carries_50 ⟨by decide, by decide⟩) rfl ?_
  refine lv_iconst (v := 1) hx hb d_H_carries_53 (by decide) ?_
  refine rd_run (c_V (As := [.int 1]) (rest := []) hx hb hml hl.1 hown hT hK hP (c_Im_at l g _ α ν χ c (xcur χ c) 1 _ hW hc (xcur_lt χ c) (by decide)) kw_Im_at w555 w405 w406 w14 hd_Im_at rfl rfl ⟨by decide, by decide⟩ (hw_im hW hc (xcur_lt χ c)) rfl rfl rfl (Nat.le_of_ble_eq_true rfl) d_H_carries_54 ⟨by decide, by decide⟩) rfl ?_
  exact rd_iret hx hb hr hlocks (rfl) d_H_carries_57
set_option maxHeartbeats 4000000 in
set_option maxRecDepth 100000 in
theorem c_H_carries_3 (l : Launch) (g : GG) (M : MW) (α : AL3) (ν : Nat → Nat) (χ : SG) (c : Nat) (sz : Nat) (hW : HW g α ν χ M) (hN : nOK ν) (hc : c < ν 0) : Met l y_H_carries (k_H_carries :: TT) { frames := 7, cells := 0, slots := 0, locals := 121 } (Pm g [.ref (α 0 0 0), .int (nI c), .int 3] sz (M)) (Qrd (some (.int (χ (rW c (xcur χ c)) 2)))) 0 0 (nofree) := by
  refine met_of (by decide) (Nat.le_of_ble_eq_true rfl) ?_
  intro pr en s mi below meth co hx hb hr hml hown hlocks hnm hT hsz hP hK ls hl
  have hl : lv_has ls 4 [(0, .ref (α 0 0 0)), (1, .int (nI c)), (2, .int 3)] := hl
  refine lv_aload_n hx hb d_H_carries_0 rfl (lv_at hl 0 rfl) ?_
  refine lv_iload_n hx hb d_H_carries_1 rfl (lv_at hl 1 rfl) ?_
  refine rd_run (c_V (As := [.int (nI c)]) (rest := []) hx hb hml hl.1 hown hT hK hP (c_H_cardAt l g _ α ν χ c _ hW hN hc) kw_H_cardAt w325 w327 selp_H_cardAt w1 hd_H_cardAt rfl rfl ⟨by decide, by decide⟩ (hw_00 hW) rfl rfl rfl (Nat.le_of_ble_eq_true rfl) d_H_carries_2 ⟨by decide, by decide⟩) rfl ?_
  refine lv_astore_n (lv' := [(3, .ref (α 1 c 0)), (0, .ref (α 0 0 0)), (1, .int (nI c)), (2, .int 3)]) hx hb d_H_carries_5 rfl hl (by decide) rfl (fun ls hl => ?_)
  refine lv_iload_n hx hb d_H_carries_6 rfl (lv_at hl 3 rfl) ?_
  refine lv_tableIn (tgt := 58) hx hb d_H_carries_7 (by decide) (by decide) rfl (by decide) ?_
  refine lv_aload_n hx hb d_H_carries_58 rfl (lv_at hl 0 rfl) ?_
  refine rd_run (c_V (As := []) (rest := []) hx hb hml hl.1 hown hT hK hP (c_Card_current l g _ α ν χ c _ hW hc) kw_Card_current w486 w487 w488 w13 hd_Card_current rfl rfl ⟨by decide, by decide⟩ (hw_card hW hc) rfl rfl rfl (Nat.le_of_ble_eq_true rfl) d_H_carries_59 ⟨by decide, by decide⟩) rfl ?_
  refine lv_iconst (v := 2) hx hb d_H_carries_62 (by decide) ?_
  refine rd_run (c_V (As := [.int 2]) (rest := []) hx hb hml hl.1 hown hT hK hP (c_Im_at l g _ α ν χ c (xcur χ c) 2 _ hW hc (xcur_lt χ c) (by decide)) kw_Im_at w555 w405 w406 w14 hd_Im_at rfl rfl ⟨by decide, by decide⟩ (hw_im hW hc (xcur_lt χ c)) rfl rfl rfl (Nat.le_of_ble_eq_true rfl) d_H_carries_63 ⟨by decide, by decide⟩) rfl ?_
  exact rd_iret hx hb hr hlocks (rfl) d_H_carries_66
set_option maxHeartbeats 4000000 in
set_option maxRecDepth 100000 in
theorem c_H_memory (l : Launch) (g : GG) (M : MW) (α : AL3) (ν : Nat → Nat) (χ : SG) (c i n : Nat) (sz : Nat) (hW : HW g α ν χ M) (hN : nOK ν) (hc : c < ν 0) (hn : xcn χ c (xcur χ c) = nI n) (hn4 : n ≤ 40) (hi : i < n) : Met l y_H_memory (k_H_memory :: TT) { frames := 7, cells := 0, slots := 0, locals := 121 } (Pm g [.ref (α 0 0 0), .int (nI c), .int (nI i)] sz (M)) (Qrd (some (.int (χ (rW c (xcur χ c)) (3 + i))))) 0 0 (nofree) := by
  refine met_of (by decide) (Nat.le_of_ble_eq_true rfl) ?_
  intro pr en s mi below meth co hx hb hr hml hown hlocks hnm hT hsz hP hK ls hl
  have hl : lv_has ls 4 [(0, .ref (α 0 0 0)), (1, .int (nI c)), (2, .int (nI i))] := hl
  refine lv_aload_n hx hb d_H_memory_0 rfl (lv_at hl 0 rfl) ?_
  refine lv_iload_n hx hb d_H_memory_1 rfl (lv_at hl 1 rfl) ?_
  refine rd_run (c_V (As := [.int (nI c)]) (rest := []) hx hb hml hl.1 hown hT hK hP (c_H_cardAt l g _ α ν χ c _ hW hN hc) kw_H_cardAt w325 w327 selp_H_cardAt w1 hd_H_cardAt rfl rfl ⟨by decide, by decide⟩ (hw_00 hW) rfl rfl rfl (Nat.le_of_ble_eq_true rfl) d_H_memory_2 ⟨by decide, by decide⟩) rfl ?_
  refine rd_run (c_V (As := []) (rest := []) hx hb hml hl.1 hown hT hK hP (c_Card_current l g _ α ν χ c _ hW hc) kw_Card_current w486 w487 w488 w13 hd_Card_current rfl rfl ⟨by decide, by decide⟩ (hw_card hW hc) rfl rfl rfl (Nat.le_of_ble_eq_true rfl) d_H_memory_5 ⟨by decide, by decide⟩) rfl ?_
  refine lv_astore_n (lv' := [(3, .ref (α 2 c (xcur χ c))), (0, .ref (α 0 0 0)), (1, .int (nI c)), (2, .int (nI i))]) hx hb d_H_memory_8 rfl hl (by decide) rfl (fun ls hl => ?_)
  refine lv_iload_n hx hb d_H_memory_9 rfl (lv_at hl 3 rfl) ?_
  refine lv_if_lt (tgt := 21) hx hb d_H_memory_10 (by decide) (fun hq9 => absurd hq9 (nI_pos (by omega))) (fun _ => ?_)
  refine lv_iload_n hx hb d_H_memory_13 rfl (lv_at hl 3 rfl) ?_
  refine lv_aload_n hx hb d_H_memory_14 rfl (lv_at hl 0 rfl) ?_
  refine rd_run (c_V (As := []) (rest := [.int (nI i)]) hx hb hml hl.1 hown hT hK hP (c_Im_count l g _ α ν χ c (xcur χ c) _ hW hc (xcur_lt χ c)) kw_Im_count w564 w421 w422 w14 hd_Im_count rfl rfl ⟨by decide, by decide⟩ (hw_im hW hc (xcur_lt χ c)) rfl rfl rfl (Nat.le_of_ble_eq_true rfl) d_H_memory_15 ⟨by decide, by decide⟩) rfl ?_
  refine lv_icmp_lt (tgt := 31) hx hb d_H_memory_18 (by decide) (fun _ => ?_) (fun hq9 => absurd (by rw [hn]; exact nI_lt hi (by omega)) hq9)
  refine lv_aload_n hx hb d_H_memory_31 rfl (lv_at hl 0 rfl) ?_
  refine lv_iconst (v := 3) hx hb d_H_memory_32 (by decide) ?_
  refine lv_iload_n hx hb d_H_memory_33 rfl (lv_at hl 3 rfl) ?_
  refine lv_iadd hx hb d_H_memory_34 ?_
  rw [show (3 + (nI i)) = nI (3 + i) from nI_add 3 i]
  refine rd_run (c_V (As := [.int (nI (3 + i))]) (rest := []) hx hb hml hl.1 hown hT hK hP (c_Im_at l g _ α ν χ c (xcur χ c) (3 + i) _ hW hc (xcur_lt χ c) (by omega)) kw_Im_at w555 w405 w406 w14 hd_Im_at rfl rfl ⟨by decide, by decide⟩ (hw_im hW hc (xcur_lt χ c)) rfl rfl rfl (Nat.le_of_ble_eq_true rfl) d_H_memory_35 ⟨by decide, by decide⟩) rfl ?_
  exact rd_iret hx hb hr hlocks (rfl) d_H_memory_38
set_option maxHeartbeats 4000000 in
set_option maxRecDepth 100000 in
theorem c_H_about_0 (l : Launch) (g : GG) (M : MW) (α : AL3) (ν : Nat → Nat) (χ : SG) (d : Nat) (sz : Nat) (hW : HW g α ν χ M) (hN : nOK ν) (hd : d < 200) : Met l y_H_about (k_H_about :: TT) { frames := 7, cells := 0, slots := 0, locals := 153 } (Pm g [.ref (α 0 0 0), .int (nI d), .int 0] sz (M)) (Qrd (some (.int (nI (xeF ν χ d (ν 1) 0))))) 0 0 (nofree) := by
  refine met_of (by decide) (Nat.le_of_ble_eq_true rfl) ?_
  intro pr en s mi below meth co hx hb hr hml hown hlocks hnm hT hsz hP hK ls hl
  have hl : lv_has ls 4 [(0, .ref (α 0 0 0)), (1, .int (nI d)), (2, .int 0)] := hl
  refine lv_aload_n hx hb d_H_about_0 rfl (lv_at hl 0 rfl) ?_
  refine lv_iload_n hx hb d_H_about_1 rfl (lv_at hl 1 rfl) ?_
  refine rd_run (c_V (As := [.int (nI d)]) (rest := []) hx hb hml hl.1 hown hT hK hP (c_H_doorAt l g _ α ν χ d _ hW hd) kw_H_doorAt w449 w451 selp_H_doorAt w1 hd_H_doorAt rfl rfl ⟨by decide, by decide⟩ (hw_00 hW) rfl rfl rfl (Nat.le_of_ble_eq_true rfl) d_H_about_2 ⟨by decide, by decide⟩) rfl ?_
  refine lv_astore_n (lv' := [(3, .ref (α 6 d 0)), (0, .ref (α 0 0 0)), (1, .int (nI d)), (2, .int 0)]) hx hb d_H_about_5 rfl hl (by decide) rfl (fun ls hl => ?_)
  refine lv_iload_n hx hb d_H_about_6 rfl (lv_at hl 3 rfl) ?_
  refine lv_tableIn (tgt := 40) hx hb d_H_about_7 (by decide) (by decide) rfl (by decide) ?_
  refine lv_aload_n hx hb d_H_about_40 rfl (lv_at hl 0 rfl) ?_
  refine lv_aload_n hx hb d_H_about_41 rfl (lv_at hl 1 rfl) ?_
  refine m_get (ci := 6) (v := .ref (α 0 3 0)) hx hb hT in_H hown hK hP (hw_00 hW) rfl 1 (by decide) (hT _ w101) (fun _ h9 => h9) rfl d_H_about_42 ?_
  refine rd_run (c_V (As := [.ref (α 0 3 0)]) (rest := []) hx hb hml hl.1 hown hT hK hP (c_Door_complete l g _ α ν χ d _ hW hN hd) kw_Door_complete w581 w582 w583 w6 hd_Door_complete rfl rfl ⟨by decide, by decide⟩ (hw_dr hW hd) rfl rfl rfl (Nat.le_of_ble_eq_true rfl) d_H_about_45 ⟨by decide, by decide⟩) rfl ?_
  exact rd_iret hx hb hr hlocks (rfl) d_H_about_48
set_option maxHeartbeats 4000000 in
set_option maxRecDepth 100000 in
theorem c_H_about_1 (l : Launch) (g : GG) (M : MW) (α : AL3) (ν : Nat → Nat) (χ : SG) (d : Nat) (sz : Nat) (hW : HW g α ν χ M) (hN : nOK ν) (hd : d < 200) : Met l y_H_about (k_H_about :: TT) { frames := 7, cells := 0, slots := 0, locals := 153 } (Pm g [.ref (α 0 0 0), .int (nI d), .int 1] sz (M)) (Qrd (some (.int (mxJ (χ 17 d) (χ 11 d))))) 0 0 (nofree) := by
  refine met_of (by decide) (Nat.le_of_ble_eq_true rfl) ?_
  intro pr en s mi below meth co hx hb hr hml hown hlocks hnm hT hsz hP hK ls hl
  have hl : lv_has ls 4 [(0, .ref (α 0 0 0)), (1, .int (nI d)), (2, .int 1)] := hl
  refine lv_aload_n hx hb d_H_about_0 rfl (lv_at hl 0 rfl) ?_
  refine lv_iload_n hx hb d_H_about_1 rfl (lv_at hl 1 rfl) ?_
  refine rd_run (c_V (As := [.int (nI d)]) (rest := []) hx hb hml hl.1 hown hT hK hP (c_H_doorAt l g _ α ν χ d _ hW hd) kw_H_doorAt w449 w451 selp_H_doorAt w1 hd_H_doorAt rfl rfl ⟨by decide, by decide⟩ (hw_00 hW) rfl rfl rfl (Nat.le_of_ble_eq_true rfl) d_H_about_2 ⟨by decide, by decide⟩) rfl ?_
  refine lv_astore_n (lv' := [(3, .ref (α 6 d 0)), (0, .ref (α 0 0 0)), (1, .int (nI d)), (2, .int 1)]) hx hb d_H_about_5 rfl hl (by decide) rfl (fun ls hl => ?_)
  refine lv_iload_n hx hb d_H_about_6 rfl (lv_at hl 3 rfl) ?_
  refine lv_tableIn (tgt := 49) hx hb d_H_about_7 (by decide) (by decide) rfl (by decide) ?_
  refine lv_aload_n hx hb d_H_about_49 rfl (lv_at hl 0 rfl) ?_
  refine m_getN (ci := 2) (v := .int ((χ) 17 d)) hx hb hT in_Door hown hK hP (hw_dr hW hd) rfl 3 (by decide) (va_Nw.use rfl (hK.2.1 _ nw82)) (fun _ h9 => h9) rfl d_H_about_50 ?_
  refine lv_aload_n hx hb d_H_about_53 rfl (lv_at hl 0 rfl) ?_
  refine m_getN (ci := 2) (v := .int ((χ) 11 d)) hx hb hT in_Door hown hK hP (hw_dr hW hd) rfl 2 (by decide) (va_Nw.use rfl (hK.2.1 _ nw80)) (fun _ h9 => h9) rfl d_H_about_54 ?_
  refine va_mmax hx hb (hml.trans hl.1.symm) hown (hT _ w590) (hT _ w279) (hT _ w16) (hT _ w280) (by decide) (Nat.le_of_ble_eq_true rfl) (by decide) (by decide) d_H_about_57 ?_
  refine W.eq (g2 := F0 mi 60 ls [.int (mxJ ((χ) 17 d) ((χ) 11 d))]) rfl ?_
  exact rd_iret hx hb hr hlocks (rfl) d_H_about_60
set_option maxHeartbeats 4000000 in
set_option maxRecDepth 100000 in
theorem c_H_about_2 (l : Launch) (g : GG) (M : MW) (α : AL3) (ν : Nat → Nat) (χ : SG) (d : Nat) (sz : Nat) (hW : HW g α ν χ M) (hN : nOK ν) (hd : d < 200) : Met l y_H_about (k_H_about :: TT) { frames := 7, cells := 0, slots := 0, locals := 153 } (Pm g [.ref (α 0 0 0), .int (nI d), .int 2] sz (M)) (Qrd (some (.int (mxJ (χ 11 d - nI (xeF ν χ d (ν 1) 0)) 0)))) 0 0 (nofree) := by
  refine met_of (by decide) (Nat.le_of_ble_eq_true rfl) ?_
  intro pr en s mi below meth co hx hb hr hml hown hlocks hnm hT hsz hP hK ls hl
  have hl : lv_has ls 4 [(0, .ref (α 0 0 0)), (1, .int (nI d)), (2, .int 2)] := hl
  refine lv_aload_n hx hb d_H_about_0 rfl (lv_at hl 0 rfl) ?_
  refine lv_iload_n hx hb d_H_about_1 rfl (lv_at hl 1 rfl) ?_
  refine rd_run (c_V (As := [.int (nI d)]) (rest := []) hx hb hml hl.1 hown hT hK hP (c_H_doorAt l g _ α ν χ d _ hW hd) kw_H_doorAt w449 w451 selp_H_doorAt w1 hd_H_doorAt rfl rfl ⟨by decide, by decide⟩ (hw_00 hW) rfl rfl rfl (Nat.le_of_ble_eq_true rfl) d_H_about_2 ⟨by decide, by decide⟩) rfl ?_
  refine lv_astore_n (lv' := [(3, .ref (α 6 d 0)), (0, .ref (α 0 0 0)), (1, .int (nI d)), (2, .int 2)]) hx hb d_H_about_5 rfl hl (by decide) rfl (fun ls hl => ?_)
  refine lv_iload_n hx hb d_H_about_6 rfl (lv_at hl 3 rfl) ?_
  refine lv_tableIn (tgt := 61) hx hb d_H_about_7 (by decide) (by decide) rfl (by decide) ?_
  refine lv_aload_n hx hb d_H_about_61 rfl (lv_at hl 0 rfl) ?_
  refine m_getN (ci := 2) (v := .int ((χ) 11 d)) hx hb hT in_Door hown hK hP (hw_dr hW hd) rfl 2 (by decide) (va_Nw.use rfl (hK.2.1 _ nw80)) (fun _ h9 => h9) rfl d_H_about_62 ?_
  refine lv_aload_n hx hb d_H_about_65 rfl (lv_at hl 0 rfl) ?_
  refine lv_aload_n hx hb d_H_about_66 rfl (lv_at hl 1 rfl) ?_
  refine m_get (ci := 6) (v := .ref (α 0 3 0)) hx hb hT in_H hown hK hP (hw_00 hW) rfl 1 (by decide) (hT _ w101) (fun _ h9 => h9) rfl d_H_about_67 ?_
  refine rd_run (c_V (As := [.ref (α 0 3 0)]) (rest := [.int ((χ) 11 d)]) hx hb hml hl.1 hown hT hK hP (c_Door_complete l g _ α ν χ d _ hW hN hd) kw_Door_complete w581 w582 w583 w6 hd_Door_complete rfl rfl ⟨by decide, by decide⟩ (hw_dr hW hd) rfl rfl rfl (Nat.le_of_ble_eq_true rfl) d_H_about_70 ⟨by decide, by decide⟩) rfl ?_
  refine lv_isub hx hb d_H_about_73 ?_
  refine lv_iconst (v := 0) hx hb d_H_about_74 (by decide) ?_
  refine va_mmax hx hb (hml.trans hl.1.symm) hown (hT _ w590) (hT _ w279) (hT _ w16) (hT _ w280) (by decide) (Nat.le_of_ble_eq_true rfl) (by decide) (by decide) d_H_about_75 ?_
  refine W.eq (g2 := F0 mi 78 ls [.int (mxJ (((χ) 11 d) - (nI (xeF ν χ d (ν 1) 0))) 0)]) rfl ?_
  exact rd_iret hx hb hr hlocks (rfl) d_H_about_78
set_option maxHeartbeats 4000000 in
set_option maxRecDepth 100000 in
theorem c_H_about_3 (l : Launch) (g : GG) (M : MW) (α : AL3) (ν : Nat → Nat) (χ : SG) (d : Nat) (sz : Nat) (hW : HW g α ν χ M) (hN : nOK ν) (hd : d < 200) : Met l y_H_about (k_H_about :: TT) { frames := 7, cells := 0, slots := 0, locals := 153 } (Pm g [.ref (α 0 0 0), .int (nI d), .int 3] sz (M)) (Qrd (some (.int (nI (xmF ν χ d (ν 1)))))) 0 0 (nofree) := by
  refine met_of (by decide) (Nat.le_of_ble_eq_true rfl) ?_
  intro pr en s mi below meth co hx hb hr hml hown hlocks hnm hT hsz hP hK ls hl
  have hl : lv_has ls 4 [(0, .ref (α 0 0 0)), (1, .int (nI d)), (2, .int 3)] := hl
  refine lv_aload_n hx hb d_H_about_0 rfl (lv_at hl 0 rfl) ?_
  refine lv_iload_n hx hb d_H_about_1 rfl (lv_at hl 1 rfl) ?_
  refine rd_run (c_V (As := [.int (nI d)]) (rest := []) hx hb hml hl.1 hown hT hK hP (c_H_doorAt l g _ α ν χ d _ hW hd) kw_H_doorAt w449 w451 selp_H_doorAt w1 hd_H_doorAt rfl rfl ⟨by decide, by decide⟩ (hw_00 hW) rfl rfl rfl (Nat.le_of_ble_eq_true rfl) d_H_about_2 ⟨by decide, by decide⟩) rfl ?_
  refine lv_astore_n (lv' := [(3, .ref (α 6 d 0)), (0, .ref (α 0 0 0)), (1, .int (nI d)), (2, .int 3)]) hx hb d_H_about_5 rfl hl (by decide) rfl (fun ls hl => ?_)
  refine lv_iload_n hx hb d_H_about_6 rfl (lv_at hl 3 rfl) ?_
  refine lv_tableIn (tgt := 79) hx hb d_H_about_7 (by decide) (by decide) rfl (by decide) ?_
  refine lv_aload_n hx hb d_H_about_79 rfl (lv_at hl 0 rfl) ?_
  refine lv_aload_n hx hb d_H_about_80 rfl (lv_at hl 1 rfl) ?_
  refine m_get (ci := 6) (v := .ref (α 0 3 0)) hx hb hT in_H hown hK hP (hw_00 hW) rfl 1 (by decide) (hT _ w101) (fun _ h9 => h9) rfl d_H_about_81 ?_
  refine rd_run (c_V (As := [.ref (α 0 3 0)]) (rest := []) hx hb hml hl.1 hown hT hK hP (c_Door_countEntries l g _ α ν χ d _ hW hN hd) kw_Door_countEntries w591 w592 w593 w6 hd_Door_countEntries rfl rfl ⟨by decide, by decide⟩ (hw_dr hW hd) rfl rfl rfl (Nat.le_of_ble_eq_true rfl) d_H_about_84 ⟨by decide, by decide⟩) rfl ?_
  exact rd_iret hx hb hr hlocks (rfl) d_H_about_87
set_option maxHeartbeats 4000000 in
set_option maxRecDepth 100000 in
theorem c_H_about_4 (l : Launch) (g : GG) (M : MW) (α : AL3) (ν : Nat → Nat) (χ : SG) (d : Nat) (sz : Nat) (hW : HW g α ν χ M) (hN : nOK ν) (hd : d < 200) : Met l y_H_about (k_H_about :: TT) { frames := 7, cells := 0, slots := 0, locals := 153 } (Pm g [.ref (α 0 0 0), .int (nI d), .int 4] sz (M)) (Qrd (some (.int (nI (xrF ν χ d (ν 1)))))) 0 0 (nofree) := by
  refine met_of (by decide) (Nat.le_of_ble_eq_true rfl) ?_
  intro pr en s mi below meth co hx hb hr hml hown hlocks hnm hT hsz hP hK ls hl
  have hl : lv_has ls 4 [(0, .ref (α 0 0 0)), (1, .int (nI d)), (2, .int 4)] := hl
  refine lv_aload_n hx hb d_H_about_0 rfl (lv_at hl 0 rfl) ?_
  refine lv_iload_n hx hb d_H_about_1 rfl (lv_at hl 1 rfl) ?_
  refine rd_run (c_V (As := [.int (nI d)]) (rest := []) hx hb hml hl.1 hown hT hK hP (c_H_doorAt l g _ α ν χ d _ hW hd) kw_H_doorAt w449 w451 selp_H_doorAt w1 hd_H_doorAt rfl rfl ⟨by decide, by decide⟩ (hw_00 hW) rfl rfl rfl (Nat.le_of_ble_eq_true rfl) d_H_about_2 ⟨by decide, by decide⟩) rfl ?_
  refine lv_astore_n (lv' := [(3, .ref (α 6 d 0)), (0, .ref (α 0 0 0)), (1, .int (nI d)), (2, .int 4)]) hx hb d_H_about_5 rfl hl (by decide) rfl (fun ls hl => ?_)
  refine lv_iload_n hx hb d_H_about_6 rfl (lv_at hl 3 rfl) ?_
  refine lv_tableIn (tgt := 88) hx hb d_H_about_7 (by decide) (by decide) rfl (by decide) ?_
  refine lv_aload_n hx hb d_H_about_88 rfl (lv_at hl 0 rfl) ?_
  refine lv_aload_n hx hb d_H_about_89 rfl (lv_at hl 1 rfl) ?_
  refine m_get (ci := 6) (v := .ref (α 0 3 0)) hx hb hT in_H hown hK hP (hw_00 hW) rfl 1 (by decide) (hT _ w101) (fun _ h9 => h9) rfl d_H_about_90 ?_
  refine rd_run (c_V (As := [.ref (α 0 3 0)]) (rest := []) hx hb hml hl.1 hown hT hK hP (c_Door_countRuns l g _ α ν χ d _ hW hN hd) kw_Door_countRuns w595 w596 w597 w6 hd_Door_countRuns rfl rfl ⟨by decide, by decide⟩ (hw_dr hW hd) rfl rfl rfl (Nat.le_of_ble_eq_true rfl) d_H_about_93 ⟨by decide, by decide⟩) rfl ?_
  exact rd_iret hx hb hr hlocks (rfl) d_H_about_96
set_option maxHeartbeats 4000000 in
set_option maxRecDepth 100000 in
theorem c_H_run (l : Launch) (g : GG) (M : MW) (α : AL3) (ν : Nat → Nat) (χ : SG) (d i k0 : Nat) (b : Int32) (sz : Nat) (hW : HW g α ν χ M) (hN : nOK ν) (hd : d < 200) (hr1 : xRun ν χ d i k0) (hk0 : k0 ≤ ν 1) (hk1 : 1 ≤ k0) : Met l y_H_run (k_H_run :: TT) { frames := 7, cells := 0, slots := 0, locals := 154 } (Pm g [.ref (α 0 0 0), .int (nI d), .int (nI i), .int b] sz (M)) (Qrd (some (.int (if b = 0 then nI (xeF ν χ d (ν 1 - k0) k0) else nI k0)))) 0 0 (nofree) := by
  refine met_of (by decide) (Nat.le_of_ble_eq_true rfl) ?_
  intro pr en s mi below meth co hx hb hr hml hown hlocks hnm hT hsz hP hK ls hl
  have hl : lv_has ls 6 [(0, .ref (α 0 0 0)), (1, .int (nI d)), (2, .int (nI i)), (3, .int b)] := hl
  have hN0 : ν 0 ≤ 600 := hN.2.2.2.2.1
  have hN1 : ν 1 ≤ 600 := hN.2.2.2.2.2
  have hN2 : ν 0 ≤ ν 2 := hN.1
  have hN3 : ν 2 < 2 ^ 20 := hN.2.2.1
  refine lv_aload_n hx hb d_H_run_0 rfl (lv_at hl 0 rfl) ?_
  refine lv_iload_n hx hb d_H_run_1 rfl (lv_at hl 1 rfl) ?_
  refine rd_run (c_V (As := [.int (nI d)]) (rest := []) hx hb hml hl.1 hown hT hK hP (c_H_doorAt l g _ α ν χ d _ hW hd) kw_H_doorAt w449 w451 selp_H_doorAt w1 hd_H_doorAt rfl rfl ⟨by decide, by decide⟩ (hw_00 hW) rfl rfl rfl (Nat.le_of_ble_eq_true rfl) d_H_run_2 ⟨by decide, by decide⟩) rfl ?_
  refine lv_astore (lv' := [(4, .ref (α 6 d 0)), (0, .ref (α 0 0 0)), (1, .int (nI d)), (2, .int (nI i)), (3, .int b)]) hx hb d_H_run_5 hl (by decide) rfl (fun ls hl => ?_)
  refine lv_aload hx hb d_H_run_7 (lv_at hl 0 rfl) ?_
  refine lv_iload_n hx hb d_H_run_9 rfl (lv_at hl 3 rfl) ?_
  refine lv_aload_n hx hb d_H_run_10 rfl (lv_at hl 1 rfl) ?_
  refine m_get (ci := 6) (v := .ref (α 0 3 0)) hx hb hT in_H hown hK hP (hw_00 hW) rfl 1 (by decide) (hT _ w101) (fun _ h9 => h9) rfl d_H_run_11 ?_
  refine rd_run (c_V (As := [.int (nI i), .ref (α 0 3 0)]) (rest := []) hx hb hml hl.1 hown hT hK hP (c_Door_startOfRun l g _ α ν χ d i k0 _ hW hN hd hr1 hk0 hk1) kw_Door_startOfRun w611 w612 w613 w6 hd_Door_startOfRun rfl rfl ⟨by decide, by decide⟩ (hw_dr hW hd) rfl rfl rfl (Nat.le_of_ble_eq_true rfl) d_H_run_14 ⟨by decide, by decide⟩) rfl ?_
  refine lv_istore (lv' := [(5, .int (nI k0)), (4, .ref (α 6 d 0)), (0, .ref (α 0 0 0)), (1, .int (nI d)), (2, .int (nI i)), (3, .int b)]) hx hb d_H_run_17 hl (by decide) rfl (fun ls hl => ?_)
  refine lv_iload hx hb d_H_run_19 (lv_at hl 0 rfl) ?_
  refine lv_if_ne (tgt := 34) hx hb d_H_run_21 (by decide) (fun _ => ?_) (fun hq9 => absurd hq9 (nI_ne0 hk1 (by omega)))
  refine lv_iload_n hx hb d_H_run_34 rfl (lv_at hl 5 rfl) ?_
  refine lv_if_eq (tgt := 43) hx hb d_H_run_35 (by decide) (fun c1 => ?_) (fun c1 => ?_)
  · skip
    refine lv_aload hx hb d_H_run_43 (lv_at hl 1 rfl) ?_
    refine lv_iload hx hb d_H_run_45 (lv_at hl 0 rfl) ?_
    refine lv_aload_n hx hb d_H_run_47 rfl (lv_at hl 2 rfl) ?_
    refine m_get (ci := 6) (v := .ref (α 0 3 0)) hx hb hT in_H hown hK hP (hw_00 hW) rfl 1 (by decide) (hT _ w101) (fun _ h9 => h9) rfl d_H_run_48 ?_
    refine rd_run (c_V (As := [.int (nI k0), .ref (α 0 3 0)]) (rest := []) hx hb hml hl.1 hown hT hK hP (c_Door_endOfRun l g _ α ν χ d k0 _ hW hN hd hk0) kw_Door_endOfRun w616 w586 w587 w6 hd_Door_endOfRun rfl rfl ⟨by decide, by decide⟩ (hw_dr hW hd) rfl rfl rfl (Nat.le_of_ble_eq_true rfl) d_H_run_51 ⟨by decide, by decide⟩) rfl ?_
    exact rd_iret hx hb hr hlocks (by first | contradiction | rw [if_pos c1] | rw [if_neg c1]) d_H_run_54
  · skip
    refine lv_iload hx hb d_H_run_38 (lv_at hl 0 rfl) ?_
    refine lv_goto (tgt := 54) hx hb d_H_run_40 (by decide) ?_
    exact rd_iret hx hb hr hlocks (by first | contradiction | rw [if_pos c1] | rw [if_neg c1]) d_H_run_54
set_option maxHeartbeats 4000000 in
set_option maxRecDepth 100000 in
theorem c_H_refuses (l : Launch) (g : GG) (M : MW) (α : AL3) (ν : Nat → Nat) (χ : SG) (d c e2 : Nat) (sz : Nat) (hW : HW g α ν χ M) (hN : nOK ν) (hd : d < 200) (hc : c < ν 0) (he : χ 6 c = nI e2) (he6 : e2 ≤ 600) : Met l y_H_refuses (k_H_refuses :: TT) { frames := 7, cells := 0, slots := 0, locals := 121 } (Pm g [.ref (α 0 0 0), .int (nI d), .int (nI c)] sz (M)) (Qrd (some (.int (bI (xhs ν χ d e2))))) 0 0 (nofree) := by
  refine met_of (by decide) (Nat.le_of_ble_eq_true rfl) ?_
  intro pr en s mi below meth co hx hb hr hml hown hlocks hnm hT hsz hP hK ls hl
  have hl : lv_has ls 4 [(0, .ref (α 0 0 0)), (1, .int (nI d)), (2, .int (nI c))] := hl
  refine lv_aload_n hx hb d_H_refuses_0 rfl (lv_at hl 0 rfl) ?_
  refine lv_iload_n hx hb d_H_refuses_1 rfl (lv_at hl 1 rfl) ?_
  refine rd_run (c_V (As := [.int (nI d)]) (rest := []) hx hb hml hl.1 hown hT hK hP (c_H_doorAt l g _ α ν χ d _ hW hd) kw_H_doorAt w449 w451 selp_H_doorAt w1 hd_H_doorAt rfl rfl ⟨by decide, by decide⟩ (hw_00 hW) rfl rfl rfl (Nat.le_of_ble_eq_true rfl) d_H_refuses_2 ⟨by decide, by decide⟩) rfl ?_
  refine lv_astore_n (lv' := [(3, .ref (α 6 d 0)), (0, .ref (α 0 0 0)), (1, .int (nI d)), (2, .int (nI c))]) hx hb d_H_refuses_5 rfl hl (by decide) rfl (fun ls hl => ?_)
  refine lv_aload_n hx hb d_H_refuses_6 rfl (lv_at hl 0 rfl) ?_
  refine lv_aload_n hx hb d_H_refuses_7 rfl (lv_at hl 1 rfl) ?_
  refine lv_iload_n hx hb d_H_refuses_8 rfl (lv_at hl 3 rfl) ?_
  refine rd_run (c_V (As := [.int (nI c)]) (rest := [.ref (α 6 d 0)]) hx hb hml hl.1 hown hT hK hP (c_H_cardAt l g _ α ν χ c _ hW hN hc) kw_H_cardAt w325 w327 selp_H_cardAt w1 hd_H_cardAt rfl rfl ⟨by decide, by decide⟩ (hw_00 hW) rfl rfl rfl (Nat.le_of_ble_eq_true rfl) d_H_refuses_9 ⟨by decide, by decide⟩) rfl ?_
  refine m_getN (ci := 1) (v := .int ((χ) 6 c)) hx hb hT in_Card hown hK hP (hw_card hW hc) rfl 4 (by decide) (va_Nw.use rfl (hK.2.1 _ nw236)) (fun _ h9 => h9) rfl d_H_refuses_12 ?_
  rw [show ((χ) 6 c) = nI e2 from he]
  refine lv_aload_n hx hb d_H_refuses_15 rfl (lv_at hl 1 rfl) ?_
  refine m_get (ci := 6) (v := .ref (α 0 3 0)) hx hb hT in_H hown hK hP (hw_00 hW) rfl 1 (by decide) (hT _ w101) (fun _ h9 => h9) rfl d_H_refuses_16 ?_
  refine rd_run (c_V (As := [.int (nI e2), .ref (α 0 3 0)]) (rest := []) hx hb hml hl.1 hown hT hK hP (c_Door_has l g _ α ν χ d e2 _ hW hN (by omega) hd) kw_Door_has w624 w510 w511 w6 hd_Door_has rfl rfl ⟨by decide, by decide⟩ (hw_dr hW hd) rfl rfl rfl (Nat.le_of_ble_eq_true rfl) d_H_refuses_19 ⟨by decide, by decide⟩) rfl ?_
  exact rd_zret hx hb hr hlocks (rfl) (by first | exact Or.inl rfl | exact Or.inr rfl | assumption | exact smI_01 _ _ _ _ _ _ | exact xtl_01 _ _ _ _ _ _ | exact bI_01 _ | exact xop_01 _ _ _ | exact xic_01 _ _ | exact xid_01 _) d_H_refuses_22
set_option maxHeartbeats 4000000 in
set_option maxRecDepth 100000 in
theorem c_H_reach (l : Launch) (g : GG) (M : MW) (α : AL3) (ν : Nat → Nat) (χ : SG) (e : Nat) (sz : Nat) (hW : HW g α ν χ M) (hN : nOK ν) (h1 : 1 ≤ e) (he : e ≤ ν 1) : Met l y_H_reach (k_H_reach :: TT) { frames := 6, cells := 0, slots := 0, locals := 100 } (Pm g [.ref (α 0 0 0), .int (nI e)] sz (M)) (Qrd (some (.int (nI (rdF χ e 200))))) 0 0 (nofree) := by
  refine met_of (by decide) (Nat.le_of_ble_eq_true rfl) ?_
  intro pr en s mi below meth co hx hb hr hml hown hlocks hnm hT hsz hP hK ls hl
  have hl : lv_has ls 2 [(0, .ref (α 0 0 0)), (1, .int (nI e))] := hl
  have hN0 : ν 0 ≤ 600 := hN.2.2.2.2.1
  have hN1 : ν 1 ≤ 600 := hN.2.2.2.2.2
  have hN2 : ν 0 ≤ ν 2 := hN.1
  have hN3 : ν 2 < 2 ^ 20 := hN.2.2.1
  refine lv_iload_n hx hb d_H_reach_0 rfl (lv_at hl 1 rfl) ?_
  refine lv_iconst (v := 1) hx hb d_H_reach_1 (by decide) ?_
  refine lv_icmp_lt (tgt := 16) hx hb d_H_reach_2 (by decide) (fun hq9 => absurd hq9 (fun q => absurd ((nI_ltI (b := 1) (by omega) (by decide)).mp q) (by omega))) (fun _ => ?_)
  refine lv_iload_n hx hb d_H_reach_5 rfl (lv_at hl 1 rfl) ?_
  refine lv_aload_n hx hb d_H_reach_6 rfl (lv_at hl 0 rfl) ?_
  refine m_get (ci := 6) (v := .ref (α 0 3 0)) hx hb hT in_H hown hK hP (hw_00 hW) rfl 1 (by decide) (hT _ w101) (fun _ h9 => h9) rfl d_H_reach_7 ?_
  refine rd_run (c_V (As := []) (rest := [.int (nI e)]) hx hb hml hl.1 hown hT hK hP (c_EL_made l g _ α ν χ _ hW) kw_EL_made w131 w132 w133 w5 hd_EL_made rfl rfl ⟨by decide, by decide⟩ (hw_03 hW) rfl rfl rfl (Nat.le_of_ble_eq_true rfl) d_H_reach_10 ⟨by decide, by decide⟩) rfl ?_
  refine lv_icmp_le (tgt := 26) hx hb d_H_reach_13 (by decide) (fun _ => ?_) (fun hq9 => absurd (nI_le he (by omega)) hq9)
  refine lv_aload_n hx hb d_H_reach_26 rfl (lv_at hl 0 rfl) ?_
  refine m_get (ci := 6) (v := .ref (α 0 3 0)) hx hb hT in_H hown hK hP (hw_00 hW) rfl 1 (by decide) (hT _ w101) (fun _ h9 => h9) rfl d_H_reach_27 ?_
  refine lv_iload_n hx hb d_H_reach_30 rfl (lv_at hl 1 rfl) ?_
  refine rd_run (c_V (As := [.int (nI e)]) (rest := []) hx hb hml hl.1 hown hT hK hP (c_EL_countDoorsWith l g _ α ν χ e _ hW hN (by omega) h1 he) kw_EL_countDoorsWith w633 w634 w635 w5 hd_EL_countDoorsWith rfl rfl ⟨by decide, by decide⟩ (hw_03 hW) rfl rfl rfl (Nat.le_of_ble_eq_true rfl) d_H_reach_31 ⟨by decide, by decide⟩) rfl ?_
  exact rd_iret hx hb hr hlocks (rfl) d_H_reach_34
set_option maxHeartbeats 4000000 in
set_option maxRecDepth 100000 in
theorem c_H_tear (l : Launch) (g : GG) (M : MW) (α : AL3) (ν : Nat → Nat) (χ : SG) (c : Nat) (k : Int32) (sz : Nat) (hW : HW g α ν χ M) (hN : nOK ν) (hc : c < ν 0) (hz1 : ¬ k < 0) (hz2 : k ≤ 50) : Met l y_H_tear (k_H_tear :: TT) { frames := 7, cells := 0, slots := 0, locals := 121 } (Pm g [.ref (α 0 0 0), .int (nI c), .int k] sz (M)) (Qm g M (fun _ : Unit => none) (fun _ M1 => HW g α ν (su χ 3 c k) M1)) 0 0 (mA M sz) := by
  refine met_of (by decide) (Nat.le_of_ble_eq_true rfl) ?_
  intro pr en s mi below meth co hx hb hr hml hown hlocks hnm hT hsz hP hK ls hl
  have hl : lv_has ls 4 [(0, .ref (α 0 0 0)), (1, .int (nI c)), (2, .int k)] := hl
  have hH := HS.start hP
  refine lv_aload_n hx hb d_H_tear_0 rfl (lv_at hl 0 rfl) ?_
  refine lv_iload_n hx hb d_H_tear_1 rfl (lv_at hl 1 rfl) ?_
  refine rd_run (c_V (As := [.int (nI c)]) (rest := []) hx hb hml hl.1 hown hT hK hH.1 (c_H_cardAt l g _ α ν χ c _ hW hN hc) kw_H_cardAt w325 w327 selp_H_cardAt w1 hd_H_cardAt rfl rfl ⟨by decide, by decide⟩ (hw_00 hW) rfl rfl rfl (Nat.le_of_ble_eq_true rfl) d_H_tear_2 ⟨by decide, by decide⟩) rfl ?_
  refine lv_astore_n (lv' := [(3, .ref (α 1 c 0)), (0, .ref (α 0 0 0)), (1, .int (nI c)), (2, .int k)]) hx hb d_H_tear_5 rfl hl (by decide) rfl (fun ls hl => ?_)
  refine lv_iload_n hx hb d_H_tear_6 rfl (lv_at hl 3 rfl) ?_
  refine lv_if_lt (tgt := 16) hx hb d_H_tear_7 (by decide) (fun hq9 => absurd hq9 (hz1)) (fun _ => ?_)
  refine lv_iload_n hx hb d_H_tear_10 rfl (lv_at hl 3 rfl) ?_
  refine lv_bipush (v := 50) hx hb d_H_tear_11 (by decide) ?_
  refine lv_icmp_le (tgt := 26) hx hb d_H_tear_13 (by decide) (fun _ => ?_) (fun hq9 => absurd (hz2) hq9)
  refine lv_aload_n hx hb d_H_tear_26 rfl (lv_at hl 0 rfl) ?_
  refine lv_iload_n hx hb d_H_tear_27 rfl (lv_at hl 3 rfl) ?_
  refine m_putN (ci := 1) (v := .int k) (ty := .int) hx hb hT in_Card ty_Card tk_Card nm_Card hown hK hH (hw_card hW hc) rfl 5 (by decide) (va_Nw.use rfl (hK.2.1 _ nw238)) (fun _ h9 => h9) rfl (by decide +kernel) rfl rfl (Nat.le_of_ble_eq_true rfl) d_H_tear_28 (e1 := .inr (1, [.int ((χ) 1 c), .int ((χ) 2 c), .ref (α 2 c 0), .ref (α 2 c 1), .int ((χ) 6 c), .int k, .int ((χ) 16 c), .int ((χ) 4 c)])) rfl (fun H locs hH hzz => ?_)
  replace hW := hws_c3 hW hc (v := k)
  exact m_vret hx hb hr hlocks hsz hH (hW) d_H_tear_31
set_option maxHeartbeats 4000000 in
set_option maxRecDepth 100000 in
theorem c_H_loseBattery (l : Launch) (g : GG) (M : MW) (α : AL3) (ν : Nat → Nat) (χ : SG) (d : Nat) (sz : Nat) (hW : HW g α ν χ M) (hd : d < 200) : Met l y_H_loseBattery (k_H_loseBattery :: TT) { frames := 7, cells := 0, slots := 0, locals := 121 } (Pm g [.ref (α 0 0 0), .int (nI d)] sz (M)) (Qm g M (fun _ : Unit => none) (fun _ M1 => HW g α ν (su χ 11 d 0) M1)) 0 0 (mA M sz) := by
  refine met_of (by decide) (Nat.le_of_ble_eq_true rfl) ?_
  intro pr en s mi below meth co hx hb hr hml hown hlocks hnm hT hsz hP hK ls hl
  have hl : lv_has ls 2 [(0, .ref (α 0 0 0)), (1, .int (nI d))] := hl
  have hH := HS.start hP
  refine lv_aload_n hx hb d_H_loseBattery_0 rfl (lv_at hl 0 rfl) ?_
  refine lv_iload_n hx hb d_H_loseBattery_1 rfl (lv_at hl 1 rfl) ?_
  refine rd_run (c_V (As := [.int (nI d)]) (rest := []) hx hb hml hl.1 hown hT hK hH.1 (c_H_doorAt l g _ α ν χ d _ hW hd) kw_H_doorAt w449 w451 selp_H_doorAt w1 hd_H_doorAt rfl rfl ⟨by decide, by decide⟩ (hw_00 hW) rfl rfl rfl (Nat.le_of_ble_eq_true rfl) d_H_loseBattery_2 ⟨by decide, by decide⟩) rfl ?_
  refine lv_iconst (v := 0) hx hb d_H_loseBattery_5 (by decide) ?_
  refine m_putN (ci := 2) (v := .int 0) (ty := .int) hx hb hT in_Door ty_Door tk_Door nm_Door hown hK hH (hw_dr hW hd) rfl 2 (by decide) (va_Nw.use rfl (hK.2.1 _ nw80)) (fun _ h9 => h9) rfl (by decide +kernel) rfl rfl (Nat.le_of_ble_eq_true rfl) d_H_loseBattery_6 (e1 := .inr (2, [.int (nI d), .int ((χ) 9 d), .int 0, .int ((χ) 17 d), .int ((χ) 10 d)])) rfl (fun H locs hH hzz => ?_)
  replace hW := hws_d11 hW hd (v := 0)
  exact m_vret hx hb hr hlocks hsz hH (hW) d_H_loseBattery_9
set_option maxHeartbeats 4000000 in
set_option maxRecDepth 100000 in
theorem c_H_zoneOf (l : Launch) (g : GG) (M : MW) (α : AL3) (ν : Nat → Nat) (χ : SG) (d : Nat) (z : Int32) (sz : Nat) (hW : HW g α ν χ M) (hd : d < 200) (hz1 : ¬ z < 0) (hz2 : z < 32) (hu : χ 10 d = 0) : Met l y_H_zoneOf (k_H_zoneOf :: TT) { frames := 7, cells := 0, slots := 0, locals := 121 } (Pm g [.ref (α 0 0 0), .int (nI d), .int z] sz (M)) (Qm g M (fun _ : Unit => none) (fun _ M1 => HW g α ν (su χ 9 d z) M1)) 0 0 (mA M sz) := by
  refine met_of (by decide) (Nat.le_of_ble_eq_true rfl) ?_
  intro pr en s mi below meth co hx hb hr hml hown hlocks hnm hT hsz hP hK ls hl
  have hl : lv_has ls 4 [(0, .ref (α 0 0 0)), (1, .int (nI d)), (2, .int z)] := hl
  have hH := HS.start hP
  refine lv_aload_n hx hb d_H_zoneOf_0 rfl (lv_at hl 0 rfl) ?_
  refine lv_iload_n hx hb d_H_zoneOf_1 rfl (lv_at hl 1 rfl) ?_
  refine rd_run (c_V (As := [.int (nI d)]) (rest := []) hx hb hml hl.1 hown hT hK hH.1 (c_H_doorAt l g _ α ν χ d _ hW hd) kw_H_doorAt w449 w451 selp_H_doorAt w1 hd_H_doorAt rfl rfl ⟨by decide, by decide⟩ (hw_00 hW) rfl rfl rfl (Nat.le_of_ble_eq_true rfl) d_H_zoneOf_2 ⟨by decide, by decide⟩) rfl ?_
  refine lv_astore_n (lv' := [(3, .ref (α 6 d 0)), (0, .ref (α 0 0 0)), (1, .int (nI d)), (2, .int z)]) hx hb d_H_zoneOf_5 rfl hl (by decide) rfl (fun ls hl => ?_)
  refine lv_iload_n hx hb d_H_zoneOf_6 rfl (lv_at hl 3 rfl) ?_
  refine lv_if_lt (tgt := 16) hx hb d_H_zoneOf_7 (by decide) (fun hq9 => absurd hq9 (hz1)) (fun _ => ?_)
  refine lv_iload_n hx hb d_H_zoneOf_10 rfl (lv_at hl 3 rfl) ?_
  refine lv_bipush (v := 32) hx hb d_H_zoneOf_11 (by decide) ?_
  refine lv_icmp_lt (tgt := 26) hx hb d_H_zoneOf_13 (by decide) (fun _ => ?_) (fun hq9 => absurd (hz2) hq9)
  refine lv_aload_n hx hb d_H_zoneOf_26 rfl (lv_at hl 0 rfl) ?_
  refine m_getN (ci := 2) (v := .int ((χ) 10 d)) hx hb hT in_Door hown hK hH.1 (hw_dr hW hd) rfl 4 (by decide) (va_Nw.use rfl (hK.2.1 _ nw84)) (fun _ h9 => h9) rfl d_H_zoneOf_27 ?_
  refine lv_if_eq (tgt := 43) hx hb d_H_zoneOf_30 (by decide) (fun _ => ?_) (fun hq9 => absurd (hu) hq9)
  refine lv_aload_n hx hb d_H_zoneOf_43 rfl (lv_at hl 0 rfl) ?_
  refine lv_iload_n hx hb d_H_zoneOf_44 rfl (lv_at hl 3 rfl) ?_
  refine m_putN (ci := 2) (v := .int z) (ty := .int) hx hb hT in_Door ty_Door tk_Door nm_Door hown hK hH (hw_dr hW hd) rfl 1 (by decide) (va_Nw.use rfl (hK.2.1 _ nw78)) (fun _ h9 => h9) rfl (by decide +kernel) rfl rfl (Nat.le_of_ble_eq_true rfl) d_H_zoneOf_45 (e1 := .inr (2, [.int (nI d), .int z, .int ((χ) 11 d), .int ((χ) 17 d), .int ((χ) 10 d)])) rfl (fun H locs hH hzz => ?_)
  replace hW := hws_d9 hW hd (v := z)
  exact m_vret hx hb hr hlocks hsz hH (hW) d_H_zoneOf_48
set_option maxHeartbeats 4000000 in
set_option maxRecDepth 100000 in
theorem c_H_visit (l : Launch) (g : GG) (M : MW) (α : AL3) (ν : Nat → Nat) (χ : SG) (i c d : Nat) (day : Int32) (sz : Nat) (hW : HW g α ν χ M) (hN : nOK ν) (hi : i < 200) (hc : c < ν 0) (hd : d < 200) : Met l y_H_visit (k_H_visit :: TT) { frames := 6, cells := 0, slots := 0, locals := 100 } (Pm g [.ref (α 0 0 0), .int (nI i), .int (nI c), .int (nI d), .int day] sz (M)) (Qm g M (fun _ : Unit => none) (fun _ M1 => HW g α ν (su (su (su χ 13 i (nI c)) 14 i (nI d)) 15 i day) M1)) 0 0 (mA M sz) := by
  refine met_of (by decide) (Nat.le_of_ble_eq_true rfl) ?_
  intro pr en s mi below meth co hx hb hr hml hown hlocks hnm hT hsz hP hK ls hl
  have hl : lv_has ls 5 [(0, .ref (α 0 0 0)), (1, .int (nI i)), (2, .int (nI c)), (3, .int (nI d)), (4, .int day)] := hl
  have hH := HS.start hP
  have hN0 : ν 0 ≤ 600 := hN.2.2.2.2.1
  have hN1 : ν 1 ≤ 600 := hN.2.2.2.2.2
  have hN2 : ν 0 ≤ ν 2 := hN.1
  have hN3 : ν 2 < 2 ^ 20 := hN.2.2.1
  refine lv_iload_n hx hb d_H_visit_0 rfl (lv_at hl 1 rfl) ?_
  refine lv_if_lt (tgt := 27) hx hb d_H_visit_1 (by decide) (fun hq9 => absurd hq9 (nI_pos (by omega))) (fun _ => ?_)
  refine lv_iload_n hx hb d_H_visit_4 rfl (lv_at hl 1 rfl) ?_
  refine lv_sipush (v := 200) hx hb d_H_visit_5 (by decide) ?_
  refine lv_icmp_ge (tgt := 27) hx hb d_H_visit_8 (by decide) (fun hq9 => absurd hq9 (nI_ge (b := 200) hi (by decide))) (fun _ => ?_)
  refine lv_aload_n hx hb d_H_visit_11 rfl (lv_at hl 0 rfl) ?_
  refine lv_iload_n hx hb d_H_visit_12 rfl (lv_at hl 2 rfl) ?_
  refine rd_run (c_V (As := [.int (nI c)]) (rest := []) hx hb hml hl.1 hown hT hK hH.1 (c_H_isCard l g _ α ν χ (nI c) _ hW) kw_H_isCard w329 w331 selp_H_isCard w1 hd_H_isCard rfl rfl ⟨by decide, by decide⟩ (hw_00 hW) rfl rfl rfl (Nat.le_of_ble_eq_true rfl) d_H_visit_13 ⟨by decide, by decide⟩) rfl ?_
  refine lv_if_eq (tgt := 27) hx hb d_H_visit_16 (by decide) (fun hq9 => absurd hq9 (xic_1 hc hN0)) (fun _ => ?_)
  refine lv_aload_n hx hb d_H_visit_19 rfl (lv_at hl 0 rfl) ?_
  refine lv_iload_n hx hb d_H_visit_20 rfl (lv_at hl 3 rfl) ?_
  refine rd_run (c_V (As := [.int (nI d)]) (rest := []) hx hb hml hl.1 hown hT hK hH.1 (c_H_isDoor l g _ α ν χ (nI d) _ hW) kw_H_isDoor w453 w455 selp_H_isDoor w1 hd_H_isDoor rfl rfl ⟨by decide, by decide⟩ (hw_00 hW) rfl rfl rfl (Nat.le_of_ble_eq_true rfl) d_H_visit_21 ⟨by decide, by decide⟩) rfl ?_
  refine lv_if_ne (tgt := 37) hx hb d_H_visit_24 (by decide) (fun _ => ?_) (fun hq9 => absurd hq9 (xid_1 hd))
  refine lv_aload_n hx hb d_H_visit_37 rfl (lv_at hl 0 rfl) ?_
  refine m_get (ci := 6) (v := .ref (α 0 7 0)) hx hb hT in_H hown hK hH.1 (hw_00 hW) rfl 3 (by decide) (hT _ w103) (fun _ h9 => h9) rfl d_H_visit_38 ?_
  refine lv_iload_n hx hb d_H_visit_41 rfl (lv_at hl 1 rfl) ?_
  refine lv_iload_n hx hb d_H_visit_42 rfl (lv_at hl 2 rfl) ?_
  refine m_iast hx hb hK hH 0 (hw_07 hW) rfl (j := i) (rfl) (hi) (by decide) d_H_visit_43 (fun H locs hH hzz => ?_)
  replace hW := hws_v13 hW (k := i) (v := (nI c))
  refine lv_aload_n hx hb d_H_visit_44 rfl (lv_at hl 0 rfl) ?_
  refine m_get (ci := 6) (v := .ref (α 0 8 0)) hx hb hT in_H hown hK hH.1 (hw_00 hW) rfl 4 (by decide) (hT _ w104) (fun _ h9 => h9) rfl d_H_visit_45 ?_
  refine lv_iload_n hx hb d_H_visit_48 rfl (lv_at hl 1 rfl) ?_
  refine lv_iload_n hx hb d_H_visit_49 rfl (lv_at hl 3 rfl) ?_
  refine m_iast hx hb hK hH 0 (hw_08 hW) rfl (j := i) (rfl) (hi) (by decide) d_H_visit_50 (fun H locs hH hzz => ?_)
  replace hW := hws_v14 hW (k := i) (v := (nI d))
  refine lv_aload_n hx hb d_H_visit_51 rfl (lv_at hl 0 rfl) ?_
  refine m_get (ci := 6) (v := .ref (α 0 9 0)) hx hb hT in_H hown hK hH.1 (hw_00 hW) rfl 5 (by decide) (hT _ w105) (fun _ h9 => h9) rfl d_H_visit_52 ?_
  refine lv_iload_n hx hb d_H_visit_55 rfl (lv_at hl 1 rfl) ?_
  refine lv_iload hx hb d_H_visit_56 (lv_at hl 4 rfl) ?_
  refine m_iast hx hb hK hH 0 (hw_09 hW) rfl (j := i) (rfl) (hi) (by decide) d_H_visit_58 (fun H locs hH hzz => ?_)
  replace hW := hws_v15 hW (k := i) (v := day)
  exact m_vret hx hb hr hlocks hsz hH (hW) d_H_visit_59
theorem mnJ_40 {n : Nat} (h : n ≤ 600) : mnJ (nI n) 40 = nI (min n 40) := by
  unfold mnJ
  by_cases c : 40 < n
  · rw [if_pos (show (40 : Int32) < nI n from nI_lt (a := 40) c (by omega)), show min n 40 = 40 by omega]; rfl
  · rw [if_neg (show ¬ (40 : Int32) < nI n from nI_nlt (a := 40) (b := n) (by omega) (by decide)), show min n 40 = n by omega]
def gaF (n : Nat) : Nat := if n = 0 then 0 else n - min n 40 + 1
set_option maxHeartbeats 4000000 in
set_option maxRecDepth 100000 in
theorem c_H_gate (l : Launch) (g : GG) (M : MW) (α : AL3) (ν : Nat → Nat) (χ : SG) (c : Nat) (sz : Nat) (hW : HW g α ν χ M) (hN : nOK ν) (hc : c < ν 0) : Met l y_H_gate (k_H_gate :: TT) { frames := 7, cells := 0, slots := 0, locals := 121 } (Pm g [.ref (α 0 0 0), .int (nI c)] sz (M)) (Qm g M (fun _ : Unit => none) (fun _ M1 => HW g α ν (stS ν χ c (gaF (ν 1)) (min (ν 1) 40) (nI (ν 1))) M1)) 0 0 (mA M sz) := by
  refine met_of (by decide) (Nat.le_of_ble_eq_true rfl) ?_
  intro pr en s mi below meth co hx hb hr hml hown hlocks hnm hT hsz hP hK ls hl
  have hl : lv_has ls 6 [(0, .ref (α 0 0 0)), (1, .int (nI c))] := hl
  have hH := HS.start hP
  have hN0 : ν 0 ≤ 600 := hN.2.2.2.2.1
  have hN1 : ν 1 ≤ 600 := hN.2.2.2.2.2
  have hN2 : ν 0 ≤ ν 2 := hN.1
  have hN3 : ν 2 < 2 ^ 20 := hN.2.2.1
  refine lv_aload_n hx hb d_H_gate_0 rfl (lv_at hl 0 rfl) ?_
  refine lv_iload_n hx hb d_H_gate_1 rfl (lv_at hl 1 rfl) ?_
  refine rd_run (c_V (As := [.int (nI c)]) (rest := []) hx hb hml hl.1 hown hT hK hH.1 (c_H_cardAt l g _ α ν χ c _ hW hN hc) kw_H_cardAt w325 w327 selp_H_cardAt w1 hd_H_cardAt rfl rfl ⟨by decide, by decide⟩ (hw_00 hW) rfl rfl rfl (Nat.le_of_ble_eq_true rfl) d_H_gate_2 ⟨by decide, by decide⟩) rfl ?_
  refine lv_astore_n (lv' := [(2, .ref (α 1 c 0)), (0, .ref (α 0 0 0)), (1, .int (nI c))]) hx hb d_H_gate_5 rfl hl (by decide) rfl (fun ls hl => ?_)
  refine lv_aload_n hx hb d_H_gate_6 rfl (lv_at hl 1 rfl) ?_
  refine m_get (ci := 6) (v := .ref (α 0 3 0)) hx hb hT in_H hown hK hH.1 (hw_00 hW) rfl 1 (by decide) (hT _ w101) (fun _ h9 => h9) rfl d_H_gate_7 ?_
  refine rd_run (c_V (As := []) (rest := []) hx hb hml hl.1 hown hT hK hH.1 (c_EL_made l g _ α ν χ _ hW) kw_EL_made w131 w132 w133 w5 hd_EL_made rfl rfl ⟨by decide, by decide⟩ (hw_03 hW) rfl rfl rfl (Nat.le_of_ble_eq_true rfl) d_H_gate_10 ⟨by decide, by decide⟩) rfl ?_
  refine lv_istore_n (lv' := [(3, .int (nI (ν 1))), (2, .ref (α 1 c 0)), (0, .ref (α 0 0 0)), (1, .int (nI c))]) hx hb d_H_gate_13 rfl hl (by decide) rfl (fun ls hl => ?_)
  refine lv_iload_n hx hb d_H_gate_14 rfl (lv_at hl 0 rfl) ?_
  refine lv_bipush (v := 40) hx hb d_H_gate_15 (by decide) ?_
  refine va_mmin hx hb (hml.trans hl.1.symm) hown (hT _ w391) (hT _ w310) (hT _ w16) (hT _ w311) (by decide) (Nat.le_of_ble_eq_true rfl) (by decide) (by decide) d_H_gate_17 ?_
  refine W.eq (g2 := F0 mi 20 ls [.int (mnJ (nI (ν 1)) 40)]) rfl ?_
  rw [show (mnJ (nI (ν 1)) 40) = nI (min (ν 1) 40) from mnJ_40 hN1]
  refine lv_istore (lv' := [(4, .int (nI (min (ν 1) 40))), (3, .int (nI (ν 1))), (2, .ref (α 1 c 0)), (0, .ref (α 0 0 0)), (1, .int (nI c))]) hx hb d_H_gate_20 hl (by decide) rfl (fun ls hl => ?_)
  refine W.join (fun x : Int32 => x = nI (gaF (ν 1))) (f := fun x => F0 mi 37 ls (.int x :: [])) (fun x ex => ?_) (fun hj => ?_)
  · skip
    subst ex
    refine lv_istore (lv' := [(5, .int (nI (gaF (ν 1)))), (4, .int (nI (min (ν 1) 40))), (3, .int (nI (ν 1))), (2, .ref (α 1 c 0)), (0, .ref (α 0 0 0)), (1, .int (nI c))]) hx hb d_H_gate_37 hl (by decide) rfl (fun ls hl => ?_)
    refine lv_aload_n hx hb d_H_gate_39 rfl (lv_at hl 3 rfl) ?_
    refine lv_iload hx hb d_H_gate_40 (lv_at hl 0 rfl) ?_
    refine lv_iload hx hb d_H_gate_42 (lv_at hl 1 rfl) ?_
    refine lv_iload_n hx hb d_H_gate_44 rfl (lv_at hl 2 rfl) ?_
    refine lv_aload_n hx hb d_H_gate_45 rfl (lv_at hl 4 rfl) ?_
    refine m_get (ci := 6) (v := .ref (α 0 3 0)) hx hb hT in_H hown hK hH.1 (hw_00 hW) rfl 1 (by decide) (hT _ w101) (fun _ h9 => h9) rfl d_H_gate_46 ?_
    refine m_run (c_V (As := [.int (nI (gaF (ν 1))), .int (nI (min (ν 1) 40)), .int (nI (ν 1)), .ref (α 0 3 0)]) (rest := []) hx hb hml hl.1 hown hT hK hH.1 (c_Card_store l g _ α ν χ c (gaF (ν 1)) (min (ν 1) 40) (nI (ν 1)) _ hW hN hc (by omega) (by unfold gaF; split <;> omega) (by unfold gaF; split <;> omega)) kw_Card_store w392 w393 w394 w13 hd_Card_store rfl rfl ⟨by decide, by decide⟩ (hw_card hW hc) rfl rfl rfl (Nat.le_of_ble_eq_true rfl) d_H_gate_49 ⟨by decide, by decide⟩) hH (fun rv M1 H locs hpost hH hzz hdm hfr => ?_)
    replace hW : HW g α ν (stS ν χ c (gaF (ν 1)) (min (ν 1) 40) (nI (ν 1))) M1 := hpost
    refine W.eq (g2 := F0 mi 52 ls []) rfl ?_
    exact m_vret hx hb hr hlocks hsz hH (hW) d_H_gate_52
  · skip
    refine lv_iload hx hb d_H_gate_22 (lv_at hl 0 rfl) ?_
    refine lv_if_ne (tgt := 31) hx hb d_H_gate_24 (by decide) (fun c1 => ?_) (fun c1 => ?_)
    · skip
      have c1 : ¬ ν 1 = 0 := fun z => c1 (by rw [z]; rfl)
      refine lv_iload_n hx hb d_H_gate_31 rfl (lv_at hl 1 rfl) ?_
      refine lv_iload hx hb d_H_gate_32 (lv_at hl 0 rfl) ?_
      refine lv_isub hx hb d_H_gate_34 ?_
      rw [show ((nI (ν 1)) - (nI (min (ν 1) 40))) = nI (ν 1 - min (ν 1) 40) from pk_sub (by omega)]
      refine lv_iconst (v := 1) hx hb d_H_gate_35 (by decide) ?_
      refine lv_iadd hx hb d_H_gate_36 ?_
      rw [show ((nI (ν 1 - min (ν 1) 40)) + 1) = nI (ν 1 - min (ν 1) 40 + 1) from nI_1 _]
      exact hj _ (by first | (unfold gaF; rw [if_neg c1]) | (unfold gaF; rw [if_pos c1]; rfl))
    · skip
      have c1 : ν 1 = 0 := by have := (nI_eq (b := 0) (by omega) (by decide)).mp c1; omega
      refine lv_iconst (v := 0) hx hb d_H_gate_27 (by decide) ?_
      refine lv_goto (tgt := 37) hx hb d_H_gate_28 (by decide) ?_
      exact hj _ (by first | (unfold gaF; rw [if_neg c1]) | (unfold gaF; rw [if_pos c1]; rfl))
set_option maxHeartbeats 4000000 in
set_option maxRecDepth 100000 in
theorem c_H_show (l : Launch) (g : GG) (M : MW) (α : AL3) (ν : Nat → Nat) (χ : SG) (c d a n e2 z g0 : Nat) (day : Int32) (sz : Nat) (hW : HW g α ν χ M) (hN : nOK ν) (hc : c < ν 0) (hd : d < 200) (hf : χ (rW c (xcur χ c)) 1 = nI a) (hn : xcn χ c (xcur χ c) = nI n) (ha6 : a + n ≤ 601) (he : χ 6 c = nI e2) (he6 : e2 ≤ 600) (hz : χ 9 d = nI z) (hg : χ 17 d = nI g0) (hg6 : g0 ≤ 600) : Met l y_H_show (k_H_show :: TT) { frames := 7, cells := 0, slots := 0, locals := 161 } (Pm g [.ref (α 0 0 0), .int (nI c), .int (nI d), .int day] sz (M)) (Qm g M (fun r : Int32 => some (.int r)) (fun r M1 => r = xjd ν (tkE ν χ c (xcur χ c) d a n) c d e2 z day ∧ HW g α ν (psS ν (tkE ν χ c (xcur χ c) d a n) c d (if n = 0 then g0 else if g0 < a + n - 1 then a + n - 1 else g0)) M1)) 0 0 (mA M sz) := by
  refine met_of (by decide) (Nat.le_of_ble_eq_true rfl) ?_
  intro pr en s mi below meth co hx hb hr hml hown hlocks hnm hT hsz hP hK ls hl
  have hl : lv_has ls 6 [(0, .ref (α 0 0 0)), (1, .int (nI c)), (2, .int (nI d)), (3, .int day)] := hl
  have hH := HS.start hP
  refine lv_aload_n hx hb d_H_show_0 rfl (lv_at hl 0 rfl) ?_
  refine lv_iload_n hx hb d_H_show_1 rfl (lv_at hl 1 rfl) ?_
  refine rd_run (c_V (As := [.int (nI c)]) (rest := []) hx hb hml hl.1 hown hT hK hH.1 (c_H_cardAt l g _ α ν χ c _ hW hN hc) kw_H_cardAt w325 w327 selp_H_cardAt w1 hd_H_cardAt rfl rfl ⟨by decide, by decide⟩ (hw_00 hW) rfl rfl rfl (Nat.le_of_ble_eq_true rfl) d_H_show_2 ⟨by decide, by decide⟩) rfl ?_
  refine lv_astore (lv' := [(4, .ref (α 1 c 0)), (0, .ref (α 0 0 0)), (1, .int (nI c)), (2, .int (nI d)), (3, .int day)]) hx hb d_H_show_5 hl (by decide) rfl (fun ls hl => ?_)
  refine lv_aload_n hx hb d_H_show_7 rfl (lv_at hl 1 rfl) ?_
  refine lv_iload_n hx hb d_H_show_8 rfl (lv_at hl 3 rfl) ?_
  refine rd_run (c_V (As := [.int (nI d)]) (rest := []) hx hb hml hl.1 hown hT hK hH.1 (c_H_doorAt l g _ α ν χ d _ hW hd) kw_H_doorAt w449 w451 selp_H_doorAt w1 hd_H_doorAt rfl rfl ⟨by decide, by decide⟩ (hw_00 hW) rfl rfl rfl (Nat.le_of_ble_eq_true rfl) d_H_show_9 ⟨by decide, by decide⟩) rfl ?_
  refine lv_astore (lv' := [(5, .ref (α 6 d 0)), (4, .ref (α 1 c 0)), (0, .ref (α 0 0 0)), (1, .int (nI c)), (2, .int (nI d)), (3, .int day)]) hx hb d_H_show_12 hl (by decide) rfl (fun ls hl => ?_)
  refine lv_aload_n hx hb d_H_show_14 rfl (lv_at hl 2 rfl) ?_
  refine lv_aload hx hb d_H_show_15 (lv_at hl 1 rfl) ?_
  refine lv_aload hx hb d_H_show_17 (lv_at hl 0 rfl) ?_
  refine lv_iload_n hx hb d_H_show_19 rfl (lv_at hl 5 rfl) ?_
  refine m_run (c_V (As := [.ref (α 1 c 0), .ref (α 6 d 0), .int day]) (rest := []) hx hb hml hl.1 hown hT hK hH.1 (c_H_present l g _ α ν χ c d a n e2 z g0 day _ hW hN hc hd hf hn ha6 he he6 hz hg hg6) kw_H_present w482 w484 selp_H_present w1 hd_H_present rfl rfl ⟨by decide, by decide⟩ (hw_00 hW) rfl rfl rfl (Nat.le_of_ble_eq_true rfl) d_H_show_20 ⟨by decide, by decide⟩) hH (fun rv M1 H locs hpost hH hzz hdm hfr => ?_)
  have hp1 : rv = xjd ν (tkE ν χ c (xcur χ c) d a n) c d e2 z day := hpost.1
  replace hW : HW g α ν (psS ν (tkE ν χ c (xcur χ c) d a n) c d (if n = 0 then g0 else if g0 < a + n - 1 then a + n - 1 else g0)) M1 := hpost.2
  subst hp1
  refine W.eq (g2 := F0 mi 23 ls [.int (xjd ν (tkE ν χ c (xcur χ c) d a n) c d e2 z day)]) rfl ?_
  exact m_iret hx hb hr hlocks hsz hH (⟨rfl, hW⟩) d_H_show_23
