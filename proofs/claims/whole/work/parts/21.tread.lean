/-! The reference: methods that only read. -/
set_option maxHeartbeats 4000000 in
set_option maxRecDepth 100000 in
theorem c_T_thrown (l : Launch) (g : GG) (t : Nat) (σ : SG) (sz : Nat) : Met l y_T_thrown (k_T_thrown :: TT) { frames := 0, cells := 0, slots := 0, locals := 0 } (Pm g [.ref t] sz (tw g t σ)) (Qrd (some (.int (σ 0 0)))) 0 0 (nofree) := by
  refine met_of (by decide) (Nat.le_of_ble_eq_true rfl) ?_
  intro pr en s mi below meth co hx hb hr hml hown hlocks hnm hT hsz hP hK ls hl
  have hl : lv_has ls 1 [(0, .ref t)] := hl
  refine lv_aload_n hx hb d_T_thrown_0 rfl (lv_at hl 0 rfl) ?_
  refine m_get (ci := 7) (v := .int (σ 0 0)) hx hb hT in_T hown hK hP (tw_t) rfl 0 (by decide) (hT _ w672) (fun _ h9 => h9) rfl d_T_thrown_1 ?_
  exact rd_iret hx hb hr hlocks (rfl) d_T_thrown_4
set_option maxHeartbeats 4000000 in
set_option maxRecDepth 100000 in
theorem c_T_noCard (l : Launch) (g : GG) (t : Nat) (σ : SG) (x : Int32) (sz : Nat) : Met l y_T_noCard (k_T_noCard :: TT) { frames := 0, cells := 0, slots := 0, locals := 0 } (Pm g [.ref t, .int x] sz (tw g t σ)) (Qrd (some (.int (ncI σ x)))) 0 0 (nofree) := by
  refine met_of (by decide) (Nat.le_of_ble_eq_true rfl) ?_
  intro pr en s mi below meth co hx hb hr hml hown hlocks hnm hT hsz hP hK ls hl
  have hl : lv_has ls 2 [(0, .ref t), (1, .int x)] := hl
  refine lv_iload_n hx hb d_T_noCard_0 rfl (lv_at hl 1 rfl) ?_
  refine lv_if_lt (tgt := 12) hx hb d_T_noCard_1 (by decide) (fun q1 => ?_) (fun q1 => ?_)
  · skip
    refine lv_iconst (v := 1) hx hb d_T_noCard_12 (by decide) ?_
    refine lv_goto (tgt := 17) hx hb d_T_noCard_13 (by decide) ?_
    exact rd_zret hx hb hr hlocks (by first | contradiction | (simp [ncI, q1]; done)) (by first | exact Or.inl rfl | exact Or.inr rfl | assumption | exact smI_01 _ _ _ _ _ _ | exact xtl_01 _ _ _ _ _ _ | exact bI_01 _ | exact xop_01 _ _ _ | exact xic_01 _ _ | exact xid_01 _) d_T_noCard_17
  · skip
    refine lv_iload_n hx hb d_T_noCard_4 rfl (lv_at hl 1 rfl) ?_
    refine lv_aload_n hx hb d_T_noCard_5 rfl (lv_at hl 0 rfl) ?_
    refine m_get (ci := 7) (v := .int (σ 0 1)) hx hb hT in_T hown hK hP (tw_t) rfl 1 (by decide) (hT _ w673) (fun _ h9 => h9) rfl d_T_noCard_6 ?_
    refine lv_icmp_lt (tgt := 16) hx hb d_T_noCard_9 (by decide) (fun q2 => ?_) (fun q2 => ?_)
    · skip
      refine lv_iconst (v := 0) hx hb d_T_noCard_16 (by decide) ?_
      exact rd_zret hx hb hr hlocks (by first | contradiction | (simp [ncI, q1, q2]; done)) (by first | exact Or.inl rfl | exact Or.inr rfl | assumption | exact smI_01 _ _ _ _ _ _ | exact xtl_01 _ _ _ _ _ _ | exact bI_01 _ | exact xop_01 _ _ _ | exact xic_01 _ _ | exact xid_01 _) d_T_noCard_17
    · skip
      refine lv_iconst (v := 1) hx hb d_T_noCard_12 (by decide) ?_
      refine lv_goto (tgt := 17) hx hb d_T_noCard_13 (by decide) ?_
      exact rd_zret hx hb hr hlocks (by first | contradiction | (simp [ncI, q1, q2]; done)) (by first | exact Or.inl rfl | exact Or.inr rfl | assumption | exact smI_01 _ _ _ _ _ _ | exact xtl_01 _ _ _ _ _ _ | exact bI_01 _ | exact xop_01 _ _ _ | exact xic_01 _ _ | exact xid_01 _) d_T_noCard_17
set_option maxHeartbeats 4000000 in
set_option maxRecDepth 100000 in
theorem c_T_noDoor (l : Launch) (g : GG) (M : MW) (x : Int32) (sz : Nat) : Met l y_T_noDoor (k_T_noDoor :: TT) { frames := 0, cells := 0, slots := 0, locals := 0 } (Pm g [.int x] sz (M)) (Qrd (some (.int (ndI x)))) 0 0 (nofree) := by
  refine met_of (by decide) (Nat.le_of_ble_eq_true rfl) ?_
  intro pr en s mi below meth co hx hb hr hml hown hlocks hnm hT hsz hP hK ls hl
  have hl : lv_has ls 1 [(0, .int x)] := hl
  refine lv_iload_n hx hb d_T_noDoor_0 rfl (lv_at hl 0 rfl) ?_
  refine lv_if_lt (tgt := 11) hx hb d_T_noDoor_1 (by decide) (fun q1 => ?_) (fun q1 => ?_)
  · skip
    refine lv_iconst (v := 1) hx hb d_T_noDoor_11 (by decide) ?_
    refine lv_goto (tgt := 16) hx hb d_T_noDoor_12 (by decide) ?_
    exact rd_zret hx hb hr hlocks (by first | contradiction | (simp [ndI, q1]; done)) (by first | exact Or.inl rfl | exact Or.inr rfl | assumption | exact smI_01 _ _ _ _ _ _ | exact xtl_01 _ _ _ _ _ _ | exact bI_01 _ | exact xop_01 _ _ _ | exact xic_01 _ _ | exact xid_01 _) d_T_noDoor_16
  · skip
    refine lv_iload_n hx hb d_T_noDoor_4 rfl (lv_at hl 0 rfl) ?_
    refine lv_sipush (v := 199) hx hb d_T_noDoor_5 (by decide) ?_
    refine lv_icmp_le (tgt := 15) hx hb d_T_noDoor_8 (by decide) (fun q2 => ?_) (fun q2 => ?_)
    · skip
      refine lv_iconst (v := 0) hx hb d_T_noDoor_15 (by decide) ?_
      exact rd_zret hx hb hr hlocks (by first | contradiction | (simp [ndI, q1, q2]; done)) (by first | exact Or.inl rfl | exact Or.inr rfl | assumption | exact smI_01 _ _ _ _ _ _ | exact xtl_01 _ _ _ _ _ _ | exact bI_01 _ | exact xop_01 _ _ _ | exact xic_01 _ _ | exact xid_01 _) d_T_noDoor_16
    · skip
      refine lv_iconst (v := 1) hx hb d_T_noDoor_11 (by decide) ?_
      refine lv_goto (tgt := 16) hx hb d_T_noDoor_12 (by decide) ?_
      exact rd_zret hx hb hr hlocks (by first | contradiction | (simp [ndI, q1, q2]; done)) (by first | exact Or.inl rfl | exact Or.inr rfl | assumption | exact smI_01 _ _ _ _ _ _ | exact xtl_01 _ _ _ _ _ _ | exact bI_01 _ | exact xop_01 _ _ _ | exact xic_01 _ _ | exact xid_01 _) d_T_noDoor_16
set_option maxHeartbeats 4000000 in
set_option maxRecDepth 100000 in
theorem c_T_wordAt (l : Launch) (g : GG) (t : Nat) (σ : SG) (c b i : Nat) (sz : Nat) (hc : c < 4000) (hb2 : b < 2) (hi : i < 44) : Met l y_T_wordAt (k_T_wordAt :: TT) { frames := 0, cells := 0, slots := 0, locals := 0 } (Pm g [.ref t, .int (nI c), .int (nI b), .int (nI i)] sz (tw g t σ)) (Qrd (some (.int (wd σ c b i)))) 0 0 (nofree) := by
  refine met_of (by decide) (Nat.le_of_ble_eq_true rfl) ?_
  intro pr en s mi below meth co hx hb hr hml hown hlocks hnm hT hsz hP hK ls hl
  have hl : lv_has ls 4 [(0, .ref t), (1, .int (nI c)), (2, .int (nI b)), (3, .int (nI i))] := hl
  refine lv_aload_n hx hb d_T_wordAt_0 rfl (lv_at hl 0 rfl) ?_
  refine m_get (ci := 7) (v := .ref (t + 5)) hx hb hT in_T hown hK hP (tw_t) rfl 6 (by decide) (hT _ w678) (fun _ h9 => h9) rfl d_T_wordAt_1 ?_
  refine lv_bipush (v := 88) hx hb d_T_wordAt_4 (by decide) ?_
  refine lv_iload_n hx hb d_T_wordAt_6 rfl (lv_at hl 1 rfl) ?_
  refine lv_imul hx hb d_T_wordAt_7 ?_
  refine lv_bipush (v := 44) hx hb d_T_wordAt_8 (by decide) ?_
  refine lv_iload_n hx hb d_T_wordAt_10 rfl (lv_at hl 2 rfl) ?_
  refine lv_imul hx hb d_T_wordAt_11 ?_
  refine lv_iadd hx hb d_T_wordAt_12 ?_
  refine lv_iload_n hx hb d_T_wordAt_13 rfl (lv_at hl 3 rfl) ?_
  refine lv_iadd hx hb d_T_wordAt_14 ?_
  refine m_sald hx hb hK hP 1 (tw_5) rfl (j := 88 * c + 44 * b + i) (ix3 c b i) (by omega) (by decide) d_T_wordAt_15 ?_
  exact rd_iret hx hb hr hlocks (rfl) d_T_wordAt_16
set_option maxHeartbeats 4000000 in
set_option maxRecDepth 100000 in
theorem c_T_whole (l : Launch) (g : GG) (t : Nat) (σ : SG) (c b : Nat) (sz : Nat) (hc : c < 4000) (hb2 : b < 2) : Met l y_T_whole (k_T_whole :: TT) { frames := 1, cells := 0, slots := 0, locals := 23 } (Pm g [.ref t, .int (nI c), .int (nI b)] sz (tw g t σ)) (Qrd (some (.int (whI σ c b)))) 0 0 (nofree) := by
  refine met_of (by decide) (Nat.le_of_ble_eq_true rfl) ?_
  intro pr en s mi below meth co hx hb hr hml hown hlocks hnm hT hsz hP hK ls hl
  have hl : lv_has ls 3 [(0, .ref t), (1, .int (nI c)), (2, .int (nI b))] := hl
  refine lv_aload_n hx hb d_T_whole_0 rfl (lv_at hl 0 rfl) ?_
  refine lv_iload_n hx hb d_T_whole_1 rfl (lv_at hl 1 rfl) ?_
  refine lv_iload_n hx hb d_T_whole_2 rfl (lv_at hl 2 rfl) ?_
  refine lv_iconst (v := 0) hx hb d_T_whole_3 (by decide) ?_
  refine rd_run (c_V (As := [.int (nI c), .int (nI b), .int 0]) (rest := []) hx hb hml hl.1 hown hT hK hP (c_T_wordAt l g t σ c b 0 s.heap.size (by omega) (by first | decide | assumption | exact cur_lt _ _) (by decide)) kw_T_wordAt w775 w777 selp_T_wordAt w8 hd_T_wordAt rfl rfl ⟨by decide, by decide⟩ (tw_t) rfl rfl rfl (Nat.le_of_ble_eq_true rfl) d_T_whole_4 ⟨by decide, by decide⟩) rfl ?_
  refine lv_aload_n hx hb d_T_whole_7 rfl (lv_at hl 0 rfl) ?_
  refine lv_iload_n hx hb d_T_whole_8 rfl (lv_at hl 1 rfl) ?_
  refine lv_iload_n hx hb d_T_whole_9 rfl (lv_at hl 2 rfl) ?_
  refine lv_bipush (v := 43) hx hb d_T_whole_10 (by decide) ?_
  refine rd_run (c_V (As := [.int (nI c), .int (nI b), .int 43]) (rest := [.int (wd σ c b 0)]) hx hb hml hl.1 hown hT hK hP (c_T_wordAt l g t σ c b 43 s.heap.size (by omega) (by first | decide | assumption | exact cur_lt _ _) (by decide)) kw_T_wordAt w775 w777 selp_T_wordAt w8 hd_T_wordAt rfl rfl ⟨by decide, by decide⟩ (tw_t) rfl rfl rfl (Nat.le_of_ble_eq_true rfl) d_T_whole_12 ⟨by decide, by decide⟩) rfl ?_
  refine lv_icmp_ne (tgt := 22) hx hb d_T_whole_15 (by decide) (fun q1 => ?_) (fun q1 => ?_)
  · skip
    refine lv_iconst (v := 0) hx hb d_T_whole_22 (by decide) ?_
    exact rd_zret hx hb hr hlocks (by first | contradiction | (simp [whI, q1]; done)) (by first | exact Or.inl rfl | exact Or.inr rfl | assumption | exact smI_01 _ _ _ _ _ _ | exact xtl_01 _ _ _ _ _ _ | exact bI_01 _ | exact xop_01 _ _ _ | exact xic_01 _ _ | exact xid_01 _) d_T_whole_23
  · skip
    refine lv_iconst (v := 1) hx hb d_T_whole_18 (by decide) ?_
    refine lv_goto (tgt := 23) hx hb d_T_whole_19 (by decide) ?_
    exact rd_zret hx hb hr hlocks (by first | contradiction | (simp [whI, q1]; done)) (by first | exact Or.inl rfl | exact Or.inr rfl | assumption | exact smI_01 _ _ _ _ _ _ | exact xtl_01 _ _ _ _ _ _ | exact bI_01 _ | exact xop_01 _ _ _ | exact xic_01 _ _ | exact xid_01 _) d_T_whole_23
set_option maxHeartbeats 4000000 in
set_option maxRecDepth 100000 in
theorem c_T_sequence (l : Launch) (g : GG) (t : Nat) (σ : SG) (c b : Nat) (sz : Nat) (hc : c < 4000) (hb2 : b < 2) : Met l y_T_sequence (k_T_sequence :: TT) { frames := 1, cells := 0, slots := 0, locals := 23 } (Pm g [.ref t, .int (nI c), .int (nI b)] sz (tw g t σ)) (Qrd (some (.int (sq σ c b)))) 0 0 (nofree) := by
  refine met_of (by decide) (Nat.le_of_ble_eq_true rfl) ?_
  intro pr en s mi below meth co hx hb hr hml hown hlocks hnm hT hsz hP hK ls hl
  have hl : lv_has ls 3 [(0, .ref t), (1, .int (nI c)), (2, .int (nI b))] := hl
  refine lv_aload_n hx hb d_T_sequence_0 rfl (lv_at hl 0 rfl) ?_
  refine lv_iload_n hx hb d_T_sequence_1 rfl (lv_at hl 1 rfl) ?_
  refine lv_iload_n hx hb d_T_sequence_2 rfl (lv_at hl 2 rfl) ?_
  refine lv_iconst (v := 0) hx hb d_T_sequence_3 (by decide) ?_
  refine rd_run (c_V (As := [.int (nI c), .int (nI b), .int 0]) (rest := []) hx hb hml hl.1 hown hT hK hP (c_T_wordAt l g t σ c b 0 s.heap.size (by omega) (by first | decide | assumption | exact cur_lt _ _) (by decide)) kw_T_wordAt w775 w777 selp_T_wordAt w8 hd_T_wordAt rfl rfl ⟨by decide, by decide⟩ (tw_t) rfl rfl rfl (Nat.le_of_ble_eq_true rfl) d_T_sequence_4 ⟨by decide, by decide⟩) rfl ?_
  refine lv_bipush (v := 8) hx hb d_T_sequence_7 (by decide) ?_
  refine lv_ishr hx hb d_T_sequence_9 ?_
  refine lv_sipush (v := 255) hx hb d_T_sequence_10 (by decide) ?_
  refine lv_iand hx hb d_T_sequence_13 ?_
  exact rd_iret hx hb hr hlocks (rfl) d_T_sequence_14
set_option maxHeartbeats 4000000 in
set_option maxRecDepth 100000 in
theorem c_T_current (l : Launch) (g : GG) (t : Nat) (σ : SG) (c : Nat) (sz : Nat) (hc : c < 4000) : Met l y_T_current (k_T_current :: TT) { frames := 2, cells := 0, slots := 0, locals := 45 } (Pm g [.ref t, .int (nI c)] sz (tw g t σ)) (Qrd (some (.int (nI (cur σ c))))) 0 0 (nofree) := by
  refine met_of (by decide) (Nat.le_of_ble_eq_true rfl) ?_
  intro pr en s mi below meth co hx hb hr hml hown hlocks hnm hT hsz hP hK ls hl
  have hl : lv_has ls 3 [(0, .ref t), (1, .int (nI c))] := hl
  refine lv_aload_n hx hb d_T_current_0 rfl (lv_at hl 0 rfl) ?_
  refine lv_iload_n hx hb d_T_current_1 rfl (lv_at hl 1 rfl) ?_
  refine lv_iconst (v := 0) hx hb d_T_current_2 (by decide) ?_
  refine rd_run (c_V (As := [.int (nI c), .int 0]) (rest := []) hx hb hml hl.1 hown hT hK hP (c_T_whole l g t σ c 0 s.heap.size hc (by decide)) kw_T_whole w771 w773 selp_T_whole w8 hd_T_whole rfl rfl ⟨by decide, by decide⟩ (tw_t) rfl rfl rfl (Nat.le_of_ble_eq_true rfl) d_T_current_3 ⟨by decide, by decide⟩) rfl ?_
  refine lv_if_eq (tgt := 18) hx hb d_T_current_6 (by decide) (fun c1 => ?_) (fun c1 => ?_)
  · skip
    rw [whI_0] at c1
    refine lv_aload_n hx hb d_T_current_18 rfl (lv_at hl 0 rfl) ?_
    refine lv_iload_n hx hb d_T_current_19 rfl (lv_at hl 1 rfl) ?_
    refine lv_iconst (v := 0) hx hb d_T_current_20 (by decide) ?_
    refine rd_run (c_V (As := [.int (nI c), .int 0]) (rest := []) hx hb hml hl.1 hown hT hK hP (c_T_whole l g t σ c 0 s.heap.size hc (by decide)) kw_T_whole w771 w773 selp_T_whole w8 hd_T_whole rfl rfl ⟨by decide, by decide⟩ (tw_t) rfl rfl rfl (Nat.le_of_ble_eq_true rfl) d_T_current_21 ⟨by decide, by decide⟩) rfl ?_
    refine lv_if_eq (tgt := 31) hx hb d_T_current_24 (by decide) (fun c3 => ?_) (fun c3 => ?_)
    · skip
      rw [whI_0] at c3
      refine lv_iconst (v := 1) hx hb d_T_current_31 (by decide) ?_
      exact rd_iret hx hb hr hlocks (by first | contradiction | (simp [cur, c1, c3, nI_0, nI_one]; done)) d_T_current_32
    · skip
      rw [whI_0, Classical.not_not] at c3
      refine lv_iconst (v := 0) hx hb d_T_current_27 (by decide) ?_
      refine lv_goto (tgt := 32) hx hb d_T_current_28 (by decide) ?_
      exact rd_iret hx hb hr hlocks (by first | contradiction | (simp [cur, c1, c3, nI_0, nI_one]; done)) d_T_current_32
  · skip
    rw [whI_0, Classical.not_not] at c1
    refine lv_aload_n hx hb d_T_current_9 rfl (lv_at hl 0 rfl) ?_
    refine lv_iload_n hx hb d_T_current_10 rfl (lv_at hl 1 rfl) ?_
    refine lv_iconst (v := 1) hx hb d_T_current_11 (by decide) ?_
    refine rd_run (c_V (As := [.int (nI c), .int 1]) (rest := []) hx hb hml hl.1 hown hT hK hP (c_T_whole l g t σ c 1 s.heap.size hc (by decide)) kw_T_whole w771 w773 selp_T_whole w8 hd_T_whole rfl rfl ⟨by decide, by decide⟩ (tw_t) rfl rfl rfl (Nat.le_of_ble_eq_true rfl) d_T_current_12 ⟨by decide, by decide⟩) rfl ?_
    refine lv_if_ne (tgt := 33) hx hb d_T_current_15 (by decide) (fun c2 => ?_) (fun c2 => ?_)
    · skip
      rw [whI_0, Classical.not_not] at c2
      refine lv_aload_n hx hb d_T_current_33 rfl (lv_at hl 0 rfl) ?_
      refine lv_iload_n hx hb d_T_current_34 rfl (lv_at hl 1 rfl) ?_
      refine lv_iconst (v := 1) hx hb d_T_current_35 (by decide) ?_
      refine rd_run (c_V (As := [.int (nI c), .int 1]) (rest := []) hx hb hml hl.1 hown hT hK hP (c_T_sequence l g t σ c 1 s.heap.size hc (by first | decide | assumption | exact cur_lt _ _)) kw_T_sequence w779 w781 selp_T_sequence w8 hd_T_sequence rfl rfl ⟨by decide, by decide⟩ (tw_t) rfl rfl rfl (Nat.le_of_ble_eq_true rfl) d_T_current_36 ⟨by decide, by decide⟩) rfl ?_
      refine lv_aload_n hx hb d_T_current_39 rfl (lv_at hl 0 rfl) ?_
      refine lv_iload_n hx hb d_T_current_40 rfl (lv_at hl 1 rfl) ?_
      refine lv_iconst (v := 0) hx hb d_T_current_41 (by decide) ?_
      refine rd_run (c_V (As := [.int (nI c), .int 0]) (rest := [.int (sq σ c 1)]) hx hb hml hl.1 hown hT hK hP (c_T_sequence l g t σ c 0 s.heap.size hc (by first | decide | assumption | exact cur_lt _ _)) kw_T_sequence w779 w781 selp_T_sequence w8 hd_T_sequence rfl rfl ⟨by decide, by decide⟩ (tw_t) rfl rfl rfl (Nat.le_of_ble_eq_true rfl) d_T_current_42 ⟨by decide, by decide⟩) rfl ?_
      refine lv_isub hx hb d_T_current_45 ?_
      refine lv_sipush (v := 255) hx hb d_T_current_46 (by decide) ?_
      refine lv_iand hx hb d_T_current_49 ?_
      refine lv_istore_n (lv' := [(2, .int (((sq σ c 1) - (sq σ c 0)) &&& 255)), (0, .ref t), (1, .int (nI c))]) hx hb d_T_current_50 rfl hl (by decide) rfl (fun ls hl => ?_)
      refine lv_iload_n hx hb d_T_current_51 rfl (lv_at hl 0 rfl) ?_
      refine lv_if_le (tgt := 66) hx hb d_T_current_52 (by decide) (fun q1 => ?_) (fun q1 => ?_)
      · skip
        refine lv_iconst (v := 0) hx hb d_T_current_66 (by decide) ?_
        exact rd_iret hx hb hr hlocks (by first | contradiction | (simp [cur, c1, c2, q1, ahd, nI_0, nI_one]; done)) d_T_current_67
      · skip
        refine lv_iload_n hx hb d_T_current_55 rfl (lv_at hl 0 rfl) ?_
        refine lv_sipush (v := 128) hx hb d_T_current_56 (by decide) ?_
        refine lv_icmp_ge (tgt := 66) hx hb d_T_current_59 (by decide) (fun q2 => ?_) (fun q2 => ?_)
        · skip
          refine lv_iconst (v := 0) hx hb d_T_current_66 (by decide) ?_
          exact rd_iret hx hb hr hlocks (by first | contradiction | (simp [cur, c1, c2, q1, q2, ahd, nI_0, nI_one]; done)) d_T_current_67
        · skip
          refine lv_iconst (v := 1) hx hb d_T_current_62 (by decide) ?_
          refine lv_goto (tgt := 67) hx hb d_T_current_63 (by decide) ?_
          exact rd_iret hx hb hr hlocks (by first | contradiction | (simp [cur, c1, c2, q1, q2, ahd, nI_0, nI_one]; done)) d_T_current_67
    · skip
      rw [whI_0] at c2
      refine lv_aload_n hx hb d_T_current_18 rfl (lv_at hl 0 rfl) ?_
      refine lv_iload_n hx hb d_T_current_19 rfl (lv_at hl 1 rfl) ?_
      refine lv_iconst (v := 0) hx hb d_T_current_20 (by decide) ?_
      refine rd_run (c_V (As := [.int (nI c), .int 0]) (rest := []) hx hb hml hl.1 hown hT hK hP (c_T_whole l g t σ c 0 s.heap.size hc (by decide)) kw_T_whole w771 w773 selp_T_whole w8 hd_T_whole rfl rfl ⟨by decide, by decide⟩ (tw_t) rfl rfl rfl (Nat.le_of_ble_eq_true rfl) d_T_current_21 ⟨by decide, by decide⟩) rfl ?_
      refine lv_if_eq (tgt := 31) hx hb d_T_current_24 (by decide) (fun c3 => ?_) (fun c3 => ?_)
      · skip
        rw [whI_0] at c3
        refine lv_iconst (v := 1) hx hb d_T_current_31 (by decide) ?_
        exact rd_iret hx hb hr hlocks (by first | contradiction | (simp [cur, c1, c2, c3, nI_0, nI_one]; done)) d_T_current_32
      · skip
        rw [whI_0, Classical.not_not] at c3
        refine lv_iconst (v := 0) hx hb d_T_current_27 (by decide) ?_
        refine lv_goto (tgt := 32) hx hb d_T_current_28 (by decide) ?_
        exact rd_iret hx hb hr hlocks (by first | contradiction | (simp [cur, c1, c2, c3, nI_0, nI_one]; done)) d_T_current_32
set_option maxHeartbeats 4000000 in
set_option maxRecDepth 100000 in
theorem c_T_count (l : Launch) (g : GG) (t : Nat) (σ : SG) (c : Nat) (sz : Nat) (hc : c < 4000) : Met l y_T_count (k_T_count :: TT) { frames := 3, cells := 0, slots := 0, locals := 67 } (Pm g [.ref t, .int (nI c)] sz (tw g t σ)) (Qrd (some (.int (cnI σ c)))) 0 0 (nofree) := by
  refine met_of (by decide) (Nat.le_of_ble_eq_true rfl) ?_
  intro pr en s mi below meth co hx hb hr hml hown hlocks hnm hT hsz hP hK ls hl
  have hl : lv_has ls 2 [(0, .ref t), (1, .int (nI c))] := hl
  refine lv_aload_n hx hb d_T_count_0 rfl (lv_at hl 0 rfl) ?_
  refine lv_iload_n hx hb d_T_count_1 rfl (lv_at hl 1 rfl) ?_
  refine lv_aload_n hx hb d_T_count_2 rfl (lv_at hl 0 rfl) ?_
  refine lv_iload_n hx hb d_T_count_3 rfl (lv_at hl 1 rfl) ?_
  refine rd_run (c_V (As := [.int (nI c)]) (rest := [.int (nI c), .ref t]) hx hb hml hl.1 hown hT hK hP (c_T_current l g t σ c s.heap.size hc) kw_T_current w767 w769 selp_T_current w8 hd_T_current rfl rfl ⟨by decide, by decide⟩ (tw_t) rfl rfl rfl (Nat.le_of_ble_eq_true rfl) d_T_count_4 ⟨by decide, by decide⟩) rfl ?_
  refine lv_iconst (v := 0) hx hb d_T_count_7 (by decide) ?_
  refine rd_run (c_V (As := [.int (nI c), .int (nI (cur σ c)), .int 0]) (rest := []) hx hb hml hl.1 hown hT hK hP (c_T_wordAt l g t σ c (cur σ c) 0 s.heap.size (by omega) (by first | decide | assumption | exact cur_lt _ _) (by decide)) kw_T_wordAt w775 w777 selp_T_wordAt w8 hd_T_wordAt rfl rfl ⟨by decide, by decide⟩ (tw_t) rfl rfl rfl (Nat.le_of_ble_eq_true rfl) d_T_count_8 ⟨by decide, by decide⟩) rfl ?_
  refine lv_sipush (v := 255) hx hb d_T_count_11 (by decide) ?_
  refine lv_iand hx hb d_T_count_14 ?_
  exact rd_iret hx hb hr hlocks (rfl) d_T_count_15
set_option maxHeartbeats 4000000 in
set_option maxRecDepth 100000 in
theorem c_T_first (l : Launch) (g : GG) (t : Nat) (σ : SG) (c : Nat) (sz : Nat) (hc : c < 4000) : Met l y_T_first (k_T_first :: TT) { frames := 4, cells := 0, slots := 0, locals := 88 } (Pm g [.ref t, .int (nI c)] sz (tw g t σ)) (Qrd (some (.int (fiI σ c)))) 0 0 (nofree) := by
  refine met_of (by decide) (Nat.le_of_ble_eq_true rfl) ?_
  intro pr en s mi below meth co hx hb hr hml hown hlocks hnm hT hsz hP hK ls hl
  have hl : lv_has ls 2 [(0, .ref t), (1, .int (nI c))] := hl
  refine lv_aload_n hx hb d_T_first_0 rfl (lv_at hl 0 rfl) ?_
  refine lv_iload_n hx hb d_T_first_1 rfl (lv_at hl 1 rfl) ?_
  refine rd_run (c_V (As := [.int (nI c)]) (rest := []) hx hb hml hl.1 hown hT hK hP (c_T_count l g t σ c s.heap.size hc) kw_T_count w763 w765 selp_T_count w8 hd_T_count rfl rfl ⟨by decide, by decide⟩ (tw_t) rfl rfl rfl (Nat.le_of_ble_eq_true rfl) d_T_first_2 ⟨by decide, by decide⟩) rfl ?_
  refine lv_if_ne (tgt := 12) hx hb d_T_first_5 (by decide) (fun q1 => ?_) (fun q1 => ?_)
  · skip
    refine lv_aload_n hx hb d_T_first_12 rfl (lv_at hl 0 rfl) ?_
    refine lv_iload_n hx hb d_T_first_13 rfl (lv_at hl 1 rfl) ?_
    refine lv_aload_n hx hb d_T_first_14 rfl (lv_at hl 0 rfl) ?_
    refine lv_iload_n hx hb d_T_first_15 rfl (lv_at hl 1 rfl) ?_
    refine rd_run (c_V (As := [.int (nI c)]) (rest := [.int (nI c), .ref t]) hx hb hml hl.1 hown hT hK hP (c_T_current l g t σ c s.heap.size hc) kw_T_current w767 w769 selp_T_current w8 hd_T_current rfl rfl ⟨by decide, by decide⟩ (tw_t) rfl rfl rfl (Nat.le_of_ble_eq_true rfl) d_T_first_16 ⟨by decide, by decide⟩) rfl ?_
    refine lv_iconst (v := 1) hx hb d_T_first_19 (by decide) ?_
    refine rd_run (c_V (As := [.int (nI c), .int (nI (cur σ c)), .int 1]) (rest := []) hx hb hml hl.1 hown hT hK hP (c_T_wordAt l g t σ c (cur σ c) 1 s.heap.size (by omega) (by first | decide | assumption | exact cur_lt _ _) (by decide)) kw_T_wordAt w775 w777 selp_T_wordAt w8 hd_T_wordAt rfl rfl ⟨by decide, by decide⟩ (tw_t) rfl rfl rfl (Nat.le_of_ble_eq_true rfl) d_T_first_20 ⟨by decide, by decide⟩) rfl ?_
    exact rd_iret hx hb hr hlocks (by first | contradiction | (simp [fiI, q1]; done)) d_T_first_23
  · skip
    refine lv_iconst (v := 0) hx hb d_T_first_8 (by decide) ?_
    refine lv_goto (tgt := 23) hx hb d_T_first_9 (by decide) ?_
    exact rd_iret hx hb hr hlocks (by first | contradiction | (simp [fiI, q1]; done)) d_T_first_23
set_option maxHeartbeats 4000000 in
set_option maxRecDepth 100000 in
theorem c_T_seen (l : Launch) (g : GG) (t : Nat) (σ : SG) (c : Nat) (sz : Nat) (hc : c < 4000) : Met l y_T_seen (k_T_seen :: TT) { frames := 3, cells := 0, slots := 0, locals := 67 } (Pm g [.ref t, .int (nI c)] sz (tw g t σ)) (Qrd (some (.int (seI σ c)))) 0 0 (nofree) := by
  refine met_of (by decide) (Nat.le_of_ble_eq_true rfl) ?_
  intro pr en s mi below meth co hx hb hr hml hown hlocks hnm hT hsz hP hK ls hl
  have hl : lv_has ls 2 [(0, .ref t), (1, .int (nI c))] := hl
  refine lv_aload_n hx hb d_T_seen_0 rfl (lv_at hl 0 rfl) ?_
  refine lv_iload_n hx hb d_T_seen_1 rfl (lv_at hl 1 rfl) ?_
  refine lv_aload_n hx hb d_T_seen_2 rfl (lv_at hl 0 rfl) ?_
  refine lv_iload_n hx hb d_T_seen_3 rfl (lv_at hl 1 rfl) ?_
  refine rd_run (c_V (As := [.int (nI c)]) (rest := [.int (nI c), .ref t]) hx hb hml hl.1 hown hT hK hP (c_T_current l g t σ c s.heap.size hc) kw_T_current w767 w769 selp_T_current w8 hd_T_current rfl rfl ⟨by decide, by decide⟩ (tw_t) rfl rfl rfl (Nat.le_of_ble_eq_true rfl) d_T_seen_4 ⟨by decide, by decide⟩) rfl ?_
  refine lv_iconst (v := 2) hx hb d_T_seen_7 (by decide) ?_
  refine rd_run (c_V (As := [.int (nI c), .int (nI (cur σ c)), .int 2]) (rest := []) hx hb hml hl.1 hown hT hK hP (c_T_wordAt l g t σ c (cur σ c) 2 s.heap.size (by omega) (by first | decide | assumption | exact cur_lt _ _) (by decide)) kw_T_wordAt w775 w777 selp_T_wordAt w8 hd_T_wordAt rfl rfl ⟨by decide, by decide⟩ (tw_t) rfl rfl rfl (Nat.le_of_ble_eq_true rfl) d_T_seen_8 ⟨by decide, by decide⟩) rfl ?_
  exact rd_iret hx hb hr hlocks (rfl) d_T_seen_11
set_option maxHeartbeats 4000000 in
set_option maxRecDepth 100000 in
theorem c_T_greatest (l : Launch) (g : GG) (t : Nat) (σ : SG) (d : Nat) (sz : Nat) (hd2 : d < 200) : Met l y_T_greatest (k_T_greatest :: TT) { frames := 0, cells := 0, slots := 0, locals := 0 } (Pm g [.ref t, .int (nI d)] sz (tw g t σ)) (Qrd (some (.int (nI (gre σ d))))) 0 0 (nofree) := by
  refine met_of (by decide) (Nat.le_of_ble_eq_true rfl) ?_
  intro pr en s mi below meth co hx hb hr hml hown hlocks hnm hT hsz hP hK ls hl
  have hl : lv_has ls 3 [(0, .ref t), (1, .int (nI d))] := hl
  refine lv_sipush (v := 3000) hx hb d_T_greatest_0 (by decide) ?_
  refine lv_istore_n (lv' := [(2, .int 3000), (0, .ref t), (1, .int (nI d))]) hx hb d_T_greatest_3 rfl hl (by decide) rfl (fun ls hl => ?_)
  refine W.rep (α := Array Slot × Nat) (fun (ls, k) => k) (fun (ls, k) => lv_has ls 3 [(0, .ref t), (1, .int (nI d)), (2, .int (nI k))] ∧ k ≤ 3000 ∧ grF σ d 3000 = grF σ d k) (fun (ls, k) => s.heap) (fun (ls, k) => []) (fun (ls, k) => F0 mi 4 ls []) ?_ (ls, 3000) ⟨lv_sub hl [1, 2, 0] rfl, by omega, rfl⟩
  rintro ⟨ls, k⟩ ⟨hl, hi1, hi2⟩ ih
  dsimp only at hl hi1 hi2 ih ⊢
  refine lv_iload_n hx hb d_T_greatest_4 rfl (lv_at hl 2 rfl) ?_
  refine lv_if_le (tgt := 29) hx hb d_T_greatest_5 (by decide) (fun c1 => ?_) (fun c1 => ?_)
  · skip
    have hk0 : k = 0 := by rcases Nat.eq_zero_or_pos k with h | h; exact h; exact absurd c1 (nI_nle h (by omega))
    subst hk0
    refine lv_iload_n hx hb d_T_greatest_29 rfl (lv_at hl 2 rfl) ?_
    exact rd_iret hx hb hr hlocks (by first | (unfold gre; rw [hi2]; rfl) | (unfold gre; rw [hi2]; cases k with | zero => rfl | succ k => exact congrArg nI (if_neg c2).symm)) d_T_greatest_30
  · skip
    refine lv_aload_n hx hb d_T_greatest_8 rfl (lv_at hl 0 rfl) ?_
    refine m_get (ci := 7) (v := .ref (t + 8)) hx hb hT in_T hown hK hP (tw_t) rfl 10 (by decide) (hT _ w682) (fun _ h9 => h9) rfl d_T_greatest_9 ?_
    refine lv_sipush (v := 3001) hx hb d_T_greatest_12 (by decide) ?_
    refine lv_iload_n hx hb d_T_greatest_15 rfl (lv_at hl 1 rfl) ?_
    refine lv_imul hx hb d_T_greatest_16 ?_
    refine lv_iload_n hx hb d_T_greatest_17 rfl (lv_at hl 2 rfl) ?_
    refine lv_iadd hx hb d_T_greatest_18 ?_
    refine m_zald hx hb hK hP 2 (tw_8) rfl (j := 3001 * d + k) (ixd d k) (by omega) (by decide) d_T_greatest_19 ?_
    refine lv_if_ne (tgt := 29) hx hb d_T_greatest_20 (by decide) (fun c2 => ?_) (fun c2 => ?_)
    · skip
      refine lv_iload_n hx hb d_T_greatest_29 rfl (lv_at hl 2 rfl) ?_
      exact rd_iret hx hb hr hlocks (by first | (unfold gre; rw [hi2]; rfl) | (unfold gre; rw [hi2]; cases k with | zero => rfl | succ k => exact congrArg nI (if_neg c2).symm)) d_T_greatest_30
    · skip
      obtain ⟨k, rfl⟩ : ∃ j, k = j + 1 := ⟨k - 1, by rcases Nat.eq_zero_or_pos k with h | h; exact absurd (by rw [h]; decide) c1; omega⟩
      have hrec : grF σ d (k + 1) = grF σ d k := if_pos c2
      refine lv_iinc (v := nI k) (lv' := [(2, .int (nI k)), (0, .ref t), (1, .int (nI d))]) hx hb d_T_greatest_23 hl (k := 2) rfl (pk_m1 k) (by decide) rfl (fun ls hl => ?_)
      refine lv_goto (tgt := 4) hx hb d_T_greatest_26 (by decide) ?_
      exact ih (_, k) ⟨lv_sub hl [1, 2, 0] rfl, by omega, by rw [hi2, hrec]⟩ (by omega)
theorem ixd1 (d k : Nat) : (3001 : Int32) * nI d + nI k + 1 = nI (3001 * d + (k + 1)) := by
  rw [ixd, nI_1]; rfl
theorem ixd2 (d k : Nat) : (3001 : Int32) * nI d + nI (k + 1) - 1 = nI (3001 * d + k) := by
  rw [ixd]; exact nI_pred (3001 * d + k)
theorem ge_of {a b : Nat} (h : nI a ≤ nI b) (ha : a < 2 ^ 31) (hb : b < 2 ^ 31) : a ≤ b := (nI_leI ha hb).mp h
theorem lt_of {a b : Nat} (h : nI a < nI b) (ha : a < 2 ^ 31) (hb : b < 2 ^ 31) : a < b := (nI_ltI ha hb).mp h
set_option maxHeartbeats 4000000 in
set_option maxRecDepth 100000 in
theorem c_T_complete (l : Launch) (g : GG) (t : Nat) (σ : SG) (d : Nat) (sz : Nat) (hd2 : d < 200) : Met l y_T_complete (k_T_complete :: TT) { frames := 0, cells := 0, slots := 0, locals := 0 } (Pm g [.ref t, .int (nI d)] sz (tw g t σ)) (Qrd (some (.int (nI (cmp σ d))))) 0 0 (nofree) := by
  refine met_of (by decide) (Nat.le_of_ble_eq_true rfl) ?_
  intro pr en s mi below meth co hx hb hr hml hown hlocks hnm hT hsz hP hK ls hl
  have hl : lv_has ls 3 [(0, .ref t), (1, .int (nI d))] := hl
  refine lv_iconst (v := 0) hx hb d_T_complete_0 (by decide) ?_
  refine lv_istore_n (lv' := [(2, .int 0), (0, .ref t), (1, .int (nI d))]) hx hb d_T_complete_1 rfl hl (by decide) rfl (fun ls hl => ?_)
  refine W.rep (α := Array Slot × Nat) (fun (ls, k) => 3000 - k) (fun (ls, k) => lv_has ls 3 [(0, .ref t), (1, .int (nI d)), (2, .int (nI k))] ∧ k ≤ 3000 ∧ cpF σ d 3000 0 = cpF σ d (3000 - k) k) (fun (ls, k) => s.heap) (fun (ls, k) => []) (fun (ls, k) => F0 mi 2 ls []) ?_ (ls, 0) ⟨lv_sub hl [1, 2, 0] rfl, by omega, rfl⟩
  rintro ⟨ls, k⟩ ⟨hl, hi1, hi2⟩ ih
  dsimp only at hl hi1 hi2 ih ⊢
  refine lv_iload_n hx hb d_T_complete_2 rfl (lv_at hl 2 rfl) ?_
  refine lv_sipush (v := 3000) hx hb d_T_complete_3 (by decide) ?_
  refine lv_icmp_ge (tgt := 32) hx hb d_T_complete_6 (by decide) (fun c1 => ?_) (fun c1 => ?_)
  · skip
    have hk0 : 3000 ≤ k := ge_of (a := 3000) c1 (by decide) (by omega)
    have hk1 : k = 3000 := by omega
    refine lv_iload_n hx hb d_T_complete_32 rfl (lv_at hl 2 rfl) ?_
    exact rd_iret hx hb hr hlocks (by first | (unfold cmp; rw [hi2, hrec]) | (unfold cmp; rw [hi2, hk1]; rfl)) d_T_complete_33
  · skip
    have hk0 : ¬ 3000 ≤ k := fun h => c1 (nI_le (a := 3000) h (by omega))
    refine lv_aload_n hx hb d_T_complete_9 rfl (lv_at hl 0 rfl) ?_
    refine m_get (ci := 7) (v := .ref (t + 8)) hx hb hT in_T hown hK hP (tw_t) rfl 10 (by decide) (hT _ w682) (fun _ h9 => h9) rfl d_T_complete_10 ?_
    refine lv_sipush (v := 3001) hx hb d_T_complete_13 (by decide) ?_
    refine lv_iload_n hx hb d_T_complete_16 rfl (lv_at hl 1 rfl) ?_
    refine lv_imul hx hb d_T_complete_17 ?_
    refine lv_iload_n hx hb d_T_complete_18 rfl (lv_at hl 2 rfl) ?_
    refine lv_iadd hx hb d_T_complete_19 ?_
    refine lv_iconst (v := 1) hx hb d_T_complete_20 (by decide) ?_
    refine lv_iadd hx hb d_T_complete_21 ?_
    refine m_zald hx hb hK hP 2 (tw_8) rfl (j := 3001 * d + (k + 1)) (ixd1 d k) (by omega) (by decide) d_T_complete_22 ?_
    refine lv_if_eq (tgt := 32) hx hb d_T_complete_23 (by decide) (fun c2 => ?_) (fun c2 => ?_)
    · skip
      have hrec : cpF σ d (3000 - k) k = k := by obtain ⟨f, hf⟩ : ∃ f, 3000 - k = f + 1 := ⟨3000 - k - 1, by omega⟩; rw [hf]; exact if_pos c2
      refine lv_iload_n hx hb d_T_complete_32 rfl (lv_at hl 2 rfl) ?_
      exact rd_iret hx hb hr hlocks (by first | (unfold cmp; rw [hi2, hrec]) | (unfold cmp; rw [hi2, hk1]; rfl)) d_T_complete_33
    · skip
      have hrec : cpF σ d (3000 - k) k = cpF σ d (3000 - (k + 1)) (k + 1) := by obtain ⟨f, hf⟩ : ∃ f, 3000 - k = f + 1 := ⟨3000 - k - 1, by omega⟩; rw [hf, show 3000 - (k + 1) = f by omega]; exact if_neg c2
      refine lv_iinc (v := nI (k + 1)) (lv' := [(2, .int (nI (k + 1))), (0, .ref t), (1, .int (nI d))]) hx hb d_T_complete_26 hl (k := 2) rfl (nI_1 k) (by decide) rfl (fun ls hl => ?_)
      refine lv_goto (tgt := 2) hx hb d_T_complete_29 (by decide) ?_
      exact ih (_, k + 1) ⟨lv_sub hl [1, 2, 0] rfl, by omega, by rw [hi2, hrec]⟩ (by omega)
set_option maxHeartbeats 4000000 in
set_option maxRecDepth 100000 in
theorem c_T_marks (l : Launch) (g : GG) (t : Nat) (σ : SG) (d : Nat) (sz : Nat) (hd2 : d < 200) : Met l y_T_marks (k_T_marks :: TT) { frames := 0, cells := 0, slots := 0, locals := 0 } (Pm g [.ref t, .int (nI d)] sz (tw g t σ)) (Qrd (some (.int (nI (mkF σ d 3000))))) 0 0 (nofree) := by
  refine met_of (by decide) (Nat.le_of_ble_eq_true rfl) ?_
  intro pr en s mi below meth co hx hb hr hml hown hlocks hnm hT hsz hP hK ls hl
  have hl : lv_has ls 4 [(0, .ref t), (1, .int (nI d))] := hl
  refine lv_iconst (v := 0) hx hb d_T_marks_0 (by decide) ?_
  refine lv_istore_n (lv' := [(2, .int 0), (0, .ref t), (1, .int (nI d))]) hx hb d_T_marks_1 rfl hl (by decide) rfl (fun ls hl => ?_)
  refine lv_iconst (v := 1) hx hb d_T_marks_2 (by decide) ?_
  refine lv_istore_n (lv' := [(3, .int 1), (2, .int 0), (0, .ref t), (1, .int (nI d))]) hx hb d_T_marks_3 rfl hl (by decide) rfl (fun ls hl => ?_)
  refine W.rep (α := Array Slot × Nat) (fun (ls, k) => 3000 - k) (fun (ls, k) => lv_has ls 4 [(0, .ref t), (1, .int (nI d)), (2, .int (nI (mkF σ d k))), (3, .int (nI (k + 1)))] ∧ k ≤ 3000) (fun (ls, k) => s.heap) (fun (ls, k) => []) (fun (ls, k) => F0 mi 4 ls []) ?_ (ls, 0) ⟨lv_sub hl [2, 3, 1, 0] rfl, by omega⟩
  rintro ⟨ls, k⟩ ⟨hl, hi1⟩ ih
  dsimp only at hl hi1 ih ⊢
  refine lv_iload_n hx hb d_T_marks_4 rfl (lv_at hl 3 rfl) ?_
  refine lv_sipush (v := 3000) hx hb d_T_marks_5 (by decide) ?_
  refine lv_icmp_gt (tgt := 40) hx hb d_T_marks_8 (by decide) (fun c1 => ?_) (fun c1 => ?_)
  · skip
    have hk0 : 3000 < k + 1 := lt_of (a := 3000) c1 (by decide) (by omega)
    have hk1 : k = 3000 := by omega
    subst hk1
    refine lv_iload_n hx hb d_T_marks_40 rfl (lv_at hl 2 rfl) ?_
    exact rd_iret hx hb hr hlocks (rfl) d_T_marks_41
  · skip
    have hk0 : k < 3000 := by rcases Nat.lt_or_ge k 3000 with h | h; exact h; exact absurd (nI_lt (a := 3000) (b := k + 1) (by omega) (by omega)) c1
    refine lv_aload_n hx hb d_T_marks_11 rfl (lv_at hl 0 rfl) ?_
    refine m_get (ci := 7) (v := .ref (t + 8)) hx hb hT in_T hown hK hP (tw_t) rfl 10 (by decide) (hT _ w682) (fun _ h9 => h9) rfl d_T_marks_12 ?_
    refine lv_sipush (v := 3001) hx hb d_T_marks_15 (by decide) ?_
    refine lv_iload_n hx hb d_T_marks_18 rfl (lv_at hl 1 rfl) ?_
    refine lv_imul hx hb d_T_marks_19 ?_
    refine lv_iload_n hx hb d_T_marks_20 rfl (lv_at hl 3 rfl) ?_
    refine lv_iadd hx hb d_T_marks_21 ?_
    refine m_zald hx hb hK hP 2 (tw_8) rfl (j := 3001 * d + (k + 1)) (ixd d (k + 1)) (by omega) (by decide) d_T_marks_22 ?_
    refine lv_if_eq (tgt := 32) hx hb d_T_marks_23 (by decide) (fun c2 => ?_) (fun c2 => ?_)
    · skip
      have hrec : mkF σ d (k + 1) = mkF σ d k := if_pos c2
      refine lv_iload_n hx hb d_T_marks_32 rfl (lv_at hl 2 rfl) ?_
      refine lv_istore_n (lv' := [(2, .int (nI (mkF σ d k))), (0, .ref t), (1, .int (nI d)), (3, .int (nI (k + 1)))]) hx hb d_T_marks_33 rfl hl (by decide) rfl (fun ls hl => ?_)
      refine lv_iinc (v := nI (k + 1 + 1)) (lv' := [(3, .int (nI (k + 1 + 1))), (2, .int (nI (mkF σ d k))), (0, .ref t), (1, .int (nI d))]) hx hb d_T_marks_34 hl (k := 3) rfl (nI_1 (k + 1)) (by decide) rfl (fun ls hl => ?_)
      refine lv_goto (tgt := 4) hx hb d_T_marks_37 (by decide) ?_
      exact ih (_, k + 1) ⟨by rw [hrec]; exact lv_sub hl [2, 3, 1, 0] rfl, by omega⟩ (by omega)
    · skip
      have hrec : mkF σ d (k + 1) = mkF σ d k + 1 := if_neg c2
      refine lv_iload_n hx hb d_T_marks_26 rfl (lv_at hl 2 rfl) ?_
      refine lv_iconst (v := 1) hx hb d_T_marks_27 (by decide) ?_
      refine lv_iadd hx hb d_T_marks_28 ?_
      rw [show ((nI (mkF σ d k)) + 1) = nI (mkF σ d k + 1) from nI_1 _]
      refine lv_goto (tgt := 33) hx hb d_T_marks_29 (by decide) ?_
      refine lv_istore_n (lv' := [(2, .int (nI (mkF σ d k + 1))), (0, .ref t), (1, .int (nI d)), (3, .int (nI (k + 1)))]) hx hb d_T_marks_33 rfl hl (by decide) rfl (fun ls hl => ?_)
      refine lv_iinc (v := nI (k + 1 + 1)) (lv' := [(3, .int (nI (k + 1 + 1))), (2, .int (nI (mkF σ d k + 1))), (0, .ref t), (1, .int (nI d))]) hx hb d_T_marks_34 hl (k := 3) rfl (nI_1 (k + 1)) (by decide) rfl (fun ls hl => ?_)
      refine lv_goto (tgt := 4) hx hb d_T_marks_37 (by decide) ?_
      exact ih (_, k + 1) ⟨by rw [hrec]; exact lv_sub hl [2, 3, 1, 0] rfl, by omega⟩ (by omega)
set_option maxHeartbeats 4000000 in
set_option maxRecDepth 100000 in
theorem c_T_runs (l : Launch) (g : GG) (t : Nat) (σ : SG) (d : Nat) (sz : Nat) (hd2 : d < 200) : Met l y_T_runs (k_T_runs :: TT) { frames := 0, cells := 0, slots := 0, locals := 0 } (Pm g [.ref t, .int (nI d)] sz (tw g t σ)) (Qrd (some (.int (nI (rnF σ d 3000))))) 0 0 (nofree) := by
  refine met_of (by decide) (Nat.le_of_ble_eq_true rfl) ?_
  intro pr en s mi below meth co hx hb hr hml hown hlocks hnm hT hsz hP hK ls hl
  have hl : lv_has ls 4 [(0, .ref t), (1, .int (nI d))] := hl
  refine lv_iconst (v := 0) hx hb d_T_runs_0 (by decide) ?_
  refine lv_istore_n (lv' := [(2, .int 0), (0, .ref t), (1, .int (nI d))]) hx hb d_T_runs_1 rfl hl (by decide) rfl (fun ls hl => ?_)
  refine lv_iconst (v := 1) hx hb d_T_runs_2 (by decide) ?_
  refine lv_istore_n (lv' := [(3, .int 1), (2, .int 0), (0, .ref t), (1, .int (nI d))]) hx hb d_T_runs_3 rfl hl (by decide) rfl (fun ls hl => ?_)
  refine W.rep (α := Array Slot × Nat) (fun (ls, k) => 3000 - k) (fun (ls, k) => lv_has ls 4 [(0, .ref t), (1, .int (nI d)), (2, .int (nI (rnF σ d k))), (3, .int (nI (k + 1)))] ∧ k ≤ 3000) (fun (ls, k) => s.heap) (fun (ls, k) => []) (fun (ls, k) => F0 mi 4 ls []) ?_ (ls, 0) ⟨lv_sub hl [2, 3, 1, 0] rfl, by omega⟩
  rintro ⟨ls, k⟩ ⟨hl, hi1⟩ ih
  dsimp only at hl hi1 ih ⊢
  refine lv_iload_n hx hb d_T_runs_4 rfl (lv_at hl 3 rfl) ?_
  refine lv_sipush (v := 3000) hx hb d_T_runs_5 (by decide) ?_
  refine lv_icmp_gt (tgt := 57) hx hb d_T_runs_8 (by decide) (fun c1 => ?_) (fun c1 => ?_)
  · skip
    have hk0 : 3000 < k + 1 := lt_of (a := 3000) c1 (by decide) (by omega)
    have hk1 : k = 3000 := by omega
    subst hk1
    refine lv_iload_n hx hb d_T_runs_57 rfl (lv_at hl 2 rfl) ?_
    exact rd_iret hx hb hr hlocks (rfl) d_T_runs_58
  · skip
    have hk0 : k < 3000 := by rcases Nat.lt_or_ge k 3000 with h | h; exact h; exact absurd (nI_lt (a := 3000) (b := k + 1) (by omega) (by omega)) c1
    refine lv_aload_n hx hb d_T_runs_11 rfl (lv_at hl 0 rfl) ?_
    refine m_get (ci := 7) (v := .ref (t + 8)) hx hb hT in_T hown hK hP (tw_t) rfl 10 (by decide) (hT _ w682) (fun _ h9 => h9) rfl d_T_runs_12 ?_
    refine lv_sipush (v := 3001) hx hb d_T_runs_15 (by decide) ?_
    refine lv_iload_n hx hb d_T_runs_18 rfl (lv_at hl 1 rfl) ?_
    refine lv_imul hx hb d_T_runs_19 ?_
    refine lv_iload_n hx hb d_T_runs_20 rfl (lv_at hl 3 rfl) ?_
    refine lv_iadd hx hb d_T_runs_21 ?_
    refine m_zald hx hb hK hP 2 (tw_8) rfl (j := 3001 * d + (k + 1)) (ixd d (k + 1)) (by omega) (by decide) d_T_runs_22 ?_
    refine lv_if_eq (tgt := 49) hx hb d_T_runs_23 (by decide) (fun c2 => ?_) (fun c2 => ?_)
    · skip
      have hrec : rnF σ d (k + 1) = rnF σ d k := if_neg (fun h => h.1 c2)
      refine lv_iload_n hx hb d_T_runs_49 rfl (lv_at hl 2 rfl) ?_
      refine lv_istore_n (lv' := [(2, .int (nI (rnF σ d k))), (0, .ref t), (1, .int (nI d)), (3, .int (nI (k + 1)))]) hx hb d_T_runs_50 rfl hl (by decide) rfl (fun ls hl => ?_)
      refine lv_iinc (v := nI (k + 1 + 1)) (lv' := [(3, .int (nI (k + 1 + 1))), (2, .int (nI (rnF σ d k))), (0, .ref t), (1, .int (nI d))]) hx hb d_T_runs_51 hl (k := 3) rfl (nI_1 (k + 1)) (by decide) rfl (fun ls hl => ?_)
      refine lv_goto (tgt := 4) hx hb d_T_runs_54 (by decide) ?_
      exact ih (_, k + 1) ⟨by rw [hrec]; exact lv_sub hl [2, 3, 1, 0] rfl, by omega⟩ (by omega)
    · skip
      refine lv_aload_n hx hb d_T_runs_26 rfl (lv_at hl 0 rfl) ?_
      refine m_get (ci := 7) (v := .ref (t + 8)) hx hb hT in_T hown hK hP (tw_t) rfl 10 (by decide) (hT _ w682) (fun _ h9 => h9) rfl d_T_runs_27 ?_
      refine lv_sipush (v := 3001) hx hb d_T_runs_30 (by decide) ?_
      refine lv_iload_n hx hb d_T_runs_33 rfl (lv_at hl 1 rfl) ?_
      refine lv_imul hx hb d_T_runs_34 ?_
      refine lv_iload_n hx hb d_T_runs_35 rfl (lv_at hl 3 rfl) ?_
      refine lv_iadd hx hb d_T_runs_36 ?_
      refine lv_iconst (v := 1) hx hb d_T_runs_37 (by decide) ?_
      refine lv_isub hx hb d_T_runs_38 ?_
      refine m_zald hx hb hK hP 2 (tw_8) rfl (j := 3001 * d + k) (ixd2 d k) (by omega) (by decide) d_T_runs_39 ?_
      refine lv_if_ne (tgt := 49) hx hb d_T_runs_40 (by decide) (fun c3 => ?_) (fun c3 => ?_)
      · skip
        have hrec : rnF σ d (k + 1) = rnF σ d k := if_neg (fun h => c3 h.2)
        refine lv_iload_n hx hb d_T_runs_49 rfl (lv_at hl 2 rfl) ?_
        refine lv_istore_n (lv' := [(2, .int (nI (rnF σ d k))), (0, .ref t), (1, .int (nI d)), (3, .int (nI (k + 1)))]) hx hb d_T_runs_50 rfl hl (by decide) rfl (fun ls hl => ?_)
        refine lv_iinc (v := nI (k + 1 + 1)) (lv' := [(3, .int (nI (k + 1 + 1))), (2, .int (nI (rnF σ d k))), (0, .ref t), (1, .int (nI d))]) hx hb d_T_runs_51 hl (k := 3) rfl (nI_1 (k + 1)) (by decide) rfl (fun ls hl => ?_)
        refine lv_goto (tgt := 4) hx hb d_T_runs_54 (by decide) ?_
        exact ih (_, k + 1) ⟨by rw [hrec]; exact lv_sub hl [2, 3, 1, 0] rfl, by omega⟩ (by omega)
      · skip
        have hrec : rnF σ d (k + 1) = rnF σ d k + 1 := if_pos ⟨c2, c3⟩
        refine lv_iload_n hx hb d_T_runs_43 rfl (lv_at hl 2 rfl) ?_
        refine lv_iconst (v := 1) hx hb d_T_runs_44 (by decide) ?_
        refine lv_iadd hx hb d_T_runs_45 ?_
        rw [show ((nI (rnF σ d k)) + 1) = nI (rnF σ d k + 1) from nI_1 _]
        refine lv_goto (tgt := 50) hx hb d_T_runs_46 (by decide) ?_
        refine lv_istore_n (lv' := [(2, .int (nI (rnF σ d k + 1))), (0, .ref t), (1, .int (nI d)), (3, .int (nI (k + 1)))]) hx hb d_T_runs_50 rfl hl (by decide) rfl (fun ls hl => ?_)
        refine lv_iinc (v := nI (k + 1 + 1)) (lv' := [(3, .int (nI (k + 1 + 1))), (2, .int (nI (rnF σ d k + 1))), (0, .ref t), (1, .int (nI d))]) hx hb d_T_runs_51 hl (k := 3) rfl (nI_1 (k + 1)) (by decide) rfl (fun ls hl => ?_)
        refine lv_goto (tgt := 4) hx hb d_T_runs_54 (by decide) ?_
        exact ih (_, k + 1) ⟨by rw [hrec]; exact lv_sub hl [2, 3, 1, 0] rfl, by omega⟩ (by omega)
set_option maxHeartbeats 4000000 in
set_option maxRecDepth 100000 in
theorem c_T_revokedAt (l : Launch) (g : GG) (t : Nat) (σ : SG) (d c e2 : Nat) (sz : Nat) (hd2 : d < 200) (hc : c < 4000) (he : σ 6 c = nI e2) (he2 : e2 ≤ 3000) : Met l y_T_revokedAt (k_T_revokedAt :: TT) { frames := 0, cells := 0, slots := 0, locals := 0 } (Pm g [.ref t, .int (nI d), .int (nI c)] sz (tw g t σ)) (Qrd (some (.int (rvI σ d e2)))) 0 0 (nofree) := by
  refine met_of (by decide) (Nat.le_of_ble_eq_true rfl) ?_
  intro pr en s mi below meth co hx hb hr hml hown hlocks hnm hT hsz hP hK ls hl
  have hl : lv_has ls 3 [(0, .ref t), (1, .int (nI d)), (2, .int (nI c))] := hl
  refine lv_aload_n hx hb d_T_revokedAt_0 rfl (lv_at hl 0 rfl) ?_
  refine m_get (ci := 7) (v := .ref (t + 6)) hx hb hT in_T hown hK hP (tw_t) rfl 7 (by decide) (hT _ w679) (fun _ h9 => h9) rfl d_T_revokedAt_1 ?_
  refine lv_iload_n hx hb d_T_revokedAt_4 rfl (lv_at hl 2 rfl) ?_
  refine m_iald hx hb hK hP 0 (tw_6) rfl (j := c) (rfl) (by omega) (by decide) d_T_revokedAt_5 ?_
  rw [show (σ 6 (c)) = nI e2 from he]
  refine lv_if_le (tgt := 33) hx hb d_T_revokedAt_6 (by decide) (fun q1 => ?_) (fun q1 => ?_)
  · skip
    refine lv_iconst (v := 0) hx hb d_T_revokedAt_33 (by decide) ?_
    exact rd_zret hx hb hr hlocks (by first | contradiction | (simp [rvI, q1, hs]; done)) (by first | exact Or.inl rfl | exact Or.inr rfl | assumption | exact smI_01 _ _ _ _ _ _ | exact xtl_01 _ _ _ _ _ _ | exact bI_01 _ | exact xop_01 _ _ _ | exact xic_01 _ _ | exact xid_01 _) d_T_revokedAt_34
  · skip
    refine lv_aload_n hx hb d_T_revokedAt_9 rfl (lv_at hl 0 rfl) ?_
    refine m_get (ci := 7) (v := .ref (t + 8)) hx hb hT in_T hown hK hP (tw_t) rfl 10 (by decide) (hT _ w682) (fun _ h9 => h9) rfl d_T_revokedAt_10 ?_
    refine lv_sipush (v := 3001) hx hb d_T_revokedAt_13 (by decide) ?_
    refine lv_iload_n hx hb d_T_revokedAt_16 rfl (lv_at hl 1 rfl) ?_
    refine lv_imul hx hb d_T_revokedAt_17 ?_
    refine lv_aload_n hx hb d_T_revokedAt_18 rfl (lv_at hl 0 rfl) ?_
    refine m_get (ci := 7) (v := .ref (t + 6)) hx hb hT in_T hown hK hP (tw_t) rfl 7 (by decide) (hT _ w679) (fun _ h9 => h9) rfl d_T_revokedAt_19 ?_
    refine lv_iload_n hx hb d_T_revokedAt_22 rfl (lv_at hl 2 rfl) ?_
    refine m_iald hx hb hK hP 0 (tw_6) rfl (j := c) (rfl) (by omega) (by decide) d_T_revokedAt_23 ?_
    rw [show (σ 6 (c)) = nI e2 from he]
    refine lv_iadd hx hb d_T_revokedAt_24 ?_
    refine m_zald hx hb hK hP 2 (tw_8) rfl (j := 3001 * d + e2) (ixd d e2) (by omega) (by decide) d_T_revokedAt_25 ?_
    refine lv_if_eq (tgt := 33) hx hb d_T_revokedAt_26 (by decide) (fun q2 => ?_) (fun q2 => ?_)
    · skip
      refine lv_iconst (v := 0) hx hb d_T_revokedAt_33 (by decide) ?_
      exact rd_zret hx hb hr hlocks (by first | contradiction | (simp [rvI, q1, q2, hs]; done)) (by first | exact Or.inl rfl | exact Or.inr rfl | assumption | exact smI_01 _ _ _ _ _ _ | exact xtl_01 _ _ _ _ _ _ | exact bI_01 _ | exact xop_01 _ _ _ | exact xic_01 _ _ | exact xid_01 _) d_T_revokedAt_34
    · skip
      refine lv_iconst (v := 1) hx hb d_T_revokedAt_29 (by decide) ?_
      refine lv_goto (tgt := 34) hx hb d_T_revokedAt_30 (by decide) ?_
      exact rd_zret hx hb hr hlocks (by first | contradiction | (simp [rvI, q1, q2, hs]; done)) (by first | exact Or.inl rfl | exact Or.inr rfl | assumption | exact smI_01 _ _ _ _ _ _ | exact xtl_01 _ _ _ _ _ _ | exact bI_01 _ | exact xop_01 _ _ _ | exact xic_01 _ _ | exact xid_01 _) d_T_revokedAt_34
theorem nI_add' (a b : Nat) : nI a + nI b = nI (a + b) := nI_add a b
set_option maxHeartbeats 4000000 in
set_option maxRecDepth 100000 in
theorem c_T_tells (l : Launch) (g : GG) (t : Nat) (σ : SG) (c a n : Nat) (h : Int32) (sz : Nat) (hc : c < 4000) (ha : a + n ≤ 3001) (hn : n ≤ 40) : Met l y_T_tells (k_T_tells :: TT) { frames := 5, cells := 0, slots := 0, locals := 109 } (Pm g [.ref t, .int (nI c), .int (nI a), .int (nI n), .int h] sz (tw g t σ)) (Qrd (some (.int (smI σ c a n h n)))) 0 0 (nofree) := by
  refine met_of (by decide) (Nat.le_of_ble_eq_true rfl) ?_
  intro pr en s mi below meth co hx hb hr hml hown hlocks hnm hT hsz hP hK ls hl
  have hl : lv_has ls 7 [(0, .ref t), (1, .int (nI c)), (2, .int (nI a)), (3, .int (nI n)), (4, .int h)] := hl
  refine W.join (fun x : Int32 => x = smI σ c a n h 0) (f := fun x => F0 mi 33 ls (.int x :: [])) (fun x ex => ?_) (fun hj => ?_)
  · skip
    subst ex
    refine lv_istore (lv' := [(5, .int (smI σ c a n h 0)), (0, .ref t), (1, .int (nI c)), (2, .int (nI a)), (3, .int (nI n)), (4, .int h)]) hx hb d_T_tells_33 hl (by decide) rfl (fun ls hl => ?_)
    refine lv_iconst (v := 0) hx hb d_T_tells_35 (by decide) ?_
    refine lv_istore (lv' := [(6, .int 0), (5, .int (smI σ c a n h 0)), (0, .ref t), (1, .int (nI c)), (2, .int (nI a)), (3, .int (nI n)), (4, .int h)]) hx hb d_T_tells_36 hl (by decide) rfl (fun ls hl => ?_)
    refine W.rep (α := Array Slot × Nat) (fun (ls, k) => n - k) (fun (ls, k) => lv_has ls 7 [(0, .ref t), (1, .int (nI c)), (2, .int (nI a)), (3, .int (nI n)), (4, .int h), (5, .int (smI σ c a n h k)), (6, .int (nI k))] ∧ k ≤ n) (fun (ls, k) => s.heap) (fun (ls, k) => []) (fun (ls, k) => F0 mi 38 ls []) ?_ (ls, 0) ⟨lv_sub hl [2, 3, 4, 5, 6, 1, 0] rfl, by omega⟩
    rintro ⟨ls, k⟩ ⟨hl, hi1⟩ ih
    dsimp only at hl hi1 ih ⊢
    refine lv_iload hx hb d_T_tells_38 (lv_at hl 6 rfl) ?_
    refine lv_iload_n hx hb d_T_tells_40 rfl (lv_at hl 3 rfl) ?_
    refine lv_icmp_ge (tgt := 88) hx hb d_T_tells_41 (by decide) (fun c4 => ?_) (fun c4 => ?_)
    · skip
      have hkn : n ≤ k := ge_of c4 (by omega) (by omega)
      have hkk : k = n := by omega
      subst hkk
      refine lv_iload hx hb d_T_tells_88 (lv_at hl 5 rfl) ?_
      exact rd_zret hx hb hr hlocks (by first | rfl | exact hz.symm) (by first | exact Or.inl rfl | exact Or.inr rfl | assumption | exact smI_01 _ _ _ _ _ _ | exact xtl_01 _ _ _ _ _ _ | exact bI_01 _ | exact xop_01 _ _ _ | exact xic_01 _ _ | exact xid_01 _) d_T_tells_90
    · skip
      have hkn : k < n := by rcases Nat.lt_or_ge k n with h9 | h9; exact h9; exact absurd (nI_le h9 (by omega)) c4
      refine lv_iload hx hb d_T_tells_44 (lv_at hl 5 rfl) ?_
      refine lv_if_eq (tgt := 88) hx hb d_T_tells_46 (by decide) (fun c5 => ?_) (fun c5 => ?_)
      · skip
        have hz : smI σ c a n h n = smI σ c a n h k := by rw [c5]; exact smI_0 (fun q => (smI_z.mp c5) ⟨q.1, tlW_le q.2 (by omega)⟩)
        refine lv_iload hx hb d_T_tells_88 (lv_at hl 5 rfl) ?_
        exact rd_zret hx hb hr hlocks (by first | rfl | exact hz.symm) (by first | exact Or.inl rfl | exact Or.inr rfl | assumption | exact smI_01 _ _ _ _ _ _ | exact xtl_01 _ _ _ _ _ _ | exact bI_01 _ | exact xop_01 _ _ _ | exact xic_01 _ _ | exact xid_01 _) d_T_tells_90
      · skip
        have c5 := Classical.not_not.mp (fun z => c5 (smI_z.mpr z))
        refine W.join (fun x : Int32 => x = smI σ c a n h (k + 1)) (f := fun x => F0 mi 80 ls (.int x :: [])) (fun x ex => ?_) (fun hj => ?_)
        · skip
          subst ex
          refine lv_istore (lv' := [(5, .int (smI σ c a n h (k + 1))), (0, .ref t), (1, .int (nI c)), (2, .int (nI a)), (3, .int (nI n)), (4, .int h), (6, .int (nI k))]) hx hb d_T_tells_80 hl (by decide) rfl (fun ls hl => ?_)
          refine lv_iinc (v := nI (k + 1)) (lv' := [(6, .int (nI (k + 1))), (5, .int (smI σ c a n h (k + 1))), (0, .ref t), (1, .int (nI c)), (2, .int (nI a)), (3, .int (nI n)), (4, .int h)]) hx hb d_T_tells_82 hl (k := 6) rfl (nI_1 k) (by decide) rfl (fun ls hl => ?_)
          refine lv_goto (tgt := 38) hx hb d_T_tells_85 (by decide) ?_
          exact ih (_, k + 1) ⟨lv_sub hl [2, 3, 4, 5, 6, 1, 0] rfl, by omega⟩ (by omega)
        · skip
          refine lv_aload_n hx hb d_T_tells_49 rfl (lv_at hl 0 rfl) ?_
          refine lv_iload_n hx hb d_T_tells_50 rfl (lv_at hl 1 rfl) ?_
          refine lv_aload_n hx hb d_T_tells_51 rfl (lv_at hl 0 rfl) ?_
          refine lv_iload_n hx hb d_T_tells_52 rfl (lv_at hl 1 rfl) ?_
          refine rd_run (c_V (As := [.int (nI c)]) (rest := [.int (nI c), .ref t]) hx hb hml hl.1 hown hT hK hP (c_T_current l g t σ c s.heap.size hc) kw_T_current w767 w769 selp_T_current w8 hd_T_current rfl rfl ⟨by decide, by decide⟩ (tw_t) rfl rfl rfl (Nat.le_of_ble_eq_true rfl) d_T_tells_53 ⟨by decide, by decide⟩) rfl ?_
          refine lv_iconst (v := 3) hx hb d_T_tells_56 (by decide) ?_
          refine lv_iload hx hb d_T_tells_57 (lv_at hl 6 rfl) ?_
          refine lv_iadd hx hb d_T_tells_59 ?_
          rw [show (3 + (nI k)) = nI (3 + k) from nI_add 3 k]
          refine rd_run (c_V (As := [.int (nI c), .int (nI (cur σ c)), .int (nI (3 + k))]) (rest := []) hx hb hml hl.1 hown hT hK hP (c_T_wordAt l g t σ c (cur σ c) (3 + k) s.heap.size hc (cur_lt _ _) (by omega)) kw_T_wordAt w775 w777 selp_T_wordAt w8 hd_T_wordAt rfl rfl ⟨by decide, by decide⟩ (tw_t) rfl rfl rfl (Nat.le_of_ble_eq_true rfl) d_T_tells_60 ⟨by decide, by decide⟩) rfl ?_
          refine lv_aload_n hx hb d_T_tells_63 rfl (lv_at hl 0 rfl) ?_
          refine m_get (ci := 7) (v := .ref (t + 7)) hx hb hT in_T hown hK hP (tw_t) rfl 8 (by decide) (hT _ w680) (fun _ h9 => h9) rfl d_T_tells_64 ?_
          refine lv_iload_n hx hb d_T_tells_67 rfl (lv_at hl 2 rfl) ?_
          refine lv_iload hx hb d_T_tells_68 (lv_at hl 6 rfl) ?_
          refine lv_iadd hx hb d_T_tells_70 ?_
          refine m_iald hx hb hK hP 0 (tw_7) rfl (j := a + k) (nI_add a k) (by omega) (by decide) d_T_tells_71 ?_
          refine lv_icmp_ne (tgt := 79) hx hb d_T_tells_72 (by decide) (fun c6 => ?_) (fun c6 => ?_)
          · skip
            refine lv_iconst (v := 0) hx hb d_T_tells_79 (by decide) ?_
            exact hj _ (by first | exact (smI_1 ⟨c5.1, tlW_s c5.2 c6⟩).symm | exact (smI_0 (fun q => c6 (q.2 k (by omega)))).symm)
          · skip
            refine lv_iconst (v := 1) hx hb d_T_tells_75 (by decide) ?_
            refine lv_goto (tgt := 80) hx hb d_T_tells_76 (by decide) ?_
            exact hj _ (by first | exact (smI_1 ⟨c5.1, tlW_s c5.2 c6⟩).symm | exact (smI_0 (fun q => c6 (q.2 k (by omega)))).symm)
  · skip
    refine lv_aload_n hx hb d_T_tells_0 rfl (lv_at hl 0 rfl) ?_
    refine lv_iload_n hx hb d_T_tells_1 rfl (lv_at hl 1 rfl) ?_
    refine rd_run (c_V (As := [.int (nI c)]) (rest := []) hx hb hml hl.1 hown hT hK hP (c_T_count l g t σ c s.heap.size hc) kw_T_count w763 w765 selp_T_count w8 hd_T_count rfl rfl ⟨by decide, by decide⟩ (tw_t) rfl rfl rfl (Nat.le_of_ble_eq_true rfl) d_T_tells_2 ⟨by decide, by decide⟩) rfl ?_
    refine lv_iload_n hx hb d_T_tells_5 rfl (lv_at hl 3 rfl) ?_
    refine lv_icmp_ne (tgt := 32) hx hb d_T_tells_6 (by decide) (fun c1 => ?_) (fun c1 => ?_)
    · skip
      have c1 : ¬ cnI σ c = nI n := c1
      refine lv_iconst (v := 0) hx hb d_T_tells_32 (by decide) ?_
      exact hj _ (by first | exact (smI_1 ⟨⟨Classical.not_not.mp c1, Classical.not_not.mp c2, Classical.not_not.mp c3⟩, tlW_0⟩).symm | exact (smI_0 (fun q => c1 q.1.1)).symm | exact (smI_0 (fun q => c2 q.1.2.1)).symm | exact (smI_0 (fun q => c3 q.1.2.2)).symm)
    · skip
      have c1 : ¬ ¬ cnI σ c = nI n := fun z => z c1
      refine lv_aload_n hx hb d_T_tells_9 rfl (lv_at hl 0 rfl) ?_
      refine lv_iload_n hx hb d_T_tells_10 rfl (lv_at hl 1 rfl) ?_
      refine rd_run (c_V (As := [.int (nI c)]) (rest := []) hx hb hml hl.1 hown hT hK hP (c_T_first l g t σ c s.heap.size hc) kw_T_first w783 w785 selp_T_first w8 hd_T_first rfl rfl ⟨by decide, by decide⟩ (tw_t) rfl rfl rfl (Nat.le_of_ble_eq_true rfl) d_T_tells_11 ⟨by decide, by decide⟩) rfl ?_
      refine lv_iload_n hx hb d_T_tells_14 rfl (lv_at hl 2 rfl) ?_
      refine lv_icmp_ne (tgt := 32) hx hb d_T_tells_15 (by decide) (fun c2 => ?_) (fun c2 => ?_)
      · skip
        have c2 : ¬ fiI σ c = nI a := c2
        refine lv_iconst (v := 0) hx hb d_T_tells_32 (by decide) ?_
        exact hj _ (by first | exact (smI_1 ⟨⟨Classical.not_not.mp c1, Classical.not_not.mp c2, Classical.not_not.mp c3⟩, tlW_0⟩).symm | exact (smI_0 (fun q => c1 q.1.1)).symm | exact (smI_0 (fun q => c2 q.1.2.1)).symm | exact (smI_0 (fun q => c3 q.1.2.2)).symm)
      · skip
        have c2 : ¬ ¬ fiI σ c = nI a := fun z => z c2
        refine lv_aload_n hx hb d_T_tells_18 rfl (lv_at hl 0 rfl) ?_
        refine lv_iload_n hx hb d_T_tells_19 rfl (lv_at hl 1 rfl) ?_
        refine rd_run (c_V (As := [.int (nI c)]) (rest := []) hx hb hml hl.1 hown hT hK hP (c_T_seen l g t σ c s.heap.size hc) kw_T_seen w787 w789 selp_T_seen w8 hd_T_seen rfl rfl ⟨by decide, by decide⟩ (tw_t) rfl rfl rfl (Nat.le_of_ble_eq_true rfl) d_T_tells_20 ⟨by decide, by decide⟩) rfl ?_
        refine lv_iload hx hb d_T_tells_23 (lv_at hl 4 rfl) ?_
        refine lv_icmp_ne (tgt := 32) hx hb d_T_tells_25 (by decide) (fun c3 => ?_) (fun c3 => ?_)
        · skip
          have c3 : ¬ seI σ c = h := c3
          refine lv_iconst (v := 0) hx hb d_T_tells_32 (by decide) ?_
          exact hj _ (by first | exact (smI_1 ⟨⟨Classical.not_not.mp c1, Classical.not_not.mp c2, Classical.not_not.mp c3⟩, tlW_0⟩).symm | exact (smI_0 (fun q => c1 q.1.1)).symm | exact (smI_0 (fun q => c2 q.1.2.1)).symm | exact (smI_0 (fun q => c3 q.1.2.2)).symm)
        · skip
          have c3 : ¬ ¬ seI σ c = h := fun z => z c3
          refine lv_iconst (v := 1) hx hb d_T_tells_28 (by decide) ?_
          refine lv_goto (tgt := 33) hx hb d_T_tells_29 (by decide) ?_
          exact hj _ (by first | exact (smI_1 ⟨⟨Classical.not_not.mp c1, Classical.not_not.mp c2, Classical.not_not.mp c3⟩, tlW_0⟩).symm | exact (smI_0 (fun q => c1 q.1.1)).symm | exact (smI_0 (fun q => c2 q.1.2.1)).symm | exact (smI_0 (fun q => c3 q.1.2.2)).symm)
