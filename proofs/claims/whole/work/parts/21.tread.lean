/-! The reference: methods that only read. -/
set_option maxHeartbeats 4000000 in
set_option maxRecDepth 100000 in
theorem c_T_thrown (l : Launch) (g : GG) (t : Nat) (σ : SG) (sz : Nat) : Met l y_T_thrown (k_T_thrown :: TT) { frames := 0, cells := 0, slots := 0, locals := 0 } (Pm g [.ref t] sz (tw g t σ)) (Qrd (some (.int (σ 0 0)))) 0 0 (nofree) := by
  refine met_of (by decide) (Nat.le_of_ble_eq_true rfl) ?_
  intro pr en s mi below meth co hx hb hr hml hown hlocks hnm hT hsz hP hK ls hl
  have hl : lv_has ls 1 [(0, .ref t)] := hl
  refine lv_aload_n hx hb d_T_thrown_0 rfl (lv_at hl 0 rfl) ?_
  refine m_get (ci := 7) (v := .int (σ 0 0)) hx hb hT in_T hown hK hP (tw_t) rfl 0 (by decide) (hT _ w672) (fun _ h9 => h9) rfl d_T_thrown_1 ?_
  exact rd_iret hx hb hr hlocks (rfl) d_T_thrown_4
set_option maxHeartbeats 4000000 in
set_option maxRecDepth 100000 in
theorem c_T_noCard (l : Launch) (g : GG) (t : Nat) (σ : SG) (x : Int32) (sz : Nat) : Met l y_T_noCard (k_T_noCard :: TT) { frames := 0, cells := 0, slots := 0, locals := 0 } (Pm g [.ref t, .int x] sz (tw g t σ)) (Qrd (some (.int (ncI σ x)))) 0 0 (nofree) := by
  refine met_of (by decide) (Nat.le_of_ble_eq_true rfl) ?_
  intro pr en s mi below meth co hx hb hr hml hown hlocks hnm hT hsz hP hK ls hl
  have hl : lv_has ls 2 [(0, .ref t), (1, .int x)] := hl
  refine lv_iload_n hx hb d_T_noCard_0 rfl (lv_at hl 1 rfl) ?_
  refine lv_if_lt (tgt := 12) hx hb d_T_noCard_1 (by decide) (fun q1 => ?_) (fun q1 => ?_)
  · skip
    refine lv_iconst (v := 1) hx hb d_T_noCard_12 (by decide) ?_
    refine lv_goto (tgt := 17) hx hb d_T_noCard_13 (by decide) ?_
    exact rd_zret hx hb hr hlocks (by first | contradiction | (simp [ncI, q1]; done)) (by first | exact Or.inl rfl | exact Or.inr rfl | assumption) d_T_noCard_17
  · skip
    refine lv_iload_n hx hb d_T_noCard_4 rfl (lv_at hl 1 rfl) ?_
    refine lv_aload_n hx hb d_T_noCard_5 rfl (lv_at hl 0 rfl) ?_
    refine m_get (ci := 7) (v := .int (σ 0 1)) hx hb hT in_T hown hK hP (tw_t) rfl 1 (by decide) (hT _ w673) (fun _ h9 => h9) rfl d_T_noCard_6 ?_
    refine lv_icmp_lt (tgt := 16) hx hb d_T_noCard_9 (by decide) (fun q2 => ?_) (fun q2 => ?_)
    · skip
      refine lv_iconst (v := 0) hx hb d_T_noCard_16 (by decide) ?_
      exact rd_zret hx hb hr hlocks (by first | contradiction | (simp [ncI, q1, q2]; done)) (by first | exact Or.inl rfl | exact Or.inr rfl | assumption) d_T_noCard_17
    · skip
      refine lv_iconst (v := 1) hx hb d_T_noCard_12 (by decide) ?_
      refine lv_goto (tgt := 17) hx hb d_T_noCard_13 (by decide) ?_
      exact rd_zret hx hb hr hlocks (by first | contradiction | (simp [ncI, q1, q2]; done)) (by first | exact Or.inl rfl | exact Or.inr rfl | assumption) d_T_noCard_17
set_option maxHeartbeats 4000000 in
set_option maxRecDepth 100000 in
theorem c_T_noDoor (l : Launch) (g : GG) (M : MW) (x : Int32) (sz : Nat) : Met l y_T_noDoor (k_T_noDoor :: TT) { frames := 0, cells := 0, slots := 0, locals := 0 } (Pm g [.int x] sz (M)) (Qrd (some (.int (ndI x)))) 0 0 (nofree) := by
  refine met_of (by decide) (Nat.le_of_ble_eq_true rfl) ?_
  intro pr en s mi below meth co hx hb hr hml hown hlocks hnm hT hsz hP hK ls hl
  have hl : lv_has ls 1 [(0, .int x)] := hl
  refine lv_iload_n hx hb d_T_noDoor_0 rfl (lv_at hl 0 rfl) ?_
  refine lv_if_lt (tgt := 11) hx hb d_T_noDoor_1 (by decide) (fun q1 => ?_) (fun q1 => ?_)
  · skip
    refine lv_iconst (v := 1) hx hb d_T_noDoor_11 (by decide) ?_
    refine lv_goto (tgt := 16) hx hb d_T_noDoor_12 (by decide) ?_
    exact rd_zret hx hb hr hlocks (by first | contradiction | (simp [ndI, q1]; done)) (by first | exact Or.inl rfl | exact Or.inr rfl | assumption) d_T_noDoor_16
  · skip
    refine lv_iload_n hx hb d_T_noDoor_4 rfl (lv_at hl 0 rfl) ?_
    refine lv_sipush (v := 199) hx hb d_T_noDoor_5 (by decide) ?_
    refine lv_icmp_le (tgt := 15) hx hb d_T_noDoor_8 (by decide) (fun q2 => ?_) (fun q2 => ?_)
    · skip
      refine lv_iconst (v := 0) hx hb d_T_noDoor_15 (by decide) ?_
      exact rd_zret hx hb hr hlocks (by first | contradiction | (simp [ndI, q1, q2]; done)) (by first | exact Or.inl rfl | exact Or.inr rfl | assumption) d_T_noDoor_16
    · skip
      refine lv_iconst (v := 1) hx hb d_T_noDoor_11 (by decide) ?_
      refine lv_goto (tgt := 16) hx hb d_T_noDoor_12 (by decide) ?_
      exact rd_zret hx hb hr hlocks (by first | contradiction | (simp [ndI, q1, q2]; done)) (by first | exact Or.inl rfl | exact Or.inr rfl | assumption) d_T_noDoor_16
set_option maxHeartbeats 4000000 in
set_option maxRecDepth 100000 in
theorem c_T_wordAt (l : Launch) (g : GG) (t : Nat) (σ : SG) (c b i : Nat) (sz : Nat) (hc : c < 4000) (hb2 : b < 2) (hi : i < 44) : Met l y_T_wordAt (k_T_wordAt :: TT) { frames := 0, cells := 0, slots := 0, locals := 0 } (Pm g [.ref t, .int (nI c), .int (nI b), .int (nI i)] sz (tw g t σ)) (Qrd (some (.int (wd σ c b i)))) 0 0 (nofree) := by
  refine met_of (by decide) (Nat.le_of_ble_eq_true rfl) ?_
  intro pr en s mi below meth co hx hb hr hml hown hlocks hnm hT hsz hP hK ls hl
  have hl : lv_has ls 4 [(0, .ref t), (1, .int (nI c)), (2, .int (nI b)), (3, .int (nI i))] := hl
  refine lv_aload_n hx hb d_T_wordAt_0 rfl (lv_at hl 0 rfl) ?_
  refine m_get (ci := 7) (v := .ref (t + 5)) hx hb hT in_T hown hK hP (tw_t) rfl 6 (by decide) (hT _ w678) (fun _ h9 => h9) rfl d_T_wordAt_1 ?_
  refine lv_bipush (v := 88) hx hb d_T_wordAt_4 (by decide) ?_
  refine lv_iload_n hx hb d_T_wordAt_6 rfl (lv_at hl 1 rfl) ?_
  refine lv_imul hx hb d_T_wordAt_7 ?_
  refine lv_bipush (v := 44) hx hb d_T_wordAt_8 (by decide) ?_
  refine lv_iload_n hx hb d_T_wordAt_10 rfl (lv_at hl 2 rfl) ?_
  refine lv_imul hx hb d_T_wordAt_11 ?_
  refine lv_iadd hx hb d_T_wordAt_12 ?_
  refine lv_iload_n hx hb d_T_wordAt_13 rfl (lv_at hl 3 rfl) ?_
  refine lv_iadd hx hb d_T_wordAt_14 ?_
  refine m_sald hx hb hK hP 1 (tw_5) rfl (j := 88 * c + 44 * b + i) (ix3 c b i) (by omega) (by decide) d_T_wordAt_15 ?_
  exact rd_iret hx hb hr hlocks (rfl) d_T_wordAt_16
set_option maxHeartbeats 4000000 in
set_option maxRecDepth 100000 in
theorem c_T_whole (l : Launch) (g : GG) (t : Nat) (σ : SG) (c b : Nat) (sz : Nat) (hc : c < 4000) (hb2 : b < 2) : Met l y_T_whole (k_T_whole :: TT) { frames := 1, cells := 0, slots := 0, locals := 23 } (Pm g [.ref t, .int (nI c), .int (nI b)] sz (tw g t σ)) (Qrd (some (.int (whI σ c b)))) 0 0 (nofree) := by
  refine met_of (by decide) (Nat.le_of_ble_eq_true rfl) ?_
  intro pr en s mi below meth co hx hb hr hml hown hlocks hnm hT hsz hP hK ls hl
  have hl : lv_has ls 3 [(0, .ref t), (1, .int (nI c)), (2, .int (nI b))] := hl
  refine lv_aload_n hx hb d_T_whole_0 rfl (lv_at hl 0 rfl) ?_
  refine lv_iload_n hx hb d_T_whole_1 rfl (lv_at hl 1 rfl) ?_
  refine lv_iload_n hx hb d_T_whole_2 rfl (lv_at hl 2 rfl) ?_
  refine lv_iconst (v := 0) hx hb d_T_whole_3 (by decide) ?_
  refine rd_run (c_V (As := [.int (nI c), .int (nI b), .int 0]) (rest := []) hx hb hml hl.1 hown hT hK hP (c_T_wordAt l g t σ c b 0 s.heap.size (by omega) (by first | decide | assumption | exact cur_lt _ _) (by decide)) kw_T_wordAt w775 w777 selp_T_wordAt w8 hd_T_wordAt rfl rfl ⟨by decide, by decide⟩ (tw_t) rfl rfl rfl (Nat.le_of_ble_eq_true rfl) d_T_whole_4 ⟨by decide, by decide⟩) rfl ?_
  refine lv_aload_n hx hb d_T_whole_7 rfl (lv_at hl 0 rfl) ?_
  refine lv_iload_n hx hb d_T_whole_8 rfl (lv_at hl 1 rfl) ?_
  refine lv_iload_n hx hb d_T_whole_9 rfl (lv_at hl 2 rfl) ?_
  refine lv_bipush (v := 43) hx hb d_T_whole_10 (by decide) ?_
  refine rd_run (c_V (As := [.int (nI c), .int (nI b), .int 43]) (rest := [.int (wd σ c b 0)]) hx hb hml hl.1 hown hT hK hP (c_T_wordAt l g t σ c b 43 s.heap.size (by omega) (by first | decide | assumption | exact cur_lt _ _) (by decide)) kw_T_wordAt w775 w777 selp_T_wordAt w8 hd_T_wordAt rfl rfl ⟨by decide, by decide⟩ (tw_t) rfl rfl rfl (Nat.le_of_ble_eq_true rfl) d_T_whole_12 ⟨by decide, by decide⟩) rfl ?_
  refine lv_icmp_ne (tgt := 22) hx hb d_T_whole_15 (by decide) (fun q1 => ?_) (fun q1 => ?_)
  · skip
    refine lv_iconst (v := 0) hx hb d_T_whole_22 (by decide) ?_
    exact rd_zret hx hb hr hlocks (by first | contradiction | (simp [whI, q1]; done)) (by first | exact Or.inl rfl | exact Or.inr rfl | assumption) d_T_whole_23
  · skip
    refine lv_iconst (v := 1) hx hb d_T_whole_18 (by decide) ?_
    refine lv_goto (tgt := 23) hx hb d_T_whole_19 (by decide) ?_
    exact rd_zret hx hb hr hlocks (by first | contradiction | (simp [whI, q1]; done)) (by first | exact Or.inl rfl | exact Or.inr rfl | assumption) d_T_whole_23
set_option maxHeartbeats 4000000 in
set_option maxRecDepth 100000 in
theorem c_T_sequence (l : Launch) (g : GG) (t : Nat) (σ : SG) (c b : Nat) (sz : Nat) (hc : c < 4000) (hb2 : b < 2) : Met l y_T_sequence (k_T_sequence :: TT) { frames := 1, cells := 0, slots := 0, locals := 23 } (Pm g [.ref t, .int (nI c), .int (nI b)] sz (tw g t σ)) (Qrd (some (.int (sq σ c b)))) 0 0 (nofree) := by
  refine met_of (by decide) (Nat.le_of_ble_eq_true rfl) ?_
  intro pr en s mi below meth co hx hb hr hml hown hlocks hnm hT hsz hP hK ls hl
  have hl : lv_has ls 3 [(0, .ref t), (1, .int (nI c)), (2, .int (nI b))] := hl
  refine lv_aload_n hx hb d_T_sequence_0 rfl (lv_at hl 0 rfl) ?_
  refine lv_iload_n hx hb d_T_sequence_1 rfl (lv_at hl 1 rfl) ?_
  refine lv_iload_n hx hb d_T_sequence_2 rfl (lv_at hl 2 rfl) ?_
  refine lv_iconst (v := 0) hx hb d_T_sequence_3 (by decide) ?_
  refine rd_run (c_V (As := [.int (nI c), .int (nI b), .int 0]) (rest := []) hx hb hml hl.1 hown hT hK hP (c_T_wordAt l g t σ c b 0 s.heap.size (by omega) (by first | decide | assumption | exact cur_lt _ _) (by decide)) kw_T_wordAt w775 w777 selp_T_wordAt w8 hd_T_wordAt rfl rfl ⟨by decide, by decide⟩ (tw_t) rfl rfl rfl (Nat.le_of_ble_eq_true rfl) d_T_sequence_4 ⟨by decide, by decide⟩) rfl ?_
  refine lv_bipush (v := 8) hx hb d_T_sequence_7 (by decide) ?_
  refine lv_ishr hx hb d_T_sequence_9 ?_
  refine lv_sipush (v := 255) hx hb d_T_sequence_10 (by decide) ?_
  refine lv_iand hx hb d_T_sequence_13 ?_
  exact rd_iret hx hb hr hlocks (rfl) d_T_sequence_14
set_option maxHeartbeats 4000000 in
set_option maxRecDepth 100000 in
theorem c_T_current (l : Launch) (g : GG) (t : Nat) (σ : SG) (c : Nat) (sz : Nat) (hc : c < 4000) : Met l y_T_current (k_T_current :: TT) { frames := 2, cells := 0, slots := 0, locals := 45 } (Pm g [.ref t, .int (nI c)] sz (tw g t σ)) (Qrd (some (.int (nI (cur σ c))))) 0 0 (nofree) := by
  refine met_of (by decide) (Nat.le_of_ble_eq_true rfl) ?_
  intro pr en s mi below meth co hx hb hr hml hown hlocks hnm hT hsz hP hK ls hl
  have hl : lv_has ls 3 [(0, .ref t), (1, .int (nI c))] := hl
  refine lv_aload_n hx hb d_T_current_0 rfl (lv_at hl 0 rfl) ?_
  refine lv_iload_n hx hb d_T_current_1 rfl (lv_at hl 1 rfl) ?_
  refine lv_iconst (v := 0) hx hb d_T_current_2 (by decide) ?_
  refine rd_run (c_V (As := [.int (nI c), .int 0]) (rest := []) hx hb hml hl.1 hown hT hK hP (c_T_whole l g t σ c 0 s.heap.size hc (by decide)) kw_T_whole w771 w773 selp_T_whole w8 hd_T_whole rfl rfl ⟨by decide, by decide⟩ (tw_t) rfl rfl rfl (Nat.le_of_ble_eq_true rfl) d_T_current_3 ⟨by decide, by decide⟩) rfl ?_
  refine lv_if_eq (tgt := 18) hx hb d_T_current_6 (by decide) (fun c1 => ?_) (fun c1 => ?_)
  · skip
    rw [whI_0] at c1
    refine lv_aload_n hx hb d_T_current_18 rfl (lv_at hl 0 rfl) ?_
    refine lv_iload_n hx hb d_T_current_19 rfl (lv_at hl 1 rfl) ?_
    refine lv_iconst (v := 0) hx hb d_T_current_20 (by decide) ?_
    refine rd_run (c_V (As := [.int (nI c), .int 0]) (rest := []) hx hb hml hl.1 hown hT hK hP (c_T_whole l g t σ c 0 s.heap.size hc (by decide)) kw_T_whole w771 w773 selp_T_whole w8 hd_T_whole rfl rfl ⟨by decide, by decide⟩ (tw_t) rfl rfl rfl (Nat.le_of_ble_eq_true rfl) d_T_current_21 ⟨by decide, by decide⟩) rfl ?_
    refine lv_if_eq (tgt := 31) hx hb d_T_current_24 (by decide) (fun c3 => ?_) (fun c3 => ?_)
    · skip
      rw [whI_0] at c3
      refine lv_iconst (v := 1) hx hb d_T_current_31 (by decide) ?_
      exact rd_iret hx hb hr hlocks (by first | contradiction | (simp [cur, c1, c3, nI_0, nI_one]; done)) d_T_current_32
    · skip
      rw [whI_0, Classical.not_not] at c3
      refine lv_iconst (v := 0) hx hb d_T_current_27 (by decide) ?_
      refine lv_goto (tgt := 32) hx hb d_T_current_28 (by decide) ?_
      exact rd_iret hx hb hr hlocks (by first | contradiction | (simp [cur, c1, c3, nI_0, nI_one]; done)) d_T_current_32
  · skip
    rw [whI_0, Classical.not_not] at c1
    refine lv_aload_n hx hb d_T_current_9 rfl (lv_at hl 0 rfl) ?_
    refine lv_iload_n hx hb d_T_current_10 rfl (lv_at hl 1 rfl) ?_
    refine lv_iconst (v := 1) hx hb d_T_current_11 (by decide) ?_
    refine rd_run (c_V (As := [.int (nI c), .int 1]) (rest := []) hx hb hml hl.1 hown hT hK hP (c_T_whole l g t σ c 1 s.heap.size hc (by decide)) kw_T_whole w771 w773 selp_T_whole w8 hd_T_whole rfl rfl ⟨by decide, by decide⟩ (tw_t) rfl rfl rfl (Nat.le_of_ble_eq_true rfl) d_T_current_12 ⟨by decide, by decide⟩) rfl ?_
    refine lv_if_ne (tgt := 33) hx hb d_T_current_15 (by decide) (fun c2 => ?_) (fun c2 => ?_)
    · skip
      rw [whI_0, Classical.not_not] at c2
      refine lv_aload_n hx hb d_T_current_33 rfl (lv_at hl 0 rfl) ?_
      refine lv_iload_n hx hb d_T_current_34 rfl (lv_at hl 1 rfl) ?_
      refine lv_iconst (v := 1) hx hb d_T_current_35 (by decide) ?_
      refine rd_run (c_V (As := [.int (nI c), .int 1]) (rest := []) hx hb hml hl.1 hown hT hK hP (c_T_sequence l g t σ c 1 s.heap.size hc (by first | decide | assumption | exact cur_lt _ _)) kw_T_sequence w779 w781 selp_T_sequence w8 hd_T_sequence rfl rfl ⟨by decide, by decide⟩ (tw_t) rfl rfl rfl (Nat.le_of_ble_eq_true rfl) d_T_current_36 ⟨by decide, by decide⟩) rfl ?_
      refine lv_aload_n hx hb d_T_current_39 rfl (lv_at hl 0 rfl) ?_
      refine lv_iload_n hx hb d_T_current_40 rfl (lv_at hl 1 rfl) ?_
      refine lv_iconst (v := 0) hx hb d_T_current_41 (by decide) ?_
      refine rd_run (c_V (As := [.int (nI c), .int 0]) (rest := [.int (sq σ c 1)]) hx hb hml hl.1 hown hT hK hP (c_T_sequence l g t σ c 0 s.heap.size hc (by first | decide | assumption | exact cur_lt _ _)) kw_T_sequence w779 w781 selp_T_sequence w8 hd_T_sequence rfl rfl ⟨by decide, by decide⟩ (tw_t) rfl rfl rfl (Nat.le_of_ble_eq_true rfl) d_T_current_42 ⟨by decide, by decide⟩) rfl ?_
      refine lv_isub hx hb d_T_current_45 ?_
      refine lv_sipush (v := 255) hx hb d_T_current_46 (by decide) ?_
      refine lv_iand hx hb d_T_current_49 ?_
      refine lv_istore_n (lv' := [(2, .int (((sq σ c 1) - (sq σ c 0)) &&& 255)), (0, .ref t), (1, .int (nI c))]) hx hb d_T_current_50 rfl hl (by decide) rfl (fun ls hl => ?_)
      refine lv_iload_n hx hb d_T_current_51 rfl (lv_at hl 0 rfl) ?_
      refine lv_if_le (tgt := 66) hx hb d_T_current_52 (by decide) (fun q1 => ?_) (fun q1 => ?_)
      · skip
        refine lv_iconst (v := 0) hx hb d_T_current_66 (by decide) ?_
        exact rd_iret hx hb hr hlocks (by first | contradiction | (simp [cur, c1, c2, q1, ahd, nI_0, nI_one]; done)) d_T_current_67
      · skip
        refine lv_iload_n hx hb d_T_current_55 rfl (lv_at hl 0 rfl) ?_
        refine lv_sipush (v := 128) hx hb d_T_current_56 (by decide) ?_
        refine lv_icmp_ge (tgt := 66) hx hb d_T_current_59 (by decide) (fun q2 => ?_) (fun q2 => ?_)
        · skip
          refine lv_iconst (v := 0) hx hb d_T_current_66 (by decide) ?_
          exact rd_iret hx hb hr hlocks (by first | contradiction | (simp [cur, c1, c2, q1, q2, ahd, nI_0, nI_one]; done)) d_T_current_67
        · skip
          refine lv_iconst (v := 1) hx hb d_T_current_62 (by decide) ?_
          refine lv_goto (tgt := 67) hx hb d_T_current_63 (by decide) ?_
          exact rd_iret hx hb hr hlocks (by first | contradiction | (simp [cur, c1, c2, q1, q2, ahd, nI_0, nI_one]; done)) d_T_current_67
    · skip
      rw [whI_0] at c2
      refine lv_aload_n hx hb d_T_current_18 rfl (lv_at hl 0 rfl) ?_
      refine lv_iload_n hx hb d_T_current_19 rfl (lv_at hl 1 rfl) ?_
      refine lv_iconst (v := 0) hx hb d_T_current_20 (by decide) ?_
      refine rd_run (c_V (As := [.int (nI c), .int 0]) (rest := []) hx hb hml hl.1 hown hT hK hP (c_T_whole l g t σ c 0 s.heap.size hc (by decide)) kw_T_whole w771 w773 selp_T_whole w8 hd_T_whole rfl rfl ⟨by decide, by decide⟩ (tw_t) rfl rfl rfl (Nat.le_of_ble_eq_true rfl) d_T_current_21 ⟨by decide, by decide⟩) rfl ?_
      refine lv_if_eq (tgt := 31) hx hb d_T_current_24 (by decide) (fun c3 => ?_) (fun c3 => ?_)
      · skip
        rw [whI_0] at c3
        refine lv_iconst (v := 1) hx hb d_T_current_31 (by decide) ?_
        exact rd_iret hx hb hr hlocks (by first | contradiction | (simp [cur, c1, c2, c3, nI_0, nI_one]; done)) d_T_current_32
      · skip
        rw [whI_0, Classical.not_not] at c3
        refine lv_iconst (v := 0) hx hb d_T_current_27 (by decide) ?_
        refine lv_goto (tgt := 32) hx hb d_T_current_28 (by decide) ?_
        exact rd_iret hx hb hr hlocks (by first | contradiction | (simp [cur, c1, c2, c3, nI_0, nI_one]; done)) d_T_current_32
set_option maxHeartbeats 4000000 in
set_option maxRecDepth 100000 in
theorem c_T_count (l : Launch) (g : GG) (t : Nat) (σ : SG) (c : Nat) (sz : Nat) (hc : c < 4000) : Met l y_T_count (k_T_count :: TT) { frames := 3, cells := 0, slots := 0, locals := 67 } (Pm g [.ref t, .int (nI c)] sz (tw g t σ)) (Qrd (some (.int (cnI σ c)))) 0 0 (nofree) := by
  refine met_of (by decide) (Nat.le_of_ble_eq_true rfl) ?_
  intro pr en s mi below meth co hx hb hr hml hown hlocks hnm hT hsz hP hK ls hl
  have hl : lv_has ls 2 [(0, .ref t), (1, .int (nI c))] := hl
  refine lv_aload_n hx hb d_T_count_0 rfl (lv_at hl 0 rfl) ?_
  refine lv_iload_n hx hb d_T_count_1 rfl (lv_at hl 1 rfl) ?_
  refine lv_aload_n hx hb d_T_count_2 rfl (lv_at hl 0 rfl) ?_
  refine lv_iload_n hx hb d_T_count_3 rfl (lv_at hl 1 rfl) ?_
  refine rd_run (c_V (As := [.int (nI c)]) (rest := [.int (nI c), .ref t]) hx hb hml hl.1 hown hT hK hP (c_T_current l g t σ c s.heap.size hc) kw_T_current w767 w769 selp_T_current w8 hd_T_current rfl rfl ⟨by decide, by decide⟩ (tw_t) rfl rfl rfl (Nat.le_of_ble_eq_true rfl) d_T_count_4 ⟨by decide, by decide⟩) rfl ?_
  refine lv_iconst (v := 0) hx hb d_T_count_7 (by decide) ?_
  refine rd_run (c_V (As := [.int (nI c), .int (nI (cur σ c)), .int 0]) (rest := []) hx hb hml hl.1 hown hT hK hP (c_T_wordAt l g t σ c (cur σ c) 0 s.heap.size (by omega) (by first | decide | assumption | exact cur_lt _ _) (by decide)) kw_T_wordAt w775 w777 selp_T_wordAt w8 hd_T_wordAt rfl rfl ⟨by decide, by decide⟩ (tw_t) rfl rfl rfl (Nat.le_of_ble_eq_true rfl) d_T_count_8 ⟨by decide, by decide⟩) rfl ?_
  refine lv_sipush (v := 255) hx hb d_T_count_11 (by decide) ?_
  refine lv_iand hx hb d_T_count_14 ?_
  exact rd_iret hx hb hr hlocks (rfl) d_T_count_15
set_option maxHeartbeats 4000000 in
set_option maxRecDepth 100000 in
theorem c_T_first (l : Launch) (g : GG) (t : Nat) (σ : SG) (c : Nat) (sz : Nat) (hc : c < 4000) : Met l y_T_first (k_T_first :: TT) { frames := 4, cells := 0, slots := 0, locals := 88 } (Pm g [.ref t, .int (nI c)] sz (tw g t σ)) (Qrd (some (.int (fiI σ c)))) 0 0 (nofree) := by
  refine met_of (by decide) (Nat.le_of_ble_eq_true rfl) ?_
  intro pr en s mi below meth co hx hb hr hml hown hlocks hnm hT hsz hP hK ls hl
  have hl : lv_has ls 2 [(0, .ref t), (1, .int (nI c))] := hl
  refine lv_aload_n hx hb d_T_first_0 rfl (lv_at hl 0 rfl) ?_
  refine lv_iload_n hx hb d_T_first_1 rfl (lv_at hl 1 rfl) ?_
  refine rd_run (c_V (As := [.int (nI c)]) (rest := []) hx hb hml hl.1 hown hT hK hP (c_T_count l g t σ c s.heap.size hc) kw_T_count w763 w765 selp_T_count w8 hd_T_count rfl rfl ⟨by decide, by decide⟩ (tw_t) rfl rfl rfl (Nat.le_of_ble_eq_true rfl) d_T_first_2 ⟨by decide, by decide⟩) rfl ?_
  refine lv_if_ne (tgt := 12) hx hb d_T_first_5 (by decide) (fun q1 => ?_) (fun q1 => ?_)
  · skip
    refine lv_aload_n hx hb d_T_first_12 rfl (lv_at hl 0 rfl) ?_
    refine lv_iload_n hx hb d_T_first_13 rfl (lv_at hl 1 rfl) ?_
    refine lv_aload_n hx hb d_T_first_14 rfl (lv_at hl 0 rfl) ?_
    refine lv_iload_n hx hb d_T_first_15 rfl (lv_at hl 1 rfl) ?_
    refine rd_run (c_V (As := [.int (nI c)]) (rest := [.int (nI c), .ref t]) hx hb hml hl.1 hown hT hK hP (c_T_current l g t σ c s.heap.size hc) kw_T_current w767 w769 selp_T_current w8 hd_T_current rfl rfl ⟨by decide, by decide⟩ (tw_t) rfl rfl rfl (Nat.le_of_ble_eq_true rfl) d_T_first_16 ⟨by decide, by decide⟩) rfl ?_
    refine lv_iconst (v := 1) hx hb d_T_first_19 (by decide) ?_
    refine rd_run (c_V (As := [.int (nI c), .int (nI (cur σ c)), .int 1]) (rest := []) hx hb hml hl.1 hown hT hK hP (c_T_wordAt l g t σ c (cur σ c) 1 s.heap.size (by omega) (by first | decide | assumption | exact cur_lt _ _) (by decide)) kw_T_wordAt w775 w777 selp_T_wordAt w8 hd_T_wordAt rfl rfl ⟨by decide, by decide⟩ (tw_t) rfl rfl rfl (Nat.le_of_ble_eq_true rfl) d_T_first_20 ⟨by decide, by decide⟩) rfl ?_
    exact rd_iret hx hb hr hlocks (by first | contradiction | (simp [fiI, q1]; done)) d_T_first_23
  · skip
    refine lv_iconst (v := 0) hx hb d_T_first_8 (by decide) ?_
    refine lv_goto (tgt := 23) hx hb d_T_first_9 (by decide) ?_
    exact rd_iret hx hb hr hlocks (by first | contradiction | (simp [fiI, q1]; done)) d_T_first_23
set_option maxHeartbeats 4000000 in
set_option maxRecDepth 100000 in
theorem c_T_seen (l : Launch) (g : GG) (t : Nat) (σ : SG) (c : Nat) (sz : Nat) (hc : c < 4000) : Met l y_T_seen (k_T_seen :: TT) { frames := 3, cells := 0, slots := 0, locals := 67 } (Pm g [.ref t, .int (nI c)] sz (tw g t σ)) (Qrd (some (.int (seI σ c)))) 0 0 (nofree) := by
  refine met_of (by decide) (Nat.le_of_ble_eq_true rfl) ?_
  intro pr en s mi below meth co hx hb hr hml hown hlocks hnm hT hsz hP hK ls hl
  have hl : lv_has ls 2 [(0, .ref t), (1, .int (nI c))] := hl
  refine lv_aload_n hx hb d_T_seen_0 rfl (lv_at hl 0 rfl) ?_
  refine lv_iload_n hx hb d_T_seen_1 rfl (lv_at hl 1 rfl) ?_
  refine lv_aload_n hx hb d_T_seen_2 rfl (lv_at hl 0 rfl) ?_
  refine lv_iload_n hx hb d_T_seen_3 rfl (lv_at hl 1 rfl) ?_
  refine rd_run (c_V (As := [.int (nI c)]) (rest := [.int (nI c), .ref t]) hx hb hml hl.1 hown hT hK hP (c_T_current l g t σ c s.heap.size hc) kw_T_current w767 w769 selp_T_current w8 hd_T_current rfl rfl ⟨by decide, by decide⟩ (tw_t) rfl rfl rfl (Nat.le_of_ble_eq_true rfl) d_T_seen_4 ⟨by decide, by decide⟩) rfl ?_
  refine lv_iconst (v := 2) hx hb d_T_seen_7 (by decide) ?_
  refine rd_run (c_V (As := [.int (nI c), .int (nI (cur σ c)), .int 2]) (rest := []) hx hb hml hl.1 hown hT hK hP (c_T_wordAt l g t σ c (cur σ c) 2 s.heap.size (by omega) (by first | decide | assumption | exact cur_lt _ _) (by decide)) kw_T_wordAt w775 w777 selp_T_wordAt w8 hd_T_wordAt rfl rfl ⟨by decide, by decide⟩ (tw_t) rfl rfl rfl (Nat.le_of_ble_eq_true rfl) d_T_seen_8 ⟨by decide, by decide⟩) rfl ?_
  exact rd_iret hx hb hr hlocks (rfl) d_T_seen_11
set_option maxHeartbeats 4000000 in
set_option maxRecDepth 100000 in
theorem c_T_greatest (l : Launch) (g : GG) (t : Nat) (σ : SG) (d : Nat) (sz : Nat) (hd2 : d < 200) : Met l y_T_greatest (k_T_greatest :: TT) { frames := 0, cells := 0, slots := 0, locals := 0 } (Pm g [.ref t, .int (nI d)] sz (tw g t σ)) (Qrd (some (.int (nI (gre σ d))))) 0 0 (nofree) := by
  refine met_of (by decide) (Nat.le_of_ble_eq_true rfl) ?_
  intro pr en s mi below meth co hx hb hr hml hown hlocks hnm hT hsz hP hK ls hl
  have hl : lv_has ls 3 [(0, .ref t), (1, .int (nI d))] := hl
  refine lv_sipush (v := 3000) hx hb d_T_greatest_0 (by decide) ?_
  refine lv_istore_n (lv' := [(2, .int 3000), (0, .ref t), (1, .int (nI d))]) hx hb d_T_greatest_3 rfl hl (by decide) rfl (fun ls hl => ?_)
  refine W.rep (α := Array Slot × Nat) (fun (ls, k) => k) (fun (ls, k) => lv_has ls 3 [(0, .ref t), (1, .int (nI d)), (2, .int (nI k))] ∧ k ≤ 3000 ∧ grF σ d 3000 = grF σ d k) (fun (ls, k) => s.heap) (fun (ls, k) => []) (fun (ls, k) => F0 mi 4 ls []) ?_ (ls, 3000) ⟨lv_sub hl [1, 2, 0] rfl, by omega, rfl⟩
  rintro ⟨ls, k⟩ ⟨hl, hi1, hi2⟩ ih
  dsimp only at hl hi1 hi2 ih ⊢
  refine lv_iload_n hx hb d_T_greatest_4 rfl (lv_at hl 2 rfl) ?_
  refine lv_if_le (tgt := 29) hx hb d_T_greatest_5 (by decide) (fun c1 => ?_) (fun c1 => ?_)
  · skip
    have hk0 : k = 0 := by rcases Nat.eq_zero_or_pos k with h | h; exact h; exact absurd c1 (nI_nle h (by omega))
    subst hk0
    refine lv_iload_n hx hb d_T_greatest_29 rfl (lv_at hl 2 rfl) ?_
    exact rd_iret hx hb hr hlocks (by first | (unfold gre; rw [hi2]; rfl) | (unfold gre; rw [hi2]; cases k with | zero => rfl | succ k => exact congrArg nI (if_neg c2).symm)) d_T_greatest_30
  · skip
    refine lv_aload_n hx hb d_T_greatest_8 rfl (lv_at hl 0 rfl) ?_
    refine m_get (ci := 7) (v := .ref (t + 8)) hx hb hT in_T hown hK hP (tw_t) rfl 10 (by decide) (hT _ w682) (fun _ h9 => h9) rfl d_T_greatest_9 ?_
    refine lv_sipush (v := 3001) hx hb d_T_greatest_12 (by decide) ?_
    refine lv_iload_n hx hb d_T_greatest_15 rfl (lv_at hl 1 rfl) ?_
    refine lv_imul hx hb d_T_greatest_16 ?_
    refine lv_iload_n hx hb d_T_greatest_17 rfl (lv_at hl 2 rfl) ?_
    refine lv_iadd hx hb d_T_greatest_18 ?_
    refine m_zald hx hb hK hP 2 (tw_8) rfl (j := 3001 * d + k) (ixd d k) (by omega) (by decide) d_T_greatest_19 ?_
    refine lv_if_ne (tgt := 29) hx hb d_T_greatest_20 (by decide) (fun c2 => ?_) (fun c2 => ?_)
    · skip
      refine lv_iload_n hx hb d_T_greatest_29 rfl (lv_at hl 2 rfl) ?_
      exact rd_iret hx hb hr hlocks (by first | (unfold gre; rw [hi2]; rfl) | (unfold gre; rw [hi2]; cases k with | zero => rfl | succ k => exact congrArg nI (if_neg c2).symm)) d_T_greatest_30
    · skip
      obtain ⟨k, rfl⟩ : ∃ j, k = j + 1 := ⟨k - 1, by rcases Nat.eq_zero_or_pos k with h | h; exact absurd (by rw [h]; decide) c1; omega⟩
      have hrec : grF σ d (k + 1) = grF σ d k := if_pos c2
      refine lv_iinc (v := nI k) (lv' := [(2, .int (nI k)), (0, .ref t), (1, .int (nI d))]) hx hb d_T_greatest_23 hl (k := 2) rfl (pk_m1 k) (by decide) rfl (fun ls hl => ?_)
      refine lv_goto (tgt := 4) hx hb d_T_greatest_26 (by decide) ?_
      exact ih (_, k) ⟨lv_sub hl [1, 2, 0] rfl, by omega, by rw [hi2, hrec]⟩ (by omega)
