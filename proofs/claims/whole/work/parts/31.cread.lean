/-! The class: images, cards (reading), lists. -/
def xwh (χ : SG) (c b : Nat) : Int32 := if χ (rW c b) 0 = χ (rW c b) 43 then 1 else 0
theorem xwh_0 {χ : SG} {c b : Nat} : xwh χ c b = 0 ↔ ¬ χ (rW c b) 0 = χ (rW c b) 43 := by
  unfold xwh
  by_cases h : χ (rW c b) 0 = χ (rW c b) 43
  · rw [if_pos h]; simp [h]
  · rw [if_neg h]; simp [h]
def xsq (χ : SG) (c b : Nat) : Int32 := (χ (rW c b) 0 >>> ((8 : Int32) &&& 31)) &&& 255
def xcn (χ : SG) (c b : Nat) : Int32 := χ (rW c b) 0 &&& 255
def xtl (χ : SG) (c b : Nat) (f n s : Int32) : Int32 := if χ (rW c b) 1 = f ∧ xcn χ c b = n ∧ χ (rW c b) 2 = s then 1 else 0
theorem xtl_01 (χ : SG) (c b : Nat) (f n s : Int32) : xtl χ c b f n s = 0 ∨ xtl χ c b f n s = 1 := by
  unfold xtl
  split
  · exact Or.inr rfl
  · exact Or.inl rfl
def xcur (χ : SG) (c : Nat) : Nat := if ¬ χ (rW c 1) 0 = χ (rW c 1) 43 then 0 else if ¬ χ (rW c 0) 0 = χ (rW c 0) 43 then 1 else if (xsq χ c 1 - xsq χ c 0).toInt8.toInt32 ≤ 0 then 0 else 1
theorem xcur_lt (χ : SG) (c : Nat) : xcur χ c < 2 := by
  unfold xcur
  repeat' split
  all_goals omega
def xop (χ : SG) (c z : Nat) : Int32 := if ¬ ((χ 1 c).toUInt32 >>> ((nI z).toUInt32 &&& Int32.toUInt32 31)).toInt32 &&& 1 = 1 then 0 else 1
set_option maxHeartbeats 4000000 in
set_option maxRecDepth 100000 in
theorem c_Im_at (l : Launch) (g : GG) (M : MW) (α : AL3) (ν : Nat → Nat) (χ : SG) (c b : Nat) (k : Nat) (sz : Nat) (hW : HW g α ν χ M) (hc : c < ν 0) (hb2 : b < 2) (hk : k < 44) : Met l y_Im_at (k_Im_at :: TT) { frames := 0, cells := 0, slots := 0, locals := 0 } (Pm g [.ref (α 2 c b), .int (nI k)] sz (M)) (Qrd (some (.int (χ (rW c b) k)))) 0 0 (nofree) := by
  refine met_of (by decide) (Nat.le_of_ble_eq_true rfl) ?_
  intro pr en s mi below meth co hx hb hr hml hown hlocks hnm hT hsz hP hK ls hl
  have hl : lv_has ls 2 [(0, .ref (α 2 c b)), (1, .int (nI k))] := hl
  refine lv_iload_n hx hb d_Im_at_0 rfl (lv_at hl 1 rfl) ?_
  refine lv_if_lt (tgt := 22) hx hb d_Im_at_1 (by decide) (fun hc => absurd hc (nI_pos (by omega))) (fun _ => ?_)
  refine lv_iload_n hx hb d_Im_at_4 rfl (lv_at hl 1 rfl) ?_
  refine lv_aload_n hx hb d_Im_at_5 rfl (lv_at hl 0 rfl) ?_
  refine m_get (ci := 5) (v := .ref (α 3 c b)) hx hb hT in_Im hown hK hP (hw_im hW hc hb2) rfl 0 (by decide) (hT _ w224) (fun _ h9 => h9) rfl d_Im_at_6 ?_
  refine m_alen (v := nI 44) hx hb hK hP 1 (hw_wd hW hc hb2) rfl rfl d_Im_at_9 ?_
  refine lv_icmp_ge (tgt := 22) hx hb d_Im_at_10 (by decide) (fun hc => absurd hc (nI_ge hk (by decide))) (fun _ => ?_)
  refine lv_aload_n hx hb d_Im_at_13 rfl (lv_at hl 0 rfl) ?_
  refine m_get (ci := 5) (v := .ref (α 3 c b)) hx hb hT in_Im hown hK hP (hw_im hW hc hb2) rfl 0 (by decide) (hT _ w224) (fun _ h9 => h9) rfl d_Im_at_14 ?_
  refine lv_iload_n hx hb d_Im_at_17 rfl (lv_at hl 1 rfl) ?_
  refine m_sald hx hb hK hP 1 (hw_wd hW hc hb2) rfl (j := k) (rfl) (hk) (by decide) d_Im_at_18 ?_
  refine lv_goto (tgt := 23) hx hb d_Im_at_19 (by decide) ?_
  exact rd_iret hx hb hr hlocks (rfl) d_Im_at_23
set_option maxHeartbeats 4000000 in
set_option maxRecDepth 100000 in
theorem c_Im_isWhole (l : Launch) (g : GG) (M : MW) (α : AL3) (ν : Nat → Nat) (χ : SG) (c b : Nat) (sz : Nat) (hW : HW g α ν χ M) (hc : c < ν 0) (hb2 : b < 2) : Met l y_Im_isWhole (k_Im_isWhole :: TT) { frames := 1, cells := 0, slots := 0, locals := 21 } (Pm g [.ref (α 2 c b)] sz (M)) (Qrd (some (.int (xwh χ c b)))) 0 0 (nofree) := by
  refine met_of (by decide) (Nat.le_of_ble_eq_true rfl) ?_
  intro pr en s mi below meth co hx hb hr hml hown hlocks hnm hT hsz hP hK ls hl
  have hl : lv_has ls 1 [(0, .ref (α 2 c b))] := hl
  refine lv_aload_n hx hb d_Im_isWhole_0 rfl (lv_at hl 0 rfl) ?_
  refine lv_iconst (v := 0) hx hb d_Im_isWhole_1 (by decide) ?_
  refine rd_run (c_V (As := [.int 0]) (rest := []) hx hb hml hl.1 hown hT hK hP (c_Im_at l g M α ν χ c b 0 s.heap.size hW hc hb2 (by decide)) kw_Im_at w404 w405 w406 w14 hd_Im_at rfl rfl ⟨by decide, by decide⟩ (hw_im hW hc hb2) rfl rfl rfl (Nat.le_of_ble_eq_true rfl) d_Im_isWhole_2 ⟨by decide, by decide⟩) rfl ?_
  refine lv_aload_n hx hb d_Im_isWhole_5 rfl (lv_at hl 0 rfl) ?_
  refine lv_bipush (v := 43) hx hb d_Im_isWhole_6 (by decide) ?_
  refine rd_run (c_V (As := [.int 43]) (rest := [.int (χ (rW c b) 0)]) hx hb hml hl.1 hown hT hK hP (c_Im_at l g M α ν χ c b 43 s.heap.size hW hc hb2 (by decide)) kw_Im_at w404 w405 w406 w14 hd_Im_at rfl rfl ⟨by decide, by decide⟩ (hw_im hW hc hb2) rfl rfl rfl (Nat.le_of_ble_eq_true rfl) d_Im_isWhole_8 ⟨by decide, by decide⟩) rfl ?_
  refine lv_icmp_ne (tgt := 18) hx hb d_Im_isWhole_11 (by decide) (fun q1 => ?_) (fun q1 => ?_)
  · skip
    refine lv_iconst (v := 0) hx hb d_Im_isWhole_18 (by decide) ?_
    exact rd_zret hx hb hr hlocks (by first | contradiction | (simp [xwh, q1]; done)) (by first | exact Or.inl rfl | exact Or.inr rfl | assumption | exact smI_01 _ _ _ _ _ _ | exact xtl_01 _ _ _ _ _ _ | exact bI_01 _) d_Im_isWhole_19
  · skip
    refine lv_iconst (v := 1) hx hb d_Im_isWhole_14 (by decide) ?_
    refine lv_goto (tgt := 19) hx hb d_Im_isWhole_15 (by decide) ?_
    exact rd_zret hx hb hr hlocks (by first | contradiction | (simp [xwh, q1]; done)) (by first | exact Or.inl rfl | exact Or.inr rfl | assumption | exact smI_01 _ _ _ _ _ _ | exact xtl_01 _ _ _ _ _ _ | exact bI_01 _) d_Im_isWhole_19
set_option maxHeartbeats 4000000 in
set_option maxRecDepth 100000 in
theorem c_Im_sequence (l : Launch) (g : GG) (M : MW) (α : AL3) (ν : Nat → Nat) (χ : SG) (c b : Nat) (sz : Nat) (hW : HW g α ν χ M) (hc : c < ν 0) (hb2 : b < 2) : Met l y_Im_sequence (k_Im_sequence :: TT) { frames := 1, cells := 0, slots := 0, locals := 21 } (Pm g [.ref (α 2 c b)] sz (M)) (Qrd (some (.int (xsq χ c b)))) 0 0 (nofree) := by
  refine met_of (by decide) (Nat.le_of_ble_eq_true rfl) ?_
  intro pr en s mi below meth co hx hb hr hml hown hlocks hnm hT hsz hP hK ls hl
  have hl : lv_has ls 1 [(0, .ref (α 2 c b))] := hl
  refine lv_aload_n hx hb d_Im_sequence_0 rfl (lv_at hl 0 rfl) ?_
  refine lv_iconst (v := 0) hx hb d_Im_sequence_1 (by decide) ?_
  refine rd_run (c_V (As := [.int 0]) (rest := []) hx hb hml hl.1 hown hT hK hP (c_Im_at l g M α ν χ c b 0 s.heap.size hW hc hb2 (by decide)) kw_Im_at w404 w405 w406 w14 hd_Im_at rfl rfl ⟨by decide, by decide⟩ (hw_im hW hc hb2) rfl rfl rfl (Nat.le_of_ble_eq_true rfl) d_Im_sequence_2 ⟨by decide, by decide⟩) rfl ?_
  refine lv_bipush (v := 8) hx hb d_Im_sequence_5 (by decide) ?_
  refine lv_ishr hx hb d_Im_sequence_7 ?_
  refine lv_sipush (v := 255) hx hb d_Im_sequence_8 (by decide) ?_
  refine lv_iand hx hb d_Im_sequence_11 ?_
  exact rd_iret hx hb hr hlocks (rfl) d_Im_sequence_12
set_option maxHeartbeats 4000000 in
set_option maxRecDepth 100000 in
theorem c_Im_count (l : Launch) (g : GG) (M : MW) (α : AL3) (ν : Nat → Nat) (χ : SG) (c b : Nat) (sz : Nat) (hW : HW g α ν χ M) (hc : c < ν 0) (hb2 : b < 2) : Met l y_Im_count (k_Im_count :: TT) { frames := 1, cells := 0, slots := 0, locals := 21 } (Pm g [.ref (α 2 c b)] sz (M)) (Qrd (some (.int (xcn χ c b)))) 0 0 (nofree) := by
  refine met_of (by decide) (Nat.le_of_ble_eq_true rfl) ?_
  intro pr en s mi below meth co hx hb hr hml hown hlocks hnm hT hsz hP hK ls hl
  have hl : lv_has ls 1 [(0, .ref (α 2 c b))] := hl
  refine lv_aload_n hx hb d_Im_count_0 rfl (lv_at hl 0 rfl) ?_
  refine lv_iconst (v := 0) hx hb d_Im_count_1 (by decide) ?_
  refine rd_run (c_V (As := [.int 0]) (rest := []) hx hb hml hl.1 hown hT hK hP (c_Im_at l g M α ν χ c b 0 s.heap.size hW hc hb2 (by decide)) kw_Im_at w404 w405 w406 w14 hd_Im_at rfl rfl ⟨by decide, by decide⟩ (hw_im hW hc hb2) rfl rfl rfl (Nat.le_of_ble_eq_true rfl) d_Im_count_2 ⟨by decide, by decide⟩) rfl ?_
  refine lv_sipush (v := 255) hx hb d_Im_count_5 (by decide) ?_
  refine lv_iand hx hb d_Im_count_8 ?_
  exact rd_iret hx hb hr hlocks (rfl) d_Im_count_9
set_option maxHeartbeats 4000000 in
set_option maxRecDepth 100000 in
theorem c_Im_tells (l : Launch) (g : GG) (M : MW) (α : AL3) (ν : Nat → Nat) (χ : SG) (c b : Nat) (f n q : Int32) (sz : Nat) (hW : HW g α ν χ M) (hc : c < ν 0) (hb2 : b < 2) : Met l y_Im_tells (k_Im_tells :: TT) { frames := 2, cells := 0, slots := 0, locals := 41 } (Pm g [.ref (α 2 c b), .int f, .int n, .int q] sz (M)) (Qrd (some (.int (xtl χ c b f n q)))) 0 0 (nofree) := by
  refine met_of (by decide) (Nat.le_of_ble_eq_true rfl) ?_
  intro pr en s mi below meth co hx hb hr hml hown hlocks hnm hT hsz hP hK ls hl
  have hl : lv_has ls 4 [(0, .ref (α 2 c b)), (1, .int f), (2, .int n), (3, .int q)] := hl
  refine lv_aload_n hx hb d_Im_tells_0 rfl (lv_at hl 0 rfl) ?_
  refine lv_iconst (v := 1) hx hb d_Im_tells_1 (by decide) ?_
  refine rd_run (c_V (As := [.int 1]) (rest := []) hx hb hml hl.1 hown hT hK hP (c_Im_at l g M α ν χ c b 1 s.heap.size hW hc hb2 (by decide)) kw_Im_at w404 w405 w406 w14 hd_Im_at rfl rfl ⟨by decide, by decide⟩ (hw_im hW hc hb2) rfl rfl rfl (Nat.le_of_ble_eq_true rfl) d_Im_tells_2 ⟨by decide, by decide⟩) rfl ?_
  refine lv_iload_n hx hb d_Im_tells_5 rfl (lv_at hl 1 rfl) ?_
  refine lv_icmp_ne (tgt := 30) hx hb d_Im_tells_6 (by decide) (fun q1 => ?_) (fun q1 => ?_)
  · skip
    refine lv_iconst (v := 0) hx hb d_Im_tells_30 (by decide) ?_
    exact rd_zret hx hb hr hlocks (by first | contradiction | (simp [xtl, q1]; done)) (by first | exact Or.inl rfl | exact Or.inr rfl | assumption | exact smI_01 _ _ _ _ _ _ | exact xtl_01 _ _ _ _ _ _ | exact bI_01 _) d_Im_tells_31
  · skip
    refine lv_aload_n hx hb d_Im_tells_9 rfl (lv_at hl 0 rfl) ?_
    refine rd_run (c_V (As := []) (rest := []) hx hb hml hl.1 hown hT hK hP (c_Im_count l g M α ν χ c b s.heap.size hW hc hb2) kw_Im_count w420 w421 w422 w14 hd_Im_count rfl rfl ⟨by decide, by decide⟩ (hw_im hW hc hb2) rfl rfl rfl (Nat.le_of_ble_eq_true rfl) d_Im_tells_10 ⟨by decide, by decide⟩) rfl ?_
    refine lv_iload_n hx hb d_Im_tells_13 rfl (lv_at hl 2 rfl) ?_
    refine lv_icmp_ne (tgt := 30) hx hb d_Im_tells_14 (by decide) (fun q2 => ?_) (fun q2 => ?_)
    · skip
      refine lv_iconst (v := 0) hx hb d_Im_tells_30 (by decide) ?_
      exact rd_zret hx hb hr hlocks (by first | contradiction | (simp [xtl, q1, q2]; done)) (by first | exact Or.inl rfl | exact Or.inr rfl | assumption | exact smI_01 _ _ _ _ _ _ | exact xtl_01 _ _ _ _ _ _ | exact bI_01 _) d_Im_tells_31
    · skip
      refine lv_aload_n hx hb d_Im_tells_17 rfl (lv_at hl 0 rfl) ?_
      refine lv_iconst (v := 2) hx hb d_Im_tells_18 (by decide) ?_
      refine rd_run (c_V (As := [.int 2]) (rest := []) hx hb hml hl.1 hown hT hK hP (c_Im_at l g M α ν χ c b 2 s.heap.size hW hc hb2 (by decide)) kw_Im_at w404 w405 w406 w14 hd_Im_at rfl rfl ⟨by decide, by decide⟩ (hw_im hW hc hb2) rfl rfl rfl (Nat.le_of_ble_eq_true rfl) d_Im_tells_19 ⟨by decide, by decide⟩) rfl ?_
      refine lv_iload_n hx hb d_Im_tells_22 rfl (lv_at hl 3 rfl) ?_
      refine lv_icmp_ne (tgt := 30) hx hb d_Im_tells_23 (by decide) (fun q3 => ?_) (fun q3 => ?_)
      · skip
        refine lv_iconst (v := 0) hx hb d_Im_tells_30 (by decide) ?_
        exact rd_zret hx hb hr hlocks (by first | contradiction | (simp [xtl, q1, q2, q3]; done)) (by first | exact Or.inl rfl | exact Or.inr rfl | assumption | exact smI_01 _ _ _ _ _ _ | exact xtl_01 _ _ _ _ _ _ | exact bI_01 _) d_Im_tells_31
      · skip
        refine lv_iconst (v := 1) hx hb d_Im_tells_26 (by decide) ?_
        refine lv_goto (tgt := 31) hx hb d_Im_tells_27 (by decide) ?_
        exact rd_zret hx hb hr hlocks (by first | contradiction | (simp [xtl, q1, q2, q3]; done)) (by first | exact Or.inl rfl | exact Or.inr rfl | assumption | exact smI_01 _ _ _ _ _ _ | exact xtl_01 _ _ _ _ _ _ | exact bI_01 _) d_Im_tells_31
set_option maxHeartbeats 4000000 in
set_option maxRecDepth 100000 in
theorem c_Card_image (l : Launch) (g : GG) (M : MW) (α : AL3) (ν : Nat → Nat) (χ : SG) (c b : Nat) (sz : Nat) (hW : HW g α ν χ M) (hc : c < ν 0) (hb2 : b < 2) : Met l y_Card_image (k_Card_image :: TT) { frames := 0, cells := 0, slots := 0, locals := 0 } (Pm g [.ref (α 1 c 0), .int (nI b)] sz (M)) (Qrd (some (.ref (α 2 c b)))) 0 0 (nofree) := by
  refine met_of (by decide) (Nat.le_of_ble_eq_true rfl) ?_
  intro pr en s mi below meth co hx hb hr hml hown hlocks hnm hT hsz hP hK ls hl
  have hl : lv_has ls 2 [(0, .ref (α 1 c 0)), (1, .int (nI b))] := hl
  refine lv_iload_n hx hb d_Card_image_0 rfl (lv_at hl 1 rfl) ?_
  refine lv_if_ne (tgt := 11) hx hb d_Card_image_1 (by decide) (fun c1 => ?_) (fun c1 => ?_)
  · skip
    have e1 : b = 1 := by rcases (show b = 0 ∨ b = 1 by omega) with h9 | h9; exact absurd (by rw [h9]; rfl) c1; exact h9
    subst e1
    refine lv_aload_n hx hb d_Card_image_11 rfl (lv_at hl 0 rfl) ?_
    refine m_get (ci := 1) (v := .ref (α 2 c 1)) hx hb hT in_Card hown hK hP (hw_card hW hc) rfl 3 (by decide) (hT _ w233) (fun _ h9 => h9) rfl d_Card_image_12 ?_
    exact rd_aret hx hb hr (Or.inl ⟨_, rfl⟩) hlocks (rfl) d_Card_image_15
  · skip
    have e1 : b = 0 := (nI_eq (b := 0) (by omega) (by decide)).mp c1
    subst e1
    refine lv_aload_n hx hb d_Card_image_4 rfl (lv_at hl 0 rfl) ?_
    refine m_get (ci := 1) (v := .ref (α 2 c 0)) hx hb hT in_Card hown hK hP (hw_card hW hc) rfl 2 (by decide) (hT _ w232) (fun _ h9 => h9) rfl d_Card_image_5 ?_
    refine lv_goto (tgt := 15) hx hb d_Card_image_8 (by decide) ?_
    exact rd_aret hx hb hr (Or.inl ⟨_, rfl⟩) hlocks (rfl) d_Card_image_15
set_option maxHeartbeats 4000000 in
set_option maxRecDepth 100000 in
theorem c_Card_currentIndex (l : Launch) (g : GG) (M : MW) (α : AL3) (ν : Nat → Nat) (χ : SG) (c : Nat) (sz : Nat) (hW : HW g α ν χ M) (hc : c < ν 0) : Met l y_Card_currentIndex (k_Card_currentIndex :: TT) { frames := 2, cells := 0, slots := 0, locals := 41 } (Pm g [.ref (α 1 c 0)] sz (M)) (Qrd (some (.int (nI (xcur χ c))))) 0 0 (nofree) := by
  refine met_of (by decide) (Nat.le_of_ble_eq_true rfl) ?_
  intro pr en s mi below meth co hx hb hr hml hown hlocks hnm hT hsz hP hK ls hl
  have hl : lv_has ls 2 [(0, .ref (α 1 c 0))] := hl
  refine lv_aload_n hx hb d_Card_currentIndex_0 rfl (lv_at hl 0 rfl) ?_
  refine m_get (ci := 1) (v := .ref (α 2 c 1)) hx hb hT in_Card hown hK hP (hw_card hW hc) rfl 3 (by decide) (hT _ w233) (fun _ h9 => h9) rfl d_Card_currentIndex_1 ?_
  refine rd_run (c_V (As := []) (rest := []) hx hb hml hl.1 hown hT hK hP (c_Im_isWhole l g M α ν χ c 1 s.heap.size hW hc (by decide)) kw_Im_isWhole w400 w401 w402 w14 hd_Im_isWhole rfl rfl ⟨by decide, by decide⟩ (hw_im hW hc (by decide)) rfl rfl rfl (Nat.le_of_ble_eq_true rfl) d_Card_currentIndex_4 ⟨by decide, by decide⟩) rfl ?_
  refine lv_if_ne (tgt := 12) hx hb d_Card_currentIndex_7 (by decide) (fun c1 => ?_) (fun c1 => ?_)
  · skip
    rw [xwh_0, Classical.not_not] at c1
    refine lv_aload_n hx hb d_Card_currentIndex_12 rfl (lv_at hl 0 rfl) ?_
    refine m_get (ci := 1) (v := .ref (α 2 c 0)) hx hb hT in_Card hown hK hP (hw_card hW hc) rfl 2 (by decide) (hT _ w232) (fun _ h9 => h9) rfl d_Card_currentIndex_13 ?_
    refine rd_run (c_V (As := []) (rest := []) hx hb hml hl.1 hown hT hK hP (c_Im_isWhole l g M α ν χ c 0 s.heap.size hW hc (by decide)) kw_Im_isWhole w400 w401 w402 w14 hd_Im_isWhole rfl rfl ⟨by decide, by decide⟩ (hw_im hW hc (by decide)) rfl rfl rfl (Nat.le_of_ble_eq_true rfl) d_Card_currentIndex_16 ⟨by decide, by decide⟩) rfl ?_
    refine lv_if_ne (tgt := 24) hx hb d_Card_currentIndex_19 (by decide) (fun c2 => ?_) (fun c2 => ?_)
    · skip
      rw [xwh_0, Classical.not_not] at c2
      refine lv_aload_n hx hb d_Card_currentIndex_24 rfl (lv_at hl 0 rfl) ?_
      refine m_get (ci := 1) (v := .ref (α 2 c 1)) hx hb hT in_Card hown hK hP (hw_card hW hc) rfl 3 (by decide) (hT _ w233) (fun _ h9 => h9) rfl d_Card_currentIndex_25 ?_
      refine rd_run (c_V (As := []) (rest := []) hx hb hml hl.1 hown hT hK hP (c_Im_sequence l g M α ν χ c 1 s.heap.size hW hc (by decide)) kw_Im_sequence w408 w409 w410 w14 hd_Im_sequence rfl rfl ⟨by decide, by decide⟩ (hw_im hW hc (by decide)) rfl rfl rfl (Nat.le_of_ble_eq_true rfl) d_Card_currentIndex_28 ⟨by decide, by decide⟩) rfl ?_
      refine lv_aload_n hx hb d_Card_currentIndex_31 rfl (lv_at hl 0 rfl) ?_
      refine m_get (ci := 1) (v := .ref (α 2 c 0)) hx hb hT in_Card hown hK hP (hw_card hW hc) rfl 2 (by decide) (hT _ w232) (fun _ h9 => h9) rfl d_Card_currentIndex_32 ?_
      refine rd_run (c_V (As := []) (rest := [.int (xsq χ c 1)]) hx hb hml hl.1 hown hT hK hP (c_Im_sequence l g M α ν χ c 0 s.heap.size hW hc (by decide)) kw_Im_sequence w408 w409 w410 w14 hd_Im_sequence rfl rfl ⟨by decide, by decide⟩ (hw_im hW hc (by decide)) rfl rfl rfl (Nat.le_of_ble_eq_true rfl) d_Card_currentIndex_35 ⟨by decide, by decide⟩) rfl ?_
      refine lv_isub hx hb d_Card_currentIndex_38 ?_
      refine lv_i2b (v := ((xsq χ c 1) - (xsq χ c 0)).toInt8.toInt32) hx hb d_Card_currentIndex_39 rfl ?_
      refine lv_istore_n (lv' := [(1, .int (((xsq χ c 1) - (xsq χ c 0)).toInt8.toInt32)), (0, .ref (α 1 c 0))]) hx hb d_Card_currentIndex_40 rfl hl (by decide) rfl (fun ls hl => ?_)
      refine lv_iload_n hx hb d_Card_currentIndex_41 rfl (lv_at hl 0 rfl) ?_
      refine lv_if_le (tgt := 49) hx hb d_Card_currentIndex_42 (by decide) (fun c3 => ?_) (fun c3 => ?_)
      · skip
        refine lv_iconst (v := 0) hx hb d_Card_currentIndex_49 (by decide) ?_
        exact rd_iret hx hb hr hlocks (by first | (unfold xcur; rw [if_neg (fun z => z c1), if_neg (fun z => z c2), if_pos c3]; rfl) | (unfold xcur; rw [if_neg (fun z => z c1), if_neg (fun z => z c2), if_neg c3]; rfl)) d_Card_currentIndex_50
      · skip
        refine lv_iconst (v := 1) hx hb d_Card_currentIndex_45 (by decide) ?_
        refine lv_goto (tgt := 50) hx hb d_Card_currentIndex_46 (by decide) ?_
        exact rd_iret hx hb hr hlocks (by first | (unfold xcur; rw [if_neg (fun z => z c1), if_neg (fun z => z c2), if_pos c3]; rfl) | (unfold xcur; rw [if_neg (fun z => z c1), if_neg (fun z => z c2), if_neg c3]; rfl)) d_Card_currentIndex_50
    · skip
      rw [xwh_0] at c2
      refine lv_iconst (v := 1) hx hb d_Card_currentIndex_22 (by decide) ?_
      exact rd_iret hx hb hr hlocks (by first | contradiction | (simp [xcur, c1, c2, nI_0, nI_one]; done)) d_Card_currentIndex_23
  · skip
    rw [xwh_0] at c1
    refine lv_iconst (v := 0) hx hb d_Card_currentIndex_10 (by decide) ?_
    exact rd_iret hx hb hr hlocks (by first | contradiction | (simp [xcur, c1, nI_0, nI_one]; done)) d_Card_currentIndex_11
set_option maxHeartbeats 4000000 in
set_option maxRecDepth 100000 in
theorem c_Card_current (l : Launch) (g : GG) (M : MW) (α : AL3) (ν : Nat → Nat) (χ : SG) (c : Nat) (sz : Nat) (hW : HW g α ν χ M) (hc : c < ν 0) : Met l y_Card_current (k_Card_current :: TT) { frames := 3, cells := 0, slots := 0, locals := 62 } (Pm g [.ref (α 1 c 0)] sz (M)) (Qrd (some (.ref (α 2 c (xcur χ c))))) 0 0 (nofree) := by
  refine met_of (by decide) (Nat.le_of_ble_eq_true rfl) ?_
  intro pr en s mi below meth co hx hb hr hml hown hlocks hnm hT hsz hP hK ls hl
  have hl : lv_has ls 1 [(0, .ref (α 1 c 0))] := hl
  refine lv_aload_n hx hb d_Card_current_0 rfl (lv_at hl 0 rfl) ?_
  refine lv_aload_n hx hb d_Card_current_1 rfl (lv_at hl 0 rfl) ?_
  refine rd_run (c_V (As := []) (rest := [.ref (α 1 c 0)]) hx hb hml hl.1 hown hT hK hP (c_Card_currentIndex l g M α ν χ c s.heap.size hW hc) kw_Card_currentIndex w396 w397 w398 w13 hd_Card_currentIndex rfl rfl ⟨by decide, by decide⟩ (hw_card hW hc) rfl rfl rfl (Nat.le_of_ble_eq_true rfl) d_Card_current_2 ⟨by decide, by decide⟩) rfl ?_
  refine rd_run (c_V (As := [.int (nI (xcur χ c))]) (rest := []) hx hb hml hl.1 hown hT hK hP (c_Card_image l g M α ν χ c (xcur χ c) s.heap.size hW hc (xcur_lt χ c)) kw_Card_image w412 w413 w414 w13 hd_Card_image rfl rfl ⟨by decide, by decide⟩ (hw_card hW hc) rfl rfl rfl (Nat.le_of_ble_eq_true rfl) d_Card_current_5 ⟨by decide, by decide⟩) rfl ?_
  exact rd_aret hx hb hr (Or.inl ⟨_, rfl⟩) hlocks (rfl) d_Card_current_8
set_option maxHeartbeats 4000000 in
set_option maxRecDepth 100000 in
theorem c_Card_opens (l : Launch) (g : GG) (M : MW) (α : AL3) (ν : Nat → Nat) (χ : SG) (c z : Nat) (sz : Nat) (hW : HW g α ν χ M) (hc : c < ν 0) : Met l y_Card_opens (k_Card_opens :: TT) { frames := 0, cells := 0, slots := 0, locals := 0 } (Pm g [.ref (α 1 c 0), .int (nI z)] sz (M)) (Qrd (some (.int (xop χ c z)))) 0 0 (nofree) := by
  refine met_of (by decide) (Nat.le_of_ble_eq_true rfl) ?_
  intro pr en s mi below meth co hx hb hr hml hown hlocks hnm hT hsz hP hK ls hl
  have hl : lv_has ls 2 [(0, .ref (α 1 c 0)), (1, .int (nI z))] := hl
  refine lv_aload_n hx hb d_Card_opens_0 rfl (lv_at hl 0 rfl) ?_
  refine m_get (ci := 1) (v := .int ((χ) 1 c)) hx hb hT in_Card hown hK hP (hw_card hW hc) rfl 0 (by decide) (hT _ w229) (fun _ h9 => h9) rfl d_Card_opens_1 ?_
  refine lv_iload_n hx hb d_Card_opens_4 rfl (lv_at hl 1 rfl) ?_
  refine lv_iushr (v := ((((χ) 1 c)).toUInt32 >>> (((nI z) : Int32).toUInt32 &&& Int32.toUInt32 31)).toInt32) hx hb d_Card_opens_5 rfl ?_
  refine lv_iconst (v := 1) hx hb d_Card_opens_6 (by decide) ?_
  refine lv_iand hx hb d_Card_opens_7 ?_
  refine lv_iconst (v := 1) hx hb d_Card_opens_8 (by decide) ?_
  refine lv_icmp_ne (tgt := 16) hx hb d_Card_opens_9 (by decide) (fun q1 => ?_) (fun q1 => ?_)
  · skip
    refine lv_iconst (v := 0) hx hb d_Card_opens_16 (by decide) ?_
    exact rd_zret hx hb hr hlocks (by first | contradiction | (simp [xop, q1]; done)) (by first | exact Or.inl rfl | exact Or.inr rfl | assumption | exact smI_01 _ _ _ _ _ _ | exact xtl_01 _ _ _ _ _ _ | exact bI_01 _) d_Card_opens_17
  · skip
    refine lv_iconst (v := 1) hx hb d_Card_opens_12 (by decide) ?_
    refine lv_goto (tgt := 17) hx hb d_Card_opens_13 (by decide) ?_
    exact rd_zret hx hb hr hlocks (by first | contradiction | (simp [xop, q1]; done)) (by first | exact Or.inl rfl | exact Or.inr rfl | assumption | exact smI_01 _ _ _ _ _ _ | exact xtl_01 _ _ _ _ _ _ | exact bI_01 _) d_Card_opens_17
set_option maxHeartbeats 4000000 in
set_option maxRecDepth 100000 in
theorem c_AL_size (l : Launch) (g : GG) (M : MW) (al ed : Nat) (n mo : Int32) (sz : Nat) (hA : M al = some (.inr (0, [.ref ed, .int n, .int mo]))) : Met l y_AL_size (k_AL_size :: TT) { frames := 0, cells := 0, slots := 0, locals := 0 } (Pm g [.ref al] sz (M)) (Qrd (some (.int n))) 0 0 (nofree) := by
  refine met_of (by decide) (Nat.le_of_ble_eq_true rfl) ?_
  intro pr en s mi below meth co hx hb hr hml hown hlocks hnm hT hsz hP hK ls hl
  have hl : lv_has ls 1 [(0, .ref al)] := hl
  refine lv_aload_n hx hb d_AL_size_0 rfl (lv_at hl 0 rfl) ?_
  refine m_get (ci := 0) (v := .int n) hx hb hT in_AL hown hK hP (hA) rfl 1 (by decide) (hT _ w46) (fun _ h9 => h9) rfl d_AL_size_1 ?_
  exact rd_iret hx hb hr hlocks (rfl) d_AL_size_4
set_option maxHeartbeats 4000000 in
set_option maxRecDepth 100000 in
theorem c_Pre_checkIndex (l : Launch) (g : GG) (M : MW) (i n : Nat) (sz : Nat) (hi : i < n) (hn : n < 2 ^ 31) : Met l y_Pre_checkIndex (k_Pre_checkIndex :: TT) { frames := 0, cells := 0, slots := 0, locals := 0 } (Pm g [.int (nI i), .int (nI n), .null] sz (M)) (Qrd (some (.int (nI i)))) 0 0 (nofree) := by
  refine met_of (by decide) (Nat.le_of_ble_eq_true rfl) ?_
  intro pr en s mi below meth co hx hb hr hml hown hlocks hnm hT hsz hP hK ls hl
  have hl : lv_has ls 3 [(0, .int (nI i)), (1, .int (nI n)), (2, .null)] := hl
  refine lv_iload_n hx hb d_Pre_checkIndex_0 rfl (lv_at hl 0 rfl) ?_
  refine lv_if_lt (tgt := 9) hx hb d_Pre_checkIndex_1 (by decide) (fun hc => absurd hc (nI_pos (by omega))) (fun _ => ?_)
  refine lv_iload_n hx hb d_Pre_checkIndex_4 rfl (lv_at hl 0 rfl) ?_
  refine lv_iload_n hx hb d_Pre_checkIndex_5 rfl (lv_at hl 1 rfl) ?_
  refine lv_icmp_lt (tgt := 16) hx hb d_Pre_checkIndex_6 (by decide) (fun _ => ?_) (fun hc => absurd (nI_lt hi hn) hc)
  refine lv_iload_n hx hb d_Pre_checkIndex_16 rfl (lv_at hl 0 rfl) ?_
  exact rd_iret hx hb hr hlocks (rfl) d_Pre_checkIndex_17
set_option maxHeartbeats 4000000 in
set_option maxRecDepth 100000 in
theorem c_Objs_checkIndex (l : Launch) (g : GG) (M : MW) (i n : Nat) (sz : Nat) (hi : i < n) (hn : n < 2 ^ 31) : Met l y_Objs_checkIndex (k_Objs_checkIndex :: TT) { frames := 1, cells := 0, slots := 0, locals := 22 } (Pm g [.int (nI i), .int (nI n)] sz (M)) (Qrd (some (.int (nI i)))) 0 0 (nofree) := by
  refine met_of (by decide) (Nat.le_of_ble_eq_true rfl) ?_
  intro pr en s mi below meth co hx hb hr hml hown hlocks hnm hT hsz hP hK ls hl
  have hl : lv_has ls 2 [(0, .int (nI i)), (1, .int (nI n))] := hl
  refine lv_iload_n hx hb d_Objs_checkIndex_0 rfl (lv_at hl 0 rfl) ?_
  refine lv_iload_n hx hb d_Objs_checkIndex_1 rfl (lv_at hl 1 rfl) ?_
  refine lv_null hx hb d_Objs_checkIndex_2 ?_
  refine rd_run (c_S (As := [.int (nI i), .int (nI n), .null]) (rest := []) hx hb hml hl.1 hown hT hK hP (c_Pre_checkIndex l g M i n s.heap.size hi hn) kw_Pre_checkIndex w356 w357 w20 hd_Pre_checkIndex rfl rfl ⟨by decide, by decide⟩ rfl rfl (Nat.le_of_ble_eq_true rfl) d_Objs_checkIndex_3 ⟨by decide, by decide⟩) rfl ?_
  exact rd_iret hx hb hr hlocks (rfl) d_Objs_checkIndex_6
set_option maxHeartbeats 4000000 in
set_option maxRecDepth 100000 in
theorem c_AL_elementData (l : Launch) (g : GG) (M : MW) (al ed n len i r : Nat) (mo : Int32) (f : Nat → Option Nat) (sz : Nat) (hA : M al = some (.inr (0, [.ref ed, .int (nI n), .int mo]))) (hE : M ed = some (.inl (g.2 5, len, .inr (.inr (.inr (.inr f)))))) (hi : i < n) (hnl : n ≤ len) (hl2 : len < 2 ^ 31) (hf : f i = some r) : Met l y_AL_elementData (k_AL_elementData :: TT) { frames := 0, cells := 0, slots := 0, locals := 0 } (Pm g [.ref al, .int (nI i)] sz (M)) (Qrd (some (.ref r))) 0 0 (nofree) := by
  refine met_of (by decide) (Nat.le_of_ble_eq_true rfl) ?_
  intro pr en s mi below meth co hx hb hr hml hown hlocks hnm hT hsz hP hK ls hl
  have hl : lv_has ls 2 [(0, .ref al), (1, .int (nI i))] := hl
  refine lv_aload_n hx hb d_AL_elementData_0 rfl (lv_at hl 0 rfl) ?_
  refine m_get (ci := 0) (v := .ref ed) hx hb hT in_AL hown hK hP (hA) rfl 0 (by decide) (hT _ w45) (fun _ h9 => h9) rfl d_AL_elementData_1 ?_
  refine lv_iload_n hx hb d_AL_elementData_4 rfl (lv_at hl 1 rfl) ?_
  refine m_aald hx hb hK hP 5 (hE) rfl (j := i) (rfl) (by omega) (hl2) (v := .ref r) (by rw [hf]; rfl) d_AL_elementData_5 ?_
  exact rd_aret hx hb hr (Or.inl ⟨_, rfl⟩) hlocks (rfl) d_AL_elementData_6
set_option maxHeartbeats 4000000 in
set_option maxRecDepth 100000 in
theorem c_AL_get (l : Launch) (g : GG) (M : MW) (al ed n len i r : Nat) (mo : Int32) (f : Nat → Option Nat) (sz : Nat) (hA : M al = some (.inr (0, [.ref ed, .int (nI n), .int mo]))) (hE : M ed = some (.inl (g.2 5, len, .inr (.inr (.inr (.inr f)))))) (hi : i < n) (hnl : n ≤ len) (hl2 : len < 2 ^ 31) (hf : f i = some r) : Met l y_AL_get (k_AL_get :: TT) { frames := 2, cells := 0, slots := 0, locals := 43 } (Pm g [.ref al, .int (nI i)] sz (M)) (Qrd (some (.ref r))) 0 0 (nofree) := by
  refine met_of (by decide) (Nat.le_of_ble_eq_true rfl) ?_
  intro pr en s mi below meth co hx hb hr hml hown hlocks hnm hT hsz hP hK ls hl
  have hl : lv_has ls 2 [(0, .ref al), (1, .int (nI i))] := hl
  refine lv_iload_n hx hb d_AL_get_0 rfl (lv_at hl 1 rfl) ?_
  refine lv_aload_n hx hb d_AL_get_1 rfl (lv_at hl 0 rfl) ?_
  refine m_get (ci := 0) (v := .int (nI n)) hx hb hT in_AL hown hK hP (hA) rfl 1 (by decide) (hT _ w46) (fun _ h9 => h9) rfl d_AL_get_2 ?_
  refine rd_run (c_S (As := [.int (nI i), .int (nI n)]) (rest := []) hx hb hml hl.1 hown hT hK hP (c_Objs_checkIndex l g M i n s.heap.size hi (by omega)) kw_Objs_checkIndex w353 w354 w19 hd_Objs_checkIndex rfl rfl ⟨by decide, by decide⟩ rfl rfl (Nat.le_of_ble_eq_true rfl) d_AL_get_5 ⟨by decide, by decide⟩) rfl ?_
  refine lv_pop hx hb d_AL_get_8 rfl ?_
  refine lv_aload_n hx hb d_AL_get_9 rfl (lv_at hl 0 rfl) ?_
  refine lv_iload_n hx hb d_AL_get_10 rfl (lv_at hl 1 rfl) ?_
  refine rd_run (c_V (As := [.int (nI i)]) (rest := []) hx hb hml hl.1 hown hT hK hP (c_AL_elementData l g M al ed n len i r mo f s.heap.size hA hE hi hnl hl2 hf) kw_AL_elementData w359 w360 w361 w4 hd_AL_elementData rfl rfl ⟨by decide, by decide⟩ (hA) rfl rfl rfl (Nat.le_of_ble_eq_true rfl) d_AL_get_11 ⟨by decide, by decide⟩) rfl ?_
  exact rd_aret hx hb hr (Or.inl ⟨_, rfl⟩) hlocks (rfl) d_AL_get_14
def mxJ (x y : Int32) : Int32 := if x < y then y else x
def mnJ (x y : Int32) : Int32 := if y < x then y else x
