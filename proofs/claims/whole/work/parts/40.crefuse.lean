/-! The class: the public methods, refused calls. -/
theorem sw_out {w k : Int32} {n : Int} (hk : k.toInt = n) (h : w < 0 ∨ ¬ w ≤ k) : w.toInt < 0 ∨ n < w.toInt := by
  rcases h with h | h
  · exact Or.inl (Int32.lt_iff_toInt_lt.mp h)
  · exact Or.inr (by rw [← hk]; exact Int32.lt_iff_toInt_lt.mp (Int32.not_le.mp h))
set_option maxHeartbeats 4000000 in
set_option maxRecDepth 100000 in
theorem c_H_cardAt_b (l : Launch) (hlf : l.stackTraces = false) (g : GG) (M : MW) (α : AL3) (ν : Nat → Nat) (χ : SG) (x : Int32) (sz : Nat) (hW : HW g α ν χ M) (hx0 : xic ν x = 0) : vx_Met l y_H_cardAt (k_H_cardAt :: TT) { frames := 6, cells := 1, slots := 6, locals := 100 } (Pz g [.ref (α 0 0 0), .int x] sz M) QF (XE "java/lang/IndexOutOfBoundsException") 1 6 nofree := by
  refine vmet_of (by decide) (Nat.le_of_ble_eq_true rfl) ?_
  intro pr en s mi below meth co hx hb hr hml hown hlocks hnm hT hsz hP hK hZ htab ls hl
  have hl : lv_has ls 2 [(0, .ref (α 0 0 0)), (1, .int x)] := hl
  refine lv_aload_n hx hb d_H_cardAt_0 rfl (lv_at hl 0 rfl) ?_
  refine lv_iload_n hx hb d_H_cardAt_1 rfl (lv_at hl 1 rfl) ?_
  refine rd_run (c_V (As := [.int x]) (rest := []) hx hb hml hl.1 hown hT hK hP (c_H_isCard l g _ α ν χ x _ hW) kw_H_isCard w329 w331 selp_H_isCard w1 hd_H_isCard rfl rfl ⟨by decide, by decide⟩ (hw_00 hW) rfl rfl rfl (Nat.le_of_ble_eq_true rfl) d_H_cardAt_2 ⟨by decide, by decide⟩) rfl ?_
  refine lv_if_ne (tgt := 18) hx hb d_H_cardAt_5 (by decide) (fun hq9 => absurd (hx0) hq9) (fun _ => ?_)
  exact x_throw hlf hx hb hml hl.1 hown hlocks htab hT hK hZ (by decide) w333 w18 st207 hatI_g hatI_n hatI_o d_H_cardAt_8 d_H_cardAt_11 d_H_cardAt_12 d_H_cardAt_14 d_H_cardAt_17 (by decide) (Nat.le_of_ble_eq_true rfl) (by decide) (by decide) (by decide) (by decide)
set_option maxHeartbeats 4000000 in
set_option maxRecDepth 100000 in
theorem c_H_doorAt_b (l : Launch) (hlf : l.stackTraces = false) (g : GG) (M : MW) (α : AL3) (ν : Nat → Nat) (χ : SG) (x : Int32) (sz : Nat) (hW : HW g α ν χ M) (hx0 : xid x = 0) : vx_Met l y_H_doorAt (k_H_doorAt :: TT) { frames := 6, cells := 1, slots := 6, locals := 100 } (Pz g [.ref (α 0 0 0), .int x] sz M) QF (XE "java/lang/IndexOutOfBoundsException") 1 6 nofree := by
  refine vmet_of (by decide) (Nat.le_of_ble_eq_true rfl) ?_
  intro pr en s mi below meth co hx hb hr hml hown hlocks hnm hT hsz hP hK hZ htab ls hl
  have hl : lv_has ls 2 [(0, .ref (α 0 0 0)), (1, .int x)] := hl
  refine lv_aload_n hx hb d_H_doorAt_0 rfl (lv_at hl 0 rfl) ?_
  refine lv_iload_n hx hb d_H_doorAt_1 rfl (lv_at hl 1 rfl) ?_
  refine rd_run (c_V (As := [.int x]) (rest := []) hx hb hml hl.1 hown hT hK hP (c_H_isDoor l g _ α ν χ x _ hW) kw_H_isDoor w453 w455 selp_H_isDoor w1 hd_H_isDoor rfl rfl ⟨by decide, by decide⟩ (hw_00 hW) rfl rfl rfl (Nat.le_of_ble_eq_true rfl) d_H_doorAt_2 ⟨by decide, by decide⟩) rfl ?_
  refine lv_if_ne (tgt := 18) hx hb d_H_doorAt_5 (by decide) (fun hq9 => absurd (hx0) hq9) (fun _ => ?_)
  exact x_throw hlf hx hb hml hl.1 hown hlocks htab hT hK hZ (by decide) w333 w18 st209 hatI_g hatI_n hatI_o d_H_doorAt_8 d_H_doorAt_11 d_H_doorAt_12 d_H_doorAt_14 d_H_doorAt_17 (by decide) (Nat.le_of_ble_eq_true rfl) (by decide) (by decide) (by decide) (by decide)
set_option maxHeartbeats 4000000 in
set_option maxRecDepth 100000 in
theorem c_H_revoke_b (l : Launch) (hlf : l.stackTraces = false) (g : GG) (M : MW) (α : AL3) (ν : Nat → Nat) (χ : SG) (x : Int32) (sz : Nat) (hW : HW g α ν χ M) (hx0 : xic ν x = 0) : vx_Met l y_H_revoke (k_H_revoke :: TT) { frames := 8, cells := 1, slots := 6, locals := 199 } (Pz g [.ref (α 0 0 0), .int x] sz M) QF (XE "java/lang/IndexOutOfBoundsException") 1 6 nofree := by
  refine vmet_of (by decide) (Nat.le_of_ble_eq_true rfl) ?_
  intro pr en s mi below meth co hx hb hr hml hown hlocks hnm hT hsz hP hK hZ htab ls hl
  have hl : lv_has ls 3 [(0, .ref (α 0 0 0)), (1, .int x)] := hl
  refine lv_aload_n hx hb d_H_revoke_0 rfl (lv_at hl 0 rfl) ?_
  refine lv_iload_n hx hb d_H_revoke_1 rfl (lv_at hl 1 rfl) ?_
  exact x_out htab hlocks (cx_V (As := [.int x]) (rest := []) hx hb hml hl.1 hown hT hK hP hZ (c_H_cardAt_b l hlf g _ α ν χ x _ hW hx0) kw_H_cardAt w325 w327 selp_H_cardAt w1 hd_H_cardAt rfl rfl ⟨by decide, by decide⟩ (hw_00 hW) rfl rfl rfl (Nat.le_of_ble_eq_true rfl) d_H_revoke_2 ⟨by decide, by decide⟩)
set_option maxHeartbeats 4000000 in
set_option maxRecDepth 100000 in
theorem c_H_gate_b (l : Launch) (hlf : l.stackTraces = false) (g : GG) (M : MW) (α : AL3) (ν : Nat → Nat) (χ : SG) (x : Int32) (sz : Nat) (hW : HW g α ν χ M) (hx0 : xic ν x = 0) : vx_Met l y_H_gate (k_H_gate :: TT) { frames := 7, cells := 1, slots := 6, locals := 121 } (Pz g [.ref (α 0 0 0), .int x] sz M) QF (XE "java/lang/IndexOutOfBoundsException") 1 6 nofree := by
  refine vmet_of (by decide) (Nat.le_of_ble_eq_true rfl) ?_
  intro pr en s mi below meth co hx hb hr hml hown hlocks hnm hT hsz hP hK hZ htab ls hl
  have hl : lv_has ls 6 [(0, .ref (α 0 0 0)), (1, .int x)] := hl
  refine lv_aload_n hx hb d_H_gate_0 rfl (lv_at hl 0 rfl) ?_
  refine lv_iload_n hx hb d_H_gate_1 rfl (lv_at hl 1 rfl) ?_
  exact x_out htab hlocks (cx_V (As := [.int x]) (rest := []) hx hb hml hl.1 hown hT hK hP hZ (c_H_cardAt_b l hlf g _ α ν χ x _ hW hx0) kw_H_cardAt w325 w327 selp_H_cardAt w1 hd_H_cardAt rfl rfl ⟨by decide, by decide⟩ (hw_00 hW) rfl rfl rfl (Nat.le_of_ble_eq_true rfl) d_H_gate_2 ⟨by decide, by decide⟩)
set_option maxHeartbeats 4000000 in
set_option maxRecDepth 100000 in
theorem c_H_tear_b (l : Launch) (hlf : l.stackTraces = false) (g : GG) (M : MW) (α : AL3) (ν : Nat → Nat) (χ : SG) (x k : Int32) (sz : Nat) (hW : HW g α ν χ M) (hx0 : xic ν x = 0) : vx_Met l y_H_tear (k_H_tear :: TT) { frames := 7, cells := 1, slots := 6, locals := 121 } (Pz g [.ref (α 0 0 0), .int x, .int k] sz M) QF (XE "java/lang/IndexOutOfBoundsException") 1 6 nofree := by
  refine vmet_of (by decide) (Nat.le_of_ble_eq_true rfl) ?_
  intro pr en s mi below meth co hx hb hr hml hown hlocks hnm hT hsz hP hK hZ htab ls hl
  have hl : lv_has ls 4 [(0, .ref (α 0 0 0)), (1, .int x), (2, .int k)] := hl
  refine lv_aload_n hx hb d_H_tear_0 rfl (lv_at hl 0 rfl) ?_
  refine lv_iload_n hx hb d_H_tear_1 rfl (lv_at hl 1 rfl) ?_
  exact x_out htab hlocks (cx_V (As := [.int x]) (rest := []) hx hb hml hl.1 hown hT hK hP hZ (c_H_cardAt_b l hlf g _ α ν χ x _ hW hx0) kw_H_cardAt w325 w327 selp_H_cardAt w1 hd_H_cardAt rfl rfl ⟨by decide, by decide⟩ (hw_00 hW) rfl rfl rfl (Nat.le_of_ble_eq_true rfl) d_H_tear_2 ⟨by decide, by decide⟩)
set_option maxHeartbeats 4000000 in
set_option maxRecDepth 100000 in
theorem c_H_written_b (l : Launch) (hlf : l.stackTraces = false) (g : GG) (M : MW) (α : AL3) (ν : Nat → Nat) (χ : SG) (x : Int32) (sz : Nat) (hW : HW g α ν χ M) (hx0 : xic ν x = 0) : vx_Met l y_H_written (k_H_written :: TT) { frames := 7, cells := 1, slots := 6, locals := 121 } (Pz g [.ref (α 0 0 0), .int x] sz M) QF (XE "java/lang/IndexOutOfBoundsException") 1 6 nofree := by
  refine vmet_of (by decide) (Nat.le_of_ble_eq_true rfl) ?_
  intro pr en s mi below meth co hx hb hr hml hown hlocks hnm hT hsz hP hK hZ htab ls hl
  have hl : lv_has ls 2 [(0, .ref (α 0 0 0)), (1, .int x)] := hl
  refine lv_aload_n hx hb d_H_written_0 rfl (lv_at hl 0 rfl) ?_
  refine lv_iload_n hx hb d_H_written_1 rfl (lv_at hl 1 rfl) ?_
  exact x_out htab hlocks (cx_V (As := [.int x]) (rest := []) hx hb hml hl.1 hown hT hK hP hZ (c_H_cardAt_b l hlf g _ α ν χ x _ hW hx0) kw_H_cardAt w325 w327 selp_H_cardAt w1 hd_H_cardAt rfl rfl ⟨by decide, by decide⟩ (hw_00 hW) rfl rfl rfl (Nat.le_of_ble_eq_true rfl) d_H_written_2 ⟨by decide, by decide⟩)
set_option maxHeartbeats 4000000 in
set_option maxRecDepth 100000 in
theorem c_H_word_b (l : Launch) (hlf : l.stackTraces = false) (g : GG) (M : MW) (α : AL3) (ν : Nat → Nat) (χ : SG) (x y i : Int32) (sz : Nat) (hW : HW g α ν χ M) (hx0 : xic ν x = 0) : vx_Met l y_H_word (k_H_word :: TT) { frames := 7, cells := 1, slots := 6, locals := 121 } (Pz g [.ref (α 0 0 0), .int x, .int y, .int i] sz M) QF (XE "java/lang/IndexOutOfBoundsException") 1 6 nofree := by
  refine vmet_of (by decide) (Nat.le_of_ble_eq_true rfl) ?_
  intro pr en s mi below meth co hx hb hr hml hown hlocks hnm hT hsz hP hK hZ htab ls hl
  have hl : lv_has ls 5 [(0, .ref (α 0 0 0)), (1, .int x), (2, .int y), (3, .int i)] := hl
  refine lv_aload_n hx hb d_H_word_0 rfl (lv_at hl 0 rfl) ?_
  refine lv_iload_n hx hb d_H_word_1 rfl (lv_at hl 1 rfl) ?_
  exact x_out htab hlocks (cx_V (As := [.int x]) (rest := []) hx hb hml hl.1 hown hT hK hP hZ (c_H_cardAt_b l hlf g _ α ν χ x _ hW hx0) kw_H_cardAt w325 w327 selp_H_cardAt w1 hd_H_cardAt rfl rfl ⟨by decide, by decide⟩ (hw_00 hW) rfl rfl rfl (Nat.le_of_ble_eq_true rfl) d_H_word_2 ⟨by decide, by decide⟩)
set_option maxHeartbeats 4000000 in
set_option maxRecDepth 100000 in
theorem c_H_carries_b (l : Launch) (hlf : l.stackTraces = false) (g : GG) (M : MW) (α : AL3) (ν : Nat → Nat) (χ : SG) (x w : Int32) (sz : Nat) (hW : HW g α ν χ M) (hx0 : xic ν x = 0) : vx_Met l y_H_carries (k_H_carries :: TT) { frames := 7, cells := 1, slots := 6, locals := 121 } (Pz g [.ref (α 0 0 0), .int x, .int w] sz M) QF (XE "java/lang/IndexOutOfBoundsException") 1 6 nofree := by
  refine vmet_of (by decide) (Nat.le_of_ble_eq_true rfl) ?_
  intro pr en s mi below meth co hx hb hr hml hown hlocks hnm hT hsz hP hK hZ htab ls hl
  have hl : lv_has ls 4 [(0, .ref (α 0 0 0)), (1, .int x), (2, .int w)] := hl
  refine lv_aload_n hx hb d_H_carries_0 rfl (lv_at hl 0 rfl) ?_
  refine lv_iload_n hx hb d_H_carries_1 rfl (lv_at hl 1 rfl) ?_
  exact x_out htab hlocks (cx_V (As := [.int x]) (rest := []) hx hb hml hl.1 hown hT hK hP hZ (c_H_cardAt_b l hlf g _ α ν χ x _ hW hx0) kw_H_cardAt w325 w327 selp_H_cardAt w1 hd_H_cardAt rfl rfl ⟨by decide, by decide⟩ (hw_00 hW) rfl rfl rfl (Nat.le_of_ble_eq_true rfl) d_H_carries_2 ⟨by decide, by decide⟩)
set_option maxHeartbeats 4000000 in
set_option maxRecDepth 100000 in
theorem c_H_memory_b (l : Launch) (hlf : l.stackTraces = false) (g : GG) (M : MW) (α : AL3) (ν : Nat → Nat) (χ : SG) (x i : Int32) (sz : Nat) (hW : HW g α ν χ M) (hx0 : xic ν x = 0) : vx_Met l y_H_memory (k_H_memory :: TT) { frames := 7, cells := 1, slots := 6, locals := 121 } (Pz g [.ref (α 0 0 0), .int x, .int i] sz M) QF (XE "java/lang/IndexOutOfBoundsException") 1 6 nofree := by
  refine vmet_of (by decide) (Nat.le_of_ble_eq_true rfl) ?_
  intro pr en s mi below meth co hx hb hr hml hown hlocks hnm hT hsz hP hK hZ htab ls hl
  have hl : lv_has ls 4 [(0, .ref (α 0 0 0)), (1, .int x), (2, .int i)] := hl
  refine lv_aload_n hx hb d_H_memory_0 rfl (lv_at hl 0 rfl) ?_
  refine lv_iload_n hx hb d_H_memory_1 rfl (lv_at hl 1 rfl) ?_
  exact x_out htab hlocks (cx_V (As := [.int x]) (rest := []) hx hb hml hl.1 hown hT hK hP hZ (c_H_cardAt_b l hlf g _ α ν χ x _ hW hx0) kw_H_cardAt w325 w327 selp_H_cardAt w1 hd_H_cardAt rfl rfl ⟨by decide, by decide⟩ (hw_00 hW) rfl rfl rfl (Nat.le_of_ble_eq_true rfl) d_H_memory_2 ⟨by decide, by decide⟩)
set_option maxHeartbeats 4000000 in
set_option maxRecDepth 100000 in
theorem c_H_show_b (l : Launch) (hlf : l.stackTraces = false) (g : GG) (M : MW) (α : AL3) (ν : Nat → Nat) (χ : SG) (x y day : Int32) (sz : Nat) (hW : HW g α ν χ M) (hx0 : xic ν x = 0) : vx_Met l y_H_show (k_H_show :: TT) { frames := 7, cells := 1, slots := 6, locals := 161 } (Pz g [.ref (α 0 0 0), .int x, .int y, .int day] sz M) QF (XE "java/lang/IndexOutOfBoundsException") 1 6 nofree := by
  refine vmet_of (by decide) (Nat.le_of_ble_eq_true rfl) ?_
  intro pr en s mi below meth co hx hb hr hml hown hlocks hnm hT hsz hP hK hZ htab ls hl
  have hl : lv_has ls 6 [(0, .ref (α 0 0 0)), (1, .int x), (2, .int y), (3, .int day)] := hl
  refine lv_aload_n hx hb d_H_show_0 rfl (lv_at hl 0 rfl) ?_
  refine lv_iload_n hx hb d_H_show_1 rfl (lv_at hl 1 rfl) ?_
  exact x_out htab hlocks (cx_V (As := [.int x]) (rest := []) hx hb hml hl.1 hown hT hK hP hZ (c_H_cardAt_b l hlf g _ α ν χ x _ hW hx0) kw_H_cardAt w325 w327 selp_H_cardAt w1 hd_H_cardAt rfl rfl ⟨by decide, by decide⟩ (hw_00 hW) rfl rfl rfl (Nat.le_of_ble_eq_true rfl) d_H_show_2 ⟨by decide, by decide⟩)
set_option maxHeartbeats 4000000 in
set_option maxRecDepth 100000 in
theorem c_H_zoneOf_b (l : Launch) (hlf : l.stackTraces = false) (g : GG) (M : MW) (α : AL3) (ν : Nat → Nat) (χ : SG) (x z : Int32) (sz : Nat) (hW : HW g α ν χ M) (hx0 : xid x = 0) : vx_Met l y_H_zoneOf (k_H_zoneOf :: TT) { frames := 7, cells := 1, slots := 6, locals := 121 } (Pz g [.ref (α 0 0 0), .int x, .int z] sz M) QF (XE "java/lang/IndexOutOfBoundsException") 1 6 nofree := by
  refine vmet_of (by decide) (Nat.le_of_ble_eq_true rfl) ?_
  intro pr en s mi below meth co hx hb hr hml hown hlocks hnm hT hsz hP hK hZ htab ls hl
  have hl : lv_has ls 4 [(0, .ref (α 0 0 0)), (1, .int x), (2, .int z)] := hl
  refine lv_aload_n hx hb d_H_zoneOf_0 rfl (lv_at hl 0 rfl) ?_
  refine lv_iload_n hx hb d_H_zoneOf_1 rfl (lv_at hl 1 rfl) ?_
  exact x_out htab hlocks (cx_V (As := [.int x]) (rest := []) hx hb hml hl.1 hown hT hK hP hZ (c_H_doorAt_b l hlf g _ α ν χ x _ hW hx0) kw_H_doorAt w449 w451 selp_H_doorAt w1 hd_H_doorAt rfl rfl ⟨by decide, by decide⟩ (hw_00 hW) rfl rfl rfl (Nat.le_of_ble_eq_true rfl) d_H_zoneOf_2 ⟨by decide, by decide⟩)
set_option maxHeartbeats 4000000 in
set_option maxRecDepth 100000 in
theorem c_H_about_b (l : Launch) (hlf : l.stackTraces = false) (g : GG) (M : MW) (α : AL3) (ν : Nat → Nat) (χ : SG) (x w : Int32) (sz : Nat) (hW : HW g α ν χ M) (hx0 : xid x = 0) : vx_Met l y_H_about (k_H_about :: TT) { frames := 7, cells := 1, slots := 6, locals := 153 } (Pz g [.ref (α 0 0 0), .int x, .int w] sz M) QF (XE "java/lang/IndexOutOfBoundsException") 1 6 nofree := by
  refine vmet_of (by decide) (Nat.le_of_ble_eq_true rfl) ?_
  intro pr en s mi below meth co hx hb hr hml hown hlocks hnm hT hsz hP hK hZ htab ls hl
  have hl : lv_has ls 4 [(0, .ref (α 0 0 0)), (1, .int x), (2, .int w)] := hl
  refine lv_aload_n hx hb d_H_about_0 rfl (lv_at hl 0 rfl) ?_
  refine lv_iload_n hx hb d_H_about_1 rfl (lv_at hl 1 rfl) ?_
  exact x_out htab hlocks (cx_V (As := [.int x]) (rest := []) hx hb hml hl.1 hown hT hK hP hZ (c_H_doorAt_b l hlf g _ α ν χ x _ hW hx0) kw_H_doorAt w449 w451 selp_H_doorAt w1 hd_H_doorAt rfl rfl ⟨by decide, by decide⟩ (hw_00 hW) rfl rfl rfl (Nat.le_of_ble_eq_true rfl) d_H_about_2 ⟨by decide, by decide⟩)
set_option maxHeartbeats 4000000 in
set_option maxRecDepth 100000 in
theorem c_H_run_b (l : Launch) (hlf : l.stackTraces = false) (g : GG) (M : MW) (α : AL3) (ν : Nat → Nat) (χ : SG) (x i b : Int32) (sz : Nat) (hW : HW g α ν χ M) (hx0 : xid x = 0) : vx_Met l y_H_run (k_H_run :: TT) { frames := 7, cells := 1, slots := 6, locals := 154 } (Pz g [.ref (α 0 0 0), .int x, .int i, .int b] sz M) QF (XE "java/lang/IndexOutOfBoundsException") 1 6 nofree := by
  refine vmet_of (by decide) (Nat.le_of_ble_eq_true rfl) ?_
  intro pr en s mi below meth co hx hb hr hml hown hlocks hnm hT hsz hP hK hZ htab ls hl
  have hl : lv_has ls 6 [(0, .ref (α 0 0 0)), (1, .int x), (2, .int i), (3, .int b)] := hl
  refine lv_aload_n hx hb d_H_run_0 rfl (lv_at hl 0 rfl) ?_
  refine lv_iload_n hx hb d_H_run_1 rfl (lv_at hl 1 rfl) ?_
  exact x_out htab hlocks (cx_V (As := [.int x]) (rest := []) hx hb hml hl.1 hown hT hK hP hZ (c_H_doorAt_b l hlf g _ α ν χ x _ hW hx0) kw_H_doorAt w449 w451 selp_H_doorAt w1 hd_H_doorAt rfl rfl ⟨by decide, by decide⟩ (hw_00 hW) rfl rfl rfl (Nat.le_of_ble_eq_true rfl) d_H_run_2 ⟨by decide, by decide⟩)
set_option maxHeartbeats 4000000 in
set_option maxRecDepth 100000 in
theorem c_H_refuses_b (l : Launch) (hlf : l.stackTraces = false) (g : GG) (M : MW) (α : AL3) (ν : Nat → Nat) (χ : SG) (x y : Int32) (sz : Nat) (hW : HW g α ν χ M) (hx0 : xid x = 0) : vx_Met l y_H_refuses (k_H_refuses :: TT) { frames := 7, cells := 1, slots := 6, locals := 121 } (Pz g [.ref (α 0 0 0), .int x, .int y] sz M) QF (XE "java/lang/IndexOutOfBoundsException") 1 6 nofree := by
  refine vmet_of (by decide) (Nat.le_of_ble_eq_true rfl) ?_
  intro pr en s mi below meth co hx hb hr hml hown hlocks hnm hT hsz hP hK hZ htab ls hl
  have hl : lv_has ls 4 [(0, .ref (α 0 0 0)), (1, .int x), (2, .int y)] := hl
  refine lv_aload_n hx hb d_H_refuses_0 rfl (lv_at hl 0 rfl) ?_
  refine lv_iload_n hx hb d_H_refuses_1 rfl (lv_at hl 1 rfl) ?_
  exact x_out htab hlocks (cx_V (As := [.int x]) (rest := []) hx hb hml hl.1 hown hT hK hP hZ (c_H_doorAt_b l hlf g _ α ν χ x _ hW hx0) kw_H_doorAt w449 w451 selp_H_doorAt w1 hd_H_doorAt rfl rfl ⟨by decide, by decide⟩ (hw_00 hW) rfl rfl rfl (Nat.le_of_ble_eq_true rfl) d_H_refuses_2 ⟨by decide, by decide⟩)
set_option maxHeartbeats 4000000 in
set_option maxRecDepth 100000 in
theorem c_H_loseBattery_b (l : Launch) (hlf : l.stackTraces = false) (g : GG) (M : MW) (α : AL3) (ν : Nat → Nat) (χ : SG) (x : Int32) (sz : Nat) (hW : HW g α ν χ M) (hx0 : xid x = 0) : vx_Met l y_H_loseBattery (k_H_loseBattery :: TT) { frames := 7, cells := 1, slots := 6, locals := 121 } (Pz g [.ref (α 0 0 0), .int x] sz M) QF (XE "java/lang/IndexOutOfBoundsException") 1 6 nofree := by
  refine vmet_of (by decide) (Nat.le_of_ble_eq_true rfl) ?_
  intro pr en s mi below meth co hx hb hr hml hown hlocks hnm hT hsz hP hK hZ htab ls hl
  have hl : lv_has ls 2 [(0, .ref (α 0 0 0)), (1, .int x)] := hl
  refine lv_aload_n hx hb d_H_loseBattery_0 rfl (lv_at hl 0 rfl) ?_
  refine lv_iload_n hx hb d_H_loseBattery_1 rfl (lv_at hl 1 rfl) ?_
  exact x_out htab hlocks (cx_V (As := [.int x]) (rest := []) hx hb hml hl.1 hown hT hK hP hZ (c_H_doorAt_b l hlf g _ α ν χ x _ hW hx0) kw_H_doorAt w449 w451 selp_H_doorAt w1 hd_H_doorAt rfl rfl ⟨by decide, by decide⟩ (hw_00 hW) rfl rfl rfl (Nat.le_of_ble_eq_true rfl) d_H_loseBattery_2 ⟨by decide, by decide⟩)
set_option maxHeartbeats 4000000 in
set_option maxRecDepth 100000 in
theorem c_H_show_d (l : Launch) (hlf : l.stackTraces = false) (g : GG) (M : MW) (α : AL3) (ν : Nat → Nat) (χ : SG) (c : Nat) (x day : Int32) (sz : Nat) (hW : HW g α ν χ M) (hN : nOK ν) (hc : c < ν 0) (hx0 : xid x = 0) : vx_Met l y_H_show (k_H_show :: TT) { frames := 7, cells := 1, slots := 6, locals := 161 } (Pz g [.ref (α 0 0 0), .int (nI c), .int x, .int day] sz M) QF (XE "java/lang/IndexOutOfBoundsException") 1 6 nofree := by
  refine vmet_of (by decide) (Nat.le_of_ble_eq_true rfl) ?_
  intro pr en s mi below meth co hx hb hr hml hown hlocks hnm hT hsz hP hK hZ htab ls hl
  have hl : lv_has ls 6 [(0, .ref (α 0 0 0)), (1, .int (nI c)), (2, .int x), (3, .int day)] := hl
  refine lv_aload_n hx hb d_H_show_0 rfl (lv_at hl 0 rfl) ?_
  refine lv_iload_n hx hb d_H_show_1 rfl (lv_at hl 1 rfl) ?_
  refine rd_run (c_V (As := [.int (nI c)]) (rest := []) hx hb hml hl.1 hown hT hK hP (c_H_cardAt l g _ α ν χ c _ hW hN hc) kw_H_cardAt w325 w327 selp_H_cardAt w1 hd_H_cardAt rfl rfl ⟨by decide, by decide⟩ (hw_00 hW) rfl rfl rfl (Nat.le_of_ble_eq_true rfl) d_H_show_2 ⟨by decide, by decide⟩) rfl ?_
  refine lv_astore (lv' := [(4, .ref (α 1 c 0)), (0, .ref (α 0 0 0)), (1, .int (nI c)), (2, .int x), (3, .int day)]) hx hb d_H_show_5 hl (by decide) rfl (fun ls hl => ?_)
  refine lv_aload_n hx hb d_H_show_7 rfl (lv_at hl 1 rfl) ?_
  refine lv_iload_n hx hb d_H_show_8 rfl (lv_at hl 3 rfl) ?_
  exact x_out htab hlocks (cx_V (As := [.int x]) (rest := []) hx hb hml hl.1 hown hT hK hP hZ (c_H_doorAt_b l hlf g _ α ν χ x _ hW hx0) kw_H_doorAt w449 w451 selp_H_doorAt w1 hd_H_doorAt rfl rfl ⟨by decide, by decide⟩ (hw_00 hW) rfl rfl rfl (Nat.le_of_ble_eq_true rfl) d_H_show_9 ⟨by decide, by decide⟩)
set_option maxHeartbeats 4000000 in
set_option maxRecDepth 100000 in
theorem c_H_refuses_c (l : Launch) (hlf : l.stackTraces = false) (g : GG) (M : MW) (α : AL3) (ν : Nat → Nat) (χ : SG) (d : Nat) (x : Int32) (sz : Nat) (hW : HW g α ν χ M) (hd : d < 200) (hx0 : xic ν x = 0) : vx_Met l y_H_refuses (k_H_refuses :: TT) { frames := 7, cells := 1, slots := 6, locals := 121 } (Pz g [.ref (α 0 0 0), .int (nI d), .int x] sz M) QF (XE "java/lang/IndexOutOfBoundsException") 1 6 nofree := by
  refine vmet_of (by decide) (Nat.le_of_ble_eq_true rfl) ?_
  intro pr en s mi below meth co hx hb hr hml hown hlocks hnm hT hsz hP hK hZ htab ls hl
  have hl : lv_has ls 4 [(0, .ref (α 0 0 0)), (1, .int (nI d)), (2, .int x)] := hl
  refine lv_aload_n hx hb d_H_refuses_0 rfl (lv_at hl 0 rfl) ?_
  refine lv_iload_n hx hb d_H_refuses_1 rfl (lv_at hl 1 rfl) ?_
  refine rd_run (c_V (As := [.int (nI d)]) (rest := []) hx hb hml hl.1 hown hT hK hP (c_H_doorAt l g _ α ν χ d _ hW hd) kw_H_doorAt w449 w451 selp_H_doorAt w1 hd_H_doorAt rfl rfl ⟨by decide, by decide⟩ (hw_00 hW) rfl rfl rfl (Nat.le_of_ble_eq_true rfl) d_H_refuses_2 ⟨by decide, by decide⟩) rfl ?_
  refine lv_astore_n (lv' := [(3, .ref (α 6 d 0)), (0, .ref (α 0 0 0)), (1, .int (nI d)), (2, .int x)]) hx hb d_H_refuses_5 rfl hl (by decide) rfl (fun ls hl => ?_)
  refine lv_aload_n hx hb d_H_refuses_6 rfl (lv_at hl 0 rfl) ?_
  refine lv_aload_n hx hb d_H_refuses_7 rfl (lv_at hl 1 rfl) ?_
  refine lv_iload_n hx hb d_H_refuses_8 rfl (lv_at hl 3 rfl) ?_
  exact x_out htab hlocks (cx_V (As := [.int x]) (rest := [.ref (α 6 d 0)]) hx hb hml hl.1 hown hT hK hP hZ (c_H_cardAt_b l hlf g _ α ν χ x _ hW hx0) kw_H_cardAt w325 w327 selp_H_cardAt w1 hd_H_cardAt rfl rfl ⟨by decide, by decide⟩ (hw_00 hW) rfl rfl rfl (Nat.le_of_ble_eq_true rfl) d_H_refuses_9 ⟨by decide, by decide⟩)
set_option maxHeartbeats 4000000 in
set_option maxRecDepth 100000 in
theorem c_H_zoneOf_z (l : Launch) (hlf : l.stackTraces = false) (g : GG) (M : MW) (α : AL3) (ν : Nat → Nat) (χ : SG) (d : Nat) (z : Int32) (sz : Nat) (hW : HW g α ν χ M) (hd : d < 200) (hz : z < 0 ∨ ¬ z < 32) : vx_Met l y_H_zoneOf (k_H_zoneOf :: TT) { frames := 7, cells := 1, slots := 6, locals := 121 } (Pz g [.ref (α 0 0 0), .int (nI d), .int z] sz M) QF (XE "java/lang/IllegalArgumentException") 1 6 nofree := by
  refine vmet_of (by decide) (Nat.le_of_ble_eq_true rfl) ?_
  intro pr en s mi below meth co hx hb hr hml hown hlocks hnm hT hsz hP hK hZ htab ls hl
  have hl : lv_has ls 4 [(0, .ref (α 0 0 0)), (1, .int (nI d)), (2, .int z)] := hl
  refine lv_aload_n hx hb d_H_zoneOf_0 rfl (lv_at hl 0 rfl) ?_
  refine lv_iload_n hx hb d_H_zoneOf_1 rfl (lv_at hl 1 rfl) ?_
  refine rd_run (c_V (As := [.int (nI d)]) (rest := []) hx hb hml hl.1 hown hT hK hP (c_H_doorAt l g _ α ν χ d _ hW hd) kw_H_doorAt w449 w451 selp_H_doorAt w1 hd_H_doorAt rfl rfl ⟨by decide, by decide⟩ (hw_00 hW) rfl rfl rfl (Nat.le_of_ble_eq_true rfl) d_H_zoneOf_2 ⟨by decide, by decide⟩) rfl ?_
  refine lv_astore_n (lv' := [(3, .ref (α 6 d 0)), (0, .ref (α 0 0 0)), (1, .int (nI d)), (2, .int z)]) hx hb d_H_zoneOf_5 rfl hl (by decide) rfl (fun ls hl => ?_)
  refine lv_iload_n hx hb d_H_zoneOf_6 rfl (lv_at hl 3 rfl) ?_
  refine lv_if_lt (tgt := 16) hx hb d_H_zoneOf_7 (by decide) (fun c1 => ?_) (fun c1 => ?_)
  · skip
    exact x_throw hlf hx hb hml hl.1 hown hlocks htab hT hK hZ (by decide) w458 w22 st101 hatA_g hatA_n hatA_o d_H_zoneOf_16 d_H_zoneOf_19 d_H_zoneOf_20 d_H_zoneOf_22 d_H_zoneOf_25 (by decide) (Nat.le_of_ble_eq_true rfl) (by decide) (by decide) (by decide) (by decide)
  · skip
    refine lv_iload_n hx hb d_H_zoneOf_10 rfl (lv_at hl 3 rfl) ?_
    refine lv_bipush (v := 32) hx hb d_H_zoneOf_11 (by decide) ?_
    refine lv_icmp_lt (tgt := 26) hx hb d_H_zoneOf_13 (by decide) (fun hq9 => absurd hq9 (hz.elim (fun q => absurd q c1) id)) (fun _ => ?_)
    exact x_throw hlf hx hb hml hl.1 hown hlocks htab hT hK hZ (by decide) w458 w22 st101 hatA_g hatA_n hatA_o d_H_zoneOf_16 d_H_zoneOf_19 d_H_zoneOf_20 d_H_zoneOf_22 d_H_zoneOf_25 (by decide) (Nat.le_of_ble_eq_true rfl) (by decide) (by decide) (by decide) (by decide)
set_option maxHeartbeats 4000000 in
set_option maxRecDepth 100000 in
theorem c_H_zoneOf_u (l : Launch) (hlf : l.stackTraces = false) (g : GG) (M : MW) (α : AL3) (ν : Nat → Nat) (χ : SG) (d : Nat) (z : Int32) (sz : Nat) (hW : HW g α ν χ M) (hd : d < 200) (hz1 : ¬ z < 0) (hz2 : z < 32) (hu : ¬ χ 10 d = 0) : vx_Met l y_H_zoneOf (k_H_zoneOf :: TT) { frames := 7, cells := 1, slots := 6, locals := 121 } (Pz g [.ref (α 0 0 0), .int (nI d), .int z] sz M) QF (XE "java/lang/IllegalStateException") 1 6 nofree := by
  refine vmet_of (by decide) (Nat.le_of_ble_eq_true rfl) ?_
  intro pr en s mi below meth co hx hb hr hml hown hlocks hnm hT hsz hP hK hZ htab ls hl
  have hl : lv_has ls 4 [(0, .ref (α 0 0 0)), (1, .int (nI d)), (2, .int z)] := hl
  refine lv_aload_n hx hb d_H_zoneOf_0 rfl (lv_at hl 0 rfl) ?_
  refine lv_iload_n hx hb d_H_zoneOf_1 rfl (lv_at hl 1 rfl) ?_
  refine rd_run (c_V (As := [.int (nI d)]) (rest := []) hx hb hml hl.1 hown hT hK hP (c_H_doorAt l g _ α ν χ d _ hW hd) kw_H_doorAt w449 w451 selp_H_doorAt w1 hd_H_doorAt rfl rfl ⟨by decide, by decide⟩ (hw_00 hW) rfl rfl rfl (Nat.le_of_ble_eq_true rfl) d_H_zoneOf_2 ⟨by decide, by decide⟩) rfl ?_
  refine lv_astore_n (lv' := [(3, .ref (α 6 d 0)), (0, .ref (α 0 0 0)), (1, .int (nI d)), (2, .int z)]) hx hb d_H_zoneOf_5 rfl hl (by decide) rfl (fun ls hl => ?_)
  refine lv_iload_n hx hb d_H_zoneOf_6 rfl (lv_at hl 3 rfl) ?_
  refine lv_if_lt (tgt := 16) hx hb d_H_zoneOf_7 (by decide) (fun hq9 => absurd hq9 (hz1)) (fun _ => ?_)
  refine lv_iload_n hx hb d_H_zoneOf_10 rfl (lv_at hl 3 rfl) ?_
  refine lv_bipush (v := 32) hx hb d_H_zoneOf_11 (by decide) ?_
  refine lv_icmp_lt (tgt := 26) hx hb d_H_zoneOf_13 (by decide) (fun _ => ?_) (fun hq9 => absurd (hz2) hq9)
  refine lv_aload_n hx hb d_H_zoneOf_26 rfl (lv_at hl 0 rfl) ?_
  refine m_getN (ci := 2) (v := .int ((χ) 10 d)) hx hb hT in_Door hown hK hP (hw_dr hW hd) rfl 4 (by decide) (va_Nw.use rfl (hK.2.1 _ nw84)) (fun _ h9 => h9) rfl d_H_zoneOf_27 ?_
  refine lv_if_eq (tgt := 43) hx hb d_H_zoneOf_30 (by decide) (fun hq9 => absurd hq9 (hu)) (fun _ => ?_)
  exact x_throw hlf hx hb hml hl.1 hown hlocks htab hT hK hZ (by decide) w144 w12 st108 hatS_g hatS_n hatS_o d_H_zoneOf_33 d_H_zoneOf_36 d_H_zoneOf_37 d_H_zoneOf_39 d_H_zoneOf_42 (by decide) (Nat.le_of_ble_eq_true rfl) (by decide) (by decide) (by decide) (by decide)
set_option maxHeartbeats 4000000 in
set_option maxRecDepth 100000 in
theorem c_H_tear_z (l : Launch) (hlf : l.stackTraces = false) (g : GG) (M : MW) (α : AL3) (ν : Nat → Nat) (χ : SG) (c : Nat) (k : Int32) (sz : Nat) (hW : HW g α ν χ M) (hN : nOK ν) (hc : c < ν 0) (hz : k < 0 ∨ ¬ k ≤ 50) : vx_Met l y_H_tear (k_H_tear :: TT) { frames := 7, cells := 1, slots := 6, locals := 121 } (Pz g [.ref (α 0 0 0), .int (nI c), .int k] sz M) QF (XE "java/lang/IllegalArgumentException") 1 6 nofree := by
  refine vmet_of (by decide) (Nat.le_of_ble_eq_true rfl) ?_
  intro pr en s mi below meth co hx hb hr hml hown hlocks hnm hT hsz hP hK hZ htab ls hl
  have hl : lv_has ls 4 [(0, .ref (α 0 0 0)), (1, .int (nI c)), (2, .int k)] := hl
  refine lv_aload_n hx hb d_H_tear_0 rfl (lv_at hl 0 rfl) ?_
  refine lv_iload_n hx hb d_H_tear_1 rfl (lv_at hl 1 rfl) ?_
  refine rd_run (c_V (As := [.int (nI c)]) (rest := []) hx hb hml hl.1 hown hT hK hP (c_H_cardAt l g _ α ν χ c _ hW hN hc) kw_H_cardAt w325 w327 selp_H_cardAt w1 hd_H_cardAt rfl rfl ⟨by decide, by decide⟩ (hw_00 hW) rfl rfl rfl (Nat.le_of_ble_eq_true rfl) d_H_tear_2 ⟨by decide, by decide⟩) rfl ?_
  refine lv_astore_n (lv' := [(3, .ref (α 1 c 0)), (0, .ref (α 0 0 0)), (1, .int (nI c)), (2, .int k)]) hx hb d_H_tear_5 rfl hl (by decide) rfl (fun ls hl => ?_)
  refine lv_iload_n hx hb d_H_tear_6 rfl (lv_at hl 3 rfl) ?_
  refine lv_if_lt (tgt := 16) hx hb d_H_tear_7 (by decide) (fun c1 => ?_) (fun c1 => ?_)
  · skip
    exact x_throw hlf hx hb hml hl.1 hown hlocks htab hT hK hZ (by decide) w458 w22 st117 hatA_g hatA_n hatA_o d_H_tear_16 d_H_tear_19 d_H_tear_20 d_H_tear_22 d_H_tear_25 (by decide) (Nat.le_of_ble_eq_true rfl) (by decide) (by decide) (by decide) (by decide)
  · skip
    refine lv_iload_n hx hb d_H_tear_10 rfl (lv_at hl 3 rfl) ?_
    refine lv_bipush (v := 50) hx hb d_H_tear_11 (by decide) ?_
    refine lv_icmp_le (tgt := 26) hx hb d_H_tear_13 (by decide) (fun hq9 => absurd hq9 (hz.elim (fun q => absurd q c1) id)) (fun _ => ?_)
    exact x_throw hlf hx hb hml hl.1 hown hlocks htab hT hK hZ (by decide) w458 w22 st117 hatA_g hatA_n hatA_o d_H_tear_16 d_H_tear_19 d_H_tear_20 d_H_tear_22 d_H_tear_25 (by decide) (Nat.le_of_ble_eq_true rfl) (by decide) (by decide) (by decide) (by decide)
set_option maxHeartbeats 4000000 in
set_option maxRecDepth 100000 in
theorem c_H_word_z (l : Launch) (hlf : l.stackTraces = false) (g : GG) (M : MW) (α : AL3) (ν : Nat → Nat) (χ : SG) (c : Nat) (y i : Int32) (sz : Nat) (hW : HW g α ν χ M) (hN : nOK ν) (hc : c < ν 0) (hz : (y < 0 ∨ 1 < y) ∨ (i < 0 ∨ ¬ i < 44)) : vx_Met l y_H_word (k_H_word :: TT) { frames := 7, cells := 1, slots := 6, locals := 121 } (Pz g [.ref (α 0 0 0), .int (nI c), .int y, .int i] sz M) QF (XE "java/lang/IndexOutOfBoundsException") 1 6 nofree := by
  refine vmet_of (by decide) (Nat.le_of_ble_eq_true rfl) ?_
  intro pr en s mi below meth co hx hb hr hml hown hlocks hnm hT hsz hP hK hZ htab ls hl
  have hl : lv_has ls 5 [(0, .ref (α 0 0 0)), (1, .int (nI c)), (2, .int y), (3, .int i)] := hl
  refine lv_aload_n hx hb d_H_word_0 rfl (lv_at hl 0 rfl) ?_
  refine lv_iload_n hx hb d_H_word_1 rfl (lv_at hl 1 rfl) ?_
  refine rd_run (c_V (As := [.int (nI c)]) (rest := []) hx hb hml hl.1 hown hT hK hP (c_H_cardAt l g _ α ν χ c _ hW hN hc) kw_H_cardAt w325 w327 selp_H_cardAt w1 hd_H_cardAt rfl rfl ⟨by decide, by decide⟩ (hw_00 hW) rfl rfl rfl (Nat.le_of_ble_eq_true rfl) d_H_word_2 ⟨by decide, by decide⟩) rfl ?_
  refine lv_astore (lv' := [(4, .ref (α 1 c 0)), (0, .ref (α 0 0 0)), (1, .int (nI c)), (2, .int y), (3, .int i)]) hx hb d_H_word_5 hl (by decide) rfl (fun ls hl => ?_)
  refine lv_iload_n hx hb d_H_word_7 rfl (lv_at hl 3 rfl) ?_
  refine lv_if_lt (tgt := 26) hx hb d_H_word_8 (by decide) (fun c1 => ?_) (fun c1 => ?_)
  · skip
    exact x_throw hlf hx hb hml hl.1 hown hlocks htab hT hK hZ (by decide) w333 w18 st129 hatI_g hatI_n hatI_o d_H_word_26 d_H_word_29 d_H_word_30 d_H_word_32 d_H_word_35 (by decide) (Nat.le_of_ble_eq_true rfl) (by decide) (by decide) (by decide) (by decide)
  · skip
    refine lv_iload_n hx hb d_H_word_11 rfl (lv_at hl 3 rfl) ?_
    refine lv_iconst (v := 1) hx hb d_H_word_12 (by decide) ?_
    refine lv_icmp_gt (tgt := 26) hx hb d_H_word_13 (by decide) (fun c2 => ?_) (fun c2 => ?_)
    · skip
      exact x_throw hlf hx hb hml hl.1 hown hlocks htab hT hK hZ (by decide) w333 w18 st129 hatI_g hatI_n hatI_o d_H_word_26 d_H_word_29 d_H_word_30 d_H_word_32 d_H_word_35 (by decide) (Nat.le_of_ble_eq_true rfl) (by decide) (by decide) (by decide) (by decide)
    · skip
      refine lv_iload_n hx hb d_H_word_16 rfl (lv_at hl 4 rfl) ?_
      refine lv_if_lt (tgt := 26) hx hb d_H_word_17 (by decide) (fun c3 => ?_) (fun c3 => ?_)
      · skip
        exact x_throw hlf hx hb hml hl.1 hown hlocks htab hT hK hZ (by decide) w333 w18 st129 hatI_g hatI_n hatI_o d_H_word_26 d_H_word_29 d_H_word_30 d_H_word_32 d_H_word_35 (by decide) (Nat.le_of_ble_eq_true rfl) (by decide) (by decide) (by decide) (by decide)
      · skip
        refine lv_iload_n hx hb d_H_word_20 rfl (lv_at hl 4 rfl) ?_
        refine lv_bipush (v := 44) hx hb d_H_word_21 (by decide) ?_
        refine lv_icmp_lt (tgt := 36) hx hb d_H_word_23 (by decide) (fun hq9 => absurd hq9 (by rcases hz with (q | q) | (q | q); exact absurd q c1; exact absurd q c2; exact absurd q c3; exact q)) (fun _ => ?_)
        exact x_throw hlf hx hb hml hl.1 hown hlocks htab hT hK hZ (by decide) w333 w18 st129 hatI_g hatI_n hatI_o d_H_word_26 d_H_word_29 d_H_word_30 d_H_word_32 d_H_word_35 (by decide) (Nat.le_of_ble_eq_true rfl) (by decide) (by decide) (by decide) (by decide)
set_option maxHeartbeats 4000000 in
set_option maxRecDepth 100000 in
theorem c_H_carries_z (l : Launch) (hlf : l.stackTraces = false) (g : GG) (M : MW) (α : AL3) (ν : Nat → Nat) (χ : SG) (c : Nat) (w : Int32) (sz : Nat) (hW : HW g α ν χ M) (hN : nOK ν) (hc : c < ν 0) (hz : w < 0 ∨ ¬ w ≤ 3) : vx_Met l y_H_carries (k_H_carries :: TT) { frames := 7, cells := 1, slots := 6, locals := 121 } (Pz g [.ref (α 0 0 0), .int (nI c), .int w] sz M) QF (XE "java/lang/IllegalArgumentException") 1 6 nofree := by
  refine vmet_of (by decide) (Nat.le_of_ble_eq_true rfl) ?_
  intro pr en s mi below meth co hx hb hr hml hown hlocks hnm hT hsz hP hK hZ htab ls hl
  have hl : lv_has ls 4 [(0, .ref (α 0 0 0)), (1, .int (nI c)), (2, .int w)] := hl
  refine lv_aload_n hx hb d_H_carries_0 rfl (lv_at hl 0 rfl) ?_
  refine lv_iload_n hx hb d_H_carries_1 rfl (lv_at hl 1 rfl) ?_
  refine rd_run (c_V (As := [.int (nI c)]) (rest := []) hx hb hml hl.1 hown hT hK hP (c_H_cardAt l g _ α ν χ c _ hW hN hc) kw_H_cardAt w325 w327 selp_H_cardAt w1 hd_H_cardAt rfl rfl ⟨by decide, by decide⟩ (hw_00 hW) rfl rfl rfl (Nat.le_of_ble_eq_true rfl) d_H_carries_2 ⟨by decide, by decide⟩) rfl ?_
  refine lv_astore_n (lv' := [(3, .ref (α 1 c 0)), (0, .ref (α 0 0 0)), (1, .int (nI c)), (2, .int w)]) hx hb d_H_carries_5 rfl hl (by decide) rfl (fun ls hl => ?_)
  refine lv_iload_n hx hb d_H_carries_6 rfl (lv_at hl 3 rfl) ?_
  refine lv_tableOut (tgt := 67) hx hb d_H_carries_7 (sw_out (k := 3) (by decide) hz) (by decide) ?_
  exact x_throw hlf hx hb hml hl.1 hown hlocks htab hT hK hZ (by decide) w458 w22 st149 hatA_g hatA_n hatA_o d_H_carries_67 d_H_carries_70 d_H_carries_71 d_H_carries_73 d_H_carries_76 (by decide) (Nat.le_of_ble_eq_true rfl) (by decide) (by decide) (by decide) (by decide)
set_option maxHeartbeats 4000000 in
set_option maxRecDepth 100000 in
theorem c_H_memory_z (l : Launch) (hlf : l.stackTraces = false) (g : GG) (M : MW) (α : AL3) (ν : Nat → Nat) (χ : SG) (c : Nat) (i : Int32) (sz : Nat) (hW : HW g α ν χ M) (hN : nOK ν) (hc : c < ν 0) (hz : i < 0 ∨ ¬ i < xcn χ c (xcur χ c)) : vx_Met l y_H_memory (k_H_memory :: TT) { frames := 7, cells := 1, slots := 6, locals := 121 } (Pz g [.ref (α 0 0 0), .int (nI c), .int i] sz M) QF (XE "java/lang/IndexOutOfBoundsException") 1 6 nofree := by
  refine vmet_of (by decide) (Nat.le_of_ble_eq_true rfl) ?_
  intro pr en s mi below meth co hx hb hr hml hown hlocks hnm hT hsz hP hK hZ htab ls hl
  have hl : lv_has ls 4 [(0, .ref (α 0 0 0)), (1, .int (nI c)), (2, .int i)] := hl
  refine lv_aload_n hx hb d_H_memory_0 rfl (lv_at hl 0 rfl) ?_
  refine lv_iload_n hx hb d_H_memory_1 rfl (lv_at hl 1 rfl) ?_
  refine rd_run (c_V (As := [.int (nI c)]) (rest := []) hx hb hml hl.1 hown hT hK hP (c_H_cardAt l g _ α ν χ c _ hW hN hc) kw_H_cardAt w325 w327 selp_H_cardAt w1 hd_H_cardAt rfl rfl ⟨by decide, by decide⟩ (hw_00 hW) rfl rfl rfl (Nat.le_of_ble_eq_true rfl) d_H_memory_2 ⟨by decide, by decide⟩) rfl ?_
  refine rd_run (c_V (As := []) (rest := []) hx hb hml hl.1 hown hT hK hP (c_Card_current l g _ α ν χ c _ hW hc) kw_Card_current w486 w487 w488 w13 hd_Card_current rfl rfl ⟨by decide, by decide⟩ (hw_card hW hc) rfl rfl rfl (Nat.le_of_ble_eq_true rfl) d_H_memory_5 ⟨by decide, by decide⟩) rfl ?_
  refine lv_astore_n (lv' := [(3, .ref (α 2 c (xcur χ c))), (0, .ref (α 0 0 0)), (1, .int (nI c)), (2, .int i)]) hx hb d_H_memory_8 rfl hl (by decide) rfl (fun ls hl => ?_)
  refine lv_iload_n hx hb d_H_memory_9 rfl (lv_at hl 3 rfl) ?_
  refine lv_if_lt (tgt := 21) hx hb d_H_memory_10 (by decide) (fun c1 => ?_) (fun c1 => ?_)
  · skip
    exact x_throw hlf hx hb hml hl.1 hown hlocks htab hT hK hZ (by decide) w333 w18 st151 hatI_g hatI_n hatI_o d_H_memory_21 d_H_memory_24 d_H_memory_25 d_H_memory_27 d_H_memory_30 (by decide) (Nat.le_of_ble_eq_true rfl) (by decide) (by decide) (by decide) (by decide)
  · skip
    refine lv_iload_n hx hb d_H_memory_13 rfl (lv_at hl 3 rfl) ?_
    refine lv_aload_n hx hb d_H_memory_14 rfl (lv_at hl 0 rfl) ?_
    refine rd_run (c_V (As := []) (rest := [.int i]) hx hb hml hl.1 hown hT hK hP (c_Im_count l g _ α ν χ c (xcur χ c) _ hW hc (xcur_lt χ c)) kw_Im_count w564 w421 w422 w14 hd_Im_count rfl rfl ⟨by decide, by decide⟩ (hw_im hW hc (xcur_lt χ c)) rfl rfl rfl (Nat.le_of_ble_eq_true rfl) d_H_memory_15 ⟨by decide, by decide⟩) rfl ?_
    refine lv_icmp_lt (tgt := 31) hx hb d_H_memory_18 (by decide) (fun hq9 => absurd hq9 (hz.elim (fun q => absurd q c1) id)) (fun _ => ?_)
    exact x_throw hlf hx hb hml hl.1 hown hlocks htab hT hK hZ (by decide) w333 w18 st151 hatI_g hatI_n hatI_o d_H_memory_21 d_H_memory_24 d_H_memory_25 d_H_memory_27 d_H_memory_30 (by decide) (Nat.le_of_ble_eq_true rfl) (by decide) (by decide) (by decide) (by decide)
set_option maxHeartbeats 4000000 in
set_option maxRecDepth 100000 in
theorem c_H_about_z (l : Launch) (hlf : l.stackTraces = false) (g : GG) (M : MW) (α : AL3) (ν : Nat → Nat) (χ : SG) (d : Nat) (w : Int32) (sz : Nat) (hW : HW g α ν χ M) (hd : d < 200) (hz : w < 0 ∨ ¬ w ≤ 4) : vx_Met l y_H_about (k_H_about :: TT) { frames := 7, cells := 1, slots := 6, locals := 153 } (Pz g [.ref (α 0 0 0), .int (nI d), .int w] sz M) QF (XE "java/lang/IllegalArgumentException") 1 6 nofree := by
  refine vmet_of (by decide) (Nat.le_of_ble_eq_true rfl) ?_
  intro pr en s mi below meth co hx hb hr hml hown hlocks hnm hT hsz hP hK hZ htab ls hl
  have hl : lv_has ls 4 [(0, .ref (α 0 0 0)), (1, .int (nI d)), (2, .int w)] := hl
  refine lv_aload_n hx hb d_H_about_0 rfl (lv_at hl 0 rfl) ?_
  refine lv_iload_n hx hb d_H_about_1 rfl (lv_at hl 1 rfl) ?_
  refine rd_run (c_V (As := [.int (nI d)]) (rest := []) hx hb hml hl.1 hown hT hK hP (c_H_doorAt l g _ α ν χ d _ hW hd) kw_H_doorAt w449 w451 selp_H_doorAt w1 hd_H_doorAt rfl rfl ⟨by decide, by decide⟩ (hw_00 hW) rfl rfl rfl (Nat.le_of_ble_eq_true rfl) d_H_about_2 ⟨by decide, by decide⟩) rfl ?_
  refine lv_astore_n (lv' := [(3, .ref (α 6 d 0)), (0, .ref (α 0 0 0)), (1, .int (nI d)), (2, .int w)]) hx hb d_H_about_5 rfl hl (by decide) rfl (fun ls hl => ?_)
  refine lv_iload_n hx hb d_H_about_6 rfl (lv_at hl 3 rfl) ?_
  refine lv_tableOut (tgt := 97) hx hb d_H_about_7 (sw_out (k := 4) (by decide) hz) (by decide) ?_
  exact x_throw hlf hx hb hml hl.1 hown hlocks htab hT hK hZ (by decide) w458 w22 st172 hatA_g hatA_n hatA_o d_H_about_97 d_H_about_100 d_H_about_101 d_H_about_103 d_H_about_106 (by decide) (Nat.le_of_ble_eq_true rfl) (by decide) (by decide) (by decide) (by decide)
set_option maxHeartbeats 4000000 in
set_option maxRecDepth 100000 in
theorem c_H_run_z (l : Launch) (hlf : l.stackTraces = false) (g : GG) (M : MW) (α : AL3) (ν : Nat → Nat) (χ : SG) (d : Nat) (i b : Int32) (sz : Nat) (hW : HW g α ν χ M) (hN : nOK ν) (hd : d < 200) (hz : ∀ j, j < xrF ν χ d (ν 1) → ¬ nI j = i) : vx_Met l y_H_run (k_H_run :: TT) { frames := 7, cells := 1, slots := 6, locals := 154 } (Pz g [.ref (α 0 0 0), .int (nI d), .int i, .int b] sz M) QF (XE "java/lang/IndexOutOfBoundsException") 1 6 nofree := by
  refine vmet_of (by decide) (Nat.le_of_ble_eq_true rfl) ?_
  intro pr en s mi below meth co hx hb hr hml hown hlocks hnm hT hsz hP hK hZ htab ls hl
  have hl : lv_has ls 6 [(0, .ref (α 0 0 0)), (1, .int (nI d)), (2, .int i), (3, .int b)] := hl
  refine lv_aload_n hx hb d_H_run_0 rfl (lv_at hl 0 rfl) ?_
  refine lv_iload_n hx hb d_H_run_1 rfl (lv_at hl 1 rfl) ?_
  refine rd_run (c_V (As := [.int (nI d)]) (rest := []) hx hb hml hl.1 hown hT hK hP (c_H_doorAt l g _ α ν χ d _ hW hd) kw_H_doorAt w449 w451 selp_H_doorAt w1 hd_H_doorAt rfl rfl ⟨by decide, by decide⟩ (hw_00 hW) rfl rfl rfl (Nat.le_of_ble_eq_true rfl) d_H_run_2 ⟨by decide, by decide⟩) rfl ?_
  refine lv_astore (lv' := [(4, .ref (α 6 d 0)), (0, .ref (α 0 0 0)), (1, .int (nI d)), (2, .int i), (3, .int b)]) hx hb d_H_run_5 hl (by decide) rfl (fun ls hl => ?_)
  refine lv_aload hx hb d_H_run_7 (lv_at hl 0 rfl) ?_
  refine lv_iload_n hx hb d_H_run_9 rfl (lv_at hl 3 rfl) ?_
  refine lv_aload_n hx hb d_H_run_10 rfl (lv_at hl 1 rfl) ?_
  refine m_get (ci := 6) (v := .ref (α 0 3 0)) hx hb hT in_H hown hK hP (hw_00 hW) rfl 1 (by decide) (hT _ w101) (fun _ h9 => h9) rfl d_H_run_11 ?_
  refine rd_run (c_V (As := [.int i, .ref (α 0 3 0)]) (rest := []) hx hb hml hl.1 hown hT hK hP (c_Door_startOfRun_z l g _ α ν χ d i _ hW hN hd hz) kw_Door_startOfRun w611 w612 w613 w6 hd_Door_startOfRun rfl rfl ⟨by decide, by decide⟩ (hw_dr hW hd) rfl rfl rfl (Nat.le_of_ble_eq_true rfl) d_H_run_14 ⟨by decide, by decide⟩) rfl ?_
  refine lv_istore (lv' := [(5, .int 0), (4, .ref (α 6 d 0)), (0, .ref (α 0 0 0)), (1, .int (nI d)), (2, .int i), (3, .int b)]) hx hb d_H_run_17 hl (by decide) rfl (fun ls hl => ?_)
  refine lv_iload hx hb d_H_run_19 (lv_at hl 0 rfl) ?_
  refine lv_if_ne (tgt := 34) hx hb d_H_run_21 (by decide) (fun hq9 => absurd ((rfl : (0 : Int32) = 0)) hq9) (fun _ => ?_)
  exact x_throw hlf hx hb hml hl.1 hown hlocks htab hT hK hZ (by decide) w333 w18 st178 hatI_g hatI_n hatI_o d_H_run_24 d_H_run_27 d_H_run_28 d_H_run_30 d_H_run_33 (by decide) (Nat.le_of_ble_eq_true rfl) (by decide) (by decide) (by decide) (by decide)
set_option maxHeartbeats 4000000 in
set_option maxRecDepth 100000 in
theorem c_H_reach_b (l : Launch) (hlf : l.stackTraces = false) (g : GG) (M : MW) (α : AL3) (ν : Nat → Nat) (χ : SG) (x : Int32) (sz : Nat) (hW : HW g α ν χ M) (hz : x < 1 ∨ ¬ x ≤ nI (ν 1)) : vx_Met l y_H_reach (k_H_reach :: TT) { frames := 6, cells := 1, slots := 6, locals := 100 } (Pz g [.ref (α 0 0 0), .int x] sz M) QF (XE "java/lang/IndexOutOfBoundsException") 1 6 nofree := by
  refine vmet_of (by decide) (Nat.le_of_ble_eq_true rfl) ?_
  intro pr en s mi below meth co hx hb hr hml hown hlocks hnm hT hsz hP hK hZ htab ls hl
  have hl : lv_has ls 2 [(0, .ref (α 0 0 0)), (1, .int x)] := hl
  refine lv_iload_n hx hb d_H_reach_0 rfl (lv_at hl 1 rfl) ?_
  refine lv_iconst (v := 1) hx hb d_H_reach_1 (by decide) ?_
  refine lv_icmp_lt (tgt := 16) hx hb d_H_reach_2 (by decide) (fun c1 => ?_) (fun c1 => ?_)
  · skip
    exact x_throw hlf hx hb hml hl.1 hown hlocks htab hT hK hZ (by decide) w333 w18 st187 hatI_g hatI_n hatI_o d_H_reach_16 d_H_reach_19 d_H_reach_20 d_H_reach_22 d_H_reach_25 (by decide) (Nat.le_of_ble_eq_true rfl) (by decide) (by decide) (by decide) (by decide)
  · skip
    refine lv_iload_n hx hb d_H_reach_5 rfl (lv_at hl 1 rfl) ?_
    refine lv_aload_n hx hb d_H_reach_6 rfl (lv_at hl 0 rfl) ?_
    refine m_get (ci := 6) (v := .ref (α 0 3 0)) hx hb hT in_H hown hK hP (hw_00 hW) rfl 1 (by decide) (hT _ w101) (fun _ h9 => h9) rfl d_H_reach_7 ?_
    refine rd_run (c_V (As := []) (rest := [.int x]) hx hb hml hl.1 hown hT hK hP (c_EL_made l g _ α ν χ _ hW) kw_EL_made w131 w132 w133 w5 hd_EL_made rfl rfl ⟨by decide, by decide⟩ (hw_03 hW) rfl rfl rfl (Nat.le_of_ble_eq_true rfl) d_H_reach_10 ⟨by decide, by decide⟩) rfl ?_
    refine lv_icmp_le (tgt := 26) hx hb d_H_reach_13 (by decide) (fun hq9 => absurd hq9 (hz.elim (fun q => absurd q c1) id)) (fun _ => ?_)
    exact x_throw hlf hx hb hml hl.1 hown hlocks htab hT hK hZ (by decide) w333 w18 st187 hatI_g hatI_n hatI_o d_H_reach_16 d_H_reach_19 d_H_reach_20 d_H_reach_22 d_H_reach_25 (by decide) (Nat.le_of_ble_eq_true rfl) (by decide) (by decide) (by decide) (by decide)
set_option maxHeartbeats 4000000 in
set_option maxRecDepth 100000 in
theorem c_H_visit_b (l : Launch) (hlf : l.stackTraces = false) (g : GG) (M : MW) (α : AL3) (ν : Nat → Nat) (χ : SG) (i x y day : Int32) (sz : Nat) (hW : HW g α ν χ M) (hz : (i < 0 ∨ 200 ≤ i) ∨ xic ν x = 0 ∨ xid y = 0) : vx_Met l y_H_visit (k_H_visit :: TT) { frames := 6, cells := 1, slots := 6, locals := 100 } (Pz g [.ref (α 0 0 0), .int i, .int x, .int y, .int day] sz M) QF (XE "java/lang/IndexOutOfBoundsException") 1 6 nofree := by
  refine vmet_of (by decide) (Nat.le_of_ble_eq_true rfl) ?_
  intro pr en s mi below meth co hx hb hr hml hown hlocks hnm hT hsz hP hK hZ htab ls hl
  have hl : lv_has ls 5 [(0, .ref (α 0 0 0)), (1, .int i), (2, .int x), (3, .int y), (4, .int day)] := hl
  refine lv_iload_n hx hb d_H_visit_0 rfl (lv_at hl 1 rfl) ?_
  refine lv_if_lt (tgt := 27) hx hb d_H_visit_1 (by decide) (fun c1 => ?_) (fun c1 => ?_)
  · skip
    exact x_throw hlf hx hb hml hl.1 hown hlocks htab hT hK hZ (by decide) w333 w18 st199 hatI_g hatI_n hatI_o d_H_visit_27 d_H_visit_30 d_H_visit_31 d_H_visit_33 d_H_visit_36 (by decide) (Nat.le_of_ble_eq_true rfl) (by decide) (by decide) (by decide) (by decide)
  · skip
    refine lv_iload_n hx hb d_H_visit_4 rfl (lv_at hl 1 rfl) ?_
    refine lv_sipush (v := 200) hx hb d_H_visit_5 (by decide) ?_
    refine lv_icmp_ge (tgt := 27) hx hb d_H_visit_8 (by decide) (fun c2 => ?_) (fun c2 => ?_)
    · skip
      exact x_throw hlf hx hb hml hl.1 hown hlocks htab hT hK hZ (by decide) w333 w18 st199 hatI_g hatI_n hatI_o d_H_visit_27 d_H_visit_30 d_H_visit_31 d_H_visit_33 d_H_visit_36 (by decide) (Nat.le_of_ble_eq_true rfl) (by decide) (by decide) (by decide) (by decide)
    · skip
      refine lv_aload_n hx hb d_H_visit_11 rfl (lv_at hl 0 rfl) ?_
      refine lv_iload_n hx hb d_H_visit_12 rfl (lv_at hl 2 rfl) ?_
      refine rd_run (c_V (As := [.int x]) (rest := []) hx hb hml hl.1 hown hT hK hP (c_H_isCard l g _ α ν χ x _ hW) kw_H_isCard w329 w331 selp_H_isCard w1 hd_H_isCard rfl rfl ⟨by decide, by decide⟩ (hw_00 hW) rfl rfl rfl (Nat.le_of_ble_eq_true rfl) d_H_visit_13 ⟨by decide, by decide⟩) rfl ?_
      refine lv_if_eq (tgt := 27) hx hb d_H_visit_16 (by decide) (fun c3 => ?_) (fun c3 => ?_)
      · skip
        exact x_throw hlf hx hb hml hl.1 hown hlocks htab hT hK hZ (by decide) w333 w18 st199 hatI_g hatI_n hatI_o d_H_visit_27 d_H_visit_30 d_H_visit_31 d_H_visit_33 d_H_visit_36 (by decide) (Nat.le_of_ble_eq_true rfl) (by decide) (by decide) (by decide) (by decide)
      · skip
        refine lv_aload_n hx hb d_H_visit_19 rfl (lv_at hl 0 rfl) ?_
        refine lv_iload_n hx hb d_H_visit_20 rfl (lv_at hl 3 rfl) ?_
        refine rd_run (c_V (As := [.int y]) (rest := []) hx hb hml hl.1 hown hT hK hP (c_H_isDoor l g _ α ν χ y _ hW) kw_H_isDoor w453 w455 selp_H_isDoor w1 hd_H_isDoor rfl rfl ⟨by decide, by decide⟩ (hw_00 hW) rfl rfl rfl (Nat.le_of_ble_eq_true rfl) d_H_visit_21 ⟨by decide, by decide⟩) rfl ?_
        refine lv_if_ne (tgt := 37) hx hb d_H_visit_24 (by decide) (fun hq9 => absurd (by rcases hz with (q | q) | q | q; exact absurd q c1; exact absurd q c2; exact absurd q c3; exact q) hq9) (fun _ => ?_)
        exact x_throw hlf hx hb hml hl.1 hown hlocks htab hT hK hZ (by decide) w333 w18 st199 hatI_g hatI_n hatI_o d_H_visit_27 d_H_visit_30 d_H_visit_31 d_H_visit_33 d_H_visit_36 (by decide) (Nat.le_of_ble_eq_true rfl) (by decide) (by decide) (by decide) (by decide)
set_option maxHeartbeats 4000000 in
set_option maxRecDepth 100000 in
theorem c_H_spread_b (l : Launch) (hlf : l.stackTraces = false) (g : GG) (M : MW) (α : AL3) (ν : Nat → Nat) (χ : SG) (x : Int32) (sz : Nat) (hW : HW g α ν χ M) (hz : x < 0 ∨ ¬ x ≤ 200) : vx_Met l y_H_spread (k_H_spread :: TT) { frames := 7, cells := 1, slots := 6, locals := 161 } (Pz g [.ref (α 0 0 0), .int x] sz M) QF (XE "java/lang/IllegalArgumentException") 1 6 nofree := by
  refine vmet_of (by decide) (Nat.le_of_ble_eq_true rfl) ?_
  intro pr en s mi below meth co hx hb hr hml hown hlocks hnm hT hsz hP hK hZ htab ls hl
  have hl : lv_has ls 4 [(0, .ref (α 0 0 0)), (1, .int x)] := hl
  refine lv_iload_n hx hb d_H_spread_0 rfl (lv_at hl 1 rfl) ?_
  refine lv_if_lt (tgt := 11) hx hb d_H_spread_1 (by decide) (fun c1 => ?_) (fun c1 => ?_)
  · skip
    exact x_throw hlf hx hb hml hl.1 hown hlocks htab hT hK hZ (by decide) w458 w22 st201 hatA_g hatA_n hatA_o d_H_spread_11 d_H_spread_14 d_H_spread_15 d_H_spread_17 d_H_spread_20 (by decide) (Nat.le_of_ble_eq_true rfl) (by decide) (by decide) (by decide) (by decide)
  · skip
    refine lv_iload_n hx hb d_H_spread_4 rfl (lv_at hl 1 rfl) ?_
    refine lv_sipush (v := 200) hx hb d_H_spread_5 (by decide) ?_
    refine lv_icmp_le (tgt := 21) hx hb d_H_spread_8 (by decide) (fun hq9 => absurd hq9 (hz.elim (fun q => absurd q c1) id)) (fun _ => ?_)
    exact x_throw hlf hx hb hml hl.1 hown hlocks htab hT hK hZ (by decide) w458 w22 st201 hatA_g hatA_n hatA_o d_H_spread_11 d_H_spread_14 d_H_spread_15 d_H_spread_17 d_H_spread_20 (by decide) (Nat.le_of_ble_eq_true rfl) (by decide) (by decide) (by decide) (by decide)
