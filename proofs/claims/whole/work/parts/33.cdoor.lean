/-! The class: doors (reading, with loops). -/
noncomputable def xeF (ν : Nat → Nat) (χ : SG) (d : Nat) : Nat → Nat → Nat
  | 0, e => e
  | f + 1, e => if bI (xhs ν χ d (e + 1)) = 0 then e else xeF ν χ d f (e + 1)
noncomputable def xmF (ν : Nat → Nat) (χ : SG) (d : Nat) : Nat → Nat
  | 0 => 0
  | k + 1 => if bI (xhs ν χ d (k + 1)) = 0 then xmF ν χ d k else xmF ν χ d k + 1
noncomputable def xrF (ν : Nat → Nat) (χ : SG) (d : Nat) : Nat → Nat
  | 0 => 0
  | k + 1 => if bI (xhs ν χ d (k + 1) ∧ ¬ xhs ν χ d k) = 0 then xrF ν χ d k else xrF ν χ d k + 1
theorem xrF_le (ν : Nat → Nat) (χ : SG) (d : Nat) : ∀ k, xrF ν χ d k ≤ k
  | 0 => Nat.le_refl 0
  | k + 1 => by
    have := xrF_le ν χ d k
    show (if bI (xhs ν χ d (k + 1) ∧ ¬ xhs ν χ d k) = 0 then xrF ν χ d k else xrF ν χ d k + 1) ≤ k + 1
    split <;> omega
theorem xrF_s (ν : Nat → Nat) (χ : SG) (d k : Nat) : xrF ν χ d k ≤ xrF ν χ d (k + 1) := by
  show xrF ν χ d k ≤ (if bI (xhs ν χ d (k + 1) ∧ ¬ xhs ν χ d k) = 0 then xrF ν χ d k else xrF ν χ d k + 1)
  split <;> omega
theorem xrF_mono (ν : Nat → Nat) (χ : SG) (d k : Nat) : ∀ m, xrF ν χ d k ≤ xrF ν χ d (k + m)
  | 0 => Nat.le_refl _
  | m + 1 => Nat.le_trans (xrF_mono ν χ d k m) (xrF_s ν χ d (k + m))
def xRun (ν : Nat → Nat) (χ : SG) (d i k : Nat) : Prop := xrF ν χ d k = i + 1 ∧ ∀ j, j < k → xrF ν χ d j ≤ i
noncomputable def xjd (ν : Nat → Nat) (χ : SG) (c d e2 z : Nat) (day : Int32) : Int32 := if ¬ bI (xhs ν χ d e2) = 0 then 1 else if ¬ day ≤ χ 2 c then 2 else if ¬ xop χ c z = 0 then 0 else 3
set_option maxHeartbeats 4000000 in
set_option maxRecDepth 100000 in
theorem c_Door_endOfRun (l : Launch) (g : GG) (M : MW) (α : AL3) (ν : Nat → Nat) (χ : SG) (d s0 : Nat) (sz : Nat) (hW : HW g α ν χ M) (hN : nOK ν) (hd : d < 200) (hs0 : s0 ≤ ν 1) : Met l y_Door_endOfRun (k_Door_endOfRun :: TT) { frames := 5, cells := 0, slots := 0, locals := 108 } (Pm g [.ref (α 6 d 0), .int (nI s0), .ref (α 0 3 0)] sz (M)) (Qrd (some (.int (nI (xeF ν χ d (ν 1 - s0) s0))))) 0 0 (nofree) := by
  refine met_of (by decide) (Nat.le_of_ble_eq_true rfl) ?_
  intro pr en s mi below meth co hx hb hr hml hown hlocks hnm hT hsz hP hK ls hl
  have hl : lv_has ls 4 [(0, .ref (α 6 d 0)), (1, .int (nI s0)), (2, .ref (α 0 3 0))] := hl
  have hN6 : ν 1 ≤ 600 := hN.2.2.2.2.2
  refine lv_iload_n hx hb d_Door_endOfRun_0 rfl (lv_at hl 1 rfl) ?_
  refine lv_istore_n (lv' := [(3, .int (nI s0)), (0, .ref (α 6 d 0)), (1, .int (nI s0)), (2, .ref (α 0 3 0))]) hx hb d_Door_endOfRun_1 rfl hl (by decide) rfl (fun ls hl => ?_)
  refine W.rep (α := Array Slot × Nat) (fun (ls, k) => ν 1 - k) (fun (ls, k) => lv_has ls 4 [(0, .ref (α 6 d 0)), (1, .int (nI s0)), (2, .ref (α 0 3 0)), (3, .int (nI k))] ∧ k ≤ ν 1 ∧ xeF ν χ d (ν 1 - s0) s0 = xeF ν χ d (ν 1 - k) k) (fun (ls, k) => s.heap) (fun (ls, k) => []) (fun (ls, k) => F0 mi 2 ls []) ?_ (ls, s0) ⟨lv_sub hl [1, 2, 3, 0] rfl, hs0, rfl⟩
  rintro ⟨ls, k⟩ ⟨hl, hi1, hi2⟩ ih
  dsimp only at hl hi1 hi2 ih ⊢
  refine lv_iload_n hx hb d_Door_endOfRun_2 rfl (lv_at hl 3 rfl) ?_
  refine lv_aload_n hx hb d_Door_endOfRun_3 rfl (lv_at hl 2 rfl) ?_
  refine rd_run (c_V (As := []) (rest := [.int (nI k)]) hx hb hml hl.1 hown hT hK hP (c_EL_made l g M α ν χ s.heap.size hW) kw_EL_made w589 w132 w133 w5 hd_EL_made rfl rfl ⟨by decide, by decide⟩ (hw_03 hW) rfl rfl rfl (Nat.le_of_ble_eq_true rfl) d_Door_endOfRun_4 ⟨by decide, by decide⟩) rfl ?_
  refine lv_icmp_ge (tgt := 27) hx hb d_Door_endOfRun_7 (by decide) (fun c1 => ?_) (fun c1 => ?_)
  · skip
    have hk : ν 1 ≤ k := ge_of c1 (by omega) (by omega)
    have hend : xeF ν χ d (ν 1 - k) k = k := by rw [show ν 1 - k = 0 by omega]; rfl
    refine lv_iload_n hx hb d_Door_endOfRun_27 rfl (lv_at hl 3 rfl) ?_
    exact rd_iret hx hb hr hlocks (by first | contradiction | rw [hi2, hend]) d_Door_endOfRun_28
  · skip
    have hk : k < ν 1 := by rcases Nat.lt_or_ge k (ν 1) with h9 | h9; exact h9; exact absurd (nI_le h9 (by omega)) c1
    refine lv_aload_n hx hb d_Door_endOfRun_10 rfl (lv_at hl 0 rfl) ?_
    refine lv_iload_n hx hb d_Door_endOfRun_11 rfl (lv_at hl 3 rfl) ?_
    refine lv_iconst (v := 1) hx hb d_Door_endOfRun_12 (by decide) ?_
    refine lv_iadd hx hb d_Door_endOfRun_13 ?_
    rw [show ((nI k) + 1) = nI (k + 1) from nI_1 k]
    refine lv_aload_n hx hb d_Door_endOfRun_14 rfl (lv_at hl 2 rfl) ?_
    refine rd_run (c_V (As := [.int (nI (k + 1)), .ref (α 0 3 0)]) (rest := []) hx hb hml hl.1 hown hT hK hP (c_Door_has l g M α ν χ d (k + 1) s.heap.size hW hN (by omega) hd) kw_Door_has w509 w510 w511 w6 hd_Door_has rfl rfl ⟨by decide, by decide⟩ (hw_dr hW hd) rfl rfl rfl (Nat.le_of_ble_eq_true rfl) d_Door_endOfRun_15 ⟨by decide, by decide⟩) rfl ?_
    refine lv_if_eq (tgt := 27) hx hb d_Door_endOfRun_18 (by decide) (fun c2 => ?_) (fun c2 => ?_)
    · skip
      have hend : xeF ν χ d (ν 1 - k) k = k := by obtain ⟨f, hf⟩ : ∃ f, ν 1 - k = f + 1 := ⟨ν 1 - k - 1, by omega⟩; rw [hf]; exact if_pos c2
      refine lv_iload_n hx hb d_Door_endOfRun_27 rfl (lv_at hl 3 rfl) ?_
      exact rd_iret hx hb hr hlocks (by first | contradiction | rw [hi2, hend]) d_Door_endOfRun_28
    · skip
      have hrec : xeF ν χ d (ν 1 - k) k = xeF ν χ d (ν 1 - (k + 1)) (k + 1) := by obtain ⟨f, hf⟩ : ∃ f, ν 1 - k = f + 1 := ⟨ν 1 - k - 1, by omega⟩; rw [hf, show ν 1 - (k + 1) = f by omega]; exact if_neg c2
      refine lv_iinc (v := nI (k + 1)) (lv' := [(3, .int (nI (k + 1))), (0, .ref (α 6 d 0)), (1, .int (nI s0)), (2, .ref (α 0 3 0))]) hx hb d_Door_endOfRun_21 hl (k := 3) rfl (nI_1 k) (by decide) rfl (fun ls hl => ?_)
      refine lv_goto (tgt := 2) hx hb d_Door_endOfRun_24 (by decide) ?_
      exact ih (_, k + 1) ⟨lv_sub hl [1, 2, 3, 0] rfl, by omega, by rw [hi2, hrec]⟩ (by omega)
set_option maxHeartbeats 4000000 in
set_option maxRecDepth 100000 in
theorem c_Door_complete (l : Launch) (g : GG) (M : MW) (α : AL3) (ν : Nat → Nat) (χ : SG) (d : Nat) (sz : Nat) (hW : HW g α ν χ M) (hN : nOK ν) (hd : d < 200) : Met l y_Door_complete (k_Door_complete :: TT) { frames := 6, cells := 0, slots := 0, locals := 131 } (Pm g [.ref (α 6 d 0), .ref (α 0 3 0)] sz (M)) (Qrd (some (.int (nI (xeF ν χ d (ν 1) 0))))) 0 0 (nofree) := by
  refine met_of (by decide) (Nat.le_of_ble_eq_true rfl) ?_
  intro pr en s mi below meth co hx hb hr hml hown hlocks hnm hT hsz hP hK ls hl
  have hl : lv_has ls 2 [(0, .ref (α 6 d 0)), (1, .ref (α 0 3 0))] := hl
  refine lv_aload_n hx hb d_Door_complete_0 rfl (lv_at hl 0 rfl) ?_
  refine lv_iconst (v := 0) hx hb d_Door_complete_1 (by decide) ?_
  refine lv_aload_n hx hb d_Door_complete_2 rfl (lv_at hl 1 rfl) ?_
  refine rd_run (c_V (As := [.int 0, .ref (α 0 3 0)]) (rest := []) hx hb hml hl.1 hown hT hK hP (c_Door_endOfRun l g M α ν χ d 0 s.heap.size hW hN hd (Nat.zero_le _)) kw_Door_endOfRun w585 w586 w587 w6 hd_Door_endOfRun rfl rfl ⟨by decide, by decide⟩ (hw_dr hW hd) rfl rfl rfl (Nat.le_of_ble_eq_true rfl) d_Door_complete_3 ⟨by decide, by decide⟩) rfl ?_
  exact rd_iret hx hb hr hlocks (rfl) d_Door_complete_6
set_option maxHeartbeats 4000000 in
set_option maxRecDepth 100000 in
theorem c_Door_countEntries (l : Launch) (g : GG) (M : MW) (α : AL3) (ν : Nat → Nat) (χ : SG) (d : Nat) (sz : Nat) (hW : HW g α ν χ M) (hN : nOK ν) (hd : d < 200) : Met l y_Door_countEntries (k_Door_countEntries :: TT) { frames := 5, cells := 0, slots := 0, locals := 108 } (Pm g [.ref (α 6 d 0), .ref (α 0 3 0)] sz (M)) (Qrd (some (.int (nI (xmF ν χ d (ν 1)))))) 0 0 (nofree) := by
  refine met_of (by decide) (Nat.le_of_ble_eq_true rfl) ?_
  intro pr en s mi below meth co hx hb hr hml hown hlocks hnm hT hsz hP hK ls hl
  have hl : lv_has ls 4 [(0, .ref (α 6 d 0)), (1, .ref (α 0 3 0))] := hl
  have hN6 : ν 1 ≤ 600 := hN.2.2.2.2.2
  refine lv_iconst (v := 0) hx hb d_Door_countEntries_0 (by decide) ?_
  refine lv_istore_n (lv' := [(2, .int 0), (0, .ref (α 6 d 0)), (1, .ref (α 0 3 0))]) hx hb d_Door_countEntries_1 rfl hl (by decide) rfl (fun ls hl => ?_)
  refine lv_iconst (v := 1) hx hb d_Door_countEntries_2 (by decide) ?_
  refine lv_istore_n (lv' := [(3, .int 1), (2, .int 0), (0, .ref (α 6 d 0)), (1, .ref (α 0 3 0))]) hx hb d_Door_countEntries_3 rfl hl (by decide) rfl (fun ls hl => ?_)
  refine W.rep (α := Array Slot × Nat) (fun (ls, k) => ν 1 - k) (fun (ls, k) => lv_has ls 4 [(0, .ref (α 6 d 0)), (1, .ref (α 0 3 0)), (2, .int (nI (xmF ν χ d k))), (3, .int (nI (k + 1)))] ∧ k ≤ ν 1) (fun (ls, k) => s.heap) (fun (ls, k) => []) (fun (ls, k) => F0 mi 4 ls []) ?_ (ls, 0) ⟨lv_sub hl [2, 3, 1, 0] rfl, Nat.zero_le _⟩
  rintro ⟨ls, k⟩ ⟨hl, hi1⟩ ih
  dsimp only at hl hi1 ih ⊢
  refine lv_iload_n hx hb d_Door_countEntries_4 rfl (lv_at hl 3 rfl) ?_
  refine lv_aload_n hx hb d_Door_countEntries_5 rfl (lv_at hl 1 rfl) ?_
  refine rd_run (c_V (As := []) (rest := [.int (nI (k + 1))]) hx hb hml hl.1 hown hT hK hP (c_EL_made l g M α ν χ s.heap.size hW) kw_EL_made w589 w132 w133 w5 hd_EL_made rfl rfl ⟨by decide, by decide⟩ (hw_03 hW) rfl rfl rfl (Nat.le_of_ble_eq_true rfl) d_Door_countEntries_6 ⟨by decide, by decide⟩) rfl ?_
  refine lv_icmp_gt (tgt := 30) hx hb d_Door_countEntries_9 (by decide) (fun c1 => ?_) (fun c1 => ?_)
  · skip
    have hk : k = ν 1 := by have := lt_of c1 (by omega) (by omega); omega
    refine lv_iload_n hx hb d_Door_countEntries_30 rfl (lv_at hl 2 rfl) ?_
    exact rd_iret hx hb hr hlocks (by first | contradiction | rw [hk]) d_Door_countEntries_31
  · skip
    have hk : k < ν 1 := by rcases Nat.lt_or_ge k (ν 1) with h9 | h9; exact h9; exact absurd (nI_lt (a := ν 1) (b := k + 1) (by omega) (by omega)) c1
    refine lv_aload_n hx hb d_Door_countEntries_12 rfl (lv_at hl 0 rfl) ?_
    refine lv_iload_n hx hb d_Door_countEntries_13 rfl (lv_at hl 3 rfl) ?_
    refine lv_aload_n hx hb d_Door_countEntries_14 rfl (lv_at hl 1 rfl) ?_
    refine rd_run (c_V (As := [.int (nI (k + 1)), .ref (α 0 3 0)]) (rest := []) hx hb hml hl.1 hown hT hK hP (c_Door_has l g M α ν χ d (k + 1) s.heap.size hW hN (by omega) hd) kw_Door_has w509 w510 w511 w6 hd_Door_has rfl rfl ⟨by decide, by decide⟩ (hw_dr hW hd) rfl rfl rfl (Nat.le_of_ble_eq_true rfl) d_Door_countEntries_15 ⟨by decide, by decide⟩) rfl ?_
    refine lv_if_eq (tgt := 24) hx hb d_Door_countEntries_18 (by decide) (fun c2 => ?_) (fun c2 => ?_)
    · skip
      have hrec : xmF ν χ d (k + 1) = xmF ν χ d k := if_pos c2
      refine lv_iinc (v := nI (k + 1 + 1)) (lv' := [(3, .int (nI (k + 1 + 1))), (0, .ref (α 6 d 0)), (1, .ref (α 0 3 0)), (2, .int (nI (xmF ν χ d k)))]) hx hb d_Door_countEntries_24 hl (k := 3) rfl (nI_1 (k + 1)) (by decide) rfl (fun ls hl => ?_)
      refine lv_goto (tgt := 4) hx hb d_Door_countEntries_27 (by decide) ?_
      exact ih (_, k + 1) ⟨by rw [hrec]; exact lv_sub hl [1, 2, 3, 0] rfl, by omega⟩ (by omega)
    · skip
      have hrec : xmF ν χ d (k + 1) = xmF ν χ d k + 1 := if_neg c2
      refine lv_iinc (v := nI (xmF ν χ d k + 1)) (lv' := [(2, .int (nI (xmF ν χ d k + 1))), (0, .ref (α 6 d 0)), (1, .ref (α 0 3 0)), (3, .int (nI (k + 1)))]) hx hb d_Door_countEntries_21 hl (k := 2) rfl (nI_1 _) (by decide) rfl (fun ls hl => ?_)
      refine lv_iinc (v := nI (k + 1 + 1)) (lv' := [(3, .int (nI (k + 1 + 1))), (2, .int (nI (xmF ν χ d k + 1))), (0, .ref (α 6 d 0)), (1, .ref (α 0 3 0))]) hx hb d_Door_countEntries_24 hl (k := 3) rfl (nI_1 (k + 1)) (by decide) rfl (fun ls hl => ?_)
      refine lv_goto (tgt := 4) hx hb d_Door_countEntries_27 (by decide) ?_
      exact ih (_, k + 1) ⟨by rw [hrec]; exact lv_sub hl [2, 3, 1, 0] rfl, by omega⟩ (by omega)
set_option maxHeartbeats 4000000 in
set_option maxRecDepth 100000 in
theorem c_Door_countRuns (l : Launch) (g : GG) (M : MW) (α : AL3) (ν : Nat → Nat) (χ : SG) (d : Nat) (sz : Nat) (hW : HW g α ν χ M) (hN : nOK ν) (hd : d < 200) : Met l y_Door_countRuns (k_Door_countRuns :: TT) { frames := 6, cells := 0, slots := 0, locals := 130 } (Pm g [.ref (α 6 d 0), .ref (α 0 3 0)] sz (M)) (Qrd (some (.int (nI (xrF ν χ d (ν 1)))))) 0 0 (nofree) := by
  refine met_of (by decide) (Nat.le_of_ble_eq_true rfl) ?_
  intro pr en s mi below meth co hx hb hr hml hown hlocks hnm hT hsz hP hK ls hl
  have hl : lv_has ls 4 [(0, .ref (α 6 d 0)), (1, .ref (α 0 3 0))] := hl
  have hN6 : ν 1 ≤ 600 := hN.2.2.2.2.2
  refine lv_iconst (v := 0) hx hb d_Door_countRuns_0 (by decide) ?_
  refine lv_istore_n (lv' := [(2, .int 0), (0, .ref (α 6 d 0)), (1, .ref (α 0 3 0))]) hx hb d_Door_countRuns_1 rfl hl (by decide) rfl (fun ls hl => ?_)
  refine lv_iconst (v := 1) hx hb d_Door_countRuns_2 (by decide) ?_
  refine lv_istore_n (lv' := [(3, .int 1), (2, .int 0), (0, .ref (α 6 d 0)), (1, .ref (α 0 3 0))]) hx hb d_Door_countRuns_3 rfl hl (by decide) rfl (fun ls hl => ?_)
  refine W.rep (α := Array Slot × Nat) (fun (ls, k) => ν 1 - k) (fun (ls, k) => lv_has ls 4 [(0, .ref (α 6 d 0)), (1, .ref (α 0 3 0)), (2, .int (nI (xrF ν χ d k))), (3, .int (nI (k + 1)))] ∧ k ≤ ν 1) (fun (ls, k) => s.heap) (fun (ls, k) => []) (fun (ls, k) => F0 mi 4 ls []) ?_ (ls, 0) ⟨lv_sub hl [2, 3, 1, 0] rfl, Nat.zero_le _⟩
  rintro ⟨ls, k⟩ ⟨hl, hi1⟩ ih
  dsimp only at hl hi1 ih ⊢
  refine lv_iload_n hx hb d_Door_countRuns_4 rfl (lv_at hl 3 rfl) ?_
  refine lv_aload_n hx hb d_Door_countRuns_5 rfl (lv_at hl 1 rfl) ?_
  refine rd_run (c_V (As := []) (rest := [.int (nI (k + 1))]) hx hb hml hl.1 hown hT hK hP (c_EL_made l g M α ν χ s.heap.size hW) kw_EL_made w589 w132 w133 w5 hd_EL_made rfl rfl ⟨by decide, by decide⟩ (hw_03 hW) rfl rfl rfl (Nat.le_of_ble_eq_true rfl) d_Door_countRuns_6 ⟨by decide, by decide⟩) rfl ?_
  refine lv_icmp_gt (tgt := 30) hx hb d_Door_countRuns_9 (by decide) (fun c1 => ?_) (fun c1 => ?_)
  · skip
    have hk : k = ν 1 := by have := lt_of c1 (by omega) (by omega); omega
    refine lv_iload_n hx hb d_Door_countRuns_30 rfl (lv_at hl 2 rfl) ?_
    exact rd_iret hx hb hr hlocks (by first | contradiction | rw [hk]) d_Door_countRuns_31
  · skip
    have hk : k < ν 1 := by rcases Nat.lt_or_ge k (ν 1) with h9 | h9; exact h9; exact absurd (nI_lt (a := ν 1) (b := k + 1) (by omega) (by omega)) c1
    refine lv_aload_n hx hb d_Door_countRuns_12 rfl (lv_at hl 0 rfl) ?_
    refine lv_iload_n hx hb d_Door_countRuns_13 rfl (lv_at hl 3 rfl) ?_
    refine lv_aload_n hx hb d_Door_countRuns_14 rfl (lv_at hl 1 rfl) ?_
    refine rd_run (c_V (As := [.int (nI (k + 1)), .ref (α 0 3 0)]) (rest := []) hx hb hml hl.1 hown hT hK hP (c_Door_startsRun l g M α ν χ d (k + 1) s.heap.size hW hN (by omega) (by omega) hd) kw_Door_startsRun w599 w601 selp_Door_startsRun w6 hd_Door_startsRun rfl rfl ⟨by decide, by decide⟩ (hw_dr hW hd) rfl rfl rfl (Nat.le_of_ble_eq_true rfl) d_Door_countRuns_15 ⟨by decide, by decide⟩) rfl ?_
    refine lv_if_eq (tgt := 24) hx hb d_Door_countRuns_18 (by decide) (fun c2 => ?_) (fun c2 => ?_)
    · skip
      have hrec : xrF ν χ d (k + 1) = xrF ν χ d k := if_pos c2
      refine lv_iinc (v := nI (k + 1 + 1)) (lv' := [(3, .int (nI (k + 1 + 1))), (0, .ref (α 6 d 0)), (1, .ref (α 0 3 0)), (2, .int (nI (xrF ν χ d k)))]) hx hb d_Door_countRuns_24 hl (k := 3) rfl (nI_1 (k + 1)) (by decide) rfl (fun ls hl => ?_)
      refine lv_goto (tgt := 4) hx hb d_Door_countRuns_27 (by decide) ?_
      exact ih (_, k + 1) ⟨by rw [hrec]; exact lv_sub hl [1, 2, 3, 0] rfl, by omega⟩ (by omega)
    · skip
      have hrec : xrF ν χ d (k + 1) = xrF ν χ d k + 1 := if_neg c2
      refine lv_iinc (v := nI (xrF ν χ d k + 1)) (lv' := [(2, .int (nI (xrF ν χ d k + 1))), (0, .ref (α 6 d 0)), (1, .ref (α 0 3 0)), (3, .int (nI (k + 1)))]) hx hb d_Door_countRuns_21 hl (k := 2) rfl (nI_1 _) (by decide) rfl (fun ls hl => ?_)
      refine lv_iinc (v := nI (k + 1 + 1)) (lv' := [(3, .int (nI (k + 1 + 1))), (2, .int (nI (xrF ν χ d k + 1))), (0, .ref (α 6 d 0)), (1, .ref (α 0 3 0))]) hx hb d_Door_countRuns_24 hl (k := 3) rfl (nI_1 (k + 1)) (by decide) rfl (fun ls hl => ?_)
      refine lv_goto (tgt := 4) hx hb d_Door_countRuns_27 (by decide) ?_
      exact ih (_, k + 1) ⟨by rw [hrec]; exact lv_sub hl [2, 3, 1, 0] rfl, by omega⟩ (by omega)
set_option maxHeartbeats 4000000 in
set_option maxRecDepth 100000 in
theorem c_Door_startOfRun_z (l : Launch) (g : GG) (M : MW) (α : AL3) (ν : Nat → Nat) (χ : SG) (d : Nat) (i : Int32) (sz : Nat) (hW : HW g α ν χ M) (hN : nOK ν) (hd : d < 200) (hz : ∀ j, j < xrF ν χ d (ν 1) → ¬ nI j = i) : Met l y_Door_startOfRun (k_Door_startOfRun :: TT) { frames := 6, cells := 0, slots := 0, locals := 130 } (Pm g [.ref (α 6 d 0), .int i, .ref (α 0 3 0)] sz (M)) (Qrd (some (.int 0))) 0 0 (nofree) := by
  refine met_of (by decide) (Nat.le_of_ble_eq_true rfl) ?_
  intro pr en s mi below meth co hx hb hr hml hown hlocks hnm hT hsz hP hK ls hl
  have hl : lv_has ls 5 [(0, .ref (α 6 d 0)), (1, .int i), (2, .ref (α 0 3 0))] := hl
  have hN6 : ν 1 ≤ 600 := hN.2.2.2.2.2
  have hrl := xrF_le ν χ d (ν 1)
  refine lv_iconst (v := 0) hx hb d_Door_startOfRun_0 (by decide) ?_
  refine lv_istore_n (lv' := [(3, .int 0), (0, .ref (α 6 d 0)), (1, .int i), (2, .ref (α 0 3 0))]) hx hb d_Door_startOfRun_1 rfl hl (by decide) rfl (fun ls hl => ?_)
  refine lv_iconst (v := 1) hx hb d_Door_startOfRun_2 (by decide) ?_
  refine lv_istore (lv' := [(4, .int 1), (3, .int 0), (0, .ref (α 6 d 0)), (1, .int i), (2, .ref (α 0 3 0))]) hx hb d_Door_startOfRun_3 hl (by decide) rfl (fun ls hl => ?_)
  refine W.rep (α := Array Slot × Nat) (fun (ls, k) => ν 1 - k) (fun (ls, k) => lv_has ls 5 [(0, .ref (α 6 d 0)), (1, .int i), (2, .ref (α 0 3 0)), (3, .int (nI (xrF ν χ d k))), (4, .int (nI (k + 1)))] ∧ k ≤ ν 1) (fun (ls, k) => s.heap) (fun (ls, k) => []) (fun (ls, k) => F0 mi 5 ls []) ?_ (ls, 0) ⟨lv_sub hl [2, 3, 4, 1, 0] rfl, Nat.zero_le _⟩
  rintro ⟨ls, k⟩ ⟨hl, hi1⟩ ih
  dsimp only at hl hi1 ih ⊢
  refine lv_iload hx hb d_Door_startOfRun_5 (lv_at hl 4 rfl) ?_
  refine lv_aload_n hx hb d_Door_startOfRun_7 rfl (lv_at hl 2 rfl) ?_
  refine rd_run (c_V (As := []) (rest := [.int (nI (k + 1))]) hx hb hml hl.1 hown hT hK hP (c_EL_made l g M α ν χ s.heap.size hW) kw_EL_made w589 w132 w133 w5 hd_EL_made rfl rfl ⟨by decide, by decide⟩ (hw_03 hW) rfl rfl rfl (Nat.le_of_ble_eq_true rfl) d_Door_startOfRun_8 ⟨by decide, by decide⟩) rfl ?_
  refine lv_icmp_gt (tgt := 41) hx hb d_Door_startOfRun_11 (by decide) (fun c1 => ?_) (fun c1 => ?_)
  · skip
    have hk : k = ν 1 := by have := lt_of c1 (by omega) (by omega); omega
    refine lv_iconst (v := 0) hx hb d_Door_startOfRun_41 (by decide) ?_
    exact rd_iret hx hb hr hlocks (rfl) d_Door_startOfRun_42
  · skip
    have hk : k < ν 1 := by rcases Nat.lt_or_ge k (ν 1) with h9 | h9; exact h9; exact absurd (nI_lt (a := ν 1) (b := k + 1) (by omega) (by omega)) c1
    have hkm := xrF_mono ν χ d (k + 1) (ν 1 - (k + 1))
    rw [show k + 1 + (ν 1 - (k + 1)) = ν 1 by omega] at hkm
    refine lv_aload_n hx hb d_Door_startOfRun_14 rfl (lv_at hl 0 rfl) ?_
    refine lv_iload hx hb d_Door_startOfRun_15 (lv_at hl 4 rfl) ?_
    refine lv_aload_n hx hb d_Door_startOfRun_17 rfl (lv_at hl 2 rfl) ?_
    refine rd_run (c_V (As := [.int (nI (k + 1)), .ref (α 0 3 0)]) (rest := []) hx hb hml hl.1 hown hT hK hP (c_Door_startsRun l g M α ν χ d (k + 1) s.heap.size hW hN (by omega) (by omega) hd) kw_Door_startsRun w599 w601 selp_Door_startsRun w6 hd_Door_startsRun rfl rfl ⟨by decide, by decide⟩ (hw_dr hW hd) rfl rfl rfl (Nat.le_of_ble_eq_true rfl) d_Door_startOfRun_18 ⟨by decide, by decide⟩) rfl ?_
    refine lv_if_eq (tgt := 35) hx hb d_Door_startOfRun_21 (by decide) (fun c2 => ?_) (fun c2 => ?_)
    · skip
      have hrec : xrF ν χ d (k + 1) = xrF ν χ d k := if_pos c2
      refine lv_iinc (v := nI (k + 1 + 1)) (lv' := [(4, .int (nI (k + 1 + 1))), (0, .ref (α 6 d 0)), (1, .int i), (2, .ref (α 0 3 0)), (3, .int (nI (xrF ν χ d k)))]) hx hb d_Door_startOfRun_35 hl (k := 4) rfl (nI_1 (k + 1)) (by decide) rfl (fun ls hl => ?_)
      refine lv_goto (tgt := 5) hx hb d_Door_startOfRun_38 (by decide) ?_
      exact ih (_, k + 1) ⟨by rw [hrec]; exact lv_sub hl [1, 2, 3, 4, 0] rfl, by omega⟩ (by omega)
    · skip
      have hrec : xrF ν χ d (k + 1) = xrF ν χ d k + 1 := if_neg c2
      refine lv_iload_n hx hb d_Door_startOfRun_24 rfl (lv_at hl 3 rfl) ?_
      refine lv_iload_n hx hb d_Door_startOfRun_25 rfl (lv_at hl 1 rfl) ?_
      refine lv_icmp_ne (tgt := 32) hx hb d_Door_startOfRun_26 (by decide) (fun _ => ?_) (fun hq9 => absurd hq9 (hz _ (by omega)))
      refine lv_iinc (v := nI (xrF ν χ d k + 1)) (lv' := [(3, .int (nI (xrF ν χ d k + 1))), (0, .ref (α 6 d 0)), (1, .int i), (2, .ref (α 0 3 0)), (4, .int (nI (k + 1)))]) hx hb d_Door_startOfRun_32 hl (k := 3) rfl (nI_1 _) (by decide) rfl (fun ls hl => ?_)
      refine lv_iinc (v := nI (k + 1 + 1)) (lv' := [(4, .int (nI (k + 1 + 1))), (3, .int (nI (xrF ν χ d k + 1))), (0, .ref (α 6 d 0)), (1, .int i), (2, .ref (α 0 3 0))]) hx hb d_Door_startOfRun_35 hl (k := 4) rfl (nI_1 (k + 1)) (by decide) rfl (fun ls hl => ?_)
      refine lv_goto (tgt := 5) hx hb d_Door_startOfRun_38 (by decide) ?_
      exact ih (_, k + 1) ⟨by rw [hrec]; exact lv_sub hl [2, 3, 4, 1, 0] rfl, by omega⟩ (by omega)
theorem xRun_ex (ν : Nat → Nat) (χ : SG) (d i : Nat) : ∀ n, i < xrF ν χ d n → ∃ k, k ≤ n ∧ 1 ≤ k ∧ xRun ν χ d i k
  | 0, h => absurd h (Nat.not_lt_zero i)
  | n + 1, h => by
    rcases Nat.lt_or_ge i (xrF ν χ d n) with h2 | h2
    · obtain ⟨k, h3, h4, h5⟩ := xRun_ex ν χ d i n h2
      exact ⟨k, by omega, h4, h5⟩
    · have h3 : xrF ν χ d (n + 1) ≤ xrF ν χ d n + 1 := by
        show (if bI (xhs ν χ d (n + 1) ∧ ¬ xhs ν χ d n) = 0 then xrF ν χ d n else xrF ν χ d n + 1) ≤ xrF ν χ d n + 1
        split <;> omega
      refine ⟨n + 1, Nat.le_refl _, by omega, by omega, fun j hj => ?_⟩
      have h4 := xrF_mono ν χ d j (n - j)
      rw [show j + (n - j) = n by omega] at h4
      omega
set_option maxHeartbeats 4000000 in
set_option maxRecDepth 100000 in
theorem c_Door_startOfRun (l : Launch) (g : GG) (M : MW) (α : AL3) (ν : Nat → Nat) (χ : SG) (d i k0 : Nat) (sz : Nat) (hW : HW g α ν χ M) (hN : nOK ν) (hd : d < 200) (hr1 : xRun ν χ d i k0) (hk0 : k0 ≤ ν 1) (hk1 : 1 ≤ k0) : Met l y_Door_startOfRun (k_Door_startOfRun :: TT) { frames := 6, cells := 0, slots := 0, locals := 130 } (Pm g [.ref (α 6 d 0), .int (nI i), .ref (α 0 3 0)] sz (M)) (Qrd (some (.int (nI k0)))) 0 0 (nofree) := by
  refine met_of (by decide) (Nat.le_of_ble_eq_true rfl) ?_
  intro pr en s mi below meth co hx hb hr hml hown hlocks hnm hT hsz hP hK ls hl
  have hl : lv_has ls 5 [(0, .ref (α 6 d 0)), (1, .int (nI i)), (2, .ref (α 0 3 0))] := hl
  have hN6 : ν 1 ≤ 600 := hN.2.2.2.2.2
  have hrl := xrF_le ν χ d
  have hii : i < 2 ^ 30 := by have h1 := hr1.1; have := hrl k0; omega
  refine lv_iconst (v := 0) hx hb d_Door_startOfRun_0 (by decide) ?_
  refine lv_istore_n (lv' := [(3, .int 0), (0, .ref (α 6 d 0)), (1, .int (nI i)), (2, .ref (α 0 3 0))]) hx hb d_Door_startOfRun_1 rfl hl (by decide) rfl (fun ls hl => ?_)
  refine lv_iconst (v := 1) hx hb d_Door_startOfRun_2 (by decide) ?_
  refine lv_istore (lv' := [(4, .int 1), (3, .int 0), (0, .ref (α 6 d 0)), (1, .int (nI i)), (2, .ref (α 0 3 0))]) hx hb d_Door_startOfRun_3 hl (by decide) rfl (fun ls hl => ?_)
  refine W.rep (α := Array Slot × Nat) (fun (ls, k) => ν 1 - k) (fun (ls, k) => lv_has ls 5 [(0, .ref (α 6 d 0)), (1, .int (nI i)), (2, .ref (α 0 3 0)), (3, .int (nI (xrF ν χ d k))), (4, .int (nI (k + 1)))] ∧ k ≤ ν 1 ∧ k < k0) (fun (ls, k) => s.heap) (fun (ls, k) => []) (fun (ls, k) => F0 mi 5 ls []) ?_ (ls, 0) ⟨lv_sub hl [2, 3, 4, 1, 0] rfl, Nat.zero_le _, by omega⟩
  rintro ⟨ls, k⟩ ⟨hl, hi1, hi2⟩ ih
  dsimp only at hl hi1 hi2 ih ⊢
  refine lv_iload hx hb d_Door_startOfRun_5 (lv_at hl 4 rfl) ?_
  refine lv_aload_n hx hb d_Door_startOfRun_7 rfl (lv_at hl 2 rfl) ?_
  refine rd_run (c_V (As := []) (rest := [.int (nI (k + 1))]) hx hb hml hl.1 hown hT hK hP (c_EL_made l g M α ν χ s.heap.size hW) kw_EL_made w589 w132 w133 w5 hd_EL_made rfl rfl ⟨by decide, by decide⟩ (hw_03 hW) rfl rfl rfl (Nat.le_of_ble_eq_true rfl) d_Door_startOfRun_8 ⟨by decide, by decide⟩) rfl ?_
  refine lv_icmp_gt (tgt := 41) hx hb d_Door_startOfRun_11 (by decide) (fun hq9 => absurd hq9 (fun q => absurd (lt_of q (by omega) (by omega)) (by omega))) (fun _ => ?_)
  refine lv_aload_n hx hb d_Door_startOfRun_14 rfl (lv_at hl 0 rfl) ?_
  refine lv_iload hx hb d_Door_startOfRun_15 (lv_at hl 4 rfl) ?_
  refine lv_aload_n hx hb d_Door_startOfRun_17 rfl (lv_at hl 2 rfl) ?_
  refine rd_run (c_V (As := [.int (nI (k + 1)), .ref (α 0 3 0)]) (rest := []) hx hb hml hl.1 hown hT hK hP (c_Door_startsRun l g M α ν χ d (k + 1) s.heap.size hW hN (by omega) (by omega) hd) kw_Door_startsRun w599 w601 selp_Door_startsRun w6 hd_Door_startsRun rfl rfl ⟨by decide, by decide⟩ (hw_dr hW hd) rfl rfl rfl (Nat.le_of_ble_eq_true rfl) d_Door_startOfRun_18 ⟨by decide, by decide⟩) rfl ?_
  refine lv_if_eq (tgt := 35) hx hb d_Door_startOfRun_21 (by decide) (fun c2 => ?_) (fun c2 => ?_)
  · skip
    have hrec : xrF ν χ d (k + 1) = xrF ν χ d k := if_pos c2
    have hlt : k + 1 < k0 := Nat.lt_of_le_of_ne (by omega) (fun z => by have h1 := hr1.1; have h2 := hr1.2 k hi2; rw [← z] at h1; omega)
    refine lv_iinc (v := nI (k + 1 + 1)) (lv' := [(4, .int (nI (k + 1 + 1))), (0, .ref (α 6 d 0)), (1, .int (nI i)), (2, .ref (α 0 3 0)), (3, .int (nI (xrF ν χ d k)))]) hx hb d_Door_startOfRun_35 hl (k := 4) rfl (nI_1 (k + 1)) (by decide) rfl (fun ls hl => ?_)
    refine lv_goto (tgt := 5) hx hb d_Door_startOfRun_38 (by decide) ?_
    exact ih (_, k + 1) ⟨by rw [hrec]; exact lv_sub hl [1, 2, 3, 4, 0] rfl, by omega, hlt⟩ (by omega)
  · skip
    have hrec : xrF ν χ d (k + 1) = xrF ν χ d k + 1 := if_neg c2
    refine lv_iload_n hx hb d_Door_startOfRun_24 rfl (lv_at hl 3 rfl) ?_
    refine lv_iload_n hx hb d_Door_startOfRun_25 rfl (lv_at hl 1 rfl) ?_
    refine lv_icmp_ne (tgt := 32) hx hb d_Door_startOfRun_26 (by decide) (fun c3 => ?_) (fun c3 => ?_)
    · skip
      have hrk := hrl k
      have hlt : k + 1 < k0 := Nat.lt_of_le_of_ne (by omega) (fun z => by have h1 := hr1.1; rw [← z, hrec] at h1; exact c3 (by rw [show xrF ν χ d k = i by omega]))
      refine lv_iinc (v := nI (xrF ν χ d k + 1)) (lv' := [(3, .int (nI (xrF ν χ d k + 1))), (0, .ref (α 6 d 0)), (1, .int (nI i)), (2, .ref (α 0 3 0)), (4, .int (nI (k + 1)))]) hx hb d_Door_startOfRun_32 hl (k := 3) rfl (nI_1 _) (by decide) rfl (fun ls hl => ?_)
      refine lv_iinc (v := nI (k + 1 + 1)) (lv' := [(4, .int (nI (k + 1 + 1))), (3, .int (nI (xrF ν χ d k + 1))), (0, .ref (α 6 d 0)), (1, .int (nI i)), (2, .ref (α 0 3 0))]) hx hb d_Door_startOfRun_35 hl (k := 4) rfl (nI_1 (k + 1)) (by decide) rfl (fun ls hl => ?_)
      refine lv_goto (tgt := 5) hx hb d_Door_startOfRun_38 (by decide) ?_
      exact ih (_, k + 1) ⟨by rw [hrec]; exact lv_sub hl [2, 3, 4, 1, 0] rfl, by omega, hlt⟩ (by omega)
    · skip
      have hrk := hrl k
      have e3 : xrF ν χ d k = i := (nI_eq (by omega) (by omega)).mp c3
      have e4 : k + 1 = k0 := by rcases Nat.lt_or_ge (k + 1) k0 with h9 | h9; (have := hr1.2 (k + 1) h9; omega); omega
      refine lv_iload hx hb d_Door_startOfRun_29 (lv_at hl 4 rfl) ?_
      exact rd_iret hx hb hr hlocks (by first | contradiction | rw [e4]) d_Door_startOfRun_31
set_option maxHeartbeats 4000000 in
set_option maxRecDepth 100000 in
theorem c_Door_judge (l : Launch) (g : GG) (M : MW) (α : AL3) (ν : Nat → Nat) (χ : SG) (c d e2 z : Nat) (day : Int32) (sz : Nat) (hW : HW g α ν χ M) (hN : nOK ν) (hd : d < 200) (hc : c < ν 0) (he : χ 6 c = nI e2) (he9 : e2 < 2 ^ 30) (hz : χ 9 d = nI z) : Met l y_Door_judge (k_Door_judge :: TT) { frames := 5, cells := 0, slots := 0, locals := 108 } (Pm g [.ref (α 6 d 0), .ref (α 1 c 0), .int day, .ref (α 0 3 0)] sz (M)) (Qrd (some (.int (xjd ν χ c d e2 z day)))) 0 0 (nofree) := by
  refine met_of (by decide) (Nat.le_of_ble_eq_true rfl) ?_
  intro pr en s mi below meth co hx hb hr hml hown hlocks hnm hT hsz hP hK ls hl
  have hl : lv_has ls 4 [(0, .ref (α 6 d 0)), (1, .ref (α 1 c 0)), (2, .int day), (3, .ref (α 0 3 0))] := hl
  refine lv_aload_n hx hb d_Door_judge_0 rfl (lv_at hl 0 rfl) ?_
  refine lv_aload_n hx hb d_Door_judge_1 rfl (lv_at hl 1 rfl) ?_
  refine m_getN (ci := 1) (v := .int ((χ) 6 c)) hx hb hT in_Card hown hK hP (hw_card hW hc) rfl 4 (by decide) (va_Nw.use rfl (hK.2.1 _ nw235)) (fun _ h9 => h9) rfl d_Door_judge_2 ?_
  rw [show ((χ) 6 c) = nI e2 from he]
  refine lv_aload_n hx hb d_Door_judge_5 rfl (lv_at hl 3 rfl) ?_
  refine rd_run (c_V (As := [.int (nI e2), .ref (α 0 3 0)]) (rest := []) hx hb hml hl.1 hown hT hK hP (c_Door_has l g M α ν χ d e2 s.heap.size hW hN (by omega) hd) kw_Door_has w509 w510 w511 w6 hd_Door_has rfl rfl ⟨by decide, by decide⟩ (hw_dr hW hd) rfl rfl rfl (Nat.le_of_ble_eq_true rfl) d_Door_judge_6 ⟨by decide, by decide⟩) rfl ?_
  refine lv_if_eq (tgt := 14) hx hb d_Door_judge_9 (by decide) (fun c1 => ?_) (fun c1 => ?_)
  · skip
    have c1 : ¬ ¬ bI (xhs ν χ d e2) = 0 := fun q => q c1
    refine lv_aload_n hx hb d_Door_judge_14 rfl (lv_at hl 1 rfl) ?_
    refine m_getN (ci := 1) (v := .int ((χ) 2 c)) hx hb hT in_Card hown hK hP (hw_card hW hc) rfl 1 (by decide) (va_Nw.use rfl (hK.2.1 _ nw231)) (fun _ h9 => h9) rfl d_Door_judge_15 ?_
    refine lv_iload_n hx hb d_Door_judge_18 rfl (lv_at hl 2 rfl) ?_
    refine lv_icmp_ge (tgt := 24) hx hb d_Door_judge_19 (by decide) (fun c2 => ?_) (fun c2 => ?_)
    · skip
      have c2 : ¬ ¬ day ≤ χ 2 c := fun q => q c2
      refine lv_aload_n hx hb d_Door_judge_24 rfl (lv_at hl 1 rfl) ?_
      refine lv_aload_n hx hb d_Door_judge_25 rfl (lv_at hl 0 rfl) ?_
      refine m_get (ci := 2) (v := .int ((χ) 9 d)) hx hb hT in_Door hown hK hP (hw_dr hW hd) rfl 1 (by decide) (hT _ w77) (fun _ h9 => h9) rfl d_Door_judge_26 ?_
      rw [show ((χ) 9 d) = nI z from hz]
      refine rd_run (c_V (As := [.int (nI z)]) (rest := []) hx hb hml hl.1 hown hT hK hP (c_Card_opens l g M α ν χ c z s.heap.size hW hc) kw_Card_opens w521 w522 w523 w13 hd_Card_opens rfl rfl ⟨by decide, by decide⟩ (hw_card hW hc) rfl rfl rfl (Nat.le_of_ble_eq_true rfl) d_Door_judge_29 ⟨by decide, by decide⟩) rfl ?_
      refine lv_if_eq (tgt := 39) hx hb d_Door_judge_32 (by decide) (fun c3 => ?_) (fun c3 => ?_)
      · skip
        have c3 : ¬ ¬ xop χ c z = 0 := fun q => q c3
        refine lv_iconst (v := 3) hx hb d_Door_judge_39 (by decide) ?_
        exact rd_iret hx hb hr hlocks (by first | contradiction | (unfold xjd; rw [if_neg c1, if_neg c2, if_pos c3]) | (unfold xjd; rw [if_neg c1, if_neg c2, if_neg c3])) d_Door_judge_40
      · skip
        refine lv_iconst (v := 0) hx hb d_Door_judge_35 (by decide) ?_
        refine lv_goto (tgt := 40) hx hb d_Door_judge_36 (by decide) ?_
        exact rd_iret hx hb hr hlocks (by first | contradiction | (unfold xjd; rw [if_neg c1, if_neg c2, if_pos c3]) | (unfold xjd; rw [if_neg c1, if_neg c2, if_neg c3])) d_Door_judge_40
    · skip
      refine lv_iconst (v := 2) hx hb d_Door_judge_22 (by decide) ?_
      exact rd_iret hx hb hr hlocks (by first | contradiction | (unfold xjd; rw [if_neg c1, if_pos c2])) d_Door_judge_23
  · skip
    refine lv_iconst (v := 1) hx hb d_Door_judge_12 (by decide) ?_
    exact rd_iret hx hb hr hlocks (by first | contradiction | (unfold xjd; rw [if_pos c1])) d_Door_judge_13
