/-! The class: entries, the entry list, doors (reading). -/
/-- how large the lists are: the arrays hold what was added -/
def nOK (ν : Nat → Nat) : Prop := ν 0 ≤ ν 2 ∧ ν 1 ≤ ν 3 ∧ ν 2 < 2 ^ 20 ∧ ν 3 < 2 ^ 20 ∧ ν 0 ≤ 600 ∧ ν 1 ≤ 600
noncomputable def bI (p : Prop) : Int32 := @ite Int32 p (Classical.propDecidable p) 1 0
theorem bI_1 {p : Prop} (h : p) : bI p = 1 := if_pos h
theorem bI_0 {p : Prop} (h : ¬ p) : bI p = 0 := if_neg h
theorem bI_z {p : Prop} : bI p = 0 ↔ ¬ p := by
  by_cases h : p
  · rw [bI_1 h]; simp [h]
  · rw [bI_0 h]; simp [h]
theorem bI_n {p : Prop} : ¬ bI p = 0 ↔ p := by rw [bI_z, Classical.not_not]
theorem bI_01 (p : Prop) : bI p = 0 ∨ bI p = 1 := by
  by_cases h : p
  · exact Or.inr (bI_1 h)
  · exact Or.inl (bI_0 h)
/-- the class's 'has': entry e (a number that may be none) at door d -/
def xhs (ν : Nat → Nat) (χ : SG) (d e : Nat) : Prop := 1 ≤ e ∧ e ≤ ν 1 ∧ ¬ χ (rH e) d = 0
def xcd (ν : Nat → Nat) (χ : SG) (e : Nat) : Int32 := if e ≤ ν 1 then χ 7 e else -1
set_option maxHeartbeats 4000000 in
set_option maxRecDepth 100000 in
theorem c_Entry_isAt (l : Launch) (g : GG) (M : MW) (α : AL3) (ν : Nat → Nat) (χ : SG) (e d : Nat) (sz : Nat) (hW : HW g α ν χ M) (h1 : 1 ≤ e) (he : e ≤ ν 1) (hd : d < 200) : Met l y_Entry_isAt (k_Entry_isAt :: TT) { frames := 0, cells := 0, slots := 0, locals := 0 } (Pm g [.ref (α 4 e 0), .int (nI d)] sz (M)) (Qrd (some (.int (bI (¬ χ (rH e) d = 0))))) 0 0 (nofree) := by
  refine met_of (by decide) (Nat.le_of_ble_eq_true rfl) ?_
  intro pr en s mi below meth co hx hb hr hml hown hlocks hnm hT hsz hP hK ls hl
  have hl : lv_has ls 2 [(0, .ref (α 4 e 0)), (1, .int (nI d))] := hl
  refine lv_iload_n hx hb d_Entry_isAt_0 rfl (lv_at hl 1 rfl) ?_
  refine lv_if_lt (tgt := 26) hx hb d_Entry_isAt_1 (by decide) (fun hq9 => absurd hq9 (nI_pos (by omega))) (fun _ => ?_)
  refine lv_iload_n hx hb d_Entry_isAt_4 rfl (lv_at hl 1 rfl) ?_
  refine lv_aload_n hx hb d_Entry_isAt_5 rfl (lv_at hl 0 rfl) ?_
  refine m_get (ci := 3) (v := .ref (α 5 e 0)) hx hb hT in_Entry hown hK hP (hw_en hW h1 he) rfl 1 (by decide) (hT _ w376) (fun _ h9 => h9) rfl d_Entry_isAt_6 ?_
  refine m_alen (v := nI 200) hx hb hK hP 2 (hw_eb hW h1 he) rfl rfl d_Entry_isAt_9 ?_
  refine lv_icmp_ge (tgt := 26) hx hb d_Entry_isAt_10 (by decide) (fun hq9 => absurd hq9 (nI_ge hd (by decide))) (fun _ => ?_)
  refine lv_aload_n hx hb d_Entry_isAt_13 rfl (lv_at hl 0 rfl) ?_
  refine m_get (ci := 3) (v := .ref (α 5 e 0)) hx hb hT in_Entry hown hK hP (hw_en hW h1 he) rfl 1 (by decide) (hT _ w376) (fun _ h9 => h9) rfl d_Entry_isAt_14 ?_
  refine lv_iload_n hx hb d_Entry_isAt_17 rfl (lv_at hl 1 rfl) ?_
  refine m_zald hx hb hK hP 2 (hw_eb hW h1 he) rfl (j := d) (rfl) (hd) (by decide) d_Entry_isAt_18 ?_
  refine lv_if_eq (tgt := 26) hx hb d_Entry_isAt_19 (by decide) (fun c1 => ?_) (fun c1 => ?_)
  · skip
    refine lv_iconst (v := 0) hx hb d_Entry_isAt_26 (by decide) ?_
    exact rd_zret hx hb hr hlocks (by first | contradiction | exact (bI_0 (fun z => z c1)).symm | exact (bI_1 c1).symm) (by first | exact Or.inl rfl | exact Or.inr rfl | assumption | exact smI_01 _ _ _ _ _ _ | exact xtl_01 _ _ _ _ _ _ | exact bI_01 _ | exact xop_01 _ _ _ | exact xic_01 _ _ | exact xid_01 _) d_Entry_isAt_27
  · skip
    refine lv_iconst (v := 1) hx hb d_Entry_isAt_22 (by decide) ?_
    refine lv_goto (tgt := 27) hx hb d_Entry_isAt_23 (by decide) ?_
    exact rd_zret hx hb hr hlocks (by first | contradiction | exact (bI_0 (fun z => z c1)).symm | exact (bI_1 c1).symm) (by first | exact Or.inl rfl | exact Or.inr rfl | assumption | exact smI_01 _ _ _ _ _ _ | exact xtl_01 _ _ _ _ _ _ | exact bI_01 _ | exact xop_01 _ _ _ | exact xic_01 _ _ | exact xid_01 _) d_Entry_isAt_27
def rdF (χ : SG) (e : Nat) : Nat → Nat
  | 0 => 0
  | k + 1 => if χ (rH e) k = 0 then rdF χ e k else rdF χ e k + 1
theorem rdF_le (χ : SG) (e : Nat) : ∀ k, rdF χ e k ≤ k
  | 0 => Nat.le_refl 0
  | k + 1 => by
    have := rdF_le χ e k
    show (if χ (rH e) k = 0 then rdF χ e k else rdF χ e k + 1) ≤ k + 1
    split <;> omega
set_option maxHeartbeats 4000000 in
set_option maxRecDepth 100000 in
theorem c_Entry_countDoors (l : Launch) (g : GG) (M : MW) (α : AL3) (ν : Nat → Nat) (χ : SG) (e : Nat) (sz : Nat) (hW : HW g α ν χ M) (h1 : 1 ≤ e) (he : e ≤ ν 1) : Met l y_Entry_countDoors (k_Entry_countDoors :: TT) { frames := 0, cells := 0, slots := 0, locals := 0 } (Pm g [.ref (α 4 e 0)] sz (M)) (Qrd (some (.int (nI (rdF χ e 200))))) 0 0 (nofree) := by
  refine met_of (by decide) (Nat.le_of_ble_eq_true rfl) ?_
  intro pr en s mi below meth co hx hb hr hml hown hlocks hnm hT hsz hP hK ls hl
  have hl : lv_has ls 6 [(0, .ref (α 4 e 0))] := hl
  refine lv_iconst (v := 0) hx hb d_Entry_countDoors_0 (by decide) ?_
  refine lv_istore_n (lv' := [(1, .int 0), (0, .ref (α 4 e 0))]) hx hb d_Entry_countDoors_1 rfl hl (by decide) rfl (fun ls hl => ?_)
  refine lv_aload_n hx hb d_Entry_countDoors_2 rfl (lv_at hl 1 rfl) ?_
  refine m_get (ci := 3) (v := .ref (α 5 e 0)) hx hb hT in_Entry hown hK hP (hw_en hW h1 he) rfl 1 (by decide) (hT _ w376) (fun _ h9 => h9) rfl d_Entry_countDoors_3 ?_
  refine lv_astore_n (lv' := [(2, .ref (α 5 e 0)), (1, .int 0), (0, .ref (α 4 e 0))]) hx hb d_Entry_countDoors_6 rfl hl (by decide) rfl (fun ls hl => ?_)
  refine lv_aload_n hx hb d_Entry_countDoors_7 rfl (lv_at hl 0 rfl) ?_
  refine m_alen (v := nI 200) hx hb hK hP 2 (hw_eb hW h1 he) rfl rfl d_Entry_countDoors_8 ?_
  refine lv_istore_n (lv' := [(3, .int (nI 200)), (2, .ref (α 5 e 0)), (1, .int 0), (0, .ref (α 4 e 0))]) hx hb d_Entry_countDoors_9 rfl hl (by decide) rfl (fun ls hl => ?_)
  refine lv_iconst (v := 0) hx hb d_Entry_countDoors_10 (by decide) ?_
  refine lv_istore (lv' := [(4, .int 0), (3, .int (nI 200)), (2, .ref (α 5 e 0)), (1, .int 0), (0, .ref (α 4 e 0))]) hx hb d_Entry_countDoors_11 hl (by decide) rfl (fun ls hl => ?_)
  refine W.rep (α := Array Slot × Nat) (fun (ls, k) => 200 - k) (fun (ls, k) => lv_has ls 6 [(0, .ref (α 4 e 0)), (1, .int (nI (rdF χ e k))), (2, .ref (α 5 e 0)), (3, .int (nI 200)), (4, .int (nI k))] ∧ k ≤ 200) (fun (ls, k) => s.heap) (fun (ls, k) => []) (fun (ls, k) => F0 mi 13 ls []) ?_ (ls, 0) ⟨lv_sub hl [4, 3, 2, 1, 0] rfl, by omega⟩
  rintro ⟨ls, k⟩ ⟨hl, hi1⟩ ih
  dsimp only at hl hi1 ih ⊢
  refine lv_iload hx hb d_Entry_countDoors_13 (lv_at hl 4 rfl) ?_
  refine lv_iload_n hx hb d_Entry_countDoors_15 rfl (lv_at hl 3 rfl) ?_
  refine lv_icmp_ge (tgt := 39) hx hb d_Entry_countDoors_16 (by decide) (fun c1 => ?_) (fun c1 => ?_)
  · skip
    have hk : k = 200 := by have := ge_of c1 (by decide) (by omega); omega
    subst hk
    refine lv_iload_n hx hb d_Entry_countDoors_39 rfl (lv_at hl 1 rfl) ?_
    exact rd_iret hx hb hr hlocks (rfl) d_Entry_countDoors_40
  · skip
    have hk : k < 200 := by rcases Nat.lt_or_ge k 200 with h9 | h9; exact h9; exact absurd (nI_le h9 (by omega)) c1
    refine lv_aload_n hx hb d_Entry_countDoors_19 rfl (lv_at hl 2 rfl) ?_
    refine lv_iload hx hb d_Entry_countDoors_20 (lv_at hl 4 rfl) ?_
    refine m_zald hx hb hK hP 2 (hw_eb hW h1 he) rfl (j := k) (rfl) (hk) (by decide) d_Entry_countDoors_22 ?_
    refine lv_istore (lv' := [(5, .int ((χ) (rH e) (k))), (0, .ref (α 4 e 0)), (1, .int (nI (rdF χ e k))), (2, .ref (α 5 e 0)), (3, .int (nI 200)), (4, .int (nI k))]) hx hb d_Entry_countDoors_23 hl (by decide) rfl (fun ls hl => ?_)
    refine lv_iload hx hb d_Entry_countDoors_25 (lv_at hl 0 rfl) ?_
    refine lv_if_eq (tgt := 33) hx hb d_Entry_countDoors_27 (by decide) (fun c2 => ?_) (fun c2 => ?_)
    · skip
      have hrec : rdF χ e (k + 1) = rdF χ e k := if_pos c2
      refine lv_iinc (v := nI (k + 1)) (lv' := [(4, .int (nI (k + 1))), (5, .int ((χ) (rH e) (k))), (0, .ref (α 4 e 0)), (1, .int (nI (rdF χ e k))), (2, .ref (α 5 e 0)), (3, .int (nI 200))]) hx hb d_Entry_countDoors_33 hl (k := 5) rfl (nI_1 k) (by decide) rfl (fun ls hl => ?_)
      refine lv_goto (tgt := 13) hx hb d_Entry_countDoors_36 (by decide) ?_
      exact ih (_, k + 1) ⟨by rw [hrec]; exact lv_sub hl [2, 3, 4, 5, 0] rfl, by omega⟩ (by omega)
    · skip
      have hrec : rdF χ e (k + 1) = rdF χ e k + 1 := if_neg c2
      refine lv_iinc (v := nI (rdF χ e k + 1)) (lv' := [(1, .int (nI (rdF χ e k + 1))), (5, .int ((χ) (rH e) (k))), (0, .ref (α 4 e 0)), (2, .ref (α 5 e 0)), (3, .int (nI 200)), (4, .int (nI k))]) hx hb d_Entry_countDoors_30 hl (k := 2) rfl (nI_1 _) (by decide) rfl (fun ls hl => ?_)
      refine lv_iinc (v := nI (k + 1)) (lv' := [(4, .int (nI (k + 1))), (1, .int (nI (rdF χ e k + 1))), (5, .int ((χ) (rH e) (k))), (0, .ref (α 4 e 0)), (2, .ref (α 5 e 0)), (3, .int (nI 200))]) hx hb d_Entry_countDoors_33 hl (k := 5) rfl (nI_1 k) (by decide) rfl (fun ls hl => ?_)
      refine lv_goto (tgt := 13) hx hb d_Entry_countDoors_36 (by decide) ?_
      exact ih (_, k + 1) ⟨by rw [hrec]; exact lv_sub hl [3, 1, 4, 5, 0] rfl, by omega⟩ (by omega)
set_option maxHeartbeats 4000000 in
set_option maxRecDepth 100000 in
theorem c_EL_made (l : Launch) (g : GG) (M : MW) (α : AL3) (ν : Nat → Nat) (χ : SG) (sz : Nat) (hW : HW g α ν χ M) : Met l y_EL_made (k_EL_made :: TT) { frames := 1, cells := 0, slots := 0, locals := 20 } (Pm g [.ref (α 0 3 0)] sz (M)) (Qrd (some (.int (nI (ν 1))))) 0 0 (nofree) := by
  refine met_of (by decide) (Nat.le_of_ble_eq_true rfl) ?_
  intro pr en s mi below meth co hx hb hr hml hown hlocks hnm hT hsz hP hK ls hl
  have hl : lv_has ls 1 [(0, .ref (α 0 3 0))] := hl
  refine lv_aload_n hx hb d_EL_made_0 rfl (lv_at hl 0 rfl) ?_
  refine m_get (ci := 4) (v := .ref (α 0 4 0)) hx hb hT in_EL hown hK hP (hw_03 hW) rfl 0 (by decide) (hT _ w65) (fun _ h9 => h9) rfl d_EL_made_1 ?_
  refine rd_run (c_V (As := []) (rest := []) hx hb hml hl.1 hown hT hK hP (c_AL_size l g M (α 0 4 0) (α 0 5 0) (nI (ν 1)) (χ 0 4) s.heap.size (hw_04 hW)) kw_AL_size w135 w124 w125 w4 hd_AL_size rfl rfl ⟨by decide, by decide⟩ (hw_04 hW) rfl rfl rfl (Nat.le_of_ble_eq_true rfl) d_EL_made_4 ⟨by decide, by decide⟩) rfl ?_
  exact rd_iret hx hb hr hlocks (rfl) d_EL_made_7
set_option maxHeartbeats 4000000 in
set_option maxRecDepth 100000 in
theorem c_EL_holds (l : Launch) (g : GG) (M : MW) (α : AL3) (ν : Nat → Nat) (χ : SG) (e : Nat) (sz : Nat) (hW : HW g α ν χ M) (hN : nOK ν) (he9 : e < 2 ^ 30) : Met l y_EL_holds (k_EL_holds :: TT) { frames := 1, cells := 0, slots := 0, locals := 20 } (Pm g [.ref (α 0 3 0), .int (nI e)] sz (M)) (Qrd (some (.int (bI (1 ≤ e ∧ e ≤ ν 1))))) 0 0 (nofree) := by
  refine met_of (by decide) (Nat.le_of_ble_eq_true rfl) ?_
  intro pr en s mi below meth co hx hb hr hml hown hlocks hnm hT hsz hP hK ls hl
  have hl : lv_has ls 2 [(0, .ref (α 0 3 0)), (1, .int (nI e))] := hl
  have hN6 : ν 1 ≤ 600 := hN.2.2.2.2.2
  refine lv_iload_n hx hb d_EL_holds_0 rfl (lv_at hl 1 rfl) ?_
  refine lv_iconst (v := 1) hx hb d_EL_holds_1 (by decide) ?_
  refine lv_icmp_lt (tgt := 20) hx hb d_EL_holds_2 (by decide) (fun c1 => ?_) (fun c1 => ?_)
  · skip
    have c1 : e < 1 := lt_of (b := 1) c1 (by omega) (by decide)
    refine lv_iconst (v := 0) hx hb d_EL_holds_20 (by decide) ?_
    exact rd_zret hx hb hr hlocks (by first | contradiction | exact (bI_0 (fun z => by omega)).symm | exact (bI_1 ⟨by omega, by omega⟩).symm) (by first | exact Or.inl rfl | exact Or.inr rfl | assumption | exact smI_01 _ _ _ _ _ _ | exact xtl_01 _ _ _ _ _ _ | exact bI_01 _ | exact xop_01 _ _ _ | exact xic_01 _ _ | exact xid_01 _) d_EL_holds_21
  · skip
    have c1 : ¬ e < 1 := fun z => c1 (nI_lt (b := 1) z (by decide))
    refine lv_iload_n hx hb d_EL_holds_5 rfl (lv_at hl 1 rfl) ?_
    refine lv_aload_n hx hb d_EL_holds_6 rfl (lv_at hl 0 rfl) ?_
    refine m_get (ci := 4) (v := .ref (α 0 4 0)) hx hb hT in_EL hown hK hP (hw_03 hW) rfl 0 (by decide) (hT _ w65) (fun _ h9 => h9) rfl d_EL_holds_7 ?_
    refine rd_run (c_V (As := []) (rest := [.int (nI e)]) hx hb hml hl.1 hown hT hK hP (c_AL_size l g M (α 0 4 0) (α 0 5 0) (nI (ν 1)) (χ 0 4) s.heap.size (hw_04 hW)) kw_AL_size w135 w124 w125 w4 hd_AL_size rfl rfl ⟨by decide, by decide⟩ (hw_04 hW) rfl rfl rfl (Nat.le_of_ble_eq_true rfl) d_EL_holds_10 ⟨by decide, by decide⟩) rfl ?_
    refine lv_icmp_gt (tgt := 20) hx hb d_EL_holds_13 (by decide) (fun c2 => ?_) (fun c2 => ?_)
    · skip
      have c2 : ν 1 < e := lt_of c2 (by omega) (by omega)
      refine lv_iconst (v := 0) hx hb d_EL_holds_20 (by decide) ?_
      exact rd_zret hx hb hr hlocks (by first | contradiction | exact (bI_0 (fun z => by omega)).symm | exact (bI_1 ⟨by omega, by omega⟩).symm) (by first | exact Or.inl rfl | exact Or.inr rfl | assumption | exact smI_01 _ _ _ _ _ _ | exact xtl_01 _ _ _ _ _ _ | exact bI_01 _ | exact xop_01 _ _ _ | exact xic_01 _ _ | exact xid_01 _) d_EL_holds_21
    · skip
      have c2 : ¬ ν 1 < e := fun z => c2 (nI_lt z (by omega))
      refine lv_iconst (v := 1) hx hb d_EL_holds_16 (by decide) ?_
      refine lv_goto (tgt := 21) hx hb d_EL_holds_17 (by decide) ?_
      exact rd_zret hx hb hr hlocks (by first | contradiction | exact (bI_0 (fun z => by omega)).symm | exact (bI_1 ⟨by omega, by omega⟩).symm) (by first | exact Or.inl rfl | exact Or.inr rfl | assumption | exact smI_01 _ _ _ _ _ _ | exact xtl_01 _ _ _ _ _ _ | exact bI_01 _ | exact xop_01 _ _ _ | exact xic_01 _ _ | exact xid_01 _) d_EL_holds_21
set_option maxHeartbeats 4000000 in
set_option maxRecDepth 100000 in
theorem c_EL_cardOf (l : Launch) (g : GG) (M : MW) (α : AL3) (ν : Nat → Nat) (χ : SG) (e : Nat) (sz : Nat) (hW : HW g α ν χ M) (hN : nOK ν) (he9 : e < 2 ^ 30) (h0 : 1 ≤ e) : Met l y_EL_cardOf (k_EL_cardOf :: TT) { frames := 3, cells := 0, slots := 0, locals := 64 } (Pm g [.ref (α 0 3 0), .int (nI e)] sz (M)) (Qrd (some (.int (xcd ν χ e)))) 0 0 (nofree) := by
  refine met_of (by decide) (Nat.le_of_ble_eq_true rfl) ?_
  intro pr en s mi below meth co hx hb hr hml hown hlocks hnm hT hsz hP hK ls hl
  have hl : lv_has ls 2 [(0, .ref (α 0 3 0)), (1, .int (nI e))] := hl
  have hN6 : ν 1 ≤ 600 := hN.2.2.2.2.2
  have hN3 : ν 1 ≤ ν 3 := hN.2.1
  have hN4 : ν 3 < 2 ^ 20 := hN.2.2.2.1
  refine lv_aload_n hx hb d_EL_cardOf_0 rfl (lv_at hl 0 rfl) ?_
  refine lv_iload_n hx hb d_EL_cardOf_1 rfl (lv_at hl 1 rfl) ?_
  refine rd_run (c_V (As := [.int (nI e)]) (rest := []) hx hb hml hl.1 hown hT hK hP (c_EL_holds l g M α ν χ e s.heap.size hW hN (by omega)) kw_EL_holds w436 w438 selp_EL_holds w5 hd_EL_holds rfl rfl ⟨by decide, by decide⟩ (hw_03 hW) rfl rfl rfl (Nat.le_of_ble_eq_true rfl) d_EL_cardOf_2 ⟨by decide, by decide⟩) rfl ?_
  refine lv_if_eq (tgt := 27) hx hb d_EL_cardOf_5 (by decide) (fun c1 => ?_) (fun c1 => ?_)
  · skip
    have c1 := bI_z.mp c1
    refine lv_iconst (v := (-1)) hx hb d_EL_cardOf_27 (by decide) ?_
    exact rd_iret hx hb hr hlocks (by first | contradiction | (unfold xcd; rw [if_neg (by omega)]) | (unfold xcd; rw [if_pos he])) d_EL_cardOf_28
  · skip
    have c1 := bI_n.mp c1
    have h1 := c1.1
    have he := c1.2
    refine lv_aload_n hx hb d_EL_cardOf_8 rfl (lv_at hl 0 rfl) ?_
    refine m_get (ci := 4) (v := .ref (α 0 4 0)) hx hb hT in_EL hown hK hP (hw_03 hW) rfl 0 (by decide) (hT _ w65) (fun _ h9 => h9) rfl d_EL_cardOf_9 ?_
    refine lv_iload_n hx hb d_EL_cardOf_12 rfl (lv_at hl 1 rfl) ?_
    refine lv_iconst (v := 1) hx hb d_EL_cardOf_13 (by decide) ?_
    refine lv_isub hx hb d_EL_cardOf_14 ?_
    rw [show ((nI e) - 1) = nI (e - 1) from pk_sub (a := e) (b := 1) h1]
    refine rd_run (c_V (As := [.int (nI (e - 1))]) (rest := []) hx hb hml hl.1 hown hT hK hP (c_AL_get l g M (α 0 4 0) (α 0 5 0) (ν 1) (ν 3) (e - 1) (α 4 e 0) (χ 0 4) (fun q => if q < ν 1 then some (α 4 (q + 1) 0) else none) s.heap.size (hw_04 hW) (hw_05 hW (by omega)) (by omega) hN.2.1 (by omega) (by rw [if_pos (by omega), Nat.sub_add_cancel h1])) kw_AL_get w440 w350 w351 w4 hd_AL_get rfl rfl ⟨by decide, by decide⟩ (hw_04 hW) rfl rfl rfl (Nat.le_of_ble_eq_true rfl) d_EL_cardOf_15 ⟨by decide, by decide⟩) rfl ?_
    refine va_castY (C := "LockHouse$Entry") hx hb hown (hT _ w368) (hK.2.1 _ nw881) (hP.recv hK (hw_en hW h1 he) rfl) d_EL_cardOf_18 ?_
    refine m_getN (ci := 3) (v := .int ((χ) 7 e)) hx hb hT in_Entry hown hK hP (hw_en hW h1 he) rfl 0 (by decide) (va_Nw.use rfl (hK.2.1 _ nw375)) (fun _ h9 => h9) rfl d_EL_cardOf_21 ?_
    refine lv_goto (tgt := 28) hx hb d_EL_cardOf_24 (by decide) ?_
    exact rd_iret hx hb hr hlocks (by first | contradiction | (unfold xcd; rw [if_neg (by omega)]) | (unfold xcd; rw [if_pos he])) d_EL_cardOf_28
set_option maxHeartbeats 4000000 in
set_option maxRecDepth 100000 in
theorem c_EL_isAt (l : Launch) (g : GG) (M : MW) (α : AL3) (ν : Nat → Nat) (χ : SG) (e d : Nat) (sz : Nat) (hW : HW g α ν χ M) (hN : nOK ν) (he9 : e < 2 ^ 30) (hd : d < 200) : Met l y_EL_isAt (k_EL_isAt :: TT) { frames := 3, cells := 0, slots := 0, locals := 64 } (Pm g [.ref (α 0 3 0), .int (nI e), .int (nI d)] sz (M)) (Qrd (some (.int (bI (xhs ν χ d e))))) 0 0 (nofree) := by
  refine met_of (by decide) (Nat.le_of_ble_eq_true rfl) ?_
  intro pr en s mi below meth co hx hb hr hml hown hlocks hnm hT hsz hP hK ls hl
  have hl : lv_has ls 3 [(0, .ref (α 0 3 0)), (1, .int (nI e)), (2, .int (nI d))] := hl
  have hN6 : ν 1 ≤ 600 := hN.2.2.2.2.2
  have hN3 : ν 1 ≤ ν 3 := hN.2.1
  have hN4 : ν 3 < 2 ^ 20 := hN.2.2.2.1
  refine lv_aload_n hx hb d_EL_isAt_0 rfl (lv_at hl 0 rfl) ?_
  refine lv_iload_n hx hb d_EL_isAt_1 rfl (lv_at hl 1 rfl) ?_
  refine rd_run (c_V (As := [.int (nI e)]) (rest := []) hx hb hml hl.1 hown hT hK hP (c_EL_holds l g M α ν χ e s.heap.size hW hN (by omega)) kw_EL_holds w436 w438 selp_EL_holds w5 hd_EL_holds rfl rfl ⟨by decide, by decide⟩ (hw_03 hW) rfl rfl rfl (Nat.le_of_ble_eq_true rfl) d_EL_isAt_2 ⟨by decide, by decide⟩) rfl ?_
  refine lv_if_eq (tgt := 32) hx hb d_EL_isAt_5 (by decide) (fun c1 => ?_) (fun c1 => ?_)
  · skip
    have c1 := bI_z.mp c1
    refine lv_iconst (v := 0) hx hb d_EL_isAt_32 (by decide) ?_
    exact rd_zret hx hb hr hlocks (by first | contradiction | exact (bI_0 (fun z => c1 ⟨z.1, z.2.1⟩)).symm | exact (bI_0 (fun z => c2 z.2.2)).symm | exact (bI_1 ⟨h1, he, c2⟩).symm) (by first | exact Or.inl rfl | exact Or.inr rfl | assumption | exact smI_01 _ _ _ _ _ _ | exact xtl_01 _ _ _ _ _ _ | exact bI_01 _ | exact xop_01 _ _ _ | exact xic_01 _ _ | exact xid_01 _) d_EL_isAt_33
  · skip
    have c1 := bI_n.mp c1
    have h1 := c1.1
    have he := c1.2
    refine lv_aload_n hx hb d_EL_isAt_8 rfl (lv_at hl 0 rfl) ?_
    refine m_get (ci := 4) (v := .ref (α 0 4 0)) hx hb hT in_EL hown hK hP (hw_03 hW) rfl 0 (by decide) (hT _ w65) (fun _ h9 => h9) rfl d_EL_isAt_9 ?_
    refine lv_iload_n hx hb d_EL_isAt_12 rfl (lv_at hl 1 rfl) ?_
    refine lv_iconst (v := 1) hx hb d_EL_isAt_13 (by decide) ?_
    refine lv_isub hx hb d_EL_isAt_14 ?_
    rw [show ((nI e) - 1) = nI (e - 1) from pk_sub (a := e) (b := 1) h1]
    refine rd_run (c_V (As := [.int (nI (e - 1))]) (rest := []) hx hb hml hl.1 hown hT hK hP (c_AL_get l g M (α 0 4 0) (α 0 5 0) (ν 1) (ν 3) (e - 1) (α 4 e 0) (χ 0 4) (fun q => if q < ν 1 then some (α 4 (q + 1) 0) else none) s.heap.size (hw_04 hW) (hw_05 hW (by omega)) (by omega) hN.2.1 (by omega) (by rw [if_pos (by omega), Nat.sub_add_cancel h1])) kw_AL_get w440 w350 w351 w4 hd_AL_get rfl rfl ⟨by decide, by decide⟩ (hw_04 hW) rfl rfl rfl (Nat.le_of_ble_eq_true rfl) d_EL_isAt_15 ⟨by decide, by decide⟩) rfl ?_
    refine va_castY (C := "LockHouse$Entry") hx hb hown (hT _ w368) (hK.2.1 _ nw881) (hP.recv hK (hw_en hW h1 he) rfl) d_EL_isAt_18 ?_
    refine lv_iload_n hx hb d_EL_isAt_21 rfl (lv_at hl 2 rfl) ?_
    refine rd_run (c_V (As := [.int (nI d)]) (rest := []) hx hb hml hl.1 hown hT hK hP (c_Entry_isAt l g M α ν χ e d s.heap.size hW h1 he hd) kw_Entry_isAt w517 w518 w519 w21 hd_Entry_isAt rfl rfl ⟨by decide, by decide⟩ (hw_en hW h1 he) rfl rfl rfl (Nat.le_of_ble_eq_true rfl) d_EL_isAt_22 ⟨by decide, by decide⟩) rfl ?_
    refine lv_if_eq (tgt := 32) hx hb d_EL_isAt_25 (by decide) (fun c2 => ?_) (fun c2 => ?_)
    · skip
      have c2 := bI_z.mp c2
      refine lv_iconst (v := 0) hx hb d_EL_isAt_32 (by decide) ?_
      exact rd_zret hx hb hr hlocks (by first | contradiction | exact (bI_0 (fun z => c1 ⟨z.1, z.2.1⟩)).symm | exact (bI_0 (fun z => c2 z.2.2)).symm | exact (bI_1 ⟨h1, he, c2⟩).symm) (by first | exact Or.inl rfl | exact Or.inr rfl | assumption | exact smI_01 _ _ _ _ _ _ | exact xtl_01 _ _ _ _ _ _ | exact bI_01 _ | exact xop_01 _ _ _ | exact xic_01 _ _ | exact xid_01 _) d_EL_isAt_33
    · skip
      have c2 := bI_n.mp c2
      refine lv_iconst (v := 1) hx hb d_EL_isAt_28 (by decide) ?_
      refine lv_goto (tgt := 33) hx hb d_EL_isAt_29 (by decide) ?_
      exact rd_zret hx hb hr hlocks (by first | contradiction | exact (bI_0 (fun z => c1 ⟨z.1, z.2.1⟩)).symm | exact (bI_0 (fun z => c2 z.2.2)).symm | exact (bI_1 ⟨h1, he, c2⟩).symm) (by first | exact Or.inl rfl | exact Or.inr rfl | assumption | exact smI_01 _ _ _ _ _ _ | exact xtl_01 _ _ _ _ _ _ | exact bI_01 _ | exact xop_01 _ _ _ | exact xic_01 _ _ | exact xid_01 _) d_EL_isAt_33
set_option maxHeartbeats 4000000 in
set_option maxRecDepth 100000 in
theorem c_EL_countDoorsWith (l : Launch) (g : GG) (M : MW) (α : AL3) (ν : Nat → Nat) (χ : SG) (e : Nat) (sz : Nat) (hW : HW g α ν χ M) (hN : nOK ν) (he9 : e < 2 ^ 30) (h0 : 1 ≤ e) (h9 : e ≤ ν 1) : Met l y_EL_countDoorsWith (k_EL_countDoorsWith :: TT) { frames := 3, cells := 0, slots := 0, locals := 64 } (Pm g [.ref (α 0 3 0), .int (nI e)] sz (M)) (Qrd (some (.int (nI (rdF χ e 200))))) 0 0 (nofree) := by
  refine met_of (by decide) (Nat.le_of_ble_eq_true rfl) ?_
  intro pr en s mi below meth co hx hb hr hml hown hlocks hnm hT hsz hP hK ls hl
  have hl : lv_has ls 2 [(0, .ref (α 0 3 0)), (1, .int (nI e))] := hl
  have hN6 : ν 1 ≤ 600 := hN.2.2.2.2.2
  have hN3 : ν 1 ≤ ν 3 := hN.2.1
  have hN4 : ν 3 < 2 ^ 20 := hN.2.2.2.1
  refine lv_aload_n hx hb d_EL_countDoorsWith_0 rfl (lv_at hl 0 rfl) ?_
  refine lv_iload_n hx hb d_EL_countDoorsWith_1 rfl (lv_at hl 1 rfl) ?_
  refine rd_run (c_V (As := [.int (nI e)]) (rest := []) hx hb hml hl.1 hown hT hK hP (c_EL_holds l g M α ν χ e s.heap.size hW hN (by omega)) kw_EL_holds w436 w438 selp_EL_holds w5 hd_EL_holds rfl rfl ⟨by decide, by decide⟩ (hw_03 hW) rfl rfl rfl (Nat.le_of_ble_eq_true rfl) d_EL_countDoorsWith_2 ⟨by decide, by decide⟩) rfl ?_
  refine lv_if_eq (tgt := 27) hx hb d_EL_countDoorsWith_5 (by decide) (fun hq9 => absurd hq9 (by rw [bI_1 ⟨h0, h9⟩]; decide)) (fun _ => ?_)
  refine lv_aload_n hx hb d_EL_countDoorsWith_8 rfl (lv_at hl 0 rfl) ?_
  refine m_get (ci := 4) (v := .ref (α 0 4 0)) hx hb hT in_EL hown hK hP (hw_03 hW) rfl 0 (by decide) (hT _ w65) (fun _ h9 => h9) rfl d_EL_countDoorsWith_9 ?_
  refine lv_iload_n hx hb d_EL_countDoorsWith_12 rfl (lv_at hl 1 rfl) ?_
  refine lv_iconst (v := 1) hx hb d_EL_countDoorsWith_13 (by decide) ?_
  refine lv_isub hx hb d_EL_countDoorsWith_14 ?_
  rw [show ((nI e) - 1) = nI (e - 1) from pk_sub (a := e) (b := 1) h0]
  refine rd_run (c_V (As := [.int (nI (e - 1))]) (rest := []) hx hb hml hl.1 hown hT hK hP (c_AL_get l g M (α 0 4 0) (α 0 5 0) (ν 1) (ν 3) (e - 1) (α 4 e 0) (χ 0 4) (fun q => if q < ν 1 then some (α 4 (q + 1) 0) else none) s.heap.size (hw_04 hW) (hw_05 hW (by omega)) (by omega) hN.2.1 (by omega) (by rw [if_pos (by omega), Nat.sub_add_cancel h0])) kw_AL_get w440 w350 w351 w4 hd_AL_get rfl rfl ⟨by decide, by decide⟩ (hw_04 hW) rfl rfl rfl (Nat.le_of_ble_eq_true rfl) d_EL_countDoorsWith_15 ⟨by decide, by decide⟩) rfl ?_
  refine va_castY (C := "LockHouse$Entry") hx hb hown (hT _ w368) (hK.2.1 _ nw881) (hP.recv hK (hw_en hW h0 h9) rfl) d_EL_countDoorsWith_18 ?_
  refine rd_run (c_V (As := []) (rest := []) hx hb hml hl.1 hown hT hK hP (c_Entry_countDoors l g M α ν χ e s.heap.size hW h0 h9) kw_Entry_countDoors w637 w638 w639 w21 hd_Entry_countDoors rfl rfl ⟨by decide, by decide⟩ (hw_en hW h0 h9) rfl rfl rfl (Nat.le_of_ble_eq_true rfl) d_EL_countDoorsWith_21 ⟨by decide, by decide⟩) rfl ?_
  refine lv_goto (tgt := 28) hx hb d_EL_countDoorsWith_24 (by decide) ?_
  exact rd_iret hx hb hr hlocks (rfl) d_EL_countDoorsWith_28
set_option maxHeartbeats 4000000 in
set_option maxRecDepth 100000 in
theorem c_Door_has (l : Launch) (g : GG) (M : MW) (α : AL3) (ν : Nat → Nat) (χ : SG) (d e : Nat) (sz : Nat) (hW : HW g α ν χ M) (hN : nOK ν) (he9 : e < 2 ^ 30) (hd : d < 200) : Met l y_Door_has (k_Door_has :: TT) { frames := 4, cells := 0, slots := 0, locals := 86 } (Pm g [.ref (α 6 d 0), .int (nI e), .ref (α 0 3 0)] sz (M)) (Qrd (some (.int (bI (xhs ν χ d e))))) 0 0 (nofree) := by
  refine met_of (by decide) (Nat.le_of_ble_eq_true rfl) ?_
  intro pr en s mi below meth co hx hb hr hml hown hlocks hnm hT hsz hP hK ls hl
  have hl : lv_has ls 3 [(0, .ref (α 6 d 0)), (1, .int (nI e)), (2, .ref (α 0 3 0))] := hl
  refine lv_aload_n hx hb d_Door_has_0 rfl (lv_at hl 2 rfl) ?_
  refine lv_iload_n hx hb d_Door_has_1 rfl (lv_at hl 1 rfl) ?_
  refine lv_aload_n hx hb d_Door_has_2 rfl (lv_at hl 0 rfl) ?_
  refine m_get (ci := 2) (v := .int (nI d)) hx hb hT in_Door hown hK hP (hw_dr hW hd) rfl 0 (by decide) (hT _ w76) (fun _ h9 => h9) rfl d_Door_has_3 ?_
  refine rd_run (c_V (As := [.int (nI e), .int (nI d)]) (rest := []) hx hb hml hl.1 hown hT hK hP (c_EL_isAt l g M α ν χ e d s.heap.size hW hN he9 hd) kw_EL_isAt w513 w514 w515 w5 hd_EL_isAt rfl rfl ⟨by decide, by decide⟩ (hw_03 hW) rfl rfl rfl (Nat.le_of_ble_eq_true rfl) d_Door_has_6 ⟨by decide, by decide⟩) rfl ?_
  exact rd_zret hx hb hr hlocks (rfl) (by first | exact Or.inl rfl | exact Or.inr rfl | assumption | exact smI_01 _ _ _ _ _ _ | exact xtl_01 _ _ _ _ _ _ | exact bI_01 _ | exact xop_01 _ _ _ | exact xic_01 _ _ | exact xid_01 _) d_Door_has_9
set_option maxHeartbeats 4000000 in
set_option maxRecDepth 100000 in
theorem c_Door_startsRun (l : Launch) (g : GG) (M : MW) (α : AL3) (ν : Nat → Nat) (χ : SG) (d e : Nat) (sz : Nat) (hW : HW g α ν χ M) (hN : nOK ν) (he9 : e < 2 ^ 30) (h0 : 1 ≤ e) (hd : d < 200) : Met l y_Door_startsRun (k_Door_startsRun :: TT) { frames := 5, cells := 0, slots := 0, locals := 108 } (Pm g [.ref (α 6 d 0), .int (nI e), .ref (α 0 3 0)] sz (M)) (Qrd (some (.int (bI (xhs ν χ d e ∧ ¬ xhs ν χ d (e - 1)))))) 0 0 (nofree) := by
  refine met_of (by decide) (Nat.le_of_ble_eq_true rfl) ?_
  intro pr en s mi below meth co hx hb hr hml hown hlocks hnm hT hsz hP hK ls hl
  have hl : lv_has ls 3 [(0, .ref (α 6 d 0)), (1, .int (nI e)), (2, .ref (α 0 3 0))] := hl
  refine lv_aload_n hx hb d_Door_startsRun_0 rfl (lv_at hl 0 rfl) ?_
  refine lv_iload_n hx hb d_Door_startsRun_1 rfl (lv_at hl 1 rfl) ?_
  refine lv_aload_n hx hb d_Door_startsRun_2 rfl (lv_at hl 2 rfl) ?_
  refine rd_run (c_V (As := [.int (nI e), .ref (α 0 3 0)]) (rest := []) hx hb hml hl.1 hown hT hK hP (c_Door_has l g M α ν χ d e s.heap.size hW hN (by omega) hd) kw_Door_has w509 w510 w511 w6 hd_Door_has rfl rfl ⟨by decide, by decide⟩ (hw_dr hW hd) rfl rfl rfl (Nat.le_of_ble_eq_true rfl) d_Door_startsRun_3 ⟨by decide, by decide⟩) rfl ?_
  refine lv_if_eq (tgt := 24) hx hb d_Door_startsRun_6 (by decide) (fun c1 => ?_) (fun c1 => ?_)
  · skip
    have c1 := bI_z.mp c1
    refine lv_iconst (v := 0) hx hb d_Door_startsRun_24 (by decide) ?_
    exact rd_zret hx hb hr hlocks (by first | contradiction | exact (bI_0 (fun z => c1 z.1)).symm | exact (bI_0 (fun z => z.2 c2)).symm | exact (bI_1 ⟨c1, c2⟩).symm) (by first | exact Or.inl rfl | exact Or.inr rfl | assumption | exact smI_01 _ _ _ _ _ _ | exact xtl_01 _ _ _ _ _ _ | exact bI_01 _ | exact xop_01 _ _ _ | exact xic_01 _ _ | exact xid_01 _) d_Door_startsRun_25
  · skip
    have c1 := bI_n.mp c1
    refine lv_aload_n hx hb d_Door_startsRun_9 rfl (lv_at hl 0 rfl) ?_
    refine lv_iload_n hx hb d_Door_startsRun_10 rfl (lv_at hl 1 rfl) ?_
    refine lv_iconst (v := 1) hx hb d_Door_startsRun_11 (by decide) ?_
    refine lv_isub hx hb d_Door_startsRun_12 ?_
    rw [show ((nI e) - 1) = nI (e - 1) from pk_sub (a := e) (b := 1) h0]
    refine lv_aload_n hx hb d_Door_startsRun_13 rfl (lv_at hl 2 rfl) ?_
    refine rd_run (c_V (As := [.int (nI (e - 1)), .ref (α 0 3 0)]) (rest := []) hx hb hml hl.1 hown hT hK hP (c_Door_has l g M α ν χ d (e - 1) s.heap.size hW hN (by omega) hd) kw_Door_has w509 w510 w511 w6 hd_Door_has rfl rfl ⟨by decide, by decide⟩ (hw_dr hW hd) rfl rfl rfl (Nat.le_of_ble_eq_true rfl) d_Door_startsRun_14 ⟨by decide, by decide⟩) rfl ?_
    refine lv_if_ne (tgt := 24) hx hb d_Door_startsRun_17 (by decide) (fun c2 => ?_) (fun c2 => ?_)
    · skip
      have c2 := bI_n.mp c2
      refine lv_iconst (v := 0) hx hb d_Door_startsRun_24 (by decide) ?_
      exact rd_zret hx hb hr hlocks (by first | contradiction | exact (bI_0 (fun z => c1 z.1)).symm | exact (bI_0 (fun z => z.2 c2)).symm | exact (bI_1 ⟨c1, c2⟩).symm) (by first | exact Or.inl rfl | exact Or.inr rfl | assumption | exact smI_01 _ _ _ _ _ _ | exact xtl_01 _ _ _ _ _ _ | exact bI_01 _ | exact xop_01 _ _ _ | exact xic_01 _ _ | exact xid_01 _) d_Door_startsRun_25
    · skip
      have c2 := bI_z.mp c2
      refine lv_iconst (v := 1) hx hb d_Door_startsRun_20 (by decide) ?_
      refine lv_goto (tgt := 25) hx hb d_Door_startsRun_21 (by decide) ?_
      exact rd_zret hx hb hr hlocks (by first | contradiction | exact (bI_0 (fun z => c1 z.1)).symm | exact (bI_0 (fun z => z.2 c2)).symm | exact (bI_1 ⟨c1, c2⟩).symm) (by first | exact Or.inl rfl | exact Or.inr rfl | assumption | exact smI_01 _ _ _ _ _ _ | exact xtl_01 _ _ _ _ _ _ | exact bI_01 _ | exact xop_01 _ _ _ | exact xic_01 _ _ | exact xid_01 _) d_Door_startsRun_25
