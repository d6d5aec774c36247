/-! The reference: reach, run. -/
def rcF (σ : SG) (e : Nat) : Nat → Nat
  | 0 => 0
  | k + 1 => if hs σ k e = 0 then rcF σ e k else rcF σ e k + 1
def isRun (σ : SG) (d i k : Nat) : Prop := rnF σ d k = i + 1 ∧ ∀ j, j < k → rnF σ d j ≤ i
theorem isRun_u {σ : SG} {d i k k' : Nat} (h : isRun σ d i k) (h' : isRun σ d i k') : k = k' := by
  rcases Nat.lt_trichotomy k k' with q | q | q
  · have := h'.2 k q; have := h.1; omega
  · exact q
  · have := h.2 k' q; have := h'.1; omega
theorem sub_1 (x : Int32) (r : Nat) : x - nI r - 1 = x - nI (r + 1) := by
  rw [nI_succ, ← Int32.sub_sub]
set_option maxHeartbeats 4000000 in
set_option maxRecDepth 100000 in
theorem c_T_reach_b (l : Launch) (g : GG) (t : Nat) (σ : SG) (x : Int32) (sz : Nat) (hb1 : x < 1 ∨ ¬ x ≤ σ 0 2) : Met l y_T_reach (k_T_reach :: TT) { frames := 0, cells := 0, slots := 0, locals := 0 } (Pm g [.ref t, .int x] sz (tw g t σ)) (Qm g (tw g t σ) (fun r : Int32 => some (.int r)) (fun r M1 => r = 0 ∧ M1 = tw g t (su σ 0 0 1))) 0 0 (mA (tw g t σ) sz) := by
  refine met_of (by decide) (Nat.le_of_ble_eq_true rfl) ?_
  intro pr en s mi below meth co hx hb hr hml hown hlocks hnm hT hsz hP hK ls hl
  have hl : lv_has ls 4 [(0, .ref t), (1, .int x)] := hl
  have hH := HS.start hP
  refine lv_aload_n hx hb d_T_reach_0 rfl (lv_at hl 0 rfl) ?_
  refine lv_iload_n hx hb d_T_reach_1 rfl (lv_at hl 1 rfl) ?_
  refine lv_iconst (v := 1) hx hb d_T_reach_2 (by decide) ?_
  refine lv_icmp_lt (tgt := 14) hx hb d_T_reach_3 (by decide) (fun c1 => ?_) (fun c1 => ?_)
  · skip
    refine lv_iconst (v := 1) hx hb d_T_reach_14 (by decide) ?_
    refine lv_goto (tgt := 19) hx hb d_T_reach_15 (by decide) ?_
    refine m_put (ci := 7) (v := .int 1) (ty := .int) hx hb hT in_T ty_T tk_T nm_T hown hK hH (tw_t) rfl 0 (by decide) (hT _ w672) (fun _ h9 => h9) rfl (by decide +kernel) rfl rfl (Nat.le_of_ble_eq_true rfl) d_T_reach_19 (e1 := oT t (su (σ) 0 0 1)) rfl (fun H locs hH hzz => ?_)
    replace hH := two hH
    refine lv_iconst (v := 0) hx hb d_T_reach_22 (by decide) ?_
    refine lv_istore_n (lv' := [(2, .int 0), (0, .ref t), (1, .int x)]) hx hb d_T_reach_23 rfl hl (by decide) rfl (fun ls hl => ?_)
    refine lv_iconst (v := 0) hx hb d_T_reach_24 (by decide) ?_
    refine lv_istore_n (lv' := [(3, .int 0), (2, .int 0), (0, .ref t), (1, .int x)]) hx hb d_T_reach_25 rfl hl (by decide) rfl (fun ls hl => ?_)
    refine lv_iload_n hx hb d_T_reach_26 rfl (lv_at hl 0 rfl) ?_
    refine lv_sipush (v := 200) hx hb d_T_reach_27 (by decide) ?_
    refine lv_icmp_ge (tgt := 69) hx hb d_T_reach_30 (by decide) (fun hc => absurd hc ((by decide : ¬ (200 : Int32) ≤ 0))) (fun _ => ?_)
    refine lv_aload_n hx hb d_T_reach_33 rfl (lv_at hl 2 rfl) ?_
    refine m_get (ci := 7) (v := .int 1) hx hb hT in_T hown hK hH.1 (tw_t) rfl 0 (by decide) (hT _ w672) (fun _ h9 => h9) rfl d_T_reach_34 ?_
    refine lv_if_ne (tgt := 69) hx hb d_T_reach_37 (by decide) (fun _ => ?_) (fun hc => absurd hc ((by decide : ¬ (1 : Int32) = 0)))
    refine lv_iload_n hx hb d_T_reach_69 rfl (lv_at hl 1 rfl) ?_
    exact m_iret hx hb hr hlocks hsz hH (⟨rfl, rfl⟩) d_T_reach_70
  · skip
    refine lv_iload_n hx hb d_T_reach_6 rfl (lv_at hl 1 rfl) ?_
    refine lv_aload_n hx hb d_T_reach_7 rfl (lv_at hl 0 rfl) ?_
    refine m_get (ci := 7) (v := .int ((σ) 0 2)) hx hb hT in_T hown hK hH.1 (tw_t) rfl 9 (by decide) (hT _ w681) (fun _ h9 => h9) rfl d_T_reach_8 ?_
    refine lv_icmp_le (tgt := 18) hx hb d_T_reach_11 (by decide) (fun hc => absurd hc (hb1.elim (fun q => absurd q c1) id)) (fun _ => ?_)
    refine lv_iconst (v := 1) hx hb d_T_reach_14 (by decide) ?_
    refine lv_goto (tgt := 19) hx hb d_T_reach_15 (by decide) ?_
    refine m_put (ci := 7) (v := .int 1) (ty := .int) hx hb hT in_T ty_T tk_T nm_T hown hK hH (tw_t) rfl 0 (by decide) (hT _ w672) (fun _ h9 => h9) rfl (by decide +kernel) rfl rfl (Nat.le_of_ble_eq_true rfl) d_T_reach_19 (e1 := oT t (su (σ) 0 0 1)) rfl (fun H locs hH hzz => ?_)
    replace hH := two hH
    refine lv_iconst (v := 0) hx hb d_T_reach_22 (by decide) ?_
    refine lv_istore_n (lv' := [(2, .int 0), (0, .ref t), (1, .int x)]) hx hb d_T_reach_23 rfl hl (by decide) rfl (fun ls hl => ?_)
    refine lv_iconst (v := 0) hx hb d_T_reach_24 (by decide) ?_
    refine lv_istore_n (lv' := [(3, .int 0), (2, .int 0), (0, .ref t), (1, .int x)]) hx hb d_T_reach_25 rfl hl (by decide) rfl (fun ls hl => ?_)
    refine lv_iload_n hx hb d_T_reach_26 rfl (lv_at hl 0 rfl) ?_
    refine lv_sipush (v := 200) hx hb d_T_reach_27 (by decide) ?_
    refine lv_icmp_ge (tgt := 69) hx hb d_T_reach_30 (by decide) (fun hc => absurd hc ((by decide : ¬ (200 : Int32) ≤ 0))) (fun _ => ?_)
    refine lv_aload_n hx hb d_T_reach_33 rfl (lv_at hl 2 rfl) ?_
    refine m_get (ci := 7) (v := .int 1) hx hb hT in_T hown hK hH.1 (tw_t) rfl 0 (by decide) (hT _ w672) (fun _ h9 => h9) rfl d_T_reach_34 ?_
    refine lv_if_ne (tgt := 69) hx hb d_T_reach_37 (by decide) (fun _ => ?_) (fun hc => absurd hc ((by decide : ¬ (1 : Int32) = 0)))
    refine lv_iload_n hx hb d_T_reach_69 rfl (lv_at hl 1 rfl) ?_
    exact m_iret hx hb hr hlocks hsz hH (⟨rfl, rfl⟩) d_T_reach_70
set_option maxHeartbeats 4000000 in
set_option maxRecDepth 100000 in
theorem c_T_reach (l : Launch) (g : GG) (t : Nat) (σ : SG) (e ne : Nat) (sz : Nat) (hne : σ 0 2 = nI ne) (he1 : 1 ≤ e) (he2 : e ≤ ne) (hn3 : ne ≤ 3000) : Met l y_T_reach (k_T_reach :: TT) { frames := 0, cells := 0, slots := 0, locals := 0 } (Pm g [.ref t, .int (nI e)] sz (tw g t σ)) (Qm g (tw g t σ) (fun r : Int32 => some (.int r)) (fun r M1 => r = nI (rcF σ e 200) ∧ M1 = tw g t (su σ 0 0 0))) 0 0 (mA (tw g t σ) sz) := by
  refine met_of (by decide) (Nat.le_of_ble_eq_true rfl) ?_
  intro pr en s mi below meth co hx hb hr hml hown hlocks hnm hT hsz hP hK ls hl
  have hl : lv_has ls 4 [(0, .ref t), (1, .int (nI e))] := hl
  have hH := HS.start hP
  refine lv_aload_n hx hb d_T_reach_0 rfl (lv_at hl 0 rfl) ?_
  refine lv_iload_n hx hb d_T_reach_1 rfl (lv_at hl 1 rfl) ?_
  refine lv_iconst (v := 1) hx hb d_T_reach_2 (by decide) ?_
  refine lv_icmp_lt (tgt := 14) hx hb d_T_reach_3 (by decide) (fun hc => absurd hc (fun q => absurd ((nI_ltI (b := 1) (by omega) (by decide)).mp q) (by omega))) (fun _ => ?_)
  refine lv_iload_n hx hb d_T_reach_6 rfl (lv_at hl 1 rfl) ?_
  refine lv_aload_n hx hb d_T_reach_7 rfl (lv_at hl 0 rfl) ?_
  refine m_get (ci := 7) (v := .int ((σ) 0 2)) hx hb hT in_T hown hK hH.1 (tw_t) rfl 9 (by decide) (hT _ w681) (fun _ h9 => h9) rfl d_T_reach_8 ?_
  refine lv_icmp_le (tgt := 18) hx hb d_T_reach_11 (by decide) (fun _ => ?_) (fun hc => absurd (by rw [hne]; exact nI_le he2 (by omega)) hc)
  refine lv_iconst (v := 0) hx hb d_T_reach_18 (by decide) ?_
  refine m_put (ci := 7) (v := .int 0) (ty := .int) hx hb hT in_T ty_T tk_T nm_T hown hK hH (tw_t) rfl 0 (by decide) (hT _ w672) (fun _ h9 => h9) rfl (by decide +kernel) rfl rfl (Nat.le_of_ble_eq_true rfl) d_T_reach_19 (e1 := oT t (su (σ) 0 0 0)) rfl (fun H locs hH hzz => ?_)
  replace hH := two hH
  refine lv_iconst (v := 0) hx hb d_T_reach_22 (by decide) ?_
  refine lv_istore_n (lv' := [(2, .int 0), (0, .ref t), (1, .int (nI e))]) hx hb d_T_reach_23 rfl hl (by decide) rfl (fun ls hl => ?_)
  refine lv_iconst (v := 0) hx hb d_T_reach_24 (by decide) ?_
  refine lv_istore_n (lv' := [(3, .int 0), (2, .int 0), (0, .ref t), (1, .int (nI e))]) hx hb d_T_reach_25 rfl hl (by decide) rfl (fun ls hl => ?_)
  refine W.rep (α := Heap × List Loc × Array Slot × Nat) (fun (H, locs, ls, k) => 200 - k) (fun (H, locs, ls, k) => lv_has ls 4 [(0, .ref t), (1, .int (nI e)), (2, .int (nI (rcF σ e k))), (3, .int (nI k))] ∧ HS g (mA (tw g t σ) s.heap.size) s.heap (tw g t (su σ 0 0 0)) H locs ∧ k ≤ 200) (fun (H, locs, ls, k) => H) (fun (H, locs, ls, k) => locs) (fun (H, locs, ls, k) => F0 mi 26 ls []) ?_ (H, locs, ls, 0) ⟨lv_sub hl [2, 3, 1, 0] rfl, hH, by omega⟩
  rintro ⟨H, locs, ls, k⟩ ⟨hl, hH, hi1⟩ ih
  dsimp only at hl hH hi1 ih ⊢
  refine lv_iload_n hx hb d_T_reach_26 rfl (lv_at hl 3 rfl) ?_
  refine lv_sipush (v := 200) hx hb d_T_reach_27 (by decide) ?_
  refine lv_icmp_ge (tgt := 69) hx hb d_T_reach_30 (by decide) (fun c1 => ?_) (fun c1 => ?_)
  · skip
    have hk2 : k = 200 := by have := ge_of (a := 200) c1 (by decide) (by omega); omega
    subst hk2
    refine lv_iload_n hx hb d_T_reach_69 rfl (lv_at hl 2 rfl) ?_
    exact m_iret hx hb hr hlocks hsz hH (⟨rfl, rfl⟩) d_T_reach_70
  · skip
    have hk2 : k < 200 := by rcases Nat.lt_or_ge k 200 with h9 | h9; exact h9; exact absurd (nI_le (a := 200) h9 (by omega)) c1
    refine lv_aload_n hx hb d_T_reach_33 rfl (lv_at hl 0 rfl) ?_
    refine m_get (ci := 7) (v := .int 0) hx hb hT in_T hown hK hH.1 (tw_t) rfl 0 (by decide) (hT _ w672) (fun _ h9 => h9) rfl d_T_reach_34 ?_
    refine lv_if_ne (tgt := 69) hx hb d_T_reach_37 (by decide) (fun hc => absurd ((rfl : (0 : Int32) = 0)) hc) (fun _ => ?_)
    refine lv_aload_n hx hb d_T_reach_40 rfl (lv_at hl 0 rfl) ?_
    refine m_get (ci := 7) (v := .ref (t + 8)) hx hb hT in_T hown hK hH.1 (tw_t) rfl 10 (by decide) (hT _ w682) (fun _ h9 => h9) rfl d_T_reach_41 ?_
    refine lv_sipush (v := 3001) hx hb d_T_reach_44 (by decide) ?_
    refine lv_iload_n hx hb d_T_reach_47 rfl (lv_at hl 3 rfl) ?_
    refine lv_imul hx hb d_T_reach_48 ?_
    refine lv_iload_n hx hb d_T_reach_49 rfl (lv_at hl 1 rfl) ?_
    refine lv_iadd hx hb d_T_reach_50 ?_
    refine m_zald hx hb hK hH.1 2 (tw_8) rfl (j := 3001 * k + e) (ixd k e) (by omega) (by decide) d_T_reach_51 ?_
    refine lv_if_eq (tgt := 61) hx hb d_T_reach_52 (by decide) (fun c2 => ?_) (fun c2 => ?_)
    · skip
      have hrec : rcF σ e (k + 1) = rcF σ e k := if_pos c2
      refine lv_iload_n hx hb d_T_reach_61 rfl (lv_at hl 2 rfl) ?_
      refine lv_istore_n (lv' := [(2, .int (nI (rcF σ e k))), (0, .ref t), (1, .int (nI e)), (3, .int (nI k))]) hx hb d_T_reach_62 rfl hl (by decide) rfl (fun ls hl => ?_)
      refine lv_iinc (v := nI (k + 1)) (lv' := [(3, .int (nI (k + 1))), (2, .int (nI (rcF σ e k))), (0, .ref t), (1, .int (nI e))]) hx hb d_T_reach_63 hl (k := 3) rfl (nI_1 k) (by decide) rfl (fun ls hl => ?_)
      refine lv_goto (tgt := 26) hx hb d_T_reach_66 (by decide) ?_
      exact ih (_, _, _, k + 1) ⟨by rw [hrec]; exact lv_sub hl [2, 3, 1, 0] rfl, hH, by dsimp only; omega⟩ (by dsimp only; omega)
    · skip
      have hrec : rcF σ e (k + 1) = rcF σ e k + 1 := if_neg c2
      refine lv_iload_n hx hb d_T_reach_55 rfl (lv_at hl 2 rfl) ?_
      refine lv_iconst (v := 1) hx hb d_T_reach_56 (by decide) ?_
      refine lv_iadd hx hb d_T_reach_57 ?_
      rw [show ((nI (rcF σ e k)) + 1) = nI (rcF σ e k + 1) from nI_1 _]
      refine lv_goto (tgt := 62) hx hb d_T_reach_58 (by decide) ?_
      refine lv_istore_n (lv' := [(2, .int (nI (rcF σ e k + 1))), (0, .ref t), (1, .int (nI e)), (3, .int (nI k))]) hx hb d_T_reach_62 rfl hl (by decide) rfl (fun ls hl => ?_)
      refine lv_iinc (v := nI (k + 1)) (lv' := [(3, .int (nI (k + 1))), (2, .int (nI (rcF σ e k + 1))), (0, .ref t), (1, .int (nI e))]) hx hb d_T_reach_63 hl (k := 3) rfl (nI_1 k) (by decide) rfl (fun ls hl => ?_)
      refine lv_goto (tgt := 26) hx hb d_T_reach_66 (by decide) ?_
      exact ih (_, _, _, k + 1) ⟨by rw [hrec]; exact lv_sub hl [2, 3, 1, 0] rfl, hH, by dsimp only; omega⟩ (by dsimp only; omega)
set_option maxHeartbeats 4000000 in
set_option maxRecDepth 100000 in
theorem c_T_run_b (l : Launch) (g : GG) (t : Nat) (σ : SG) (x i b : Int32) (sz : Nat) (hb1 : ndI x = 1) : Met l y_T_run (k_T_run :: TT) { frames := 1, cells := 0, slots := 0, locals := 23 } (Pm g [.ref t, .int x, .int i, .int b] sz (tw g t σ)) (Qm g (tw g t σ) (fun r : Int32 => some (.int r)) (fun r M1 => r = 0 ∧ M1 = tw g t (su σ 0 0 1))) 0 0 (mA (tw g t σ) sz) := by
  refine met_of (by decide) (Nat.le_of_ble_eq_true rfl) ?_
  intro pr en s mi below meth co hx hb hr hml hown hlocks hnm hT hsz hP hK ls hl
  have hl : lv_has ls 6 [(0, .ref t), (1, .int x), (2, .int i), (3, .int b)] := hl
  have hH := HS.start hP
  refine lv_aload_n hx hb d_T_run_0 rfl (lv_at hl 0 rfl) ?_
  refine lv_iload_n hx hb d_T_run_1 rfl (lv_at hl 1 rfl) ?_
  refine rd_run (c_S (As := [.int x]) (rest := [.ref t]) hx hb hml hl.1 hown hT hK hH.1 (c_T_noDoor l g (tw g t σ) x s.heap.size) kw_T_noDoor w799 w800 w8 hd_T_noDoor rfl rfl ⟨by decide, by decide⟩ rfl rfl (Nat.le_of_ble_eq_true rfl) d_T_run_2 ⟨by decide, by decide⟩) rfl ?_
  refine lv_if_eq (tgt := 12) hx hb d_T_run_5 (by decide) (fun hc => absurd hc (by rw [hb1]; decide)) (fun _ => ?_)
  refine lv_iconst (v := 1) hx hb d_T_run_8 (by decide) ?_
  refine lv_goto (tgt := 30) hx hb d_T_run_9 (by decide) ?_
  refine m_put (ci := 7) (v := .int 1) (ty := .int) hx hb hT in_T ty_T tk_T nm_T hown hK hH (tw_t) rfl 0 (by decide) (hT _ w672) (fun _ h9 => h9) rfl (by decide +kernel) rfl rfl (Nat.le_of_ble_eq_true rfl) d_T_run_30 (e1 := oT t (su (σ) 0 0 1)) rfl (fun H locs hH hzz => ?_)
  replace hH := two hH
  refine lv_aload_n hx hb d_T_run_33 rfl (lv_at hl 0 rfl) ?_
  refine m_get (ci := 7) (v := .int 1) hx hb hT in_T hown hK hH.1 (tw_t) rfl 0 (by decide) (hT _ w672) (fun _ h9 => h9) rfl d_T_run_34 ?_
  refine lv_if_le (tgt := 42) hx hb d_T_run_37 (by decide) (fun hc => absurd hc ((by decide : ¬ (1 : Int32) ≤ 0))) (fun _ => ?_)
  refine lv_iconst (v := 0) hx hb d_T_run_40 (by decide) ?_
  exact m_iret hx hb hr hlocks hsz hH (⟨rfl, rfl⟩) d_T_run_41
set_option maxHeartbeats 4000000 in
set_option maxRecDepth 100000 in
theorem c_T_run_z (l : Launch) (g : GG) (t : Nat) (σ : SG) (d : Nat) (i b : Int32) (sz : Nat) (h0 : ndI (nI d) = 0) (hd2 : d < 200) (hz : i < 0 ∨ ¬ i < nI (rnF σ d 3000)) : Met l y_T_run (k_T_run :: TT) { frames := 1, cells := 0, slots := 0, locals := 23 } (Pm g [.ref t, .int (nI d), .int i, .int b] sz (tw g t σ)) (Qm g (tw g t σ) (fun r : Int32 => some (.int r)) (fun r M1 => r = 0 ∧ M1 = tw g t (su σ 0 0 1))) 0 0 (mA (tw g t σ) sz) := by
  refine met_of (by decide) (Nat.le_of_ble_eq_true rfl) ?_
  intro pr en s mi below meth co hx hb hr hml hown hlocks hnm hT hsz hP hK ls hl
  have hl : lv_has ls 6 [(0, .ref t), (1, .int (nI d)), (2, .int i), (3, .int b)] := hl
  have hH := HS.start hP
  refine lv_aload_n hx hb d_T_run_0 rfl (lv_at hl 0 rfl) ?_
  refine lv_iload_n hx hb d_T_run_1 rfl (lv_at hl 1 rfl) ?_
  refine rd_run (c_S (As := [.int (nI d)]) (rest := [.ref t]) hx hb hml hl.1 hown hT hK hH.1 (c_T_noDoor l g (tw g t σ) (nI d) s.heap.size) kw_T_noDoor w799 w800 w8 hd_T_noDoor rfl rfl ⟨by decide, by decide⟩ rfl rfl (Nat.le_of_ble_eq_true rfl) d_T_run_2 ⟨by decide, by decide⟩) rfl ?_
  refine lv_if_eq (tgt := 12) hx hb d_T_run_5 (by decide) (fun _ => ?_) (fun hc => absurd (h0) hc)
  refine lv_iload_n hx hb d_T_run_12 rfl (lv_at hl 2 rfl) ?_
  refine lv_if_lt (tgt := 25) hx hb d_T_run_13 (by decide) (fun c1 => ?_) (fun c1 => ?_)
  · skip
    refine lv_iconst (v := 1) hx hb d_T_run_25 (by decide) ?_
    refine lv_goto (tgt := 30) hx hb d_T_run_26 (by decide) ?_
    refine m_put (ci := 7) (v := .int 1) (ty := .int) hx hb hT in_T ty_T tk_T nm_T hown hK hH (tw_t) rfl 0 (by decide) (hT _ w672) (fun _ h9 => h9) rfl (by decide +kernel) rfl rfl (Nat.le_of_ble_eq_true rfl) d_T_run_30 (e1 := oT t (su (σ) 0 0 1)) rfl (fun H locs hH hzz => ?_)
    replace hH := two hH
    refine lv_aload_n hx hb d_T_run_33 rfl (lv_at hl 0 rfl) ?_
    refine m_get (ci := 7) (v := .int 1) hx hb hT in_T hown hK hH.1 (tw_t) rfl 0 (by decide) (hT _ w672) (fun _ h9 => h9) rfl d_T_run_34 ?_
    refine lv_if_le (tgt := 42) hx hb d_T_run_37 (by decide) (fun hc => absurd hc ((by decide : ¬ (1 : Int32) ≤ 0))) (fun _ => ?_)
    refine lv_iconst (v := 0) hx hb d_T_run_40 (by decide) ?_
    exact m_iret hx hb hr hlocks hsz hH (⟨rfl, rfl⟩) d_T_run_41
  · skip
    refine lv_iload_n hx hb d_T_run_16 rfl (lv_at hl 2 rfl) ?_
    refine lv_aload_n hx hb d_T_run_17 rfl (lv_at hl 0 rfl) ?_
    refine lv_iload_n hx hb d_T_run_18 rfl (lv_at hl 1 rfl) ?_
    refine rd_run (c_V (As := [.int (nI d)]) (rest := [.int i, .ref t]) hx hb hml hl.1 hown hT hK hH.1 (c_T_runs l g t σ d s.heap.size hd2) kw_T_runs w850 w852 selp_T_runs w8 hd_T_runs rfl rfl ⟨by decide, by decide⟩ (tw_t) rfl rfl rfl (Nat.le_of_ble_eq_true rfl) d_T_run_19 ⟨by decide, by decide⟩) rfl ?_
    refine lv_icmp_lt (tgt := 29) hx hb d_T_run_22 (by decide) (fun hc => absurd hc (hz.elim (fun q => absurd q c1) id)) (fun _ => ?_)
    refine lv_iconst (v := 1) hx hb d_T_run_25 (by decide) ?_
    refine lv_goto (tgt := 30) hx hb d_T_run_26 (by decide) ?_
    refine m_put (ci := 7) (v := .int 1) (ty := .int) hx hb hT in_T ty_T tk_T nm_T hown hK hH (tw_t) rfl 0 (by decide) (hT _ w672) (fun _ h9 => h9) rfl (by decide +kernel) rfl rfl (Nat.le_of_ble_eq_true rfl) d_T_run_30 (e1 := oT t (su (σ) 0 0 1)) rfl (fun H locs hH hzz => ?_)
    replace hH := two hH
    refine lv_aload_n hx hb d_T_run_33 rfl (lv_at hl 0 rfl) ?_
    refine m_get (ci := 7) (v := .int 1) hx hb hT in_T hown hK hH.1 (tw_t) rfl 0 (by decide) (hT _ w672) (fun _ h9 => h9) rfl d_T_run_34 ?_
    refine lv_if_le (tgt := 42) hx hb d_T_run_37 (by decide) (fun hc => absurd hc ((by decide : ¬ (1 : Int32) ≤ 0))) (fun _ => ?_)
    refine lv_iconst (v := 0) hx hb d_T_run_40 (by decide) ?_
    exact m_iret hx hb hr hlocks hsz hH (⟨rfl, rfl⟩) d_T_run_41
theorem rn_le (σ : SG) (d : Nat) : ∀ k, rnF σ d k ≤ k
  | 0 => Nat.le_refl 0
  | k + 1 => by
    have := rn_le σ d k
    show (if ¬ hs σ d (k + 1) = 0 ∧ hs σ d k = 0 then rnF σ d k + 1 else rnF σ d k) ≤ k + 1
    split <;> omega
set_option maxHeartbeats 4000000 in
set_option maxRecDepth 100000 in
theorem c_T_run (l : Launch) (g : GG) (t : Nat) (σ : SG) (d i : Nat) (b : Int32) (sz : Nat) (h0 : ndI (nI d) = 0) (hd2 : d < 200) (hir : i < rnF σ d 3000) : Met l y_T_run (k_T_run :: TT) { frames := 1, cells := 0, slots := 0, locals := 23 } (Pm g [.ref t, .int (nI d), .int (nI i), .int b] sz (tw g t σ)) (Qm g (tw g t σ) (fun r : Int32 => some (.int r)) (fun r M1 => (∃ k, isRun σ d i k ∧ r = if ¬ b = 0 then nI k else nI (cpF σ d (3000 - k) k)) ∧ M1 = tw g t (su σ 0 0 0))) 0 0 (mA (tw g t σ) sz) := by
  refine met_of (by decide) (Nat.le_of_ble_eq_true rfl) ?_
  intro pr en s mi below meth co hx hb hr hml hown hlocks hnm hT hsz hP hK ls hl
  have hl : lv_has ls 6 [(0, .ref t), (1, .int (nI d)), (2, .int (nI i)), (3, .int b)] := hl
  have hH := HS.start hP
  have hrl := rn_le σ d 3000
  refine lv_aload_n hx hb d_T_run_0 rfl (lv_at hl 0 rfl) ?_
  refine lv_iload_n hx hb d_T_run_1 rfl (lv_at hl 1 rfl) ?_
  refine rd_run (c_S (As := [.int (nI d)]) (rest := [.ref t]) hx hb hml hl.1 hown hT hK hH.1 (c_T_noDoor l g (tw g t σ) (nI d) s.heap.size) kw_T_noDoor w799 w800 w8 hd_T_noDoor rfl rfl ⟨by decide, by decide⟩ rfl rfl (Nat.le_of_ble_eq_true rfl) d_T_run_2 ⟨by decide, by decide⟩) rfl ?_
  refine lv_if_eq (tgt := 12) hx hb d_T_run_5 (by decide) (fun _ => ?_) (fun hc => absurd (h0) hc)
  refine lv_iload_n hx hb d_T_run_12 rfl (lv_at hl 2 rfl) ?_
  refine lv_if_lt (tgt := 25) hx hb d_T_run_13 (by decide) (fun hc => absurd hc (nI_pos (by omega))) (fun _ => ?_)
  refine lv_iload_n hx hb d_T_run_16 rfl (lv_at hl 2 rfl) ?_
  refine lv_aload_n hx hb d_T_run_17 rfl (lv_at hl 0 rfl) ?_
  refine lv_iload_n hx hb d_T_run_18 rfl (lv_at hl 1 rfl) ?_
  refine rd_run (c_V (As := [.int (nI d)]) (rest := [.int (nI i), .ref t]) hx hb hml hl.1 hown hT hK hH.1 (c_T_runs l g t σ d s.heap.size hd2) kw_T_runs w850 w852 selp_T_runs w8 hd_T_runs rfl rfl ⟨by decide, by decide⟩ (tw_t) rfl rfl rfl (Nat.le_of_ble_eq_true rfl) d_T_run_19 ⟨by decide, by decide⟩) rfl ?_
  refine lv_icmp_lt (tgt := 29) hx hb d_T_run_22 (by decide) (fun _ => ?_) (fun hc => absurd (nI_lt hir (by omega)) hc)
  refine lv_iconst (v := 0) hx hb d_T_run_29 (by decide) ?_
  refine m_put (ci := 7) (v := .int 0) (ty := .int) hx hb hT in_T ty_T tk_T nm_T hown hK hH (tw_t) rfl 0 (by decide) (hT _ w672) (fun _ h9 => h9) rfl (by decide +kernel) rfl rfl (Nat.le_of_ble_eq_true rfl) d_T_run_30 (e1 := oT t (su (σ) 0 0 0)) rfl (fun H locs hH hzz => ?_)
  replace hH := two hH
  refine lv_aload_n hx hb d_T_run_33 rfl (lv_at hl 0 rfl) ?_
  refine m_get (ci := 7) (v := .int 0) hx hb hT in_T hown hK hH.1 (tw_t) rfl 0 (by decide) (hT _ w672) (fun _ h9 => h9) rfl d_T_run_34 ?_
  refine lv_if_le (tgt := 42) hx hb d_T_run_37 (by decide) (fun _ => ?_) (fun hc => absurd ((by decide : (0 : Int32) ≤ 0)) hc)
  refine lv_iload_n hx hb d_T_run_42 rfl (lv_at hl 2 rfl) ?_
  refine lv_istore (lv' := [(4, .int (nI i)), (0, .ref t), (1, .int (nI d)), (2, .int (nI i)), (3, .int b)]) hx hb d_T_run_43 hl (by decide) rfl (fun ls hl => ?_)
  refine lv_iconst (v := 0) hx hb d_T_run_45 (by decide) ?_
  refine lv_istore (lv' := [(5, .int 0), (4, .int (nI i)), (0, .ref t), (1, .int (nI d)), (2, .int (nI i)), (3, .int b)]) hx hb d_T_run_46 hl (by decide) rfl (fun ls hl => ?_)
  refine W.rep (α := Heap × List Loc × Array Slot × Nat × Int32) (fun (H, locs, ls, k, x) => 3000 - k) (fun (H, locs, ls, k, x) => lv_has ls 6 [(0, .ref t), (1, .int (nI d)), (2, .int (nI i)), (3, .int b), (4, .int x), (5, .int (nI k))] ∧ HS g (mA (tw g t σ) s.heap.size) s.heap (tw g t (su σ 0 0 0)) H locs ∧ k ≤ 3000 ∧ x = nI i - nI (rnF σ d k) ∧ rnF σ d k ≤ i + 1 ∧ ∀ j, j < k → rnF σ d j ≤ i) (fun (H, locs, ls, k, x) => H) (fun (H, locs, ls, k, x) => locs) (fun (H, locs, ls, k, x) => F0 mi 48 ls []) ?_ (H, locs, ls, 0, nI i) ⟨lv_sub hl [2, 3, 4, 5, 1, 0] rfl, hH, by omega, by rw [show rnF σ d 0 = 0 from rfl, nI_0, Int32.sub_zero], Nat.zero_le _, fun j h => by omega⟩
  rintro ⟨H, locs, ls, k, x⟩ ⟨hl, hH, hi1, hi2, hi3, hi4⟩ ih
  dsimp only at hl hH hi1 hi2 hi3 hi4 ih ⊢
  refine lv_iload hx hb d_T_run_48 (lv_at hl 4 rfl) ?_
  refine lv_if_lt (tgt := 104) hx hb d_T_run_50 (by decide) (fun c1 => ?_) (fun c1 => ?_)
  · skip
    have hrr : rnF σ d k = i + 1 := by
          rcases Nat.lt_or_ge i (rnF σ d k) with h9 | h9
          · omega
          · exact absurd c1 (by rw [hi2, pk_sub h9]; exact nI_pos (by omega))
    have hst : isRun σ d i k := ⟨hrr, hi4⟩
    refine W.rep (α := Heap × List Loc × Array Slot × Nat) (fun (H, locs, ls, k2) => 3000 - k2) (fun (H, locs, ls, k2) => lv_has ls 6 [(0, .ref t), (1, .int (nI d)), (2, .int (nI i)), (3, .int b), (5, .int (nI k2))] ∧ HS g (mA (tw g t σ) s.heap.size) s.heap (tw g t (su σ 0 0 0)) H locs ∧ k2 ≤ 3000 ∧ cpF σ d (3000 - k) k = cpF σ d (3000 - k2) k2 ∧ (¬ b = 0 → k2 = k)) (fun (H, locs, ls, k2) => H) (fun (H, locs, ls, k2) => locs) (fun (H, locs, ls, k2) => F0 mi 104 ls []) ?_ (H, locs, ls, k) ⟨lv_sub hl [0, 1, 2, 3, 5] rfl, hH, by omega, rfl, fun _ => rfl⟩
    rintro ⟨H, locs, ls, k2⟩ ⟨hl, hH, hi1, hi2, hi3⟩ ih
    dsimp only at hl hH hi1 hi2 hi3 ih ⊢
    refine lv_iload_n hx hb d_T_run_104 rfl (lv_at hl 3 rfl) ?_
    refine lv_if_ne (tgt := 140) hx hb d_T_run_105 (by decide) (fun c5 => ?_) (fun c5 => ?_)
    · skip
      refine lv_iload hx hb d_T_run_140 (lv_at hl 4 rfl) ?_
      exact m_iret hx hb hr hlocks hsz hH (⟨⟨k, hst, by first | (rw [if_pos c5, hi3 c5]) | (rw [if_neg (fun z => z c5), hi2, hrec2])⟩, rfl⟩) d_T_run_142
    · skip
      refine lv_iload hx hb d_T_run_108 (lv_at hl 4 rfl) ?_
      refine lv_sipush (v := 3000) hx hb d_T_run_110 (by decide) ?_
      refine lv_icmp_ge (tgt := 140) hx hb d_T_run_113 (by decide) (fun c6 => ?_) (fun c6 => ?_)
      · skip
        have hke : 3000 ≤ k2 := ge_of (a := 3000) c6 (by decide) (by omega)
        have hrec2 : cpF σ d (3000 - k2) k2 = k2 := by rw [show 3000 - k2 = 0 by omega]; rfl
        refine lv_iload hx hb d_T_run_140 (lv_at hl 4 rfl) ?_
        exact m_iret hx hb hr hlocks hsz hH (⟨⟨k, hst, by first | (rw [if_pos c5, hi3 c5]) | (rw [if_neg (fun z => z c5), hi2, hrec2])⟩, rfl⟩) d_T_run_142
      · skip
        have hke : k2 < 3000 := by rcases Nat.lt_or_ge k2 3000 with h9 | h9; exact h9; exact absurd (nI_le (a := 3000) h9 (by omega)) c6
        refine lv_aload_n hx hb d_T_run_116 rfl (lv_at hl 0 rfl) ?_
        refine m_get (ci := 7) (v := .ref (t + 8)) hx hb hT in_T hown hK hH.1 (tw_t) rfl 10 (by decide) (hT _ w682) (fun _ h9 => h9) rfl d_T_run_117 ?_
        refine lv_sipush (v := 3001) hx hb d_T_run_120 (by decide) ?_
        refine lv_iload_n hx hb d_T_run_123 rfl (lv_at hl 1 rfl) ?_
        refine lv_imul hx hb d_T_run_124 ?_
        refine lv_iload hx hb d_T_run_125 (lv_at hl 4 rfl) ?_
        refine lv_iadd hx hb d_T_run_127 ?_
        refine lv_iconst (v := 1) hx hb d_T_run_128 (by decide) ?_
        refine lv_iadd hx hb d_T_run_129 ?_
        refine m_zald hx hb hK hH.1 2 (tw_8) rfl (j := 3001 * d + (k2 + 1)) (ixd1 d k2) (by omega) (by decide) d_T_run_130 ?_
        refine lv_if_eq (tgt := 140) hx hb d_T_run_131 (by decide) (fun c7 => ?_) (fun c7 => ?_)
        · skip
          have hrec2 : cpF σ d (3000 - k2) k2 = k2 := by obtain ⟨f, hf⟩ : ∃ f, 3000 - k2 = f + 1 := ⟨3000 - k2 - 1, by omega⟩; rw [hf]; exact if_pos c7
          refine lv_iload hx hb d_T_run_140 (lv_at hl 4 rfl) ?_
          exact m_iret hx hb hr hlocks hsz hH (⟨⟨k, hst, by first | (rw [if_pos c5, hi3 c5]) | (rw [if_neg (fun z => z c5), hi2, hrec2])⟩, rfl⟩) d_T_run_142
        · skip
          have hrec2 : cpF σ d (3000 - k2) k2 = cpF σ d (3000 - (k2 + 1)) (k2 + 1) := by obtain ⟨f, hf⟩ : ∃ f, 3000 - k2 = f + 1 := ⟨3000 - k2 - 1, by omega⟩; rw [hf, show 3000 - (k2 + 1) = f by omega]; exact if_neg c7
          refine lv_iinc (v := nI (k2 + 1)) (lv' := [(5, .int (nI (k2 + 1))), (0, .ref t), (1, .int (nI d)), (2, .int (nI i)), (3, .int b)]) hx hb d_T_run_134 hl (k := 4) rfl (nI_1 k2) (by decide) rfl (fun ls hl => ?_)
          refine lv_goto (tgt := 104) hx hb d_T_run_137 (by decide) ?_
          exact ih (_, _, _, k2 + 1) ⟨lv_sub hl [1, 2, 3, 4, 0] rfl, hH, by dsimp only; omega, by rw [hi2, hrec2], fun q => absurd c5 q⟩ (by dsimp only; omega)
  · skip
    have hrr : rnF σ d k ≤ i := by
          rcases Nat.lt_or_ge i (rnF σ d k) with h9 | h9
          · exact absurd (by rw [hi2]; exact pk_sneg (by have := rn_le σ d k; omega) h9) c1
          · exact h9
    have hk3 : k < 3000 := Nat.lt_of_le_of_ne hi1 (fun z => by rw [z] at hrr; omega)
    have hk4 : rnF σ d k ≤ i := hrr
    refine lv_iinc (v := nI (k + 1)) (lv' := [(5, .int (nI (k + 1))), (0, .ref t), (1, .int (nI d)), (2, .int (nI i)), (3, .int b), (4, .int x)]) hx hb d_T_run_53 hl (k := 5) rfl (nI_1 k) (by decide) rfl (fun ls hl => ?_)
    refine lv_aload_n hx hb d_T_run_56 rfl (lv_at hl 1 rfl) ?_
    refine m_get (ci := 7) (v := .ref (t + 8)) hx hb hT in_T hown hK hH.1 (tw_t) rfl 10 (by decide) (hT _ w682) (fun _ h9 => h9) rfl d_T_run_57 ?_
    refine lv_sipush (v := 3001) hx hb d_T_run_60 (by decide) ?_
    refine lv_iload_n hx hb d_T_run_63 rfl (lv_at hl 2 rfl) ?_
    refine lv_imul hx hb d_T_run_64 ?_
    refine lv_iload hx hb d_T_run_65 (lv_at hl 0 rfl) ?_
    refine lv_iadd hx hb d_T_run_67 ?_
    refine m_zald hx hb hK hH.1 2 (tw_8) rfl (j := 3001 * d + (k + 1)) (ixd d (k + 1)) (by omega) (by decide) d_T_run_68 ?_
    refine lv_if_eq (tgt := 97) hx hb d_T_run_69 (by decide) (fun c2 => ?_) (fun c2 => ?_)
    · skip
      have hrec : rnF σ d (k + 1) = rnF σ d k := if_neg (fun h => h.1 c2)
      have hx2 : x = nI i - nI (rnF σ d k) := hi2
      refine lv_iload hx hb d_T_run_97 (lv_at hl 5 rfl) ?_
      refine lv_istore (lv' := [(4, .int x), (5, .int (nI (k + 1))), (0, .ref t), (1, .int (nI d)), (2, .int (nI i)), (3, .int b)]) hx hb d_T_run_99 hl (by decide) rfl (fun ls hl => ?_)
      refine lv_goto (tgt := 48) hx hb d_T_run_101 (by decide) ?_
      exact ih (_, _, _, k + 1, x) ⟨lv_sub hl [2, 3, 4, 5, 0, 1] rfl, hH, by dsimp only; omega, by rw [hrec]; exact hx2, by dsimp only; rw [hrec]; omega, lt_s hi4 hk4⟩ (by dsimp only; omega)
    · skip
      refine lv_aload_n hx hb d_T_run_72 rfl (lv_at hl 1 rfl) ?_
      refine m_get (ci := 7) (v := .ref (t + 8)) hx hb hT in_T hown hK hH.1 (tw_t) rfl 10 (by decide) (hT _ w682) (fun _ h9 => h9) rfl d_T_run_73 ?_
      refine lv_sipush (v := 3001) hx hb d_T_run_76 (by decide) ?_
      refine lv_iload_n hx hb d_T_run_79 rfl (lv_at hl 2 rfl) ?_
      refine lv_imul hx hb d_T_run_80 ?_
      refine lv_iload hx hb d_T_run_81 (lv_at hl 0 rfl) ?_
      refine lv_iadd hx hb d_T_run_83 ?_
      refine lv_iconst (v := 1) hx hb d_T_run_84 (by decide) ?_
      refine lv_isub hx hb d_T_run_85 ?_
      refine m_zald hx hb hK hH.1 2 (tw_8) rfl (j := 3001 * d + k) (ixd2 d k) (by omega) (by decide) d_T_run_86 ?_
      refine lv_if_ne (tgt := 97) hx hb d_T_run_87 (by decide) (fun c3 => ?_) (fun c3 => ?_)
      · skip
        have hrec : rnF σ d (k + 1) = rnF σ d k := if_neg (fun h => c3 h.2)
        have hx2 : x = nI i - nI (rnF σ d k) := hi2
        refine lv_iload hx hb d_T_run_97 (lv_at hl 5 rfl) ?_
        refine lv_istore (lv' := [(4, .int x), (5, .int (nI (k + 1))), (0, .ref t), (1, .int (nI d)), (2, .int (nI i)), (3, .int b)]) hx hb d_T_run_99 hl (by decide) rfl (fun ls hl => ?_)
        refine lv_goto (tgt := 48) hx hb d_T_run_101 (by decide) ?_
        exact ih (_, _, _, k + 1, x) ⟨lv_sub hl [2, 3, 4, 5, 0, 1] rfl, hH, by dsimp only; omega, by rw [hrec]; exact hx2, by dsimp only; rw [hrec]; omega, lt_s hi4 hk4⟩ (by dsimp only; omega)
      · skip
        have hrec : rnF σ d (k + 1) = rnF σ d k + 1 := if_pos ⟨c2, c3⟩
        have hx2 : x - 1 = nI i - nI (rnF σ d k + 1) := by rw [hi2, sub_1]
        refine lv_iload hx hb d_T_run_90 (lv_at hl 5 rfl) ?_
        refine lv_iconst (v := 1) hx hb d_T_run_92 (by decide) ?_
        refine lv_isub hx hb d_T_run_93 ?_
        refine lv_goto (tgt := 99) hx hb d_T_run_94 (by decide) ?_
        refine lv_istore (lv' := [(4, .int (x - 1)), (5, .int (nI (k + 1))), (0, .ref t), (1, .int (nI d)), (2, .int (nI i)), (3, .int b)]) hx hb d_T_run_99 hl (by decide) rfl (fun ls hl => ?_)
        refine lv_goto (tgt := 48) hx hb d_T_run_101 (by decide) ?_
        exact ih (_, _, _, k + 1, (x - 1)) ⟨lv_sub hl [2, 3, 4, 5, 0, 1] rfl, hH, by dsimp only; omega, by rw [hrec]; exact hx2, by dsimp only; rw [hrec]; omega, lt_s hi4 hk4⟩ (by dsimp only; omega)
