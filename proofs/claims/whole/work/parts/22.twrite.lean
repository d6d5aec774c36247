/-! The reference: what a write is. -/
def atN (n k : Nat) : Nat := if k = n + 3 then 43 else k
def hdI (σ : SG) (c n : Nat) : Int32 := 256 * ((sq σ c (cur σ c) + 1) &&& 255) + nI n
def vlI (σ : SG) (c a n : Nat) (v : Int32) (k : Nat) : Int32 := if k = 0 ∨ k = n + 3 then hdI σ c n else if k = 1 then nI a else if k = 2 then v else σ 7 (a + k - 3)
def wv5 (σ τ : SG) (c a n : Nat) (v : Int32) (k : Nat) : SG := su τ 5 (88 * c + 44 * (1 - cur σ c) + atN n k) (vlI σ c a n v k).toInt16.toInt32
def wl (σ : SG) (c a n : Nat) (v : Int32) : Nat → SG
  | 0 => σ
  | k + 1 => su (wv5 σ (wl σ c a n v k) c a n v k) 4 c ((wl σ c a n v k) 4 c + 1)
theorem wl_r {σ : SG} {c a n : Nat} {v : Int32} (r : Nat) (h4 : r ≠ 4) (h5 : r ≠ 5) : ∀ k, wl σ c a n v k r = σ r
  | 0 => rfl
  | k + 1 => by
    show su (wv5 σ (wl σ c a n v k) c a n v k) 4 c ((wl σ c a n v k) 4 c + 1) r = σ r
    rw [su_kf h4]
    show su (wl σ c a n v k) 5 _ _ r = σ r
    rw [su_kf h5]
    exact wl_r r h4 h5 k
def w0N (σ : SG) (c : Nat) : Nat := if σ 3 c = -1 then 50 else (σ 3 c).toNatClampNeg
def kOK (σ : SG) (c : Nat) : Prop := σ 3 c = -1 ∨ ∃ k, k ≤ 50 ∧ σ 3 c = nI k
theorem nI_m1 {k : Nat} (h : k ≤ 50) : ¬ nI k = -1 := fun z => by
  have h2 := congrArg Int32.toInt z
  rw [nI_toInt (by omega)] at h2
  have : (-1 : Int32).toInt = -1 := by decide
  omega
theorem w0N_a {σ : SG} {c : Nat} (h : σ 3 c = -1) : w0N σ c = 50 := if_pos h
theorem w0N_b {σ : SG} {c : Nat} (hk : kOK σ c) (h : ¬ σ 3 c = -1) : σ 3 c = nI (w0N σ c) ∧ w0N σ c ≤ 50 := by
  rcases hk with hk | ⟨k, hk, e⟩
  · exact absurd hk h
  · unfold w0N
    rw [if_neg h, e, nI_clamp (by omega)]
    exact ⟨rfl, hk⟩
theorem w0N_le {σ : SG} {c : Nat} (hk : kOK σ c) : w0N σ c ≤ 50 := by
  by_cases h : σ 3 c = -1
  · rw [w0N_a h]; omega
  · exact (w0N_b hk h).2
def wrS (σ : SG) (c a n : Nat) (v : Int32) : SG := su (wl σ c a n v (min (n + 4) (w0N σ c))) 3 c (-1)
noncomputable def wtS (σ : SG) (c a n : Nat) (v : Int32) : SG := @ite SG (tl0 σ c a n v ∧ tlW σ c a n) (Classical.propDecidable _) σ (wrS σ c a n v)
theorem wtS_1 {σ : SG} {c a n : Nat} {v : Int32} (h : tl0 σ c a n v ∧ tlW σ c a n) : wtS σ c a n v = σ := if_pos h
theorem wtS_0 {σ : SG} {c a n : Nat} {v : Int32} (h : ¬ (tl0 σ c a n v ∧ tlW σ c a n)) : wtS σ c a n v = wrS σ c a n v := if_neg h
theorem n1cur (σ : SG) (c : Nat) : (1 : Int32) - nI (cur σ c) = nI (1 - cur σ c) := by
  rcases (show cur σ c = 0 ∨ cur σ c = 1 by have := cur_lt σ c; omega) with h | h <;> rw [h] <;> rfl
theorem n2cur (σ : SG) (c : Nat) : (1 : Int32) - nI (1 - cur σ c) = nI (cur σ c) := by
  rcases (show cur σ c = 0 ∨ cur σ c = 1 by have := cur_lt σ c; omega) with h | h <;> rw [h] <;> rfl
theorem atN_lt {n k : Nat} (hn : n ≤ 40) (hk : k < n + 4) : atN n k < 44 := by
  unfold atN
  split <;> omega
theorem ak3 {a k : Nat} (h : 3 ≤ k) : nI a + nI k - 3 = nI (a + k - 3) := by
  rw [nI_add]
  exact pk_sub (a := a + k) (b := 3) (by omega)
set_option maxHeartbeats 4000000 in
set_option maxRecDepth 100000 in
theorem c_T_write (l : Launch) (g : GG) (t : Nat) (σ : SG) (c a n : Nat) (v : Int32) (sz : Nat) (hc : c < 4000) (ha : a + n ≤ 3001) (hn : n ≤ 40) (hk : kOK σ c) : Met l y_T_write (k_T_write :: TT) { frames := 6, cells := 0, slots := 0, locals := 135 } (Pm g [.ref t, .int (nI c), .int (nI a), .int (nI n), .int v] sz (tw g t σ)) (Qm g (tw g t σ) (fun _ : Unit => none) (fun _ M1 => M1 = tw g t (wtS σ c a n v))) 0 0 (mA (tw g t σ) sz) := by
  refine met_of (by decide) (Nat.le_of_ble_eq_true rfl) ?_
  intro pr en s mi below meth co hx hb hr hml hown hlocks hnm hT hsz hP hK ls hl
  have hl : lv_has ls 11 [(0, .ref t), (1, .int (nI c)), (2, .int (nI a)), (3, .int (nI n)), (4, .int v)] := hl
  have hH := HS.start hP
  have hkl := w0N_le hk
  refine lv_aload_n hx hb d_T_write_0 rfl (lv_at hl 0 rfl) ?_
  refine lv_iload_n hx hb d_T_write_1 rfl (lv_at hl 1 rfl) ?_
  refine lv_iload_n hx hb d_T_write_2 rfl (lv_at hl 2 rfl) ?_
  refine lv_iload_n hx hb d_T_write_3 rfl (lv_at hl 3 rfl) ?_
  refine lv_iload hx hb d_T_write_4 (lv_at hl 4 rfl) ?_
  refine rd_run (c_V (As := [.int (nI c), .int (nI a), .int (nI n), .int v]) (rest := []) hx hb hml hl.1 hown hT hK hH.1 (c_T_tells l g t σ c a n v s.heap.size hc ha hn) kw_T_tells w759 w761 selp_T_tells w8 hd_T_tells rfl rfl ⟨by decide, by decide⟩ (tw_t) rfl rfl rfl (Nat.le_of_ble_eq_true rfl) d_T_write_6 ⟨by decide, by decide⟩) rfl ?_
  refine lv_if_eq (tgt := 13) hx hb d_T_write_9 (by decide) (fun c0 => ?_) (fun c0 => ?_)
  · skip
    have c0 := smI_z.mp c0
    refine lv_iconst (v := 1) hx hb d_T_write_13 (by decide) ?_
    refine lv_aload_n hx hb d_T_write_14 rfl (lv_at hl 0 rfl) ?_
    refine lv_iload_n hx hb d_T_write_15 rfl (lv_at hl 1 rfl) ?_
    refine rd_run (c_V (As := [.int (nI c)]) (rest := [.int 1]) hx hb hml hl.1 hown hT hK hH.1 (c_T_current l g t σ c s.heap.size hc) kw_T_current w767 w769 selp_T_current w8 hd_T_current rfl rfl ⟨by decide, by decide⟩ (tw_t) rfl rfl rfl (Nat.le_of_ble_eq_true rfl) d_T_write_16 ⟨by decide, by decide⟩) rfl ?_
    refine lv_isub hx hb d_T_write_19 ?_
    rw [show (1 - (nI (cur σ c))) = nI (1 - cur σ c) from n1cur σ c]
    refine lv_istore (lv' := [(5, .int (nI (1 - cur σ c))), (0, .ref t), (1, .int (nI c)), (2, .int (nI a)), (3, .int (nI n)), (4, .int v)]) hx hb d_T_write_20 hl (by decide) rfl (fun ls hl => ?_)
    refine lv_sipush (v := 256) hx hb d_T_write_22 (by decide) ?_
    refine lv_aload_n hx hb d_T_write_25 rfl (lv_at hl 1 rfl) ?_
    refine lv_iload_n hx hb d_T_write_26 rfl (lv_at hl 2 rfl) ?_
    refine lv_iconst (v := 1) hx hb d_T_write_27 (by decide) ?_
    refine lv_iload hx hb d_T_write_28 (lv_at hl 0 rfl) ?_
    refine lv_isub hx hb d_T_write_30 ?_
    rw [show (1 - (nI (1 - cur σ c))) = nI (cur σ c) from n2cur σ c]
    refine rd_run (c_V (As := [.int (nI c), .int (nI (cur σ c))]) (rest := [.int 256]) hx hb hml hl.1 hown hT hK hH.1 (c_T_sequence l g t σ c (cur σ c) s.heap.size hc (cur_lt _ _)) kw_T_sequence w779 w781 selp_T_sequence w8 hd_T_sequence rfl rfl ⟨by decide, by decide⟩ (tw_t) rfl rfl rfl (Nat.le_of_ble_eq_true rfl) d_T_write_31 ⟨by decide, by decide⟩) rfl ?_
    refine lv_iconst (v := 1) hx hb d_T_write_34 (by decide) ?_
    refine lv_iadd hx hb d_T_write_35 ?_
    refine lv_sipush (v := 255) hx hb d_T_write_36 (by decide) ?_
    refine lv_iand hx hb d_T_write_39 ?_
    refine lv_imul hx hb d_T_write_40 ?_
    refine lv_iload_n hx hb d_T_write_41 rfl (lv_at hl 4 rfl) ?_
    refine lv_iadd hx hb d_T_write_42 ?_
    rw [show ((256 * (((sq σ c (cur σ c)) + 1) &&& 255)) + (nI n)) = hdI σ c n from rfl]
    refine lv_istore (lv' := [(6, .int (hdI σ c n)), (5, .int (nI (1 - cur σ c))), (0, .ref t), (1, .int (nI c)), (2, .int (nI a)), (3, .int (nI n)), (4, .int v)]) hx hb d_T_write_43 hl (by decide) rfl (fun ls hl => ?_)
    refine W.join (fun x : Int32 => x = nI (w0N σ c)) (f := fun x => F0 mi 66 ls (.int x :: [])) (fun x ex => ?_) (fun hj => ?_)
    · skip
      subst ex
      refine lv_istore (lv' := [(7, .int (nI (w0N σ c))), (6, .int (hdI σ c n)), (5, .int (nI (1 - cur σ c))), (0, .ref t), (1, .int (nI c)), (2, .int (nI a)), (3, .int (nI n)), (4, .int v)]) hx hb d_T_write_66 hl (by decide) rfl (fun ls hl => ?_)
      refine lv_iconst (v := 0) hx hb d_T_write_68 (by decide) ?_
      refine lv_istore (lv' := [(8, .int 0), (7, .int (nI (w0N σ c))), (6, .int (hdI σ c n)), (5, .int (nI (1 - cur σ c))), (0, .ref t), (1, .int (nI c)), (2, .int (nI a)), (3, .int (nI n)), (4, .int v)]) hx hb d_T_write_69 hl (by decide) rfl (fun ls hl => ?_)
      refine W.rep (α := Heap × List Loc × Array Slot × Nat) (fun (H, locs, ls, k) => n + 4 - k) (fun (H, locs, ls, k) => lv_has ls 11 [(0, .ref t), (1, .int (nI c)), (2, .int (nI a)), (3, .int (nI n)), (4, .int v), (5, .int (nI (1 - cur σ c))), (6, .int (hdI σ c n)), (7, .int (nI (w0N σ c))), (8, .int (nI k))] ∧ HS g (mA (tw g t σ) s.heap.size) s.heap (tw g t (wl σ c a n v k)) H locs ∧ k ≤ n + 4 ∧ k ≤ w0N σ c) (fun (H, locs, ls, k) => H) (fun (H, locs, ls, k) => locs) (fun (H, locs, ls, k) => F0 mi 71 ls []) ?_ (s.heap, [], ls, 0) ⟨lv_sub hl [4, 5, 6, 7, 8, 3, 2, 1, 0] rfl, hH, by omega, by omega⟩
      rintro ⟨H, locs, ls, k⟩ ⟨hl, hH, hi1, hi2⟩ ih
      dsimp only at hl hH hi1 hi2 ih ⊢
      refine lv_iload hx hb d_T_write_71 (lv_at hl 8 rfl) ?_
      refine lv_iload_n hx hb d_T_write_73 rfl (lv_at hl 3 rfl) ?_
      refine lv_iconst (v := 4) hx hb d_T_write_74 (by decide) ?_
      refine lv_iadd hx hb d_T_write_75 ?_
      rw [show ((nI n) + 4) = nI (n + 4) from nI_add n 4]
      refine lv_icmp_ge (tgt := 192) hx hb d_T_write_76 (by decide) (fun c2 => ?_) (fun c2 => ?_)
      · skip
        have hk2 : min (n + 4) (w0N σ c) = k := by have := ge_of c2 (by omega) (by omega); omega
        refine lv_aload_n hx hb d_T_write_192 rfl (lv_at hl 0 rfl) ?_
        refine m_get (ci := 7) (v := .ref (t + 3)) hx hb hT in_T hown hK hH.1 (tw_t) rfl 4 (by decide) (hT _ w676) (fun _ h9 => h9) rfl d_T_write_193 ?_
        refine lv_iload_n hx hb d_T_write_196 rfl (lv_at hl 1 rfl) ?_
        refine lv_iconst (v := (-1)) hx hb d_T_write_197 (by decide) ?_
        refine m_iast hx hb hK hH 0 (tw_3) rfl (j := c) (rfl) (by omega) (by decide) d_T_write_198 (fun H locs hH hzz => ?_)
        replace hH := tws_3 hH
        exact m_vret hx hb hr hlocks hsz hH (by rw [wtS_0 c0]; unfold wrS; rw [hk2]) d_T_write_199
      · skip
        have hk1 : k < n + 4 := by rcases Nat.lt_or_ge k (n + 4) with h9 | h9; exact h9; exact absurd (nI_le h9 (by omega)) c2
        refine lv_iload hx hb d_T_write_79 (lv_at hl 8 rfl) ?_
        refine lv_iload hx hb d_T_write_81 (lv_at hl 7 rfl) ?_
        refine lv_icmp_ge (tgt := 192) hx hb d_T_write_83 (by decide) (fun c3 => ?_) (fun c3 => ?_)
        · skip
          have hk2 : min (n + 4) (w0N σ c) = k := by have := ge_of c3 (by omega) (by omega); omega
          refine lv_aload_n hx hb d_T_write_192 rfl (lv_at hl 0 rfl) ?_
          refine m_get (ci := 7) (v := .ref (t + 3)) hx hb hT in_T hown hK hH.1 (tw_t) rfl 4 (by decide) (hT _ w676) (fun _ h9 => h9) rfl d_T_write_193 ?_
          refine lv_iload_n hx hb d_T_write_196 rfl (lv_at hl 1 rfl) ?_
          refine lv_iconst (v := (-1)) hx hb d_T_write_197 (by decide) ?_
          refine m_iast hx hb hK hH 0 (tw_3) rfl (j := c) (rfl) (by omega) (by decide) d_T_write_198 (fun H locs hH hzz => ?_)
          replace hH := tws_3 hH
          exact m_vret hx hb hr hlocks hsz hH (by rw [wtS_0 c0]; unfold wrS; rw [hk2]) d_T_write_199
        · skip
          have hk3 : k < w0N σ c := by rcases Nat.lt_or_ge k (w0N σ c) with h9 | h9; exact h9; exact absurd (nI_le h9 (by omega)) c3
          refine W.join (fun x : Int32 => x = nI (atN n k)) (f := fun x => F0 mi 101 ls (.int x :: [])) (fun x ex => ?_) (fun hj => ?_)
          · skip
            subst ex
            refine lv_istore (lv' := [(9, .int (nI (atN n k))), (0, .ref t), (1, .int (nI c)), (2, .int (nI a)), (3, .int (nI n)), (4, .int v), (5, .int (nI (1 - cur σ c))), (6, .int (hdI σ c n)), (7, .int (nI (w0N σ c))), (8, .int (nI k))]) hx hb d_T_write_101 hl (by decide) rfl (fun ls hl => ?_)
            refine W.join (fun x : Int32 => x = vlI σ c a n v k) (f := fun x => F0 mi 153 ls (.int x :: [])) (fun x ex => ?_) (fun hj => ?_)
            · skip
              subst ex
              refine lv_istore (lv' := [(10, .int (vlI σ c a n v k)), (9, .int (nI (atN n k))), (0, .ref t), (1, .int (nI c)), (2, .int (nI a)), (3, .int (nI n)), (4, .int v), (5, .int (nI (1 - cur σ c))), (6, .int (hdI σ c n)), (7, .int (nI (w0N σ c))), (8, .int (nI k))]) hx hb d_T_write_153 hl (by decide) rfl (fun ls hl => ?_)
              refine lv_aload_n hx hb d_T_write_155 rfl (lv_at hl 2 rfl) ?_
              refine m_get (ci := 7) (v := .ref (t + 5)) hx hb hT in_T hown hK hH.1 (tw_t) rfl 6 (by decide) (hT _ w678) (fun _ h9 => h9) rfl d_T_write_156 ?_
              refine lv_bipush (v := 88) hx hb d_T_write_159 (by decide) ?_
              refine lv_iload_n hx hb d_T_write_161 rfl (lv_at hl 3 rfl) ?_
              refine lv_imul hx hb d_T_write_162 ?_
              refine lv_bipush (v := 44) hx hb d_T_write_163 (by decide) ?_
              refine lv_iload hx hb d_T_write_165 (lv_at hl 7 rfl) ?_
              refine lv_imul hx hb d_T_write_167 ?_
              refine lv_iadd hx hb d_T_write_168 ?_
              refine lv_iload hx hb d_T_write_169 (lv_at hl 1 rfl) ?_
              refine lv_iadd hx hb d_T_write_171 ?_
              refine lv_iload hx hb d_T_write_172 (lv_at hl 0 rfl) ?_
              refine lv_i2s (v := (vlI σ c a n v k).toInt16.toInt32) hx hb d_T_write_174 rfl ?_
              refine m_sast hx hb hK hH 1 (tw_5) rfl (j := 88 * c + 44 * (1 - cur σ c) + atN n k) (ix3 c (1 - cur σ c) (atN n k)) (by have := atN_lt hn hk1; omega) (by decide) d_T_write_175 (fun H locs hH hzz => ?_)
              rw [pk_vs] at hH
              replace hH := tws_5 hH
              refine lv_aload_n hx hb d_T_write_176 rfl (lv_at hl 2 rfl) ?_
              refine m_get (ci := 7) (v := .ref (t + 4)) hx hb hT in_T hown hK hH.1 (tw_t) rfl 5 (by decide) (hT _ w677) (fun _ h9 => h9) rfl d_T_write_177 ?_
              refine lv_iload_n hx hb d_T_write_180 rfl (lv_at hl 3 rfl) ?_
              refine lv_dup2_11 hx hb d_T_write_181 rfl rfl ?_
              refine m_iald hx hb hK hH.1 0 (tw_4) rfl (j := c) (rfl) (by omega) (by decide) d_T_write_182 ?_
              refine lv_iconst (v := 1) hx hb d_T_write_183 (by decide) ?_
              refine lv_iadd hx hb d_T_write_184 ?_
              refine m_iast hx hb hK hH 0 (tw_4) rfl (j := c) (rfl) (by omega) (by decide) d_T_write_185 (fun H locs hH hzz => ?_)
              replace hH := tws_4 hH
              refine lv_iinc (v := nI (k + 1)) (lv' := [(8, .int (nI (k + 1))), (10, .int (vlI σ c a n v k)), (9, .int (nI (atN n k))), (0, .ref t), (1, .int (nI c)), (2, .int (nI a)), (3, .int (nI n)), (4, .int v), (5, .int (nI (1 - cur σ c))), (6, .int (hdI σ c n)), (7, .int (nI (w0N σ c)))]) hx hb d_T_write_186 hl (k := 10) rfl (nI_1 k) (by decide) rfl (fun ls hl => ?_)
              refine lv_goto (tgt := 71) hx hb d_T_write_189 (by decide) ?_
              exact ih (_, _, _, k + 1) ⟨lv_sub hl [3, 4, 5, 6, 7, 8, 9, 10, 0] rfl, hH, by dsimp only; omega, by dsimp only; omega⟩ (by dsimp only; omega)
            · skip
              refine lv_iload hx hb d_T_write_103 (lv_at hl 9 rfl) ?_
              refine lv_if_eq (tgt := 116) hx hb d_T_write_105 (by decide) (fun c5 => ?_) (fun c5 => ?_)
              · skip
                have c5 : k = 0 := (nI_eq (b := 0) (by omega) (by decide)).mp c5
                refine lv_iload hx hb d_T_write_116 (lv_at hl 7 rfl) ?_
                refine lv_goto (tgt := 153) hx hb d_T_write_118 (by decide) ?_
                exact hj _ (by first | (unfold vlI; rw [if_pos (Or.inl c5)]) | (unfold vlI; rw [if_pos (Or.inr c6)]) | (unfold vlI; rw [if_neg (fun z => z.elim c5 c6), if_pos c7]) | (unfold vlI; rw [if_neg (fun z => z.elim c5 c6), if_neg c7, if_pos c8]) | (unfold vlI; rw [if_neg (fun z => z.elim c5 c6), if_neg c7, if_neg c8, wl_r 7 (by decide) (by decide)]))
              · skip
                have c5 : ¬ k = 0 := fun z => c5 (by rw [z]; rfl)
                refine lv_iload hx hb d_T_write_108 (lv_at hl 9 rfl) ?_
                refine lv_iload_n hx hb d_T_write_110 rfl (lv_at hl 4 rfl) ?_
                refine lv_iconst (v := 3) hx hb d_T_write_111 (by decide) ?_
                refine lv_iadd hx hb d_T_write_112 ?_
                rw [show ((nI n) + 3) = nI (n + 3) from nI_add n 3]
                refine lv_icmp_ne (tgt := 121) hx hb d_T_write_113 (by decide) (fun c6 => ?_) (fun c6 => ?_)
                · skip
                  have c6 : ¬ k = n + 3 := fun z => c6 (by rw [z])
                  refine lv_iload hx hb d_T_write_121 (lv_at hl 9 rfl) ?_
                  refine lv_iconst (v := 1) hx hb d_T_write_123 (by decide) ?_
                  refine lv_icmp_ne (tgt := 131) hx hb d_T_write_124 (by decide) (fun c7 => ?_) (fun c7 => ?_)
                  · skip
                    have c7 : ¬ k = 1 := fun z => c7 (by rw [z]; rfl)
                    refine lv_iload hx hb d_T_write_131 (lv_at hl 9 rfl) ?_
                    refine lv_iconst (v := 2) hx hb d_T_write_133 (by decide) ?_
                    refine lv_icmp_ne (tgt := 142) hx hb d_T_write_134 (by decide) (fun c8 => ?_) (fun c8 => ?_)
                    · skip
                      have c8 : ¬ k = 2 := fun z => c8 (by rw [z]; rfl)
                      have hk9 : 3 ≤ k := by omega
                      refine lv_aload_n hx hb d_T_write_142 rfl (lv_at hl 1 rfl) ?_
                      refine m_get (ci := 7) (v := .ref (t + 7)) hx hb hT in_T hown hK hH.1 (tw_t) rfl 8 (by decide) (hT _ w680) (fun _ h9 => h9) rfl d_T_write_143 ?_
                      refine lv_iload_n hx hb d_T_write_146 rfl (lv_at hl 3 rfl) ?_
                      refine lv_iload hx hb d_T_write_147 (lv_at hl 9 rfl) ?_
                      refine lv_iadd hx hb d_T_write_149 ?_
                      refine lv_iconst (v := 3) hx hb d_T_write_150 (by decide) ?_
                      refine lv_isub hx hb d_T_write_151 ?_
                      refine m_iald hx hb hK hH.1 0 (tw_7) rfl (j := a + k - 3) (ak3 hk9) (by omega) (by decide) d_T_write_152 ?_
                      exact hj _ (by first | (unfold vlI; rw [if_pos (Or.inl c5)]) | (unfold vlI; rw [if_pos (Or.inr c6)]) | (unfold vlI; rw [if_neg (fun z => z.elim c5 c6), if_pos c7]) | (unfold vlI; rw [if_neg (fun z => z.elim c5 c6), if_neg c7, if_pos c8]) | (unfold vlI; rw [if_neg (fun z => z.elim c5 c6), if_neg c7, if_neg c8, wl_r 7 (by decide) (by decide)]))
                    · skip
                      have c8 : k = 2 := (nI_eq (b := 2) (by omega) (by decide)).mp c8
                      refine lv_iload hx hb d_T_write_137 (lv_at hl 5 rfl) ?_
                      refine lv_goto (tgt := 153) hx hb d_T_write_139 (by decide) ?_
                      exact hj _ (by first | (unfold vlI; rw [if_pos (Or.inl c5)]) | (unfold vlI; rw [if_pos (Or.inr c6)]) | (unfold vlI; rw [if_neg (fun z => z.elim c5 c6), if_pos c7]) | (unfold vlI; rw [if_neg (fun z => z.elim c5 c6), if_neg c7, if_pos c8]) | (unfold vlI; rw [if_neg (fun z => z.elim c5 c6), if_neg c7, if_neg c8, wl_r 7 (by decide) (by decide)]))
                  · skip
                    have c7 : k = 1 := (nI_eq (b := 1) (by omega) (by decide)).mp c7
                    refine lv_iload_n hx hb d_T_write_127 rfl (lv_at hl 3 rfl) ?_
                    refine lv_goto (tgt := 153) hx hb d_T_write_128 (by decide) ?_
                    exact hj _ (by first | (unfold vlI; rw [if_pos (Or.inl c5)]) | (unfold vlI; rw [if_pos (Or.inr c6)]) | (unfold vlI; rw [if_neg (fun z => z.elim c5 c6), if_pos c7]) | (unfold vlI; rw [if_neg (fun z => z.elim c5 c6), if_neg c7, if_pos c8]) | (unfold vlI; rw [if_neg (fun z => z.elim c5 c6), if_neg c7, if_neg c8, wl_r 7 (by decide) (by decide)]))
                · skip
                  have c6 : k = n + 3 := (nI_eq (by omega) (by omega)).mp c6
                  refine lv_iload hx hb d_T_write_116 (lv_at hl 7 rfl) ?_
                  refine lv_goto (tgt := 153) hx hb d_T_write_118 (by decide) ?_
                  exact hj _ (by first | (unfold vlI; rw [if_pos (Or.inl c5)]) | (unfold vlI; rw [if_pos (Or.inr c6)]) | (unfold vlI; rw [if_neg (fun z => z.elim c5 c6), if_pos c7]) | (unfold vlI; rw [if_neg (fun z => z.elim c5 c6), if_neg c7, if_pos c8]) | (unfold vlI; rw [if_neg (fun z => z.elim c5 c6), if_neg c7, if_neg c8, wl_r 7 (by decide) (by decide)]))
          · skip
            refine lv_iload hx hb d_T_write_86 (lv_at hl 8 rfl) ?_
            refine lv_iload_n hx hb d_T_write_88 rfl (lv_at hl 3 rfl) ?_
            refine lv_iconst (v := 3) hx hb d_T_write_89 (by decide) ?_
            refine lv_iadd hx hb d_T_write_90 ?_
            rw [show ((nI n) + 3) = nI (n + 3) from nI_add n 3]
            refine lv_icmp_ne (tgt := 99) hx hb d_T_write_91 (by decide) (fun c4 => ?_) (fun c4 => ?_)
            · skip
              have c4 : ¬ k = n + 3 := fun z => c4 (by rw [z])
              refine lv_iload hx hb d_T_write_99 (lv_at hl 8 rfl) ?_
              exact hj _ (by first | (unfold atN; rw [if_pos c4]; rfl) | (unfold atN; rw [if_neg c4]))
            · skip
              have c4 : k = n + 3 := (nI_eq (by omega) (by omega)).mp c4
              refine lv_bipush (v := 43) hx hb d_T_write_94 (by decide) ?_
              refine lv_goto (tgt := 101) hx hb d_T_write_96 (by decide) ?_
              exact hj _ (by first | (unfold atN; rw [if_pos c4]; rfl) | (unfold atN; rw [if_neg c4]))
    · skip
      refine lv_aload_n hx hb d_T_write_45 rfl (lv_at hl 2 rfl) ?_
      refine m_get (ci := 7) (v := .ref (t + 3)) hx hb hT in_T hown hK hH.1 (tw_t) rfl 4 (by decide) (hT _ w676) (fun _ h9 => h9) rfl d_T_write_46 ?_
      refine lv_iload_n hx hb d_T_write_49 rfl (lv_at hl 3 rfl) ?_
      refine m_iald hx hb hK hH.1 0 (tw_3) rfl (j := c) (rfl) (by omega) (by decide) d_T_write_50 ?_
      refine lv_iconst (v := (-1)) hx hb d_T_write_51 (by decide) ?_
      refine lv_icmp_ne (tgt := 60) hx hb d_T_write_52 (by decide) (fun c1 => ?_) (fun c1 => ?_)
      · skip
        refine lv_aload_n hx hb d_T_write_60 rfl (lv_at hl 2 rfl) ?_
        refine m_get (ci := 7) (v := .ref (t + 3)) hx hb hT in_T hown hK hH.1 (tw_t) rfl 4 (by decide) (hT _ w676) (fun _ h9 => h9) rfl d_T_write_61 ?_
        refine lv_iload_n hx hb d_T_write_64 rfl (lv_at hl 3 rfl) ?_
        refine m_iald hx hb hK hH.1 0 (tw_3) rfl (j := c) (rfl) (by omega) (by decide) d_T_write_65 ?_
        exact hj _ (by first | (rw [w0N_a c1]; rfl) | exact (w0N_b hk c1).1)
      · skip
        refine lv_bipush (v := 50) hx hb d_T_write_55 (by decide) ?_
        refine lv_goto (tgt := 66) hx hb d_T_write_57 (by decide) ?_
        exact hj _ (by first | (rw [w0N_a c1]; rfl) | exact (w0N_b hk c1).1)
  · skip
    have c0 := Classical.not_not.mp (fun z => c0 (smI_z.mpr z))
    exact m_vret hx hb hr hlocks hsz hH (by rw [wtS_1 c0]) d_T_write_12
