/-! The reference: the public methods. -/
def isS (σ : SG) (nc : Nat) (z d : Int32) : SG := su (su (su (su (su σ 0 0 0) 1 nc z) 2 nc d) 3 nc (-1)) 0 1 (σ 0 1 + 1)
def rvS (σ : SG) (c ne : Nat) : SG := su (su (su (su σ 0 0 0) 0 2 (σ 0 2 + 1)) 6 c (σ 0 2 + 1)) 7 (ne + 1) (nI c)
theorem c0_5 {σ : SG} {v : Int32} : su σ 0 0 v 5 = σ 5 := su_kf (by decide)
theorem c0_r {σ : SG} {v : Int32} {r : Nat} (h : r ≠ 0) : su σ 0 0 v r = σ r := su_kf h
def crI (σ : SG) (c : Nat) (w : Int32) : Int32 := if ¬ w = 0 then (if ¬ w = 1 then (if ¬ w = 2 then seI σ c else fiI σ c) else cnI σ c) else nI (cur σ c)
def abI (σ : SG) (d : Nat) (w : Int32) : Int32 := if ¬ w = 0 then (if ¬ w = 1 then (if ¬ w = 2 then (if ¬ w = 3 then nI (rnF σ d 3000) else nI (mkF σ d 3000)) else (if σ 11 d - nI (cmp σ d) ≤ 0 then 0 else σ 11 d - nI (cmp σ d))) else (if nI (gre σ d) ≤ σ 11 d then σ 11 d else nI (gre σ d))) else nI (cmp σ d)
theorem hs8 {σ τ : SG} (h : σ 8 = τ 8) (d e : Nat) : hs σ d e = hs τ d e := by unfold hs; rw [h]
theorem gr8 {σ τ : SG} (h : σ 8 = τ 8) (d : Nat) : ∀ k, grF σ d k = grF τ d k
  | 0 => rfl
  | k + 1 => by
    show (if hs σ d (k + 1) = 0 then grF σ d k else k + 1) = (if hs τ d (k + 1) = 0 then grF τ d k else k + 1)
    rw [hs8 h, gr8 h d k]
theorem gre8 {σ τ : SG} (h : σ 8 = τ 8) (d : Nat) : gre σ d = gre τ d := gr8 h d 3000
theorem cp8 {σ τ : SG} (h : σ 8 = τ 8) (d : Nat) : ∀ f e, cpF σ d f e = cpF τ d f e
  | 0, _ => rfl
  | f + 1, e => by
    show (if hs σ d (e + 1) = 0 then e else cpF σ d f (e + 1)) = (if hs τ d (e + 1) = 0 then e else cpF τ d f (e + 1))
    rw [hs8 h, cp8 h d f (e + 1)]
theorem cmp8 {σ τ : SG} (h : σ 8 = τ 8) (d : Nat) : cmp σ d = cmp τ d := cp8 h d 3000 0
theorem mk8 {σ τ : SG} (h : σ 8 = τ 8) (d : Nat) : ∀ k, mkF σ d k = mkF τ d k
  | 0 => rfl
  | k + 1 => by
    show (if hs σ d (k + 1) = 0 then mkF σ d k else mkF σ d k + 1) = (if hs τ d (k + 1) = 0 then mkF τ d k else mkF τ d k + 1)
    rw [hs8 h, mk8 h d k]
theorem rn8 {σ τ : SG} (h : σ 8 = τ 8) (d : Nat) : ∀ k, rnF σ d k = rnF τ d k
  | 0 => rfl
  | k + 1 => by
    show (if ¬ hs σ d (k + 1) = 0 ∧ hs σ d k = 0 then rnF σ d k + 1 else rnF σ d k) = (if ¬ hs τ d (k + 1) = 0 ∧ hs τ d k = 0 then rnF τ d k + 1 else rnF τ d k)
    rw [hs8 h, hs8 h, rn8 h d k]
theorem ndI_z : ∀ x : Int32, ndI x = 0 ∨ ndI x = 1 := fun x => by
  unfold ndI
  split
  · exact Or.inr rfl
  · exact Or.inl rfl
theorem rvI_z (σ : SG) (d e2 : Nat) : rvI σ d e2 = 0 ∨ rvI σ d e2 = 1 := by
  unfold rvI
  split
  · exact Or.inr rfl
  · exact Or.inl rfl
theorem ncI_z (σ : SG) : ∀ x : Int32, ncI σ x = 0 ∨ ncI σ x = 1 := fun x => by
  unfold ncI
  split
  · exact Or.inr rfl
  · exact Or.inl rfl
set_option maxHeartbeats 4000000 in
set_option maxRecDepth 100000 in
theorem c_T_cards (l : Launch) (g : GG) (t : Nat) (σ : SG) (sz : Nat) : Met l y_T_cards (k_T_cards :: TT) { frames := 0, cells := 0, slots := 0, locals := 0 } (Pm g [.ref t] sz (tw g t σ)) (Qm g (tw g t σ) (fun r : Int32 => some (.int r)) (fun r M1 => r = σ 0 1 ∧ M1 = tw g t (su σ 0 0 0))) 0 0 (mA (tw g t σ) sz) := by
  refine met_of (by decide) (Nat.le_of_ble_eq_true rfl) ?_
  intro pr en s mi below meth co hx hb hr hml hown hlocks hnm hT hsz hP hK ls hl
  have hl : lv_has ls 1 [(0, .ref t)] := hl
  have hH := HS.start hP
  refine lv_aload_n hx hb d_T_cards_0 rfl (lv_at hl 0 rfl) ?_
  refine lv_iconst (v := 0) hx hb d_T_cards_1 (by decide) ?_
  refine m_put (ci := 7) (v := .int 0) (ty := .int) hx hb hT in_T ty_T tk_T nm_T hown hK hH (tw_t) rfl 0 (by decide) (hT _ w672) (fun _ h9 => h9) rfl (by decide +kernel) rfl rfl (Nat.le_of_ble_eq_true rfl) d_T_cards_2 (e1 := oT t (su (σ) 0 0 0)) rfl (fun H locs hH hzz => ?_)
  replace hH := two hH
  refine lv_aload_n hx hb d_T_cards_5 rfl (lv_at hl 0 rfl) ?_
  refine m_get (ci := 7) (v := .int ((σ) 0 1)) hx hb hT in_T hown hK hH.1 (tw_t) rfl 1 (by decide) (hT _ w673) (fun _ h9 => h9) rfl d_T_cards_6 ?_
  exact m_iret hx hb hr hlocks hsz hH (⟨rfl, rfl⟩) d_T_cards_9
set_option maxHeartbeats 4000000 in
set_option maxRecDepth 100000 in
theorem c_T_entries (l : Launch) (g : GG) (t : Nat) (σ : SG) (sz : Nat) : Met l y_T_entries (k_T_entries :: TT) { frames := 0, cells := 0, slots := 0, locals := 0 } (Pm g [.ref t] sz (tw g t σ)) (Qm g (tw g t σ) (fun r : Int32 => some (.int r)) (fun r M1 => r = σ 0 2 ∧ M1 = tw g t (su σ 0 0 0))) 0 0 (mA (tw g t σ) sz) := by
  refine met_of (by decide) (Nat.le_of_ble_eq_true rfl) ?_
  intro pr en s mi below meth co hx hb hr hml hown hlocks hnm hT hsz hP hK ls hl
  have hl : lv_has ls 1 [(0, .ref t)] := hl
  have hH := HS.start hP
  refine lv_aload_n hx hb d_T_entries_0 rfl (lv_at hl 0 rfl) ?_
  refine lv_iconst (v := 0) hx hb d_T_entries_1 (by decide) ?_
  refine m_put (ci := 7) (v := .int 0) (ty := .int) hx hb hT in_T ty_T tk_T nm_T hown hK hH (tw_t) rfl 0 (by decide) (hT _ w672) (fun _ h9 => h9) rfl (by decide +kernel) rfl rfl (Nat.le_of_ble_eq_true rfl) d_T_entries_2 (e1 := oT t (su (σ) 0 0 0)) rfl (fun H locs hH hzz => ?_)
  replace hH := two hH
  refine lv_aload_n hx hb d_T_entries_5 rfl (lv_at hl 0 rfl) ?_
  refine m_get (ci := 7) (v := .int ((σ) 0 2)) hx hb hT in_T hown hK hH.1 (tw_t) rfl 9 (by decide) (hT _ w681) (fun _ h9 => h9) rfl d_T_entries_6 ?_
  exact m_iret hx hb hr hlocks hsz hH (⟨rfl, rfl⟩) d_T_entries_9
set_option maxHeartbeats 4000000 in
set_option maxRecDepth 100000 in
theorem c_T_issue (l : Launch) (g : GG) (t : Nat) (σ : SG) (nc : Nat) (z d : Int32) (sz : Nat) (hnc : σ 0 1 = nI nc) (hn4 : nc < 4000) : Met l y_T_issue (k_T_issue :: TT) { frames := 0, cells := 0, slots := 0, locals := 0 } (Pm g [.ref t, .int z, .int d] sz (tw g t σ)) (Qm g (tw g t σ) (fun r : Int32 => some (.int r)) (fun r M1 => r = nI nc ∧ M1 = tw g t (isS σ nc z d))) 0 0 (mA (tw g t σ) sz) := by
  refine met_of (by decide) (Nat.le_of_ble_eq_true rfl) ?_
  intro pr en s mi below meth co hx hb hr hml hown hlocks hnm hT hsz hP hK ls hl
  have hl : lv_has ls 3 [(0, .ref t), (1, .int z), (2, .int d)] := hl
  have hH := HS.start hP
  refine lv_aload_n hx hb d_T_issue_0 rfl (lv_at hl 0 rfl) ?_
  refine lv_aload_n hx hb d_T_issue_1 rfl (lv_at hl 0 rfl) ?_
  refine m_get (ci := 7) (v := .int ((σ) 0 1)) hx hb hT in_T hown hK hH.1 (tw_t) rfl 1 (by decide) (hT _ w673) (fun _ h9 => h9) rfl d_T_issue_2 ?_
  refine lv_sipush (v := 4000) hx hb d_T_issue_5 (by decide) ?_
  refine lv_icmp_ne (tgt := 15) hx hb d_T_issue_8 (by decide) (fun _ => ?_) (fun hq9 => absurd hq9 (by rw [hnc]; exact fun q => absurd ((nI_eq (b := 4000) (by omega) (by decide)).mp q) (by omega)))
  refine lv_iconst (v := 0) hx hb d_T_issue_15 (by decide) ?_
  refine m_put (ci := 7) (v := .int 0) (ty := .int) hx hb hT in_T ty_T tk_T nm_T hown hK hH (tw_t) rfl 0 (by decide) (hT _ w672) (fun _ h9 => h9) rfl (by decide +kernel) rfl rfl (Nat.le_of_ble_eq_true rfl) d_T_issue_16 (e1 := oT t (su (σ) 0 0 0)) rfl (fun H locs hH hzz => ?_)
  replace hH := two hH
  refine lv_aload_n hx hb d_T_issue_19 rfl (lv_at hl 0 rfl) ?_
  refine m_get (ci := 7) (v := .int 0) hx hb hT in_T hown hK hH.1 (tw_t) rfl 0 (by decide) (hT _ w672) (fun _ h9 => h9) rfl d_T_issue_20 ?_
  refine lv_if_le (tgt := 28) hx hb d_T_issue_23 (by decide) (fun _ => ?_) (fun hq9 => absurd ((by decide : (0 : Int32) ≤ 0)) hq9)
  refine lv_aload_n hx hb d_T_issue_28 rfl (lv_at hl 0 rfl) ?_
  refine m_get (ci := 7) (v := .ref (t + 1)) hx hb hT in_T hown hK hH.1 (tw_t) rfl 2 (by decide) (hT _ w674) (fun _ h9 => h9) rfl d_T_issue_29 ?_
  refine lv_aload_n hx hb d_T_issue_32 rfl (lv_at hl 0 rfl) ?_
  refine m_get (ci := 7) (v := .int ((σ) 0 1)) hx hb hT in_T hown hK hH.1 (tw_t) rfl 1 (by decide) (hT _ w673) (fun _ h9 => h9) rfl d_T_issue_33 ?_
  refine lv_iload_n hx hb d_T_issue_36 rfl (lv_at hl 1 rfl) ?_
  refine m_iast hx hb hK hH 0 (tw_1) rfl (j := nc) (hnc) (by omega) (by decide) d_T_issue_37 (fun H locs hH hzz => ?_)
  replace hH := tws_1 hH
  refine lv_aload_n hx hb d_T_issue_38 rfl (lv_at hl 0 rfl) ?_
  refine m_get (ci := 7) (v := .ref (t + 2)) hx hb hT in_T hown hK hH.1 (tw_t) rfl 3 (by decide) (hT _ w675) (fun _ h9 => h9) rfl d_T_issue_39 ?_
  refine lv_aload_n hx hb d_T_issue_42 rfl (lv_at hl 0 rfl) ?_
  refine m_get (ci := 7) (v := .int ((σ) 0 1)) hx hb hT in_T hown hK hH.1 (tw_t) rfl 1 (by decide) (hT _ w673) (fun _ h9 => h9) rfl d_T_issue_43 ?_
  refine lv_iload_n hx hb d_T_issue_46 rfl (lv_at hl 2 rfl) ?_
  refine m_iast hx hb hK hH 0 (tw_2) rfl (j := nc) (hnc) (by omega) (by decide) d_T_issue_47 (fun H locs hH hzz => ?_)
  replace hH := tws_2 hH
  refine lv_aload_n hx hb d_T_issue_48 rfl (lv_at hl 0 rfl) ?_
  refine m_get (ci := 7) (v := .ref (t + 3)) hx hb hT in_T hown hK hH.1 (tw_t) rfl 4 (by decide) (hT _ w676) (fun _ h9 => h9) rfl d_T_issue_49 ?_
  refine lv_aload_n hx hb d_T_issue_52 rfl (lv_at hl 0 rfl) ?_
  refine m_get (ci := 7) (v := .int ((σ) 0 1)) hx hb hT in_T hown hK hH.1 (tw_t) rfl 1 (by decide) (hT _ w673) (fun _ h9 => h9) rfl d_T_issue_53 ?_
  refine lv_iconst (v := (-1)) hx hb d_T_issue_56 (by decide) ?_
  refine m_iast hx hb hK hH 0 (tw_3) rfl (j := nc) (hnc) (by omega) (by decide) d_T_issue_57 (fun H locs hH hzz => ?_)
  replace hH := tws_3 hH
  refine lv_aload_n hx hb d_T_issue_58 rfl (lv_at hl 0 rfl) ?_
  refine lv_dup hx hb d_T_issue_59 rfl ?_
  refine m_get (ci := 7) (v := .int ((σ) 0 1)) hx hb hT in_T hown hK hH.1 (tw_t) rfl 1 (by decide) (hT _ w673) (fun _ h9 => h9) rfl d_T_issue_60 ?_
  refine lv_iconst (v := 1) hx hb d_T_issue_63 (by decide) ?_
  refine lv_iadd hx hb d_T_issue_64 ?_
  refine m_put (ci := 7) (v := .int (((σ) 0 1) + 1)) (ty := .int) hx hb hT in_T ty_T tk_T nm_T hown hK hH (tw_t) rfl 1 (by decide) (hT _ w673) (fun _ h9 => h9) rfl (by decide +kernel) rfl rfl (Nat.le_of_ble_eq_true rfl) d_T_issue_65 (e1 := oT t (su (su (su (su (su (σ) 0 0 0) 1 (nc) z) 2 (nc) d) 3 (nc) (-1)) 0 1 (((σ) 0 1) + 1))) rfl (fun H locs hH hzz => ?_)
  replace hH := two hH
  refine lv_aload_n hx hb d_T_issue_68 rfl (lv_at hl 0 rfl) ?_
  refine m_get (ci := 7) (v := .int (((σ) 0 1) + 1)) hx hb hT in_T hown hK hH.1 (tw_t) rfl 1 (by decide) (hT _ w673) (fun _ h9 => h9) rfl d_T_issue_69 ?_
  refine lv_iconst (v := 1) hx hb d_T_issue_72 (by decide) ?_
  refine lv_isub hx hb d_T_issue_73 ?_
  exact m_iret hx hb hr hlocks hsz hH (⟨by rw [hnc, nI_1]; exact nI_pred nc, rfl⟩) d_T_issue_74
set_option maxHeartbeats 4000000 in
set_option maxRecDepth 100000 in
theorem c_T_revoke_b (l : Launch) (g : GG) (t : Nat) (σ : SG) (x : Int32) (sz : Nat) (hb1 : ncI σ x = 1) : Met l y_T_revoke (k_T_revoke :: TT) { frames := 1, cells := 0, slots := 0, locals := 21 } (Pm g [.ref t, .int x] sz (tw g t σ)) (Qm g (tw g t σ) (fun r : Int32 => some (.int r)) (fun r M1 => r = 0 ∧ M1 = tw g t (su σ 0 0 1))) 0 0 (mA (tw g t σ) sz) := by
  refine met_of (by decide) (Nat.le_of_ble_eq_true rfl) ?_
  intro pr en s mi below meth co hx hb hr hml hown hlocks hnm hT hsz hP hK ls hl
  have hl : lv_has ls 2 [(0, .ref t), (1, .int x)] := hl
  have hH := HS.start hP
  refine lv_aload_n hx hb d_T_revoke_0 rfl (lv_at hl 0 rfl) ?_
  refine lv_aload_n hx hb d_T_revoke_1 rfl (lv_at hl 0 rfl) ?_
  refine lv_iload_n hx hb d_T_revoke_2 rfl (lv_at hl 1 rfl) ?_
  refine rd_run (c_V (As := [.int x]) (rest := [.ref t]) hx hb hml hl.1 hown hT hK hH.1 (c_T_noCard l g t σ x s.heap.size) kw_T_noCard w743 w745 selp_T_noCard w8 hd_T_noCard rfl rfl ⟨by decide, by decide⟩ (tw_t) rfl rfl rfl (Nat.le_of_ble_eq_true rfl) d_T_revoke_3 ⟨by decide, by decide⟩) rfl ?_
  refine lv_if_eq (tgt := 13) hx hb d_T_revoke_6 (by decide) (fun hq9 => absurd hq9 (by rw [hb1]; decide)) (fun _ => ?_)
  refine lv_iconst (v := 1) hx hb d_T_revoke_9 (by decide) ?_
  refine lv_goto (tgt := 37) hx hb d_T_revoke_10 (by decide) ?_
  refine m_put (ci := 7) (v := .int 1) (ty := .int) hx hb hT in_T ty_T tk_T nm_T hown hK hH (tw_t) rfl 0 (by decide) (hT _ w672) (fun _ h9 => h9) rfl (by decide +kernel) rfl rfl (Nat.le_of_ble_eq_true rfl) d_T_revoke_37 (e1 := oT t (su (σ) 0 0 1)) rfl (fun H locs hH hzz => ?_)
  replace hH := two hH
  refine lv_aload_n hx hb d_T_revoke_40 rfl (lv_at hl 0 rfl) ?_
  refine m_get (ci := 7) (v := .int 1) hx hb hT in_T hown hK hH.1 (tw_t) rfl 0 (by decide) (hT _ w672) (fun _ h9 => h9) rfl d_T_revoke_41 ?_
  refine lv_if_le (tgt := 49) hx hb d_T_revoke_44 (by decide) (fun hq9 => absurd hq9 ((by decide : ¬ (1 : Int32) ≤ 0))) (fun _ => ?_)
  refine lv_iconst (v := 0) hx hb d_T_revoke_47 (by decide) ?_
  exact m_iret hx hb hr hlocks hsz hH (⟨rfl, rfl⟩) d_T_revoke_48
set_option maxHeartbeats 4000000 in
set_option maxRecDepth 100000 in
theorem c_T_revoke_n (l : Launch) (g : GG) (t : Nat) (σ : SG) (c e2 : Nat) (sz : Nat) (h0 : ncI σ (nI c) = 0) (hc : c < 4000) (he : σ 6 c = nI (e2 + 1)) (he2 : e2 < 3000) : Met l y_T_revoke (k_T_revoke :: TT) { frames := 1, cells := 0, slots := 0, locals := 21 } (Pm g [.ref t, .int (nI c)] sz (tw g t σ)) (Qm g (tw g t σ) (fun r : Int32 => some (.int r)) (fun r M1 => r = -1 ∧ M1 = tw g t (su σ 0 0 0))) 0 0 (mA (tw g t σ) sz) := by
  refine met_of (by decide) (Nat.le_of_ble_eq_true rfl) ?_
  intro pr en s mi below meth co hx hb hr hml hown hlocks hnm hT hsz hP hK ls hl
  have hl : lv_has ls 2 [(0, .ref t), (1, .int (nI c))] := hl
  have hH := HS.start hP
  refine lv_aload_n hx hb d_T_revoke_0 rfl (lv_at hl 0 rfl) ?_
  refine lv_aload_n hx hb d_T_revoke_1 rfl (lv_at hl 0 rfl) ?_
  refine lv_iload_n hx hb d_T_revoke_2 rfl (lv_at hl 1 rfl) ?_
  refine rd_run (c_V (As := [.int (nI c)]) (rest := [.ref t]) hx hb hml hl.1 hown hT hK hH.1 (c_T_noCard l g t σ (nI c) s.heap.size) kw_T_noCard w743 w745 selp_T_noCard w8 hd_T_noCard rfl rfl ⟨by decide, by decide⟩ (tw_t) rfl rfl rfl (Nat.le_of_ble_eq_true rfl) d_T_revoke_3 ⟨by decide, by decide⟩) rfl ?_
  refine lv_if_eq (tgt := 13) hx hb d_T_revoke_6 (by decide) (fun _ => ?_) (fun hq9 => absurd (h0) hq9)
  refine lv_aload_n hx hb d_T_revoke_13 rfl (lv_at hl 0 rfl) ?_
  refine m_get (ci := 7) (v := .ref (t + 6)) hx hb hT in_T hown hK hH.1 (tw_t) rfl 7 (by decide) (hT _ w679) (fun _ h9 => h9) rfl d_T_revoke_14 ?_
  refine lv_iload_n hx hb d_T_revoke_17 rfl (lv_at hl 1 rfl) ?_
  refine m_iald hx hb hK hH.1 0 (tw_6) rfl (j := c) (rfl) (by omega) (by decide) d_T_revoke_18 ?_
  refine lv_if_ne (tgt := 36) hx hb d_T_revoke_19 (by decide) (fun _ => ?_) (fun hq9 => absurd hq9 (by rw [he]; exact nI_ne0 (by omega) (by omega)))
  refine lv_iconst (v := 0) hx hb d_T_revoke_36 (by decide) ?_
  refine m_put (ci := 7) (v := .int 0) (ty := .int) hx hb hT in_T ty_T tk_T nm_T hown hK hH (tw_t) rfl 0 (by decide) (hT _ w672) (fun _ h9 => h9) rfl (by decide +kernel) rfl rfl (Nat.le_of_ble_eq_true rfl) d_T_revoke_37 (e1 := oT t (su (σ) 0 0 0)) rfl (fun H locs hH hzz => ?_)
  replace hH := two hH
  refine lv_aload_n hx hb d_T_revoke_40 rfl (lv_at hl 0 rfl) ?_
  refine m_get (ci := 7) (v := .int 0) hx hb hT in_T hown hK hH.1 (tw_t) rfl 0 (by decide) (hT _ w672) (fun _ h9 => h9) rfl d_T_revoke_41 ?_
  refine lv_if_le (tgt := 49) hx hb d_T_revoke_44 (by decide) (fun _ => ?_) (fun hq9 => absurd ((by decide : (0 : Int32) ≤ 0)) hq9)
  refine lv_aload_n hx hb d_T_revoke_49 rfl (lv_at hl 0 rfl) ?_
  refine m_get (ci := 7) (v := .ref (t + 6)) hx hb hT in_T hown hK hH.1 (tw_t) rfl 7 (by decide) (hT _ w679) (fun _ h9 => h9) rfl d_T_revoke_50 ?_
  refine lv_iload_n hx hb d_T_revoke_53 rfl (lv_at hl 1 rfl) ?_
  refine m_iald hx hb hK hH.1 0 (tw_6) rfl (j := c) (rfl) (by omega) (by decide) d_T_revoke_54 ?_
  refine lv_if_le (tgt := 60) hx hb d_T_revoke_55 (by decide) (fun hq9 => absurd hq9 (by show ¬ σ 6 c ≤ 0; rw [he]; exact nI_nle (by omega) (by omega))) (fun _ => ?_)
  refine lv_iconst (v := (-1)) hx hb d_T_revoke_58 (by decide) ?_
  exact m_iret hx hb hr hlocks hsz hH (⟨rfl, rfl⟩) d_T_revoke_59
set_option maxHeartbeats 4000000 in
set_option maxRecDepth 100000 in
theorem c_T_revoke (l : Launch) (g : GG) (t : Nat) (σ : SG) (c ne : Nat) (sz : Nat) (h0 : ncI σ (nI c) = 0) (hc : c < 4000) (he : σ 6 c = 0) (hne : σ 0 2 = nI ne) (hn3 : ne < 3000) : Met l y_T_revoke (k_T_revoke :: TT) { frames := 1, cells := 0, slots := 0, locals := 21 } (Pm g [.ref t, .int (nI c)] sz (tw g t σ)) (Qm g (tw g t σ) (fun r : Int32 => some (.int r)) (fun r M1 => r = σ 0 2 + 1 ∧ M1 = tw g t (rvS σ c ne))) 0 0 (mA (tw g t σ) sz) := by
  refine met_of (by decide) (Nat.le_of_ble_eq_true rfl) ?_
  intro pr en s mi below meth co hx hb hr hml hown hlocks hnm hT hsz hP hK ls hl
  have hl : lv_has ls 2 [(0, .ref t), (1, .int (nI c))] := hl
  have hH := HS.start hP
  refine lv_aload_n hx hb d_T_revoke_0 rfl (lv_at hl 0 rfl) ?_
  refine lv_aload_n hx hb d_T_revoke_1 rfl (lv_at hl 0 rfl) ?_
  refine lv_iload_n hx hb d_T_revoke_2 rfl (lv_at hl 1 rfl) ?_
  refine rd_run (c_V (As := [.int (nI c)]) (rest := [.ref t]) hx hb hml hl.1 hown hT hK hH.1 (c_T_noCard l g t σ (nI c) s.heap.size) kw_T_noCard w743 w745 selp_T_noCard w8 hd_T_noCard rfl rfl ⟨by decide, by decide⟩ (tw_t) rfl rfl rfl (Nat.le_of_ble_eq_true rfl) d_T_revoke_3 ⟨by decide, by decide⟩) rfl ?_
  refine lv_if_eq (tgt := 13) hx hb d_T_revoke_6 (by decide) (fun _ => ?_) (fun hq9 => absurd (h0) hq9)
  refine lv_aload_n hx hb d_T_revoke_13 rfl (lv_at hl 0 rfl) ?_
  refine m_get (ci := 7) (v := .ref (t + 6)) hx hb hT in_T hown hK hH.1 (tw_t) rfl 7 (by decide) (hT _ w679) (fun _ h9 => h9) rfl d_T_revoke_14 ?_
  refine lv_iload_n hx hb d_T_revoke_17 rfl (lv_at hl 1 rfl) ?_
  refine m_iald hx hb hK hH.1 0 (tw_6) rfl (j := c) (rfl) (by omega) (by decide) d_T_revoke_18 ?_
  refine lv_if_ne (tgt := 36) hx hb d_T_revoke_19 (by decide) (fun hq9 => absurd (he) hq9) (fun _ => ?_)
  refine lv_aload_n hx hb d_T_revoke_22 rfl (lv_at hl 0 rfl) ?_
  refine m_get (ci := 7) (v := .int ((σ) 0 2)) hx hb hT in_T hown hK hH.1 (tw_t) rfl 9 (by decide) (hT _ w681) (fun _ h9 => h9) rfl d_T_revoke_23 ?_
  refine lv_sipush (v := 3000) hx hb d_T_revoke_26 (by decide) ?_
  refine lv_icmp_ne (tgt := 36) hx hb d_T_revoke_29 (by decide) (fun _ => ?_) (fun hq9 => absurd hq9 (by rw [hne]; exact fun q => absurd ((nI_eq (b := 3000) (by omega) (by decide)).mp q) (by omega)))
  refine lv_iconst (v := 0) hx hb d_T_revoke_36 (by decide) ?_
  refine m_put (ci := 7) (v := .int 0) (ty := .int) hx hb hT in_T ty_T tk_T nm_T hown hK hH (tw_t) rfl 0 (by decide) (hT _ w672) (fun _ h9 => h9) rfl (by decide +kernel) rfl rfl (Nat.le_of_ble_eq_true rfl) d_T_revoke_37 (e1 := oT t (su (σ) 0 0 0)) rfl (fun H locs hH hzz => ?_)
  replace hH := two hH
  refine lv_aload_n hx hb d_T_revoke_40 rfl (lv_at hl 0 rfl) ?_
  refine m_get (ci := 7) (v := .int 0) hx hb hT in_T hown hK hH.1 (tw_t) rfl 0 (by decide) (hT _ w672) (fun _ h9 => h9) rfl d_T_revoke_41 ?_
  refine lv_if_le (tgt := 49) hx hb d_T_revoke_44 (by decide) (fun _ => ?_) (fun hq9 => absurd ((by decide : (0 : Int32) ≤ 0)) hq9)
  refine lv_aload_n hx hb d_T_revoke_49 rfl (lv_at hl 0 rfl) ?_
  refine m_get (ci := 7) (v := .ref (t + 6)) hx hb hT in_T hown hK hH.1 (tw_t) rfl 7 (by decide) (hT _ w679) (fun _ h9 => h9) rfl d_T_revoke_50 ?_
  refine lv_iload_n hx hb d_T_revoke_53 rfl (lv_at hl 1 rfl) ?_
  refine m_iald hx hb hK hH.1 0 (tw_6) rfl (j := c) (rfl) (by omega) (by decide) d_T_revoke_54 ?_
  refine lv_if_le (tgt := 60) hx hb d_T_revoke_55 (by decide) (fun _ => ?_) (fun hq9 => absurd (by show σ 6 c ≤ 0; rw [he]; decide) hq9)
  refine lv_aload_n hx hb d_T_revoke_60 rfl (lv_at hl 0 rfl) ?_
  refine lv_dup hx hb d_T_revoke_61 rfl ?_
  refine m_get (ci := 7) (v := .int ((σ) 0 2)) hx hb hT in_T hown hK hH.1 (tw_t) rfl 9 (by decide) (hT _ w681) (fun _ h9 => h9) rfl d_T_revoke_62 ?_
  refine lv_iconst (v := 1) hx hb d_T_revoke_65 (by decide) ?_
  refine lv_iadd hx hb d_T_revoke_66 ?_
  refine m_put (ci := 7) (v := .int (((σ) 0 2) + 1)) (ty := .int) hx hb hT in_T ty_T tk_T nm_T hown hK hH (tw_t) rfl 9 (by decide) (hT _ w681) (fun _ h9 => h9) rfl (by decide +kernel) rfl rfl (Nat.le_of_ble_eq_true rfl) d_T_revoke_67 (e1 := oT t (su (su (σ) 0 0 0) 0 2 (((σ) 0 2) + 1))) rfl (fun H locs hH hzz => ?_)
  replace hH := two hH
  refine lv_aload_n hx hb d_T_revoke_70 rfl (lv_at hl 0 rfl) ?_
  refine m_get (ci := 7) (v := .ref (t + 6)) hx hb hT in_T hown hK hH.1 (tw_t) rfl 7 (by decide) (hT _ w679) (fun _ h9 => h9) rfl d_T_revoke_71 ?_
  refine lv_iload_n hx hb d_T_revoke_74 rfl (lv_at hl 1 rfl) ?_
  refine lv_aload_n hx hb d_T_revoke_75 rfl (lv_at hl 0 rfl) ?_
  refine m_get (ci := 7) (v := .int (((σ) 0 2) + 1)) hx hb hT in_T hown hK hH.1 (tw_t) rfl 9 (by decide) (hT _ w681) (fun _ h9 => h9) rfl d_T_revoke_76 ?_
  refine m_iast hx hb hK hH 0 (tw_6) rfl (j := c) (rfl) (by omega) (by decide) d_T_revoke_79 (fun H locs hH hzz => ?_)
  replace hH := tws_6 hH
  refine lv_aload_n hx hb d_T_revoke_80 rfl (lv_at hl 0 rfl) ?_
  refine m_get (ci := 7) (v := .ref (t + 7)) hx hb hT in_T hown hK hH.1 (tw_t) rfl 8 (by decide) (hT _ w680) (fun _ h9 => h9) rfl d_T_revoke_81 ?_
  refine lv_aload_n hx hb d_T_revoke_84 rfl (lv_at hl 0 rfl) ?_
  refine m_get (ci := 7) (v := .int (((σ) 0 2) + 1)) hx hb hT in_T hown hK hH.1 (tw_t) rfl 9 (by decide) (hT _ w681) (fun _ h9 => h9) rfl d_T_revoke_85 ?_
  refine lv_iload_n hx hb d_T_revoke_88 rfl (lv_at hl 1 rfl) ?_
  refine m_iast hx hb hK hH 0 (tw_7) rfl (j := ne + 1) (by rw [hne]; exact nI_1 ne) (by omega) (by decide) d_T_revoke_89 (fun H locs hH hzz => ?_)
  replace hH := tws_7 hH
  refine lv_aload_n hx hb d_T_revoke_90 rfl (lv_at hl 0 rfl) ?_
  refine m_get (ci := 7) (v := .int (((σ) 0 2) + 1)) hx hb hT in_T hown hK hH.1 (tw_t) rfl 9 (by decide) (hT _ w681) (fun _ h9 => h9) rfl d_T_revoke_91 ?_
  exact m_iret hx hb hr hlocks hsz hH (⟨rfl, rfl⟩) d_T_revoke_94
set_option maxHeartbeats 4000000 in
set_option maxRecDepth 100000 in
theorem c_T_gate_b (l : Launch) (g : GG) (t : Nat) (σ : SG) (x : Int32) (sz : Nat) (hb1 : ncI σ x = 1) : Met l y_T_gate (k_T_gate :: TT) { frames := 8, cells := 0, slots := 0, locals := 190 } (Pm g [.ref t, .int x] sz (tw g t σ)) (Qm g (tw g t σ) (fun _ : Unit => none) (fun _ M1 => M1 = tw g t (su σ 0 0 1))) 0 0 (mA (tw g t σ) sz) := by
  refine met_of (by decide) (Nat.le_of_ble_eq_true rfl) ?_
  intro pr en s mi below meth co hx hb hr hml hown hlocks hnm hT hsz hP hK ls hl
  have hl : lv_has ls 2 [(0, .ref t), (1, .int x)] := hl
  have hH := HS.start hP
  refine lv_aload_n hx hb d_T_gate_0 rfl (lv_at hl 0 rfl) ?_
  refine lv_aload_n hx hb d_T_gate_1 rfl (lv_at hl 0 rfl) ?_
  refine lv_iload_n hx hb d_T_gate_2 rfl (lv_at hl 1 rfl) ?_
  refine rd_run (c_V (As := [.int x]) (rest := [.ref t]) hx hb hml hl.1 hown hT hK hH.1 (c_T_noCard l g t σ x s.heap.size) kw_T_noCard w743 w745 selp_T_noCard w8 hd_T_noCard rfl rfl ⟨by decide, by decide⟩ (tw_t) rfl rfl rfl (Nat.le_of_ble_eq_true rfl) d_T_gate_3 ⟨by decide, by decide⟩) rfl ?_
  refine lv_if_eq (tgt := 13) hx hb d_T_gate_6 (by decide) (fun hq9 => absurd hq9 (by rw [hb1]; decide)) (fun _ => ?_)
  refine lv_iconst (v := 1) hx hb d_T_gate_9 (by decide) ?_
  refine lv_goto (tgt := 14) hx hb d_T_gate_10 (by decide) ?_
  refine m_put (ci := 7) (v := .int 1) (ty := .int) hx hb hT in_T ty_T tk_T nm_T hown hK hH (tw_t) rfl 0 (by decide) (hT _ w672) (fun _ h9 => h9) rfl (by decide +kernel) rfl rfl (Nat.le_of_ble_eq_true rfl) d_T_gate_14 (e1 := oT t (su (σ) 0 0 1)) rfl (fun H locs hH hzz => ?_)
  replace hH := two hH
  refine lv_aload_n hx hb d_T_gate_17 rfl (lv_at hl 0 rfl) ?_
  refine m_get (ci := 7) (v := .int 1) hx hb hT in_T hown hK hH.1 (tw_t) rfl 0 (by decide) (hT _ w672) (fun _ h9 => h9) rfl d_T_gate_18 ?_
  refine lv_if_le (tgt := 25) hx hb d_T_gate_21 (by decide) (fun hq9 => absurd hq9 ((by decide : ¬ (1 : Int32) ≤ 0))) (fun _ => ?_)
  exact m_vret hx hb hr hlocks hsz hH (rfl) d_T_gate_24
set_option maxHeartbeats 4000000 in
set_option maxRecDepth 100000 in
theorem c_T_gate_0 (l : Launch) (g : GG) (t : Nat) (σ : SG) (c : Nat) (sz : Nat) (h0 : ncI σ (nI c) = 0) (hc : c < 4000) (hne : σ 0 2 = 0) (hk : kOK σ c) : Met l y_T_gate (k_T_gate :: TT) { frames := 8, cells := 0, slots := 0, locals := 190 } (Pm g [.ref t, .int (nI c)] sz (tw g t σ)) (Qm g (tw g t σ) (fun _ : Unit => none) (fun _ M1 => M1 = tw g t (wtS (su σ 0 0 0) c 0 0 0))) 0 0 (mA (tw g t σ) sz) := by
  refine met_of (by decide) (Nat.le_of_ble_eq_true rfl) ?_
  intro pr en s mi below meth co hx hb hr hml hown hlocks hnm hT hsz hP hK ls hl
  have hl : lv_has ls 2 [(0, .ref t), (1, .int (nI c))] := hl
  have hH := HS.start hP
  refine lv_aload_n hx hb d_T_gate_0 rfl (lv_at hl 0 rfl) ?_
  refine lv_aload_n hx hb d_T_gate_1 rfl (lv_at hl 0 rfl) ?_
  refine lv_iload_n hx hb d_T_gate_2 rfl (lv_at hl 1 rfl) ?_
  refine rd_run (c_V (As := [.int (nI c)]) (rest := [.ref t]) hx hb hml hl.1 hown hT hK hH.1 (c_T_noCard l g t σ (nI c) s.heap.size) kw_T_noCard w743 w745 selp_T_noCard w8 hd_T_noCard rfl rfl ⟨by decide, by decide⟩ (tw_t) rfl rfl rfl (Nat.le_of_ble_eq_true rfl) d_T_gate_3 ⟨by decide, by decide⟩) rfl ?_
  refine lv_if_eq (tgt := 13) hx hb d_T_gate_6 (by decide) (fun _ => ?_) (fun hq9 => absurd (h0) hq9)
  refine lv_iconst (v := 0) hx hb d_T_gate_13 (by decide) ?_
  refine m_put (ci := 7) (v := .int 0) (ty := .int) hx hb hT in_T ty_T tk_T nm_T hown hK hH (tw_t) rfl 0 (by decide) (hT _ w672) (fun _ h9 => h9) rfl (by decide +kernel) rfl rfl (Nat.le_of_ble_eq_true rfl) d_T_gate_14 (e1 := oT t (su (σ) 0 0 0)) rfl (fun H locs hH hzz => ?_)
  replace hH := two hH
  refine lv_aload_n hx hb d_T_gate_17 rfl (lv_at hl 0 rfl) ?_
  refine m_get (ci := 7) (v := .int 0) hx hb hT in_T hown hK hH.1 (tw_t) rfl 0 (by decide) (hT _ w672) (fun _ h9 => h9) rfl d_T_gate_18 ?_
  refine lv_if_le (tgt := 25) hx hb d_T_gate_21 (by decide) (fun _ => ?_) (fun hq9 => absurd ((by decide : (0 : Int32) ≤ 0)) hq9)
  refine lv_aload_n hx hb d_T_gate_25 rfl (lv_at hl 0 rfl) ?_
  refine m_get (ci := 7) (v := .int ((σ) 0 2)) hx hb hT in_T hown hK hH.1 (tw_t) rfl 9 (by decide) (hT _ w681) (fun _ h9 => h9) rfl d_T_gate_26 ?_
  refine lv_if_ne (tgt := 43) hx hb d_T_gate_29 (by decide) (fun hq9 => absurd (hne) hq9) (fun _ => ?_)
  refine lv_aload_n hx hb d_T_gate_32 rfl (lv_at hl 0 rfl) ?_
  refine lv_iload_n hx hb d_T_gate_33 rfl (lv_at hl 1 rfl) ?_
  refine lv_iconst (v := 0) hx hb d_T_gate_34 (by decide) ?_
  refine lv_iconst (v := 0) hx hb d_T_gate_35 (by decide) ?_
  refine lv_iconst (v := 0) hx hb d_T_gate_36 (by decide) ?_
  refine m_run (c_V (As := [.int (nI c), .int 0, .int 0, .int 0]) (rest := []) hx hb hml hl.1 hown hT hK hH.1 (c_T_write l g t (su σ 0 0 0) c 0 0 0 H.size hc (by decide) (by decide) (kOK3 (c0_r (by decide)) hk)) kw_T_write w755 w757 selp_T_write w8 hd_T_write rfl rfl ⟨by decide, by decide⟩ (tw_t) rfl rfl rfl (Nat.le_of_ble_eq_true rfl) d_T_gate_37 ⟨by decide, by decide⟩) hH (fun rv M1 H locs hpost hH hzz hdm hfr => ?_)
  obtain rfl : M1 = tw g t (wtS (su σ 0 0 0) c 0 0 0) := hpost
  refine W.eq (g2 := F0 mi 40 ls []) rfl ?_
  refine lv_goto (tgt := 57) hx hb d_T_gate_40 (by decide) ?_
  exact m_vret hx hb hr hlocks hsz hH (rfl) d_T_gate_57
set_option maxHeartbeats 4000000 in
set_option maxRecDepth 100000 in
theorem c_T_gate (l : Launch) (g : GG) (t : Nat) (σ : SG) (c ne : Nat) (sz : Nat) (h0 : ncI σ (nI c) = 0) (hc : c < 4000) (hne : σ 0 2 = nI ne) (hn1 : 1 ≤ ne) (hn3 : ne ≤ 3000) (hk : kOK σ c) : Met l y_T_gate (k_T_gate :: TT) { frames := 8, cells := 0, slots := 0, locals := 190 } (Pm g [.ref t, .int (nI c)] sz (tw g t σ)) (Qm g (tw g t σ) (fun _ : Unit => none) (fun _ M1 => M1 = tw g t (gvS (su σ 0 0 0) c 1 ne (nI ne)))) 0 0 (mA (tw g t σ) sz) := by
  refine met_of (by decide) (Nat.le_of_ble_eq_true rfl) ?_
  intro pr en s mi below meth co hx hb hr hml hown hlocks hnm hT hsz hP hK ls hl
  have hl : lv_has ls 2 [(0, .ref t), (1, .int (nI c))] := hl
  have hH := HS.start hP
  refine lv_aload_n hx hb d_T_gate_0 rfl (lv_at hl 0 rfl) ?_
  refine lv_aload_n hx hb d_T_gate_1 rfl (lv_at hl 0 rfl) ?_
  refine lv_iload_n hx hb d_T_gate_2 rfl (lv_at hl 1 rfl) ?_
  refine rd_run (c_V (As := [.int (nI c)]) (rest := [.ref t]) hx hb hml hl.1 hown hT hK hH.1 (c_T_noCard l g t σ (nI c) s.heap.size) kw_T_noCard w743 w745 selp_T_noCard w8 hd_T_noCard rfl rfl ⟨by decide, by decide⟩ (tw_t) rfl rfl rfl (Nat.le_of_ble_eq_true rfl) d_T_gate_3 ⟨by decide, by decide⟩) rfl ?_
  refine lv_if_eq (tgt := 13) hx hb d_T_gate_6 (by decide) (fun _ => ?_) (fun hq9 => absurd (h0) hq9)
  refine lv_iconst (v := 0) hx hb d_T_gate_13 (by decide) ?_
  refine m_put (ci := 7) (v := .int 0) (ty := .int) hx hb hT in_T ty_T tk_T nm_T hown hK hH (tw_t) rfl 0 (by decide) (hT _ w672) (fun _ h9 => h9) rfl (by decide +kernel) rfl rfl (Nat.le_of_ble_eq_true rfl) d_T_gate_14 (e1 := oT t (su (σ) 0 0 0)) rfl (fun H locs hH hzz => ?_)
  replace hH := two hH
  refine lv_aload_n hx hb d_T_gate_17 rfl (lv_at hl 0 rfl) ?_
  refine m_get (ci := 7) (v := .int 0) hx hb hT in_T hown hK hH.1 (tw_t) rfl 0 (by decide) (hT _ w672) (fun _ h9 => h9) rfl d_T_gate_18 ?_
  refine lv_if_le (tgt := 25) hx hb d_T_gate_21 (by decide) (fun _ => ?_) (fun hq9 => absurd ((by decide : (0 : Int32) ≤ 0)) hq9)
  refine lv_aload_n hx hb d_T_gate_25 rfl (lv_at hl 0 rfl) ?_
  refine m_get (ci := 7) (v := .int ((σ) 0 2)) hx hb hT in_T hown hK hH.1 (tw_t) rfl 9 (by decide) (hT _ w681) (fun _ h9 => h9) rfl d_T_gate_26 ?_
  refine lv_if_ne (tgt := 43) hx hb d_T_gate_29 (by decide) (fun _ => ?_) (fun hq9 => absurd hq9 (by show ¬ σ 0 2 = 0; rw [hne]; exact nI_ne0 (by omega) (by omega)))
  refine lv_aload_n hx hb d_T_gate_43 rfl (lv_at hl 0 rfl) ?_
  refine lv_iload_n hx hb d_T_gate_44 rfl (lv_at hl 1 rfl) ?_
  refine lv_iconst (v := 1) hx hb d_T_gate_45 (by decide) ?_
  refine lv_aload_n hx hb d_T_gate_46 rfl (lv_at hl 0 rfl) ?_
  refine m_get (ci := 7) (v := .int ((σ) 0 2)) hx hb hT in_T hown hK hH.1 (tw_t) rfl 9 (by decide) (hT _ w681) (fun _ h9 => h9) rfl d_T_gate_47 ?_
  rw [show ((σ) 0 2) = nI ne from hne]
  refine lv_aload_n hx hb d_T_gate_50 rfl (lv_at hl 0 rfl) ?_
  refine m_get (ci := 7) (v := .int ((σ) 0 2)) hx hb hT in_T hown hK hH.1 (tw_t) rfl 9 (by decide) (hT _ w681) (fun _ h9 => h9) rfl d_T_gate_51 ?_
  rw [show ((σ) 0 2) = nI ne from hne]
  refine m_run (c_V (As := [.int (nI c), .int 1, .int (nI ne), .int (nI ne)]) (rest := []) hx hb hml hl.1 hown hT hK hH.1 (c_T_give l g t (su σ 0 0 0) c 1 ne (nI ne) H.size hc (by omega) (by omega) (kOK3 (c0_r (by decide)) hk)) kw_T_give w791 w793 selp_T_give w8 hd_T_give rfl rfl ⟨by decide, by decide⟩ (tw_t) rfl rfl rfl (Nat.le_of_ble_eq_true rfl) d_T_gate_54 ⟨by decide, by decide⟩) hH (fun rv M1 H locs hpost hH hzz hdm hfr => ?_)
  obtain rfl : M1 = tw g t (gvS (su σ 0 0 0) c 1 ne (nI ne)) := hpost
  refine W.eq (g2 := F0 mi 57 ls []) rfl ?_
  exact m_vret hx hb hr hlocks hsz hH (rfl) d_T_gate_57
set_option maxHeartbeats 4000000 in
set_option maxRecDepth 100000 in
theorem c_T_zoneOf_b (l : Launch) (g : GG) (t : Nat) (σ : SG) (x z : Int32) (sz : Nat) (hb1 : ndI x = 1) : Met l y_T_zoneOf (k_T_zoneOf :: TT) { frames := 1, cells := 0, slots := 0, locals := 20 } (Pm g [.ref t, .int x, .int z] sz (tw g t σ)) (Qm g (tw g t σ) (fun _ : Unit => none) (fun _ M1 => M1 = tw g t (su σ 0 0 1))) 0 0 (mA (tw g t σ) sz) := by
  refine met_of (by decide) (Nat.le_of_ble_eq_true rfl) ?_
  intro pr en s mi below meth co hx hb hr hml hown hlocks hnm hT hsz hP hK ls hl
  have hl : lv_has ls 3 [(0, .ref t), (1, .int x), (2, .int z)] := hl
  have hH := HS.start hP
  refine lv_aload_n hx hb d_T_zoneOf_0 rfl (lv_at hl 0 rfl) ?_
  refine lv_iload_n hx hb d_T_zoneOf_1 rfl (lv_at hl 1 rfl) ?_
  refine rd_run (c_S (As := [.int x]) (rest := [.ref t]) hx hb hml hl.1 hown hT hK hH.1 (c_T_noDoor l g (tw g t σ) x s.heap.size) kw_T_noDoor w799 w800 w8 hd_T_noDoor rfl rfl ⟨by decide, by decide⟩ rfl rfl (Nat.le_of_ble_eq_true rfl) d_T_zoneOf_2 ⟨by decide, by decide⟩) rfl ?_
  refine lv_if_eq (tgt := 12) hx hb d_T_zoneOf_5 (by decide) (fun hq9 => absurd hq9 (by rw [hb1]; decide)) (fun _ => ?_)
  refine lv_iconst (v := 1) hx hb d_T_zoneOf_8 (by decide) ?_
  refine lv_goto (tgt := 40) hx hb d_T_zoneOf_9 (by decide) ?_
  refine m_put (ci := 7) (v := .int 1) (ty := .int) hx hb hT in_T ty_T tk_T nm_T hown hK hH (tw_t) rfl 0 (by decide) (hT _ w672) (fun _ h9 => h9) rfl (by decide +kernel) rfl rfl (Nat.le_of_ble_eq_true rfl) d_T_zoneOf_40 (e1 := oT t (su (σ) 0 0 1)) rfl (fun H locs hH hzz => ?_)
  replace hH := two hH
  refine lv_aload_n hx hb d_T_zoneOf_43 rfl (lv_at hl 0 rfl) ?_
  refine m_get (ci := 7) (v := .int 1) hx hb hT in_T hown hK hH.1 (tw_t) rfl 0 (by decide) (hT _ w672) (fun _ h9 => h9) rfl d_T_zoneOf_44 ?_
  refine lv_if_ne (tgt := 57) hx hb d_T_zoneOf_47 (by decide) (fun _ => ?_) (fun hq9 => absurd hq9 ((by decide : ¬ (1 : Int32) = 0)))
  exact m_vret hx hb hr hlocks hsz hH (rfl) d_T_zoneOf_57
set_option maxHeartbeats 4000000 in
set_option maxRecDepth 100000 in
theorem c_T_zoneOf_z (l : Launch) (g : GG) (t : Nat) (σ : SG) (x z : Int32) (sz : Nat) (h0 : ndI x = 0) (hz : z < 0 ∨ ¬ z ≤ 31) : Met l y_T_zoneOf (k_T_zoneOf :: TT) { frames := 1, cells := 0, slots := 0, locals := 20 } (Pm g [.ref t, .int x, .int z] sz (tw g t σ)) (Qm g (tw g t σ) (fun _ : Unit => none) (fun _ M1 => M1 = tw g t (su σ 0 0 2))) 0 0 (mA (tw g t σ) sz) := by
  refine met_of (by decide) (Nat.le_of_ble_eq_true rfl) ?_
  intro pr en s mi below meth co hx hb hr hml hown hlocks hnm hT hsz hP hK ls hl
  have hl : lv_has ls 3 [(0, .ref t), (1, .int x), (2, .int z)] := hl
  have hH := HS.start hP
  refine lv_aload_n hx hb d_T_zoneOf_0 rfl (lv_at hl 0 rfl) ?_
  refine lv_iload_n hx hb d_T_zoneOf_1 rfl (lv_at hl 1 rfl) ?_
  refine rd_run (c_S (As := [.int x]) (rest := [.ref t]) hx hb hml hl.1 hown hT hK hH.1 (c_T_noDoor l g (tw g t σ) x s.heap.size) kw_T_noDoor w799 w800 w8 hd_T_noDoor rfl rfl ⟨by decide, by decide⟩ rfl rfl (Nat.le_of_ble_eq_true rfl) d_T_zoneOf_2 ⟨by decide, by decide⟩) rfl ?_
  refine lv_if_eq (tgt := 12) hx hb d_T_zoneOf_5 (by decide) (fun _ => ?_) (fun hq9 => absurd (h0) hq9)
  refine lv_iload_n hx hb d_T_zoneOf_12 rfl (lv_at hl 2 rfl) ?_
  refine lv_if_lt (tgt := 22) hx hb d_T_zoneOf_13 (by decide) (fun c1 => ?_) (fun c1 => ?_)
  · skip
    refine lv_iconst (v := 2) hx hb d_T_zoneOf_22 (by decide) ?_
    refine lv_goto (tgt := 40) hx hb d_T_zoneOf_23 (by decide) ?_
    refine m_put (ci := 7) (v := .int 2) (ty := .int) hx hb hT in_T ty_T tk_T nm_T hown hK hH (tw_t) rfl 0 (by decide) (hT _ w672) (fun _ h9 => h9) rfl (by decide +kernel) rfl rfl (Nat.le_of_ble_eq_true rfl) d_T_zoneOf_40 (e1 := oT t (su (σ) 0 0 2)) rfl (fun H locs hH hzz => ?_)
    replace hH := two hH
    refine lv_aload_n hx hb d_T_zoneOf_43 rfl (lv_at hl 0 rfl) ?_
    refine m_get (ci := 7) (v := .int 2) hx hb hT in_T hown hK hH.1 (tw_t) rfl 0 (by decide) (hT _ w672) (fun _ h9 => h9) rfl d_T_zoneOf_44 ?_
    refine lv_if_ne (tgt := 57) hx hb d_T_zoneOf_47 (by decide) (fun _ => ?_) (fun hq9 => absurd hq9 ((by decide : ¬ (2 : Int32) = 0)))
    exact m_vret hx hb hr hlocks hsz hH (rfl) d_T_zoneOf_57
  · skip
    refine lv_iload_n hx hb d_T_zoneOf_16 rfl (lv_at hl 2 rfl) ?_
    refine lv_bipush (v := 31) hx hb d_T_zoneOf_17 (by decide) ?_
    refine lv_icmp_le (tgt := 26) hx hb d_T_zoneOf_19 (by decide) (fun hq9 => absurd hq9 (hz.elim (fun q => absurd q c1) id)) (fun _ => ?_)
    refine lv_iconst (v := 2) hx hb d_T_zoneOf_22 (by decide) ?_
    refine lv_goto (tgt := 40) hx hb d_T_zoneOf_23 (by decide) ?_
    refine m_put (ci := 7) (v := .int 2) (ty := .int) hx hb hT in_T ty_T tk_T nm_T hown hK hH (tw_t) rfl 0 (by decide) (hT _ w672) (fun _ h9 => h9) rfl (by decide +kernel) rfl rfl (Nat.le_of_ble_eq_true rfl) d_T_zoneOf_40 (e1 := oT t (su (σ) 0 0 2)) rfl (fun H locs hH hzz => ?_)
    replace hH := two hH
    refine lv_aload_n hx hb d_T_zoneOf_43 rfl (lv_at hl 0 rfl) ?_
    refine m_get (ci := 7) (v := .int 2) hx hb hT in_T hown hK hH.1 (tw_t) rfl 0 (by decide) (hT _ w672) (fun _ h9 => h9) rfl d_T_zoneOf_44 ?_
    refine lv_if_ne (tgt := 57) hx hb d_T_zoneOf_47 (by decide) (fun _ => ?_) (fun hq9 => absurd hq9 ((by decide : ¬ (2 : Int32) = 0)))
    exact m_vret hx hb hr hlocks hsz hH (rfl) d_T_zoneOf_57
set_option maxHeartbeats 4000000 in
set_option maxRecDepth 100000 in
theorem c_T_zoneOf_u (l : Launch) (g : GG) (t : Nat) (σ : SG) (d : Nat) (z : Int32) (sz : Nat) (h0 : ndI (nI d) = 0) (hd2 : d < 200) (hz1 : ¬ z < 0) (hz2 : z ≤ 31) (hu : ¬ σ 10 d = 0) : Met l y_T_zoneOf (k_T_zoneOf :: TT) { frames := 1, cells := 0, slots := 0, locals := 20 } (Pm g [.ref t, .int (nI d), .int z] sz (tw g t σ)) (Qm g (tw g t σ) (fun _ : Unit => none) (fun _ M1 => M1 = tw g t (su σ 0 0 3))) 0 0 (mA (tw g t σ) sz) := by
  refine met_of (by decide) (Nat.le_of_ble_eq_true rfl) ?_
  intro pr en s mi below meth co hx hb hr hml hown hlocks hnm hT hsz hP hK ls hl
  have hl : lv_has ls 3 [(0, .ref t), (1, .int (nI d)), (2, .int z)] := hl
  have hH := HS.start hP
  refine lv_aload_n hx hb d_T_zoneOf_0 rfl (lv_at hl 0 rfl) ?_
  refine lv_iload_n hx hb d_T_zoneOf_1 rfl (lv_at hl 1 rfl) ?_
  refine rd_run (c_S (As := [.int (nI d)]) (rest := [.ref t]) hx hb hml hl.1 hown hT hK hH.1 (c_T_noDoor l g (tw g t σ) (nI d) s.heap.size) kw_T_noDoor w799 w800 w8 hd_T_noDoor rfl rfl ⟨by decide, by decide⟩ rfl rfl (Nat.le_of_ble_eq_true rfl) d_T_zoneOf_2 ⟨by decide, by decide⟩) rfl ?_
  refine lv_if_eq (tgt := 12) hx hb d_T_zoneOf_5 (by decide) (fun _ => ?_) (fun hq9 => absurd (h0) hq9)
  refine lv_iload_n hx hb d_T_zoneOf_12 rfl (lv_at hl 2 rfl) ?_
  refine lv_if_lt (tgt := 22) hx hb d_T_zoneOf_13 (by decide) (fun hq9 => absurd hq9 (hz1)) (fun _ => ?_)
  refine lv_iload_n hx hb d_T_zoneOf_16 rfl (lv_at hl 2 rfl) ?_
  refine lv_bipush (v := 31) hx hb d_T_zoneOf_17 (by decide) ?_
  refine lv_icmp_le (tgt := 26) hx hb d_T_zoneOf_19 (by decide) (fun _ => ?_) (fun hq9 => absurd (hz2) hq9)
  refine lv_aload_n hx hb d_T_zoneOf_26 rfl (lv_at hl 0 rfl) ?_
  refine m_get (ci := 7) (v := .ref (t + 10)) hx hb hT in_T hown hK hH.1 (tw_t) rfl 12 (by decide) (hT _ w684) (fun _ h9 => h9) rfl d_T_zoneOf_27 ?_
  refine lv_iload_n hx hb d_T_zoneOf_30 rfl (lv_at hl 1 rfl) ?_
  refine m_zald hx hb hK hH.1 2 (tw_10) rfl (j := d) (rfl) (by omega) (by decide) d_T_zoneOf_31 ?_
  refine lv_if_eq (tgt := 39) hx hb d_T_zoneOf_32 (by decide) (fun hq9 => absurd hq9 (hu)) (fun _ => ?_)
  refine lv_iconst (v := 3) hx hb d_T_zoneOf_35 (by decide) ?_
  refine lv_goto (tgt := 40) hx hb d_T_zoneOf_36 (by decide) ?_
  refine m_put (ci := 7) (v := .int 3) (ty := .int) hx hb hT in_T ty_T tk_T nm_T hown hK hH (tw_t) rfl 0 (by decide) (hT _ w672) (fun _ h9 => h9) rfl (by decide +kernel) rfl rfl (Nat.le_of_ble_eq_true rfl) d_T_zoneOf_40 (e1 := oT t (su (σ) 0 0 3)) rfl (fun H locs hH hzz => ?_)
  replace hH := two hH
  refine lv_aload_n hx hb d_T_zoneOf_43 rfl (lv_at hl 0 rfl) ?_
  refine m_get (ci := 7) (v := .int 3) hx hb hT in_T hown hK hH.1 (tw_t) rfl 0 (by decide) (hT _ w672) (fun _ h9 => h9) rfl d_T_zoneOf_44 ?_
  refine lv_if_ne (tgt := 57) hx hb d_T_zoneOf_47 (by decide) (fun _ => ?_) (fun hq9 => absurd hq9 ((by decide : ¬ (3 : Int32) = 0)))
  exact m_vret hx hb hr hlocks hsz hH (rfl) d_T_zoneOf_57
set_option maxHeartbeats 4000000 in
set_option maxRecDepth 100000 in
theorem c_T_zoneOf (l : Launch) (g : GG) (t : Nat) (σ : SG) (d : Nat) (z : Int32) (sz : Nat) (h0 : ndI (nI d) = 0) (hd2 : d < 200) (hz1 : ¬ z < 0) (hz2 : z ≤ 31) (hu : σ 10 d = 0) : Met l y_T_zoneOf (k_T_zoneOf :: TT) { frames := 1, cells := 0, slots := 0, locals := 20 } (Pm g [.ref t, .int (nI d), .int z] sz (tw g t σ)) (Qm g (tw g t σ) (fun _ : Unit => none) (fun _ M1 => M1 = tw g t (su (su σ 0 0 0) 9 d z))) 0 0 (mA (tw g t σ) sz) := by
  refine met_of (by decide) (Nat.le_of_ble_eq_true rfl) ?_
  intro pr en s mi below meth co hx hb hr hml hown hlocks hnm hT hsz hP hK ls hl
  have hl : lv_has ls 3 [(0, .ref t), (1, .int (nI d)), (2, .int z)] := hl
  have hH := HS.start hP
  refine lv_aload_n hx hb d_T_zoneOf_0 rfl (lv_at hl 0 rfl) ?_
  refine lv_iload_n hx hb d_T_zoneOf_1 rfl (lv_at hl 1 rfl) ?_
  refine rd_run (c_S (As := [.int (nI d)]) (rest := [.ref t]) hx hb hml hl.1 hown hT hK hH.1 (c_T_noDoor l g (tw g t σ) (nI d) s.heap.size) kw_T_noDoor w799 w800 w8 hd_T_noDoor rfl rfl ⟨by decide, by decide⟩ rfl rfl (Nat.le_of_ble_eq_true rfl) d_T_zoneOf_2 ⟨by decide, by decide⟩) rfl ?_
  refine lv_if_eq (tgt := 12) hx hb d_T_zoneOf_5 (by decide) (fun _ => ?_) (fun hq9 => absurd (h0) hq9)
  refine lv_iload_n hx hb d_T_zoneOf_12 rfl (lv_at hl 2 rfl) ?_
  refine lv_if_lt (tgt := 22) hx hb d_T_zoneOf_13 (by decide) (fun hq9 => absurd hq9 (hz1)) (fun _ => ?_)
  refine lv_iload_n hx hb d_T_zoneOf_16 rfl (lv_at hl 2 rfl) ?_
  refine lv_bipush (v := 31) hx hb d_T_zoneOf_17 (by decide) ?_
  refine lv_icmp_le (tgt := 26) hx hb d_T_zoneOf_19 (by decide) (fun _ => ?_) (fun hq9 => absurd (hz2) hq9)
  refine lv_aload_n hx hb d_T_zoneOf_26 rfl (lv_at hl 0 rfl) ?_
  refine m_get (ci := 7) (v := .ref (t + 10)) hx hb hT in_T hown hK hH.1 (tw_t) rfl 12 (by decide) (hT _ w684) (fun _ h9 => h9) rfl d_T_zoneOf_27 ?_
  refine lv_iload_n hx hb d_T_zoneOf_30 rfl (lv_at hl 1 rfl) ?_
  refine m_zald hx hb hK hH.1 2 (tw_10) rfl (j := d) (rfl) (by omega) (by decide) d_T_zoneOf_31 ?_
  refine lv_if_eq (tgt := 39) hx hb d_T_zoneOf_32 (by decide) (fun _ => ?_) (fun hq9 => absurd (hu) hq9)
  refine lv_iconst (v := 0) hx hb d_T_zoneOf_39 (by decide) ?_
  refine m_put (ci := 7) (v := .int 0) (ty := .int) hx hb hT in_T ty_T tk_T nm_T hown hK hH (tw_t) rfl 0 (by decide) (hT _ w672) (fun _ h9 => h9) rfl (by decide +kernel) rfl rfl (Nat.le_of_ble_eq_true rfl) d_T_zoneOf_40 (e1 := oT t (su (σ) 0 0 0)) rfl (fun H locs hH hzz => ?_)
  replace hH := two hH
  refine lv_aload_n hx hb d_T_zoneOf_43 rfl (lv_at hl 0 rfl) ?_
  refine m_get (ci := 7) (v := .int 0) hx hb hT in_T hown hK hH.1 (tw_t) rfl 0 (by decide) (hT _ w672) (fun _ h9 => h9) rfl d_T_zoneOf_44 ?_
  refine lv_if_ne (tgt := 57) hx hb d_T_zoneOf_47 (by decide) (fun hq9 => absurd ((rfl : (0 : Int32) = 0)) hq9) (fun _ => ?_)
  refine lv_aload_n hx hb d_T_zoneOf_50 rfl (lv_at hl 0 rfl) ?_
  refine m_get (ci := 7) (v := .ref (t + 9)) hx hb hT in_T hown hK hH.1 (tw_t) rfl 11 (by decide) (hT _ w683) (fun _ h9 => h9) rfl d_T_zoneOf_51 ?_
  refine lv_iload_n hx hb d_T_zoneOf_54 rfl (lv_at hl 1 rfl) ?_
  refine lv_iload_n hx hb d_T_zoneOf_55 rfl (lv_at hl 2 rfl) ?_
  refine m_iast hx hb hK hH 0 (tw_9) rfl (j := d) (rfl) (by omega) (by decide) d_T_zoneOf_56 (fun H locs hH hzz => ?_)
  replace hH := tws_9 hH
  exact m_vret hx hb hr hlocks hsz hH (rfl) d_T_zoneOf_57
set_option maxHeartbeats 4000000 in
set_option maxRecDepth 100000 in
theorem c_T_show_b (l : Launch) (g : GG) (t : Nat) (σ : SG) (x y day : Int32) (sz : Nat) (hb1 : ncI σ x = 1 ∨ ndI y = 1) : Met l y_T_show (k_T_show :: TT) { frames := 9, cells := 0, slots := 0, locals := 218 } (Pm g [.ref t, .int x, .int y, .int day] sz (tw g t σ)) (Qm g (tw g t σ) (fun r : Int32 => some (.int r)) (fun r M1 => r = 0 ∧ M1 = tw g t (su σ 0 0 1))) 0 0 (mA (tw g t σ) sz) := by
  refine met_of (by decide) (Nat.le_of_ble_eq_true rfl) ?_
  intro pr en s mi below meth co hx hb hr hml hown hlocks hnm hT hsz hP hK ls hl
  have hl : lv_has ls 4 [(0, .ref t), (1, .int x), (2, .int y), (3, .int day)] := hl
  have hH := HS.start hP
  refine lv_aload_n hx hb d_T_show_0 rfl (lv_at hl 0 rfl) ?_
  refine lv_aload_n hx hb d_T_show_1 rfl (lv_at hl 0 rfl) ?_
  refine lv_iload_n hx hb d_T_show_2 rfl (lv_at hl 1 rfl) ?_
  refine rd_run (c_V (As := [.int x]) (rest := [.ref t]) hx hb hml hl.1 hown hT hK hH.1 (c_T_noCard l g t σ x s.heap.size) kw_T_noCard w743 w745 selp_T_noCard w8 hd_T_noCard rfl rfl ⟨by decide, by decide⟩ (tw_t) rfl rfl rfl (Nat.le_of_ble_eq_true rfl) d_T_show_3 ⟨by decide, by decide⟩) rfl ?_
  refine lv_if_ne (tgt := 16) hx hb d_T_show_6 (by decide) (fun c1 => ?_) (fun c1 => ?_)
  · skip
    refine lv_iconst (v := 1) hx hb d_T_show_16 (by decide) ?_
    refine lv_goto (tgt := 21) hx hb d_T_show_17 (by decide) ?_
    refine m_put (ci := 7) (v := .int 1) (ty := .int) hx hb hT in_T ty_T tk_T nm_T hown hK hH (tw_t) rfl 0 (by decide) (hT _ w672) (fun _ h9 => h9) rfl (by decide +kernel) rfl rfl (Nat.le_of_ble_eq_true rfl) d_T_show_21 (e1 := oT t (su (σ) 0 0 1)) rfl (fun H locs hH hzz => ?_)
    replace hH := two hH
    refine lv_aload_n hx hb d_T_show_24 rfl (lv_at hl 0 rfl) ?_
    refine m_get (ci := 7) (v := .int 1) hx hb hT in_T hown hK hH.1 (tw_t) rfl 0 (by decide) (hT _ w672) (fun _ h9 => h9) rfl d_T_show_25 ?_
    refine lv_if_le (tgt := 35) hx hb d_T_show_28 (by decide) (fun hq9 => absurd hq9 ((by decide : ¬ (1 : Int32) ≤ 0))) (fun _ => ?_)
    refine lv_iconst (v := 0) hx hb d_T_show_31 (by decide) ?_
    refine lv_goto (tgt := 42) hx hb d_T_show_32 (by decide) ?_
    exact m_iret hx hb hr hlocks hsz hH (⟨rfl, rfl⟩) d_T_show_42
  · skip
    refine lv_iload_n hx hb d_T_show_9 rfl (lv_at hl 2 rfl) ?_
    refine rd_run (c_S (As := [.int y]) (rest := [.ref t]) hx hb hml hl.1 hown hT hK hH.1 (c_T_noDoor l g (tw g t σ) y s.heap.size) kw_T_noDoor w799 w800 w8 hd_T_noDoor rfl rfl ⟨by decide, by decide⟩ rfl rfl (Nat.le_of_ble_eq_true rfl) d_T_show_10 ⟨by decide, by decide⟩) rfl ?_
    refine lv_if_eq (tgt := 20) hx hb d_T_show_13 (by decide) (fun hq9 => absurd hq9 (by rcases hb1 with q | q; exact absurd c1 (by rw [q]; decide); rw [q]; decide)) (fun _ => ?_)
    refine lv_iconst (v := 1) hx hb d_T_show_16 (by decide) ?_
    refine lv_goto (tgt := 21) hx hb d_T_show_17 (by decide) ?_
    refine m_put (ci := 7) (v := .int 1) (ty := .int) hx hb hT in_T ty_T tk_T nm_T hown hK hH (tw_t) rfl 0 (by decide) (hT _ w672) (fun _ h9 => h9) rfl (by decide +kernel) rfl rfl (Nat.le_of_ble_eq_true rfl) d_T_show_21 (e1 := oT t (su (σ) 0 0 1)) rfl (fun H locs hH hzz => ?_)
    replace hH := two hH
    refine lv_aload_n hx hb d_T_show_24 rfl (lv_at hl 0 rfl) ?_
    refine m_get (ci := 7) (v := .int 1) hx hb hT in_T hown hK hH.1 (tw_t) rfl 0 (by decide) (hT _ w672) (fun _ h9 => h9) rfl d_T_show_25 ?_
    refine lv_if_le (tgt := 35) hx hb d_T_show_28 (by decide) (fun hq9 => absurd hq9 ((by decide : ¬ (1 : Int32) ≤ 0))) (fun _ => ?_)
    refine lv_iconst (v := 0) hx hb d_T_show_31 (by decide) ?_
    refine lv_goto (tgt := 42) hx hb d_T_show_32 (by decide) ?_
    exact m_iret hx hb hr hlocks hsz hH (⟨rfl, rfl⟩) d_T_show_42
set_option maxHeartbeats 4000000 in
set_option maxRecDepth 100000 in
theorem c_T_show (l : Launch) (g : GG) (t : Nat) (σ : SG) (c d a n e2 : Nat) (day : Int32) (sz : Nat) (h0 : ncI σ (nI c) = 0) (h1 : ndI (nI d) = 0) (hc : c < 4000) (hd2 : d < 200) (hf : fiI σ c = nI a) (hn : cnI σ c = nI n) (han : a + n ≤ 3001) (hn4 : n ≤ 40) (he : σ 6 c = nI e2) (he2 : e2 ≤ 3000) (hk : kOK σ c) : Met l y_T_show (k_T_show :: TT) { frames := 9, cells := 0, slots := 0, locals := 218 } (Pm g [.ref t, .int (nI c), .int (nI d), .int day] sz (tw g t σ)) (Qm g (tw g t σ) (fun r : Int32 => some (.int r)) (fun r M1 => r = anI (su σ 0 0 0) (v1S (su σ 0 0 0) c d a n) c d e2 day ∧ M1 = tw g t (vsS (su σ 0 0 0) c d a n))) 0 0 (mA (tw g t σ) sz) := by
  refine met_of (by decide) (Nat.le_of_ble_eq_true rfl) ?_
  intro pr en s mi below meth co hx hb hr hml hown hlocks hnm hT hsz hP hK ls hl
  have hl : lv_has ls 4 [(0, .ref t), (1, .int (nI c)), (2, .int (nI d)), (3, .int day)] := hl
  have hH := HS.start hP
  refine lv_aload_n hx hb d_T_show_0 rfl (lv_at hl 0 rfl) ?_
  refine lv_aload_n hx hb d_T_show_1 rfl (lv_at hl 0 rfl) ?_
  refine lv_iload_n hx hb d_T_show_2 rfl (lv_at hl 1 rfl) ?_
  refine rd_run (c_V (As := [.int (nI c)]) (rest := [.ref t]) hx hb hml hl.1 hown hT hK hH.1 (c_T_noCard l g t σ (nI c) s.heap.size) kw_T_noCard w743 w745 selp_T_noCard w8 hd_T_noCard rfl rfl ⟨by decide, by decide⟩ (tw_t) rfl rfl rfl (Nat.le_of_ble_eq_true rfl) d_T_show_3 ⟨by decide, by decide⟩) rfl ?_
  refine lv_if_ne (tgt := 16) hx hb d_T_show_6 (by decide) (fun hq9 => absurd (h0) hq9) (fun _ => ?_)
  refine lv_iload_n hx hb d_T_show_9 rfl (lv_at hl 2 rfl) ?_
  refine rd_run (c_S (As := [.int (nI d)]) (rest := [.ref t]) hx hb hml hl.1 hown hT hK hH.1 (c_T_noDoor l g (tw g t σ) (nI d) s.heap.size) kw_T_noDoor w799 w800 w8 hd_T_noDoor rfl rfl ⟨by decide, by decide⟩ rfl rfl (Nat.le_of_ble_eq_true rfl) d_T_show_10 ⟨by decide, by decide⟩) rfl ?_
  refine lv_if_eq (tgt := 20) hx hb d_T_show_13 (by decide) (fun _ => ?_) (fun hq9 => absurd (h1) hq9)
  refine lv_iconst (v := 0) hx hb d_T_show_20 (by decide) ?_
  refine m_put (ci := 7) (v := .int 0) (ty := .int) hx hb hT in_T ty_T tk_T nm_T hown hK hH (tw_t) rfl 0 (by decide) (hT _ w672) (fun _ h9 => h9) rfl (by decide +kernel) rfl rfl (Nat.le_of_ble_eq_true rfl) d_T_show_21 (e1 := oT t (su (σ) 0 0 0)) rfl (fun H locs hH hzz => ?_)
  replace hH := two hH
  refine lv_aload_n hx hb d_T_show_24 rfl (lv_at hl 0 rfl) ?_
  refine m_get (ci := 7) (v := .int 0) hx hb hT in_T hown hK hH.1 (tw_t) rfl 0 (by decide) (hT _ w672) (fun _ h9 => h9) rfl d_T_show_25 ?_
  refine lv_if_le (tgt := 35) hx hb d_T_show_28 (by decide) (fun _ => ?_) (fun hq9 => absurd ((by decide : (0 : Int32) ≤ 0)) hq9)
  refine lv_aload_n hx hb d_T_show_35 rfl (lv_at hl 0 rfl) ?_
  refine lv_iload_n hx hb d_T_show_36 rfl (lv_at hl 1 rfl) ?_
  refine lv_iload_n hx hb d_T_show_37 rfl (lv_at hl 2 rfl) ?_
  refine lv_iload_n hx hb d_T_show_38 rfl (lv_at hl 3 rfl) ?_
  refine m_run (c_V (As := [.int (nI c), .int (nI d), .int day]) (rest := []) hx hb hml hl.1 hown hT hK hH.1 (c_T_visitAt l g t (su σ 0 0 0) c d a n e2 day H.size hc hd2 ((fi5 c0_5 c).trans hf) ((cn5 c0_5 c).trans hn) han hn4 ((congrFun (c0_r (by decide)) c).trans he) he2 (kOK3 (c0_r (by decide)) hk)) kw_T_visitAt w806 w808 selp_T_visitAt w8 hd_T_visitAt rfl rfl ⟨by decide, by decide⟩ (tw_t) rfl rfl rfl (Nat.le_of_ble_eq_true rfl) d_T_show_39 ⟨by decide, by decide⟩) hH (fun rv M1 H locs hpost hH hzz hdm hfr => ?_)
  obtain ⟨rfl, rfl⟩ : rv = anI (su σ 0 0 0) (v1S (su σ 0 0 0) c d a n) c d e2 day ∧ M1 = tw g t (vsS (su σ 0 0 0) c d a n) := hpost
  refine W.eq (g2 := F0 mi 42 ls [.int (anI (su σ 0 0 0) (v1S (su σ 0 0 0) c d a n) c d e2 day)]) rfl ?_
  exact m_iret hx hb hr hlocks hsz hH (⟨rfl, rfl⟩) d_T_show_42
set_option maxHeartbeats 4000000 in
set_option maxRecDepth 100000 in
theorem c_T_tear_b (l : Launch) (g : GG) (t : Nat) (σ : SG) (x k : Int32) (sz : Nat) (hb1 : ncI σ x = 1) : Met l y_T_tear (k_T_tear :: TT) { frames := 1, cells := 0, slots := 0, locals := 21 } (Pm g [.ref t, .int x, .int k] sz (tw g t σ)) (Qm g (tw g t σ) (fun _ : Unit => none) (fun _ M1 => M1 = tw g t (su σ 0 0 1))) 0 0 (mA (tw g t σ) sz) := by
  refine met_of (by decide) (Nat.le_of_ble_eq_true rfl) ?_
  intro pr en s mi below meth co hx hb hr hml hown hlocks hnm hT hsz hP hK ls hl
  have hl : lv_has ls 3 [(0, .ref t), (1, .int x), (2, .int k)] := hl
  have hH := HS.start hP
  refine lv_aload_n hx hb d_T_tear_0 rfl (lv_at hl 0 rfl) ?_
  refine lv_aload_n hx hb d_T_tear_1 rfl (lv_at hl 0 rfl) ?_
  refine lv_iload_n hx hb d_T_tear_2 rfl (lv_at hl 1 rfl) ?_
  refine rd_run (c_V (As := [.int x]) (rest := [.ref t]) hx hb hml hl.1 hown hT hK hH.1 (c_T_noCard l g t σ x s.heap.size) kw_T_noCard w743 w745 selp_T_noCard w8 hd_T_noCard rfl rfl ⟨by decide, by decide⟩ (tw_t) rfl rfl rfl (Nat.le_of_ble_eq_true rfl) d_T_tear_3 ⟨by decide, by decide⟩) rfl ?_
  refine lv_if_eq (tgt := 13) hx hb d_T_tear_6 (by decide) (fun hq9 => absurd hq9 (by rw [hb1]; decide)) (fun _ => ?_)
  refine lv_iconst (v := 1) hx hb d_T_tear_9 (by decide) ?_
  refine lv_goto (tgt := 28) hx hb d_T_tear_10 (by decide) ?_
  refine m_put (ci := 7) (v := .int 1) (ty := .int) hx hb hT in_T ty_T tk_T nm_T hown hK hH (tw_t) rfl 0 (by decide) (hT _ w672) (fun _ h9 => h9) rfl (by decide +kernel) rfl rfl (Nat.le_of_ble_eq_true rfl) d_T_tear_28 (e1 := oT t (su (σ) 0 0 1)) rfl (fun H locs hH hzz => ?_)
  replace hH := two hH
  refine lv_aload_n hx hb d_T_tear_31 rfl (lv_at hl 0 rfl) ?_
  refine m_get (ci := 7) (v := .int 1) hx hb hT in_T hown hK hH.1 (tw_t) rfl 0 (by decide) (hT _ w672) (fun _ h9 => h9) rfl d_T_tear_32 ?_
  refine lv_if_ne (tgt := 45) hx hb d_T_tear_35 (by decide) (fun _ => ?_) (fun hq9 => absurd hq9 ((by decide : ¬ (1 : Int32) = 0)))
  exact m_vret hx hb hr hlocks hsz hH (rfl) d_T_tear_45
set_option maxHeartbeats 4000000 in
set_option maxRecDepth 100000 in
theorem c_T_tear_z (l : Launch) (g : GG) (t : Nat) (σ : SG) (x k : Int32) (sz : Nat) (h0 : ncI σ x = 0) (hz : k < 0 ∨ ¬ k ≤ 50) : Met l y_T_tear (k_T_tear :: TT) { frames := 1, cells := 0, slots := 0, locals := 21 } (Pm g [.ref t, .int x, .int k] sz (tw g t σ)) (Qm g (tw g t σ) (fun _ : Unit => none) (fun _ M1 => M1 = tw g t (su σ 0 0 2))) 0 0 (mA (tw g t σ) sz) := by
  refine met_of (by decide) (Nat.le_of_ble_eq_true rfl) ?_
  intro pr en s mi below meth co hx hb hr hml hown hlocks hnm hT hsz hP hK ls hl
  have hl : lv_has ls 3 [(0, .ref t), (1, .int x), (2, .int k)] := hl
  have hH := HS.start hP
  refine lv_aload_n hx hb d_T_tear_0 rfl (lv_at hl 0 rfl) ?_
  refine lv_aload_n hx hb d_T_tear_1 rfl (lv_at hl 0 rfl) ?_
  refine lv_iload_n hx hb d_T_tear_2 rfl (lv_at hl 1 rfl) ?_
  refine rd_run (c_V (As := [.int x]) (rest := [.ref t]) hx hb hml hl.1 hown hT hK hH.1 (c_T_noCard l g t σ x s.heap.size) kw_T_noCard w743 w745 selp_T_noCard w8 hd_T_noCard rfl rfl ⟨by decide, by decide⟩ (tw_t) rfl rfl rfl (Nat.le_of_ble_eq_true rfl) d_T_tear_3 ⟨by decide, by decide⟩) rfl ?_
  refine lv_if_eq (tgt := 13) hx hb d_T_tear_6 (by decide) (fun _ => ?_) (fun hq9 => absurd (h0) hq9)
  refine lv_iload_n hx hb d_T_tear_13 rfl (lv_at hl 2 rfl) ?_
  refine lv_if_lt (tgt := 23) hx hb d_T_tear_14 (by decide) (fun c1 => ?_) (fun c1 => ?_)
  · skip
    refine lv_iconst (v := 2) hx hb d_T_tear_23 (by decide) ?_
    refine lv_goto (tgt := 28) hx hb d_T_tear_24 (by decide) ?_
    refine m_put (ci := 7) (v := .int 2) (ty := .int) hx hb hT in_T ty_T tk_T nm_T hown hK hH (tw_t) rfl 0 (by decide) (hT _ w672) (fun _ h9 => h9) rfl (by decide +kernel) rfl rfl (Nat.le_of_ble_eq_true rfl) d_T_tear_28 (e1 := oT t (su (σ) 0 0 2)) rfl (fun H locs hH hzz => ?_)
    replace hH := two hH
    refine lv_aload_n hx hb d_T_tear_31 rfl (lv_at hl 0 rfl) ?_
    refine m_get (ci := 7) (v := .int 2) hx hb hT in_T hown hK hH.1 (tw_t) rfl 0 (by decide) (hT _ w672) (fun _ h9 => h9) rfl d_T_tear_32 ?_
    refine lv_if_ne (tgt := 45) hx hb d_T_tear_35 (by decide) (fun _ => ?_) (fun hq9 => absurd hq9 ((by decide : ¬ (2 : Int32) = 0)))
    exact m_vret hx hb hr hlocks hsz hH (rfl) d_T_tear_45
  · skip
    refine lv_iload_n hx hb d_T_tear_17 rfl (lv_at hl 2 rfl) ?_
    refine lv_bipush (v := 50) hx hb d_T_tear_18 (by decide) ?_
    refine lv_icmp_le (tgt := 27) hx hb d_T_tear_20 (by decide) (fun hq9 => absurd hq9 (hz.elim (fun q => absurd q c1) id)) (fun _ => ?_)
    refine lv_iconst (v := 2) hx hb d_T_tear_23 (by decide) ?_
    refine lv_goto (tgt := 28) hx hb d_T_tear_24 (by decide) ?_
    refine m_put (ci := 7) (v := .int 2) (ty := .int) hx hb hT in_T ty_T tk_T nm_T hown hK hH (tw_t) rfl 0 (by decide) (hT _ w672) (fun _ h9 => h9) rfl (by decide +kernel) rfl rfl (Nat.le_of_ble_eq_true rfl) d_T_tear_28 (e1 := oT t (su (σ) 0 0 2)) rfl (fun H locs hH hzz => ?_)
    replace hH := two hH
    refine lv_aload_n hx hb d_T_tear_31 rfl (lv_at hl 0 rfl) ?_
    refine m_get (ci := 7) (v := .int 2) hx hb hT in_T hown hK hH.1 (tw_t) rfl 0 (by decide) (hT _ w672) (fun _ h9 => h9) rfl d_T_tear_32 ?_
    refine lv_if_ne (tgt := 45) hx hb d_T_tear_35 (by decide) (fun _ => ?_) (fun hq9 => absurd hq9 ((by decide : ¬ (2 : Int32) = 0)))
    exact m_vret hx hb hr hlocks hsz hH (rfl) d_T_tear_45
set_option maxHeartbeats 4000000 in
set_option maxRecDepth 100000 in
theorem c_T_tear (l : Launch) (g : GG) (t : Nat) (σ : SG) (c : Nat) (k : Int32) (sz : Nat) (h0 : ncI σ (nI c) = 0) (hc : c < 4000) (hz1 : ¬ k < 0) (hz2 : k ≤ 50) : Met l y_T_tear (k_T_tear :: TT) { frames := 1, cells := 0, slots := 0, locals := 21 } (Pm g [.ref t, .int (nI c), .int k] sz (tw g t σ)) (Qm g (tw g t σ) (fun _ : Unit => none) (fun _ M1 => M1 = tw g t (su (su σ 0 0 0) 3 c k))) 0 0 (mA (tw g t σ) sz) := by
  refine met_of (by decide) (Nat.le_of_ble_eq_true rfl) ?_
  intro pr en s mi below meth co hx hb hr hml hown hlocks hnm hT hsz hP hK ls hl
  have hl : lv_has ls 3 [(0, .ref t), (1, .int (nI c)), (2, .int k)] := hl
  have hH := HS.start hP
  refine lv_aload_n hx hb d_T_tear_0 rfl (lv_at hl 0 rfl) ?_
  refine lv_aload_n hx hb d_T_tear_1 rfl (lv_at hl 0 rfl) ?_
  refine lv_iload_n hx hb d_T_tear_2 rfl (lv_at hl 1 rfl) ?_
  refine rd_run (c_V (As := [.int (nI c)]) (rest := [.ref t]) hx hb hml hl.1 hown hT hK hH.1 (c_T_noCard l g t σ (nI c) s.heap.size) kw_T_noCard w743 w745 selp_T_noCard w8 hd_T_noCard rfl rfl ⟨by decide, by decide⟩ (tw_t) rfl rfl rfl (Nat.le_of_ble_eq_true rfl) d_T_tear_3 ⟨by decide, by decide⟩) rfl ?_
  refine lv_if_eq (tgt := 13) hx hb d_T_tear_6 (by decide) (fun _ => ?_) (fun hq9 => absurd (h0) hq9)
  refine lv_iload_n hx hb d_T_tear_13 rfl (lv_at hl 2 rfl) ?_
  refine lv_if_lt (tgt := 23) hx hb d_T_tear_14 (by decide) (fun hq9 => absurd hq9 (hz1)) (fun _ => ?_)
  refine lv_iload_n hx hb d_T_tear_17 rfl (lv_at hl 2 rfl) ?_
  refine lv_bipush (v := 50) hx hb d_T_tear_18 (by decide) ?_
  refine lv_icmp_le (tgt := 27) hx hb d_T_tear_20 (by decide) (fun _ => ?_) (fun hq9 => absurd (hz2) hq9)
  refine lv_iconst (v := 0) hx hb d_T_tear_27 (by decide) ?_
  refine m_put (ci := 7) (v := .int 0) (ty := .int) hx hb hT in_T ty_T tk_T nm_T hown hK hH (tw_t) rfl 0 (by decide) (hT _ w672) (fun _ h9 => h9) rfl (by decide +kernel) rfl rfl (Nat.le_of_ble_eq_true rfl) d_T_tear_28 (e1 := oT t (su (σ) 0 0 0)) rfl (fun H locs hH hzz => ?_)
  replace hH := two hH
  refine lv_aload_n hx hb d_T_tear_31 rfl (lv_at hl 0 rfl) ?_
  refine m_get (ci := 7) (v := .int 0) hx hb hT in_T hown hK hH.1 (tw_t) rfl 0 (by decide) (hT _ w672) (fun _ h9 => h9) rfl d_T_tear_32 ?_
  refine lv_if_ne (tgt := 45) hx hb d_T_tear_35 (by decide) (fun hq9 => absurd ((rfl : (0 : Int32) = 0)) hq9) (fun _ => ?_)
  refine lv_aload_n hx hb d_T_tear_38 rfl (lv_at hl 0 rfl) ?_
  refine m_get (ci := 7) (v := .ref (t + 3)) hx hb hT in_T hown hK hH.1 (tw_t) rfl 4 (by decide) (hT _ w676) (fun _ h9 => h9) rfl d_T_tear_39 ?_
  refine lv_iload_n hx hb d_T_tear_42 rfl (lv_at hl 1 rfl) ?_
  refine lv_iload_n hx hb d_T_tear_43 rfl (lv_at hl 2 rfl) ?_
  refine m_iast hx hb hK hH 0 (tw_3) rfl (j := c) (rfl) (by omega) (by decide) d_T_tear_44 (fun H locs hH hzz => ?_)
  replace hH := tws_3 hH
  exact m_vret hx hb hr hlocks hsz hH (rfl) d_T_tear_45
set_option maxHeartbeats 4000000 in
set_option maxRecDepth 100000 in
theorem c_T_written_b (l : Launch) (g : GG) (t : Nat) (σ : SG) (x : Int32) (sz : Nat) (hb1 : ncI σ x = 1) : Met l y_T_written (k_T_written :: TT) { frames := 1, cells := 0, slots := 0, locals := 21 } (Pm g [.ref t, .int x] sz (tw g t σ)) (Qm g (tw g t σ) (fun r : Int32 => some (.int r)) (fun r M1 => r = 0 ∧ M1 = tw g t (su σ 0 0 1))) 0 0 (mA (tw g t σ) sz) := by
  refine met_of (by decide) (Nat.le_of_ble_eq_true rfl) ?_
  intro pr en s mi below meth co hx hb hr hml hown hlocks hnm hT hsz hP hK ls hl
  have hl : lv_has ls 2 [(0, .ref t), (1, .int x)] := hl
  have hH := HS.start hP
  refine lv_aload_n hx hb d_T_written_0 rfl (lv_at hl 0 rfl) ?_
  refine lv_aload_n hx hb d_T_written_1 rfl (lv_at hl 0 rfl) ?_
  refine lv_iload_n hx hb d_T_written_2 rfl (lv_at hl 1 rfl) ?_
  refine rd_run (c_V (As := [.int x]) (rest := [.ref t]) hx hb hml hl.1 hown hT hK hH.1 (c_T_noCard l g t σ x s.heap.size) kw_T_noCard w743 w745 selp_T_noCard w8 hd_T_noCard rfl rfl ⟨by decide, by decide⟩ (tw_t) rfl rfl rfl (Nat.le_of_ble_eq_true rfl) d_T_written_3 ⟨by decide, by decide⟩) rfl ?_
  refine lv_if_eq (tgt := 13) hx hb d_T_written_6 (by decide) (fun hq9 => absurd hq9 (by rw [hb1]; decide)) (fun _ => ?_)
  refine lv_iconst (v := 1) hx hb d_T_written_9 (by decide) ?_
  refine lv_goto (tgt := 14) hx hb d_T_written_10 (by decide) ?_
  refine m_put (ci := 7) (v := .int 1) (ty := .int) hx hb hT in_T ty_T tk_T nm_T hown hK hH (tw_t) rfl 0 (by decide) (hT _ w672) (fun _ h9 => h9) rfl (by decide +kernel) rfl rfl (Nat.le_of_ble_eq_true rfl) d_T_written_14 (e1 := oT t (su (σ) 0 0 1)) rfl (fun H locs hH hzz => ?_)
  replace hH := two hH
  refine lv_aload_n hx hb d_T_written_17 rfl (lv_at hl 0 rfl) ?_
  refine m_get (ci := 7) (v := .int 1) hx hb hT in_T hown hK hH.1 (tw_t) rfl 0 (by decide) (hT _ w672) (fun _ h9 => h9) rfl d_T_written_18 ?_
  refine lv_if_le (tgt := 28) hx hb d_T_written_21 (by decide) (fun hq9 => absurd hq9 ((by decide : ¬ (1 : Int32) ≤ 0))) (fun _ => ?_)
  refine lv_iconst (v := 0) hx hb d_T_written_24 (by decide) ?_
  refine lv_goto (tgt := 34) hx hb d_T_written_25 (by decide) ?_
  exact m_iret hx hb hr hlocks hsz hH (⟨rfl, rfl⟩) d_T_written_34
set_option maxHeartbeats 4000000 in
set_option maxRecDepth 100000 in
theorem c_T_written (l : Launch) (g : GG) (t : Nat) (σ : SG) (c : Nat) (sz : Nat) (h0 : ncI σ (nI c) = 0) (hc : c < 4000) : Met l y_T_written (k_T_written :: TT) { frames := 1, cells := 0, slots := 0, locals := 21 } (Pm g [.ref t, .int (nI c)] sz (tw g t σ)) (Qm g (tw g t σ) (fun r : Int32 => some (.int r)) (fun r M1 => r = σ 4 c ∧ M1 = tw g t (su σ 0 0 0))) 0 0 (mA (tw g t σ) sz) := by
  refine met_of (by decide) (Nat.le_of_ble_eq_true rfl) ?_
  intro pr en s mi below meth co hx hb hr hml hown hlocks hnm hT hsz hP hK ls hl
  have hl : lv_has ls 2 [(0, .ref t), (1, .int (nI c))] := hl
  have hH := HS.start hP
  refine lv_aload_n hx hb d_T_written_0 rfl (lv_at hl 0 rfl) ?_
  refine lv_aload_n hx hb d_T_written_1 rfl (lv_at hl 0 rfl) ?_
  refine lv_iload_n hx hb d_T_written_2 rfl (lv_at hl 1 rfl) ?_
  refine rd_run (c_V (As := [.int (nI c)]) (rest := [.ref t]) hx hb hml hl.1 hown hT hK hH.1 (c_T_noCard l g t σ (nI c) s.heap.size) kw_T_noCard w743 w745 selp_T_noCard w8 hd_T_noCard rfl rfl ⟨by decide, by decide⟩ (tw_t) rfl rfl rfl (Nat.le_of_ble_eq_true rfl) d_T_written_3 ⟨by decide, by decide⟩) rfl ?_
  refine lv_if_eq (tgt := 13) hx hb d_T_written_6 (by decide) (fun _ => ?_) (fun hq9 => absurd (h0) hq9)
  refine lv_iconst (v := 0) hx hb d_T_written_13 (by decide) ?_
  refine m_put (ci := 7) (v := .int 0) (ty := .int) hx hb hT in_T ty_T tk_T nm_T hown hK hH (tw_t) rfl 0 (by decide) (hT _ w672) (fun _ h9 => h9) rfl (by decide +kernel) rfl rfl (Nat.le_of_ble_eq_true rfl) d_T_written_14 (e1 := oT t (su (σ) 0 0 0)) rfl (fun H locs hH hzz => ?_)
  replace hH := two hH
  refine lv_aload_n hx hb d_T_written_17 rfl (lv_at hl 0 rfl) ?_
  refine m_get (ci := 7) (v := .int 0) hx hb hT in_T hown hK hH.1 (tw_t) rfl 0 (by decide) (hT _ w672) (fun _ h9 => h9) rfl d_T_written_18 ?_
  refine lv_if_le (tgt := 28) hx hb d_T_written_21 (by decide) (fun _ => ?_) (fun hq9 => absurd ((by decide : (0 : Int32) ≤ 0)) hq9)
  refine lv_aload_n hx hb d_T_written_28 rfl (lv_at hl 0 rfl) ?_
  refine m_get (ci := 7) (v := .ref (t + 4)) hx hb hT in_T hown hK hH.1 (tw_t) rfl 5 (by decide) (hT _ w677) (fun _ h9 => h9) rfl d_T_written_29 ?_
  refine lv_iload_n hx hb d_T_written_32 rfl (lv_at hl 1 rfl) ?_
  refine m_iald hx hb hK hH.1 0 (tw_4) rfl (j := c) (rfl) (by omega) (by decide) d_T_written_33 ?_
  exact m_iret hx hb hr hlocks hsz hH (⟨rfl, rfl⟩) d_T_written_34
set_option maxHeartbeats 4000000 in
set_option maxRecDepth 100000 in
theorem c_T_word_b (l : Launch) (g : GG) (t : Nat) (σ : SG) (x y i : Int32) (sz : Nat) (hb1 : ncI σ x = 1 ∨ (y < 0 ∨ 1 < y) ∨ (i < 0 ∨ ¬ i ≤ 43)) : Met l y_T_word (k_T_word :: TT) { frames := 1, cells := 0, slots := 0, locals := 23 } (Pm g [.ref t, .int x, .int y, .int i] sz (tw g t σ)) (Qm g (tw g t σ) (fun r : Int32 => some (.int r)) (fun r M1 => r = 0 ∧ M1 = tw g t (su σ 0 0 1))) 0 0 (mA (tw g t σ) sz) := by
  refine met_of (by decide) (Nat.le_of_ble_eq_true rfl) ?_
  intro pr en s mi below meth co hx hb hr hml hown hlocks hnm hT hsz hP hK ls hl
  have hl : lv_has ls 4 [(0, .ref t), (1, .int x), (2, .int y), (3, .int i)] := hl
  have hH := HS.start hP
  refine lv_aload_n hx hb d_T_word_0 rfl (lv_at hl 0 rfl) ?_
  refine lv_aload_n hx hb d_T_word_1 rfl (lv_at hl 0 rfl) ?_
  refine lv_iload_n hx hb d_T_word_2 rfl (lv_at hl 1 rfl) ?_
  refine rd_run (c_V (As := [.int x]) (rest := [.ref t]) hx hb hml hl.1 hown hT hK hH.1 (c_T_noCard l g t σ x s.heap.size) kw_T_noCard w743 w745 selp_T_noCard w8 hd_T_noCard rfl rfl ⟨by decide, by decide⟩ (tw_t) rfl rfl rfl (Nat.le_of_ble_eq_true rfl) d_T_word_3 ⟨by decide, by decide⟩) rfl ?_
  refine lv_if_ne (tgt := 28) hx hb d_T_word_6 (by decide) (fun c1 => ?_) (fun c1 => ?_)
  · skip
    refine lv_iconst (v := 1) hx hb d_T_word_28 (by decide) ?_
    refine lv_goto (tgt := 33) hx hb d_T_word_29 (by decide) ?_
    refine m_put (ci := 7) (v := .int 1) (ty := .int) hx hb hT in_T ty_T tk_T nm_T hown hK hH (tw_t) rfl 0 (by decide) (hT _ w672) (fun _ h9 => h9) rfl (by decide +kernel) rfl rfl (Nat.le_of_ble_eq_true rfl) d_T_word_33 (e1 := oT t (su (σ) 0 0 1)) rfl (fun H locs hH hzz => ?_)
    replace hH := two hH
    refine lv_aload_n hx hb d_T_word_36 rfl (lv_at hl 0 rfl) ?_
    refine m_get (ci := 7) (v := .int 1) hx hb hT in_T hown hK hH.1 (tw_t) rfl 0 (by decide) (hT _ w672) (fun _ h9 => h9) rfl d_T_word_37 ?_
    refine lv_if_le (tgt := 47) hx hb d_T_word_40 (by decide) (fun hq9 => absurd hq9 ((by decide : ¬ (1 : Int32) ≤ 0))) (fun _ => ?_)
    refine lv_iconst (v := 0) hx hb d_T_word_43 (by decide) ?_
    refine lv_goto (tgt := 54) hx hb d_T_word_44 (by decide) ?_
    exact m_iret hx hb hr hlocks hsz hH (⟨rfl, rfl⟩) d_T_word_54
  · skip
    refine lv_iload_n hx hb d_T_word_9 rfl (lv_at hl 2 rfl) ?_
    refine lv_if_lt (tgt := 28) hx hb d_T_word_10 (by decide) (fun c2 => ?_) (fun c2 => ?_)
    · skip
      refine lv_iconst (v := 1) hx hb d_T_word_28 (by decide) ?_
      refine lv_goto (tgt := 33) hx hb d_T_word_29 (by decide) ?_
      refine m_put (ci := 7) (v := .int 1) (ty := .int) hx hb hT in_T ty_T tk_T nm_T hown hK hH (tw_t) rfl 0 (by decide) (hT _ w672) (fun _ h9 => h9) rfl (by decide +kernel) rfl rfl (Nat.le_of_ble_eq_true rfl) d_T_word_33 (e1 := oT t (su (σ) 0 0 1)) rfl (fun H locs hH hzz => ?_)
      replace hH := two hH
      refine lv_aload_n hx hb d_T_word_36 rfl (lv_at hl 0 rfl) ?_
      refine m_get (ci := 7) (v := .int 1) hx hb hT in_T hown hK hH.1 (tw_t) rfl 0 (by decide) (hT _ w672) (fun _ h9 => h9) rfl d_T_word_37 ?_
      refine lv_if_le (tgt := 47) hx hb d_T_word_40 (by decide) (fun hq9 => absurd hq9 ((by decide : ¬ (1 : Int32) ≤ 0))) (fun _ => ?_)
      refine lv_iconst (v := 0) hx hb d_T_word_43 (by decide) ?_
      refine lv_goto (tgt := 54) hx hb d_T_word_44 (by decide) ?_
      exact m_iret hx hb hr hlocks hsz hH (⟨rfl, rfl⟩) d_T_word_54
    · skip
      refine lv_iload_n hx hb d_T_word_13 rfl (lv_at hl 2 rfl) ?_
      refine lv_iconst (v := 1) hx hb d_T_word_14 (by decide) ?_
      refine lv_icmp_gt (tgt := 28) hx hb d_T_word_15 (by decide) (fun c3 => ?_) (fun c3 => ?_)
      · skip
        refine lv_iconst (v := 1) hx hb d_T_word_28 (by decide) ?_
        refine lv_goto (tgt := 33) hx hb d_T_word_29 (by decide) ?_
        refine m_put (ci := 7) (v := .int 1) (ty := .int) hx hb hT in_T ty_T tk_T nm_T hown hK hH (tw_t) rfl 0 (by decide) (hT _ w672) (fun _ h9 => h9) rfl (by decide +kernel) rfl rfl (Nat.le_of_ble_eq_true rfl) d_T_word_33 (e1 := oT t (su (σ) 0 0 1)) rfl (fun H locs hH hzz => ?_)
        replace hH := two hH
        refine lv_aload_n hx hb d_T_word_36 rfl (lv_at hl 0 rfl) ?_
        refine m_get (ci := 7) (v := .int 1) hx hb hT in_T hown hK hH.1 (tw_t) rfl 0 (by decide) (hT _ w672) (fun _ h9 => h9) rfl d_T_word_37 ?_
        refine lv_if_le (tgt := 47) hx hb d_T_word_40 (by decide) (fun hq9 => absurd hq9 ((by decide : ¬ (1 : Int32) ≤ 0))) (fun _ => ?_)
        refine lv_iconst (v := 0) hx hb d_T_word_43 (by decide) ?_
        refine lv_goto (tgt := 54) hx hb d_T_word_44 (by decide) ?_
        exact m_iret hx hb hr hlocks hsz hH (⟨rfl, rfl⟩) d_T_word_54
      · skip
        refine lv_iload_n hx hb d_T_word_18 rfl (lv_at hl 3 rfl) ?_
        refine lv_if_lt (tgt := 28) hx hb d_T_word_19 (by decide) (fun c4 => ?_) (fun c4 => ?_)
        · skip
          refine lv_iconst (v := 1) hx hb d_T_word_28 (by decide) ?_
          refine lv_goto (tgt := 33) hx hb d_T_word_29 (by decide) ?_
          refine m_put (ci := 7) (v := .int 1) (ty := .int) hx hb hT in_T ty_T tk_T nm_T hown hK hH (tw_t) rfl 0 (by decide) (hT _ w672) (fun _ h9 => h9) rfl (by decide +kernel) rfl rfl (Nat.le_of_ble_eq_true rfl) d_T_word_33 (e1 := oT t (su (σ) 0 0 1)) rfl (fun H locs hH hzz => ?_)
          replace hH := two hH
          refine lv_aload_n hx hb d_T_word_36 rfl (lv_at hl 0 rfl) ?_
          refine m_get (ci := 7) (v := .int 1) hx hb hT in_T hown hK hH.1 (tw_t) rfl 0 (by decide) (hT _ w672) (fun _ h9 => h9) rfl d_T_word_37 ?_
          refine lv_if_le (tgt := 47) hx hb d_T_word_40 (by decide) (fun hq9 => absurd hq9 ((by decide : ¬ (1 : Int32) ≤ 0))) (fun _ => ?_)
          refine lv_iconst (v := 0) hx hb d_T_word_43 (by decide) ?_
          refine lv_goto (tgt := 54) hx hb d_T_word_44 (by decide) ?_
          exact m_iret hx hb hr hlocks hsz hH (⟨rfl, rfl⟩) d_T_word_54
        · skip
          refine lv_iload_n hx hb d_T_word_22 rfl (lv_at hl 3 rfl) ?_
          refine lv_bipush (v := 43) hx hb d_T_word_23 (by decide) ?_
          refine lv_icmp_le (tgt := 32) hx hb d_T_word_25 (by decide) (fun hq9 => absurd hq9 (by rcases hb1 with q | (q | q) | (q | q); exact absurd c1 (by rw [q]; decide); exact absurd q c2; exact absurd q c3; exact absurd q c4; exact q)) (fun _ => ?_)
          refine lv_iconst (v := 1) hx hb d_T_word_28 (by decide) ?_
          refine lv_goto (tgt := 33) hx hb d_T_word_29 (by decide) ?_
          refine m_put (ci := 7) (v := .int 1) (ty := .int) hx hb hT in_T ty_T tk_T nm_T hown hK hH (tw_t) rfl 0 (by decide) (hT _ w672) (fun _ h9 => h9) rfl (by decide +kernel) rfl rfl (Nat.le_of_ble_eq_true rfl) d_T_word_33 (e1 := oT t (su (σ) 0 0 1)) rfl (fun H locs hH hzz => ?_)
          replace hH := two hH
          refine lv_aload_n hx hb d_T_word_36 rfl (lv_at hl 0 rfl) ?_
          refine m_get (ci := 7) (v := .int 1) hx hb hT in_T hown hK hH.1 (tw_t) rfl 0 (by decide) (hT _ w672) (fun _ h9 => h9) rfl d_T_word_37 ?_
          refine lv_if_le (tgt := 47) hx hb d_T_word_40 (by decide) (fun hq9 => absurd hq9 ((by decide : ¬ (1 : Int32) ≤ 0))) (fun _ => ?_)
          refine lv_iconst (v := 0) hx hb d_T_word_43 (by decide) ?_
          refine lv_goto (tgt := 54) hx hb d_T_word_44 (by decide) ?_
          exact m_iret hx hb hr hlocks hsz hH (⟨rfl, rfl⟩) d_T_word_54
set_option maxHeartbeats 4000000 in
set_option maxRecDepth 100000 in
theorem c_T_word (l : Launch) (g : GG) (t : Nat) (σ : SG) (c b i : Nat) (sz : Nat) (h0 : ncI σ (nI c) = 0) (hc : c < 4000) (hb2 : b < 2) (hi : i < 44) : Met l y_T_word (k_T_word :: TT) { frames := 1, cells := 0, slots := 0, locals := 23 } (Pm g [.ref t, .int (nI c), .int (nI b), .int (nI i)] sz (tw g t σ)) (Qm g (tw g t σ) (fun r : Int32 => some (.int r)) (fun r M1 => r = wd σ c b i ∧ M1 = tw g t (su σ 0 0 0))) 0 0 (mA (tw g t σ) sz) := by
  refine met_of (by decide) (Nat.le_of_ble_eq_true rfl) ?_
  intro pr en s mi below meth co hx hb hr hml hown hlocks hnm hT hsz hP hK ls hl
  have hl : lv_has ls 4 [(0, .ref t), (1, .int (nI c)), (2, .int (nI b)), (3, .int (nI i))] := hl
  have hH := HS.start hP
  refine lv_aload_n hx hb d_T_word_0 rfl (lv_at hl 0 rfl) ?_
  refine lv_aload_n hx hb d_T_word_1 rfl (lv_at hl 0 rfl) ?_
  refine lv_iload_n hx hb d_T_word_2 rfl (lv_at hl 1 rfl) ?_
  refine rd_run (c_V (As := [.int (nI c)]) (rest := [.ref t]) hx hb hml hl.1 hown hT hK hH.1 (c_T_noCard l g t σ (nI c) s.heap.size) kw_T_noCard w743 w745 selp_T_noCard w8 hd_T_noCard rfl rfl ⟨by decide, by decide⟩ (tw_t) rfl rfl rfl (Nat.le_of_ble_eq_true rfl) d_T_word_3 ⟨by decide, by decide⟩) rfl ?_
  refine lv_if_ne (tgt := 28) hx hb d_T_word_6 (by decide) (fun hq9 => absurd (h0) hq9) (fun _ => ?_)
  refine lv_iload_n hx hb d_T_word_9 rfl (lv_at hl 2 rfl) ?_
  refine lv_if_lt (tgt := 28) hx hb d_T_word_10 (by decide) (fun hq9 => absurd hq9 (nI_pos (by omega))) (fun _ => ?_)
  refine lv_iload_n hx hb d_T_word_13 rfl (lv_at hl 2 rfl) ?_
  refine lv_iconst (v := 1) hx hb d_T_word_14 (by decide) ?_
  refine lv_icmp_gt (tgt := 28) hx hb d_T_word_15 (by decide) (fun hq9 => absurd hq9 (fun q => absurd ((nI_ltI (a := 1) (by decide) (by omega)).mp q) (by omega))) (fun _ => ?_)
  refine lv_iload_n hx hb d_T_word_18 rfl (lv_at hl 3 rfl) ?_
  refine lv_if_lt (tgt := 28) hx hb d_T_word_19 (by decide) (fun hq9 => absurd hq9 (nI_pos (by omega))) (fun _ => ?_)
  refine lv_iload_n hx hb d_T_word_22 rfl (lv_at hl 3 rfl) ?_
  refine lv_bipush (v := 43) hx hb d_T_word_23 (by decide) ?_
  refine lv_icmp_le (tgt := 32) hx hb d_T_word_25 (by decide) (fun _ => ?_) (fun hq9 => absurd (nI_le (b := 43) (by omega) (by decide)) hq9)
  refine lv_iconst (v := 0) hx hb d_T_word_32 (by decide) ?_
  refine m_put (ci := 7) (v := .int 0) (ty := .int) hx hb hT in_T ty_T tk_T nm_T hown hK hH (tw_t) rfl 0 (by decide) (hT _ w672) (fun _ h9 => h9) rfl (by decide +kernel) rfl rfl (Nat.le_of_ble_eq_true rfl) d_T_word_33 (e1 := oT t (su (σ) 0 0 0)) rfl (fun H locs hH hzz => ?_)
  replace hH := two hH
  refine lv_aload_n hx hb d_T_word_36 rfl (lv_at hl 0 rfl) ?_
  refine m_get (ci := 7) (v := .int 0) hx hb hT in_T hown hK hH.1 (tw_t) rfl 0 (by decide) (hT _ w672) (fun _ h9 => h9) rfl d_T_word_37 ?_
  refine lv_if_le (tgt := 47) hx hb d_T_word_40 (by decide) (fun _ => ?_) (fun hq9 => absurd ((by decide : (0 : Int32) ≤ 0)) hq9)
  refine lv_aload_n hx hb d_T_word_47 rfl (lv_at hl 0 rfl) ?_
  refine lv_iload_n hx hb d_T_word_48 rfl (lv_at hl 1 rfl) ?_
  refine lv_iload_n hx hb d_T_word_49 rfl (lv_at hl 2 rfl) ?_
  refine lv_iload_n hx hb d_T_word_50 rfl (lv_at hl 3 rfl) ?_
  refine rd_run (c_V (As := [.int (nI c), .int (nI b), .int (nI i)]) (rest := []) hx hb hml hl.1 hown hT hK hH.1 (c_T_wordAt l g t (su σ 0 0 0) c b i H.size hc hb2 hi) kw_T_wordAt w775 w777 selp_T_wordAt w8 hd_T_wordAt rfl rfl ⟨by decide, by decide⟩ (tw_t) rfl rfl rfl (Nat.le_of_ble_eq_true rfl) d_T_word_51 ⟨by decide, by decide⟩) rfl ?_
  exact m_iret hx hb hr hlocks hsz hH (⟨wd5 c0_5 c b i, rfl⟩) d_T_word_54
set_option maxHeartbeats 4000000 in
set_option maxRecDepth 100000 in
theorem c_T_carries_b (l : Launch) (g : GG) (t : Nat) (σ : SG) (x w : Int32) (sz : Nat) (hb1 : ncI σ x = 1) : Met l y_T_carries (k_T_carries :: TT) { frames := 5, cells := 0, slots := 0, locals := 109 } (Pm g [.ref t, .int x, .int w] sz (tw g t σ)) (Qm g (tw g t σ) (fun r : Int32 => some (.int r)) (fun r M1 => r = 0 ∧ M1 = tw g t (su σ 0 0 1))) 0 0 (mA (tw g t σ) sz) := by
  refine met_of (by decide) (Nat.le_of_ble_eq_true rfl) ?_
  intro pr en s mi below meth co hx hb hr hml hown hlocks hnm hT hsz hP hK ls hl
  have hl : lv_has ls 3 [(0, .ref t), (1, .int x), (2, .int w)] := hl
  have hH := HS.start hP
  refine lv_aload_n hx hb d_T_carries_0 rfl (lv_at hl 0 rfl) ?_
  refine lv_aload_n hx hb d_T_carries_1 rfl (lv_at hl 0 rfl) ?_
  refine lv_iload_n hx hb d_T_carries_2 rfl (lv_at hl 1 rfl) ?_
  refine rd_run (c_V (As := [.int x]) (rest := [.ref t]) hx hb hml hl.1 hown hT hK hH.1 (c_T_noCard l g t σ x s.heap.size) kw_T_noCard w743 w745 selp_T_noCard w8 hd_T_noCard rfl rfl ⟨by decide, by decide⟩ (tw_t) rfl rfl rfl (Nat.le_of_ble_eq_true rfl) d_T_carries_3 ⟨by decide, by decide⟩) rfl ?_
  refine lv_if_eq (tgt := 13) hx hb d_T_carries_6 (by decide) (fun hq9 => absurd hq9 (by rw [hb1]; decide)) (fun _ => ?_)
  refine lv_iconst (v := 1) hx hb d_T_carries_9 (by decide) ?_
  refine lv_goto (tgt := 27) hx hb d_T_carries_10 (by decide) ?_
  refine m_put (ci := 7) (v := .int 1) (ty := .int) hx hb hT in_T ty_T tk_T nm_T hown hK hH (tw_t) rfl 0 (by decide) (hT _ w672) (fun _ h9 => h9) rfl (by decide +kernel) rfl rfl (Nat.le_of_ble_eq_true rfl) d_T_carries_27 (e1 := oT t (su (σ) 0 0 1)) rfl (fun H locs hH hzz => ?_)
  replace hH := two hH
  refine lv_aload_n hx hb d_T_carries_30 rfl (lv_at hl 0 rfl) ?_
  refine m_get (ci := 7) (v := .int 1) hx hb hT in_T hown hK hH.1 (tw_t) rfl 0 (by decide) (hT _ w672) (fun _ h9 => h9) rfl d_T_carries_31 ?_
  refine lv_if_le (tgt := 39) hx hb d_T_carries_34 (by decide) (fun hq9 => absurd hq9 ((by decide : ¬ (1 : Int32) ≤ 0))) (fun _ => ?_)
  refine lv_iconst (v := 0) hx hb d_T_carries_37 (by decide) ?_
  exact m_iret hx hb hr hlocks hsz hH (⟨rfl, rfl⟩) d_T_carries_38
set_option maxHeartbeats 4000000 in
set_option maxRecDepth 100000 in
theorem c_T_carries_z (l : Launch) (g : GG) (t : Nat) (σ : SG) (x w : Int32) (sz : Nat) (h0 : ncI σ x = 0) (hz : w < 0 ∨ ¬ w ≤ 3) : Met l y_T_carries (k_T_carries :: TT) { frames := 5, cells := 0, slots := 0, locals := 109 } (Pm g [.ref t, .int x, .int w] sz (tw g t σ)) (Qm g (tw g t σ) (fun r : Int32 => some (.int r)) (fun r M1 => r = 0 ∧ M1 = tw g t (su σ 0 0 2))) 0 0 (mA (tw g t σ) sz) := by
  refine met_of (by decide) (Nat.le_of_ble_eq_true rfl) ?_
  intro pr en s mi below meth co hx hb hr hml hown hlocks hnm hT hsz hP hK ls hl
  have hl : lv_has ls 3 [(0, .ref t), (1, .int x), (2, .int w)] := hl
  have hH := HS.start hP
  refine lv_aload_n hx hb d_T_carries_0 rfl (lv_at hl 0 rfl) ?_
  refine lv_aload_n hx hb d_T_carries_1 rfl (lv_at hl 0 rfl) ?_
  refine lv_iload_n hx hb d_T_carries_2 rfl (lv_at hl 1 rfl) ?_
  refine rd_run (c_V (As := [.int x]) (rest := [.ref t]) hx hb hml hl.1 hown hT hK hH.1 (c_T_noCard l g t σ x s.heap.size) kw_T_noCard w743 w745 selp_T_noCard w8 hd_T_noCard rfl rfl ⟨by decide, by decide⟩ (tw_t) rfl rfl rfl (Nat.le_of_ble_eq_true rfl) d_T_carries_3 ⟨by decide, by decide⟩) rfl ?_
  refine lv_if_eq (tgt := 13) hx hb d_T_carries_6 (by decide) (fun _ => ?_) (fun hq9 => absurd (h0) hq9)
  refine lv_iload_n hx hb d_T_carries_13 rfl (lv_at hl 2 rfl) ?_
  refine lv_if_lt (tgt := 22) hx hb d_T_carries_14 (by decide) (fun c1 => ?_) (fun c1 => ?_)
  · skip
    refine lv_iconst (v := 2) hx hb d_T_carries_22 (by decide) ?_
    refine lv_goto (tgt := 27) hx hb d_T_carries_23 (by decide) ?_
    refine m_put (ci := 7) (v := .int 2) (ty := .int) hx hb hT in_T ty_T tk_T nm_T hown hK hH (tw_t) rfl 0 (by decide) (hT _ w672) (fun _ h9 => h9) rfl (by decide +kernel) rfl rfl (Nat.le_of_ble_eq_true rfl) d_T_carries_27 (e1 := oT t (su (σ) 0 0 2)) rfl (fun H locs hH hzz => ?_)
    replace hH := two hH
    refine lv_aload_n hx hb d_T_carries_30 rfl (lv_at hl 0 rfl) ?_
    refine m_get (ci := 7) (v := .int 2) hx hb hT in_T hown hK hH.1 (tw_t) rfl 0 (by decide) (hT _ w672) (fun _ h9 => h9) rfl d_T_carries_31 ?_
    refine lv_if_le (tgt := 39) hx hb d_T_carries_34 (by decide) (fun hq9 => absurd hq9 ((by decide : ¬ (2 : Int32) ≤ 0))) (fun _ => ?_)
    refine lv_iconst (v := 0) hx hb d_T_carries_37 (by decide) ?_
    exact m_iret hx hb hr hlocks hsz hH (⟨rfl, rfl⟩) d_T_carries_38
  · skip
    refine lv_iload_n hx hb d_T_carries_17 rfl (lv_at hl 2 rfl) ?_
    refine lv_iconst (v := 3) hx hb d_T_carries_18 (by decide) ?_
    refine lv_icmp_le (tgt := 26) hx hb d_T_carries_19 (by decide) (fun hq9 => absurd hq9 (hz.elim (fun q => absurd q c1) id)) (fun _ => ?_)
    refine lv_iconst (v := 2) hx hb d_T_carries_22 (by decide) ?_
    refine lv_goto (tgt := 27) hx hb d_T_carries_23 (by decide) ?_
    refine m_put (ci := 7) (v := .int 2) (ty := .int) hx hb hT in_T ty_T tk_T nm_T hown hK hH (tw_t) rfl 0 (by decide) (hT _ w672) (fun _ h9 => h9) rfl (by decide +kernel) rfl rfl (Nat.le_of_ble_eq_true rfl) d_T_carries_27 (e1 := oT t (su (σ) 0 0 2)) rfl (fun H locs hH hzz => ?_)
    replace hH := two hH
    refine lv_aload_n hx hb d_T_carries_30 rfl (lv_at hl 0 rfl) ?_
    refine m_get (ci := 7) (v := .int 2) hx hb hT in_T hown hK hH.1 (tw_t) rfl 0 (by decide) (hT _ w672) (fun _ h9 => h9) rfl d_T_carries_31 ?_
    refine lv_if_le (tgt := 39) hx hb d_T_carries_34 (by decide) (fun hq9 => absurd hq9 ((by decide : ¬ (2 : Int32) ≤ 0))) (fun _ => ?_)
    refine lv_iconst (v := 0) hx hb d_T_carries_37 (by decide) ?_
    exact m_iret hx hb hr hlocks hsz hH (⟨rfl, rfl⟩) d_T_carries_38
set_option maxHeartbeats 4000000 in
set_option maxRecDepth 100000 in
theorem c_T_carries (l : Launch) (g : GG) (t : Nat) (σ : SG) (c : Nat) (w : Int32) (sz : Nat) (h0 : ncI σ (nI c) = 0) (hc : c < 4000) (hz1 : ¬ w < 0) (hz2 : w ≤ 3) : Met l y_T_carries (k_T_carries :: TT) { frames := 5, cells := 0, slots := 0, locals := 109 } (Pm g [.ref t, .int (nI c), .int w] sz (tw g t σ)) (Qm g (tw g t σ) (fun r : Int32 => some (.int r)) (fun r M1 => r = crI σ c w ∧ M1 = tw g t (su σ 0 0 0))) 0 0 (mA (tw g t σ) sz) := by
  refine met_of (by decide) (Nat.le_of_ble_eq_true rfl) ?_
  intro pr en s mi below meth co hx hb hr hml hown hlocks hnm hT hsz hP hK ls hl
  have hl : lv_has ls 3 [(0, .ref t), (1, .int (nI c)), (2, .int w)] := hl
  have hH := HS.start hP
  refine lv_aload_n hx hb d_T_carries_0 rfl (lv_at hl 0 rfl) ?_
  refine lv_aload_n hx hb d_T_carries_1 rfl (lv_at hl 0 rfl) ?_
  refine lv_iload_n hx hb d_T_carries_2 rfl (lv_at hl 1 rfl) ?_
  refine rd_run (c_V (As := [.int (nI c)]) (rest := [.ref t]) hx hb hml hl.1 hown hT hK hH.1 (c_T_noCard l g t σ (nI c) s.heap.size) kw_T_noCard w743 w745 selp_T_noCard w8 hd_T_noCard rfl rfl ⟨by decide, by decide⟩ (tw_t) rfl rfl rfl (Nat.le_of_ble_eq_true rfl) d_T_carries_3 ⟨by decide, by decide⟩) rfl ?_
  refine lv_if_eq (tgt := 13) hx hb d_T_carries_6 (by decide) (fun _ => ?_) (fun hq9 => absurd (h0) hq9)
  refine lv_iload_n hx hb d_T_carries_13 rfl (lv_at hl 2 rfl) ?_
  refine lv_if_lt (tgt := 22) hx hb d_T_carries_14 (by decide) (fun hq9 => absurd hq9 (hz1)) (fun _ => ?_)
  refine lv_iload_n hx hb d_T_carries_17 rfl (lv_at hl 2 rfl) ?_
  refine lv_iconst (v := 3) hx hb d_T_carries_18 (by decide) ?_
  refine lv_icmp_le (tgt := 26) hx hb d_T_carries_19 (by decide) (fun _ => ?_) (fun hq9 => absurd (hz2) hq9)
  refine lv_iconst (v := 0) hx hb d_T_carries_26 (by decide) ?_
  refine m_put (ci := 7) (v := .int 0) (ty := .int) hx hb hT in_T ty_T tk_T nm_T hown hK hH (tw_t) rfl 0 (by decide) (hT _ w672) (fun _ h9 => h9) rfl (by decide +kernel) rfl rfl (Nat.le_of_ble_eq_true rfl) d_T_carries_27 (e1 := oT t (su (σ) 0 0 0)) rfl (fun H locs hH hzz => ?_)
  replace hH := two hH
  refine lv_aload_n hx hb d_T_carries_30 rfl (lv_at hl 0 rfl) ?_
  refine m_get (ci := 7) (v := .int 0) hx hb hT in_T hown hK hH.1 (tw_t) rfl 0 (by decide) (hT _ w672) (fun _ h9 => h9) rfl d_T_carries_31 ?_
  refine lv_if_le (tgt := 39) hx hb d_T_carries_34 (by decide) (fun _ => ?_) (fun hq9 => absurd ((by decide : (0 : Int32) ≤ 0)) hq9)
  refine lv_iload_n hx hb d_T_carries_39 rfl (lv_at hl 2 rfl) ?_
  refine lv_if_ne (tgt := 51) hx hb d_T_carries_40 (by decide) (fun c1 => ?_) (fun c1 => ?_)
  · skip
    refine lv_iload_n hx hb d_T_carries_51 rfl (lv_at hl 2 rfl) ?_
    refine lv_iconst (v := 1) hx hb d_T_carries_52 (by decide) ?_
    refine lv_icmp_ne (tgt := 64) hx hb d_T_carries_53 (by decide) (fun c2 => ?_) (fun c2 => ?_)
    · skip
      refine lv_iload_n hx hb d_T_carries_64 rfl (lv_at hl 2 rfl) ?_
      refine lv_iconst (v := 2) hx hb d_T_carries_65 (by decide) ?_
      refine lv_icmp_ne (tgt := 77) hx hb d_T_carries_66 (by decide) (fun c3 => ?_) (fun c3 => ?_)
      · skip
        refine lv_aload_n hx hb d_T_carries_77 rfl (lv_at hl 0 rfl) ?_
        refine lv_iload_n hx hb d_T_carries_78 rfl (lv_at hl 1 rfl) ?_
        refine rd_run (c_V (As := [.int (nI c)]) (rest := []) hx hb hml hl.1 hown hT hK hH.1 (c_T_seen l g t (su σ 0 0 0) c H.size hc) kw_T_seen w787 w789 selp_T_seen w8 hd_T_seen rfl rfl ⟨by decide, by decide⟩ (tw_t) rfl rfl rfl (Nat.le_of_ble_eq_true rfl) d_T_carries_79 ⟨by decide, by decide⟩) rfl ?_
        exact m_iret hx hb hr hlocks hsz hH (⟨by first | (unfold crI; rw [if_neg c1, cur5 c0_5]) | (unfold crI; rw [if_pos c1, if_neg c2, cn5 c0_5]) | (unfold crI; rw [if_pos c1, if_pos c2, if_neg c3, fi5 c0_5]) | (unfold crI; rw [if_pos c1, if_pos c2, if_pos c3, se5 c0_5]), rfl⟩) d_T_carries_82
      · skip
        have c3 : ¬ ¬ w = 2 := fun q => q c3
        refine lv_aload_n hx hb d_T_carries_69 rfl (lv_at hl 0 rfl) ?_
        refine lv_iload_n hx hb d_T_carries_70 rfl (lv_at hl 1 rfl) ?_
        refine rd_run (c_V (As := [.int (nI c)]) (rest := []) hx hb hml hl.1 hown hT hK hH.1 (c_T_first l g t (su σ 0 0 0) c H.size hc) kw_T_first w783 w785 selp_T_first w8 hd_T_first rfl rfl ⟨by decide, by decide⟩ (tw_t) rfl rfl rfl (Nat.le_of_ble_eq_true rfl) d_T_carries_71 ⟨by decide, by decide⟩) rfl ?_
        refine lv_goto (tgt := 82) hx hb d_T_carries_74 (by decide) ?_
        exact m_iret hx hb hr hlocks hsz hH (⟨by first | (unfold crI; rw [if_neg c1, cur5 c0_5]) | (unfold crI; rw [if_pos c1, if_neg c2, cn5 c0_5]) | (unfold crI; rw [if_pos c1, if_pos c2, if_neg c3, fi5 c0_5]) | (unfold crI; rw [if_pos c1, if_pos c2, if_pos c3, se5 c0_5]), rfl⟩) d_T_carries_82
    · skip
      have c2 : ¬ ¬ w = 1 := fun q => q c2
      refine lv_aload_n hx hb d_T_carries_56 rfl (lv_at hl 0 rfl) ?_
      refine lv_iload_n hx hb d_T_carries_57 rfl (lv_at hl 1 rfl) ?_
      refine rd_run (c_V (As := [.int (nI c)]) (rest := []) hx hb hml hl.1 hown hT hK hH.1 (c_T_count l g t (su σ 0 0 0) c H.size hc) kw_T_count w763 w765 selp_T_count w8 hd_T_count rfl rfl ⟨by decide, by decide⟩ (tw_t) rfl rfl rfl (Nat.le_of_ble_eq_true rfl) d_T_carries_58 ⟨by decide, by decide⟩) rfl ?_
      refine lv_goto (tgt := 82) hx hb d_T_carries_61 (by decide) ?_
      exact m_iret hx hb hr hlocks hsz hH (⟨by first | (unfold crI; rw [if_neg c1, cur5 c0_5]) | (unfold crI; rw [if_pos c1, if_neg c2, cn5 c0_5]) | (unfold crI; rw [if_pos c1, if_pos c2, if_neg c3, fi5 c0_5]) | (unfold crI; rw [if_pos c1, if_pos c2, if_pos c3, se5 c0_5]), rfl⟩) d_T_carries_82
  · skip
    have c1 : ¬ ¬ w = 0 := fun q => q c1
    refine lv_aload_n hx hb d_T_carries_43 rfl (lv_at hl 0 rfl) ?_
    refine lv_iload_n hx hb d_T_carries_44 rfl (lv_at hl 1 rfl) ?_
    refine rd_run (c_V (As := [.int (nI c)]) (rest := []) hx hb hml hl.1 hown hT hK hH.1 (c_T_current l g t (su σ 0 0 0) c H.size hc) kw_T_current w767 w769 selp_T_current w8 hd_T_current rfl rfl ⟨by decide, by decide⟩ (tw_t) rfl rfl rfl (Nat.le_of_ble_eq_true rfl) d_T_carries_45 ⟨by decide, by decide⟩) rfl ?_
    refine lv_goto (tgt := 82) hx hb d_T_carries_48 (by decide) ?_
    exact m_iret hx hb hr hlocks hsz hH (⟨by first | (unfold crI; rw [if_neg c1, cur5 c0_5]) | (unfold crI; rw [if_pos c1, if_neg c2, cn5 c0_5]) | (unfold crI; rw [if_pos c1, if_pos c2, if_neg c3, fi5 c0_5]) | (unfold crI; rw [if_pos c1, if_pos c2, if_pos c3, se5 c0_5]), rfl⟩) d_T_carries_82
set_option maxHeartbeats 4000000 in
set_option maxRecDepth 100000 in
theorem c_T_memory_b (l : Launch) (g : GG) (t : Nat) (σ : SG) (x i : Int32) (sz : Nat) (hb1 : ncI σ x = 1) : Met l y_T_memory (k_T_memory :: TT) { frames := 4, cells := 0, slots := 0, locals := 88 } (Pm g [.ref t, .int x, .int i] sz (tw g t σ)) (Qm g (tw g t σ) (fun r : Int32 => some (.int r)) (fun r M1 => r = 0 ∧ M1 = tw g t (su σ 0 0 1))) 0 0 (mA (tw g t σ) sz) := by
  refine met_of (by decide) (Nat.le_of_ble_eq_true rfl) ?_
  intro pr en s mi below meth co hx hb hr hml hown hlocks hnm hT hsz hP hK ls hl
  have hl : lv_has ls 3 [(0, .ref t), (1, .int x), (2, .int i)] := hl
  have hH := HS.start hP
  refine lv_aload_n hx hb d_T_memory_0 rfl (lv_at hl 0 rfl) ?_
  refine lv_aload_n hx hb d_T_memory_1 rfl (lv_at hl 0 rfl) ?_
  refine lv_iload_n hx hb d_T_memory_2 rfl (lv_at hl 1 rfl) ?_
  refine rd_run (c_V (As := [.int x]) (rest := [.ref t]) hx hb hml hl.1 hown hT hK hH.1 (c_T_noCard l g t σ x s.heap.size) kw_T_noCard w743 w745 selp_T_noCard w8 hd_T_noCard rfl rfl ⟨by decide, by decide⟩ (tw_t) rfl rfl rfl (Nat.le_of_ble_eq_true rfl) d_T_memory_3 ⟨by decide, by decide⟩) rfl ?_
  refine lv_if_eq (tgt := 13) hx hb d_T_memory_6 (by decide) (fun hq9 => absurd hq9 (by rw [hb1]; decide)) (fun _ => ?_)
  refine lv_iconst (v := 1) hx hb d_T_memory_9 (by decide) ?_
  refine lv_goto (tgt := 31) hx hb d_T_memory_10 (by decide) ?_
  refine m_put (ci := 7) (v := .int 1) (ty := .int) hx hb hT in_T ty_T tk_T nm_T hown hK hH (tw_t) rfl 0 (by decide) (hT _ w672) (fun _ h9 => h9) rfl (by decide +kernel) rfl rfl (Nat.le_of_ble_eq_true rfl) d_T_memory_31 (e1 := oT t (su (σ) 0 0 1)) rfl (fun H locs hH hzz => ?_)
  replace hH := two hH
  refine lv_aload_n hx hb d_T_memory_34 rfl (lv_at hl 0 rfl) ?_
  refine m_get (ci := 7) (v := .int 1) hx hb hT in_T hown hK hH.1 (tw_t) rfl 0 (by decide) (hT _ w672) (fun _ h9 => h9) rfl d_T_memory_35 ?_
  refine lv_if_le (tgt := 45) hx hb d_T_memory_38 (by decide) (fun hq9 => absurd hq9 ((by decide : ¬ (1 : Int32) ≤ 0))) (fun _ => ?_)
  refine lv_iconst (v := 0) hx hb d_T_memory_41 (by decide) ?_
  refine lv_goto (tgt := 58) hx hb d_T_memory_42 (by decide) ?_
  exact m_iret hx hb hr hlocks hsz hH (⟨rfl, rfl⟩) d_T_memory_58
set_option maxHeartbeats 4000000 in
set_option maxRecDepth 100000 in
theorem c_T_memory_z (l : Launch) (g : GG) (t : Nat) (σ : SG) (c : Nat) (i : Int32) (sz : Nat) (h0 : ncI σ (nI c) = 0) (hc : c < 4000) (hz : i < 0 ∨ ¬ i < cnI σ c) : Met l y_T_memory (k_T_memory :: TT) { frames := 4, cells := 0, slots := 0, locals := 88 } (Pm g [.ref t, .int (nI c), .int i] sz (tw g t σ)) (Qm g (tw g t σ) (fun r : Int32 => some (.int r)) (fun r M1 => r = 0 ∧ M1 = tw g t (su σ 0 0 1))) 0 0 (mA (tw g t σ) sz) := by
  refine met_of (by decide) (Nat.le_of_ble_eq_true rfl) ?_
  intro pr en s mi below meth co hx hb hr hml hown hlocks hnm hT hsz hP hK ls hl
  have hl : lv_has ls 3 [(0, .ref t), (1, .int (nI c)), (2, .int i)] := hl
  have hH := HS.start hP
  refine lv_aload_n hx hb d_T_memory_0 rfl (lv_at hl 0 rfl) ?_
  refine lv_aload_n hx hb d_T_memory_1 rfl (lv_at hl 0 rfl) ?_
  refine lv_iload_n hx hb d_T_memory_2 rfl (lv_at hl 1 rfl) ?_
  refine rd_run (c_V (As := [.int (nI c)]) (rest := [.ref t]) hx hb hml hl.1 hown hT hK hH.1 (c_T_noCard l g t σ (nI c) s.heap.size) kw_T_noCard w743 w745 selp_T_noCard w8 hd_T_noCard rfl rfl ⟨by decide, by decide⟩ (tw_t) rfl rfl rfl (Nat.le_of_ble_eq_true rfl) d_T_memory_3 ⟨by decide, by decide⟩) rfl ?_
  refine lv_if_eq (tgt := 13) hx hb d_T_memory_6 (by decide) (fun _ => ?_) (fun hq9 => absurd (h0) hq9)
  refine lv_iload_n hx hb d_T_memory_13 rfl (lv_at hl 2 rfl) ?_
  refine lv_if_lt (tgt := 26) hx hb d_T_memory_14 (by decide) (fun c1 => ?_) (fun c1 => ?_)
  · skip
    refine lv_iconst (v := 1) hx hb d_T_memory_26 (by decide) ?_
    refine lv_goto (tgt := 31) hx hb d_T_memory_27 (by decide) ?_
    refine m_put (ci := 7) (v := .int 1) (ty := .int) hx hb hT in_T ty_T tk_T nm_T hown hK hH (tw_t) rfl 0 (by decide) (hT _ w672) (fun _ h9 => h9) rfl (by decide +kernel) rfl rfl (Nat.le_of_ble_eq_true rfl) d_T_memory_31 (e1 := oT t (su (σ) 0 0 1)) rfl (fun H locs hH hzz => ?_)
    replace hH := two hH
    refine lv_aload_n hx hb d_T_memory_34 rfl (lv_at hl 0 rfl) ?_
    refine m_get (ci := 7) (v := .int 1) hx hb hT in_T hown hK hH.1 (tw_t) rfl 0 (by decide) (hT _ w672) (fun _ h9 => h9) rfl d_T_memory_35 ?_
    refine lv_if_le (tgt := 45) hx hb d_T_memory_38 (by decide) (fun hq9 => absurd hq9 ((by decide : ¬ (1 : Int32) ≤ 0))) (fun _ => ?_)
    refine lv_iconst (v := 0) hx hb d_T_memory_41 (by decide) ?_
    refine lv_goto (tgt := 58) hx hb d_T_memory_42 (by decide) ?_
    exact m_iret hx hb hr hlocks hsz hH (⟨rfl, rfl⟩) d_T_memory_58
  · skip
    refine lv_iload_n hx hb d_T_memory_17 rfl (lv_at hl 2 rfl) ?_
    refine lv_aload_n hx hb d_T_memory_18 rfl (lv_at hl 0 rfl) ?_
    refine lv_iload_n hx hb d_T_memory_19 rfl (lv_at hl 1 rfl) ?_
    refine rd_run (c_V (As := [.int (nI c)]) (rest := [.int i, .ref t]) hx hb hml hl.1 hown hT hK hH.1 (c_T_count l g t σ c s.heap.size hc) kw_T_count w763 w765 selp_T_count w8 hd_T_count rfl rfl ⟨by decide, by decide⟩ (tw_t) rfl rfl rfl (Nat.le_of_ble_eq_true rfl) d_T_memory_20 ⟨by decide, by decide⟩) rfl ?_
    refine lv_icmp_lt (tgt := 30) hx hb d_T_memory_23 (by decide) (fun hq9 => absurd hq9 (hz.elim (fun q => absurd q c1) id)) (fun _ => ?_)
    refine lv_iconst (v := 1) hx hb d_T_memory_26 (by decide) ?_
    refine lv_goto (tgt := 31) hx hb d_T_memory_27 (by decide) ?_
    refine m_put (ci := 7) (v := .int 1) (ty := .int) hx hb hT in_T ty_T tk_T nm_T hown hK hH (tw_t) rfl 0 (by decide) (hT _ w672) (fun _ h9 => h9) rfl (by decide +kernel) rfl rfl (Nat.le_of_ble_eq_true rfl) d_T_memory_31 (e1 := oT t (su (σ) 0 0 1)) rfl (fun H locs hH hzz => ?_)
    replace hH := two hH
    refine lv_aload_n hx hb d_T_memory_34 rfl (lv_at hl 0 rfl) ?_
    refine m_get (ci := 7) (v := .int 1) hx hb hT in_T hown hK hH.1 (tw_t) rfl 0 (by decide) (hT _ w672) (fun _ h9 => h9) rfl d_T_memory_35 ?_
    refine lv_if_le (tgt := 45) hx hb d_T_memory_38 (by decide) (fun hq9 => absurd hq9 ((by decide : ¬ (1 : Int32) ≤ 0))) (fun _ => ?_)
    refine lv_iconst (v := 0) hx hb d_T_memory_41 (by decide) ?_
    refine lv_goto (tgt := 58) hx hb d_T_memory_42 (by decide) ?_
    exact m_iret hx hb hr hlocks hsz hH (⟨rfl, rfl⟩) d_T_memory_58
set_option maxHeartbeats 4000000 in
set_option maxRecDepth 100000 in
theorem c_T_memory (l : Launch) (g : GG) (t : Nat) (σ : SG) (c i n : Nat) (sz : Nat) (h0 : ncI σ (nI c) = 0) (hc : c < 4000) (hn : cnI σ c = nI n) (hn4 : n ≤ 40) (hi : i < n) : Met l y_T_memory (k_T_memory :: TT) { frames := 4, cells := 0, slots := 0, locals := 88 } (Pm g [.ref t, .int (nI c), .int (nI i)] sz (tw g t σ)) (Qm g (tw g t σ) (fun r : Int32 => some (.int r)) (fun r M1 => r = wd σ c (cur σ c) (3 + i) ∧ M1 = tw g t (su σ 0 0 0))) 0 0 (mA (tw g t σ) sz) := by
  refine met_of (by decide) (Nat.le_of_ble_eq_true rfl) ?_
  intro pr en s mi below meth co hx hb hr hml hown hlocks hnm hT hsz hP hK ls hl
  have hl : lv_has ls 3 [(0, .ref t), (1, .int (nI c)), (2, .int (nI i))] := hl
  have hH := HS.start hP
  refine lv_aload_n hx hb d_T_memory_0 rfl (lv_at hl 0 rfl) ?_
  refine lv_aload_n hx hb d_T_memory_1 rfl (lv_at hl 0 rfl) ?_
  refine lv_iload_n hx hb d_T_memory_2 rfl (lv_at hl 1 rfl) ?_
  refine rd_run (c_V (As := [.int (nI c)]) (rest := [.ref t]) hx hb hml hl.1 hown hT hK hH.1 (c_T_noCard l g t σ (nI c) s.heap.size) kw_T_noCard w743 w745 selp_T_noCard w8 hd_T_noCard rfl rfl ⟨by decide, by decide⟩ (tw_t) rfl rfl rfl (Nat.le_of_ble_eq_true rfl) d_T_memory_3 ⟨by decide, by decide⟩) rfl ?_
  refine lv_if_eq (tgt := 13) hx hb d_T_memory_6 (by decide) (fun _ => ?_) (fun hq9 => absurd (h0) hq9)
  refine lv_iload_n hx hb d_T_memory_13 rfl (lv_at hl 2 rfl) ?_
  refine lv_if_lt (tgt := 26) hx hb d_T_memory_14 (by decide) (fun hq9 => absurd hq9 (nI_pos (by omega))) (fun _ => ?_)
  refine lv_iload_n hx hb d_T_memory_17 rfl (lv_at hl 2 rfl) ?_
  refine lv_aload_n hx hb d_T_memory_18 rfl (lv_at hl 0 rfl) ?_
  refine lv_iload_n hx hb d_T_memory_19 rfl (lv_at hl 1 rfl) ?_
  refine rd_run (c_V (As := [.int (nI c)]) (rest := [.int (nI i), .ref t]) hx hb hml hl.1 hown hT hK hH.1 (c_T_count l g t σ c s.heap.size hc) kw_T_count w763 w765 selp_T_count w8 hd_T_count rfl rfl ⟨by decide, by decide⟩ (tw_t) rfl rfl rfl (Nat.le_of_ble_eq_true rfl) d_T_memory_20 ⟨by decide, by decide⟩) rfl ?_
  refine lv_icmp_lt (tgt := 30) hx hb d_T_memory_23 (by decide) (fun _ => ?_) (fun hq9 => absurd (by rw [hn]; exact nI_lt hi (by omega)) hq9)
  refine lv_iconst (v := 0) hx hb d_T_memory_30 (by decide) ?_
  refine m_put (ci := 7) (v := .int 0) (ty := .int) hx hb hT in_T ty_T tk_T nm_T hown hK hH (tw_t) rfl 0 (by decide) (hT _ w672) (fun _ h9 => h9) rfl (by decide +kernel) rfl rfl (Nat.le_of_ble_eq_true rfl) d_T_memory_31 (e1 := oT t (su (σ) 0 0 0)) rfl (fun H locs hH hzz => ?_)
  replace hH := two hH
  refine lv_aload_n hx hb d_T_memory_34 rfl (lv_at hl 0 rfl) ?_
  refine m_get (ci := 7) (v := .int 0) hx hb hT in_T hown hK hH.1 (tw_t) rfl 0 (by decide) (hT _ w672) (fun _ h9 => h9) rfl d_T_memory_35 ?_
  refine lv_if_le (tgt := 45) hx hb d_T_memory_38 (by decide) (fun _ => ?_) (fun hq9 => absurd ((by decide : (0 : Int32) ≤ 0)) hq9)
  refine lv_aload_n hx hb d_T_memory_45 rfl (lv_at hl 0 rfl) ?_
  refine lv_iload_n hx hb d_T_memory_46 rfl (lv_at hl 1 rfl) ?_
  refine lv_aload_n hx hb d_T_memory_47 rfl (lv_at hl 0 rfl) ?_
  refine lv_iload_n hx hb d_T_memory_48 rfl (lv_at hl 1 rfl) ?_
  refine rd_run (c_V (As := [.int (nI c)]) (rest := [.int (nI c), .ref t]) hx hb hml hl.1 hown hT hK hH.1 (c_T_current l g t (su σ 0 0 0) c H.size hc) kw_T_current w767 w769 selp_T_current w8 hd_T_current rfl rfl ⟨by decide, by decide⟩ (tw_t) rfl rfl rfl (Nat.le_of_ble_eq_true rfl) d_T_memory_49 ⟨by decide, by decide⟩) rfl ?_
  rw [show (nI (cur (su σ 0 0 0) c)) = nI (cur σ c) from by rw [cur5 c0_5]]
  refine lv_iconst (v := 3) hx hb d_T_memory_52 (by decide) ?_
  refine lv_iload_n hx hb d_T_memory_53 rfl (lv_at hl 2 rfl) ?_
  refine lv_iadd hx hb d_T_memory_54 ?_
  rw [show (3 + (nI i)) = nI (3 + i) from nI_add 3 i]
  refine rd_run (c_V (As := [.int (nI c), .int (nI (cur σ c)), .int (nI (3 + i))]) (rest := []) hx hb hml hl.1 hown hT hK hH.1 (c_T_wordAt l g t (su σ 0 0 0) c (cur σ c) (3 + i) H.size hc (cur_lt _ _) (by omega)) kw_T_wordAt w775 w777 selp_T_wordAt w8 hd_T_wordAt rfl rfl ⟨by decide, by decide⟩ (tw_t) rfl rfl rfl (Nat.le_of_ble_eq_true rfl) d_T_memory_55 ⟨by decide, by decide⟩) rfl ?_
  exact m_iret hx hb hr hlocks hsz hH (⟨wd5 c0_5 c _ _, rfl⟩) d_T_memory_58
set_option maxHeartbeats 4000000 in
set_option maxRecDepth 100000 in
theorem c_T_about_b (l : Launch) (g : GG) (t : Nat) (σ : SG) (x w : Int32) (sz : Nat) (hb1 : ndI x = 1) : Met l y_T_about (k_T_about :: TT) { frames := 1, cells := 0, slots := 0, locals := 23 } (Pm g [.ref t, .int x, .int w] sz (tw g t σ)) (Qm g (tw g t σ) (fun r : Int32 => some (.int r)) (fun r M1 => r = 0 ∧ M1 = tw g t (su σ 0 0 1))) 0 0 (mA (tw g t σ) sz) := by
  refine met_of (by decide) (Nat.le_of_ble_eq_true rfl) ?_
  intro pr en s mi below meth co hx hb hr hml hown hlocks hnm hT hsz hP hK ls hl
  have hl : lv_has ls 5 [(0, .ref t), (1, .int x), (2, .int w)] := hl
  have hH := HS.start hP
  refine lv_aload_n hx hb d_T_about_0 rfl (lv_at hl 0 rfl) ?_
  refine lv_iload_n hx hb d_T_about_1 rfl (lv_at hl 1 rfl) ?_
  refine rd_run (c_S (As := [.int x]) (rest := [.ref t]) hx hb hml hl.1 hown hT hK hH.1 (c_T_noDoor l g (tw g t σ) x s.heap.size) kw_T_noDoor w799 w800 w8 hd_T_noDoor rfl rfl ⟨by decide, by decide⟩ rfl rfl (Nat.le_of_ble_eq_true rfl) d_T_about_2 ⟨by decide, by decide⟩) rfl ?_
  refine lv_if_eq (tgt := 12) hx hb d_T_about_5 (by decide) (fun hq9 => absurd hq9 (by rw [hb1]; decide)) (fun _ => ?_)
  refine lv_iconst (v := 1) hx hb d_T_about_8 (by decide) ?_
  refine lv_goto (tgt := 26) hx hb d_T_about_9 (by decide) ?_
  refine m_put (ci := 7) (v := .int 1) (ty := .int) hx hb hT in_T ty_T tk_T nm_T hown hK hH (tw_t) rfl 0 (by decide) (hT _ w672) (fun _ h9 => h9) rfl (by decide +kernel) rfl rfl (Nat.le_of_ble_eq_true rfl) d_T_about_26 (e1 := oT t (su (σ) 0 0 1)) rfl (fun H locs hH hzz => ?_)
  replace hH := two hH
  refine lv_aload_n hx hb d_T_about_29 rfl (lv_at hl 0 rfl) ?_
  refine m_get (ci := 7) (v := .int 1) hx hb hT in_T hown hK hH.1 (tw_t) rfl 0 (by decide) (hT _ w672) (fun _ h9 => h9) rfl d_T_about_30 ?_
  refine lv_if_le (tgt := 38) hx hb d_T_about_33 (by decide) (fun hq9 => absurd hq9 ((by decide : ¬ (1 : Int32) ≤ 0))) (fun _ => ?_)
  refine lv_iconst (v := 0) hx hb d_T_about_36 (by decide) ?_
  exact m_iret hx hb hr hlocks hsz hH (⟨rfl, rfl⟩) d_T_about_37
set_option maxHeartbeats 4000000 in
set_option maxRecDepth 100000 in
theorem c_T_about_z (l : Launch) (g : GG) (t : Nat) (σ : SG) (x w : Int32) (sz : Nat) (h0 : ndI x = 0) (hz : w < 0 ∨ ¬ w ≤ 4) : Met l y_T_about (k_T_about :: TT) { frames := 1, cells := 0, slots := 0, locals := 23 } (Pm g [.ref t, .int x, .int w] sz (tw g t σ)) (Qm g (tw g t σ) (fun r : Int32 => some (.int r)) (fun r M1 => r = 0 ∧ M1 = tw g t (su σ 0 0 2))) 0 0 (mA (tw g t σ) sz) := by
  refine met_of (by decide) (Nat.le_of_ble_eq_true rfl) ?_
  intro pr en s mi below meth co hx hb hr hml hown hlocks hnm hT hsz hP hK ls hl
  have hl : lv_has ls 5 [(0, .ref t), (1, .int x), (2, .int w)] := hl
  have hH := HS.start hP
  refine lv_aload_n hx hb d_T_about_0 rfl (lv_at hl 0 rfl) ?_
  refine lv_iload_n hx hb d_T_about_1 rfl (lv_at hl 1 rfl) ?_
  refine rd_run (c_S (As := [.int x]) (rest := [.ref t]) hx hb hml hl.1 hown hT hK hH.1 (c_T_noDoor l g (tw g t σ) x s.heap.size) kw_T_noDoor w799 w800 w8 hd_T_noDoor rfl rfl ⟨by decide, by decide⟩ rfl rfl (Nat.le_of_ble_eq_true rfl) d_T_about_2 ⟨by decide, by decide⟩) rfl ?_
  refine lv_if_eq (tgt := 12) hx hb d_T_about_5 (by decide) (fun _ => ?_) (fun hq9 => absurd (h0) hq9)
  refine lv_iload_n hx hb d_T_about_12 rfl (lv_at hl 2 rfl) ?_
  refine lv_if_lt (tgt := 21) hx hb d_T_about_13 (by decide) (fun c1 => ?_) (fun c1 => ?_)
  · skip
    refine lv_iconst (v := 2) hx hb d_T_about_21 (by decide) ?_
    refine lv_goto (tgt := 26) hx hb d_T_about_22 (by decide) ?_
    refine m_put (ci := 7) (v := .int 2) (ty := .int) hx hb hT in_T ty_T tk_T nm_T hown hK hH (tw_t) rfl 0 (by decide) (hT _ w672) (fun _ h9 => h9) rfl (by decide +kernel) rfl rfl (Nat.le_of_ble_eq_true rfl) d_T_about_26 (e1 := oT t (su (σ) 0 0 2)) rfl (fun H locs hH hzz => ?_)
    replace hH := two hH
    refine lv_aload_n hx hb d_T_about_29 rfl (lv_at hl 0 rfl) ?_
    refine m_get (ci := 7) (v := .int 2) hx hb hT in_T hown hK hH.1 (tw_t) rfl 0 (by decide) (hT _ w672) (fun _ h9 => h9) rfl d_T_about_30 ?_
    refine lv_if_le (tgt := 38) hx hb d_T_about_33 (by decide) (fun hq9 => absurd hq9 ((by decide : ¬ (2 : Int32) ≤ 0))) (fun _ => ?_)
    refine lv_iconst (v := 0) hx hb d_T_about_36 (by decide) ?_
    exact m_iret hx hb hr hlocks hsz hH (⟨rfl, rfl⟩) d_T_about_37
  · skip
    refine lv_iload_n hx hb d_T_about_16 rfl (lv_at hl 2 rfl) ?_
    refine lv_iconst (v := 4) hx hb d_T_about_17 (by decide) ?_
    refine lv_icmp_le (tgt := 25) hx hb d_T_about_18 (by decide) (fun hq9 => absurd hq9 (hz.elim (fun q => absurd q c1) id)) (fun _ => ?_)
    refine lv_iconst (v := 2) hx hb d_T_about_21 (by decide) ?_
    refine lv_goto (tgt := 26) hx hb d_T_about_22 (by decide) ?_
    refine m_put (ci := 7) (v := .int 2) (ty := .int) hx hb hT in_T ty_T tk_T nm_T hown hK hH (tw_t) rfl 0 (by decide) (hT _ w672) (fun _ h9 => h9) rfl (by decide +kernel) rfl rfl (Nat.le_of_ble_eq_true rfl) d_T_about_26 (e1 := oT t (su (σ) 0 0 2)) rfl (fun H locs hH hzz => ?_)
    replace hH := two hH
    refine lv_aload_n hx hb d_T_about_29 rfl (lv_at hl 0 rfl) ?_
    refine m_get (ci := 7) (v := .int 2) hx hb hT in_T hown hK hH.1 (tw_t) rfl 0 (by decide) (hT _ w672) (fun _ h9 => h9) rfl d_T_about_30 ?_
    refine lv_if_le (tgt := 38) hx hb d_T_about_33 (by decide) (fun hq9 => absurd hq9 ((by decide : ¬ (2 : Int32) ≤ 0))) (fun _ => ?_)
    refine lv_iconst (v := 0) hx hb d_T_about_36 (by decide) ?_
    exact m_iret hx hb hr hlocks hsz hH (⟨rfl, rfl⟩) d_T_about_37
set_option maxHeartbeats 4000000 in
set_option maxRecDepth 100000 in
theorem c_T_about (l : Launch) (g : GG) (t : Nat) (σ : SG) (d : Nat) (w : Int32) (sz : Nat) (h0 : ndI (nI d) = 0) (hd2 : d < 200) (hz1 : ¬ w < 0) (hz2 : w ≤ 4) : Met l y_T_about (k_T_about :: TT) { frames := 1, cells := 0, slots := 0, locals := 23 } (Pm g [.ref t, .int (nI d), .int w] sz (tw g t σ)) (Qm g (tw g t σ) (fun r : Int32 => some (.int r)) (fun r M1 => r = abI σ d w ∧ M1 = tw g t (su σ 0 0 0))) 0 0 (mA (tw g t σ) sz) := by
  refine met_of (by decide) (Nat.le_of_ble_eq_true rfl) ?_
  intro pr en s mi below meth co hx hb hr hml hown hlocks hnm hT hsz hP hK ls hl
  have hl : lv_has ls 5 [(0, .ref t), (1, .int (nI d)), (2, .int w)] := hl
  have hH := HS.start hP
  refine lv_aload_n hx hb d_T_about_0 rfl (lv_at hl 0 rfl) ?_
  refine lv_iload_n hx hb d_T_about_1 rfl (lv_at hl 1 rfl) ?_
  refine rd_run (c_S (As := [.int (nI d)]) (rest := [.ref t]) hx hb hml hl.1 hown hT hK hH.1 (c_T_noDoor l g (tw g t σ) (nI d) s.heap.size) kw_T_noDoor w799 w800 w8 hd_T_noDoor rfl rfl ⟨by decide, by decide⟩ rfl rfl (Nat.le_of_ble_eq_true rfl) d_T_about_2 ⟨by decide, by decide⟩) rfl ?_
  refine lv_if_eq (tgt := 12) hx hb d_T_about_5 (by decide) (fun _ => ?_) (fun hq9 => absurd (h0) hq9)
  refine lv_iload_n hx hb d_T_about_12 rfl (lv_at hl 2 rfl) ?_
  refine lv_if_lt (tgt := 21) hx hb d_T_about_13 (by decide) (fun hq9 => absurd hq9 (hz1)) (fun _ => ?_)
  refine lv_iload_n hx hb d_T_about_16 rfl (lv_at hl 2 rfl) ?_
  refine lv_iconst (v := 4) hx hb d_T_about_17 (by decide) ?_
  refine lv_icmp_le (tgt := 25) hx hb d_T_about_18 (by decide) (fun _ => ?_) (fun hq9 => absurd (hz2) hq9)
  refine lv_iconst (v := 0) hx hb d_T_about_25 (by decide) ?_
  refine m_put (ci := 7) (v := .int 0) (ty := .int) hx hb hT in_T ty_T tk_T nm_T hown hK hH (tw_t) rfl 0 (by decide) (hT _ w672) (fun _ h9 => h9) rfl (by decide +kernel) rfl rfl (Nat.le_of_ble_eq_true rfl) d_T_about_26 (e1 := oT t (su (σ) 0 0 0)) rfl (fun H locs hH hzz => ?_)
  replace hH := two hH
  refine lv_aload_n hx hb d_T_about_29 rfl (lv_at hl 0 rfl) ?_
  refine m_get (ci := 7) (v := .int 0) hx hb hT in_T hown hK hH.1 (tw_t) rfl 0 (by decide) (hT _ w672) (fun _ h9 => h9) rfl d_T_about_30 ?_
  refine lv_if_le (tgt := 38) hx hb d_T_about_33 (by decide) (fun _ => ?_) (fun hq9 => absurd ((by decide : (0 : Int32) ≤ 0)) hq9)
  refine lv_aload_n hx hb d_T_about_38 rfl (lv_at hl 0 rfl) ?_
  refine m_get (ci := 7) (v := .ref (t + 11)) hx hb hT in_T hown hK hH.1 (tw_t) rfl 13 (by decide) (hT _ w685) (fun _ h9 => h9) rfl d_T_about_39 ?_
  refine lv_iload_n hx hb d_T_about_42 rfl (lv_at hl 1 rfl) ?_
  refine m_iald hx hb hK hH.1 0 (tw_11) rfl (j := d) (rfl) (by omega) (by decide) d_T_about_43 ?_
  refine lv_aload_n hx hb d_T_about_44 rfl (lv_at hl 0 rfl) ?_
  refine lv_iload_n hx hb d_T_about_45 rfl (lv_at hl 1 rfl) ?_
  refine rd_run (c_V (As := [.int (nI d)]) (rest := [.int ((σ) 11 (d))]) hx hb hml hl.1 hown hT hK hH.1 (c_T_complete l g t (su σ 0 0 0) d H.size hd2) kw_T_complete w842 w844 selp_T_complete w8 hd_T_complete rfl rfl ⟨by decide, by decide⟩ (tw_t) rfl rfl rfl (Nat.le_of_ble_eq_true rfl) d_T_about_46 ⟨by decide, by decide⟩) rfl ?_
  rw [show (nI (cmp (su σ 0 0 0) d)) = nI (cmp σ d) from by rw [cmp8 (c0_r (by decide))]]
  refine lv_isub hx hb d_T_about_49 ?_
  refine lv_istore_n (lv' := [(3, .int (((σ) 11 (d)) - (nI (cmp σ d)))), (0, .ref t), (1, .int (nI d)), (2, .int w)]) hx hb d_T_about_50 rfl hl (by decide) rfl (fun ls hl => ?_)
  refine lv_aload_n hx hb d_T_about_51 rfl (lv_at hl 1 rfl) ?_
  refine lv_iload_n hx hb d_T_about_52 rfl (lv_at hl 2 rfl) ?_
  refine rd_run (c_V (As := [.int (nI d)]) (rest := []) hx hb hml hl.1 hown hT hK hH.1 (c_T_greatest l g t (su σ 0 0 0) d H.size hd2) kw_T_greatest w814 w816 selp_T_greatest w8 hd_T_greatest rfl rfl ⟨by decide, by decide⟩ (tw_t) rfl rfl rfl (Nat.le_of_ble_eq_true rfl) d_T_about_53 ⟨by decide, by decide⟩) rfl ?_
  rw [show (nI (gre (su σ 0 0 0) d)) = nI (gre σ d) from by rw [gre8 (c0_r (by decide))]]
  refine lv_istore (lv' := [(4, .int (nI (gre σ d))), (3, .int (((σ) 11 (d)) - (nI (cmp σ d)))), (0, .ref t), (1, .int (nI d)), (2, .int w)]) hx hb d_T_about_56 hl (by decide) rfl (fun ls hl => ?_)
  refine lv_iload_n hx hb d_T_about_58 rfl (lv_at hl 4 rfl) ?_
  refine lv_if_ne (tgt := 70) hx hb d_T_about_59 (by decide) (fun c1 => ?_) (fun c1 => ?_)
  · skip
    refine lv_iload_n hx hb d_T_about_70 rfl (lv_at hl 4 rfl) ?_
    refine lv_iconst (v := 1) hx hb d_T_about_71 (by decide) ?_
    refine lv_icmp_ne (tgt := 100) hx hb d_T_about_72 (by decide) (fun c2 => ?_) (fun c2 => ?_)
    · skip
      refine lv_iload_n hx hb d_T_about_100 rfl (lv_at hl 4 rfl) ?_
      refine lv_iconst (v := 2) hx hb d_T_about_101 (by decide) ?_
      refine lv_icmp_ne (tgt := 117) hx hb d_T_about_102 (by decide) (fun c3 => ?_) (fun c3 => ?_)
      · skip
        refine lv_iload_n hx hb d_T_about_117 rfl (lv_at hl 4 rfl) ?_
        refine lv_iconst (v := 3) hx hb d_T_about_118 (by decide) ?_
        refine lv_icmp_ne (tgt := 130) hx hb d_T_about_119 (by decide) (fun c5 => ?_) (fun c5 => ?_)
        · skip
          refine lv_aload_n hx hb d_T_about_130 rfl (lv_at hl 2 rfl) ?_
          refine lv_iload_n hx hb d_T_about_131 rfl (lv_at hl 3 rfl) ?_
          refine rd_run (c_V (As := [.int (nI d)]) (rest := []) hx hb hml hl.1 hown hT hK hH.1 (c_T_runs l g t (su σ 0 0 0) d H.size hd2) kw_T_runs w850 w852 selp_T_runs w8 hd_T_runs rfl rfl ⟨by decide, by decide⟩ (tw_t) rfl rfl rfl (Nat.le_of_ble_eq_true rfl) d_T_about_132 ⟨by decide, by decide⟩) rfl ?_
          rw [show (nI (rnF (su σ 0 0 0) d 3000)) = nI (rnF σ d 3000) from by rw [rn8 (c0_r (by decide))]]
          exact m_iret hx hb hr hlocks hsz hH (⟨by first | (unfold abI; rw [if_neg c1]; done) | (unfold abI; rw [if_neg c1]; rfl) | (unfold abI; rw [if_pos c1, if_neg c2, if_pos c4]; done) | (unfold abI; rw [if_pos c1, if_neg c2, if_pos c4]; rfl) | (unfold abI; rw [if_pos c1, if_neg c2, if_neg c4]; done) | (unfold abI; rw [if_pos c1, if_neg c2, if_neg c4]; rfl) | (unfold abI; rw [if_pos c1, if_pos c2, if_neg c3, if_pos c4]; done) | (unfold abI; rw [if_pos c1, if_pos c2, if_neg c3, if_pos c4]; rfl) | (unfold abI; rw [if_pos c1, if_pos c2, if_neg c3, if_neg c4]; done) | (unfold abI; rw [if_pos c1, if_pos c2, if_neg c3, if_neg c4]; rfl) | (unfold abI; rw [if_pos c1, if_pos c2, if_pos c3, if_neg c5]; done) | (unfold abI; rw [if_pos c1, if_pos c2, if_pos c3, if_neg c5]; rfl) | (unfold abI; rw [if_pos c1, if_pos c2, if_pos c3, if_pos c5]; done) | (unfold abI; rw [if_pos c1, if_pos c2, if_pos c3, if_pos c5]; rfl), rfl⟩) d_T_about_135
        · skip
          have c5 : ¬ ¬ w = 3 := fun q => q c5
          refine lv_aload_n hx hb d_T_about_122 rfl (lv_at hl 2 rfl) ?_
          refine lv_iload_n hx hb d_T_about_123 rfl (lv_at hl 3 rfl) ?_
          refine rd_run (c_V (As := [.int (nI d)]) (rest := []) hx hb hml hl.1 hown hT hK hH.1 (c_T_marks l g t (su σ 0 0 0) d H.size hd2) kw_T_marks w846 w848 selp_T_marks w8 hd_T_marks rfl rfl ⟨by decide, by decide⟩ (tw_t) rfl rfl rfl (Nat.le_of_ble_eq_true rfl) d_T_about_124 ⟨by decide, by decide⟩) rfl ?_
          rw [show (nI (mkF (su σ 0 0 0) d 3000)) = nI (mkF σ d 3000) from by rw [mk8 (c0_r (by decide))]]
          refine lv_goto (tgt := 135) hx hb d_T_about_127 (by decide) ?_
          exact m_iret hx hb hr hlocks hsz hH (⟨by first | (unfold abI; rw [if_neg c1]; done) | (unfold abI; rw [if_neg c1]; rfl) | (unfold abI; rw [if_pos c1, if_neg c2, if_pos c4]; done) | (unfold abI; rw [if_pos c1, if_neg c2, if_pos c4]; rfl) | (unfold abI; rw [if_pos c1, if_neg c2, if_neg c4]; done) | (unfold abI; rw [if_pos c1, if_neg c2, if_neg c4]; rfl) | (unfold abI; rw [if_pos c1, if_pos c2, if_neg c3, if_pos c4]; done) | (unfold abI; rw [if_pos c1, if_pos c2, if_neg c3, if_pos c4]; rfl) | (unfold abI; rw [if_pos c1, if_pos c2, if_neg c3, if_neg c4]; done) | (unfold abI; rw [if_pos c1, if_pos c2, if_neg c3, if_neg c4]; rfl) | (unfold abI; rw [if_pos c1, if_pos c2, if_pos c3, if_neg c5]; done) | (unfold abI; rw [if_pos c1, if_pos c2, if_pos c3, if_neg c5]; rfl) | (unfold abI; rw [if_pos c1, if_pos c2, if_pos c3, if_pos c5]; done) | (unfold abI; rw [if_pos c1, if_pos c2, if_pos c3, if_pos c5]; rfl), rfl⟩) d_T_about_135
      · skip
        have c3 : ¬ ¬ w = 2 := fun q => q c3
        refine lv_iload_n hx hb d_T_about_105 rfl (lv_at hl 1 rfl) ?_
        refine lv_if_le (tgt := 113) hx hb d_T_about_106 (by decide) (fun c4 => ?_) (fun c4 => ?_)
        · skip
          refine lv_iconst (v := 0) hx hb d_T_about_113 (by decide) ?_
          refine lv_goto (tgt := 135) hx hb d_T_about_114 (by decide) ?_
          exact m_iret hx hb hr hlocks hsz hH (⟨by first | (unfold abI; rw [if_neg c1]; done) | (unfold abI; rw [if_neg c1]; rfl) | (unfold abI; rw [if_pos c1, if_neg c2, if_pos c4]; done) | (unfold abI; rw [if_pos c1, if_neg c2, if_pos c4]; rfl) | (unfold abI; rw [if_pos c1, if_neg c2, if_neg c4]; done) | (unfold abI; rw [if_pos c1, if_neg c2, if_neg c4]; rfl) | (unfold abI; rw [if_pos c1, if_pos c2, if_neg c3, if_pos c4]; done) | (unfold abI; rw [if_pos c1, if_pos c2, if_neg c3, if_pos c4]; rfl) | (unfold abI; rw [if_pos c1, if_pos c2, if_neg c3, if_neg c4]; done) | (unfold abI; rw [if_pos c1, if_pos c2, if_neg c3, if_neg c4]; rfl) | (unfold abI; rw [if_pos c1, if_pos c2, if_pos c3, if_neg c5]; done) | (unfold abI; rw [if_pos c1, if_pos c2, if_pos c3, if_neg c5]; rfl) | (unfold abI; rw [if_pos c1, if_pos c2, if_pos c3, if_pos c5]; done) | (unfold abI; rw [if_pos c1, if_pos c2, if_pos c3, if_pos c5]; rfl), rfl⟩) d_T_about_135
        · skip
          refine lv_iload_n hx hb d_T_about_109 rfl (lv_at hl 1 rfl) ?_
          refine lv_goto (tgt := 135) hx hb d_T_about_110 (by decide) ?_
          exact m_iret hx hb hr hlocks hsz hH (⟨by first | (unfold abI; rw [if_neg c1]; done) | (unfold abI; rw [if_neg c1]; rfl) | (unfold abI; rw [if_pos c1, if_neg c2, if_pos c4]; done) | (unfold abI; rw [if_pos c1, if_neg c2, if_pos c4]; rfl) | (unfold abI; rw [if_pos c1, if_neg c2, if_neg c4]; done) | (unfold abI; rw [if_pos c1, if_neg c2, if_neg c4]; rfl) | (unfold abI; rw [if_pos c1, if_pos c2, if_neg c3, if_pos c4]; done) | (unfold abI; rw [if_pos c1, if_pos c2, if_neg c3, if_pos c4]; rfl) | (unfold abI; rw [if_pos c1, if_pos c2, if_neg c3, if_neg c4]; done) | (unfold abI; rw [if_pos c1, if_pos c2, if_neg c3, if_neg c4]; rfl) | (unfold abI; rw [if_pos c1, if_pos c2, if_pos c3, if_neg c5]; done) | (unfold abI; rw [if_pos c1, if_pos c2, if_pos c3, if_neg c5]; rfl) | (unfold abI; rw [if_pos c1, if_pos c2, if_pos c3, if_pos c5]; done) | (unfold abI; rw [if_pos c1, if_pos c2, if_pos c3, if_pos c5]; rfl), rfl⟩) d_T_about_135
    · skip
      have c2 : ¬ ¬ w = 1 := fun q => q c2
      refine lv_iload hx hb d_T_about_75 (lv_at hl 0 rfl) ?_
      refine lv_aload_n hx hb d_T_about_77 rfl (lv_at hl 2 rfl) ?_
      refine m_get (ci := 7) (v := .ref (t + 11)) hx hb hT in_T hown hK hH.1 (tw_t) rfl 13 (by decide) (hT _ w685) (fun _ h9 => h9) rfl d_T_about_78 ?_
      refine lv_iload_n hx hb d_T_about_81 rfl (lv_at hl 3 rfl) ?_
      refine m_iald hx hb hK hH.1 0 (tw_11) rfl (j := d) (rfl) (by omega) (by decide) d_T_about_82 ?_
      refine lv_icmp_le (tgt := 91) hx hb d_T_about_83 (by decide) (fun c4 => ?_) (fun c4 => ?_)
      · skip
        have c4 : nI (gre σ d) ≤ σ 11 d := c4
        refine lv_aload_n hx hb d_T_about_91 rfl (lv_at hl 2 rfl) ?_
        refine m_get (ci := 7) (v := .ref (t + 11)) hx hb hT in_T hown hK hH.1 (tw_t) rfl 13 (by decide) (hT _ w685) (fun _ h9 => h9) rfl d_T_about_92 ?_
        refine lv_iload_n hx hb d_T_about_95 rfl (lv_at hl 3 rfl) ?_
        refine m_iald hx hb hK hH.1 0 (tw_11) rfl (j := d) (rfl) (by omega) (by decide) d_T_about_96 ?_
        refine lv_goto (tgt := 135) hx hb d_T_about_97 (by decide) ?_
        exact m_iret hx hb hr hlocks hsz hH (⟨by first | (unfold abI; rw [if_neg c1]; done) | (unfold abI; rw [if_neg c1]; rfl) | (unfold abI; rw [if_pos c1, if_neg c2, if_pos c4]; done) | (unfold abI; rw [if_pos c1, if_neg c2, if_pos c4]; rfl) | (unfold abI; rw [if_pos c1, if_neg c2, if_neg c4]; done) | (unfold abI; rw [if_pos c1, if_neg c2, if_neg c4]; rfl) | (unfold abI; rw [if_pos c1, if_pos c2, if_neg c3, if_pos c4]; done) | (unfold abI; rw [if_pos c1, if_pos c2, if_neg c3, if_pos c4]; rfl) | (unfold abI; rw [if_pos c1, if_pos c2, if_neg c3, if_neg c4]; done) | (unfold abI; rw [if_pos c1, if_pos c2, if_neg c3, if_neg c4]; rfl) | (unfold abI; rw [if_pos c1, if_pos c2, if_pos c3, if_neg c5]; done) | (unfold abI; rw [if_pos c1, if_pos c2, if_pos c3, if_neg c5]; rfl) | (unfold abI; rw [if_pos c1, if_pos c2, if_pos c3, if_pos c5]; done) | (unfold abI; rw [if_pos c1, if_pos c2, if_pos c3, if_pos c5]; rfl), rfl⟩) d_T_about_135
      · skip
        have c4 : ¬ nI (gre σ d) ≤ σ 11 d := c4
        refine lv_iload hx hb d_T_about_86 (lv_at hl 0 rfl) ?_
        refine lv_goto (tgt := 135) hx hb d_T_about_88 (by decide) ?_
        exact m_iret hx hb hr hlocks hsz hH (⟨by first | (unfold abI; rw [if_neg c1]; done) | (unfold abI; rw [if_neg c1]; rfl) | (unfold abI; rw [if_pos c1, if_neg c2, if_pos c4]; done) | (unfold abI; rw [if_pos c1, if_neg c2, if_pos c4]; rfl) | (unfold abI; rw [if_pos c1, if_neg c2, if_neg c4]; done) | (unfold abI; rw [if_pos c1, if_neg c2, if_neg c4]; rfl) | (unfold abI; rw [if_pos c1, if_pos c2, if_neg c3, if_pos c4]; done) | (unfold abI; rw [if_pos c1, if_pos c2, if_neg c3, if_pos c4]; rfl) | (unfold abI; rw [if_pos c1, if_pos c2, if_neg c3, if_neg c4]; done) | (unfold abI; rw [if_pos c1, if_pos c2, if_neg c3, if_neg c4]; rfl) | (unfold abI; rw [if_pos c1, if_pos c2, if_pos c3, if_neg c5]; done) | (unfold abI; rw [if_pos c1, if_pos c2, if_pos c3, if_neg c5]; rfl) | (unfold abI; rw [if_pos c1, if_pos c2, if_pos c3, if_pos c5]; done) | (unfold abI; rw [if_pos c1, if_pos c2, if_pos c3, if_pos c5]; rfl), rfl⟩) d_T_about_135
  · skip
    have c1 : ¬ ¬ w = 0 := fun q => q c1
    refine lv_aload_n hx hb d_T_about_62 rfl (lv_at hl 2 rfl) ?_
    refine lv_iload_n hx hb d_T_about_63 rfl (lv_at hl 3 rfl) ?_
    refine rd_run (c_V (As := [.int (nI d)]) (rest := []) hx hb hml hl.1 hown hT hK hH.1 (c_T_complete l g t (su σ 0 0 0) d H.size hd2) kw_T_complete w842 w844 selp_T_complete w8 hd_T_complete rfl rfl ⟨by decide, by decide⟩ (tw_t) rfl rfl rfl (Nat.le_of_ble_eq_true rfl) d_T_about_64 ⟨by decide, by decide⟩) rfl ?_
    rw [show (nI (cmp (su σ 0 0 0) d)) = nI (cmp σ d) from by rw [cmp8 (c0_r (by decide))]]
    refine lv_goto (tgt := 135) hx hb d_T_about_67 (by decide) ?_
    exact m_iret hx hb hr hlocks hsz hH (⟨by first | (unfold abI; rw [if_neg c1]; done) | (unfold abI; rw [if_neg c1]; rfl) | (unfold abI; rw [if_pos c1, if_neg c2, if_pos c4]; done) | (unfold abI; rw [if_pos c1, if_neg c2, if_pos c4]; rfl) | (unfold abI; rw [if_pos c1, if_neg c2, if_neg c4]; done) | (unfold abI; rw [if_pos c1, if_neg c2, if_neg c4]; rfl) | (unfold abI; rw [if_pos c1, if_pos c2, if_neg c3, if_pos c4]; done) | (unfold abI; rw [if_pos c1, if_pos c2, if_neg c3, if_pos c4]; rfl) | (unfold abI; rw [if_pos c1, if_pos c2, if_neg c3, if_neg c4]; done) | (unfold abI; rw [if_pos c1, if_pos c2, if_neg c3, if_neg c4]; rfl) | (unfold abI; rw [if_pos c1, if_pos c2, if_pos c3, if_neg c5]; done) | (unfold abI; rw [if_pos c1, if_pos c2, if_pos c3, if_neg c5]; rfl) | (unfold abI; rw [if_pos c1, if_pos c2, if_pos c3, if_pos c5]; done) | (unfold abI; rw [if_pos c1, if_pos c2, if_pos c3, if_pos c5]; rfl), rfl⟩) d_T_about_135
set_option maxHeartbeats 4000000 in
set_option maxRecDepth 100000 in
theorem c_T_refuses_b (l : Launch) (g : GG) (t : Nat) (σ : SG) (x y : Int32) (sz : Nat) (hb1 : ndI x = 1 ∨ ncI σ y = 1) : Met l y_T_refuses (k_T_refuses :: TT) { frames := 1, cells := 0, slots := 0, locals := 22 } (Pm g [.ref t, .int x, .int y] sz (tw g t σ)) (Qm g (tw g t σ) (fun r : Int32 => some (.int r)) (fun r M1 => r = 0 ∧ M1 = tw g t (su σ 0 0 1))) 0 0 (mA (tw g t σ) sz) := by
  refine met_of (by decide) (Nat.le_of_ble_eq_true rfl) ?_
  intro pr en s mi below meth co hx hb hr hml hown hlocks hnm hT hsz hP hK ls hl
  have hl : lv_has ls 3 [(0, .ref t), (1, .int x), (2, .int y)] := hl
  have hH := HS.start hP
  refine lv_aload_n hx hb d_T_refuses_0 rfl (lv_at hl 0 rfl) ?_
  refine lv_iload_n hx hb d_T_refuses_1 rfl (lv_at hl 1 rfl) ?_
  refine rd_run (c_S (As := [.int x]) (rest := [.ref t]) hx hb hml hl.1 hown hT hK hH.1 (c_T_noDoor l g (tw g t σ) x s.heap.size) kw_T_noDoor w799 w800 w8 hd_T_noDoor rfl rfl ⟨by decide, by decide⟩ rfl rfl (Nat.le_of_ble_eq_true rfl) d_T_refuses_2 ⟨by decide, by decide⟩) rfl ?_
  refine lv_if_ne (tgt := 16) hx hb d_T_refuses_5 (by decide) (fun c1 => ?_) (fun c1 => ?_)
  · skip
    refine lv_iconst (v := 1) hx hb d_T_refuses_16 (by decide) ?_
    refine lv_goto (tgt := 21) hx hb d_T_refuses_17 (by decide) ?_
    refine m_put (ci := 7) (v := .int 1) (ty := .int) hx hb hT in_T ty_T tk_T nm_T hown hK hH (tw_t) rfl 0 (by decide) (hT _ w672) (fun _ h9 => h9) rfl (by decide +kernel) rfl rfl (Nat.le_of_ble_eq_true rfl) d_T_refuses_21 (e1 := oT t (su (σ) 0 0 1)) rfl (fun H locs hH hzz => ?_)
    replace hH := two hH
    refine lv_aload_n hx hb d_T_refuses_24 rfl (lv_at hl 0 rfl) ?_
    refine m_get (ci := 7) (v := .int 1) hx hb hT in_T hown hK hH.1 (tw_t) rfl 0 (by decide) (hT _ w672) (fun _ h9 => h9) rfl d_T_refuses_25 ?_
    refine lv_if_ne (tgt := 44) hx hb d_T_refuses_28 (by decide) (fun _ => ?_) (fun hq9 => absurd hq9 ((by decide : ¬ (1 : Int32) = 0)))
    refine lv_iconst (v := 0) hx hb d_T_refuses_44 (by decide) ?_
    exact m_zret hx hb hr hlocks hsz hH (by first | exact Or.inl rfl | exact Or.inr rfl | assumption) (⟨rfl, rfl⟩) d_T_refuses_45
  · skip
    refine lv_aload_n hx hb d_T_refuses_8 rfl (lv_at hl 0 rfl) ?_
    refine lv_iload_n hx hb d_T_refuses_9 rfl (lv_at hl 2 rfl) ?_
    refine rd_run (c_V (As := [.int y]) (rest := [.ref t]) hx hb hml hl.1 hown hT hK hH.1 (c_T_noCard l g t σ y s.heap.size) kw_T_noCard w743 w745 selp_T_noCard w8 hd_T_noCard rfl rfl ⟨by decide, by decide⟩ (tw_t) rfl rfl rfl (Nat.le_of_ble_eq_true rfl) d_T_refuses_10 ⟨by decide, by decide⟩) rfl ?_
    refine lv_if_eq (tgt := 20) hx hb d_T_refuses_13 (by decide) (fun hq9 => absurd hq9 (by rcases hb1 with q | q; exact absurd c1 (by rw [q]; decide); rw [q]; decide)) (fun _ => ?_)
    refine lv_iconst (v := 1) hx hb d_T_refuses_16 (by decide) ?_
    refine lv_goto (tgt := 21) hx hb d_T_refuses_17 (by decide) ?_
    refine m_put (ci := 7) (v := .int 1) (ty := .int) hx hb hT in_T ty_T tk_T nm_T hown hK hH (tw_t) rfl 0 (by decide) (hT _ w672) (fun _ h9 => h9) rfl (by decide +kernel) rfl rfl (Nat.le_of_ble_eq_true rfl) d_T_refuses_21 (e1 := oT t (su (σ) 0 0 1)) rfl (fun H locs hH hzz => ?_)
    replace hH := two hH
    refine lv_aload_n hx hb d_T_refuses_24 rfl (lv_at hl 0 rfl) ?_
    refine m_get (ci := 7) (v := .int 1) hx hb hT in_T hown hK hH.1 (tw_t) rfl 0 (by decide) (hT _ w672) (fun _ h9 => h9) rfl d_T_refuses_25 ?_
    refine lv_if_ne (tgt := 44) hx hb d_T_refuses_28 (by decide) (fun _ => ?_) (fun hq9 => absurd hq9 ((by decide : ¬ (1 : Int32) = 0)))
    refine lv_iconst (v := 0) hx hb d_T_refuses_44 (by decide) ?_
    exact m_zret hx hb hr hlocks hsz hH (by first | exact Or.inl rfl | exact Or.inr rfl | assumption) (⟨rfl, rfl⟩) d_T_refuses_45
set_option maxHeartbeats 4000000 in
set_option maxRecDepth 100000 in
theorem c_T_refuses (l : Launch) (g : GG) (t : Nat) (σ : SG) (d c e2 : Nat) (sz : Nat) (h0 : ndI (nI d) = 0) (h1 : ncI σ (nI c) = 0) (hd2 : d < 200) (hc : c < 4000) (he : σ 6 c = nI e2) (he2 : e2 ≤ 3000) : Met l y_T_refuses (k_T_refuses :: TT) { frames := 1, cells := 0, slots := 0, locals := 22 } (Pm g [.ref t, .int (nI d), .int (nI c)] sz (tw g t σ)) (Qm g (tw g t σ) (fun r : Int32 => some (.int r)) (fun r M1 => r = rvI σ d e2 ∧ M1 = tw g t (su σ 0 0 0))) 0 0 (mA (tw g t σ) sz) := by
  refine met_of (by decide) (Nat.le_of_ble_eq_true rfl) ?_
  intro pr en s mi below meth co hx hb hr hml hown hlocks hnm hT hsz hP hK ls hl
  have hl : lv_has ls 3 [(0, .ref t), (1, .int (nI d)), (2, .int (nI c))] := hl
  have hH := HS.start hP
  refine lv_aload_n hx hb d_T_refuses_0 rfl (lv_at hl 0 rfl) ?_
  refine lv_iload_n hx hb d_T_refuses_1 rfl (lv_at hl 1 rfl) ?_
  refine rd_run (c_S (As := [.int (nI d)]) (rest := [.ref t]) hx hb hml hl.1 hown hT hK hH.1 (c_T_noDoor l g (tw g t σ) (nI d) s.heap.size) kw_T_noDoor w799 w800 w8 hd_T_noDoor rfl rfl ⟨by decide, by decide⟩ rfl rfl (Nat.le_of_ble_eq_true rfl) d_T_refuses_2 ⟨by decide, by decide⟩) rfl ?_
  refine lv_if_ne (tgt := 16) hx hb d_T_refuses_5 (by decide) (fun hq9 => absurd (h0) hq9) (fun _ => ?_)
  refine lv_aload_n hx hb d_T_refuses_8 rfl (lv_at hl 0 rfl) ?_
  refine lv_iload_n hx hb d_T_refuses_9 rfl (lv_at hl 2 rfl) ?_
  refine rd_run (c_V (As := [.int (nI c)]) (rest := [.ref t]) hx hb hml hl.1 hown hT hK hH.1 (c_T_noCard l g t σ (nI c) s.heap.size) kw_T_noCard w743 w745 selp_T_noCard w8 hd_T_noCard rfl rfl ⟨by decide, by decide⟩ (tw_t) rfl rfl rfl (Nat.le_of_ble_eq_true rfl) d_T_refuses_10 ⟨by decide, by decide⟩) rfl ?_
  refine lv_if_eq (tgt := 20) hx hb d_T_refuses_13 (by decide) (fun _ => ?_) (fun hq9 => absurd (h1) hq9)
  refine lv_iconst (v := 0) hx hb d_T_refuses_20 (by decide) ?_
  refine m_put (ci := 7) (v := .int 0) (ty := .int) hx hb hT in_T ty_T tk_T nm_T hown hK hH (tw_t) rfl 0 (by decide) (hT _ w672) (fun _ h9 => h9) rfl (by decide +kernel) rfl rfl (Nat.le_of_ble_eq_true rfl) d_T_refuses_21 (e1 := oT t (su (σ) 0 0 0)) rfl (fun H locs hH hzz => ?_)
  replace hH := two hH
  refine lv_aload_n hx hb d_T_refuses_24 rfl (lv_at hl 0 rfl) ?_
  refine m_get (ci := 7) (v := .int 0) hx hb hT in_T hown hK hH.1 (tw_t) rfl 0 (by decide) (hT _ w672) (fun _ h9 => h9) rfl d_T_refuses_25 ?_
  refine lv_if_ne (tgt := 44) hx hb d_T_refuses_28 (by decide) (fun hq9 => absurd ((rfl : (0 : Int32) = 0)) hq9) (fun _ => ?_)
  refine lv_aload_n hx hb d_T_refuses_31 rfl (lv_at hl 0 rfl) ?_
  refine lv_iload_n hx hb d_T_refuses_32 rfl (lv_at hl 1 rfl) ?_
  refine lv_iload_n hx hb d_T_refuses_33 rfl (lv_at hl 2 rfl) ?_
  refine rd_run (c_V (As := [.int (nI d), .int (nI c)]) (rest := []) hx hb hml hl.1 hown hT hK hH.1 (c_T_revokedAt l g t (su σ 0 0 0) d c e2 H.size hd2 hc ((congrFun (c0_r (by decide)) c).trans he) he2) kw_T_revokedAt w810 w812 selp_T_revokedAt w8 hd_T_revokedAt rfl rfl ⟨by decide, by decide⟩ (tw_t) rfl rfl rfl (Nat.le_of_ble_eq_true rfl) d_T_refuses_34 ⟨by decide, by decide⟩) rfl ?_
  rw [show (rvI (su σ 0 0 0) d e2) = rvI σ d e2 from by unfold rvI; rw [hs8 (c0_r (by decide))]]
  refine lv_if_eq (tgt := 44) hx hb d_T_refuses_37 (by decide) (fun c1 => ?_) (fun c1 => ?_)
  · skip
    refine lv_iconst (v := 0) hx hb d_T_refuses_44 (by decide) ?_
    exact m_zret hx hb hr hlocks hsz hH (by first | exact Or.inl rfl | exact Or.inr rfl | assumption) (⟨by first | exact c1.symm | (rcases rvI_z σ d e2 with q | q; exact absurd q c1; exact q.symm), rfl⟩) d_T_refuses_45
  · skip
    refine lv_iconst (v := 1) hx hb d_T_refuses_40 (by decide) ?_
    refine lv_goto (tgt := 45) hx hb d_T_refuses_41 (by decide) ?_
    exact m_zret hx hb hr hlocks hsz hH (by first | exact Or.inl rfl | exact Or.inr rfl | assumption) (⟨by first | exact c1.symm | (rcases rvI_z σ d e2 with q | q; exact absurd q c1; exact q.symm), rfl⟩) d_T_refuses_45
set_option maxHeartbeats 4000000 in
set_option maxRecDepth 100000 in
theorem c_T_loseBattery_b (l : Launch) (g : GG) (t : Nat) (σ : SG) (x : Int32) (sz : Nat) (hb1 : ndI x = 1) : Met l y_T_loseBattery (k_T_loseBattery :: TT) { frames := 1, cells := 0, slots := 0, locals := 20 } (Pm g [.ref t, .int x] sz (tw g t σ)) (Qm g (tw g t σ) (fun _ : Unit => none) (fun _ M1 => M1 = tw g t (su σ 0 0 1))) 0 0 (mA (tw g t σ) sz) := by
  refine met_of (by decide) (Nat.le_of_ble_eq_true rfl) ?_
  intro pr en s mi below meth co hx hb hr hml hown hlocks hnm hT hsz hP hK ls hl
  have hl : lv_has ls 2 [(0, .ref t), (1, .int x)] := hl
  have hH := HS.start hP
  refine lv_aload_n hx hb d_T_loseBattery_0 rfl (lv_at hl 0 rfl) ?_
  refine lv_iload_n hx hb d_T_loseBattery_1 rfl (lv_at hl 1 rfl) ?_
  refine rd_run (c_S (As := [.int x]) (rest := [.ref t]) hx hb hml hl.1 hown hT hK hH.1 (c_T_noDoor l g (tw g t σ) x s.heap.size) kw_T_noDoor w799 w800 w8 hd_T_noDoor rfl rfl ⟨by decide, by decide⟩ rfl rfl (Nat.le_of_ble_eq_true rfl) d_T_loseBattery_2 ⟨by decide, by decide⟩) rfl ?_
  refine lv_if_eq (tgt := 12) hx hb d_T_loseBattery_5 (by decide) (fun hq9 => absurd hq9 (by rw [hb1]; decide)) (fun _ => ?_)
  refine lv_iconst (v := 1) hx hb d_T_loseBattery_8 (by decide) ?_
  refine lv_goto (tgt := 13) hx hb d_T_loseBattery_9 (by decide) ?_
  refine m_put (ci := 7) (v := .int 1) (ty := .int) hx hb hT in_T ty_T tk_T nm_T hown hK hH (tw_t) rfl 0 (by decide) (hT _ w672) (fun _ h9 => h9) rfl (by decide +kernel) rfl rfl (Nat.le_of_ble_eq_true rfl) d_T_loseBattery_13 (e1 := oT t (su (σ) 0 0 1)) rfl (fun H locs hH hzz => ?_)
  replace hH := two hH
  refine lv_aload_n hx hb d_T_loseBattery_16 rfl (lv_at hl 0 rfl) ?_
  refine m_get (ci := 7) (v := .int 1) hx hb hT in_T hown hK hH.1 (tw_t) rfl 0 (by decide) (hT _ w672) (fun _ h9 => h9) rfl d_T_loseBattery_17 ?_
  refine lv_if_ne (tgt := 30) hx hb d_T_loseBattery_20 (by decide) (fun _ => ?_) (fun hq9 => absurd hq9 ((by decide : ¬ (1 : Int32) = 0)))
  exact m_vret hx hb hr hlocks hsz hH (rfl) d_T_loseBattery_30
set_option maxHeartbeats 4000000 in
set_option maxRecDepth 100000 in
theorem c_T_loseBattery (l : Launch) (g : GG) (t : Nat) (σ : SG) (d : Nat) (sz : Nat) (h0 : ndI (nI d) = 0) (hd2 : d < 200) : Met l y_T_loseBattery (k_T_loseBattery :: TT) { frames := 1, cells := 0, slots := 0, locals := 20 } (Pm g [.ref t, .int (nI d)] sz (tw g t σ)) (Qm g (tw g t σ) (fun _ : Unit => none) (fun _ M1 => M1 = tw g t (su (su σ 0 0 0) 11 d 0))) 0 0 (mA (tw g t σ) sz) := by
  refine met_of (by decide) (Nat.le_of_ble_eq_true rfl) ?_
  intro pr en s mi below meth co hx hb hr hml hown hlocks hnm hT hsz hP hK ls hl
  have hl : lv_has ls 2 [(0, .ref t), (1, .int (nI d))] := hl
  have hH := HS.start hP
  refine lv_aload_n hx hb d_T_loseBattery_0 rfl (lv_at hl 0 rfl) ?_
  refine lv_iload_n hx hb d_T_loseBattery_1 rfl (lv_at hl 1 rfl) ?_
  refine rd_run (c_S (As := [.int (nI d)]) (rest := [.ref t]) hx hb hml hl.1 hown hT hK hH.1 (c_T_noDoor l g (tw g t σ) (nI d) s.heap.size) kw_T_noDoor w799 w800 w8 hd_T_noDoor rfl rfl ⟨by decide, by decide⟩ rfl rfl (Nat.le_of_ble_eq_true rfl) d_T_loseBattery_2 ⟨by decide, by decide⟩) rfl ?_
  refine lv_if_eq (tgt := 12) hx hb d_T_loseBattery_5 (by decide) (fun _ => ?_) (fun hq9 => absurd (h0) hq9)
  refine lv_iconst (v := 0) hx hb d_T_loseBattery_12 (by decide) ?_
  refine m_put (ci := 7) (v := .int 0) (ty := .int) hx hb hT in_T ty_T tk_T nm_T hown hK hH (tw_t) rfl 0 (by decide) (hT _ w672) (fun _ h9 => h9) rfl (by decide +kernel) rfl rfl (Nat.le_of_ble_eq_true rfl) d_T_loseBattery_13 (e1 := oT t (su (σ) 0 0 0)) rfl (fun H locs hH hzz => ?_)
  replace hH := two hH
  refine lv_aload_n hx hb d_T_loseBattery_16 rfl (lv_at hl 0 rfl) ?_
  refine m_get (ci := 7) (v := .int 0) hx hb hT in_T hown hK hH.1 (tw_t) rfl 0 (by decide) (hT _ w672) (fun _ h9 => h9) rfl d_T_loseBattery_17 ?_
  refine lv_if_ne (tgt := 30) hx hb d_T_loseBattery_20 (by decide) (fun hq9 => absurd ((rfl : (0 : Int32) = 0)) hq9) (fun _ => ?_)
  refine lv_aload_n hx hb d_T_loseBattery_23 rfl (lv_at hl 0 rfl) ?_
  refine m_get (ci := 7) (v := .ref (t + 11)) hx hb hT in_T hown hK hH.1 (tw_t) rfl 13 (by decide) (hT _ w685) (fun _ h9 => h9) rfl d_T_loseBattery_24 ?_
  refine lv_iload_n hx hb d_T_loseBattery_27 rfl (lv_at hl 1 rfl) ?_
  refine lv_iconst (v := 0) hx hb d_T_loseBattery_28 (by decide) ?_
  refine m_iast hx hb hK hH 0 (tw_11) rfl (j := d) (rfl) (by omega) (by decide) d_T_loseBattery_29 (fun H locs hH hzz => ?_)
  replace hH := tws_11 hH
  exact m_vret hx hb hr hlocks hsz hH (rfl) d_T_loseBattery_30
set_option maxHeartbeats 4000000 in
set_option maxRecDepth 100000 in
theorem c_T_visit_b (l : Launch) (g : GG) (t : Nat) (σ : SG) (i x y day : Int32) (sz : Nat) (hb1 : (i < 0 ∨ 199 < i) ∨ ncI σ x = 1 ∨ ndI y = 1) : Met l y_T_visit (k_T_visit :: TT) { frames := 1, cells := 0, slots := 0, locals := 21 } (Pm g [.ref t, .int i, .int x, .int y, .int day] sz (tw g t σ)) (Qm g (tw g t σ) (fun _ : Unit => none) (fun _ M1 => M1 = tw g t (su σ 0 0 1))) 0 0 (mA (tw g t σ) sz) := by
  refine met_of (by decide) (Nat.le_of_ble_eq_true rfl) ?_
  intro pr en s mi below meth co hx hb hr hml hown hlocks hnm hT hsz hP hK ls hl
  have hl : lv_has ls 5 [(0, .ref t), (1, .int i), (2, .int x), (3, .int y), (4, .int day)] := hl
  have hH := HS.start hP
  refine lv_aload_n hx hb d_T_visit_0 rfl (lv_at hl 0 rfl) ?_
  refine lv_iload_n hx hb d_T_visit_1 rfl (lv_at hl 1 rfl) ?_
  refine lv_if_lt (tgt := 27) hx hb d_T_visit_2 (by decide) (fun c1 => ?_) (fun c1 => ?_)
  · skip
    refine lv_iconst (v := 1) hx hb d_T_visit_27 (by decide) ?_
    refine lv_goto (tgt := 32) hx hb d_T_visit_28 (by decide) ?_
    refine m_put (ci := 7) (v := .int 1) (ty := .int) hx hb hT in_T ty_T tk_T nm_T hown hK hH (tw_t) rfl 0 (by decide) (hT _ w672) (fun _ h9 => h9) rfl (by decide +kernel) rfl rfl (Nat.le_of_ble_eq_true rfl) d_T_visit_32 (e1 := oT t (su (σ) 0 0 1)) rfl (fun H locs hH hzz => ?_)
    replace hH := two hH
    refine lv_aload_n hx hb d_T_visit_35 rfl (lv_at hl 0 rfl) ?_
    refine m_get (ci := 7) (v := .int 1) hx hb hT in_T hown hK hH.1 (tw_t) rfl 0 (by decide) (hT _ w672) (fun _ h9 => h9) rfl d_T_visit_36 ?_
    refine lv_if_le (tgt := 43) hx hb d_T_visit_39 (by decide) (fun hq9 => absurd hq9 ((by decide : ¬ (1 : Int32) ≤ 0))) (fun _ => ?_)
    exact m_vret hx hb hr hlocks hsz hH (rfl) d_T_visit_42
  · skip
    refine lv_iload_n hx hb d_T_visit_5 rfl (lv_at hl 1 rfl) ?_
    refine lv_sipush (v := 199) hx hb d_T_visit_6 (by decide) ?_
    refine lv_icmp_gt (tgt := 27) hx hb d_T_visit_9 (by decide) (fun c2 => ?_) (fun c2 => ?_)
    · skip
      refine lv_iconst (v := 1) hx hb d_T_visit_27 (by decide) ?_
      refine lv_goto (tgt := 32) hx hb d_T_visit_28 (by decide) ?_
      refine m_put (ci := 7) (v := .int 1) (ty := .int) hx hb hT in_T ty_T tk_T nm_T hown hK hH (tw_t) rfl 0 (by decide) (hT _ w672) (fun _ h9 => h9) rfl (by decide +kernel) rfl rfl (Nat.le_of_ble_eq_true rfl) d_T_visit_32 (e1 := oT t (su (σ) 0 0 1)) rfl (fun H locs hH hzz => ?_)
      replace hH := two hH
      refine lv_aload_n hx hb d_T_visit_35 rfl (lv_at hl 0 rfl) ?_
      refine m_get (ci := 7) (v := .int 1) hx hb hT in_T hown hK hH.1 (tw_t) rfl 0 (by decide) (hT _ w672) (fun _ h9 => h9) rfl d_T_visit_36 ?_
      refine lv_if_le (tgt := 43) hx hb d_T_visit_39 (by decide) (fun hq9 => absurd hq9 ((by decide : ¬ (1 : Int32) ≤ 0))) (fun _ => ?_)
      exact m_vret hx hb hr hlocks hsz hH (rfl) d_T_visit_42
    · skip
      refine lv_aload_n hx hb d_T_visit_12 rfl (lv_at hl 0 rfl) ?_
      refine lv_iload_n hx hb d_T_visit_13 rfl (lv_at hl 2 rfl) ?_
      refine rd_run (c_V (As := [.int x]) (rest := [.ref t]) hx hb hml hl.1 hown hT hK hH.1 (c_T_noCard l g t σ x s.heap.size) kw_T_noCard w743 w745 selp_T_noCard w8 hd_T_noCard rfl rfl ⟨by decide, by decide⟩ (tw_t) rfl rfl rfl (Nat.le_of_ble_eq_true rfl) d_T_visit_14 ⟨by decide, by decide⟩) rfl ?_
      refine lv_if_ne (tgt := 27) hx hb d_T_visit_17 (by decide) (fun c3 => ?_) (fun c3 => ?_)
      · skip
        refine lv_iconst (v := 1) hx hb d_T_visit_27 (by decide) ?_
        refine lv_goto (tgt := 32) hx hb d_T_visit_28 (by decide) ?_
        refine m_put (ci := 7) (v := .int 1) (ty := .int) hx hb hT in_T ty_T tk_T nm_T hown hK hH (tw_t) rfl 0 (by decide) (hT _ w672) (fun _ h9 => h9) rfl (by decide +kernel) rfl rfl (Nat.le_of_ble_eq_true rfl) d_T_visit_32 (e1 := oT t (su (σ) 0 0 1)) rfl (fun H locs hH hzz => ?_)
        replace hH := two hH
        refine lv_aload_n hx hb d_T_visit_35 rfl (lv_at hl 0 rfl) ?_
        refine m_get (ci := 7) (v := .int 1) hx hb hT in_T hown hK hH.1 (tw_t) rfl 0 (by decide) (hT _ w672) (fun _ h9 => h9) rfl d_T_visit_36 ?_
        refine lv_if_le (tgt := 43) hx hb d_T_visit_39 (by decide) (fun hq9 => absurd hq9 ((by decide : ¬ (1 : Int32) ≤ 0))) (fun _ => ?_)
        exact m_vret hx hb hr hlocks hsz hH (rfl) d_T_visit_42
      · skip
        refine lv_iload_n hx hb d_T_visit_20 rfl (lv_at hl 3 rfl) ?_
        refine rd_run (c_S (As := [.int y]) (rest := [.ref t]) hx hb hml hl.1 hown hT hK hH.1 (c_T_noDoor l g (tw g t σ) y s.heap.size) kw_T_noDoor w799 w800 w8 hd_T_noDoor rfl rfl ⟨by decide, by decide⟩ rfl rfl (Nat.le_of_ble_eq_true rfl) d_T_visit_21 ⟨by decide, by decide⟩) rfl ?_
        refine lv_if_eq (tgt := 31) hx hb d_T_visit_24 (by decide) (fun hq9 => absurd hq9 (by rcases hb1 with (q | q) | q | q; exact absurd q c1; exact absurd q c2; exact absurd c3 (by rw [q]; decide); rw [q]; decide)) (fun _ => ?_)
        refine lv_iconst (v := 1) hx hb d_T_visit_27 (by decide) ?_
        refine lv_goto (tgt := 32) hx hb d_T_visit_28 (by decide) ?_
        refine m_put (ci := 7) (v := .int 1) (ty := .int) hx hb hT in_T ty_T tk_T nm_T hown hK hH (tw_t) rfl 0 (by decide) (hT _ w672) (fun _ h9 => h9) rfl (by decide +kernel) rfl rfl (Nat.le_of_ble_eq_true rfl) d_T_visit_32 (e1 := oT t (su (σ) 0 0 1)) rfl (fun H locs hH hzz => ?_)
        replace hH := two hH
        refine lv_aload_n hx hb d_T_visit_35 rfl (lv_at hl 0 rfl) ?_
        refine m_get (ci := 7) (v := .int 1) hx hb hT in_T hown hK hH.1 (tw_t) rfl 0 (by decide) (hT _ w672) (fun _ h9 => h9) rfl d_T_visit_36 ?_
        refine lv_if_le (tgt := 43) hx hb d_T_visit_39 (by decide) (fun hq9 => absurd hq9 ((by decide : ¬ (1 : Int32) ≤ 0))) (fun _ => ?_)
        exact m_vret hx hb hr hlocks hsz hH (rfl) d_T_visit_42
set_option maxHeartbeats 4000000 in
set_option maxRecDepth 100000 in
theorem c_T_visit (l : Launch) (g : GG) (t : Nat) (σ : SG) (i c d : Nat) (day : Int32) (sz : Nat) (hi : i < 200) (h0 : ncI σ (nI c) = 0) (h1 : ndI (nI d) = 0) : Met l y_T_visit (k_T_visit :: TT) { frames := 1, cells := 0, slots := 0, locals := 21 } (Pm g [.ref t, .int (nI i), .int (nI c), .int (nI d), .int day] sz (tw g t σ)) (Qm g (tw g t σ) (fun _ : Unit => none) (fun _ M1 => M1 = tw g t (su (su (su (su (su σ 0 0 0) 12 i 1) 13 i (nI c)) 14 i (nI d)) 15 i day))) 0 0 (mA (tw g t σ) sz) := by
  refine met_of (by decide) (Nat.le_of_ble_eq_true rfl) ?_
  intro pr en s mi below meth co hx hb hr hml hown hlocks hnm hT hsz hP hK ls hl
  have hl : lv_has ls 5 [(0, .ref t), (1, .int (nI i)), (2, .int (nI c)), (3, .int (nI d)), (4, .int day)] := hl
  have hH := HS.start hP
  refine lv_aload_n hx hb d_T_visit_0 rfl (lv_at hl 0 rfl) ?_
  refine lv_iload_n hx hb d_T_visit_1 rfl (lv_at hl 1 rfl) ?_
  refine lv_if_lt (tgt := 27) hx hb d_T_visit_2 (by decide) (fun hq9 => absurd hq9 (nI_pos (by omega))) (fun _ => ?_)
  refine lv_iload_n hx hb d_T_visit_5 rfl (lv_at hl 1 rfl) ?_
  refine lv_sipush (v := 199) hx hb d_T_visit_6 (by decide) ?_
  refine lv_icmp_gt (tgt := 27) hx hb d_T_visit_9 (by decide) (fun hq9 => absurd hq9 (fun q => absurd ((nI_ltI (a := 199) (by decide) (by omega)).mp q) (by omega))) (fun _ => ?_)
  refine lv_aload_n hx hb d_T_visit_12 rfl (lv_at hl 0 rfl) ?_
  refine lv_iload_n hx hb d_T_visit_13 rfl (lv_at hl 2 rfl) ?_
  refine rd_run (c_V (As := [.int (nI c)]) (rest := [.ref t]) hx hb hml hl.1 hown hT hK hH.1 (c_T_noCard l g t σ (nI c) s.heap.size) kw_T_noCard w743 w745 selp_T_noCard w8 hd_T_noCard rfl rfl ⟨by decide, by decide⟩ (tw_t) rfl rfl rfl (Nat.le_of_ble_eq_true rfl) d_T_visit_14 ⟨by decide, by decide⟩) rfl ?_
  refine lv_if_ne (tgt := 27) hx hb d_T_visit_17 (by decide) (fun hq9 => absurd (h0) hq9) (fun _ => ?_)
  refine lv_iload_n hx hb d_T_visit_20 rfl (lv_at hl 3 rfl) ?_
  refine rd_run (c_S (As := [.int (nI d)]) (rest := [.ref t]) hx hb hml hl.1 hown hT hK hH.1 (c_T_noDoor l g (tw g t σ) (nI d) s.heap.size) kw_T_noDoor w799 w800 w8 hd_T_noDoor rfl rfl ⟨by decide, by decide⟩ rfl rfl (Nat.le_of_ble_eq_true rfl) d_T_visit_21 ⟨by decide, by decide⟩) rfl ?_
  refine lv_if_eq (tgt := 31) hx hb d_T_visit_24 (by decide) (fun _ => ?_) (fun hq9 => absurd (h1) hq9)
  refine lv_iconst (v := 0) hx hb d_T_visit_31 (by decide) ?_
  refine m_put (ci := 7) (v := .int 0) (ty := .int) hx hb hT in_T ty_T tk_T nm_T hown hK hH (tw_t) rfl 0 (by decide) (hT _ w672) (fun _ h9 => h9) rfl (by decide +kernel) rfl rfl (Nat.le_of_ble_eq_true rfl) d_T_visit_32 (e1 := oT t (su (σ) 0 0 0)) rfl (fun H locs hH hzz => ?_)
  replace hH := two hH
  refine lv_aload_n hx hb d_T_visit_35 rfl (lv_at hl 0 rfl) ?_
  refine m_get (ci := 7) (v := .int 0) hx hb hT in_T hown hK hH.1 (tw_t) rfl 0 (by decide) (hT _ w672) (fun _ h9 => h9) rfl d_T_visit_36 ?_
  refine lv_if_le (tgt := 43) hx hb d_T_visit_39 (by decide) (fun _ => ?_) (fun hq9 => absurd ((by decide : (0 : Int32) ≤ 0)) hq9)
  refine lv_aload_n hx hb d_T_visit_43 rfl (lv_at hl 0 rfl) ?_
  refine m_get (ci := 7) (v := .ref (t + 12)) hx hb hT in_T hown hK hH.1 (tw_t) rfl 14 (by decide) (hT _ w686) (fun _ h9 => h9) rfl d_T_visit_44 ?_
  refine lv_iload_n hx hb d_T_visit_47 rfl (lv_at hl 1 rfl) ?_
  refine lv_iconst (v := 1) hx hb d_T_visit_48 (by decide) ?_
  refine m_zast hx hb hK hH 2 (tw_12) rfl (j := i) (rfl) (by omega) (by decide) d_T_visit_49 (fun H locs hH hzz => ?_)
  rw [show vp_nar .boolean 1 = 1 from rfl] at hH
  replace hH := tws_12 hH
  refine lv_aload_n hx hb d_T_visit_50 rfl (lv_at hl 0 rfl) ?_
  refine m_get (ci := 7) (v := .ref (t + 13)) hx hb hT in_T hown hK hH.1 (tw_t) rfl 15 (by decide) (hT _ w687) (fun _ h9 => h9) rfl d_T_visit_51 ?_
  refine lv_iload_n hx hb d_T_visit_54 rfl (lv_at hl 1 rfl) ?_
  refine lv_iload_n hx hb d_T_visit_55 rfl (lv_at hl 2 rfl) ?_
  refine m_iast hx hb hK hH 0 (tw_13) rfl (j := i) (rfl) (by omega) (by decide) d_T_visit_56 (fun H locs hH hzz => ?_)
  replace hH := tws_13 hH
  refine lv_aload_n hx hb d_T_visit_57 rfl (lv_at hl 0 rfl) ?_
  refine m_get (ci := 7) (v := .ref (t + 14)) hx hb hT in_T hown hK hH.1 (tw_t) rfl 16 (by decide) (hT _ w688) (fun _ h9 => h9) rfl d_T_visit_58 ?_
  refine lv_iload_n hx hb d_T_visit_61 rfl (lv_at hl 1 rfl) ?_
  refine lv_iload_n hx hb d_T_visit_62 rfl (lv_at hl 3 rfl) ?_
  refine m_iast hx hb hK hH 0 (tw_14) rfl (j := i) (rfl) (by omega) (by decide) d_T_visit_63 (fun H locs hH hzz => ?_)
  replace hH := tws_14 hH
  refine lv_aload_n hx hb d_T_visit_64 rfl (lv_at hl 0 rfl) ?_
  refine m_get (ci := 7) (v := .ref (t + 15)) hx hb hT in_T hown hK hH.1 (tw_t) rfl 17 (by decide) (hT _ w689) (fun _ h9 => h9) rfl d_T_visit_65 ?_
  refine lv_iload_n hx hb d_T_visit_68 rfl (lv_at hl 1 rfl) ?_
  refine lv_iload hx hb d_T_visit_69 (lv_at hl 4 rfl) ?_
  refine m_iast hx hb hK hH 0 (tw_15) rfl (j := i) (rfl) (by omega) (by decide) d_T_visit_71 (fun H locs hH hzz => ?_)
  replace hH := tws_15 hH
  exact m_vret hx hb hr hlocks hsz hH (rfl) d_T_visit_72
