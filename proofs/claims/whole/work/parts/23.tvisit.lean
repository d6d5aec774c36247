/-! The reference: giving a run, a visit. -/
theorem wd5 {σ τ : SG} (h : σ 5 = τ 5) (c b i : Nat) : wd σ c b i = wd τ c b i := by unfold wd; rw [h]
theorem sq5 {σ τ : SG} (h : σ 5 = τ 5) (c b : Nat) : sq σ c b = sq τ c b := by unfold sq; rw [wd5 h]
theorem cur5 {σ τ : SG} (h : σ 5 = τ 5) (c : Nat) : cur σ c = cur τ c := by unfold cur ahd; simp only [wd5 h, sq5 h]
theorem cn5 {σ τ : SG} (h : σ 5 = τ 5) (c : Nat) : cnI σ c = cnI τ c := by unfold cnI; rw [wd5 h, cur5 h]
theorem fi5 {σ τ : SG} (h : σ 5 = τ 5) (c : Nat) : fiI σ c = fiI τ c := by unfold fiI; rw [cn5 h, wd5 h, cur5 h]
theorem se5 {σ τ : SG} (h : σ 5 = τ 5) (c : Nat) : seI σ c = seI τ c := by unfold seI; rw [wd5 h, cur5 h]
theorem kOK3 {σ τ : SG} (h : σ 3 = τ 3) {c : Nat} (hk : kOK τ c) : kOK σ c := by unfold kOK at *; rw [h]; exact hk
def gvB (a b : Nat) : Nat := if b - a ≤ 39 then a else b - 39
theorem gvB_le {a b : Nat} (h : a ≤ b) : gvB a b ≤ b ∧ a ≤ gvB a b ∧ b - gvB a b + 1 ≤ 40 := by
  unfold gvB
  split <;> omega
def tkS (σ : SG) (d a : Nat) : Nat → SG
  | 0 => σ
  | k + 1 => su (tkS σ d a k) 8 (3001 * d + a + k) 1
theorem tkS_r {σ : SG} {d a : Nat} (r : Nat) (h : r ≠ 8) : ∀ k, tkS σ d a k r = σ r
  | 0 => rfl
  | k + 1 => by
    show su (tkS σ d a k) 8 _ _ r = σ r
    rw [su_kf h]
    exact tkS_r r h k
def mxI (x y : Int32) : Int32 := if x ≤ y then y else x
def v1S (σ : SG) (c d a n : Nat) : SG := su (tkS (su σ 10 d 1) d a n) 11 d (mxI (seI σ c) (σ 11 d))
theorem v1S_r {σ : SG} {c d a n : Nat} (r : Nat) (h8 : r ≠ 8) (h10 : r ≠ 10) (h11 : r ≠ 11) : v1S σ c d a n r = σ r := by
  unfold v1S
  rw [su_kf h11, tkS_r r h8, su_kf h10]
def inI (σ : SG) (c d : Nat) : Int32 := if ¬ (σ 1 c >>> (σ 9 d &&& 31)) &&& 1 = 1 then 0 else 1
def anI (σ τ : SG) (c d e2 : Nat) (day : Int32) : Int32 := if ¬ rvI τ d e2 = 0 then 1 else if ¬ day ≤ σ 2 c then 2 else if ¬ inI σ c d = 0 then 0 else 3
def bgF (σ : SG) (d : Nat) : Nat → Nat
  | 0 => 0
  | k + 1 => if k = 0 ∨ hs σ d k = 0 then k + 1 else bgF σ d k
theorem bgF_in (σ : SG) (d : Nat) : ∀ k, bgF σ d (k + 1) ≤ k + 1 ∧ 1 ≤ bgF σ d (k + 1)
  | 0 => by
    show (if (0 : Nat) = 0 ∨ hs σ d 0 = 0 then 0 + 1 else bgF σ d 0) ≤ 0 + 1 ∧ 1 ≤ (if (0 : Nat) = 0 ∨ hs σ d 0 = 0 then 0 + 1 else bgF σ d 0)
    rw [if_pos (Or.inl rfl)]
    omega
  | k + 1 => by
    have := bgF_in σ d k
    show (if k + 1 = 0 ∨ hs σ d (k + 1) = 0 then k + 1 + 1 else bgF σ d (k + 1)) ≤ k + 1 + 1 ∧ 1 ≤ (if k + 1 = 0 ∨ hs σ d (k + 1) = 0 then k + 1 + 1 else bgF σ d (k + 1))
    split <;> omega
theorem grF_le (σ : SG) (d : Nat) : ∀ k, grF σ d k ≤ k
  | 0 => Nat.le_refl 0
  | k + 1 => by
    have := grF_le σ d k
    show (if hs σ d (k + 1) = 0 then grF σ d k else k + 1) ≤ k + 1
    split <;> omega
theorem gre_le (σ : SG) (d : Nat) : gre σ d ≤ 3000 := grF_le σ d 3000
noncomputable def gvS (σ : SG) (c a b : Nat) (v : Int32) : SG := wtS σ c (gvB a b) (b - gvB a b + 1) v
noncomputable def v2S (σ τ : SG) (c d : Nat) : SG := if gre τ d = 0 then τ else gvS τ c (bgF τ d (gre τ d)) (gre τ d) (seI σ c)
noncomputable def vsS (σ : SG) (c d a n : Nat) : SG := v2S σ (v1S σ c d a n) c d
theorem ixd3 (d a k : Nat) : (3001 : Int32) * nI d + nI a + nI k = nI (3001 * d + a + k) := by rw [ixd, nI_add]
theorem ixd4 (d k : Nat) : (3001 : Int32) * nI d + nI (k + 1) - 1 = nI (3001 * d + k) := ixd2 d k
set_option maxHeartbeats 4000000 in
set_option maxRecDepth 100000 in
theorem c_T_give (l : Launch) (g : GG) (t : Nat) (σ : SG) (c a b : Nat) (v : Int32) (sz : Nat) (hc : c < 4000) (hab : a ≤ b) (hb3 : b ≤ 3000) (hk : kOK σ c) : Met l y_T_give (k_T_give :: TT) { frames := 7, cells := 0, slots := 0, locals := 165 } (Pm g [.ref t, .int (nI c), .int (nI a), .int (nI b), .int v] sz (tw g t σ)) (Qm g (tw g t σ) (fun _ : Unit => none) (fun _ M1 => M1 = tw g t (gvS σ c a b v))) 0 0 (mA (tw g t σ) sz) := by
  refine met_of (by decide) (Nat.le_of_ble_eq_true rfl) ?_
  intro pr en s mi below meth co hx hb hr hml hown hlocks hnm hT hsz hP hK ls hl
  have hl : lv_has ls 6 [(0, .ref t), (1, .int (nI c)), (2, .int (nI a)), (3, .int (nI b)), (4, .int v)] := hl
  have hH := HS.start hP
  have hg := gvB_le hab
  refine W.join (fun x : Int32 => x = nI (gvB a b)) (f := fun x => F0 mi 16 ls (.int x :: [])) (fun x ex => ?_) (fun hj => ?_)
  · skip
    subst ex
    refine lv_istore (lv' := [(5, .int (nI (gvB a b))), (0, .ref t), (1, .int (nI c)), (2, .int (nI a)), (3, .int (nI b)), (4, .int v)]) hx hb d_T_give_16 hl (by decide) rfl (fun ls hl => ?_)
    refine lv_aload_n hx hb d_T_give_18 rfl (lv_at hl 1 rfl) ?_
    refine lv_iload_n hx hb d_T_give_19 rfl (lv_at hl 2 rfl) ?_
    refine lv_iload hx hb d_T_give_20 (lv_at hl 0 rfl) ?_
    refine lv_iload_n hx hb d_T_give_22 rfl (lv_at hl 4 rfl) ?_
    refine lv_iload_n hx hb d_T_give_23 rfl (lv_at hl 3 rfl) ?_
    refine lv_icmp_ge (tgt := 31) hx hb d_T_give_24 (by decide) (fun _ => ?_) (fun hq9 => absurd (nI_le hab (by omega)) hq9)
    refine lv_iload_n hx hb d_T_give_31 rfl (lv_at hl 4 rfl) ?_
    refine lv_iload hx hb d_T_give_32 (lv_at hl 0 rfl) ?_
    refine lv_isub hx hb d_T_give_34 ?_
    rw [show ((nI b) - (nI (gvB a b))) = nI (b - gvB a b) from pk_sub hg.1]
    refine lv_iconst (v := 1) hx hb d_T_give_35 (by decide) ?_
    refine lv_iadd hx hb d_T_give_36 ?_
    rw [show ((nI (b - gvB a b)) + 1) = nI (b - gvB a b + 1) from nI_1 _]
    refine lv_iload hx hb d_T_give_37 (lv_at hl 5 rfl) ?_
    refine m_run (c_V (As := [.int (nI c), .int (nI (gvB a b)), .int (nI (b - gvB a b + 1)), .int v]) (rest := []) hx hb hml hl.1 hown hT hK hH.1 (c_T_write l g t σ c (gvB a b) (b - gvB a b + 1) v s.heap.size hc (by omega) hg.2.2 hk) kw_T_write w755 w757 selp_T_write w8 hd_T_write rfl rfl ⟨by decide, by decide⟩ (tw_t) rfl rfl rfl (Nat.le_of_ble_eq_true rfl) d_T_give_39 ⟨by decide, by decide⟩) hH (fun rv M1 H locs hpost hH hzz hdm hfr => ?_)
    obtain rfl : M1 = tw g t (gvS σ c a b v) := hpost
    refine W.eq (g2 := F0 mi 42 ls []) rfl ?_
    exact m_vret hx hb hr hlocks hsz hH (rfl) d_T_give_42
  · skip
    refine lv_iload_n hx hb d_T_give_0 rfl (lv_at hl 3 rfl) ?_
    refine lv_iload_n hx hb d_T_give_1 rfl (lv_at hl 2 rfl) ?_
    refine lv_isub hx hb d_T_give_2 ?_
    rw [show ((nI b) - (nI a)) = nI (b - a) from pk_sub hab]
    refine lv_bipush (v := 39) hx hb d_T_give_3 (by decide) ?_
    refine lv_icmp_le (tgt := 15) hx hb d_T_give_5 (by decide) (fun c1 => ?_) (fun c1 => ?_)
    · skip
      have c1 : b - a ≤ 39 := ge_of (b := 39) c1 (by omega) (by decide)
      refine lv_iload_n hx hb d_T_give_15 rfl (lv_at hl 2 rfl) ?_
      exact hj _ (by first | (unfold gvB; rw [if_pos c1]) | (unfold gvB; rw [if_neg c1]))
    · skip
      have c1 : ¬ b - a ≤ 39 := fun z => c1 (nI_le (b := 39) z (by decide))
      refine lv_iload_n hx hb d_T_give_8 rfl (lv_at hl 3 rfl) ?_
      refine lv_bipush (v := 39) hx hb d_T_give_9 (by decide) ?_
      refine lv_isub hx hb d_T_give_11 ?_
      rw [show ((nI b) - 39) = nI (b - 39) from pk_sub (a := b) (b := 39) (by omega)]
      refine lv_goto (tgt := 16) hx hb d_T_give_12 (by decide) ?_
      exact hj _ (by first | (unfold gvB; rw [if_pos c1]) | (unfold gvB; rw [if_neg c1]))
set_option maxHeartbeats 4000000 in
set_option maxRecDepth 100000 in
theorem c_T_visitAt (l : Launch) (g : GG) (t : Nat) (σ : SG) (c d a n e2 : Nat) (day : Int32) (sz : Nat) (hc : c < 4000) (hd2 : d < 200) (hf : fiI σ c = nI a) (hn : cnI σ c = nI n) (han : a + n ≤ 3001) (hn4 : n ≤ 40) (he : σ 6 c = nI e2) (he2 : e2 ≤ 3000) (hk : kOK σ c) : Met l y_T_visitAt (k_T_visitAt :: TT) { frames := 8, cells := 0, slots := 0, locals := 190 } (Pm g [.ref t, .int (nI c), .int (nI d), .int day] sz (tw g t σ)) (Qm g (tw g t σ) (fun r : Int32 => some (.int r)) (fun r M1 => r = anI σ (v1S σ c d a n) c d e2 day ∧ M1 = tw g t (vsS σ c d a n))) 0 0 (mA (tw g t σ) sz) := by
  refine met_of (by decide) (Nat.le_of_ble_eq_true rfl) ?_
  intro pr en s mi below meth co hx hb hr hml hown hlocks hnm hT hsz hP hK ls hl
  have hl : lv_has ls 9 [(0, .ref t), (1, .int (nI c)), (2, .int (nI d)), (3, .int day)] := hl
  have hH := HS.start hP
  have hgl := gre_le (v1S σ c d a n) d
  refine lv_aload_n hx hb d_T_visitAt_0 rfl (lv_at hl 0 rfl) ?_
  refine m_get (ci := 7) (v := .ref (t + 10)) hx hb hT in_T hown hK hH.1 (tw_t) rfl 12 (by decide) (hT _ w684) (fun _ h9 => h9) rfl d_T_visitAt_1 ?_
  refine lv_iload_n hx hb d_T_visitAt_4 rfl (lv_at hl 2 rfl) ?_
  refine lv_iconst (v := 1) hx hb d_T_visitAt_5 (by decide) ?_
  refine m_zast hx hb hK hH 2 (tw_10) rfl (j := d) (rfl) (by omega) (by decide) d_T_visitAt_6 (fun H locs hH hzz => ?_)
  rw [show vp_nar .boolean 1 = 1 from rfl] at hH
  replace hH := tws_10 hH
  refine lv_aload_n hx hb d_T_visitAt_7 rfl (lv_at hl 0 rfl) ?_
  refine lv_iload_n hx hb d_T_visitAt_8 rfl (lv_at hl 1 rfl) ?_
  refine rd_run (c_V (As := [.int (nI c)]) (rest := []) hx hb hml hl.1 hown hT hK hH.1 (c_T_first l g t (su σ 10 d 1) c H.size hc) kw_T_first w783 w785 selp_T_first w8 hd_T_first rfl rfl ⟨by decide, by decide⟩ (tw_t) rfl rfl rfl (Nat.le_of_ble_eq_true rfl) d_T_visitAt_9 ⟨by decide, by decide⟩) rfl ?_
  rw [show (fiI (su σ 10 d 1) c) = nI a from (fi5 (su_kf (by decide)) c).trans hf]
  refine lv_istore (lv' := [(4, .int (nI a)), (0, .ref t), (1, .int (nI c)), (2, .int (nI d)), (3, .int day)]) hx hb d_T_visitAt_12 hl (by decide) rfl (fun ls hl => ?_)
  refine lv_iconst (v := 0) hx hb d_T_visitAt_14 (by decide) ?_
  refine lv_istore (lv' := [(5, .int 0), (4, .int (nI a)), (0, .ref t), (1, .int (nI c)), (2, .int (nI d)), (3, .int day)]) hx hb d_T_visitAt_15 hl (by decide) rfl (fun ls hl => ?_)
  refine W.rep (α := Heap × List Loc × Array Slot × Nat) (fun (H, locs, ls, k) => n - k) (fun (H, locs, ls, k) => lv_has ls 9 [(0, .ref t), (1, .int (nI c)), (2, .int (nI d)), (3, .int day), (4, .int (nI a)), (5, .int (nI k))] ∧ HS g (mA (tw g t σ) s.heap.size) s.heap (tw g t (tkS (su σ 10 d 1) d a k)) H locs ∧ k ≤ n) (fun (H, locs, ls, k) => H) (fun (H, locs, ls, k) => locs) (fun (H, locs, ls, k) => F0 mi 17 ls []) ?_ (H, locs, ls, 0) ⟨lv_sub hl [2, 3, 4, 5, 1, 0] rfl, hH, by omega⟩
  rintro ⟨H, locs, ls, k⟩ ⟨hl, hH, hi1⟩ ih
  dsimp only at hl hH hi1 ih ⊢
  refine lv_iload hx hb d_T_visitAt_17 (lv_at hl 5 rfl) ?_
  refine lv_aload_n hx hb d_T_visitAt_19 rfl (lv_at hl 0 rfl) ?_
  refine lv_iload_n hx hb d_T_visitAt_20 rfl (lv_at hl 1 rfl) ?_
  refine rd_run (c_V (As := [.int (nI c)]) (rest := [.int (nI k)]) hx hb hml hl.1 hown hT hK hH.1 (c_T_count l g t (tkS (su σ 10 d 1) d a k) c H.size hc) kw_T_count w763 w765 selp_T_count w8 hd_T_count rfl rfl ⟨by decide, by decide⟩ (tw_t) rfl rfl rfl (Nat.le_of_ble_eq_true rfl) d_T_visitAt_21 ⟨by decide, by decide⟩) rfl ?_
  rw [show (cnI (tkS (su σ 10 d 1) d a k) c) = nI n from (cn5 ((tkS_r 5 (by decide) k).trans (su_kf (by decide))) c).trans hn]
  refine lv_icmp_ge (tgt := 50) hx hb d_T_visitAt_24 (by decide) (fun c1 => ?_) (fun c1 => ?_)
  · skip
    have hkn : n = k := by have := ge_of c1 (by omega) (by omega); omega
    subst hkn
    refine lv_aload_n hx hb d_T_visitAt_50 rfl (lv_at hl 0 rfl) ?_
    refine m_get (ci := 7) (v := .ref (t + 11)) hx hb hT in_T hown hK hH.1 (tw_t) rfl 13 (by decide) (hT _ w685) (fun _ h9 => h9) rfl d_T_visitAt_51 ?_
    refine lv_iload_n hx hb d_T_visitAt_54 rfl (lv_at hl 2 rfl) ?_
    refine W.join (fun x : Int32 => x = mxI (seI σ c) (σ 11 d)) (f := fun x => F0 mi 83 ls (.int x :: [.int (nI d), .ref (t + 11)])) (fun x ex => ?_) (fun hj => ?_)
    · skip
      subst ex
      refine m_iast hx hb hK hH 0 (tw_11) rfl (j := d) (rfl) (by omega) (by decide) d_T_visitAt_83 (fun H locs hH hzz => ?_)
      replace hH := tws_11 hH
      replace hH : HS g (mA (tw g t σ) s.heap.size) s.heap (tw g t (v1S σ c d a n)) H locs := hH
      refine W.join (fun x : Int32 => x = inI σ c d) (f := fun x => F0 mi 108 ls (.int x :: [])) (fun x ex => ?_) (fun hj => ?_)
      · skip
        subst ex
        refine lv_istore (lv' := [(5, .int (inI σ c d)), (0, .ref t), (1, .int (nI c)), (2, .int (nI d)), (3, .int day), (4, .int (nI a))]) hx hb d_T_visitAt_108 hl (by decide) rfl (fun ls hl => ?_)
        refine W.join (fun x : Int32 => x = anI σ (v1S σ c d a n) c d e2 day) (f := fun x => F0 mi 147 ls (.int x :: [])) (fun x ex => ?_) (fun hj => ?_)
        · skip
          subst ex
          refine lv_istore (lv' := [(6, .int (anI σ (v1S σ c d a n) c d e2 day)), (5, .int (inI σ c d)), (0, .ref t), (1, .int (nI c)), (2, .int (nI d)), (3, .int day), (4, .int (nI a))]) hx hb d_T_visitAt_147 hl (by decide) rfl (fun ls hl => ?_)
          refine lv_aload_n hx hb d_T_visitAt_149 rfl (lv_at hl 2 rfl) ?_
          refine lv_iload_n hx hb d_T_visitAt_150 rfl (lv_at hl 4 rfl) ?_
          refine rd_run (c_V (As := [.int (nI d)]) (rest := []) hx hb hml hl.1 hown hT hK hH.1 (c_T_greatest l g t (v1S σ c d a n) d H.size hd2) kw_T_greatest w814 w816 selp_T_greatest w8 hd_T_greatest rfl rfl ⟨by decide, by decide⟩ (tw_t) rfl rfl rfl (Nat.le_of_ble_eq_true rfl) d_T_visitAt_151 ⟨by decide, by decide⟩) rfl ?_
          refine lv_istore (lv' := [(7, .int (nI (gre (v1S σ c d a n) d))), (6, .int (anI σ (v1S σ c d a n) c d e2 day)), (5, .int (inI σ c d)), (0, .ref t), (1, .int (nI c)), (2, .int (nI d)), (3, .int day), (4, .int (nI a))]) hx hb d_T_visitAt_154 hl (by decide) rfl (fun ls hl => ?_)
          refine lv_iload hx hb d_T_visitAt_156 (lv_at hl 0 rfl) ?_
          refine lv_istore (lv' := [(8, .int (nI (gre (v1S σ c d a n) d))), (7, .int (nI (gre (v1S σ c d a n) d))), (6, .int (anI σ (v1S σ c d a n) c d e2 day)), (5, .int (inI σ c d)), (0, .ref t), (1, .int (nI c)), (2, .int (nI d)), (3, .int day), (4, .int (nI a))]) hx hb d_T_visitAt_158 hl (by decide) rfl (fun ls hl => ?_)
          refine W.rep (α := Heap × List Loc × Array Slot × Nat) (fun (H, locs, ls, k) => k) (fun (H, locs, ls, k) => lv_has ls 9 [(0, .ref t), (1, .int (nI c)), (2, .int (nI d)), (3, .int day), (6, .int (anI σ (v1S σ c d a n) c d e2 day)), (7, .int (nI (gre (v1S σ c d a n) d))), (8, .int (nI k))] ∧ HS g (mA (tw g t σ) s.heap.size) s.heap (tw g t (v1S σ c d a n)) H locs ∧ k ≤ gre (v1S σ c d a n) d ∧ bgF (v1S σ c d a n) d (gre (v1S σ c d a n) d) = bgF (v1S σ c d a n) d k ∧ (gre (v1S σ c d a n) d = 0 ↔ k = 0)) (fun (H, locs, ls, k) => H) (fun (H, locs, ls, k) => locs) (fun (H, locs, ls, k) => F0 mi 160 ls []) ?_ (H, locs, ls, gre (v1S σ c d a n) d) ⟨lv_sub hl [4, 5, 6, 7, 2, 1, 0] rfl, hH, Nat.le_refl _, rfl, Iff.rfl⟩
          rintro ⟨H, locs, ls, k⟩ ⟨hl, hH, hi1, hi2, hi3⟩ ih
          dsimp only at hl hH hi1 hi2 hi3 ih ⊢
          refine lv_iload hx hb d_T_visitAt_160 (lv_at hl 6 rfl) ?_
          refine lv_iconst (v := 1) hx hb d_T_visitAt_162 (by decide) ?_
          refine lv_icmp_le (tgt := 190) hx hb d_T_visitAt_163 (by decide) (fun c7 => ?_) (fun c7 => ?_)
          · skip
            have hk1 : k ≤ 1 := ge_of (b := 1) c7 (by omega) (by decide)
            have hbg : bgF (v1S σ c d a n) d k = k := by rcases (show k = 0 ∨ k = 1 by omega) with rfl | rfl <;> first | rfl | exact if_pos (Or.inl rfl)
            refine lv_iload hx hb d_T_visitAt_190 (lv_at hl 5 rfl) ?_
            refine lv_if_le (tgt := 209) hx hb d_T_visitAt_192 (by decide) (fun c9 => ?_) (fun c9 => ?_)
            · skip
              have hg0 : gre (v1S σ c d a n) d = 0 := by have := ge_of (b := 0) c9 (by omega) (by decide); omega
              refine lv_iload hx hb d_T_visitAt_209 (lv_at hl 4 rfl) ?_
              exact m_iret hx hb hr hlocks hsz hH (⟨rfl, by first | (unfold vsS v2S; rw [if_pos hg0]) | (unfold vsS v2S; rw [if_neg hg0, hi2, hbg])⟩) d_T_visitAt_211
            · skip
              have hg0 : ¬ gre (v1S σ c d a n) d = 0 := fun z => c9 (by rw [z]; decide)
              refine lv_aload_n hx hb d_T_visitAt_195 rfl (lv_at hl 0 rfl) ?_
              refine lv_iload_n hx hb d_T_visitAt_196 rfl (lv_at hl 1 rfl) ?_
              refine lv_iload hx hb d_T_visitAt_197 (lv_at hl 6 rfl) ?_
              refine lv_iload hx hb d_T_visitAt_199 (lv_at hl 5 rfl) ?_
              refine lv_aload_n hx hb d_T_visitAt_201 rfl (lv_at hl 0 rfl) ?_
              refine lv_iload_n hx hb d_T_visitAt_202 rfl (lv_at hl 1 rfl) ?_
              refine rd_run (c_V (As := [.int (nI c)]) (rest := [.int (nI (gre (v1S σ c d a n) d)), .int (nI k), .int (nI c), .ref t]) hx hb hml hl.1 hown hT hK hH.1 (c_T_seen l g t (v1S σ c d a n) c H.size hc) kw_T_seen w787 w789 selp_T_seen w8 hd_T_seen rfl rfl ⟨by decide, by decide⟩ (tw_t) rfl rfl rfl (Nat.le_of_ble_eq_true rfl) d_T_visitAt_203 ⟨by decide, by decide⟩) rfl ?_
              rw [show (seI (v1S σ c d a n) c) = seI σ c from se5 (v1S_r 5 (by decide) (by decide) (by decide)) c]
              refine m_run (c_V (As := [.int (nI c), .int (nI k), .int (nI (gre (v1S σ c d a n) d)), .int (seI σ c)]) (rest := []) hx hb hml hl.1 hown hT hK hH.1 (c_T_give l g t (v1S σ c d a n) c k (gre (v1S σ c d a n) d) (seI σ c) H.size hc (by omega) (by omega) (kOK3 (v1S_r 3 (by decide) (by decide) (by decide)) hk)) kw_T_give w791 w793 selp_T_give w8 hd_T_give rfl rfl ⟨by decide, by decide⟩ (tw_t) rfl rfl rfl (Nat.le_of_ble_eq_true rfl) d_T_visitAt_206 ⟨by decide, by decide⟩) hH (fun rv M1 H locs hpost hH hzz hdm hfr => ?_)
              obtain rfl : M1 = tw g t (gvS (v1S σ c d a n) c k (gre (v1S σ c d a n) d) (seI σ c)) := hpost
              refine W.eq (g2 := F0 mi 209 ls []) rfl ?_
              refine lv_iload hx hb d_T_visitAt_209 (lv_at hl 4 rfl) ?_
              exact m_iret hx hb hr hlocks hsz hH (⟨rfl, by first | (unfold vsS v2S; rw [if_pos hg0]) | (unfold vsS v2S; rw [if_neg hg0, hi2, hbg])⟩) d_T_visitAt_211
          · skip
            have hk1 : ¬ k ≤ 1 := fun z => c7 (nI_le (b := 1) z (by decide))
            obtain ⟨j, hj⟩ : ∃ j, k = j + 1 := ⟨k - 1, by omega⟩
            refine lv_aload_n hx hb d_T_visitAt_166 rfl (lv_at hl 0 rfl) ?_
            refine m_get (ci := 7) (v := .ref (t + 8)) hx hb hT in_T hown hK hH.1 (tw_t) rfl 10 (by decide) (hT _ w682) (fun _ h9 => h9) rfl d_T_visitAt_167 ?_
            refine lv_sipush (v := 3001) hx hb d_T_visitAt_170 (by decide) ?_
            refine lv_iload_n hx hb d_T_visitAt_173 rfl (lv_at hl 2 rfl) ?_
            refine lv_imul hx hb d_T_visitAt_174 ?_
            refine lv_iload hx hb d_T_visitAt_175 (lv_at hl 6 rfl) ?_
            refine lv_iadd hx hb d_T_visitAt_177 ?_
            refine lv_iconst (v := 1) hx hb d_T_visitAt_178 (by decide) ?_
            refine lv_isub hx hb d_T_visitAt_179 ?_
            refine m_zald hx hb hK hH.1 2 (tw_8) rfl (j := 3001 * d + j) (by rw [hj]; exact ixd2 d j) (by omega) (by decide) d_T_visitAt_180 ?_
            refine lv_if_eq (tgt := 190) hx hb d_T_visitAt_181 (by decide) (fun c8 => ?_) (fun c8 => ?_)
            · skip
              have hbg : bgF (v1S σ c d a n) d k = k := by rw [hj]; exact if_pos (Or.inr c8)
              refine lv_iload hx hb d_T_visitAt_190 (lv_at hl 5 rfl) ?_
              refine lv_if_le (tgt := 209) hx hb d_T_visitAt_192 (by decide) (fun c9 => ?_) (fun c9 => ?_)
              · skip
                have hg0 : gre (v1S σ c d a n) d = 0 := by have := ge_of (b := 0) c9 (by omega) (by decide); omega
                refine lv_iload hx hb d_T_visitAt_209 (lv_at hl 4 rfl) ?_
                exact m_iret hx hb hr hlocks hsz hH (⟨rfl, by first | (unfold vsS v2S; rw [if_pos hg0]) | (unfold vsS v2S; rw [if_neg hg0, hi2, hbg])⟩) d_T_visitAt_211
              · skip
                have hg0 : ¬ gre (v1S σ c d a n) d = 0 := fun z => c9 (by rw [z]; decide)
                refine lv_aload_n hx hb d_T_visitAt_195 rfl (lv_at hl 0 rfl) ?_
                refine lv_iload_n hx hb d_T_visitAt_196 rfl (lv_at hl 1 rfl) ?_
                refine lv_iload hx hb d_T_visitAt_197 (lv_at hl 6 rfl) ?_
                refine lv_iload hx hb d_T_visitAt_199 (lv_at hl 5 rfl) ?_
                refine lv_aload_n hx hb d_T_visitAt_201 rfl (lv_at hl 0 rfl) ?_
                refine lv_iload_n hx hb d_T_visitAt_202 rfl (lv_at hl 1 rfl) ?_
                refine rd_run (c_V (As := [.int (nI c)]) (rest := [.int (nI (gre (v1S σ c d a n) d)), .int (nI k), .int (nI c), .ref t]) hx hb hml hl.1 hown hT hK hH.1 (c_T_seen l g t (v1S σ c d a n) c H.size hc) kw_T_seen w787 w789 selp_T_seen w8 hd_T_seen rfl rfl ⟨by decide, by decide⟩ (tw_t) rfl rfl rfl (Nat.le_of_ble_eq_true rfl) d_T_visitAt_203 ⟨by decide, by decide⟩) rfl ?_
                rw [show (seI (v1S σ c d a n) c) = seI σ c from se5 (v1S_r 5 (by decide) (by decide) (by decide)) c]
                refine m_run (c_V (As := [.int (nI c), .int (nI k), .int (nI (gre (v1S σ c d a n) d)), .int (seI σ c)]) (rest := []) hx hb hml hl.1 hown hT hK hH.1 (c_T_give l g t (v1S σ c d a n) c k (gre (v1S σ c d a n) d) (seI σ c) H.size hc (by omega) (by omega) (kOK3 (v1S_r 3 (by decide) (by decide) (by decide)) hk)) kw_T_give w791 w793 selp_T_give w8 hd_T_give rfl rfl ⟨by decide, by decide⟩ (tw_t) rfl rfl rfl (Nat.le_of_ble_eq_true rfl) d_T_visitAt_206 ⟨by decide, by decide⟩) hH (fun rv M1 H locs hpost hH hzz hdm hfr => ?_)
                obtain rfl : M1 = tw g t (gvS (v1S σ c d a n) c k (gre (v1S σ c d a n) d) (seI σ c)) := hpost
                refine W.eq (g2 := F0 mi 209 ls []) rfl ?_
                refine lv_iload hx hb d_T_visitAt_209 (lv_at hl 4 rfl) ?_
                exact m_iret hx hb hr hlocks hsz hH (⟨rfl, by first | (unfold vsS v2S; rw [if_pos hg0]) | (unfold vsS v2S; rw [if_neg hg0, hi2, hbg])⟩) d_T_visitAt_211
            · skip
              have hrec : bgF (v1S σ c d a n) d k = bgF (v1S σ c d a n) d j := by rw [hj]; exact if_neg (fun z => z.elim (fun z => by omega) c8)
              refine lv_iinc (v := nI j) (lv' := [(8, .int (nI j)), (0, .ref t), (1, .int (nI c)), (2, .int (nI d)), (3, .int day), (6, .int (anI σ (v1S σ c d a n) c d e2 day)), (7, .int (nI (gre (v1S σ c d a n) d)))]) hx hb d_T_visitAt_184 hl (k := 6) rfl (by rw [hj]; exact pk_m1 j) (by decide) rfl (fun ls hl => ?_)
              refine lv_goto (tgt := 160) hx hb d_T_visitAt_187 (by decide) ?_
              exact ih (_, _, _, j) ⟨lv_sub hl [1, 2, 3, 4, 5, 6, 0] rfl, hH, by dsimp only; omega, by rw [hi2, hrec], by dsimp only; omega⟩ (by dsimp only; omega)
        · skip
          refine lv_aload_n hx hb d_T_visitAt_110 rfl (lv_at hl 1 rfl) ?_
          refine lv_iload_n hx hb d_T_visitAt_111 rfl (lv_at hl 3 rfl) ?_
          refine lv_iload_n hx hb d_T_visitAt_112 rfl (lv_at hl 2 rfl) ?_
          refine rd_run (c_V (As := [.int (nI d), .int (nI c)]) (rest := []) hx hb hml hl.1 hown hT hK hH.1 (c_T_revokedAt l g t (v1S σ c d a n) d c e2 H.size hd2 hc ((congrFun (v1S_r 6 (by decide) (by decide) (by decide)) c).trans he) he2) kw_T_revokedAt w810 w812 selp_T_revokedAt w8 hd_T_revokedAt rfl rfl ⟨by decide, by decide⟩ (tw_t) rfl rfl rfl (Nat.le_of_ble_eq_true rfl) d_T_visitAt_113 ⟨by decide, by decide⟩) rfl ?_
          refine lv_if_eq (tgt := 123) hx hb d_T_visitAt_116 (by decide) (fun c4 => ?_) (fun c4 => ?_)
          · skip
            have c4 : ¬ ¬ rvI (v1S σ c d a n) d e2 = 0 := fun z => z c4
            refine lv_aload_n hx hb d_T_visitAt_123 rfl (lv_at hl 1 rfl) ?_
            refine m_get (ci := 7) (v := .ref (t + 2)) hx hb hT in_T hown hK hH.1 (tw_t) rfl 3 (by decide) (hT _ w675) (fun _ h9 => h9) rfl d_T_visitAt_124 ?_
            refine lv_iload_n hx hb d_T_visitAt_127 rfl (lv_at hl 2 rfl) ?_
            refine m_iald hx hb hK hH.1 0 (tw_2) rfl (j := c) (rfl) (by omega) (by decide) d_T_visitAt_128 ?_
            rw [show ((v1S σ c d a n) 2 (c)) = σ 2 c from congrFun (v1S_r 2 (by decide) (by decide) (by decide)) c]
            refine lv_iload_n hx hb d_T_visitAt_129 rfl (lv_at hl 4 rfl) ?_
            refine lv_icmp_ge (tgt := 137) hx hb d_T_visitAt_130 (by decide) (fun c5 => ?_) (fun c5 => ?_)
            · skip
              have c5 : ¬ ¬ day ≤ σ 2 c := fun z => z c5
              refine lv_iload hx hb d_T_visitAt_137 (lv_at hl 0 rfl) ?_
              refine lv_if_eq (tgt := 146) hx hb d_T_visitAt_139 (by decide) (fun c6 => ?_) (fun c6 => ?_)
              · skip
                have c6 : ¬ ¬ inI σ c d = 0 := fun z => z c6
                refine lv_iconst (v := 3) hx hb d_T_visitAt_146 (by decide) ?_
                exact hj _ (by first | (unfold anI; rw [if_pos c4]) | (unfold anI; rw [if_neg c4, if_neg c5, if_pos c6]) | (unfold anI; rw [if_neg c4, if_pos c5]) | (unfold anI; rw [if_neg c4, if_neg c5, if_neg c6]))
              · skip
                refine lv_iconst (v := 0) hx hb d_T_visitAt_142 (by decide) ?_
                refine lv_goto (tgt := 147) hx hb d_T_visitAt_143 (by decide) ?_
                exact hj _ (by first | (unfold anI; rw [if_pos c4]) | (unfold anI; rw [if_neg c4, if_neg c5, if_pos c6]) | (unfold anI; rw [if_neg c4, if_pos c5]) | (unfold anI; rw [if_neg c4, if_neg c5, if_neg c6]))
            · skip
              refine lv_iconst (v := 2) hx hb d_T_visitAt_133 (by decide) ?_
              refine lv_goto (tgt := 147) hx hb d_T_visitAt_134 (by decide) ?_
              exact hj _ (by first | (unfold anI; rw [if_pos c4]) | (unfold anI; rw [if_neg c4, if_neg c5, if_pos c6]) | (unfold anI; rw [if_neg c4, if_pos c5]) | (unfold anI; rw [if_neg c4, if_neg c5, if_neg c6]))
          · skip
            refine lv_iconst (v := 1) hx hb d_T_visitAt_119 (by decide) ?_
            refine lv_goto (tgt := 147) hx hb d_T_visitAt_120 (by decide) ?_
            exact hj _ (by first | (unfold anI; rw [if_pos c4]) | (unfold anI; rw [if_neg c4, if_neg c5, if_pos c6]) | (unfold anI; rw [if_neg c4, if_pos c5]) | (unfold anI; rw [if_neg c4, if_neg c5, if_neg c6]))
      · skip
        refine lv_aload_n hx hb d_T_visitAt_84 rfl (lv_at hl 0 rfl) ?_
        refine m_get (ci := 7) (v := .ref (t + 1)) hx hb hT in_T hown hK hH.1 (tw_t) rfl 2 (by decide) (hT _ w674) (fun _ h9 => h9) rfl d_T_visitAt_85 ?_
        refine lv_iload_n hx hb d_T_visitAt_88 rfl (lv_at hl 1 rfl) ?_
        refine m_iald hx hb hK hH.1 0 (tw_1) rfl (j := c) (rfl) (by omega) (by decide) d_T_visitAt_89 ?_
        rw [show ((v1S σ c d a n) 1 (c)) = σ 1 c from congrFun (v1S_r 1 (by decide) (by decide) (by decide)) c]
        refine lv_aload_n hx hb d_T_visitAt_90 rfl (lv_at hl 0 rfl) ?_
        refine m_get (ci := 7) (v := .ref (t + 9)) hx hb hT in_T hown hK hH.1 (tw_t) rfl 11 (by decide) (hT _ w683) (fun _ h9 => h9) rfl d_T_visitAt_91 ?_
        refine lv_iload_n hx hb d_T_visitAt_94 rfl (lv_at hl 2 rfl) ?_
        refine m_iald hx hb hK hH.1 0 (tw_9) rfl (j := d) (rfl) (by omega) (by decide) d_T_visitAt_95 ?_
        rw [show ((v1S σ c d a n) 9 (d)) = σ 9 d from congrFun (v1S_r 9 (by decide) (by decide) (by decide)) d]
        refine lv_ishr hx hb d_T_visitAt_96 ?_
        refine lv_iconst (v := 1) hx hb d_T_visitAt_97 (by decide) ?_
        refine lv_iand hx hb d_T_visitAt_98 ?_
        refine lv_iconst (v := 1) hx hb d_T_visitAt_99 (by decide) ?_
        refine lv_icmp_ne (tgt := 107) hx hb d_T_visitAt_100 (by decide) (fun c3 => ?_) (fun c3 => ?_)
        · skip
          refine lv_iconst (v := 0) hx hb d_T_visitAt_107 (by decide) ?_
          exact hj _ (by first | (unfold inI; rw [if_pos c3]) | (unfold inI; rw [if_neg c3]))
        · skip
          have c3 : ¬ ¬ (σ 1 c >>> (σ 9 d &&& 31)) &&& 1 = 1 := fun z => z c3
          refine lv_iconst (v := 1) hx hb d_T_visitAt_103 (by decide) ?_
          refine lv_goto (tgt := 108) hx hb d_T_visitAt_104 (by decide) ?_
          exact hj _ (by first | (unfold inI; rw [if_pos c3]) | (unfold inI; rw [if_neg c3]))
    · skip
      refine lv_aload_n hx hb d_T_visitAt_55 rfl (lv_at hl 0 rfl) ?_
      refine lv_iload_n hx hb d_T_visitAt_56 rfl (lv_at hl 1 rfl) ?_
      refine rd_run (c_V (As := [.int (nI c)]) (rest := [.int (nI d), .ref (t + 11)]) hx hb hml hl.1 hown hT hK hH.1 (c_T_seen l g t (tkS (su σ 10 d 1) d a n) c H.size hc) kw_T_seen w787 w789 selp_T_seen w8 hd_T_seen rfl rfl ⟨by decide, by decide⟩ (tw_t) rfl rfl rfl (Nat.le_of_ble_eq_true rfl) d_T_visitAt_57 ⟨by decide, by decide⟩) rfl ?_
      rw [show (seI (tkS (su σ 10 d 1) d a n) c) = seI σ c from se5 ((tkS_r 5 (by decide) n).trans (su_kf (by decide))) c]
      refine lv_aload_n hx hb d_T_visitAt_60 rfl (lv_at hl 0 rfl) ?_
      refine m_get (ci := 7) (v := .ref (t + 11)) hx hb hT in_T hown hK hH.1 (tw_t) rfl 13 (by decide) (hT _ w685) (fun _ h9 => h9) rfl d_T_visitAt_61 ?_
      refine lv_iload_n hx hb d_T_visitAt_64 rfl (lv_at hl 2 rfl) ?_
      refine m_iald hx hb hK hH.1 0 (tw_11) rfl (j := d) (rfl) (by omega) (by decide) d_T_visitAt_65 ?_
      rw [show ((tkS (su σ 10 d 1) d a n) 11 (d)) = σ 11 d from congrFun ((tkS_r 11 (by decide) n).trans (su_kf (by decide))) d]
      refine lv_icmp_le (tgt := 77) hx hb d_T_visitAt_66 (by decide) (fun c2 => ?_) (fun c2 => ?_)
      · skip
        refine lv_aload_n hx hb d_T_visitAt_77 rfl (lv_at hl 0 rfl) ?_
        refine m_get (ci := 7) (v := .ref (t + 11)) hx hb hT in_T hown hK hH.1 (tw_t) rfl 13 (by decide) (hT _ w685) (fun _ h9 => h9) rfl d_T_visitAt_78 ?_
        refine lv_iload_n hx hb d_T_visitAt_81 rfl (lv_at hl 2 rfl) ?_
        refine m_iald hx hb hK hH.1 0 (tw_11) rfl (j := d) (rfl) (by omega) (by decide) d_T_visitAt_82 ?_
        rw [show ((tkS (su σ 10 d 1) d a n) 11 (d)) = σ 11 d from congrFun ((tkS_r 11 (by decide) n).trans (su_kf (by decide))) d]
        exact hj _ (by first | (unfold mxI; rw [if_pos c2]) | (unfold mxI; rw [if_neg c2]))
      · skip
        refine lv_aload_n hx hb d_T_visitAt_69 rfl (lv_at hl 0 rfl) ?_
        refine lv_iload_n hx hb d_T_visitAt_70 rfl (lv_at hl 1 rfl) ?_
        refine rd_run (c_V (As := [.int (nI c)]) (rest := [.int (nI d), .ref (t + 11)]) hx hb hml hl.1 hown hT hK hH.1 (c_T_seen l g t (tkS (su σ 10 d 1) d a n) c H.size hc) kw_T_seen w787 w789 selp_T_seen w8 hd_T_seen rfl rfl ⟨by decide, by decide⟩ (tw_t) rfl rfl rfl (Nat.le_of_ble_eq_true rfl) d_T_visitAt_71 ⟨by decide, by decide⟩) rfl ?_
        rw [show (seI (tkS (su σ 10 d 1) d a n) c) = seI σ c from se5 ((tkS_r 5 (by decide) n).trans (su_kf (by decide))) c]
        refine lv_goto (tgt := 83) hx hb d_T_visitAt_74 (by decide) ?_
        exact hj _ (by first | (unfold mxI; rw [if_pos c2]) | (unfold mxI; rw [if_neg c2]))
  · skip
    have hkn : k < n := by rcases Nat.lt_or_ge k n with h9 | h9; exact h9; exact absurd (nI_le h9 (by omega)) c1
    refine lv_aload_n hx hb d_T_visitAt_27 rfl (lv_at hl 0 rfl) ?_
    refine m_get (ci := 7) (v := .ref (t + 8)) hx hb hT in_T hown hK hH.1 (tw_t) rfl 10 (by decide) (hT _ w682) (fun _ h9 => h9) rfl d_T_visitAt_28 ?_
    refine lv_sipush (v := 3001) hx hb d_T_visitAt_31 (by decide) ?_
    refine lv_iload_n hx hb d_T_visitAt_34 rfl (lv_at hl 2 rfl) ?_
    refine lv_imul hx hb d_T_visitAt_35 ?_
    refine lv_iload hx hb d_T_visitAt_36 (lv_at hl 4 rfl) ?_
    refine lv_iadd hx hb d_T_visitAt_38 ?_
    refine lv_iload hx hb d_T_visitAt_39 (lv_at hl 5 rfl) ?_
    refine lv_iadd hx hb d_T_visitAt_41 ?_
    refine lv_iconst (v := 1) hx hb d_T_visitAt_42 (by decide) ?_
    refine m_zast hx hb hK hH 2 (tw_8) rfl (j := 3001 * d + a + k) (ixd3 d a k) (by omega) (by decide) d_T_visitAt_43 (fun H locs hH hzz => ?_)
    rw [show vp_nar .boolean 1 = 1 from rfl] at hH
    replace hH := tws_8 hH
    refine lv_iinc (v := nI (k + 1)) (lv' := [(5, .int (nI (k + 1))), (0, .ref t), (1, .int (nI c)), (2, .int (nI d)), (3, .int day), (4, .int (nI a))]) hx hb d_T_visitAt_44 hl (k := 5) rfl (nI_1 k) (by decide) rfl (fun ls hl => ?_)
    refine lv_goto (tgt := 17) hx hb d_T_visitAt_47 (by decide) ?_
    exact ih (_, _, _, k + 1) ⟨lv_sub hl [1, 2, 3, 4, 5, 0] rfl, hH, by dsimp only; omega⟩ (by dsimp only; omega)
