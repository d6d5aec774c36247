/-! spread: one visit behind the other. -/
noncomputable def vtS (σ : SG) (c d : Nat) : SG := vsS σ c d (fiI σ c).toNatClampNeg (cnI σ c).toNatClampNeg
noncomputable def vtA (σ : SG) (c d : Nat) (day : Int32) : Int32 := anI σ (v1S σ c d (fiI σ c).toNatClampNeg (cnI σ c).toNatClampNeg) c d (σ 6 c).toNatClampNeg day
noncomputable def sp1 (σ : SG) (k : Nat) : SG := if σ 12 k = 0 then σ else vtS σ (σ 13 k).toNatClampNeg (σ 14 k).toNatClampNeg
noncomputable def spS (σ : SG) : Nat → SG
  | 0 => su σ 0 0 0
  | k + 1 => sp1 (spS σ k) k
noncomputable def spN (σ : SG) : Nat → Nat
  | 0 => 0
  | k + 1 => if spS σ k 12 k = 0 then spN σ k else if vtA (spS σ k) (spS σ k 13 k).toNatClampNeg (spS σ k 14 k).toNatClampNeg (spS σ k 15 k) = 0 then spN σ k + 1 else spN σ k
theorem wt_row {σ : SG} {c a n r : Nat} {v : Int32} (h5 : r ≠ 5) (h4 : r ≠ 4) (h3 : r ≠ 3) : wtS σ c a n v r = σ r := by
  unfold wtS
  split
  · rfl
  · unfold wrS
    rw [su_kf h3, wl_row σ c a n v h5 h4]
theorem vs_row {σ : SG} {c d a n r : Nat} (h : r = 0 ∨ r = 1 ∨ r = 2) : vsS σ c d a n r = σ r := by
  unfold vsS v2S
  split
  · exact sr_v1 (by omega) (by omega) (by omega)
  · unfold gvS
    rw [wt_row (by omega) (by omega) (by omega)]
    exact sr_v1 (by omega) (by omega) (by omega)
theorem sp_code (σ : SG) : ∀ k, spS σ k 0 0 = 0
  | 0 => su_s
  | k + 1 => by
    show sp1 (spS σ k) k 0 0 = 0
    unfold sp1
    split
    · exact sp_code σ k
    · unfold vtS
      rw [vs_row (Or.inl rfl)]
      exact sp_code σ k
theorem spN_le (σ : SG) : ∀ k, spN σ k ≤ k
  | 0 => Nat.le_refl 0
  | k + 1 => by
    have := spN_le σ k
    show (if spS σ k 12 k = 0 then spN σ k else if vtA (spS σ k) (spS σ k 13 k).toNatClampNeg (spS σ k 14 k).toNatClampNeg (spS σ k 15 k) = 0 then spN σ k + 1 else spN σ k) ≤ k + 1
    repeat' split
    all_goals omega
theorem sp_0 {σ : SG} {k : Nat} (h : spS σ k 12 k = 0) : spS σ (k + 1) = spS σ k ∧ spN σ (k + 1) = spN σ k := ⟨if_pos h, if_pos h⟩
theorem sp_step {ν : Nat → Nat} {χ σ : SG} {k : Nat} (h : RI ν χ (spS σ k)) (hk : k < 200) (hs : ¬ spS σ k 12 k = 0) : ∃ c d a n e z, c < ν 0 ∧ d < 200 ∧ (spS σ k 13 k = nI c ∧ spS σ k 14 k = nI d ∧ χ 13 k = nI c ∧ χ 14 k = nI d ∧ χ 15 k = spS σ k 15 k) ∧ χ (rW c (xcur χ c)) 1 = nI a ∧ xcn χ c (xcur χ c) = nI n ∧ fiI (spS σ k) c = nI a ∧ cnI (spS σ k) c = nI n ∧ a + n ≤ 601 ∧ n ≤ 40 ∧ χ 6 c = nI e ∧ (spS σ k) 6 c = nI e ∧ e ≤ 600 ∧ χ 9 d = nI z ∧ χ 17 d = nI (gre (spS σ k) d) ∧ gre (spS σ k) d ≤ 600 ∧ kOK (spS σ k) c ∧ (∀ day, xjd ν (tkE ν χ c (xcur χ c) d a n) c d e z day = anI (spS σ k) (v1S (spS σ k) c d a n) c d e day) ∧ RI ν (psS ν (tkE ν χ c (xcur χ c) d a n) c d (if n = 0 then gre (spS σ k) d else if gre (spS σ k) d < a + n - 1 then a + n - 1 else gre (spS σ k) d)) (vsS (spS σ k) c d a n) ∧ spS σ (k + 1) = vsS (spS σ k) c d a n ∧ spN σ (k + 1) = if anI (spS σ k) (v1S (spS σ k) c d a n) c d e (spS σ k 15 k) = 0 then spN σ k + 1 else spN σ k := by
  have hne := h.ne
  obtain ⟨-, v2, v3⟩ := h.2.2.2.2.2.2 k hk
  obtain ⟨y1, y2, c, d, hc, hd, y3, y4⟩ := v2 hs
  obtain ⟨a, n, e, z, q1, q2, q3, q4, q5, q6, q7, q8, q9, q10, q11, q12, q13, q14, q15⟩ := RI_visit h hc hd
  refine ⟨c, d, a, n, e, z, hc, hd, ⟨y3, y4, y1.trans y3, y2.trans y4, v3⟩, q1, q2, q3, q4, q5, q6, q7, q8, q9, q10, q11, q12, q13, q14, q15, ?_, ?_⟩
  · show sp1 (spS σ k) k = _
    unfold sp1 vtS
    rw [if_neg hs, y3, y4, nI_clamp (by omega), nI_clamp (by omega), q3, q4, nI_clamp (by omega), nI_clamp (by omega)]
  · show (if spS σ k 12 k = 0 then spN σ k else if vtA (spS σ k) (spS σ k 13 k).toNatClampNeg (spS σ k 14 k).toNatClampNeg (spS σ k 15 k) = 0 then spN σ k + 1 else spN σ k) = _
    unfold vtA
    rw [if_neg hs, y3, y4, nI_clamp (by omega), nI_clamp (by omega), q3, q4, nI_clamp (by omega), nI_clamp (by omega), q8, nI_clamp (by omega)]
theorem sp_no {ν : Nat → Nat} {χ σ : SG} {k : Nat} (h : RI ν χ (spS σ k)) (hk : k < 200) : xic ν (χ 13 k) = 0 ↔ spS σ k 12 k = 0 := by
  have hne := h.ne
  obtain ⟨v1, v2, -⟩ := h.2.2.2.2.2.2 k hk
  constructor
  · intro hz
    refine Classical.not_not.mp (fun hs => ?_)
    obtain ⟨y1, -, c, -, hc, -, y3, -⟩ := v2 hs
    rw [y1, y3] at hz
    exact xic_1 hc hne.1 hz
  · intro hz
    rw [v1 hz]
    unfold xic
    rw [if_pos (Or.inl (by decide))]
theorem sp_RI {ν : Nat → Nat} {χ σ : SG} (h : RI ν χ σ) : ∀ k, k ≤ 200 → ∃ χ', RI ν χ' (spS σ k)
  | 0, _ => ⟨χ, h.code 0⟩
  | k + 1, hk => by
    obtain ⟨χ', h'⟩ := sp_RI h k (by omega)
    by_cases hs : spS σ k 12 k = 0
    · rw [(sp_0 hs).1]; exact ⟨χ', h'⟩
    · obtain ⟨c, d, a, n, e, z, -, -, -, -, -, -, -, -, -, -, -, -, -, -, -, -, -, q, r, -⟩ := sp_step h' (by omega) hs
      rw [r]; exact ⟨_, q⟩
set_option maxHeartbeats 4000000 in
set_option maxRecDepth 100000 in
theorem c_T_spread_b (l : Launch) (g : GG) (t : Nat) (σ : SG) (x : Int32) (sz : Nat) (hz : x < 0 ∨ ¬ x ≤ 200) : Met l y_T_spread (k_T_spread :: TT) { frames := 9, cells := 0, slots := 0, locals := 218 } (Pm g [.ref t, .int x] sz (tw g t σ)) (Qm g (tw g t σ) (fun r : Int32 => some (.int r)) (fun r M1 => r = 0 ∧ M1 = tw g t (su σ 0 0 1))) 0 0 (mA (tw g t σ) sz) := by
  refine met_of (by decide) (Nat.le_of_ble_eq_true rfl) ?_
  intro pr en s mi below meth co hx hb hr hml hown hlocks hnm hT hsz hP hK ls hl
  have hl : lv_has ls 4 [(0, .ref t), (1, .int x)] := hl
  have hH := HS.start hP
  refine lv_aload_n hx hb d_T_spread_0 rfl (lv_at hl 0 rfl) ?_
  refine lv_iload_n hx hb d_T_spread_1 rfl (lv_at hl 1 rfl) ?_
  refine lv_if_lt (tgt := 12) hx hb d_T_spread_2 (by decide) (fun c1 => ?_) (fun c1 => ?_)
  · skip
    refine lv_iconst (v := 1) hx hb d_T_spread_12 (by decide) ?_
    refine lv_goto (tgt := 17) hx hb d_T_spread_13 (by decide) ?_
    refine m_put (ci := 7) (v := .int 1) (ty := .int) hx hb hT in_T ty_T tk_T nm_T hown hK hH (tw_t) rfl 0 (by decide) (hT _ w672) (fun _ h9 => h9) rfl (by decide +kernel) rfl rfl (Nat.le_of_ble_eq_true rfl) d_T_spread_17 (e1 := oT t (su (σ) 0 0 1)) rfl (fun H locs hH hzz => ?_)
    replace hH := two hH
    refine lv_iconst (v := 0) hx hb d_T_spread_20 (by decide) ?_
    refine lv_istore_n (lv' := [(2, .int 0), (0, .ref t), (1, .int x)]) hx hb d_T_spread_21 rfl hl (by decide) rfl (fun ls hl => ?_)
    refine lv_iconst (v := 0) hx hb d_T_spread_22 (by decide) ?_
    refine lv_istore_n (lv' := [(3, .int 0), (2, .int 0), (0, .ref t), (1, .int x)]) hx hb d_T_spread_23 rfl hl (by decide) rfl (fun ls hl => ?_)
    refine lv_iload_n hx hb d_T_spread_24 rfl (lv_at hl 0 rfl) ?_
    refine lv_iload_n hx hb d_T_spread_25 rfl (lv_at hl 3 rfl) ?_
    refine lv_icmp_ge (tgt := 84) hx hb d_T_spread_26 (by decide) (fun c2 => ?_) (fun c2 => ?_)
    · skip
      refine lv_iload_n hx hb d_T_spread_84 rfl (lv_at hl 1 rfl) ?_
      exact m_iret hx hb hr hlocks hsz hH (⟨rfl, rfl⟩) d_T_spread_85
    · skip
      refine lv_aload_n hx hb d_T_spread_29 rfl (lv_at hl 2 rfl) ?_
      refine m_get (ci := 7) (v := .int 1) hx hb hT in_T hown hK hH.1 (tw_t) rfl 0 (by decide) (hT _ w672) (fun _ h9 => h9) rfl d_T_spread_30 ?_
      refine lv_if_ne (tgt := 84) hx hb d_T_spread_33 (by decide) (fun _ => ?_) (fun hq9 => absurd hq9 ((by decide : ¬ (1 : Int32) = 0)))
      refine lv_iload_n hx hb d_T_spread_84 rfl (lv_at hl 1 rfl) ?_
      exact m_iret hx hb hr hlocks hsz hH (⟨rfl, rfl⟩) d_T_spread_85
  · skip
    refine lv_iload_n hx hb d_T_spread_5 rfl (lv_at hl 1 rfl) ?_
    refine lv_sipush (v := 200) hx hb d_T_spread_6 (by decide) ?_
    refine lv_icmp_le (tgt := 16) hx hb d_T_spread_9 (by decide) (fun hq9 => absurd hq9 (hz.elim (fun q => absurd q c1) id)) (fun _ => ?_)
    refine lv_iconst (v := 1) hx hb d_T_spread_12 (by decide) ?_
    refine lv_goto (tgt := 17) hx hb d_T_spread_13 (by decide) ?_
    refine m_put (ci := 7) (v := .int 1) (ty := .int) hx hb hT in_T ty_T tk_T nm_T hown hK hH (tw_t) rfl 0 (by decide) (hT _ w672) (fun _ h9 => h9) rfl (by decide +kernel) rfl rfl (Nat.le_of_ble_eq_true rfl) d_T_spread_17 (e1 := oT t (su (σ) 0 0 1)) rfl (fun H locs hH hzz => ?_)
    replace hH := two hH
    refine lv_iconst (v := 0) hx hb d_T_spread_20 (by decide) ?_
    refine lv_istore_n (lv' := [(2, .int 0), (0, .ref t), (1, .int x)]) hx hb d_T_spread_21 rfl hl (by decide) rfl (fun ls hl => ?_)
    refine lv_iconst (v := 0) hx hb d_T_spread_22 (by decide) ?_
    refine lv_istore_n (lv' := [(3, .int 0), (2, .int 0), (0, .ref t), (1, .int x)]) hx hb d_T_spread_23 rfl hl (by decide) rfl (fun ls hl => ?_)
    refine lv_iload_n hx hb d_T_spread_24 rfl (lv_at hl 0 rfl) ?_
    refine lv_iload_n hx hb d_T_spread_25 rfl (lv_at hl 3 rfl) ?_
    refine lv_icmp_ge (tgt := 84) hx hb d_T_spread_26 (by decide) (fun c2 => ?_) (fun c2 => ?_)
    · skip
      refine lv_iload_n hx hb d_T_spread_84 rfl (lv_at hl 1 rfl) ?_
      exact m_iret hx hb hr hlocks hsz hH (⟨rfl, rfl⟩) d_T_spread_85
    · skip
      refine lv_aload_n hx hb d_T_spread_29 rfl (lv_at hl 2 rfl) ?_
      refine m_get (ci := 7) (v := .int 1) hx hb hT in_T hown hK hH.1 (tw_t) rfl 0 (by decide) (hT _ w672) (fun _ h9 => h9) rfl d_T_spread_30 ?_
      refine lv_if_ne (tgt := 84) hx hb d_T_spread_33 (by decide) (fun _ => ?_) (fun hq9 => absurd hq9 ((by decide : ¬ (1 : Int32) = 0)))
      refine lv_iload_n hx hb d_T_spread_84 rfl (lv_at hl 1 rfl) ?_
      exact m_iret hx hb hr hlocks hsz hH (⟨rfl, rfl⟩) d_T_spread_85
set_option maxHeartbeats 4000000 in
set_option maxRecDepth 100000 in
theorem c_T_spread (l : Launch) (g : GG) (t : Nat) (σ : SG) (ν : Nat → Nat) (χ : SG) (n : Nat) (sz : Nat) (hR : RI ν χ σ) (hn : n ≤ 200) : Met l y_T_spread (k_T_spread :: TT) { frames := 9, cells := 0, slots := 0, locals := 218 } (Pm g [.ref t, .int (nI n)] sz (tw g t σ)) (Qm g (tw g t σ) (fun r : Int32 => some (.int r)) (fun r M1 => r = nI (spN σ n) ∧ M1 = tw g t (spS σ n))) 0 0 (mA (tw g t σ) sz) := by
  refine met_of (by decide) (Nat.le_of_ble_eq_true rfl) ?_
  intro pr en s mi below meth co hx hb hr hml hown hlocks hnm hT hsz hP hK ls hl
  have hl : lv_has ls 4 [(0, .ref t), (1, .int (nI n))] := hl
  have hH := HS.start hP
  have hne := hR.ne
  refine lv_aload_n hx hb d_T_spread_0 rfl (lv_at hl 0 rfl) ?_
  refine lv_iload_n hx hb d_T_spread_1 rfl (lv_at hl 1 rfl) ?_
  refine lv_if_lt (tgt := 12) hx hb d_T_spread_2 (by decide) (fun hq9 => absurd hq9 (nI_pos (by omega))) (fun _ => ?_)
  refine lv_iload_n hx hb d_T_spread_5 rfl (lv_at hl 1 rfl) ?_
  refine lv_sipush (v := 200) hx hb d_T_spread_6 (by decide) ?_
  refine lv_icmp_le (tgt := 16) hx hb d_T_spread_9 (by decide) (fun _ => ?_) (fun hq9 => absurd (nI_le (b := 200) (by omega) (by decide)) hq9)
  refine lv_iconst (v := 0) hx hb d_T_spread_16 (by decide) ?_
  refine m_put (ci := 7) (v := .int 0) (ty := .int) hx hb hT in_T ty_T tk_T nm_T hown hK hH (tw_t) rfl 0 (by decide) (hT _ w672) (fun _ h9 => h9) rfl (by decide +kernel) rfl rfl (Nat.le_of_ble_eq_true rfl) d_T_spread_17 (e1 := oT t (su (σ) 0 0 0)) rfl (fun H locs hH hzz => ?_)
  replace hH := two hH
  refine lv_iconst (v := 0) hx hb d_T_spread_20 (by decide) ?_
  refine lv_istore_n (lv' := [(2, .int 0), (0, .ref t), (1, .int (nI n))]) hx hb d_T_spread_21 rfl hl (by decide) rfl (fun ls hl => ?_)
  refine lv_iconst (v := 0) hx hb d_T_spread_22 (by decide) ?_
  refine lv_istore_n (lv' := [(3, .int 0), (2, .int 0), (0, .ref t), (1, .int (nI n))]) hx hb d_T_spread_23 rfl hl (by decide) rfl (fun ls hl => ?_)
  refine W.rep (α := Heap × List Loc × Array Slot × Nat) (fun (H, locs, ls, k) => n - k) (fun (H, locs, ls, k) => lv_has ls 4 [(0, .ref t), (1, .int (nI n)), (2, .int (nI (spN σ k))), (3, .int (nI k))] ∧ HS g (mA (tw g t σ) s.heap.size) s.heap (tw g t (spS σ k)) H locs ∧ k ≤ n) (fun (H, locs, ls, k) => H) (fun (H, locs, ls, k) => locs) (fun (H, locs, ls, k) => F0 mi 24 ls []) ?_ (H, locs, ls, 0) ⟨lv_sub hl [2, 3, 1, 0] rfl, hH, by omega⟩
  rintro ⟨H, locs, ls, k⟩ ⟨hl, hH, hi1⟩ ih
  dsimp only at hl hH hi1 ih ⊢
  refine lv_iload_n hx hb d_T_spread_24 rfl (lv_at hl 3 rfl) ?_
  refine lv_iload_n hx hb d_T_spread_25 rfl (lv_at hl 1 rfl) ?_
  refine lv_icmp_ge (tgt := 84) hx hb d_T_spread_26 (by decide) (fun c0 => ?_) (fun c0 => ?_)
  · skip
    have hkn : n = k := by have := ge_of c0 (by omega) (by omega); omega
    subst hkn
    refine lv_iload_n hx hb d_T_spread_84 rfl (lv_at hl 2 rfl) ?_
    exact m_iret hx hb hr hlocks hsz hH (⟨rfl, rfl⟩) d_T_spread_85
  · skip
    have hkn : k < n := by rcases Nat.lt_or_ge k n with h9 | h9; exact h9; exact absurd (nI_le h9 (by omega)) c0
    obtain ⟨χ9, h9⟩ := sp_RI hR k (by omega)
    refine lv_aload_n hx hb d_T_spread_29 rfl (lv_at hl 0 rfl) ?_
    refine m_get (ci := 7) (v := .int ((spS σ k) 0 0)) hx hb hT in_T hown hK hH.1 (tw_t) rfl 0 (by decide) (hT _ w672) (fun _ h9 => h9) rfl d_T_spread_30 ?_
    rw [show ((spS σ k) 0 0) = 0 from sp_code σ k]
    refine lv_if_ne (tgt := 84) hx hb d_T_spread_33 (by decide) (fun hq9 => absurd ((rfl : (0 : Int32) = 0)) hq9) (fun _ => ?_)
    refine lv_aload_n hx hb d_T_spread_36 rfl (lv_at hl 0 rfl) ?_
    refine m_get (ci := 7) (v := .ref (t + 12)) hx hb hT in_T hown hK hH.1 (tw_t) rfl 14 (by decide) (hT _ w686) (fun _ h9 => h9) rfl d_T_spread_37 ?_
    refine lv_iload_n hx hb d_T_spread_40 rfl (lv_at hl 3 rfl) ?_
    refine m_zald hx hb hK hH.1 2 (tw_12) rfl (j := k) (rfl) (by omega) (by decide) d_T_spread_41 ?_
    refine lv_if_eq (tgt := 78) hx hb d_T_spread_42 (by decide) (fun c1 => ?_) (fun c1 => ?_)
    · skip
      obtain ⟨hrec, hrecn⟩ := sp_0 c1
      refine lv_iinc (v := nI (k + 1)) (lv' := [(3, .int (nI (k + 1))), (0, .ref t), (1, .int (nI n)), (2, .int (nI (spN σ k)))]) hx hb d_T_spread_78 hl (k := 3) rfl (nI_1 k) (by decide) rfl (fun ls hl => ?_)
      refine lv_goto (tgt := 24) hx hb d_T_spread_81 (by decide) ?_
      exact ih (_, _, _, k + 1) ⟨by rw [hrecn]; exact lv_sub hl [1, 2, 3, 0] rfl, (by rw [hrec]; exact hH), by dsimp only; omega⟩ (by dsimp only; omega)
    · skip
      obtain ⟨c, d, a, m, e, z, hc, hd, ⟨p13, p14, x13, x14, x15⟩, f1, f2, f3, f4, f5, f6, f7, f8, f9, f10, f11, f12, f13, f14, f15, f16, f17⟩ := sp_step h9 (by omega) c1
      have hrec := f16
      refine lv_aload_n hx hb d_T_spread_45 rfl (lv_at hl 0 rfl) ?_
      refine lv_aload_n hx hb d_T_spread_46 rfl (lv_at hl 0 rfl) ?_
      refine m_get (ci := 7) (v := .ref (t + 13)) hx hb hT in_T hown hK hH.1 (tw_t) rfl 15 (by decide) (hT _ w687) (fun _ h9 => h9) rfl d_T_spread_47 ?_
      refine lv_iload_n hx hb d_T_spread_50 rfl (lv_at hl 3 rfl) ?_
      refine m_iald hx hb hK hH.1 0 (tw_13) rfl (j := k) (rfl) (by omega) (by decide) d_T_spread_51 ?_
      rw [show ((spS σ k) 13 (k)) = nI c from p13]
      refine lv_aload_n hx hb d_T_spread_52 rfl (lv_at hl 0 rfl) ?_
      refine m_get (ci := 7) (v := .ref (t + 14)) hx hb hT in_T hown hK hH.1 (tw_t) rfl 16 (by decide) (hT _ w688) (fun _ h9 => h9) rfl d_T_spread_53 ?_
      refine lv_iload_n hx hb d_T_spread_56 rfl (lv_at hl 3 rfl) ?_
      refine m_iald hx hb hK hH.1 0 (tw_14) rfl (j := k) (rfl) (by omega) (by decide) d_T_spread_57 ?_
      rw [show ((spS σ k) 14 (k)) = nI d from p14]
      refine lv_aload_n hx hb d_T_spread_58 rfl (lv_at hl 0 rfl) ?_
      refine m_get (ci := 7) (v := .ref (t + 15)) hx hb hT in_T hown hK hH.1 (tw_t) rfl 17 (by decide) (hT _ w689) (fun _ h9 => h9) rfl d_T_spread_59 ?_
      refine lv_iload_n hx hb d_T_spread_62 rfl (lv_at hl 3 rfl) ?_
      refine m_iald hx hb hK hH.1 0 (tw_15) rfl (j := k) (rfl) (by omega) (by decide) d_T_spread_63 ?_
      refine m_run (c_V (As := [.int (nI c), .int (nI d), .int ((spS σ k) 15 (k))]) (rest := []) hx hb hml hl.1 hown hT hK hH.1 (c_T_visitAt l g t (spS σ k) c d a m e (spS σ k 15 k) H.size (by omega) hd f3 f4 (by omega) f6 f8 (by omega) f13) kw_T_visitAt w806 w808 selp_T_visitAt w8 hd_T_visitAt rfl rfl ⟨by decide, by decide⟩ (tw_t) rfl rfl rfl (Nat.le_of_ble_eq_true rfl) d_T_spread_64 ⟨by decide, by decide⟩) hH (fun rv M1 H locs hpost hH hzz hdm hfr => ?_)
      obtain ⟨rfl, rfl⟩ : rv = anI (spS σ k) (v1S (spS σ k) c d a m) c d e (spS σ k 15 k) ∧ M1 = tw g t (vsS (spS σ k) c d a m) := hpost
      refine W.eq (g2 := F0 mi 67 ls [.int (anI (spS σ k) (v1S (spS σ k) c d a m) c d e (spS σ k 15 k))]) rfl ?_
      refine lv_if_ne (tgt := 76) hx hb d_T_spread_67 (by decide) (fun c2 => ?_) (fun c2 => ?_)
      · skip
        have hrecn : spN σ (k + 1) = spN σ k := by rw [f17, if_neg c2]
        refine lv_iload_n hx hb d_T_spread_76 rfl (lv_at hl 2 rfl) ?_
        refine lv_istore_n (lv' := [(2, .int (nI (spN σ k))), (0, .ref t), (1, .int (nI n)), (3, .int (nI k))]) hx hb d_T_spread_77 rfl hl (by decide) rfl (fun ls hl => ?_)
        refine lv_iinc (v := nI (k + 1)) (lv' := [(3, .int (nI (k + 1))), (2, .int (nI (spN σ k))), (0, .ref t), (1, .int (nI n))]) hx hb d_T_spread_78 hl (k := 3) rfl (nI_1 k) (by decide) rfl (fun ls hl => ?_)
        refine lv_goto (tgt := 24) hx hb d_T_spread_81 (by decide) ?_
        exact ih (_, _, _, k + 1) ⟨by rw [hrecn]; exact lv_sub hl [2, 3, 1, 0] rfl, (by rw [hrec]; exact hH), by dsimp only; omega⟩ (by dsimp only; omega)
      · skip
        have hrecn : spN σ (k + 1) = spN σ k + 1 := by rw [f17, if_pos c2]
        refine lv_iload_n hx hb d_T_spread_70 rfl (lv_at hl 2 rfl) ?_
        refine lv_iconst (v := 1) hx hb d_T_spread_71 (by decide) ?_
        refine lv_iadd hx hb d_T_spread_72 ?_
        rw [show ((nI (spN σ k)) + 1) = nI (spN σ k + 1) from nI_1 _]
        refine lv_goto (tgt := 77) hx hb d_T_spread_73 (by decide) ?_
        refine lv_istore_n (lv' := [(2, .int (nI (spN σ k + 1))), (0, .ref t), (1, .int (nI n)), (3, .int (nI k))]) hx hb d_T_spread_77 rfl hl (by decide) rfl (fun ls hl => ?_)
        refine lv_iinc (v := nI (k + 1)) (lv' := [(3, .int (nI (k + 1))), (2, .int (nI (spN σ k + 1))), (0, .ref t), (1, .int (nI n))]) hx hb d_T_spread_78 hl (k := 3) rfl (nI_1 k) (by decide) rfl (fun ls hl => ?_)
        refine lv_goto (tgt := 24) hx hb d_T_spread_81 (by decide) ?_
        exact ih (_, _, _, k + 1) ⟨by rw [hrecn]; exact lv_sub hl [2, 3, 1, 0] rfl, (by rw [hrec]; exact hH), by dsimp only; omega⟩ (by dsimp only; omega)
set_option maxHeartbeats 4000000 in
set_option maxRecDepth 100000 in
theorem c_H_spread (l : Launch) (g : GG) (M : MW) (α : AL3) (ν : Nat → Nat) (χ : SG) (σ : SG) (n : Nat) (sz : Nat) (hW : HW g α ν χ M) (hN : nOK ν) (hR : RI ν χ σ) (hn : n ≤ 200) : Met l y_H_spread (k_H_spread :: TT) { frames := 7, cells := 0, slots := 0, locals := 161 } (Pm g [.ref (α 0 0 0), .int (nI n)] sz (M)) (Qm g M (fun r : Int32 => some (.int r)) (fun r M1 => r = nI (spN σ n) ∧ ∃ χ', RI ν χ' (spS σ n) ∧ HW g α ν χ' M1)) 0 0 (mA M sz) := by
  refine met_of (by decide) (Nat.le_of_ble_eq_true rfl) ?_
  intro pr en s mi below meth co hx hb hr hml hown hlocks hnm hT hsz hP hK ls hl
  have hl : lv_has ls 4 [(0, .ref (α 0 0 0)), (1, .int (nI n))] := hl
  have hH := HS.start hP
  have hN0 : ν 0 ≤ 600 := hN.2.2.2.2.1
  have hN1 : ν 1 ≤ 600 := hN.2.2.2.2.2
  have hN2 : ν 0 ≤ ν 2 := hN.1
  have hN3 : ν 2 < 2 ^ 20 := hN.2.2.1
  refine lv_iload_n hx hb d_H_spread_0 rfl (lv_at hl 1 rfl) ?_
  refine lv_if_lt (tgt := 11) hx hb d_H_spread_1 (by decide) (fun hq9 => absurd hq9 (nI_pos (by omega))) (fun _ => ?_)
  refine lv_iload_n hx hb d_H_spread_4 rfl (lv_at hl 1 rfl) ?_
  refine lv_sipush (v := 200) hx hb d_H_spread_5 (by decide) ?_
  refine lv_icmp_le (tgt := 21) hx hb d_H_spread_8 (by decide) (fun _ => ?_) (fun hq9 => absurd (nI_le (b := 200) (by omega) (by decide)) hq9)
  refine lv_iconst (v := 0) hx hb d_H_spread_21 (by decide) ?_
  refine lv_istore_n (lv' := [(2, .int 0), (0, .ref (α 0 0 0)), (1, .int (nI n))]) hx hb d_H_spread_22 rfl hl (by decide) rfl (fun ls hl => ?_)
  refine lv_iconst (v := 0) hx hb d_H_spread_23 (by decide) ?_
  refine lv_istore_n (lv' := [(3, .int 0), (2, .int 0), (0, .ref (α 0 0 0)), (1, .int (nI n))]) hx hb d_H_spread_24 rfl hl (by decide) rfl (fun ls hl => ?_)
  refine W.rep (α := Heap × List Loc × Array Slot × MW × SG × Nat) (fun (H, locs, ls, Mx, χ9, k) => n - k) (fun (H, locs, ls, Mx, χ9, k) => lv_has ls 4 [(0, .ref (α 0 0 0)), (1, .int (nI n)), (2, .int (nI (spN σ k))), (3, .int (nI k))] ∧ HS g (mA M s.heap.size) s.heap (Mx) H locs ∧ HW g α ν χ9 Mx ∧ RI ν χ9 (spS σ k) ∧ k ≤ n) (fun (H, locs, ls, Mx, χ9, k) => H) (fun (H, locs, ls, Mx, χ9, k) => locs) (fun (H, locs, ls, Mx, χ9, k) => F0 mi 25 ls []) ?_ (s.heap, [], ls, _, χ, 0) ⟨lv_sub hl [2, 3, 1, 0] rfl, hH, hW, hR.code 0, Nat.zero_le _⟩
  rintro ⟨H, locs, ls, Mx, χ9, k⟩ ⟨hl, hH, hi1, hi2, hi3⟩ ih
  dsimp only at hl hH hi1 hi2 hi3 ih ⊢
  replace hW := hi1
  refine lv_iload_n hx hb d_H_spread_25 rfl (lv_at hl 3 rfl) ?_
  refine lv_iload_n hx hb d_H_spread_26 rfl (lv_at hl 1 rfl) ?_
  refine lv_icmp_ge (tgt := 105) hx hb d_H_spread_27 (by decide) (fun c0 => ?_) (fun c0 => ?_)
  · skip
    have hkn : n = k := by have := ge_of c0 (by omega) (by omega); omega
    subst hkn
    refine lv_iload_n hx hb d_H_spread_105 rfl (lv_at hl 2 rfl) ?_
    exact m_iret hx hb hr hlocks hsz hH (⟨rfl, _, hi2, hW⟩) d_H_spread_106
  · skip
    have hkn : k < n := by rcases Nat.lt_or_ge k n with h9 | h9; exact h9; exact absurd (nI_le h9 (by omega)) c0
    refine lv_aload_n hx hb d_H_spread_30 rfl (lv_at hl 0 rfl) ?_
    refine lv_aload_n hx hb d_H_spread_31 rfl (lv_at hl 0 rfl) ?_
    refine m_get (ci := 6) (v := .ref (α 0 7 0)) hx hb hT in_H hown hK hH.1 (hw_00 hW) rfl 3 (by decide) (hT _ w103) (fun _ h9 => h9) rfl d_H_spread_32 ?_
    refine lv_iload_n hx hb d_H_spread_35 rfl (lv_at hl 3 rfl) ?_
    refine m_iald hx hb hK hH.1 0 (hw_07 hW) rfl (j := k) (rfl) (by omega) (by decide) d_H_spread_36 ?_
    refine rd_run (c_V (As := [.int ((χ9) 13 (k))]) (rest := []) hx hb hml hl.1 hown hT hK hH.1 (c_H_isCard l g _ α ν (χ9) (χ9 13 k) _ hW) kw_H_isCard w329 w331 selp_H_isCard w1 hd_H_isCard rfl rfl ⟨by decide, by decide⟩ (hw_00 hW) rfl rfl rfl (Nat.le_of_ble_eq_true rfl) d_H_spread_37 ⟨by decide, by decide⟩) rfl ?_
    refine lv_if_eq (tgt := 99) hx hb d_H_spread_40 (by decide) (fun c1 => ?_) (fun c1 => ?_)
    · skip
      obtain ⟨hrec, hrecn⟩ := sp_0 ((sp_no hi2 (by omega)).mp c1)
      refine lv_iinc (v := nI (k + 1)) (lv' := [(3, .int (nI (k + 1))), (0, .ref (α 0 0 0)), (1, .int (nI n)), (2, .int (nI (spN σ k)))]) hx hb d_H_spread_99 hl (k := 3) rfl (nI_1 k) (by decide) rfl (fun ls hl => ?_)
      refine lv_goto (tgt := 25) hx hb d_H_spread_102 (by decide) ?_
      exact ih (_, _, _, _, _, k + 1) ⟨by rw [hrecn]; exact lv_sub hl [1, 2, 3, 0] rfl, hH, hW, by rw [hrec]; first | exact hi2 | exact f15, by dsimp only; omega⟩ (by dsimp only; omega)
    · skip
      obtain ⟨c, d, a, m, e, z, hc, hd, ⟨p13, p14, x13, x14, x15⟩, f1, f2, f3, f4, f5, f6, f7, f8, f9, f10, f11, f12, f13, f14, f15, f16, f17⟩ := sp_step hi2 (by omega) (fun q => c1 ((sp_no hi2 (by omega)).mpr q))
      have hrec := f16
      refine lv_aload_n hx hb d_H_spread_43 rfl (lv_at hl 0 rfl) ?_
      refine lv_aload_n hx hb d_H_spread_44 rfl (lv_at hl 0 rfl) ?_
      refine m_get (ci := 6) (v := .ref (α 0 8 0)) hx hb hT in_H hown hK hH.1 (hw_00 hW) rfl 4 (by decide) (hT _ w104) (fun _ h9 => h9) rfl d_H_spread_45 ?_
      refine lv_iload_n hx hb d_H_spread_48 rfl (lv_at hl 3 rfl) ?_
      refine m_iald hx hb hK hH.1 0 (hw_08 hW) rfl (j := k) (rfl) (by omega) (by decide) d_H_spread_49 ?_
      rw [show ((χ9) 14 (k)) = nI d from x14]
      refine rd_run (c_V (As := [.int (nI d)]) (rest := []) hx hb hml hl.1 hown hT hK hH.1 (c_H_isDoor l g _ α ν (χ9) (nI d) _ hW) kw_H_isDoor w453 w455 selp_H_isDoor w1 hd_H_isDoor rfl rfl ⟨by decide, by decide⟩ (hw_00 hW) rfl rfl rfl (Nat.le_of_ble_eq_true rfl) d_H_spread_50 ⟨by decide, by decide⟩) rfl ?_
      refine lv_if_eq (tgt := 99) hx hb d_H_spread_53 (by decide) (fun hq9 => absurd hq9 (xid_1 hd)) (fun _ => ?_)
      refine lv_aload_n hx hb d_H_spread_56 rfl (lv_at hl 0 rfl) ?_
      refine lv_aload_n hx hb d_H_spread_57 rfl (lv_at hl 0 rfl) ?_
      refine m_get (ci := 6) (v := .ref (α 0 1 0)) hx hb hT in_H hown hK hH.1 (hw_00 hW) rfl 0 (by decide) (hT _ w100) (fun _ h9 => h9) rfl d_H_spread_58 ?_
      refine lv_aload_n hx hb d_H_spread_61 rfl (lv_at hl 0 rfl) ?_
      refine m_get (ci := 6) (v := .ref (α 0 7 0)) hx hb hT in_H hown hK hH.1 (hw_00 hW) rfl 3 (by decide) (hT _ w103) (fun _ h9 => h9) rfl d_H_spread_62 ?_
      refine lv_iload_n hx hb d_H_spread_65 rfl (lv_at hl 3 rfl) ?_
      refine m_iald hx hb hK hH.1 0 (hw_07 hW) rfl (j := k) (rfl) (by omega) (by decide) d_H_spread_66 ?_
      rw [show ((χ9) 13 (k)) = nI c from x13]
      refine rd_run (c_V (As := [.int (nI c)]) (rest := [.ref (α 0 0 0)]) hx hb hml hl.1 hown hT hK hH.1 (c_AL_get l g _ (α 0 1 0) (α 0 2 0) (ν 0) (ν 2) c (α 1 c 0) (χ9 0 3) (fun q => if q < ν 0 then some (α 1 q 0) else none) _ (hw_01 hW) (hw_02 hW (by omega)) hc hN2 (by omega) (if_pos hc)) kw_AL_get w349 w350 w351 w4 hd_AL_get rfl rfl ⟨by decide, by decide⟩ (hw_01 hW) rfl rfl rfl (Nat.le_of_ble_eq_true rfl) d_H_spread_67 ⟨by decide, by decide⟩) rfl ?_
      refine va_castY (C := "LockHouse$Card") hx hb hown (hT _ w212) (hK.2.1 _ nw880) (hH.1.recv hK (hw_card hW hc) rfl) d_H_spread_70 ?_
      refine lv_aload_n hx hb d_H_spread_73 rfl (lv_at hl 0 rfl) ?_
      refine m_get (ci := 6) (v := .ref (α 0 6 0)) hx hb hT in_H hown hK hH.1 (hw_00 hW) rfl 2 (by decide) (hT _ w102) (fun _ h9 => h9) rfl d_H_spread_74 ?_
      refine lv_aload_n hx hb d_H_spread_77 rfl (lv_at hl 0 rfl) ?_
      refine m_get (ci := 6) (v := .ref (α 0 8 0)) hx hb hT in_H hown hK hH.1 (hw_00 hW) rfl 4 (by decide) (hT _ w104) (fun _ h9 => h9) rfl d_H_spread_78 ?_
      refine lv_iload_n hx hb d_H_spread_81 rfl (lv_at hl 3 rfl) ?_
      refine m_iald hx hb hK hH.1 0 (hw_08 hW) rfl (j := k) (rfl) (by omega) (by decide) d_H_spread_82 ?_
      rw [show ((χ9) 14 (k)) = nI d from x14]
      refine m_aald hx hb hK hH.1 4 (hw_06 hW) rfl (j := d) (rfl) (hd) (by decide) (v := .ref (α 6 d 0)) (by show va_rf (if d < 200 then some (α 6 d 0) else none) = _; rw [if_pos hd]; rfl) d_H_spread_83 ?_
      refine lv_aload_n hx hb d_H_spread_84 rfl (lv_at hl 0 rfl) ?_
      refine m_get (ci := 6) (v := .ref (α 0 9 0)) hx hb hT in_H hown hK hH.1 (hw_00 hW) rfl 5 (by decide) (hT _ w105) (fun _ h9 => h9) rfl d_H_spread_85 ?_
      refine lv_iload_n hx hb d_H_spread_88 rfl (lv_at hl 3 rfl) ?_
      refine m_iald hx hb hK hH.1 0 (hw_09 hW) rfl (j := k) (rfl) (by omega) (by decide) d_H_spread_89 ?_
      rw [show ((χ9) 15 (k)) = spS σ k 15 k from x15]
      refine m_run (c_V (As := [.ref (α 1 c 0), .ref (α 6 d 0), .int (spS σ k 15 k)]) (rest := []) hx hb hml hl.1 hown hT hK hH.1 (c_H_present l g _ α ν χ9 c d a m e z (gre (spS σ k) d) (spS σ k 15 k) _ hW hN hc hd f1 f2 f5 f7 f9 f10 f11 f12) kw_H_present w482 w484 selp_H_present w1 hd_H_present rfl rfl ⟨by decide, by decide⟩ (hw_00 hW) rfl rfl rfl (Nat.le_of_ble_eq_true rfl) d_H_spread_90 ⟨by decide, by decide⟩) hH (fun rv M1 H locs hpost hH hzz hdm hfr => ?_)
      have hp1 : rv = xjd ν (tkE ν χ9 c (xcur χ9 c) d a m) c d e z (spS σ k 15 k) := hpost.1
      replace hW : HW g α ν (psS ν (tkE ν χ9 c (xcur χ9 c) d a m) c d (if m = 0 then gre (spS σ k) d else if gre (spS σ k) d < a + m - 1 then a + m - 1 else gre (spS σ k) d)) M1 := hpost.2
      subst hp1
      refine W.eq (g2 := F0 mi 93 ls [.int (xjd ν (tkE ν χ9 c (xcur χ9 c) d a m) c d e z (spS σ k 15 k))]) rfl ?_
      refine lv_if_ne (tgt := 99) hx hb d_H_spread_93 (by decide) (fun c2 => ?_) (fun c2 => ?_)
      · skip
        have hrecn : spN σ (k + 1) = spN σ k := by rw [f17, if_neg (by rw [← f14]; exact c2)]
        refine lv_iinc (v := nI (k + 1)) (lv' := [(3, .int (nI (k + 1))), (0, .ref (α 0 0 0)), (1, .int (nI n)), (2, .int (nI (spN σ k)))]) hx hb d_H_spread_99 hl (k := 3) rfl (nI_1 k) (by decide) rfl (fun ls hl => ?_)
        refine lv_goto (tgt := 25) hx hb d_H_spread_102 (by decide) ?_
        exact ih (_, _, _, _, _, k + 1) ⟨by rw [hrecn]; exact lv_sub hl [1, 2, 3, 0] rfl, hH, hW, by rw [hrec]; first | exact hi2 | exact f15, by dsimp only; omega⟩ (by dsimp only; omega)
      · skip
        have hrecn : spN σ (k + 1) = spN σ k + 1 := by rw [f17, if_pos (by rw [← f14]; exact c2)]
        refine lv_iinc (v := nI (spN σ k + 1)) (lv' := [(2, .int (nI (spN σ k + 1))), (0, .ref (α 0 0 0)), (1, .int (nI n)), (3, .int (nI k))]) hx hb d_H_spread_96 hl (k := 2) rfl (nI_1 _) (by decide) rfl (fun ls hl => ?_)
        refine lv_iinc (v := nI (k + 1)) (lv' := [(3, .int (nI (k + 1))), (2, .int (nI (spN σ k + 1))), (0, .ref (α 0 0 0)), (1, .int (nI n))]) hx hb d_H_spread_99 hl (k := 3) rfl (nI_1 k) (by decide) rfl (fun ls hl => ?_)
        refine lv_goto (tgt := 25) hx hb d_H_spread_102 (by decide) ?_
        exact ih (_, _, _, _, _, k + 1) ⟨by rw [hrecn]; exact lv_sub hl [2, 3, 1, 0] rfl, hH, hW, by rw [hrec]; first | exact hi2 | exact f15, by dsimp only; omega⟩ (by dsimp only; omega)
