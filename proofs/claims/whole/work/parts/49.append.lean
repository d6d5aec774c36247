/-! The class issues a card, makes an entry. -/
set_option maxHeartbeats 800000 in
set_option maxRecDepth 100000 in
theorem c_H_issue (l : Launch) (g : GG) (M : MW) (α : AL3) (ν : Nat → Nat) (χ : SG) (z e : Int32) (de mir : Nat) (sz : Nat) (hW : HW g α ν χ M) (hN : nOK ν) (hL : LD α ν de) (hlt6 : ν 0 < 600) : Met l y_H_issue (k_H_issue :: TT) { frames := 7, cells := 6, slots := 1098, locals := 178 } (Pd g [.ref (α 0 0 0), .int z, .int e] sz (M) de mir) (Qm g M (fun r : Int32 => some (.int r)) (fun rv M' => rv = nI (ν 0) ∧ ∃ α' ν', HW g α' ν' (isX χ (ν 0) z e) M' ∧ nOK ν' ∧ LD α' ν' de ∧ ν' 0 = ν 0 + 1 ∧ ν' 1 = ν 1 ∧ α' 0 0 0 = α 0 0 0)) 6 1098 (mA M sz) := by
  refine dmet_of (by decide) (Nat.le_of_ble_eq_true rfl) ?_
  intro pr en s mi below meth co hx hb hr hml hown hlocks hnm hT hsz hP hK hZ ls hl
  have hl : lv_has ls 3 [(0, .ref (α 0 0 0)), (1, .int z), (2, .int e)] := hl
  have hH := HS.start hP
  have o0 : M (α 0 0 0) = some (.inr (6, [.ref (α 0 1 0), .ref (α 0 3 0), .ref (α 0 6 0), .ref (α 0 7 0), .ref (α 0 8 0), .ref (α 0 9 0)])) := hw_00 hW
  have o1 : M (α 0 1 0) = some (.inr (0, [.ref (α 0 2 0), .int (nI (ν 0)), .int (χ 0 3)])) := hw_01 hW
  have fr : ∀ q, q < s.heap.size → M q = M q := fun q h1 => rfl
  have hN0 : ν 0 ≤ 600 := hN.2.2.2.2.1
  have hN1 : ν 1 ≤ 600 := hN.2.2.2.2.2
  have hlt : ∀ k i j, vr ν k i j → α k i j < s.heap.size := fun k i j hv => hP.lt (hW.1 k i j hv)
  have hE0 : (ν 0 = 0 ∧ α 0 2 0 = de) ∨ (M (α 0 2 0) = some (.inl (g.2 5, ν 2, .inr (.inr (.inr (.inr (fun q => if q < ν 0 then some (α 1 q 0) else none)))))) ∧ ν 0 ≤ ν 2 ∧ 0 < ν 2 ∧ ν 2 < 2 ^ 20 ∧ α 0 1 0 ≠ α 0 2 0) := by
    by_cases h : ν 2 = 0
    · exact Or.inl (hL.1 h)
    · exact Or.inr ⟨hw_02 hW (by omega), hN.1, by omega, hN.2.2.1, fun z => absurd (hW.2 _ _ _ _ _ _ (v_0 (by decide) (by decide) (by decide)) (v_02 (by omega)) z).2.1 (by decide)⟩
  have hed : α 0 2 0 < s.heap.size := hE0.elim (fun h => by rw [h.2]; exact hZ.2.1.lt) (fun h => hP.lt h.1)
  have hde2 : ν 2 = 0 → M (α 0 2 0) = none := fun h => by rw [(hL.1 h).2]; exact Classical.byContradiction fun z => hZ.2.2.1 (Or.inl z)
  have hned : ∀ q e9, M q = some (.inr e9) → q ≠ α 0 2 0 := fun q e9 h1 h2 => by
    by_cases h : ν 2 = 0
    · rw [h2, hde2 h] at h1; cases h1
    · rcases hE0 with ⟨-, h3⟩ | ⟨h3, -⟩
      · rw [h2, h3] at h1; exact hZ.2.2.1 (Or.inl (some_ne h1))
      · rw [h2, h3] at h1; cases h1
  have hn01 : α 0 0 0 ≠ α 0 1 0 := fun z => absurd (hW.2 _ _ _ _ _ _ (v_0 (by decide) (by decide) (by decide)) (v_0 (by decide) (by decide) (by decide)) z).2.1 (by decide)
  refine lv_aload_n hx hb d_H_issue_0 rfl (lv_at hl 0 rfl) ?_
  refine m_get (ci := 6) (v := .ref (α 0 1 0)) hx hb hT in_H hown hK hH.1 (o0) rfl 0 (by decide) (hT _ w100) (fun _ h9 => h9) rfl d_H_issue_1 ?_
  refine rd_run (c_V (As := []) (rest := []) hx hb hml hl.1 hown hT hK hH.1 (c_AL_size l g _ ((α 0 1 0)) (α 0 2 0) (nI (ν 0)) (χ 0 3) _ o1) kw_AL_size w123 w124 w125 w4 hd_AL_size rfl rfl ⟨by decide, by decide⟩ (o1) rfl rfl rfl (Nat.le_of_ble_eq_true rfl) d_H_issue_4 ⟨by decide, Nat.le_of_ble_eq_true rfl⟩) rfl ?_
  refine lv_sipush (v := 4000) hx hb d_H_issue_7 (by decide) ?_
  refine lv_icmp_lt (tgt := 23) hx hb d_H_issue_10 (by decide) (fun _ => ?_) (fun hq9 => absurd (nI_lt (b := 4000) (by omega) (by decide)) hq9)
  refine lv_aload_n hx hb d_H_issue_23 rfl (lv_at hl 0 rfl) ?_
  refine m_get (ci := 6) (v := .ref (α 0 1 0)) hx hb hT in_H hown hK hH.1 (o0) rfl 0 (by decide) (hT _ w100) (fun _ h9 => h9) rfl d_H_issue_24 ?_
  have l0 := hH.1.lt o0
  have l1 := hH.1.lt o1
  refine m_new (ci := 1) (fs := [.int 0, .int 0, .null, .null, .int 0, .int 0, .int 0, .int 0]) hx hb hT in_Card ty_Card tk_Card hown (hT _ w212) (hT _ w213) (hT _ w13) hK hH rfl (fun j hj => by rcases j with _ | _ | _ | _ | _ | _ | _ | _ | j <;> first | rfl | (exact absurd hj (by omega))) (by decide) (Nat.le_of_ble_eq_true rfl) d_H_issue_27 (fun H1 hH zH1 => ?_)
  have n0_2 : (α 0 0 0) ≠ s.heap.size := Nat.ne_of_lt l0
  have n1_2 : (α 0 1 0) ≠ s.heap.size := Nat.ne_of_lt l1
  obtain ⟨M1, hM1⟩ : ∃ Mz : MW, Mz = mu M s.heap.size (.inr (1, [.int 0, .int 0, .null, .null, .int 0, .int 0, .int 0, .int 0])) := ⟨_, rfl⟩
  replace hH : HS g (mA M s.heap.size) s.heap M1 H1 [] := by rw [hM1]; exact hH
  replace o0 : M1 (α 0 0 0) = some (.inr (6, [.ref (α 0 1 0), .ref (α 0 3 0), .ref (α 0 6 0), .ref (α 0 7 0), .ref (α 0 8 0), .ref (α 0 9 0)])) := by rw [hM1]; exact (mu_n n0_2).trans o0
  replace o1 : M1 (α 0 1 0) = some (.inr (0, [.ref (α 0 2 0), .int (nI (ν 0)), .int (χ 0 3)])) := by rw [hM1]; exact (mu_n n1_2).trans o1
  have o2 : M1 s.heap.size = some (.inr (1, [.int 0, .int 0, .null, .null, .int 0, .int 0, .int 0, .int 0])) := by rw [hM1]; exact mu_s
  replace fr : ∀ q, q < s.heap.size → M1 q = M q := fun q h1  => by rw [hM1]; exact (mu_n (by omega)).trans (fr q h1 )
  refine lv_dup hx hb d_H_issue_30 rfl ?_
  refine lv_iload_n hx hb d_H_issue_31 rfl (lv_at hl 1 rfl) ?_
  refine lv_iload_n hx hb d_H_issue_32 rfl (lv_at hl 2 rfl) ?_
  have l0 := hH.1.lt o0
  have l1 := hH.1.lt o1
  have l2 := hH.1.lt o2
  refine m_run (c_I (As := [.int z, .int e]) (rest := [.ref s.heap.size, .ref (α 0 1 0)]) hx hb hml hl.1 hown hT hK hH.1 (c_Card_init l g _ s.heap.size z e _ o2) kw_Card_init w214 w215 rfl w13 hd_Card_init rfl rfl ⟨by decide, by decide⟩ rfl rfl (Nat.le_of_ble_eq_true rfl) d_H_issue_33 ⟨by decide, Nat.le_of_ble_eq_true rfl⟩) hH (fun rv M2 H2 locs hpost hH zH2 hdm hfr => ?_)
  obtain ⟨i0, w0, i1, w1, p0, p1, p2, p3, pa, pb, pc, pd, pe, pf⟩ := hpost
  replace o0 : M2 (α 0 0 0) = some (.inr (6, [.ref (α 0 1 0), .ref (α 0 3 0), .ref (α 0 6 0), .ref (α 0 7 0), .ref (α 0 8 0), .ref (α 0 9 0)])) := Eq.trans (pf _ l0 n0_2) o0
  replace o1 : M2 (α 0 1 0) = some (.inr (0, [.ref (α 0 2 0), .int (nI (ν 0)), .int (χ 0 3)])) := Eq.trans (pf _ l1 n1_2) o1
  replace o2 : M2 s.heap.size = some (.inr (1, [.int z, .int e, .ref i0, .ref i1, .int 0, .int (-1), .int 0, .int 0])) := pa
  replace fr : ∀ q, q < s.heap.size → M2 q = M q := fun q h1  => Eq.trans (pf q (by omega) (by omega)) (fr q h1 )
  have o3 : M2 i0 = some (.inr (5, [.ref w0])) := pb
  have o4 : M2 w0 = some (.inl (g.2 1, 44, .inl (fun _ => 0))) := pc
  have o5 : M2 i1 = some (.inr (5, [.ref w1])) := pd
  have o6 : M2 w1 = some (.inl (g.2 1, 44, .inl (fun _ => 0))) := pe
  have l0 := hH.1.lt o0
  have l1 := hH.1.lt o1
  have l2 := hH.1.lt o2
  have l3 := hH.1.lt o3
  have l4 := hH.1.lt o4
  have l5 := hH.1.lt o5
  have l6 := hH.1.lt o6
  refine m_run (d_V (As := [.ref s.heap.size]) (rest := []) hx hb hml hl.1 hown hT hK hH.1 (dd_of hH hZ) (c_AL_add1 l g _ (α 0 1 0) (α 0 2 0) (ν 0) (ν 2) 1 (χ 0 3) (fun q => α 1 q 0) s.heap.size _ de mir _ rfl nw889 o1 (hE0.imp id (fun h => ⟨(fr _ hed).trans h.1, h.2.1, h.2.2.1, h.2.2.2.1, h.2.2.2.2, Nat.ne_of_lt hed⟩)) (fun q hq => ⟨_, (fr _ (hP.lt (hw_card hW hq))).trans (hw_card hW hq)⟩) o2 (by omega) (by decide) (by omega)) kw_AL_add1 w259 w260 w261 w4 hd_AL_add1 rfl rfl ⟨by decide, by decide⟩ (o1) rfl rfl rfl (Nat.le_of_ble_eq_true rfl) d_H_issue_36 ⟨by decide, Nat.le_of_ble_eq_true rfl⟩) hH (fun rv0 M3 H3 locs hpost hH zH3 hdm hfr => ?_)
  obtain ⟨rfl, r, cap, p0, p1, p2, p3, p4, p5⟩ := hpost
  have hr2 : (r = α 0 2 0 ∧ 0 < ν 2) ∨ H2.size ≤ r := by
    rcases p2 with h | h
    · refine Or.inl ⟨h, ?_⟩
      rcases Nat.eq_zero_or_pos (ν 2) with h2 | h2
      · exfalso
        rcases hdm r (some_ne p3) with h3 | h3
        · exact h3 (by rw [h]; exact (fr _ hed).trans (hde2 h2))
        · rw [h] at h3; omega
      · exact h2
    · exact Or.inr h
  replace o0 : M3 (α 0 0 0) = some (.inr (6, [.ref (α 0 1 0), .ref (α 0 3 0), .ref (α 0 6 0), .ref (α 0 7 0), .ref (α 0 8 0), .ref (α 0 9 0)])) := (p5 _ l0 (hn01) (hned _ _ (show M _ = some (.inr _) from (fr _ (by omega)).symm.trans o0))).trans o0
  replace o2 : M3 s.heap.size = some (.inr (1, [.int z, .int e, .ref i0, .ref i1, .int 0, .int (-1), .int 0, .int 0])) := (p5 _ l2 ((Ne.symm n1_2)) ((by omega))).trans o2
  replace o3 : M3 i0 = some (.inr (5, [.ref w0])) := (p5 _ l3 ((by omega)) ((by omega))).trans o3
  replace o4 : M3 w0 = some (.inl (g.2 1, 44, .inl (fun _ => 0))) := (p5 _ l4 ((by omega)) ((by omega))).trans o4
  replace o5 : M3 i1 = some (.inr (5, [.ref w1])) := (p5 _ l5 ((by omega)) ((by omega))).trans o5
  replace o6 : M3 w1 = some (.inl (g.2 1, 44, .inl (fun _ => 0))) := (p5 _ l6 ((by omega)) ((by omega))).trans o6
  replace o1 : M3 (α 0 1 0) = some (.inr (0, [.ref r, .int (nI (ν 0 + 1)), .int (χ 0 3 + 1)])) := p4
  have fr2 : ∀ q, q < s.heap.size → q ≠ α 0 1 0 → q ≠ α 0 2 0 → M3 q = M q := fun q h1 h2 h3 => (p5 q (by omega) h2 h3).trans (fr q h1)
  refine lv_pop hx hb d_H_issue_39 rfl ?_
  refine lv_aload_n hx hb d_H_issue_40 rfl (lv_at hl 0 rfl) ?_
  refine m_get (ci := 6) (v := .ref (α 0 1 0)) hx hb hT in_H hown hK hH.1 (o0) rfl 0 (by decide) (hT _ w100) (fun _ h9 => h9) rfl d_H_issue_41 ?_
  refine rd_run (c_V (As := []) (rest := []) hx hb hml hl.1 hown hT hK hH.1 (c_AL_size l g _ ((α 0 1 0)) (r) (nI (ν 0 + 1)) (χ 0 3 + 1) _ o1) kw_AL_size w123 w124 w125 w4 hd_AL_size rfl rfl ⟨by decide, by decide⟩ (o1) rfl rfl rfl (Nat.le_of_ble_eq_true rfl) d_H_issue_44 ⟨by decide, Nat.le_of_ble_eq_true rfl⟩) rfl ?_
  refine lv_iconst (v := 1) hx hb d_H_issue_47 (by decide) ?_
  refine lv_isub hx hb d_H_issue_48 ?_
  rw [show ((nI (ν 0 + 1)) - 1) = nI (ν 0) from nI_pred _]
  exact m_iret hx hb hr hlocks hsz hH ⟨rfl, isA α (ν 0) s.heap.size i0 w0 i1 w1 r, isN ν cap, hw_issue hW hlt (Nat.le_refl _) (by omega) (by omega) (by omega) (by omega) (hr2.imp id (fun h => by omega)) (by omega) o2 o3 o4 o5 o6 p3 p4 hde2 fr2, ⟨by show ν 0 + 1 ≤ cap; omega, hN.2.1, p1, hN.2.2.2.1, by show ν 0 + 1 ≤ 600; omega, hN1⟩, ⟨fun h => absurd (show cap = 0 from h) (by omega), hL.2⟩, rfl, rfl, rfl⟩ d_H_issue_49
set_option maxHeartbeats 800000 in
set_option maxRecDepth 100000 in
theorem c_EL_append (l : Launch) (g : GG) (M : MW) (α : AL3) (ν : Nat → Nat) (χ : SG) (c : Int32) (de mir : Nat) (sz : Nat) (hW : HW g α ν χ M) (hN : nOK ν) (hL : LD α ν de) (hlt6 : ν 1 < 600) : Met l y_EL_append (k_EL_append :: TT) { frames := 7, cells := 3, slots := 1202, locals := 178 } (Pd g [.ref (α 0 3 0), .int c] sz (M) de mir) (Qm g M (fun r : Int32 => some (.int r)) (fun rv M' => rv = nI (ν 1 + 1) ∧ ∃ α' ν', HW g α' ν' (rvX χ (ν 1 + 1) c) M' ∧ nOK ν' ∧ LD α' ν' de ∧ ν' 0 = ν 0 ∧ ν' 1 = ν 1 + 1 ∧ α' 0 0 0 = α 0 0 0 ∧ ∀ i, α' 1 i 0 = α 1 i 0)) 3 1202 (mA M sz) := by
  refine dmet_of (by decide) (Nat.le_of_ble_eq_true rfl) ?_
  intro pr en s mi below meth co hx hb hr hml hown hlocks hnm hT hsz hP hK hZ ls hl
  have hl : lv_has ls 2 [(0, .ref (α 0 3 0)), (1, .int c)] := hl
  have hH := HS.start hP
  have o0 : M (α 0 3 0) = some (.inr (4, [.ref (α 0 4 0)])) := hw_03 hW
  have o1 : M (α 0 4 0) = some (.inr (0, [.ref (α 0 5 0), .int (nI (ν 1)), .int (χ 0 4)])) := hw_04 hW
  have fr : ∀ q, q < s.heap.size → M q = M q := fun q h1 => rfl
  have hN0 : ν 0 ≤ 600 := hN.2.2.2.2.1
  have hN1 : ν 1 ≤ 600 := hN.2.2.2.2.2
  have hlt : ∀ k i j, vr ν k i j → α k i j < s.heap.size := fun k i j hv => hP.lt (hW.1 k i j hv)
  have hE0 : (ν 1 = 0 ∧ α 0 5 0 = de) ∨ (M (α 0 5 0) = some (.inl (g.2 5, ν 3, .inr (.inr (.inr (.inr (fun q => if q < ν 1 then some (α 4 (q + 1) 0) else none)))))) ∧ ν 1 ≤ ν 3 ∧ 0 < ν 3 ∧ ν 3 < 2 ^ 20 ∧ α 0 4 0 ≠ α 0 5 0) := by
    by_cases h : ν 3 = 0
    · exact Or.inl (hL.2 h)
    · exact Or.inr ⟨hw_05 hW (by omega), hN.2.1, by omega, hN.2.2.2.1, fun z => absurd (hW.2 _ _ _ _ _ _ (v_0 (by decide) (by decide) (by decide)) (v_05 (by omega)) z).2.1 (by decide)⟩
  have hed : α 0 5 0 < s.heap.size := hE0.elim (fun h => by rw [h.2]; exact hZ.2.1.lt) (fun h => hP.lt h.1)
  have hde2 : ν 3 = 0 → M (α 0 5 0) = none := fun h => by rw [(hL.2 h).2]; exact Classical.byContradiction fun z => hZ.2.2.1 (Or.inl z)
  have hned : ∀ q e9, M q = some (.inr e9) → q ≠ α 0 5 0 := fun q e9 h1 h2 => by
    by_cases h : ν 3 = 0
    · rw [h2, hde2 h] at h1; cases h1
    · rcases hE0 with ⟨-, h3⟩ | ⟨h3, -⟩
      · rw [h2, h3] at h1; exact hZ.2.2.1 (Or.inl (some_ne h1))
      · rw [h2, h3] at h1; cases h1
  have hn01 : α 0 3 0 ≠ α 0 4 0 := fun z => absurd (hW.2 _ _ _ _ _ _ (v_0 (by decide) (by decide) (by decide)) (v_0 (by decide) (by decide) (by decide)) z).2.1 (by decide)
  refine lv_aload_n hx hb d_EL_append_0 rfl (lv_at hl 0 rfl) ?_
  refine m_get (ci := 4) (v := .ref (α 0 4 0)) hx hb hT in_EL hown hK hH.1 (o0) rfl 0 (by decide) (hT _ w65) (fun _ h9 => h9) rfl d_EL_append_1 ?_
  have l0 := hH.1.lt o0
  have l1 := hH.1.lt o1
  refine m_new (ci := 3) (fs := [.int 0, .null]) hx hb hT in_Entry ty_Entry tk_Entry hown (hT _ w368) (hT _ w369) (hT _ w21) hK hH rfl (fun j hj => by rcases j with _ | _ | j <;> first | rfl | (exact absurd hj (by omega))) (by decide) (Nat.le_of_ble_eq_true rfl) d_EL_append_4 (fun H1 hH zH1 => ?_)
  have n0_2 : (α 0 3 0) ≠ s.heap.size := Nat.ne_of_lt l0
  have n1_2 : (α 0 4 0) ≠ s.heap.size := Nat.ne_of_lt l1
  obtain ⟨M1, hM1⟩ : ∃ Mz : MW, Mz = mu M s.heap.size (.inr (3, [.int 0, .null])) := ⟨_, rfl⟩
  replace hH : HS g (mA M s.heap.size) s.heap M1 H1 [] := by rw [hM1]; exact hH
  replace o0 : M1 (α 0 3 0) = some (.inr (4, [.ref (α 0 4 0)])) := by rw [hM1]; exact (mu_n n0_2).trans o0
  replace o1 : M1 (α 0 4 0) = some (.inr (0, [.ref (α 0 5 0), .int (nI (ν 1)), .int (χ 0 4)])) := by rw [hM1]; exact (mu_n n1_2).trans o1
  have o2 : M1 s.heap.size = some (.inr (3, [.int 0, .null])) := by rw [hM1]; exact mu_s
  replace fr : ∀ q, q < s.heap.size → M1 q = M q := fun q h1  => by rw [hM1]; exact (mu_n (by omega)).trans (fr q h1 )
  refine lv_dup hx hb d_EL_append_7 rfl ?_
  refine lv_iload_n hx hb d_EL_append_8 rfl (lv_at hl 1 rfl) ?_
  have l0 := hH.1.lt o0
  have l1 := hH.1.lt o1
  have l2 := hH.1.lt o2
  refine m_run (c_I (As := [.int c]) (rest := [.ref s.heap.size, .ref (α 0 4 0)]) hx hb hml hl.1 hown hT hK hH.1 (c_Entry_init l g _ s.heap.size c _ o2) kw_Entry_init w370 w371 rfl w21 hd_Entry_init rfl rfl ⟨by decide, by decide⟩ rfl rfl (Nat.le_of_ble_eq_true rfl) d_EL_append_9 ⟨by decide, Nat.le_of_ble_eq_true rfl⟩) hH (fun rv M2 H2 locs hpost hH zH2 hdm hfr => ?_)
  obtain ⟨w0, p0, pa, pb, pf⟩ := hpost
  replace o0 : M2 (α 0 3 0) = some (.inr (4, [.ref (α 0 4 0)])) := Eq.trans (pf _ l0 n0_2) o0
  replace o1 : M2 (α 0 4 0) = some (.inr (0, [.ref (α 0 5 0), .int (nI (ν 1)), .int (χ 0 4)])) := Eq.trans (pf _ l1 n1_2) o1
  replace o2 : M2 s.heap.size = some (.inr (3, [.int c, .ref w0])) := pa
  replace fr : ∀ q, q < s.heap.size → M2 q = M q := fun q h1  => Eq.trans (pf q (by omega) (by omega)) (fr q h1 )
  have o3 : M2 w0 = some (.inl (g.2 2, 200, .inl (fun _ => 0))) := pb
  have l0 := hH.1.lt o0
  have l1 := hH.1.lt o1
  have l2 := hH.1.lt o2
  have l3 := hH.1.lt o3
  refine m_run (d_V (As := [.ref s.heap.size]) (rest := []) hx hb hml hl.1 hown hT hK hH.1 (dd_of hH hZ) (c_AL_add1 l g _ (α 0 4 0) (α 0 5 0) (ν 1) (ν 3) 3 (χ 0 4) (fun q => α 4 (q + 1) 0) s.heap.size _ de mir _ rfl nw891 o1 (hE0.imp id (fun h => ⟨(fr _ hed).trans h.1, h.2.1, h.2.2.1, h.2.2.2.1, h.2.2.2.2, Nat.ne_of_lt hed⟩)) (fun q hq => ⟨_, (fr _ (hP.lt (hw_en hW (Nat.succ_pos q) hq))).trans (hw_en hW (Nat.succ_pos q) hq)⟩) o2 (by omega) (by decide) (by omega)) kw_AL_add1 w383 w260 w261 w4 hd_AL_add1 rfl rfl ⟨by decide, by decide⟩ (o1) rfl rfl rfl (Nat.le_of_ble_eq_true rfl) d_EL_append_12 ⟨by decide, Nat.le_of_ble_eq_true rfl⟩) hH (fun rv0 M3 H3 locs hpost hH zH3 hdm hfr => ?_)
  obtain ⟨rfl, r, cap, p0, p1, p2, p3, p4, p5⟩ := hpost
  have hr2 : (r = α 0 5 0 ∧ 0 < ν 3) ∨ H2.size ≤ r := by
    rcases p2 with h | h
    · refine Or.inl ⟨h, ?_⟩
      rcases Nat.eq_zero_or_pos (ν 3) with h2 | h2
      · exfalso
        rcases hdm r (some_ne p3) with h3 | h3
        · exact h3 (by rw [h]; exact (fr _ hed).trans (hde2 h2))
        · rw [h] at h3; omega
      · exact h2
    · exact Or.inr h
  replace o0 : M3 (α 0 3 0) = some (.inr (4, [.ref (α 0 4 0)])) := (p5 _ l0 (hn01) (hned _ _ (show M _ = some (.inr _) from (fr _ (by omega)).symm.trans o0))).trans o0
  replace o2 : M3 s.heap.size = some (.inr (3, [.int c, .ref w0])) := (p5 _ l2 ((Ne.symm n1_2)) ((by omega))).trans o2
  replace o3 : M3 w0 = some (.inl (g.2 2, 200, .inl (fun _ => 0))) := (p5 _ l3 ((by omega)) ((by omega))).trans o3
  replace o1 : M3 (α 0 4 0) = some (.inr (0, [.ref r, .int (nI (ν 1 + 1)), .int (χ 0 4 + 1)])) := p4
  have fr2 : ∀ q, q < s.heap.size → q ≠ α 0 4 0 → q ≠ α 0 5 0 → M3 q = M q := fun q h1 h2 h3 => (p5 q (by omega) h2 h3).trans (fr q h1)
  refine lv_pop hx hb d_EL_append_15 rfl ?_
  refine lv_aload_n hx hb d_EL_append_16 rfl (lv_at hl 0 rfl) ?_
  refine m_get (ci := 4) (v := .ref (α 0 4 0)) hx hb hT in_EL hown hK hH.1 (o0) rfl 0 (by decide) (hT _ w65) (fun _ h9 => h9) rfl d_EL_append_17 ?_
  refine rd_run (c_V (As := []) (rest := []) hx hb hml hl.1 hown hT hK hH.1 (c_AL_size l g _ ((α 0 4 0)) (r) (nI (ν 1 + 1)) (χ 0 4 + 1) _ o1) kw_AL_size w135 w124 w125 w4 hd_AL_size rfl rfl ⟨by decide, by decide⟩ (o1) rfl rfl rfl (Nat.le_of_ble_eq_true rfl) d_EL_append_20 ⟨by decide, Nat.le_of_ble_eq_true rfl⟩) rfl ?_
  exact m_iret hx hb hr hlocks hsz hH ⟨rfl, rvA α (ν 1 + 1) s.heap.size w0 r, rvN ν cap, hw_revoke hW hlt (Nat.le_refl _) (by omega) (hr2.imp id (fun h => by omega)) (by omega) o2 o3 p3 p4 hde2 fr2, ⟨hN.1, by show ν 1 + 1 ≤ cap; omega, hN.2.2.1, p1, hN0, by show ν 1 + 1 ≤ 600; omega⟩, ⟨hL.1, fun h => absurd (show cap = 0 from h) (by omega)⟩, rfl, rfl, rfl, fun i => rfl⟩ d_EL_append_23
