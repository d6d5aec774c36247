/-! Constructors of the small classes. -/
set_option maxHeartbeats 800000 in
set_option maxRecDepth 100000 in
theorem c_Im_init (l : Launch) (g : GG) (M : MW) (a : Nat) (sz : Nat) (hA : M a = some (.inr (5, [.null]))) : Met l y_Im_init (k_Im_init :: TT) { frames := 1, cells := 1, slots := 44, locals := 32 } (Pm g [.ref a] sz (M)) (Qm g M (fun _ : Unit => none) (fun _ M' => ∃ w, sz ≤ w ∧ M' a = some (.inr (5, [.ref w])) ∧ M' w = some (.inl (g.2 1, 44, .inl (fun _ => 0))) ∧ ∀ q, q < sz → q ≠ a → M' q = M q)) 1 44 (mA M sz) := by
  refine met_of (by decide) (Nat.le_of_ble_eq_true rfl) ?_
  intro pr en s mi below meth co hx hb hr hml hown hlocks hnm hT hsz hP hK ls hl
  have hl : lv_has ls 1 [(0, .ref a)] := hl
  have hH := HS.start hP
  have o0 : M a = some (.inr (5, [.null])) := hA
  have fr : ∀ q, q < s.heap.size → q ≠ a → M q = M q := fun q h1 _ => rfl
  refine lv_aload_n hx hb d_Im_init_0 rfl (lv_at hl 0 rfl) ?_
  refine W.objInit hx hb hown (hT _ w223) (hT _ w29) (hT _ w30) rfl (by rw [hml]; exact hl.1) rfl d_Im_init_1 (Nat.le_of_ble_eq_true rfl) (Nat.le_of_ble_eq_true rfl) ?_
  refine lv_aload_n hx hb d_Im_init_4 rfl (lv_at hl 0 rfl) ?_
  refine lv_bipush (v := 44) hx hb d_Im_init_5 (by decide) ?_
  have l0 := hH.1.lt o0
  refine m_newa (atype := .short) (ty := .short) (a0 := (44, .inl (fun _ => 0))) hx hb (hT _ w228) rfl hK hH 1 rfl (fun h9 => h9) rfl (N' := 44) rfl (by decide) (by decide +kernel) (by decide) (Nat.le_of_ble_eq_true rfl) d_Im_init_7 (fun H1 hH zH1 => ?_)
  have n0_1 : a ≠ s.heap.size := Nat.ne_of_lt l0
  obtain ⟨M1, hM1⟩ : ∃ Mz : MW, Mz = mu M s.heap.size (.inl (g.2 1, 44, .inl (fun _ => 0))) := ⟨_, rfl⟩
  replace hH : HS g (mA M s.heap.size) s.heap M1 H1 [] := by rw [hM1]; exact hH
  replace o0 : M1 a = some (.inr (5, [.null])) := by rw [hM1]; exact (mu_n n0_1).trans o0
  have o1 : M1 s.heap.size = some (.inl (g.2 1, 44, .inl (fun _ => 0))) := by rw [hM1]; exact mu_s
  replace fr : ∀ q, q < s.heap.size → q ≠ a → M1 q = M q := fun q h1 h2 => by rw [hM1]; exact (mu_n (by omega)).trans (fr q h1 h2)
  refine m_putF (ci := 5) (v := .ref s.heap.size) (ty := .array .short) hx hb hT in_Im ty_Im tk_Im nm_Im hown hK hH (o0) rfl 0 (by decide) (hT _ w224) (fun _ h9 => h9) rfl hnm rfl (by decide +kernel) rfl rfl (Nat.le_of_ble_eq_true rfl) d_Im_init_9 (e1 := .inr (5, [.ref s.heap.size])) rfl (fun H2 locs hH zH2 => ?_)
  obtain ⟨M2, hM2⟩ : ∃ Mz : MW, Mz = mu M1 a (.inr (5, [.ref s.heap.size])) := ⟨_, rfl⟩
  replace hH : HS g (mA M s.heap.size) s.heap M2 H2 locs := by rw [hM2]; exact hH
  replace o1 : M2 s.heap.size = some (.inl (g.2 1, 44, .inl (fun _ => 0))) := by rw [hM2]; exact (mu_n (Ne.symm n0_1)).trans o1
  have o0 : M2 a = some (.inr (5, [.ref s.heap.size])) := by rw [hM2]; exact mu_s
  replace fr : ∀ q, q < s.heap.size → q ≠ a → M2 q = M q := fun q h1 h2 => by rw [hM2]; exact (mu_n (by omega)).trans (fr q h1 h2)
  exact m_vret hx hb hr hlocks hsz hH (⟨s.heap.size, by omega, o0, o1, fun q h1 h2 => fr q (by omega) h2⟩) d_Im_init_12
set_option maxHeartbeats 800000 in
set_option maxRecDepth 100000 in
theorem c_Card_init (l : Launch) (g : GG) (M : MW) (a : Nat) (z e : Int32) (sz : Nat) (hA : M a = some (.inr (1, [.int 0, .int 0, .null, .null, .int 0, .int 0, .int 0, .int 0]))) : Met l y_Card_init (k_Card_init :: TT) { frames := 2, cells := 4, slots := 90, locals := 52 } (Pm g [.ref a, .int z, .int e] sz (M)) (Qm g M (fun _ : Unit => none) (fun _ M' => ∃ i0 w0 i1 w1, sz ≤ i0 ∧ i0 < w0 ∧ w0 < i1 ∧ i1 < w1 ∧ M' a = some (.inr (1, [.int z, .int e, .ref i0, .ref i1, .int 0, .int (-1), .int 0, .int 0])) ∧ M' i0 = some (.inr (5, [.ref w0])) ∧ M' w0 = some (.inl (g.2 1, 44, .inl (fun _ => 0))) ∧ M' i1 = some (.inr (5, [.ref w1])) ∧ M' w1 = some (.inl (g.2 1, 44, .inl (fun _ => 0))) ∧ ∀ q, q < sz → q ≠ a → M' q = M q)) 4 90 (mA M sz) := by
  refine met_of (by decide) (Nat.le_of_ble_eq_true rfl) ?_
  intro pr en s mi below meth co hx hb hr hml hown hlocks hnm hT hsz hP hK ls hl
  have hl : lv_has ls 3 [(0, .ref a), (1, .int z), (2, .int e)] := hl
  have hH := HS.start hP
  have o0 : M a = some (.inr (1, [.int 0, .int 0, .null, .null, .int 0, .int 0, .int 0, .int 0])) := hA
  have fr : ∀ q, q < s.heap.size → q ≠ a → M q = M q := fun q h1 _ => rfl
  refine lv_aload_n hx hb d_Card_init_0 rfl (lv_at hl 0 rfl) ?_
  refine W.objInit hx hb hown (hT _ w217) (hT _ w29) (hT _ w30) rfl (by rw [hml]; exact hl.1) rfl d_Card_init_1 (Nat.le_of_ble_eq_true rfl) (Nat.le_of_ble_eq_true rfl) ?_
  refine lv_aload_n hx hb d_Card_init_4 rfl (lv_at hl 0 rfl) ?_
  have l0 := hH.1.lt o0
  refine m_new (ci := 5) (fs := [.null]) hx hb hT in_Im ty_Im tk_Im hown (hT _ w218) (hT _ w219) (hT _ w14) hK hH rfl (fun j hj => by rcases j with _ | j <;> first | rfl | (exact absurd hj (by omega))) (by decide) (Nat.le_of_ble_eq_true rfl) d_Card_init_5 (fun H1 hH zH1 => ?_)
  have n0_1 : a ≠ s.heap.size := Nat.ne_of_lt l0
  obtain ⟨M1, hM1⟩ : ∃ Mz : MW, Mz = mu M s.heap.size (.inr (5, [.null])) := ⟨_, rfl⟩
  replace hH : HS g (mA M s.heap.size) s.heap M1 H1 [] := by rw [hM1]; exact hH
  replace o0 : M1 a = some (.inr (1, [.int 0, .int 0, .null, .null, .int 0, .int 0, .int 0, .int 0])) := by rw [hM1]; exact (mu_n n0_1).trans o0
  have o1 : M1 s.heap.size = some (.inr (5, [.null])) := by rw [hM1]; exact mu_s
  replace fr : ∀ q, q < s.heap.size → q ≠ a → M1 q = M q := fun q h1 h2 => by rw [hM1]; exact (mu_n (by omega)).trans (fr q h1 h2)
  refine lv_dup hx hb d_Card_init_8 rfl ?_
  have l0 := hH.1.lt o0
  have l1 := hH.1.lt o1
  refine m_run (c_IN (As := []) (rest := [.ref s.heap.size, .ref a]) hx hb hml hl.1 hown hT hK hH.1 (c_Im_init l g _ s.heap.size _ o1) kw_Im_init nw220 w221 rfl w14 hd_Im_init rfl rfl ⟨by decide, by decide⟩ rfl rfl (Nat.le_of_ble_eq_true rfl) d_Card_init_9 ⟨by decide, Nat.le_of_ble_eq_true rfl⟩) hH (fun rv M2 H2 locs hpost hH zH2 hdm hfr => ?_)
  obtain ⟨w0, p00, p01, p02, p03⟩ := hpost
  replace o0 : M2 a = some (.inr (1, [.int 0, .int 0, .null, .null, .int 0, .int 0, .int 0, .int 0])) := Eq.trans (p03 _ l0 n0_1) o0
  replace o1 : M2 s.heap.size = some (.inr (5, [.ref w0])) := p01
  replace fr : ∀ q, q < s.heap.size → q ≠ a → M2 q = M q := fun q h1 h2 => Eq.trans (p03 q (by omega) (by omega)) (fr q h1 h2)
  have o2 : M2 w0 = some (.inl (g.2 1, 44, .inl (fun _ => 0))) := p02
  refine m_putF (ci := 1) (v := .ref s.heap.size) (ty := .object "LockHouse$Image") hx hb hT in_Card ty_Card tk_Card nm_Card hown hK hH (o0) rfl 2 (by decide) (hT _ w232) (fun _ h9 => h9) rfl hnm rfl (by decide +kernel) rfl rfl (Nat.le_of_ble_eq_true rfl) d_Card_init_12 (e1 := .inr (1, [.int 0, .int 0, .ref s.heap.size, .null, .int 0, .int 0, .int 0, .int 0])) rfl (fun H3 locs hH zH3 => ?_)
  obtain ⟨M3, hM3⟩ : ∃ Mz : MW, Mz = mu M2 a (.inr (1, [.int 0, .int 0, .ref s.heap.size, .null, .int 0, .int 0, .int 0, .int 0])) := ⟨_, rfl⟩
  replace hH : HS g (mA M s.heap.size) s.heap M3 H3 locs := by rw [hM3]; exact hH
  replace o1 : M3 s.heap.size = some (.inr (5, [.ref w0])) := by rw [hM3]; exact (mu_n (Ne.symm n0_1)).trans o1
  replace o2 : M3 w0 = some (.inl (g.2 1, 44, .inl (fun _ => 0))) := by rw [hM3]; exact (mu_n (by omega)).trans o2
  have o0 : M3 a = some (.inr (1, [.int 0, .int 0, .ref s.heap.size, .null, .int 0, .int 0, .int 0, .int 0])) := by rw [hM3]; exact mu_s
  replace fr : ∀ q, q < s.heap.size → q ≠ a → M3 q = M q := fun q h1 h2 => by rw [hM3]; exact (mu_n (by omega)).trans (fr q h1 h2)
  refine lv_aload_n hx hb d_Card_init_15 rfl (lv_at hl 0 rfl) ?_
  have l0 := hH.1.lt o0
  have l1 := hH.1.lt o1
  have l2 := hH.1.lt o2
  refine m_new (ci := 5) (fs := [.null]) hx hb hT in_Im ty_Im tk_Im hown (hT _ w218) (hT _ w219) (hT _ w14) hK hH rfl (fun j hj => by rcases j with _ | j <;> first | rfl | (exact absurd hj (by omega))) (by decide) (Nat.le_of_ble_eq_true rfl) d_Card_init_16 (fun H4 hH zH4 => ?_)
  have n0_3 : a ≠ H3.size := Nat.ne_of_lt l0
  have n1_3 : s.heap.size ≠ H3.size := Nat.ne_of_lt l1
  have n2_3 : w0 ≠ H3.size := Nat.ne_of_lt l2
  obtain ⟨M4, hM4⟩ : ∃ Mz : MW, Mz = mu M3 H3.size (.inr (5, [.null])) := ⟨_, rfl⟩
  replace hH : HS g (mA M s.heap.size) s.heap M4 H4 locs := by rw [hM4]; exact hH
  replace o0 : M4 a = some (.inr (1, [.int 0, .int 0, .ref s.heap.size, .null, .int 0, .int 0, .int 0, .int 0])) := by rw [hM4]; exact (mu_n n0_3).trans o0
  replace o1 : M4 s.heap.size = some (.inr (5, [.ref w0])) := by rw [hM4]; exact (mu_n n1_3).trans o1
  replace o2 : M4 w0 = some (.inl (g.2 1, 44, .inl (fun _ => 0))) := by rw [hM4]; exact (mu_n n2_3).trans o2
  have o3 : M4 H3.size = some (.inr (5, [.null])) := by rw [hM4]; exact mu_s
  replace fr : ∀ q, q < s.heap.size → q ≠ a → M4 q = M q := fun q h1 h2 => by rw [hM4]; exact (mu_n (by omega)).trans (fr q h1 h2)
  refine lv_dup hx hb d_Card_init_19 rfl ?_
  have l0 := hH.1.lt o0
  have l1 := hH.1.lt o1
  have l2 := hH.1.lt o2
  have l3 := hH.1.lt o3
  refine m_run (c_IN (As := []) (rest := [.ref H3.size, .ref a]) hx hb hml hl.1 hown hT hK hH.1 (c_Im_init l g _ H3.size _ o3) kw_Im_init nw220 w221 rfl w14 hd_Im_init rfl rfl ⟨by decide, by decide⟩ rfl rfl (Nat.le_of_ble_eq_true rfl) d_Card_init_20 ⟨by decide, Nat.le_of_ble_eq_true rfl⟩) hH (fun rv M5 H5 locs hpost hH zH5 hdm hfr => ?_)
  obtain ⟨w1, p10, p11, p12, p13⟩ := hpost
  replace o0 : M5 a = some (.inr (1, [.int 0, .int 0, .ref s.heap.size, .null, .int 0, .int 0, .int 0, .int 0])) := Eq.trans (p13 _ l0 n0_3) o0
  replace o1 : M5 s.heap.size = some (.inr (5, [.ref w0])) := Eq.trans (p13 _ l1 n1_3) o1
  replace o2 : M5 w0 = some (.inl (g.2 1, 44, .inl (fun _ => 0))) := Eq.trans (p13 _ l2 n2_3) o2
  replace o3 : M5 H3.size = some (.inr (5, [.ref w1])) := p11
  replace fr : ∀ q, q < s.heap.size → q ≠ a → M5 q = M q := fun q h1 h2 => Eq.trans (p13 q (by omega) (by omega)) (fr q h1 h2)
  have o4 : M5 w1 = some (.inl (g.2 1, 44, .inl (fun _ => 0))) := p12
  refine m_putF (ci := 1) (v := .ref H3.size) (ty := .object "LockHouse$Image") hx hb hT in_Card ty_Card tk_Card nm_Card hown hK hH (o0) rfl 3 (by decide) (hT _ w233) (fun _ h9 => h9) rfl hnm rfl (by decide +kernel) rfl rfl (Nat.le_of_ble_eq_true rfl) d_Card_init_23 (e1 := .inr (1, [.int 0, .int 0, .ref s.heap.size, .ref H3.size, .int 0, .int 0, .int 0, .int 0])) rfl (fun H6 locs hH zH6 => ?_)
  obtain ⟨M6, hM6⟩ : ∃ Mz : MW, Mz = mu M5 a (.inr (1, [.int 0, .int 0, .ref s.heap.size, .ref H3.size, .int 0, .int 0, .int 0, .int 0])) := ⟨_, rfl⟩
  replace hH : HS g (mA M s.heap.size) s.heap M6 H6 locs := by rw [hM6]; exact hH
  replace o1 : M6 s.heap.size = some (.inr (5, [.ref w0])) := by rw [hM6]; exact (mu_n (Ne.symm n0_1)).trans o1
  replace o2 : M6 w0 = some (.inl (g.2 1, 44, .inl (fun _ => 0))) := by rw [hM6]; exact (mu_n (by omega)).trans o2
  replace o3 : M6 H3.size = some (.inr (5, [.ref w1])) := by rw [hM6]; exact (mu_n (Ne.symm n0_3)).trans o3
  replace o4 : M6 w1 = some (.inl (g.2 1, 44, .inl (fun _ => 0))) := by rw [hM6]; exact (mu_n (by omega)).trans o4
  have o0 : M6 a = some (.inr (1, [.int 0, .int 0, .ref s.heap.size, .ref H3.size, .int 0, .int 0, .int 0, .int 0])) := by rw [hM6]; exact mu_s
  replace fr : ∀ q, q < s.heap.size → q ≠ a → M6 q = M q := fun q h1 h2 => by rw [hM6]; exact (mu_n (by omega)).trans (fr q h1 h2)
  refine lv_aload_n hx hb d_Card_init_26 rfl (lv_at hl 0 rfl) ?_
  refine lv_iconst (v := 0) hx hb d_Card_init_27 (by decide) ?_
  refine m_put (ci := 1) (v := .int 0) (ty := .int) hx hb hT in_Card ty_Card tk_Card nm_Card hown hK hH (o0) rfl 4 (by decide) (hT _ w234) (fun _ h9 => h9) rfl (by decide +kernel) rfl rfl (Nat.le_of_ble_eq_true rfl) d_Card_init_28 (e1 := .inr (1, [.int 0, .int 0, .ref s.heap.size, .ref H3.size, .int 0, .int 0, .int 0, .int 0])) rfl (fun H7 locs hH zH7 => ?_)
  obtain ⟨M7, hM7⟩ : ∃ Mz : MW, Mz = mu M6 a (.inr (1, [.int 0, .int 0, .ref s.heap.size, .ref H3.size, .int 0, .int 0, .int 0, .int 0])) := ⟨_, rfl⟩
  replace hH : HS g (mA M s.heap.size) s.heap M7 H7 locs := by rw [hM7]; exact hH
  replace o1 : M7 s.heap.size = some (.inr (5, [.ref w0])) := by rw [hM7]; exact (mu_n (Ne.symm n0_1)).trans o1
  replace o2 : M7 w0 = some (.inl (g.2 1, 44, .inl (fun _ => 0))) := by rw [hM7]; exact (mu_n (by omega)).trans o2
  replace o3 : M7 H3.size = some (.inr (5, [.ref w1])) := by rw [hM7]; exact (mu_n (Ne.symm n0_3)).trans o3
  replace o4 : M7 w1 = some (.inl (g.2 1, 44, .inl (fun _ => 0))) := by rw [hM7]; exact (mu_n (by omega)).trans o4
  have o0 : M7 a = some (.inr (1, [.int 0, .int 0, .ref s.heap.size, .ref H3.size, .int 0, .int 0, .int 0, .int 0])) := by rw [hM7]; exact mu_s
  replace fr : ∀ q, q < s.heap.size → q ≠ a → M7 q = M q := fun q h1 h2 => by rw [hM7]; exact (mu_n (by omega)).trans (fr q h1 h2)
  refine lv_aload_n hx hb d_Card_init_31 rfl (lv_at hl 0 rfl) ?_
  refine lv_iconst (v := (-1)) hx hb d_Card_init_32 (by decide) ?_
  refine m_put (ci := 1) (v := .int (-1)) (ty := .int) hx hb hT in_Card ty_Card tk_Card nm_Card hown hK hH (o0) rfl 5 (by decide) (hT _ w237) (fun _ h9 => h9) rfl (by decide +kernel) rfl rfl (Nat.le_of_ble_eq_true rfl) d_Card_init_33 (e1 := .inr (1, [.int 0, .int 0, .ref s.heap.size, .ref H3.size, .int 0, .int (-1), .int 0, .int 0])) rfl (fun H8 locs hH zH8 => ?_)
  obtain ⟨M8, hM8⟩ : ∃ Mz : MW, Mz = mu M7 a (.inr (1, [.int 0, .int 0, .ref s.heap.size, .ref H3.size, .int 0, .int (-1), .int 0, .int 0])) := ⟨_, rfl⟩
  replace hH : HS g (mA M s.heap.size) s.heap M8 H8 locs := by rw [hM8]; exact hH
  replace o1 : M8 s.heap.size = some (.inr (5, [.ref w0])) := by rw [hM8]; exact (mu_n (Ne.symm n0_1)).trans o1
  replace o2 : M8 w0 = some (.inl (g.2 1, 44, .inl (fun _ => 0))) := by rw [hM8]; exact (mu_n (by omega)).trans o2
  replace o3 : M8 H3.size = some (.inr (5, [.ref w1])) := by rw [hM8]; exact (mu_n (Ne.symm n0_3)).trans o3
  replace o4 : M8 w1 = some (.inl (g.2 1, 44, .inl (fun _ => 0))) := by rw [hM8]; exact (mu_n (by omega)).trans o4
  have o0 : M8 a = some (.inr (1, [.int 0, .int 0, .ref s.heap.size, .ref H3.size, .int 0, .int (-1), .int 0, .int 0])) := by rw [hM8]; exact mu_s
  replace fr : ∀ q, q < s.heap.size → q ≠ a → M8 q = M q := fun q h1 h2 => by rw [hM8]; exact (mu_n (by omega)).trans (fr q h1 h2)
  refine lv_aload_n hx hb d_Card_init_36 rfl (lv_at hl 0 rfl) ?_
  refine lv_iconst (v := 0) hx hb d_Card_init_37 (by decide) ?_
  refine m_put (ci := 1) (v := .int 0) (ty := .int) hx hb hT in_Card ty_Card tk_Card nm_Card hown hK hH (o0) rfl 6 (by decide) (hT _ w239) (fun _ h9 => h9) rfl (by decide +kernel) rfl rfl (Nat.le_of_ble_eq_true rfl) d_Card_init_38 (e1 := .inr (1, [.int 0, .int 0, .ref s.heap.size, .ref H3.size, .int 0, .int (-1), .int 0, .int 0])) rfl (fun H9 locs hH zH9 => ?_)
  obtain ⟨M9, hM9⟩ : ∃ Mz : MW, Mz = mu M8 a (.inr (1, [.int 0, .int 0, .ref s.heap.size, .ref H3.size, .int 0, .int (-1), .int 0, .int 0])) := ⟨_, rfl⟩
  replace hH : HS g (mA M s.heap.size) s.heap M9 H9 locs := by rw [hM9]; exact hH
  replace o1 : M9 s.heap.size = some (.inr (5, [.ref w0])) := by rw [hM9]; exact (mu_n (Ne.symm n0_1)).trans o1
  replace o2 : M9 w0 = some (.inl (g.2 1, 44, .inl (fun _ => 0))) := by rw [hM9]; exact (mu_n (by omega)).trans o2
  replace o3 : M9 H3.size = some (.inr (5, [.ref w1])) := by rw [hM9]; exact (mu_n (Ne.symm n0_3)).trans o3
  replace o4 : M9 w1 = some (.inl (g.2 1, 44, .inl (fun _ => 0))) := by rw [hM9]; exact (mu_n (by omega)).trans o4
  have o0 : M9 a = some (.inr (1, [.int 0, .int 0, .ref s.heap.size, .ref H3.size, .int 0, .int (-1), .int 0, .int 0])) := by rw [hM9]; exact mu_s
  replace fr : ∀ q, q < s.heap.size → q ≠ a → M9 q = M q := fun q h1 h2 => by rw [hM9]; exact (mu_n (by omega)).trans (fr q h1 h2)
  refine lv_aload_n hx hb d_Card_init_41 rfl (lv_at hl 0 rfl) ?_
  refine lv_iconst (v := 0) hx hb d_Card_init_42 (by decide) ?_
  refine m_put (ci := 1) (v := .int 0) (ty := .int) hx hb hT in_Card ty_Card tk_Card nm_Card hown hK hH (o0) rfl 7 (by decide) (hT _ w240) (fun _ h9 => h9) rfl (by decide +kernel) rfl rfl (Nat.le_of_ble_eq_true rfl) d_Card_init_43 (e1 := .inr (1, [.int 0, .int 0, .ref s.heap.size, .ref H3.size, .int 0, .int (-1), .int 0, .int 0])) rfl (fun H10 locs hH zH10 => ?_)
  obtain ⟨M10, hM10⟩ : ∃ Mz : MW, Mz = mu M9 a (.inr (1, [.int 0, .int 0, .ref s.heap.size, .ref H3.size, .int 0, .int (-1), .int 0, .int 0])) := ⟨_, rfl⟩
  replace hH : HS g (mA M s.heap.size) s.heap M10 H10 locs := by rw [hM10]; exact hH
  replace o1 : M10 s.heap.size = some (.inr (5, [.ref w0])) := by rw [hM10]; exact (mu_n (Ne.symm n0_1)).trans o1
  replace o2 : M10 w0 = some (.inl (g.2 1, 44, .inl (fun _ => 0))) := by rw [hM10]; exact (mu_n (by omega)).trans o2
  replace o3 : M10 H3.size = some (.inr (5, [.ref w1])) := by rw [hM10]; exact (mu_n (Ne.symm n0_3)).trans o3
  replace o4 : M10 w1 = some (.inl (g.2 1, 44, .inl (fun _ => 0))) := by rw [hM10]; exact (mu_n (by omega)).trans o4
  have o0 : M10 a = some (.inr (1, [.int 0, .int 0, .ref s.heap.size, .ref H3.size, .int 0, .int (-1), .int 0, .int 0])) := by rw [hM10]; exact mu_s
  replace fr : ∀ q, q < s.heap.size → q ≠ a → M10 q = M q := fun q h1 h2 => by rw [hM10]; exact (mu_n (by omega)).trans (fr q h1 h2)
  refine lv_aload_n hx hb d_Card_init_46 rfl (lv_at hl 0 rfl) ?_
  refine lv_iload_n hx hb d_Card_init_47 rfl (lv_at hl 1 rfl) ?_
  refine m_putF (ci := 1) (v := .int z) (ty := .int) hx hb hT in_Card ty_Card tk_Card nm_Card hown hK hH (o0) rfl 0 (by decide) (hT _ w229) (fun _ h9 => h9) rfl hnm rfl (by decide +kernel) rfl rfl (Nat.le_of_ble_eq_true rfl) d_Card_init_48 (e1 := .inr (1, [.int z, .int 0, .ref s.heap.size, .ref H3.size, .int 0, .int (-1), .int 0, .int 0])) rfl (fun H11 locs hH zH11 => ?_)
  obtain ⟨M11, hM11⟩ : ∃ Mz : MW, Mz = mu M10 a (.inr (1, [.int z, .int 0, .ref s.heap.size, .ref H3.size, .int 0, .int (-1), .int 0, .int 0])) := ⟨_, rfl⟩
  replace hH : HS g (mA M s.heap.size) s.heap M11 H11 locs := by rw [hM11]; exact hH
  replace o1 : M11 s.heap.size = some (.inr (5, [.ref w0])) := by rw [hM11]; exact (mu_n (Ne.symm n0_1)).trans o1
  replace o2 : M11 w0 = some (.inl (g.2 1, 44, .inl (fun _ => 0))) := by rw [hM11]; exact (mu_n (by omega)).trans o2
  replace o3 : M11 H3.size = some (.inr (5, [.ref w1])) := by rw [hM11]; exact (mu_n (Ne.symm n0_3)).trans o3
  replace o4 : M11 w1 = some (.inl (g.2 1, 44, .inl (fun _ => 0))) := by rw [hM11]; exact (mu_n (by omega)).trans o4
  have o0 : M11 a = some (.inr (1, [.int z, .int 0, .ref s.heap.size, .ref H3.size, .int 0, .int (-1), .int 0, .int 0])) := by rw [hM11]; exact mu_s
  replace fr : ∀ q, q < s.heap.size → q ≠ a → M11 q = M q := fun q h1 h2 => by rw [hM11]; exact (mu_n (by omega)).trans (fr q h1 h2)
  refine lv_aload_n hx hb d_Card_init_51 rfl (lv_at hl 0 rfl) ?_
  refine lv_iload_n hx hb d_Card_init_52 rfl (lv_at hl 2 rfl) ?_
  refine m_putF (ci := 1) (v := .int e) (ty := .int) hx hb hT in_Card ty_Card tk_Card nm_Card hown hK hH (o0) rfl 1 (by decide) (hT _ w230) (fun _ h9 => h9) rfl hnm rfl (by decide +kernel) rfl rfl (Nat.le_of_ble_eq_true rfl) d_Card_init_53 (e1 := .inr (1, [.int z, .int e, .ref s.heap.size, .ref H3.size, .int 0, .int (-1), .int 0, .int 0])) rfl (fun H12 locs hH zH12 => ?_)
  obtain ⟨M12, hM12⟩ : ∃ Mz : MW, Mz = mu M11 a (.inr (1, [.int z, .int e, .ref s.heap.size, .ref H3.size, .int 0, .int (-1), .int 0, .int 0])) := ⟨_, rfl⟩
  replace hH : HS g (mA M s.heap.size) s.heap M12 H12 locs := by rw [hM12]; exact hH
  replace o1 : M12 s.heap.size = some (.inr (5, [.ref w0])) := by rw [hM12]; exact (mu_n (Ne.symm n0_1)).trans o1
  replace o2 : M12 w0 = some (.inl (g.2 1, 44, .inl (fun _ => 0))) := by rw [hM12]; exact (mu_n (by omega)).trans o2
  replace o3 : M12 H3.size = some (.inr (5, [.ref w1])) := by rw [hM12]; exact (mu_n (Ne.symm n0_3)).trans o3
  replace o4 : M12 w1 = some (.inl (g.2 1, 44, .inl (fun _ => 0))) := by rw [hM12]; exact (mu_n (by omega)).trans o4
  have o0 : M12 a = some (.inr (1, [.int z, .int e, .ref s.heap.size, .ref H3.size, .int 0, .int (-1), .int 0, .int 0])) := by rw [hM12]; exact mu_s
  replace fr : ∀ q, q < s.heap.size → q ≠ a → M12 q = M q := fun q h1 h2 => by rw [hM12]; exact (mu_n (by omega)).trans (fr q h1 h2)
  exact m_vret hx hb hr hlocks hsz hH ⟨s.heap.size, w0, H3.size, w1, by omega, by omega, by omega, by omega, o0, o1, o2, o3, o4, fun q h1 h2 => fr q (by omega) h2⟩ d_Card_init_56
set_option maxHeartbeats 800000 in
set_option maxRecDepth 100000 in
theorem c_Entry_init (l : Launch) (g : GG) (M : MW) (a : Nat) (c : Int32) (sz : Nat) (hA : M a = some (.inr (3, [.int 0, .null]))) : Met l y_Entry_init (k_Entry_init :: TT) { frames := 1, cells := 1, slots := 200, locals := 32 } (Pm g [.ref a, .int c] sz (M)) (Qm g M (fun _ : Unit => none) (fun _ M' => ∃ w, sz ≤ w ∧ M' a = some (.inr (3, [.int c, .ref w])) ∧ M' w = some (.inl (g.2 2, 200, .inl (fun _ => 0))) ∧ ∀ q, q < sz → q ≠ a → M' q = M q)) 1 200 (mA M sz) := by
  refine met_of (by decide) (Nat.le_of_ble_eq_true rfl) ?_
  intro pr en s mi below meth co hx hb hr hml hown hlocks hnm hT hsz hP hK ls hl
  have hl : lv_has ls 2 [(0, .ref a), (1, .int c)] := hl
  have hH := HS.start hP
  have o0 : M a = some (.inr (3, [.int 0, .null])) := hA
  have fr : ∀ q, q < s.heap.size → q ≠ a → M q = M q := fun q h1 _ => rfl
  refine lv_aload_n hx hb d_Entry_init_0 rfl (lv_at hl 0 rfl) ?_
  refine W.objInit hx hb hown (hT _ w373) (hT _ w29) (hT _ w30) rfl (by rw [hml]; exact hl.1) rfl d_Entry_init_1 (Nat.le_of_ble_eq_true rfl) (Nat.le_of_ble_eq_true rfl) ?_
  refine lv_aload_n hx hb d_Entry_init_4 rfl (lv_at hl 0 rfl) ?_
  refine lv_sipush (v := 200) hx hb d_Entry_init_5 (by decide) ?_
  have l0 := hH.1.lt o0
  refine m_newa (atype := .boolean) (ty := .boolean) (a0 := (200, .inl (fun _ => 0))) hx hb (hT _ w382) rfl hK hH 2 rfl (fun h9 => h9) rfl (N' := 200) rfl (by decide) (by decide +kernel) (by decide) (Nat.le_of_ble_eq_true rfl) d_Entry_init_8 (fun H1 hH zH1 => ?_)
  have n0_1 : a ≠ s.heap.size := Nat.ne_of_lt l0
  obtain ⟨M1, hM1⟩ : ∃ Mz : MW, Mz = mu M s.heap.size (.inl (g.2 2, 200, .inl (fun _ => 0))) := ⟨_, rfl⟩
  replace hH : HS g (mA M s.heap.size) s.heap M1 H1 [] := by rw [hM1]; exact hH
  replace o0 : M1 a = some (.inr (3, [.int 0, .null])) := by rw [hM1]; exact (mu_n n0_1).trans o0
  have o1 : M1 s.heap.size = some (.inl (g.2 2, 200, .inl (fun _ => 0))) := by rw [hM1]; exact mu_s
  replace fr : ∀ q, q < s.heap.size → q ≠ a → M1 q = M q := fun q h1 h2 => by rw [hM1]; exact (mu_n (by omega)).trans (fr q h1 h2)
  refine m_putF (ci := 3) (v := .ref s.heap.size) (ty := .array .boolean) hx hb hT in_Entry ty_Entry tk_Entry nm_Entry hown hK hH (o0) rfl 1 (by decide) (hT _ w376) (fun _ h9 => h9) rfl hnm rfl (by decide +kernel) rfl rfl (Nat.le_of_ble_eq_true rfl) d_Entry_init_10 (e1 := .inr (3, [.int 0, .ref s.heap.size])) rfl (fun H2 locs hH zH2 => ?_)
  obtain ⟨M2, hM2⟩ : ∃ Mz : MW, Mz = mu M1 a (.inr (3, [.int 0, .ref s.heap.size])) := ⟨_, rfl⟩
  replace hH : HS g (mA M s.heap.size) s.heap M2 H2 locs := by rw [hM2]; exact hH
  replace o1 : M2 s.heap.size = some (.inl (g.2 2, 200, .inl (fun _ => 0))) := by rw [hM2]; exact (mu_n (Ne.symm n0_1)).trans o1
  have o0 : M2 a = some (.inr (3, [.int 0, .ref s.heap.size])) := by rw [hM2]; exact mu_s
  replace fr : ∀ q, q < s.heap.size → q ≠ a → M2 q = M q := fun q h1 h2 => by rw [hM2]; exact (mu_n (by omega)).trans (fr q h1 h2)
  refine lv_aload_n hx hb d_Entry_init_13 rfl (lv_at hl 0 rfl) ?_
  refine lv_iload_n hx hb d_Entry_init_14 rfl (lv_at hl 1 rfl) ?_
  refine m_putF (ci := 3) (v := .int c) (ty := .int) hx hb hT in_Entry ty_Entry tk_Entry nm_Entry hown hK hH (o0) rfl 0 (by decide) (hT _ w374) (fun _ h9 => h9) rfl hnm rfl (by decide +kernel) rfl rfl (Nat.le_of_ble_eq_true rfl) d_Entry_init_15 (e1 := .inr (3, [.int c, .ref s.heap.size])) rfl (fun H3 locs hH zH3 => ?_)
  obtain ⟨M3, hM3⟩ : ∃ Mz : MW, Mz = mu M2 a (.inr (3, [.int c, .ref s.heap.size])) := ⟨_, rfl⟩
  replace hH : HS g (mA M s.heap.size) s.heap M3 H3 locs := by rw [hM3]; exact hH
  replace o1 : M3 s.heap.size = some (.inl (g.2 2, 200, .inl (fun _ => 0))) := by rw [hM3]; exact (mu_n (Ne.symm n0_1)).trans o1
  have o0 : M3 a = some (.inr (3, [.int c, .ref s.heap.size])) := by rw [hM3]; exact mu_s
  replace fr : ∀ q, q < s.heap.size → q ≠ a → M3 q = M q := fun q h1 h2 => by rw [hM3]; exact (mu_n (by omega)).trans (fr q h1 h2)
  exact m_vret hx hb hr hlocks hsz hH (⟨s.heap.size, by omega, o0, o1, fun q h1 h2 => fr q (by omega) h2⟩) d_Entry_init_18
set_option maxHeartbeats 800000 in
set_option maxRecDepth 100000 in
theorem c_Door_init (l : Launch) (g : GG) (M : MW) (a : Nat) (n : Int32) (sz : Nat) (hA : M a = some (.inr (2, [.int 0, .int 0, .int 0, .int 0, .int 0]))) : Met l y_Door_init (k_Door_init :: TT) { frames := 1, cells := 0, slots := 0, locals := 32 } (Pm g [.ref a, .int n] sz (M)) (Qm g M (fun _ : Unit => none) (fun _ M' => M' a = some (.inr (2, [.int n, .int 0, .int 0, .int 0, .int 0])) ∧ ∀ q, q < sz → q ≠ a → M' q = M q)) 0 0 (mA M sz) := by
  refine met_of (by decide) (Nat.le_of_ble_eq_true rfl) ?_
  intro pr en s mi below meth co hx hb hr hml hown hlocks hnm hT hsz hP hK ls hl
  have hl : lv_has ls 2 [(0, .ref a), (1, .int n)] := hl
  have hH := HS.start hP
  have o0 : M a = some (.inr (2, [.int 0, .int 0, .int 0, .int 0, .int 0])) := hA
  have fr : ∀ q, q < s.heap.size → q ≠ a → M q = M q := fun q h1 _ => rfl
  refine lv_aload_n hx hb d_Door_init_0 rfl (lv_at hl 0 rfl) ?_
  refine W.objInit hx hb hown (hT _ w75) (hT _ w29) (hT _ w30) rfl (by rw [hml]; exact hl.1) rfl d_Door_init_1 (Nat.le_of_ble_eq_true rfl) (Nat.le_of_ble_eq_true rfl) ?_
  refine lv_aload_n hx hb d_Door_init_4 rfl (lv_at hl 0 rfl) ?_
  refine lv_iconst (v := 0) hx hb d_Door_init_5 (by decide) ?_
  refine m_put (ci := 2) (v := .int 0) (ty := .int) hx hb hT in_Door ty_Door tk_Door nm_Door hown hK hH (o0) rfl 1 (by decide) (hT _ w77) (fun _ h9 => h9) rfl (by decide +kernel) rfl rfl (Nat.le_of_ble_eq_true rfl) d_Door_init_6 (e1 := .inr (2, [.int 0, .int 0, .int 0, .int 0, .int 0])) rfl (fun H1 locs hH zH1 => ?_)
  obtain ⟨M1, hM1⟩ : ∃ Mz : MW, Mz = mu M a (.inr (2, [.int 0, .int 0, .int 0, .int 0, .int 0])) := ⟨_, rfl⟩
  replace hH : HS g (mA M s.heap.size) s.heap M1 H1 locs := by rw [hM1]; exact hH
  have o0 : M1 a = some (.inr (2, [.int 0, .int 0, .int 0, .int 0, .int 0])) := by rw [hM1]; exact mu_s
  replace fr : ∀ q, q < s.heap.size → q ≠ a → M1 q = M q := fun q h1 h2 => by rw [hM1]; exact (mu_n (by omega)).trans (fr q h1 h2)
  refine lv_aload_n hx hb d_Door_init_9 rfl (lv_at hl 0 rfl) ?_
  refine lv_iconst (v := 0) hx hb d_Door_init_10 (by decide) ?_
  refine m_put (ci := 2) (v := .int 0) (ty := .int) hx hb hT in_Door ty_Door tk_Door nm_Door hown hK hH (o0) rfl 2 (by decide) (hT _ w79) (fun _ h9 => h9) rfl (by decide +kernel) rfl rfl (Nat.le_of_ble_eq_true rfl) d_Door_init_11 (e1 := .inr (2, [.int 0, .int 0, .int 0, .int 0, .int 0])) rfl (fun H2 locs hH zH2 => ?_)
  obtain ⟨M2, hM2⟩ : ∃ Mz : MW, Mz = mu M1 a (.inr (2, [.int 0, .int 0, .int 0, .int 0, .int 0])) := ⟨_, rfl⟩
  replace hH : HS g (mA M s.heap.size) s.heap M2 H2 locs := by rw [hM2]; exact hH
  have o0 : M2 a = some (.inr (2, [.int 0, .int 0, .int 0, .int 0, .int 0])) := by rw [hM2]; exact mu_s
  replace fr : ∀ q, q < s.heap.size → q ≠ a → M2 q = M q := fun q h1 h2 => by rw [hM2]; exact (mu_n (by omega)).trans (fr q h1 h2)
  refine lv_aload_n hx hb d_Door_init_14 rfl (lv_at hl 0 rfl) ?_
  refine lv_iconst (v := 0) hx hb d_Door_init_15 (by decide) ?_
  refine m_put (ci := 2) (v := .int 0) (ty := .int) hx hb hT in_Door ty_Door tk_Door nm_Door hown hK hH (o0) rfl 3 (by decide) (hT _ w81) (fun _ h9 => h9) rfl (by decide +kernel) rfl rfl (Nat.le_of_ble_eq_true rfl) d_Door_init_16 (e1 := .inr (2, [.int 0, .int 0, .int 0, .int 0, .int 0])) rfl (fun H3 locs hH zH3 => ?_)
  obtain ⟨M3, hM3⟩ : ∃ Mz : MW, Mz = mu M2 a (.inr (2, [.int 0, .int 0, .int 0, .int 0, .int 0])) := ⟨_, rfl⟩
  replace hH : HS g (mA M s.heap.size) s.heap M3 H3 locs := by rw [hM3]; exact hH
  have o0 : M3 a = some (.inr (2, [.int 0, .int 0, .int 0, .int 0, .int 0])) := by rw [hM3]; exact mu_s
  replace fr : ∀ q, q < s.heap.size → q ≠ a → M3 q = M q := fun q h1 h2 => by rw [hM3]; exact (mu_n (by omega)).trans (fr q h1 h2)
  refine lv_aload_n hx hb d_Door_init_19 rfl (lv_at hl 0 rfl) ?_
  refine lv_iconst (v := 0) hx hb d_Door_init_20 (by decide) ?_
  refine m_put (ci := 2) (v := .int 0) (ty := .boolean) hx hb hT in_Door ty_Door tk_Door nm_Door hown hK hH (o0) rfl 4 (by decide) (hT _ w83) (fun _ h9 => h9) rfl (by decide +kernel) rfl rfl (Nat.le_of_ble_eq_true rfl) d_Door_init_21 (e1 := .inr (2, [.int 0, .int 0, .int 0, .int 0, .int 0])) rfl (fun H4 locs hH zH4 => ?_)
  obtain ⟨M4, hM4⟩ : ∃ Mz : MW, Mz = mu M3 a (.inr (2, [.int 0, .int 0, .int 0, .int 0, .int 0])) := ⟨_, rfl⟩
  replace hH : HS g (mA M s.heap.size) s.heap M4 H4 locs := by rw [hM4]; exact hH
  have o0 : M4 a = some (.inr (2, [.int 0, .int 0, .int 0, .int 0, .int 0])) := by rw [hM4]; exact mu_s
  replace fr : ∀ q, q < s.heap.size → q ≠ a → M4 q = M q := fun q h1 h2 => by rw [hM4]; exact (mu_n (by omega)).trans (fr q h1 h2)
  refine lv_aload_n hx hb d_Door_init_24 rfl (lv_at hl 0 rfl) ?_
  refine lv_iload_n hx hb d_Door_init_25 rfl (lv_at hl 1 rfl) ?_
  refine m_putF (ci := 2) (v := .int n) (ty := .int) hx hb hT in_Door ty_Door tk_Door nm_Door hown hK hH (o0) rfl 0 (by decide) (hT _ w76) (fun _ h9 => h9) rfl hnm rfl (by decide +kernel) rfl rfl (Nat.le_of_ble_eq_true rfl) d_Door_init_26 (e1 := .inr (2, [.int n, .int 0, .int 0, .int 0, .int 0])) rfl (fun H5 locs hH zH5 => ?_)
  obtain ⟨M5, hM5⟩ : ∃ Mz : MW, Mz = mu M4 a (.inr (2, [.int n, .int 0, .int 0, .int 0, .int 0])) := ⟨_, rfl⟩
  replace hH : HS g (mA M s.heap.size) s.heap M5 H5 locs := by rw [hM5]; exact hH
  have o0 : M5 a = some (.inr (2, [.int n, .int 0, .int 0, .int 0, .int 0])) := by rw [hM5]; exact mu_s
  replace fr : ∀ q, q < s.heap.size → q ≠ a → M5 q = M q := fun q h1 h2 => by rw [hM5]; exact (mu_n (by omega)).trans (fr q h1 h2)
  exact m_vret hx hb hr hlocks hsz hH (⟨o0, fun q h1 h2 => fr q (by omega) h2⟩) d_Door_init_29
set_option maxHeartbeats 800000 in
set_option maxRecDepth 100000 in
theorem c_EL_init (l : Launch) (g : GG) (M : MW) (a : Nat) (de mir : Nat) (sz : Nat) (hA : M a = some (.inr (4, [.null]))) : Met l y_EL_init (k_EL_init :: TT) { frames := 4, cells := 1, slots := 3, locals := 92 } (Pd g [.ref a] sz (M) de mir) (Qm g M (fun _ : Unit => none) (fun _ M' => ∃ al, sz ≤ al ∧ M' a = some (.inr (4, [.ref al])) ∧ M' al = some (.inr (0, [.ref de, .int 0, .int 0])) ∧ ∀ q, q < sz → q ≠ a → M' q = M q)) 1 3 (mA M sz) := by
  refine dmet_of (by decide) (Nat.le_of_ble_eq_true rfl) ?_
  intro pr en s mi below meth co hx hb hr hml hown hlocks hnm hT hsz hP hK hZ ls hl
  have hl : lv_has ls 1 [(0, .ref a)] := hl
  have hH := HS.start hP
  have o0 : M a = some (.inr (4, [.null])) := hA
  have fr : ∀ q, q < s.heap.size → q ≠ a → M q = M q := fun q h1 _ => rfl
  refine lv_aload_n hx hb d_EL_init_0 rfl (lv_at hl 0 rfl) ?_
  refine W.objInit hx hb hown (hT _ w62) (hT _ w29) (hT _ w30) rfl (by rw [hml]; exact hl.1) rfl d_EL_init_1 (Nat.le_of_ble_eq_true rfl) (Nat.le_of_ble_eq_true rfl) ?_
  refine lv_aload_n hx hb d_EL_init_4 rfl (lv_at hl 0 rfl) ?_
  have l0 := hH.1.lt o0
  refine m_new (ci := 0) (fs := [.null, .int 0, .int 0]) hx hb hT in_AL ty_AL tk_AL hown (hT _ w63) (hT _ w32) (hT _ w4) hK hH rfl (fun j hj => by rcases j with _ | _ | _ | j <;> first | rfl | (exact absurd hj (by omega))) (by decide) (Nat.le_of_ble_eq_true rfl) d_EL_init_5 (fun H1 hH zH1 => ?_)
  have n0_1 : a ≠ s.heap.size := Nat.ne_of_lt l0
  obtain ⟨M1, hM1⟩ : ∃ Mz : MW, Mz = mu M s.heap.size (.inr (0, [.null, .int 0, .int 0])) := ⟨_, rfl⟩
  replace hH : HS g (mA M s.heap.size) s.heap M1 H1 [] := by rw [hM1]; exact hH
  replace o0 : M1 a = some (.inr (4, [.null])) := by rw [hM1]; exact (mu_n n0_1).trans o0
  have o1 : M1 s.heap.size = some (.inr (0, [.null, .int 0, .int 0])) := by rw [hM1]; exact mu_s
  replace fr : ∀ q, q < s.heap.size → q ≠ a → M1 q = M q := fun q h1 h2 => by rw [hM1]; exact (mu_n (by omega)).trans (fr q h1 h2)
  refine lv_dup hx hb d_EL_init_8 rfl ?_
  have l0 := hH.1.lt o0
  have l1 := hH.1.lt o1
  refine m_run (d_I (As := []) (rest := [.ref s.heap.size, .ref a]) hx hb hml hl.1 hown hT hK hH.1 (dd_of hH hZ) (c_AL_init l g _ s.heap.size de mir _ o1) kw_AL_init w64 w34 rfl w4 hd_AL_init rfl rfl ⟨by decide, by decide⟩ rfl rfl (Nat.le_of_ble_eq_true rfl) d_EL_init_9 ⟨by decide, Nat.le_of_ble_eq_true rfl⟩) hH (fun rv M2 H2 locs hpost hH zH2 hdm hfr => ?_)
  obtain ⟨p00, p01⟩ := hpost
  replace o0 : M2 a = some (.inr (4, [.null])) := Eq.trans (p01 _ n0_1) o0
  replace o1 : M2 s.heap.size = some (.inr (0, [.ref de, .int 0, .int 0])) := p00
  replace fr : ∀ q, q < s.heap.size → q ≠ a → M2 q = M q := fun q h1 h2 => Eq.trans (p01 q (by omega)) (fr q h1 h2)
  refine m_putF (ci := 4) (v := .ref s.heap.size) (ty := .object "java/util/ArrayList") hx hb hT in_EL ty_EL tk_EL nm_EL hown hK hH (o0) rfl 0 (by decide) (hT _ w65) (fun _ h9 => h9) rfl hnm rfl (by decide +kernel) rfl rfl (Nat.le_of_ble_eq_true rfl) d_EL_init_12 (e1 := .inr (4, [.ref s.heap.size])) rfl (fun H3 locs hH zH3 => ?_)
  obtain ⟨M3, hM3⟩ : ∃ Mz : MW, Mz = mu M2 a (.inr (4, [.ref s.heap.size])) := ⟨_, rfl⟩
  replace hH : HS g (mA M s.heap.size) s.heap M3 H3 locs := by rw [hM3]; exact hH
  replace o1 : M3 s.heap.size = some (.inr (0, [.ref de, .int 0, .int 0])) := by rw [hM3]; exact (mu_n (Ne.symm n0_1)).trans o1
  have o0 : M3 a = some (.inr (4, [.ref s.heap.size])) := by rw [hM3]; exact mu_s
  replace fr : ∀ q, q < s.heap.size → q ≠ a → M3 q = M q := fun q h1 h2 => by rw [hM3]; exact (mu_n (by omega)).trans (fr q h1 h2)
  exact m_vret hx hb hr hlocks hsz hH ⟨s.heap.size, by omega, o0, o1, fun q h1 h2 => fr q (by omega) h2⟩ d_EL_init_15
theorem mu_same {M : MW} {a : Nat} {e : va_E} (h : M a = some e) : mu M a e = M := by
  funext q
  by_cases hq : q = a
  · subst hq; rw [mu_s, h]
  · exact mu_n hq
theorem mu_mu {M : MW} {a : Nat} {e e' : va_E} : mu (mu M a e) a e' = mu M a e' := by
  funext q
  by_cases hq : q = a
  · subst hq; rw [mu_s, mu_s]
  · rw [mu_n hq, mu_n hq, mu_n hq]
theorem fill_up (f : Nat → Int32) (v : Int32) (k : Nat) : upd (fun q => if q < k then v else f q) k v = fun q => if q < k + 1 then v else f q := by
  funext q
  unfold upd
  by_cases h : q = k
  · subst h; simp
  · by_cases h2 : q < k
    · simp [h, h2, show q < k + 1 by omega]
    · simp [h, h2, show ¬ q < k + 1 by omega]
set_option maxHeartbeats 800000 in
set_option maxRecDepth 100000 in
theorem c_Arr_fill (l : Launch) (g : GG) (M : MW) (ar : Nat) (v : Int32) (f : Nat → Int32) (sz : Nat) (hA : M ar = some (.inl (g.2 0, 200, .inl f))) : Met l y_Arr_fill (k_Arr_fill :: TT) { frames := 0, cells := 0, slots := 0, locals := 0 } (Pm g [.ref ar, .int v] sz (M)) (Qm g M (fun _ : Unit => none) (fun _ M' => M' = mu M ar (.inl (g.2 0, 200, .inl (fun q => if q < 200 then v else f q))))) 0 0 (mA M sz) := by
  refine met_of (by decide) (Nat.le_of_ble_eq_true rfl) ?_
  intro pr en s mi below meth co hx hb hr hml hown hlocks hnm hT hsz hP hK ls hl
  have hl : lv_has ls 4 [(0, .ref ar), (1, .int v)] := hl
  have hH := HS.start hP
  refine lv_iconst (v := 0) hx hb d_Arr_fill_0 (by decide) ?_
  refine lv_istore_n (lv' := [(2, .int 0), (0, .ref ar), (1, .int v)]) hx hb d_Arr_fill_1 rfl hl (by decide) rfl (fun ls hl => ?_)
  refine lv_aload_n hx hb d_Arr_fill_2 rfl (lv_at hl 1 rfl) ?_
  refine m_alen (v := nI 200) hx hb hK hH.1 0 (hA) rfl rfl d_Arr_fill_3 ?_
  refine lv_istore_n (lv' := [(3, .int (nI 200)), (2, .int 0), (0, .ref ar), (1, .int v)]) hx hb d_Arr_fill_4 rfl hl (by decide) rfl (fun ls hl => ?_)
  have hH : HS g (mA M s.heap.size) s.heap (mu M ar (.inl (g.2 0, 200, .inl (fun q => if q < 0 then v else f q)))) s.heap [] := by rw [show (fun q => if q < 0 then v else f q) = f by funext q; simp, mu_same hA]; exact hH
  refine W.rep (α := Heap × List Loc × Array Slot × Nat) (fun (H, locs, ls, k) => 200 - k) (fun (H, locs, ls, k) => lv_has ls 4 [(0, .ref ar), (1, .int v), (2, .int (nI k)), (3, .int (nI 200))] ∧ HS g (mA M s.heap.size) s.heap (mu M ar (.inl (g.2 0, 200, .inl (fun q => if q < k then v else f q)))) H locs ∧ k ≤ 200) (fun (H, locs, ls, k) => H) (fun (H, locs, ls, k) => locs) (fun (H, locs, ls, k) => F0 mi 5 ls []) ?_ (s.heap, [], ls, 0) ⟨lv_sub hl [2, 3, 1, 0] rfl, hH, by omega⟩
  rintro ⟨H, locs, ls, k⟩ ⟨hl, hH, hi1⟩ ih
  dsimp only at hl hH hi1 ih ⊢
  refine lv_iload_n hx hb d_Arr_fill_5 rfl (lv_at hl 2 rfl) ?_
  refine lv_iload_n hx hb d_Arr_fill_6 rfl (lv_at hl 3 rfl) ?_
  refine lv_icmp_ge (tgt := 20) hx hb d_Arr_fill_7 (by decide) (fun c1 => ?_) (fun c1 => ?_)
  · skip
    have hk : k = 200 := by have := ge_of c1 (by decide) (by omega); omega
    subst hk
    exact m_vret hx hb hr hlocks hsz hH (rfl) d_Arr_fill_20
  · skip
    have hk : k < 200 := by rcases Nat.lt_or_ge k 200 with h9 | h9; exact h9; exact absurd (nI_le h9 (by omega)) c1
    refine lv_aload_n hx hb d_Arr_fill_10 rfl (lv_at hl 0 rfl) ?_
    refine lv_iload_n hx hb d_Arr_fill_11 rfl (lv_at hl 2 rfl) ?_
    refine lv_iload_n hx hb d_Arr_fill_12 rfl (lv_at hl 1 rfl) ?_
    refine m_iast hx hb hK hH 0 (mu_s) rfl (j := k) (rfl) (hk) (by decide) d_Arr_fill_13 (fun H locs hH hzz => ?_)
    rw [mu_mu, fill_up] at hH
    refine lv_iinc (v := nI (k + 1)) (lv' := [(2, .int (nI (k + 1))), (0, .ref ar), (1, .int v), (3, .int (nI 200))]) hx hb d_Arr_fill_14 hl (k := 2) rfl (nI_1 k) (by decide) rfl (fun ls hl => ?_)
    refine lv_goto (tgt := 5) hx hb d_Arr_fill_17 (by decide) ?_
    exact ih (_, _, _, k + 1) ⟨lv_sub hl [1, 2, 0, 3] rfl, hH, by dsimp only; omega⟩ (by dsimp only; omega)
