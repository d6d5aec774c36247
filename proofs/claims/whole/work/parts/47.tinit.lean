/-! The reference is made. -/
set_option maxHeartbeats 800000 in
set_option maxRecDepth 100000 in
theorem c_T_init (l : Launch) (g : GG) (M : MW) (t : Nat) (sz : Nat) (hA : M t = some (.inr (7, [.int 0, .int 0, .null, .null, .null, .null, .null, .null, .null, .int 0, .null, .null, .null, .null, .null, .null, .null, .null]))) (ht : sz = t + 1) : Met l y_T_init (k_T_init :: TT) { frames := 1, cells := 15, slots := 976601, locals := 32 } (Pm g [.ref t] sz (M)) (Qm g M (fun _ : Unit => none) (fun _ M' => ∀ q e, tw g t (fun _ _ => 0) q = some e → M' q = some e)) 15 976601 (mA M sz) := by
  refine met_of (by decide) (Nat.le_of_ble_eq_true rfl) ?_
  intro pr en s mi below meth co hx hb hr hml hown hlocks hnm hT hsz hP hK ls hl
  have hl : lv_has ls 1 [(0, .ref t)] := hl
  have hH := HS.start hP
  have o0 : M t = some (.inr (7, [.int 0, .int 0, .null, .null, .null, .null, .null, .null, .null, .int 0, .null, .null, .null, .null, .null, .null, .null, .null])) := hA
  have fr : ∀ q, q < s.heap.size → q ≠ t → M q = M q := fun q h1 _ => rfl
  refine lv_aload_n hx hb d_T_init_0 rfl (lv_at hl 0 rfl) ?_
  refine W.objInit hx hb hown (hT _ w669) (hT _ w29) (hT _ w30) rfl (by rw [hml]; exact hl.1) rfl d_T_init_1 (Nat.le_of_ble_eq_true rfl) (Nat.le_of_ble_eq_true rfl) ?_
  refine lv_aload_n hx hb d_T_init_4 rfl (lv_at hl 0 rfl) ?_
  refine lv_sipush (v := 4000) hx hb d_T_init_5 (by decide) ?_
  have l0 := hH.1.lt o0
  refine m_newa (atype := .int) (ty := .int) (a0 := (4000, .inl (fun _ => 0))) hx hb (hT _ w96) rfl hK hH 0 rfl (fun h9 => h9) rfl (N' := 4000) rfl (by decide) (by decide +kernel) (by decide) (Nat.le_of_ble_eq_true rfl) d_T_init_8 (fun H1 hH zH1 => ?_)
  have n0_1 : t ≠ s.heap.size := Nat.ne_of_lt l0
  obtain ⟨M1, hM1⟩ : ∃ Mz : MW, Mz = mu M s.heap.size (.inl (g.2 0, 4000, .inl (fun _ => 0))) := ⟨_, rfl⟩
  replace hH : HS g (mA M s.heap.size) s.heap M1 H1 [] := by rw [hM1]; exact hH
  replace o0 : M1 t = some (.inr (7, [.int 0, .int 0, .null, .null, .null, .null, .null, .null, .null, .int 0, .null, .null, .null, .null, .null, .null, .null, .null])) := by rw [hM1]; exact (mu_n n0_1).trans o0
  have o1 : M1 s.heap.size = some (.inl (g.2 0, 4000, .inl (fun _ => 0))) := by rw [hM1]; exact mu_s
  replace fr : ∀ q, q < s.heap.size → q ≠ t → M1 q = M q := fun q h1 h2 => by rw [hM1]; exact (mu_n (by omega)).trans (fr q h1 h2)
  refine m_putF (ci := 7) (v := .ref s.heap.size) (ty := .array .int) hx hb hT in_T ty_T tk_T nm_T hown hK hH (o0) rfl 2 (by decide) (hT _ w674) (fun _ h9 => h9) rfl hnm rfl (by decide +kernel) rfl rfl (Nat.le_of_ble_eq_true rfl) d_T_init_10 (e1 := .inr (7, [.int 0, .int 0, .ref s.heap.size, .null, .null, .null, .null, .null, .null, .int 0, .null, .null, .null, .null, .null, .null, .null, .null])) rfl (fun H2 locs hH zH2 => ?_)
  obtain ⟨M2, hM2⟩ : ∃ Mz : MW, Mz = mu M1 t (.inr (7, [.int 0, .int 0, .ref s.heap.size, .null, .null, .null, .null, .null, .null, .int 0, .null, .null, .null, .null, .null, .null, .null, .null])) := ⟨_, rfl⟩
  replace hH : HS g (mA M s.heap.size) s.heap M2 H2 locs := by rw [hM2]; exact hH
  replace o1 : M2 s.heap.size = some (.inl (g.2 0, 4000, .inl (fun _ => 0))) := by rw [hM2]; exact (mu_n (Ne.symm n0_1)).trans o1
  have o0 : M2 t = some (.inr (7, [.int 0, .int 0, .ref s.heap.size, .null, .null, .null, .null, .null, .null, .int 0, .null, .null, .null, .null, .null, .null, .null, .null])) := by rw [hM2]; exact mu_s
  replace fr : ∀ q, q < s.heap.size → q ≠ t → M2 q = M q := fun q h1 h2 => by rw [hM2]; exact (mu_n (by omega)).trans (fr q h1 h2)
  refine lv_aload_n hx hb d_T_init_13 rfl (lv_at hl 0 rfl) ?_
  refine lv_sipush (v := 4000) hx hb d_T_init_14 (by decide) ?_
  have l0 := hH.1.lt o0
  have l1 := hH.1.lt o1
  refine m_newa (atype := .int) (ty := .int) (a0 := (4000, .inl (fun _ => 0))) hx hb (hT _ w96) rfl hK hH 0 rfl (fun h9 => h9) rfl (N' := 4000) rfl (by decide) (by decide +kernel) (by decide) (Nat.le_of_ble_eq_true rfl) d_T_init_17 (fun H3 hH zH3 => ?_)
  have n0_2 : t ≠ H2.size := Nat.ne_of_lt l0
  have n1_2 : s.heap.size ≠ H2.size := Nat.ne_of_lt l1
  obtain ⟨M3, hM3⟩ : ∃ Mz : MW, Mz = mu M2 H2.size (.inl (g.2 0, 4000, .inl (fun _ => 0))) := ⟨_, rfl⟩
  replace hH : HS g (mA M s.heap.size) s.heap M3 H3 locs := by rw [hM3]; exact hH
  replace o0 : M3 t = some (.inr (7, [.int 0, .int 0, .ref s.heap.size, .null, .null, .null, .null, .null, .null, .int 0, .null, .null, .null, .null, .null, .null, .null, .null])) := by rw [hM3]; exact (mu_n n0_2).trans o0
  replace o1 : M3 s.heap.size = some (.inl (g.2 0, 4000, .inl (fun _ => 0))) := by rw [hM3]; exact (mu_n n1_2).trans o1
  have o2 : M3 H2.size = some (.inl (g.2 0, 4000, .inl (fun _ => 0))) := by rw [hM3]; exact mu_s
  replace fr : ∀ q, q < s.heap.size → q ≠ t → M3 q = M q := fun q h1 h2 => by rw [hM3]; exact (mu_n (by omega)).trans (fr q h1 h2)
  refine m_putF (ci := 7) (v := .ref H2.size) (ty := .array .int) hx hb hT in_T ty_T tk_T nm_T hown hK hH (o0) rfl 3 (by decide) (hT _ w675) (fun _ h9 => h9) rfl hnm rfl (by decide +kernel) rfl rfl (Nat.le_of_ble_eq_true rfl) d_T_init_19 (e1 := .inr (7, [.int 0, .int 0, .ref s.heap.size, .ref H2.size, .null, .null, .null, .null, .null, .int 0, .null, .null, .null, .null, .null, .null, .null, .null])) rfl (fun H4 locs hH zH4 => ?_)
  obtain ⟨M4, hM4⟩ : ∃ Mz : MW, Mz = mu M3 t (.inr (7, [.int 0, .int 0, .ref s.heap.size, .ref H2.size, .null, .null, .null, .null, .null, .int 0, .null, .null, .null, .null, .null, .null, .null, .null])) := ⟨_, rfl⟩
  replace hH : HS g (mA M s.heap.size) s.heap M4 H4 locs := by rw [hM4]; exact hH
  replace o1 : M4 s.heap.size = some (.inl (g.2 0, 4000, .inl (fun _ => 0))) := by rw [hM4]; exact (mu_n (Ne.symm n0_1)).trans o1
  replace o2 : M4 H2.size = some (.inl (g.2 0, 4000, .inl (fun _ => 0))) := by rw [hM4]; exact (mu_n (Ne.symm n0_2)).trans o2
  have o0 : M4 t = some (.inr (7, [.int 0, .int 0, .ref s.heap.size, .ref H2.size, .null, .null, .null, .null, .null, .int 0, .null, .null, .null, .null, .null, .null, .null, .null])) := by rw [hM4]; exact mu_s
  replace fr : ∀ q, q < s.heap.size → q ≠ t → M4 q = M q := fun q h1 h2 => by rw [hM4]; exact (mu_n (by omega)).trans (fr q h1 h2)
  refine lv_aload_n hx hb d_T_init_22 rfl (lv_at hl 0 rfl) ?_
  refine lv_sipush (v := 4000) hx hb d_T_init_23 (by decide) ?_
  have l0 := hH.1.lt o0
  have l1 := hH.1.lt o1
  have l2 := hH.1.lt o2
  refine m_newa (atype := .int) (ty := .int) (a0 := (4000, .inl (fun _ => 0))) hx hb (hT _ w96) rfl hK hH 0 rfl (fun h9 => h9) rfl (N' := 4000) rfl (by decide) (by decide +kernel) (by decide) (Nat.le_of_ble_eq_true rfl) d_T_init_26 (fun H5 hH zH5 => ?_)
  have n0_3 : t ≠ H4.size := Nat.ne_of_lt l0
  have n1_3 : s.heap.size ≠ H4.size := Nat.ne_of_lt l1
  have n2_3 : H2.size ≠ H4.size := Nat.ne_of_lt l2
  obtain ⟨M5, hM5⟩ : ∃ Mz : MW, Mz = mu M4 H4.size (.inl (g.2 0, 4000, .inl (fun _ => 0))) := ⟨_, rfl⟩
  replace hH : HS g (mA M s.heap.size) s.heap M5 H5 locs := by rw [hM5]; exact hH
  replace o0 : M5 t = some (.inr (7, [.int 0, .int 0, .ref s.heap.size, .ref H2.size, .null, .null, .null, .null, .null, .int 0, .null, .null, .null, .null, .null, .null, .null, .null])) := by rw [hM5]; exact (mu_n n0_3).trans o0
  replace o1 : M5 s.heap.size = some (.inl (g.2 0, 4000, .inl (fun _ => 0))) := by rw [hM5]; exact (mu_n n1_3).trans o1
  replace o2 : M5 H2.size = some (.inl (g.2 0, 4000, .inl (fun _ => 0))) := by rw [hM5]; exact (mu_n n2_3).trans o2
  have o3 : M5 H4.size = some (.inl (g.2 0, 4000, .inl (fun _ => 0))) := by rw [hM5]; exact mu_s
  replace fr : ∀ q, q < s.heap.size → q ≠ t → M5 q = M q := fun q h1 h2 => by rw [hM5]; exact (mu_n (by omega)).trans (fr q h1 h2)
  refine m_putF (ci := 7) (v := .ref H4.size) (ty := .array .int) hx hb hT in_T ty_T tk_T nm_T hown hK hH (o0) rfl 4 (by decide) (hT _ w676) (fun _ h9 => h9) rfl hnm rfl (by decide +kernel) rfl rfl (Nat.le_of_ble_eq_true rfl) d_T_init_28 (e1 := .inr (7, [.int 0, .int 0, .ref s.heap.size, .ref H2.size, .ref H4.size, .null, .null, .null, .null, .int 0, .null, .null, .null, .null, .null, .null, .null, .null])) rfl (fun H6 locs hH zH6 => ?_)
  obtain ⟨M6, hM6⟩ : ∃ Mz : MW, Mz = mu M5 t (.inr (7, [.int 0, .int 0, .ref s.heap.size, .ref H2.size, .ref H4.size, .null, .null, .null, .null, .int 0, .null, .null, .null, .null, .null, .null, .null, .null])) := ⟨_, rfl⟩
  replace hH : HS g (mA M s.heap.size) s.heap M6 H6 locs := by rw [hM6]; exact hH
  replace o1 : M6 s.heap.size = some (.inl (g.2 0, 4000, .inl (fun _ => 0))) := by rw [hM6]; exact (mu_n (Ne.symm n0_1)).trans o1
  replace o2 : M6 H2.size = some (.inl (g.2 0, 4000, .inl (fun _ => 0))) := by rw [hM6]; exact (mu_n (Ne.symm n0_2)).trans o2
  replace o3 : M6 H4.size = some (.inl (g.2 0, 4000, .inl (fun _ => 0))) := by rw [hM6]; exact (mu_n (Ne.symm n0_3)).trans o3
  have o0 : M6 t = some (.inr (7, [.int 0, .int 0, .ref s.heap.size, .ref H2.size, .ref H4.size, .null, .null, .null, .null, .int 0, .null, .null, .null, .null, .null, .null, .null, .null])) := by rw [hM6]; exact mu_s
  replace fr : ∀ q, q < s.heap.size → q ≠ t → M6 q = M q := fun q h1 h2 => by rw [hM6]; exact (mu_n (by omega)).trans (fr q h1 h2)
  refine lv_aload_n hx hb d_T_init_31 rfl (lv_at hl 0 rfl) ?_
  refine lv_sipush (v := 4000) hx hb d_T_init_32 (by decide) ?_
  have l0 := hH.1.lt o0
  have l1 := hH.1.lt o1
  have l2 := hH.1.lt o2
  have l3 := hH.1.lt o3
  refine m_newa (atype := .int) (ty := .int) (a0 := (4000, .inl (fun _ => 0))) hx hb (hT _ w96) rfl hK hH 0 rfl (fun h9 => h9) rfl (N' := 4000) rfl (by decide) (by decide +kernel) (by decide) (Nat.le_of_ble_eq_true rfl) d_T_init_35 (fun H7 hH zH7 => ?_)
  have n0_4 : t ≠ H6.size := Nat.ne_of_lt l0
  have n1_4 : s.heap.size ≠ H6.size := Nat.ne_of_lt l1
  have n2_4 : H2.size ≠ H6.size := Nat.ne_of_lt l2
  have n3_4 : H4.size ≠ H6.size := Nat.ne_of_lt l3
  obtain ⟨M7, hM7⟩ : ∃ Mz : MW, Mz = mu M6 H6.size (.inl (g.2 0, 4000, .inl (fun _ => 0))) := ⟨_, rfl⟩
  replace hH : HS g (mA M s.heap.size) s.heap M7 H7 locs := by rw [hM7]; exact hH
  replace o0 : M7 t = some (.inr (7, [.int 0, .int 0, .ref s.heap.size, .ref H2.size, .ref H4.size, .null, .null, .null, .null, .int 0, .null, .null, .null, .null, .null, .null, .null, .null])) := by rw [hM7]; exact (mu_n n0_4).trans o0
  replace o1 : M7 s.heap.size = some (.inl (g.2 0, 4000, .inl (fun _ => 0))) := by rw [hM7]; exact (mu_n n1_4).trans o1
  replace o2 : M7 H2.size = some (.inl (g.2 0, 4000, .inl (fun _ => 0))) := by rw [hM7]; exact (mu_n n2_4).trans o2
  replace o3 : M7 H4.size = some (.inl (g.2 0, 4000, .inl (fun _ => 0))) := by rw [hM7]; exact (mu_n n3_4).trans o3
  have o4 : M7 H6.size = some (.inl (g.2 0, 4000, .inl (fun _ => 0))) := by rw [hM7]; exact mu_s
  replace fr : ∀ q, q < s.heap.size → q ≠ t → M7 q = M q := fun q h1 h2 => by rw [hM7]; exact (mu_n (by omega)).trans (fr q h1 h2)
  refine m_putF (ci := 7) (v := .ref H6.size) (ty := .array .int) hx hb hT in_T ty_T tk_T nm_T hown hK hH (o0) rfl 5 (by decide) (hT _ w677) (fun _ h9 => h9) rfl hnm rfl (by decide +kernel) rfl rfl (Nat.le_of_ble_eq_true rfl) d_T_init_37 (e1 := .inr (7, [.int 0, .int 0, .ref s.heap.size, .ref H2.size, .ref H4.size, .ref H6.size, .null, .null, .null, .int 0, .null, .null, .null, .null, .null, .null, .null, .null])) rfl (fun H8 locs hH zH8 => ?_)
  obtain ⟨M8, hM8⟩ : ∃ Mz : MW, Mz = mu M7 t (.inr (7, [.int 0, .int 0, .ref s.heap.size, .ref H2.size, .ref H4.size, .ref H6.size, .null, .null, .null, .int 0, .null, .null, .null, .null, .null, .null, .null, .null])) := ⟨_, rfl⟩
  replace hH : HS g (mA M s.heap.size) s.heap M8 H8 locs := by rw [hM8]; exact hH
  replace o1 : M8 s.heap.size = some (.inl (g.2 0, 4000, .inl (fun _ => 0))) := by rw [hM8]; exact (mu_n (Ne.symm n0_1)).trans o1
  replace o2 : M8 H2.size = some (.inl (g.2 0, 4000, .inl (fun _ => 0))) := by rw [hM8]; exact (mu_n (Ne.symm n0_2)).trans o2
  replace o3 : M8 H4.size = some (.inl (g.2 0, 4000, .inl (fun _ => 0))) := by rw [hM8]; exact (mu_n (Ne.symm n0_3)).trans o3
  replace o4 : M8 H6.size = some (.inl (g.2 0, 4000, .inl (fun _ => 0))) := by rw [hM8]; exact (mu_n (Ne.symm n0_4)).trans o4
  have o0 : M8 t = some (.inr (7, [.int 0, .int 0, .ref s.heap.size, .ref H2.size, .ref H4.size, .ref H6.size, .null, .null, .null, .int 0, .null, .null, .null, .null, .null, .null, .null, .null])) := by rw [hM8]; exact mu_s
  replace fr : ∀ q, q < s.heap.size → q ≠ t → M8 q = M q := fun q h1 h2 => by rw [hM8]; exact (mu_n (by omega)).trans (fr q h1 h2)
  refine lv_aload_n hx hb d_T_init_40 rfl (lv_at hl 0 rfl) ?_
  refine lv_ldc hx hb hown (hT _ w670) d_T_init_41 ?_
  have l0 := hH.1.lt o0
  have l1 := hH.1.lt o1
  have l2 := hH.1.lt o2
  have l3 := hH.1.lt o3
  have l4 := hH.1.lt o4
  refine m_newa (atype := .short) (ty := .short) (a0 := (352000, .inl (fun _ => 0))) hx hb (hT _ w228) rfl hK hH 1 rfl (fun h9 => h9) rfl (N' := 352000) rfl (by decide) (by decide +kernel) (by decide) (Nat.le_of_ble_eq_true rfl) d_T_init_43 (fun H9 hH zH9 => ?_)
  have n0_5 : t ≠ H8.size := Nat.ne_of_lt l0
  have n1_5 : s.heap.size ≠ H8.size := Nat.ne_of_lt l1
  have n2_5 : H2.size ≠ H8.size := Nat.ne_of_lt l2
  have n3_5 : H4.size ≠ H8.size := Nat.ne_of_lt l3
  have n4_5 : H6.size ≠ H8.size := Nat.ne_of_lt l4
  obtain ⟨M9, hM9⟩ : ∃ Mz : MW, Mz = mu M8 H8.size (.inl (g.2 1, 352000, .inl (fun _ => 0))) := ⟨_, rfl⟩
  replace hH : HS g (mA M s.heap.size) s.heap M9 H9 locs := by rw [hM9]; exact hH
  replace o0 : M9 t = some (.inr (7, [.int 0, .int 0, .ref s.heap.size, .ref H2.size, .ref H4.size, .ref H6.size, .null, .null, .null, .int 0, .null, .null, .null, .null, .null, .null, .null, .null])) := by rw [hM9]; exact (mu_n n0_5).trans o0
  replace o1 : M9 s.heap.size = some (.inl (g.2 0, 4000, .inl (fun _ => 0))) := by rw [hM9]; exact (mu_n n1_5).trans o1
  replace o2 : M9 H2.size = some (.inl (g.2 0, 4000, .inl (fun _ => 0))) := by rw [hM9]; exact (mu_n n2_5).trans o2
  replace o3 : M9 H4.size = some (.inl (g.2 0, 4000, .inl (fun _ => 0))) := by rw [hM9]; exact (mu_n n3_5).trans o3
  replace o4 : M9 H6.size = some (.inl (g.2 0, 4000, .inl (fun _ => 0))) := by rw [hM9]; exact (mu_n n4_5).trans o4
  have o5 : M9 H8.size = some (.inl (g.2 1, 352000, .inl (fun _ => 0))) := by rw [hM9]; exact mu_s
  replace fr : ∀ q, q < s.heap.size → q ≠ t → M9 q = M q := fun q h1 h2 => by rw [hM9]; exact (mu_n (by omega)).trans (fr q h1 h2)
  refine m_putF (ci := 7) (v := .ref H8.size) (ty := .array .short) hx hb hT in_T ty_T tk_T nm_T hown hK hH (o0) rfl 6 (by decide) (hT _ w678) (fun _ h9 => h9) rfl hnm rfl (by decide +kernel) rfl rfl (Nat.le_of_ble_eq_true rfl) d_T_init_45 (e1 := .inr (7, [.int 0, .int 0, .ref s.heap.size, .ref H2.size, .ref H4.size, .ref H6.size, .ref H8.size, .null, .null, .int 0, .null, .null, .null, .null, .null, .null, .null, .null])) rfl (fun H10 locs hH zH10 => ?_)
  obtain ⟨M10, hM10⟩ : ∃ Mz : MW, Mz = mu M9 t (.inr (7, [.int 0, .int 0, .ref s.heap.size, .ref H2.size, .ref H4.size, .ref H6.size, .ref H8.size, .null, .null, .int 0, .null, .null, .null, .null, .null, .null, .null, .null])) := ⟨_, rfl⟩
  replace hH : HS g (mA M s.heap.size) s.heap M10 H10 locs := by rw [hM10]; exact hH
  replace o1 : M10 s.heap.size = some (.inl (g.2 0, 4000, .inl (fun _ => 0))) := by rw [hM10]; exact (mu_n (Ne.symm n0_1)).trans o1
  replace o2 : M10 H2.size = some (.inl (g.2 0, 4000, .inl (fun _ => 0))) := by rw [hM10]; exact (mu_n (Ne.symm n0_2)).trans o2
  replace o3 : M10 H4.size = some (.inl (g.2 0, 4000, .inl (fun _ => 0))) := by rw [hM10]; exact (mu_n (Ne.symm n0_3)).trans o3
  replace o4 : M10 H6.size = some (.inl (g.2 0, 4000, .inl (fun _ => 0))) := by rw [hM10]; exact (mu_n (Ne.symm n0_4)).trans o4
  replace o5 : M10 H8.size = some (.inl (g.2 1, 352000, .inl (fun _ => 0))) := by rw [hM10]; exact (mu_n (Ne.symm n0_5)).trans o5
  have o0 : M10 t = some (.inr (7, [.int 0, .int 0, .ref s.heap.size, .ref H2.size, .ref H4.size, .ref H6.size, .ref H8.size, .null, .null, .int 0, .null, .null, .null, .null, .null, .null, .null, .null])) := by rw [hM10]; exact mu_s
  replace fr : ∀ q, q < s.heap.size → q ≠ t → M10 q = M q := fun q h1 h2 => by rw [hM10]; exact (mu_n (by omega)).trans (fr q h1 h2)
  refine lv_aload_n hx hb d_T_init_48 rfl (lv_at hl 0 rfl) ?_
  refine lv_sipush (v := 4000) hx hb d_T_init_49 (by decide) ?_
  have l0 := hH.1.lt o0
  have l1 := hH.1.lt o1
  have l2 := hH.1.lt o2
  have l3 := hH.1.lt o3
  have l4 := hH.1.lt o4
  have l5 := hH.1.lt o5
  refine m_newa (atype := .int) (ty := .int) (a0 := (4000, .inl (fun _ => 0))) hx hb (hT _ w96) rfl hK hH 0 rfl (fun h9 => h9) rfl (N' := 4000) rfl (by decide) (by decide +kernel) (by decide) (Nat.le_of_ble_eq_true rfl) d_T_init_52 (fun H11 hH zH11 => ?_)
  have n0_6 : t ≠ H10.size := Nat.ne_of_lt l0
  have n1_6 : s.heap.size ≠ H10.size := Nat.ne_of_lt l1
  have n2_6 : H2.size ≠ H10.size := Nat.ne_of_lt l2
  have n3_6 : H4.size ≠ H10.size := Nat.ne_of_lt l3
  have n4_6 : H6.size ≠ H10.size := Nat.ne_of_lt l4
  have n5_6 : H8.size ≠ H10.size := Nat.ne_of_lt l5
  obtain ⟨M11, hM11⟩ : ∃ Mz : MW, Mz = mu M10 H10.size (.inl (g.2 0, 4000, .inl (fun _ => 0))) := ⟨_, rfl⟩
  replace hH : HS g (mA M s.heap.size) s.heap M11 H11 locs := by rw [hM11]; exact hH
  replace o0 : M11 t = some (.inr (7, [.int 0, .int 0, .ref s.heap.size, .ref H2.size, .ref H4.size, .ref H6.size, .ref H8.size, .null, .null, .int 0, .null, .null, .null, .null, .null, .null, .null, .null])) := by rw [hM11]; exact (mu_n n0_6).trans o0
  replace o1 : M11 s.heap.size = some (.inl (g.2 0, 4000, .inl (fun _ => 0))) := by rw [hM11]; exact (mu_n n1_6).trans o1
  replace o2 : M11 H2.size = some (.inl (g.2 0, 4000, .inl (fun _ => 0))) := by rw [hM11]; exact (mu_n n2_6).trans o2
  replace o3 : M11 H4.size = some (.inl (g.2 0, 4000, .inl (fun _ => 0))) := by rw [hM11]; exact (mu_n n3_6).trans o3
  replace o4 : M11 H6.size = some (.inl (g.2 0, 4000, .inl (fun _ => 0))) := by rw [hM11]; exact (mu_n n4_6).trans o4
  replace o5 : M11 H8.size = some (.inl (g.2 1, 352000, .inl (fun _ => 0))) := by rw [hM11]; exact (mu_n n5_6).trans o5
  have o6 : M11 H10.size = some (.inl (g.2 0, 4000, .inl (fun _ => 0))) := by rw [hM11]; exact mu_s
  replace fr : ∀ q, q < s.heap.size → q ≠ t → M11 q = M q := fun q h1 h2 => by rw [hM11]; exact (mu_n (by omega)).trans (fr q h1 h2)
  refine m_putF (ci := 7) (v := .ref H10.size) (ty := .array .int) hx hb hT in_T ty_T tk_T nm_T hown hK hH (o0) rfl 7 (by decide) (hT _ w679) (fun _ h9 => h9) rfl hnm rfl (by decide +kernel) rfl rfl (Nat.le_of_ble_eq_true rfl) d_T_init_54 (e1 := .inr (7, [.int 0, .int 0, .ref s.heap.size, .ref H2.size, .ref H4.size, .ref H6.size, .ref H8.size, .ref H10.size, .null, .int 0, .null, .null, .null, .null, .null, .null, .null, .null])) rfl (fun H12 locs hH zH12 => ?_)
  obtain ⟨M12, hM12⟩ : ∃ Mz : MW, Mz = mu M11 t (.inr (7, [.int 0, .int 0, .ref s.heap.size, .ref H2.size, .ref H4.size, .ref H6.size, .ref H8.size, .ref H10.size, .null, .int 0, .null, .null, .null, .null, .null, .null, .null, .null])) := ⟨_, rfl⟩
  replace hH : HS g (mA M s.heap.size) s.heap M12 H12 locs := by rw [hM12]; exact hH
  replace o1 : M12 s.heap.size = some (.inl (g.2 0, 4000, .inl (fun _ => 0))) := by rw [hM12]; exact (mu_n (Ne.symm n0_1)).trans o1
  replace o2 : M12 H2.size = some (.inl (g.2 0, 4000, .inl (fun _ => 0))) := by rw [hM12]; exact (mu_n (Ne.symm n0_2)).trans o2
  replace o3 : M12 H4.size = some (.inl (g.2 0, 4000, .inl (fun _ => 0))) := by rw [hM12]; exact (mu_n (Ne.symm n0_3)).trans o3
  replace o4 : M12 H6.size = some (.inl (g.2 0, 4000, .inl (fun _ => 0))) := by rw [hM12]; exact (mu_n (Ne.symm n0_4)).trans o4
  replace o5 : M12 H8.size = some (.inl (g.2 1, 352000, .inl (fun _ => 0))) := by rw [hM12]; exact (mu_n (Ne.symm n0_5)).trans o5
  replace o6 : M12 H10.size = some (.inl (g.2 0, 4000, .inl (fun _ => 0))) := by rw [hM12]; exact (mu_n (Ne.symm n0_6)).trans o6
  have o0 : M12 t = some (.inr (7, [.int 0, .int 0, .ref s.heap.size, .ref H2.size, .ref H4.size, .ref H6.size, .ref H8.size, .ref H10.size, .null, .int 0, .null, .null, .null, .null, .null, .null, .null, .null])) := by rw [hM12]; exact mu_s
  replace fr : ∀ q, q < s.heap.size → q ≠ t → M12 q = M q := fun q h1 h2 => by rw [hM12]; exact (mu_n (by omega)).trans (fr q h1 h2)
  refine lv_aload_n hx hb d_T_init_57 rfl (lv_at hl 0 rfl) ?_
  refine lv_sipush (v := 3001) hx hb d_T_init_58 (by decide) ?_
  have l0 := hH.1.lt o0
  have l1 := hH.1.lt o1
  have l2 := hH.1.lt o2
  have l3 := hH.1.lt o3
  have l4 := hH.1.lt o4
  have l5 := hH.1.lt o5
  have l6 := hH.1.lt o6
  refine m_newa (atype := .int) (ty := .int) (a0 := (3001, .inl (fun _ => 0))) hx hb (hT _ w96) rfl hK hH 0 rfl (fun h9 => h9) rfl (N' := 3001) rfl (by decide) (by decide +kernel) (by decide) (Nat.le_of_ble_eq_true rfl) d_T_init_61 (fun H13 hH zH13 => ?_)
  have n0_7 : t ≠ H12.size := Nat.ne_of_lt l0
  have n1_7 : s.heap.size ≠ H12.size := Nat.ne_of_lt l1
  have n2_7 : H2.size ≠ H12.size := Nat.ne_of_lt l2
  have n3_7 : H4.size ≠ H12.size := Nat.ne_of_lt l3
  have n4_7 : H6.size ≠ H12.size := Nat.ne_of_lt l4
  have n5_7 : H8.size ≠ H12.size := Nat.ne_of_lt l5
  have n6_7 : H10.size ≠ H12.size := Nat.ne_of_lt l6
  obtain ⟨M13, hM13⟩ : ∃ Mz : MW, Mz = mu M12 H12.size (.inl (g.2 0, 3001, .inl (fun _ => 0))) := ⟨_, rfl⟩
  replace hH : HS g (mA M s.heap.size) s.heap M13 H13 locs := by rw [hM13]; exact hH
  replace o0 : M13 t = some (.inr (7, [.int 0, .int 0, .ref s.heap.size, .ref H2.size, .ref H4.size, .ref H6.size, .ref H8.size, .ref H10.size, .null, .int 0, .null, .null, .null, .null, .null, .null, .null, .null])) := by rw [hM13]; exact (mu_n n0_7).trans o0
  replace o1 : M13 s.heap.size = some (.inl (g.2 0, 4000, .inl (fun _ => 0))) := by rw [hM13]; exact (mu_n n1_7).trans o1
  replace o2 : M13 H2.size = some (.inl (g.2 0, 4000, .inl (fun _ => 0))) := by rw [hM13]; exact (mu_n n2_7).trans o2
  replace o3 : M13 H4.size = some (.inl (g.2 0, 4000, .inl (fun _ => 0))) := by rw [hM13]; exact (mu_n n3_7).trans o3
  replace o4 : M13 H6.size = some (.inl (g.2 0, 4000, .inl (fun _ => 0))) := by rw [hM13]; exact (mu_n n4_7).trans o4
  replace o5 : M13 H8.size = some (.inl (g.2 1, 352000, .inl (fun _ => 0))) := by rw [hM13]; exact (mu_n n5_7).trans o5
  replace o6 : M13 H10.size = some (.inl (g.2 0, 4000, .inl (fun _ => 0))) := by rw [hM13]; exact (mu_n n6_7).trans o6
  have o7 : M13 H12.size = some (.inl (g.2 0, 3001, .inl (fun _ => 0))) := by rw [hM13]; exact mu_s
  replace fr : ∀ q, q < s.heap.size → q ≠ t → M13 q = M q := fun q h1 h2 => by rw [hM13]; exact (mu_n (by omega)).trans (fr q h1 h2)
  refine m_putF (ci := 7) (v := .ref H12.size) (ty := .array .int) hx hb hT in_T ty_T tk_T nm_T hown hK hH (o0) rfl 8 (by decide) (hT _ w680) (fun _ h9 => h9) rfl hnm rfl (by decide +kernel) rfl rfl (Nat.le_of_ble_eq_true rfl) d_T_init_63 (e1 := .inr (7, [.int 0, .int 0, .ref s.heap.size, .ref H2.size, .ref H4.size, .ref H6.size, .ref H8.size, .ref H10.size, .ref H12.size, .int 0, .null, .null, .null, .null, .null, .null, .null, .null])) rfl (fun H14 locs hH zH14 => ?_)
  obtain ⟨M14, hM14⟩ : ∃ Mz : MW, Mz = mu M13 t (.inr (7, [.int 0, .int 0, .ref s.heap.size, .ref H2.size, .ref H4.size, .ref H6.size, .ref H8.size, .ref H10.size, .ref H12.size, .int 0, .null, .null, .null, .null, .null, .null, .null, .null])) := ⟨_, rfl⟩
  replace hH : HS g (mA M s.heap.size) s.heap M14 H14 locs := by rw [hM14]; exact hH
  replace o1 : M14 s.heap.size = some (.inl (g.2 0, 4000, .inl (fun _ => 0))) := by rw [hM14]; exact (mu_n (Ne.symm n0_1)).trans o1
  replace o2 : M14 H2.size = some (.inl (g.2 0, 4000, .inl (fun _ => 0))) := by rw [hM14]; exact (mu_n (Ne.symm n0_2)).trans o2
  replace o3 : M14 H4.size = some (.inl (g.2 0, 4000, .inl (fun _ => 0))) := by rw [hM14]; exact (mu_n (Ne.symm n0_3)).trans o3
  replace o4 : M14 H6.size = some (.inl (g.2 0, 4000, .inl (fun _ => 0))) := by rw [hM14]; exact (mu_n (Ne.symm n0_4)).trans o4
  replace o5 : M14 H8.size = some (.inl (g.2 1, 352000, .inl (fun _ => 0))) := by rw [hM14]; exact (mu_n (Ne.symm n0_5)).trans o5
  replace o6 : M14 H10.size = some (.inl (g.2 0, 4000, .inl (fun _ => 0))) := by rw [hM14]; exact (mu_n (Ne.symm n0_6)).trans o6
  replace o7 : M14 H12.size = some (.inl (g.2 0, 3001, .inl (fun _ => 0))) := by rw [hM14]; exact (mu_n (Ne.symm n0_7)).trans o7
  have o0 : M14 t = some (.inr (7, [.int 0, .int 0, .ref s.heap.size, .ref H2.size, .ref H4.size, .ref H6.size, .ref H8.size, .ref H10.size, .ref H12.size, .int 0, .null, .null, .null, .null, .null, .null, .null, .null])) := by rw [hM14]; exact mu_s
  replace fr : ∀ q, q < s.heap.size → q ≠ t → M14 q = M q := fun q h1 h2 => by rw [hM14]; exact (mu_n (by omega)).trans (fr q h1 h2)
  refine lv_aload_n hx hb d_T_init_66 rfl (lv_at hl 0 rfl) ?_
  refine lv_ldc hx hb hown (hT _ w671) d_T_init_67 ?_
  have l0 := hH.1.lt o0
  have l1 := hH.1.lt o1
  have l2 := hH.1.lt o2
  have l3 := hH.1.lt o3
  have l4 := hH.1.lt o4
  have l5 := hH.1.lt o5
  have l6 := hH.1.lt o6
  have l7 := hH.1.lt o7
  refine m_newa (atype := .boolean) (ty := .boolean) (a0 := (600200, .inl (fun _ => 0))) hx hb (hT _ w382) rfl hK hH 2 rfl (fun h9 => h9) rfl (N' := 600200) rfl (by decide) (by decide +kernel) (by decide) (Nat.le_of_ble_eq_true rfl) d_T_init_69 (fun H15 hH zH15 => ?_)
  have n0_8 : t ≠ H14.size := Nat.ne_of_lt l0
  have n1_8 : s.heap.size ≠ H14.size := Nat.ne_of_lt l1
  have n2_8 : H2.size ≠ H14.size := Nat.ne_of_lt l2
  have n3_8 : H4.size ≠ H14.size := Nat.ne_of_lt l3
  have n4_8 : H6.size ≠ H14.size := Nat.ne_of_lt l4
  have n5_8 : H8.size ≠ H14.size := Nat.ne_of_lt l5
  have n6_8 : H10.size ≠ H14.size := Nat.ne_of_lt l6
  have n7_8 : H12.size ≠ H14.size := Nat.ne_of_lt l7
  obtain ⟨M15, hM15⟩ : ∃ Mz : MW, Mz = mu M14 H14.size (.inl (g.2 2, 600200, .inl (fun _ => 0))) := ⟨_, rfl⟩
  replace hH : HS g (mA M s.heap.size) s.heap M15 H15 locs := by rw [hM15]; exact hH
  replace o0 : M15 t = some (.inr (7, [.int 0, .int 0, .ref s.heap.size, .ref H2.size, .ref H4.size, .ref H6.size, .ref H8.size, .ref H10.size, .ref H12.size, .int 0, .null, .null, .null, .null, .null, .null, .null, .null])) := by rw [hM15]; exact (mu_n n0_8).trans o0
  replace o1 : M15 s.heap.size = some (.inl (g.2 0, 4000, .inl (fun _ => 0))) := by rw [hM15]; exact (mu_n n1_8).trans o1
  replace o2 : M15 H2.size = some (.inl (g.2 0, 4000, .inl (fun _ => 0))) := by rw [hM15]; exact (mu_n n2_8).trans o2
  replace o3 : M15 H4.size = some (.inl (g.2 0, 4000, .inl (fun _ => 0))) := by rw [hM15]; exact (mu_n n3_8).trans o3
  replace o4 : M15 H6.size = some (.inl (g.2 0, 4000, .inl (fun _ => 0))) := by rw [hM15]; exact (mu_n n4_8).trans o4
  replace o5 : M15 H8.size = some (.inl (g.2 1, 352000, .inl (fun _ => 0))) := by rw [hM15]; exact (mu_n n5_8).trans o5
  replace o6 : M15 H10.size = some (.inl (g.2 0, 4000, .inl (fun _ => 0))) := by rw [hM15]; exact (mu_n n6_8).trans o6
  replace o7 : M15 H12.size = some (.inl (g.2 0, 3001, .inl (fun _ => 0))) := by rw [hM15]; exact (mu_n n7_8).trans o7
  have o8 : M15 H14.size = some (.inl (g.2 2, 600200, .inl (fun _ => 0))) := by rw [hM15]; exact mu_s
  replace fr : ∀ q, q < s.heap.size → q ≠ t → M15 q = M q := fun q h1 h2 => by rw [hM15]; exact (mu_n (by omega)).trans (fr q h1 h2)
  refine m_putF (ci := 7) (v := .ref H14.size) (ty := .array .boolean) hx hb hT in_T ty_T tk_T nm_T hown hK hH (o0) rfl 10 (by decide) (hT _ w682) (fun _ h9 => h9) rfl hnm rfl (by decide +kernel) rfl rfl (Nat.le_of_ble_eq_true rfl) d_T_init_71 (e1 := .inr (7, [.int 0, .int 0, .ref s.heap.size, .ref H2.size, .ref H4.size, .ref H6.size, .ref H8.size, .ref H10.size, .ref H12.size, .int 0, .ref H14.size, .null, .null, .null, .null, .null, .null, .null])) rfl (fun H16 locs hH zH16 => ?_)
  obtain ⟨M16, hM16⟩ : ∃ Mz : MW, Mz = mu M15 t (.inr (7, [.int 0, .int 0, .ref s.heap.size, .ref H2.size, .ref H4.size, .ref H6.size, .ref H8.size, .ref H10.size, .ref H12.size, .int 0, .ref H14.size, .null, .null, .null, .null, .null, .null, .null])) := ⟨_, rfl⟩
  replace hH : HS g (mA M s.heap.size) s.heap M16 H16 locs := by rw [hM16]; exact hH
  replace o1 : M16 s.heap.size = some (.inl (g.2 0, 4000, .inl (fun _ => 0))) := by rw [hM16]; exact (mu_n (Ne.symm n0_1)).trans o1
  replace o2 : M16 H2.size = some (.inl (g.2 0, 4000, .inl (fun _ => 0))) := by rw [hM16]; exact (mu_n (Ne.symm n0_2)).trans o2
  replace o3 : M16 H4.size = some (.inl (g.2 0, 4000, .inl (fun _ => 0))) := by rw [hM16]; exact (mu_n (Ne.symm n0_3)).trans o3
  replace o4 : M16 H6.size = some (.inl (g.2 0, 4000, .inl (fun _ => 0))) := by rw [hM16]; exact (mu_n (Ne.symm n0_4)).trans o4
  replace o5 : M16 H8.size = some (.inl (g.2 1, 352000, .inl (fun _ => 0))) := by rw [hM16]; exact (mu_n (Ne.symm n0_5)).trans o5
  replace o6 : M16 H10.size = some (.inl (g.2 0, 4000, .inl (fun _ => 0))) := by rw [hM16]; exact (mu_n (Ne.symm n0_6)).trans o6
  replace o7 : M16 H12.size = some (.inl (g.2 0, 3001, .inl (fun _ => 0))) := by rw [hM16]; exact (mu_n (Ne.symm n0_7)).trans o7
  replace o8 : M16 H14.size = some (.inl (g.2 2, 600200, .inl (fun _ => 0))) := by rw [hM16]; exact (mu_n (Ne.symm n0_8)).trans o8
  have o0 : M16 t = some (.inr (7, [.int 0, .int 0, .ref s.heap.size, .ref H2.size, .ref H4.size, .ref H6.size, .ref H8.size, .ref H10.size, .ref H12.size, .int 0, .ref H14.size, .null, .null, .null, .null, .null, .null, .null])) := by rw [hM16]; exact mu_s
  replace fr : ∀ q, q < s.heap.size → q ≠ t → M16 q = M q := fun q h1 h2 => by rw [hM16]; exact (mu_n (by omega)).trans (fr q h1 h2)
  refine lv_aload_n hx hb d_T_init_74 rfl (lv_at hl 0 rfl) ?_
  refine lv_sipush (v := 200) hx hb d_T_init_75 (by decide) ?_
  have l0 := hH.1.lt o0
  have l1 := hH.1.lt o1
  have l2 := hH.1.lt o2
  have l3 := hH.1.lt o3
  have l4 := hH.1.lt o4
  have l5 := hH.1.lt o5
  have l6 := hH.1.lt o6
  have l7 := hH.1.lt o7
  have l8 := hH.1.lt o8
  refine m_newa (atype := .int) (ty := .int) (a0 := (200, .inl (fun _ => 0))) hx hb (hT _ w96) rfl hK hH 0 rfl (fun h9 => h9) rfl (N' := 200) rfl (by decide) (by decide +kernel) (by decide) (Nat.le_of_ble_eq_true rfl) d_T_init_78 (fun H17 hH zH17 => ?_)
  have n0_9 : t ≠ H16.size := Nat.ne_of_lt l0
  have n1_9 : s.heap.size ≠ H16.size := Nat.ne_of_lt l1
  have n2_9 : H2.size ≠ H16.size := Nat.ne_of_lt l2
  have n3_9 : H4.size ≠ H16.size := Nat.ne_of_lt l3
  have n4_9 : H6.size ≠ H16.size := Nat.ne_of_lt l4
  have n5_9 : H8.size ≠ H16.size := Nat.ne_of_lt l5
  have n6_9 : H10.size ≠ H16.size := Nat.ne_of_lt l6
  have n7_9 : H12.size ≠ H16.size := Nat.ne_of_lt l7
  have n8_9 : H14.size ≠ H16.size := Nat.ne_of_lt l8
  obtain ⟨M17, hM17⟩ : ∃ Mz : MW, Mz = mu M16 H16.size (.inl (g.2 0, 200, .inl (fun _ => 0))) := ⟨_, rfl⟩
  replace hH : HS g (mA M s.heap.size) s.heap M17 H17 locs := by rw [hM17]; exact hH
  replace o0 : M17 t = some (.inr (7, [.int 0, .int 0, .ref s.heap.size, .ref H2.size, .ref H4.size, .ref H6.size, .ref H8.size, .ref H10.size, .ref H12.size, .int 0, .ref H14.size, .null, .null, .null, .null, .null, .null, .null])) := by rw [hM17]; exact (mu_n n0_9).trans o0
  replace o1 : M17 s.heap.size = some (.inl (g.2 0, 4000, .inl (fun _ => 0))) := by rw [hM17]; exact (mu_n n1_9).trans o1
  replace o2 : M17 H2.size = some (.inl (g.2 0, 4000, .inl (fun _ => 0))) := by rw [hM17]; exact (mu_n n2_9).trans o2
  replace o3 : M17 H4.size = some (.inl (g.2 0, 4000, .inl (fun _ => 0))) := by rw [hM17]; exact (mu_n n3_9).trans o3
  replace o4 : M17 H6.size = some (.inl (g.2 0, 4000, .inl (fun _ => 0))) := by rw [hM17]; exact (mu_n n4_9).trans o4
  replace o5 : M17 H8.size = some (.inl (g.2 1, 352000, .inl (fun _ => 0))) := by rw [hM17]; exact (mu_n n5_9).trans o5
  replace o6 : M17 H10.size = some (.inl (g.2 0, 4000, .inl (fun _ => 0))) := by rw [hM17]; exact (mu_n n6_9).trans o6
  replace o7 : M17 H12.size = some (.inl (g.2 0, 3001, .inl (fun _ => 0))) := by rw [hM17]; exact (mu_n n7_9).trans o7
  replace o8 : M17 H14.size = some (.inl (g.2 2, 600200, .inl (fun _ => 0))) := by rw [hM17]; exact (mu_n n8_9).trans o8
  have o9 : M17 H16.size = some (.inl (g.2 0, 200, .inl (fun _ => 0))) := by rw [hM17]; exact mu_s
  replace fr : ∀ q, q < s.heap.size → q ≠ t → M17 q = M q := fun q h1 h2 => by rw [hM17]; exact (mu_n (by omega)).trans (fr q h1 h2)
  refine m_putF (ci := 7) (v := .ref H16.size) (ty := .array .int) hx hb hT in_T ty_T tk_T nm_T hown hK hH (o0) rfl 11 (by decide) (hT _ w683) (fun _ h9 => h9) rfl hnm rfl (by decide +kernel) rfl rfl (Nat.le_of_ble_eq_true rfl) d_T_init_80 (e1 := .inr (7, [.int 0, .int 0, .ref s.heap.size, .ref H2.size, .ref H4.size, .ref H6.size, .ref H8.size, .ref H10.size, .ref H12.size, .int 0, .ref H14.size, .ref H16.size, .null, .null, .null, .null, .null, .null])) rfl (fun H18 locs hH zH18 => ?_)
  obtain ⟨M18, hM18⟩ : ∃ Mz : MW, Mz = mu M17 t (.inr (7, [.int 0, .int 0, .ref s.heap.size, .ref H2.size, .ref H4.size, .ref H6.size, .ref H8.size, .ref H10.size, .ref H12.size, .int 0, .ref H14.size, .ref H16.size, .null, .null, .null, .null, .null, .null])) := ⟨_, rfl⟩
  replace hH : HS g (mA M s.heap.size) s.heap M18 H18 locs := by rw [hM18]; exact hH
  replace o1 : M18 s.heap.size = some (.inl (g.2 0, 4000, .inl (fun _ => 0))) := by rw [hM18]; exact (mu_n (Ne.symm n0_1)).trans o1
  replace o2 : M18 H2.size = some (.inl (g.2 0, 4000, .inl (fun _ => 0))) := by rw [hM18]; exact (mu_n (Ne.symm n0_2)).trans o2
  replace o3 : M18 H4.size = some (.inl (g.2 0, 4000, .inl (fun _ => 0))) := by rw [hM18]; exact (mu_n (Ne.symm n0_3)).trans o3
  replace o4 : M18 H6.size = some (.inl (g.2 0, 4000, .inl (fun _ => 0))) := by rw [hM18]; exact (mu_n (Ne.symm n0_4)).trans o4
  replace o5 : M18 H8.size = some (.inl (g.2 1, 352000, .inl (fun _ => 0))) := by rw [hM18]; exact (mu_n (Ne.symm n0_5)).trans o5
  replace o6 : M18 H10.size = some (.inl (g.2 0, 4000, .inl (fun _ => 0))) := by rw [hM18]; exact (mu_n (Ne.symm n0_6)).trans o6
  replace o7 : M18 H12.size = some (.inl (g.2 0, 3001, .inl (fun _ => 0))) := by rw [hM18]; exact (mu_n (Ne.symm n0_7)).trans o7
  replace o8 : M18 H14.size = some (.inl (g.2 2, 600200, .inl (fun _ => 0))) := by rw [hM18]; exact (mu_n (Ne.symm n0_8)).trans o8
  replace o9 : M18 H16.size = some (.inl (g.2 0, 200, .inl (fun _ => 0))) := by rw [hM18]; exact (mu_n (Ne.symm n0_9)).trans o9
  have o0 : M18 t = some (.inr (7, [.int 0, .int 0, .ref s.heap.size, .ref H2.size, .ref H4.size, .ref H6.size, .ref H8.size, .ref H10.size, .ref H12.size, .int 0, .ref H14.size, .ref H16.size, .null, .null, .null, .null, .null, .null])) := by rw [hM18]; exact mu_s
  replace fr : ∀ q, q < s.heap.size → q ≠ t → M18 q = M q := fun q h1 h2 => by rw [hM18]; exact (mu_n (by omega)).trans (fr q h1 h2)
  refine lv_aload_n hx hb d_T_init_83 rfl (lv_at hl 0 rfl) ?_
  refine lv_sipush (v := 200) hx hb d_T_init_84 (by decide) ?_
  have l0 := hH.1.lt o0
  have l1 := hH.1.lt o1
  have l2 := hH.1.lt o2
  have l3 := hH.1.lt o3
  have l4 := hH.1.lt o4
  have l5 := hH.1.lt o5
  have l6 := hH.1.lt o6
  have l7 := hH.1.lt o7
  have l8 := hH.1.lt o8
  have l9 := hH.1.lt o9
  refine m_newa (atype := .boolean) (ty := .boolean) (a0 := (200, .inl (fun _ => 0))) hx hb (hT _ w382) rfl hK hH 2 rfl (fun h9 => h9) rfl (N' := 200) rfl (by decide) (by decide +kernel) (by decide) (Nat.le_of_ble_eq_true rfl) d_T_init_87 (fun H19 hH zH19 => ?_)
  have n0_10 : t ≠ H18.size := Nat.ne_of_lt l0
  have n1_10 : s.heap.size ≠ H18.size := Nat.ne_of_lt l1
  have n2_10 : H2.size ≠ H18.size := Nat.ne_of_lt l2
  have n3_10 : H4.size ≠ H18.size := Nat.ne_of_lt l3
  have n4_10 : H6.size ≠ H18.size := Nat.ne_of_lt l4
  have n5_10 : H8.size ≠ H18.size := Nat.ne_of_lt l5
  have n6_10 : H10.size ≠ H18.size := Nat.ne_of_lt l6
  have n7_10 : H12.size ≠ H18.size := Nat.ne_of_lt l7
  have n8_10 : H14.size ≠ H18.size := Nat.ne_of_lt l8
  have n9_10 : H16.size ≠ H18.size := Nat.ne_of_lt l9
  obtain ⟨M19, hM19⟩ : ∃ Mz : MW, Mz = mu M18 H18.size (.inl (g.2 2, 200, .inl (fun _ => 0))) := ⟨_, rfl⟩
  replace hH : HS g (mA M s.heap.size) s.heap M19 H19 locs := by rw [hM19]; exact hH
  replace o0 : M19 t = some (.inr (7, [.int 0, .int 0, .ref s.heap.size, .ref H2.size, .ref H4.size, .ref H6.size, .ref H8.size, .ref H10.size, .ref H12.size, .int 0, .ref H14.size, .ref H16.size, .null, .null, .null, .null, .null, .null])) := by rw [hM19]; exact (mu_n n0_10).trans o0
  replace o1 : M19 s.heap.size = some (.inl (g.2 0, 4000, .inl (fun _ => 0))) := by rw [hM19]; exact (mu_n n1_10).trans o1
  replace o2 : M19 H2.size = some (.inl (g.2 0, 4000, .inl (fun _ => 0))) := by rw [hM19]; exact (mu_n n2_10).trans o2
  replace o3 : M19 H4.size = some (.inl (g.2 0, 4000, .inl (fun _ => 0))) := by rw [hM19]; exact (mu_n n3_10).trans o3
  replace o4 : M19 H6.size = some (.inl (g.2 0, 4000, .inl (fun _ => 0))) := by rw [hM19]; exact (mu_n n4_10).trans o4
  replace o5 : M19 H8.size = some (.inl (g.2 1, 352000, .inl (fun _ => 0))) := by rw [hM19]; exact (mu_n n5_10).trans o5
  replace o6 : M19 H10.size = some (.inl (g.2 0, 4000, .inl (fun _ => 0))) := by rw [hM19]; exact (mu_n n6_10).trans o6
  replace o7 : M19 H12.size = some (.inl (g.2 0, 3001, .inl (fun _ => 0))) := by rw [hM19]; exact (mu_n n7_10).trans o7
  replace o8 : M19 H14.size = some (.inl (g.2 2, 600200, .inl (fun _ => 0))) := by rw [hM19]; exact (mu_n n8_10).trans o8
  replace o9 : M19 H16.size = some (.inl (g.2 0, 200, .inl (fun _ => 0))) := by rw [hM19]; exact (mu_n n9_10).trans o9
  have o10 : M19 H18.size = some (.inl (g.2 2, 200, .inl (fun _ => 0))) := by rw [hM19]; exact mu_s
  replace fr : ∀ q, q < s.heap.size → q ≠ t → M19 q = M q := fun q h1 h2 => by rw [hM19]; exact (mu_n (by omega)).trans (fr q h1 h2)
  refine m_putF (ci := 7) (v := .ref H18.size) (ty := .array .boolean) hx hb hT in_T ty_T tk_T nm_T hown hK hH (o0) rfl 12 (by decide) (hT _ w684) (fun _ h9 => h9) rfl hnm rfl (by decide +kernel) rfl rfl (Nat.le_of_ble_eq_true rfl) d_T_init_89 (e1 := .inr (7, [.int 0, .int 0, .ref s.heap.size, .ref H2.size, .ref H4.size, .ref H6.size, .ref H8.size, .ref H10.size, .ref H12.size, .int 0, .ref H14.size, .ref H16.size, .ref H18.size, .null, .null, .null, .null, .null])) rfl (fun H20 locs hH zH20 => ?_)
  obtain ⟨M20, hM20⟩ : ∃ Mz : MW, Mz = mu M19 t (.inr (7, [.int 0, .int 0, .ref s.heap.size, .ref H2.size, .ref H4.size, .ref H6.size, .ref H8.size, .ref H10.size, .ref H12.size, .int 0, .ref H14.size, .ref H16.size, .ref H18.size, .null, .null, .null, .null, .null])) := ⟨_, rfl⟩
  replace hH : HS g (mA M s.heap.size) s.heap M20 H20 locs := by rw [hM20]; exact hH
  replace o1 : M20 s.heap.size = some (.inl (g.2 0, 4000, .inl (fun _ => 0))) := by rw [hM20]; exact (mu_n (Ne.symm n0_1)).trans o1
  replace o2 : M20 H2.size = some (.inl (g.2 0, 4000, .inl (fun _ => 0))) := by rw [hM20]; exact (mu_n (Ne.symm n0_2)).trans o2
  replace o3 : M20 H4.size = some (.inl (g.2 0, 4000, .inl (fun _ => 0))) := by rw [hM20]; exact (mu_n (Ne.symm n0_3)).trans o3
  replace o4 : M20 H6.size = some (.inl (g.2 0, 4000, .inl (fun _ => 0))) := by rw [hM20]; exact (mu_n (Ne.symm n0_4)).trans o4
  replace o5 : M20 H8.size = some (.inl (g.2 1, 352000, .inl (fun _ => 0))) := by rw [hM20]; exact (mu_n (Ne.symm n0_5)).trans o5
  replace o6 : M20 H10.size = some (.inl (g.2 0, 4000, .inl (fun _ => 0))) := by rw [hM20]; exact (mu_n (Ne.symm n0_6)).trans o6
  replace o7 : M20 H12.size = some (.inl (g.2 0, 3001, .inl (fun _ => 0))) := by rw [hM20]; exact (mu_n (Ne.symm n0_7)).trans o7
  replace o8 : M20 H14.size = some (.inl (g.2 2, 600200, .inl (fun _ => 0))) := by rw [hM20]; exact (mu_n (Ne.symm n0_8)).trans o8
  replace o9 : M20 H16.size = some (.inl (g.2 0, 200, .inl (fun _ => 0))) := by rw [hM20]; exact (mu_n (Ne.symm n0_9)).trans o9
  replace o10 : M20 H18.size = some (.inl (g.2 2, 200, .inl (fun _ => 0))) := by rw [hM20]; exact (mu_n (Ne.symm n0_10)).trans o10
  have o0 : M20 t = some (.inr (7, [.int 0, .int 0, .ref s.heap.size, .ref H2.size, .ref H4.size, .ref H6.size, .ref H8.size, .ref H10.size, .ref H12.size, .int 0, .ref H14.size, .ref H16.size, .ref H18.size, .null, .null, .null, .null, .null])) := by rw [hM20]; exact mu_s
  replace fr : ∀ q, q < s.heap.size → q ≠ t → M20 q = M q := fun q h1 h2 => by rw [hM20]; exact (mu_n (by omega)).trans (fr q h1 h2)
  refine lv_aload_n hx hb d_T_init_92 rfl (lv_at hl 0 rfl) ?_
  refine lv_sipush (v := 200) hx hb d_T_init_93 (by decide) ?_
  have l0 := hH.1.lt o0
  have l1 := hH.1.lt o1
  have l2 := hH.1.lt o2
  have l3 := hH.1.lt o3
  have l4 := hH.1.lt o4
  have l5 := hH.1.lt o5
  have l6 := hH.1.lt o6
  have l7 := hH.1.lt o7
  have l8 := hH.1.lt o8
  have l9 := hH.1.lt o9
  have l10 := hH.1.lt o10
  refine m_newa (atype := .int) (ty := .int) (a0 := (200, .inl (fun _ => 0))) hx hb (hT _ w96) rfl hK hH 0 rfl (fun h9 => h9) rfl (N' := 200) rfl (by decide) (by decide +kernel) (by decide) (Nat.le_of_ble_eq_true rfl) d_T_init_96 (fun H21 hH zH21 => ?_)
  have n0_11 : t ≠ H20.size := Nat.ne_of_lt l0
  have n1_11 : s.heap.size ≠ H20.size := Nat.ne_of_lt l1
  have n2_11 : H2.size ≠ H20.size := Nat.ne_of_lt l2
  have n3_11 : H4.size ≠ H20.size := Nat.ne_of_lt l3
  have n4_11 : H6.size ≠ H20.size := Nat.ne_of_lt l4
  have n5_11 : H8.size ≠ H20.size := Nat.ne_of_lt l5
  have n6_11 : H10.size ≠ H20.size := Nat.ne_of_lt l6
  have n7_11 : H12.size ≠ H20.size := Nat.ne_of_lt l7
  have n8_11 : H14.size ≠ H20.size := Nat.ne_of_lt l8
  have n9_11 : H16.size ≠ H20.size := Nat.ne_of_lt l9
  have n10_11 : H18.size ≠ H20.size := Nat.ne_of_lt l10
  obtain ⟨M21, hM21⟩ : ∃ Mz : MW, Mz = mu M20 H20.size (.inl (g.2 0, 200, .inl (fun _ => 0))) := ⟨_, rfl⟩
  replace hH : HS g (mA M s.heap.size) s.heap M21 H21 locs := by rw [hM21]; exact hH
  replace o0 : M21 t = some (.inr (7, [.int 0, .int 0, .ref s.heap.size, .ref H2.size, .ref H4.size, .ref H6.size, .ref H8.size, .ref H10.size, .ref H12.size, .int 0, .ref H14.size, .ref H16.size, .ref H18.size, .null, .null, .null, .null, .null])) := by rw [hM21]; exact (mu_n n0_11).trans o0
  replace o1 : M21 s.heap.size = some (.inl (g.2 0, 4000, .inl (fun _ => 0))) := by rw [hM21]; exact (mu_n n1_11).trans o1
  replace o2 : M21 H2.size = some (.inl (g.2 0, 4000, .inl (fun _ => 0))) := by rw [hM21]; exact (mu_n n2_11).trans o2
  replace o3 : M21 H4.size = some (.inl (g.2 0, 4000, .inl (fun _ => 0))) := by rw [hM21]; exact (mu_n n3_11).trans o3
  replace o4 : M21 H6.size = some (.inl (g.2 0, 4000, .inl (fun _ => 0))) := by rw [hM21]; exact (mu_n n4_11).trans o4
  replace o5 : M21 H8.size = some (.inl (g.2 1, 352000, .inl (fun _ => 0))) := by rw [hM21]; exact (mu_n n5_11).trans o5
  replace o6 : M21 H10.size = some (.inl (g.2 0, 4000, .inl (fun _ => 0))) := by rw [hM21]; exact (mu_n n6_11).trans o6
  replace o7 : M21 H12.size = some (.inl (g.2 0, 3001, .inl (fun _ => 0))) := by rw [hM21]; exact (mu_n n7_11).trans o7
  replace o8 : M21 H14.size = some (.inl (g.2 2, 600200, .inl (fun _ => 0))) := by rw [hM21]; exact (mu_n n8_11).trans o8
  replace o9 : M21 H16.size = some (.inl (g.2 0, 200, .inl (fun _ => 0))) := by rw [hM21]; exact (mu_n n9_11).trans o9
  replace o10 : M21 H18.size = some (.inl (g.2 2, 200, .inl (fun _ => 0))) := by rw [hM21]; exact (mu_n n10_11).trans o10
  have o11 : M21 H20.size = some (.inl (g.2 0, 200, .inl (fun _ => 0))) := by rw [hM21]; exact mu_s
  replace fr : ∀ q, q < s.heap.size → q ≠ t → M21 q = M q := fun q h1 h2 => by rw [hM21]; exact (mu_n (by omega)).trans (fr q h1 h2)
  refine m_putF (ci := 7) (v := .ref H20.size) (ty := .array .int) hx hb hT in_T ty_T tk_T nm_T hown hK hH (o0) rfl 13 (by decide) (hT _ w685) (fun _ h9 => h9) rfl hnm rfl (by decide +kernel) rfl rfl (Nat.le_of_ble_eq_true rfl) d_T_init_98 (e1 := .inr (7, [.int 0, .int 0, .ref s.heap.size, .ref H2.size, .ref H4.size, .ref H6.size, .ref H8.size, .ref H10.size, .ref H12.size, .int 0, .ref H14.size, .ref H16.size, .ref H18.size, .ref H20.size, .null, .null, .null, .null])) rfl (fun H22 locs hH zH22 => ?_)
  obtain ⟨M22, hM22⟩ : ∃ Mz : MW, Mz = mu M21 t (.inr (7, [.int 0, .int 0, .ref s.heap.size, .ref H2.size, .ref H4.size, .ref H6.size, .ref H8.size, .ref H10.size, .ref H12.size, .int 0, .ref H14.size, .ref H16.size, .ref H18.size, .ref H20.size, .null, .null, .null, .null])) := ⟨_, rfl⟩
  replace hH : HS g (mA M s.heap.size) s.heap M22 H22 locs := by rw [hM22]; exact hH
  replace o1 : M22 s.heap.size = some (.inl (g.2 0, 4000, .inl (fun _ => 0))) := by rw [hM22]; exact (mu_n (Ne.symm n0_1)).trans o1
  replace o2 : M22 H2.size = some (.inl (g.2 0, 4000, .inl (fun _ => 0))) := by rw [hM22]; exact (mu_n (Ne.symm n0_2)).trans o2
  replace o3 : M22 H4.size = some (.inl (g.2 0, 4000, .inl (fun _ => 0))) := by rw [hM22]; exact (mu_n (Ne.symm n0_3)).trans o3
  replace o4 : M22 H6.size = some (.inl (g.2 0, 4000, .inl (fun _ => 0))) := by rw [hM22]; exact (mu_n (Ne.symm n0_4)).trans o4
  replace o5 : M22 H8.size = some (.inl (g.2 1, 352000, .inl (fun _ => 0))) := by rw [hM22]; exact (mu_n (Ne.symm n0_5)).trans o5
  replace o6 : M22 H10.size = some (.inl (g.2 0, 4000, .inl (fun _ => 0))) := by rw [hM22]; exact (mu_n (Ne.symm n0_6)).trans o6
  replace o7 : M22 H12.size = some (.inl (g.2 0, 3001, .inl (fun _ => 0))) := by rw [hM22]; exact (mu_n (Ne.symm n0_7)).trans o7
  replace o8 : M22 H14.size = some (.inl (g.2 2, 600200, .inl (fun _ => 0))) := by rw [hM22]; exact (mu_n (Ne.symm n0_8)).trans o8
  replace o9 : M22 H16.size = some (.inl (g.2 0, 200, .inl (fun _ => 0))) := by rw [hM22]; exact (mu_n (Ne.symm n0_9)).trans o9
  replace o10 : M22 H18.size = some (.inl (g.2 2, 200, .inl (fun _ => 0))) := by rw [hM22]; exact (mu_n (Ne.symm n0_10)).trans o10
  replace o11 : M22 H20.size = some (.inl (g.2 0, 200, .inl (fun _ => 0))) := by rw [hM22]; exact (mu_n (Ne.symm n0_11)).trans o11
  have o0 : M22 t = some (.inr (7, [.int 0, .int 0, .ref s.heap.size, .ref H2.size, .ref H4.size, .ref H6.size, .ref H8.size, .ref H10.size, .ref H12.size, .int 0, .ref H14.size, .ref H16.size, .ref H18.size, .ref H20.size, .null, .null, .null, .null])) := by rw [hM22]; exact mu_s
  replace fr : ∀ q, q < s.heap.size → q ≠ t → M22 q = M q := fun q h1 h2 => by rw [hM22]; exact (mu_n (by omega)).trans (fr q h1 h2)
  refine lv_aload_n hx hb d_T_init_101 rfl (lv_at hl 0 rfl) ?_
  refine lv_sipush (v := 200) hx hb d_T_init_102 (by decide) ?_
  have l0 := hH.1.lt o0
  have l1 := hH.1.lt o1
  have l2 := hH.1.lt o2
  have l3 := hH.1.lt o3
  have l4 := hH.1.lt o4
  have l5 := hH.1.lt o5
  have l6 := hH.1.lt o6
  have l7 := hH.1.lt o7
  have l8 := hH.1.lt o8
  have l9 := hH.1.lt o9
  have l10 := hH.1.lt o10
  have l11 := hH.1.lt o11
  refine m_newa (atype := .boolean) (ty := .boolean) (a0 := (200, .inl (fun _ => 0))) hx hb (hT _ w382) rfl hK hH 2 rfl (fun h9 => h9) rfl (N' := 200) rfl (by decide) (by decide +kernel) (by decide) (Nat.le_of_ble_eq_true rfl) d_T_init_105 (fun H23 hH zH23 => ?_)
  have n0_12 : t ≠ H22.size := Nat.ne_of_lt l0
  have n1_12 : s.heap.size ≠ H22.size := Nat.ne_of_lt l1
  have n2_12 : H2.size ≠ H22.size := Nat.ne_of_lt l2
  have n3_12 : H4.size ≠ H22.size := Nat.ne_of_lt l3
  have n4_12 : H6.size ≠ H22.size := Nat.ne_of_lt l4
  have n5_12 : H8.size ≠ H22.size := Nat.ne_of_lt l5
  have n6_12 : H10.size ≠ H22.size := Nat.ne_of_lt l6
  have n7_12 : H12.size ≠ H22.size := Nat.ne_of_lt l7
  have n8_12 : H14.size ≠ H22.size := Nat.ne_of_lt l8
  have n9_12 : H16.size ≠ H22.size := Nat.ne_of_lt l9
  have n10_12 : H18.size ≠ H22.size := Nat.ne_of_lt l10
  have n11_12 : H20.size ≠ H22.size := Nat.ne_of_lt l11
  obtain ⟨M23, hM23⟩ : ∃ Mz : MW, Mz = mu M22 H22.size (.inl (g.2 2, 200, .inl (fun _ => 0))) := ⟨_, rfl⟩
  replace hH : HS g (mA M s.heap.size) s.heap M23 H23 locs := by rw [hM23]; exact hH
  replace o0 : M23 t = some (.inr (7, [.int 0, .int 0, .ref s.heap.size, .ref H2.size, .ref H4.size, .ref H6.size, .ref H8.size, .ref H10.size, .ref H12.size, .int 0, .ref H14.size, .ref H16.size, .ref H18.size, .ref H20.size, .null, .null, .null, .null])) := by rw [hM23]; exact (mu_n n0_12).trans o0
  replace o1 : M23 s.heap.size = some (.inl (g.2 0, 4000, .inl (fun _ => 0))) := by rw [hM23]; exact (mu_n n1_12).trans o1
  replace o2 : M23 H2.size = some (.inl (g.2 0, 4000, .inl (fun _ => 0))) := by rw [hM23]; exact (mu_n n2_12).trans o2
  replace o3 : M23 H4.size = some (.inl (g.2 0, 4000, .inl (fun _ => 0))) := by rw [hM23]; exact (mu_n n3_12).trans o3
  replace o4 : M23 H6.size = some (.inl (g.2 0, 4000, .inl (fun _ => 0))) := by rw [hM23]; exact (mu_n n4_12).trans o4
  replace o5 : M23 H8.size = some (.inl (g.2 1, 352000, .inl (fun _ => 0))) := by rw [hM23]; exact (mu_n n5_12).trans o5
  replace o6 : M23 H10.size = some (.inl (g.2 0, 4000, .inl (fun _ => 0))) := by rw [hM23]; exact (mu_n n6_12).trans o6
  replace o7 : M23 H12.size = some (.inl (g.2 0, 3001, .inl (fun _ => 0))) := by rw [hM23]; exact (mu_n n7_12).trans o7
  replace o8 : M23 H14.size = some (.inl (g.2 2, 600200, .inl (fun _ => 0))) := by rw [hM23]; exact (mu_n n8_12).trans o8
  replace o9 : M23 H16.size = some (.inl (g.2 0, 200, .inl (fun _ => 0))) := by rw [hM23]; exact (mu_n n9_12).trans o9
  replace o10 : M23 H18.size = some (.inl (g.2 2, 200, .inl (fun _ => 0))) := by rw [hM23]; exact (mu_n n10_12).trans o10
  replace o11 : M23 H20.size = some (.inl (g.2 0, 200, .inl (fun _ => 0))) := by rw [hM23]; exact (mu_n n11_12).trans o11
  have o12 : M23 H22.size = some (.inl (g.2 2, 200, .inl (fun _ => 0))) := by rw [hM23]; exact mu_s
  replace fr : ∀ q, q < s.heap.size → q ≠ t → M23 q = M q := fun q h1 h2 => by rw [hM23]; exact (mu_n (by omega)).trans (fr q h1 h2)
  refine m_putF (ci := 7) (v := .ref H22.size) (ty := .array .boolean) hx hb hT in_T ty_T tk_T nm_T hown hK hH (o0) rfl 14 (by decide) (hT _ w686) (fun _ h9 => h9) rfl hnm rfl (by decide +kernel) rfl rfl (Nat.le_of_ble_eq_true rfl) d_T_init_107 (e1 := .inr (7, [.int 0, .int 0, .ref s.heap.size, .ref H2.size, .ref H4.size, .ref H6.size, .ref H8.size, .ref H10.size, .ref H12.size, .int 0, .ref H14.size, .ref H16.size, .ref H18.size, .ref H20.size, .ref H22.size, .null, .null, .null])) rfl (fun H24 locs hH zH24 => ?_)
  obtain ⟨M24, hM24⟩ : ∃ Mz : MW, Mz = mu M23 t (.inr (7, [.int 0, .int 0, .ref s.heap.size, .ref H2.size, .ref H4.size, .ref H6.size, .ref H8.size, .ref H10.size, .ref H12.size, .int 0, .ref H14.size, .ref H16.size, .ref H18.size, .ref H20.size, .ref H22.size, .null, .null, .null])) := ⟨_, rfl⟩
  replace hH : HS g (mA M s.heap.size) s.heap M24 H24 locs := by rw [hM24]; exact hH
  replace o1 : M24 s.heap.size = some (.inl (g.2 0, 4000, .inl (fun _ => 0))) := by rw [hM24]; exact (mu_n (Ne.symm n0_1)).trans o1
  replace o2 : M24 H2.size = some (.inl (g.2 0, 4000, .inl (fun _ => 0))) := by rw [hM24]; exact (mu_n (Ne.symm n0_2)).trans o2
  replace o3 : M24 H4.size = some (.inl (g.2 0, 4000, .inl (fun _ => 0))) := by rw [hM24]; exact (mu_n (Ne.symm n0_3)).trans o3
  replace o4 : M24 H6.size = some (.inl (g.2 0, 4000, .inl (fun _ => 0))) := by rw [hM24]; exact (mu_n (Ne.symm n0_4)).trans o4
  replace o5 : M24 H8.size = some (.inl (g.2 1, 352000, .inl (fun _ => 0))) := by rw [hM24]; exact (mu_n (Ne.symm n0_5)).trans o5
  replace o6 : M24 H10.size = some (.inl (g.2 0, 4000, .inl (fun _ => 0))) := by rw [hM24]; exact (mu_n (Ne.symm n0_6)).trans o6
  replace o7 : M24 H12.size = some (.inl (g.2 0, 3001, .inl (fun _ => 0))) := by rw [hM24]; exact (mu_n (Ne.symm n0_7)).trans o7
  replace o8 : M24 H14.size = some (.inl (g.2 2, 600200, .inl (fun _ => 0))) := by rw [hM24]; exact (mu_n (Ne.symm n0_8)).trans o8
  replace o9 : M24 H16.size = some (.inl (g.2 0, 200, .inl (fun _ => 0))) := by rw [hM24]; exact (mu_n (Ne.symm n0_9)).trans o9
  replace o10 : M24 H18.size = some (.inl (g.2 2, 200, .inl (fun _ => 0))) := by rw [hM24]; exact (mu_n (Ne.symm n0_10)).trans o10
  replace o11 : M24 H20.size = some (.inl (g.2 0, 200, .inl (fun _ => 0))) := by rw [hM24]; exact (mu_n (Ne.symm n0_11)).trans o11
  replace o12 : M24 H22.size = some (.inl (g.2 2, 200, .inl (fun _ => 0))) := by rw [hM24]; exact (mu_n (Ne.symm n0_12)).trans o12
  have o0 : M24 t = some (.inr (7, [.int 0, .int 0, .ref s.heap.size, .ref H2.size, .ref H4.size, .ref H6.size, .ref H8.size, .ref H10.size, .ref H12.size, .int 0, .ref H14.size, .ref H16.size, .ref H18.size, .ref H20.size, .ref H22.size, .null, .null, .null])) := by rw [hM24]; exact mu_s
  replace fr : ∀ q, q < s.heap.size → q ≠ t → M24 q = M q := fun q h1 h2 => by rw [hM24]; exact (mu_n (by omega)).trans (fr q h1 h2)
  refine lv_aload_n hx hb d_T_init_110 rfl (lv_at hl 0 rfl) ?_
  refine lv_sipush (v := 200) hx hb d_T_init_111 (by decide) ?_
  have l0 := hH.1.lt o0
  have l1 := hH.1.lt o1
  have l2 := hH.1.lt o2
  have l3 := hH.1.lt o3
  have l4 := hH.1.lt o4
  have l5 := hH.1.lt o5
  have l6 := hH.1.lt o6
  have l7 := hH.1.lt o7
  have l8 := hH.1.lt o8
  have l9 := hH.1.lt o9
  have l10 := hH.1.lt o10
  have l11 := hH.1.lt o11
  have l12 := hH.1.lt o12
  refine m_newa (atype := .int) (ty := .int) (a0 := (200, .inl (fun _ => 0))) hx hb (hT _ w96) rfl hK hH 0 rfl (fun h9 => h9) rfl (N' := 200) rfl (by decide) (by decide +kernel) (by decide) (Nat.le_of_ble_eq_true rfl) d_T_init_114 (fun H25 hH zH25 => ?_)
  have n0_13 : t ≠ H24.size := Nat.ne_of_lt l0
  have n1_13 : s.heap.size ≠ H24.size := Nat.ne_of_lt l1
  have n2_13 : H2.size ≠ H24.size := Nat.ne_of_lt l2
  have n3_13 : H4.size ≠ H24.size := Nat.ne_of_lt l3
  have n4_13 : H6.size ≠ H24.size := Nat.ne_of_lt l4
  have n5_13 : H8.size ≠ H24.size := Nat.ne_of_lt l5
  have n6_13 : H10.size ≠ H24.size := Nat.ne_of_lt l6
  have n7_13 : H12.size ≠ H24.size := Nat.ne_of_lt l7
  have n8_13 : H14.size ≠ H24.size := Nat.ne_of_lt l8
  have n9_13 : H16.size ≠ H24.size := Nat.ne_of_lt l9
  have n10_13 : H18.size ≠ H24.size := Nat.ne_of_lt l10
  have n11_13 : H20.size ≠ H24.size := Nat.ne_of_lt l11
  have n12_13 : H22.size ≠ H24.size := Nat.ne_of_lt l12
  obtain ⟨M25, hM25⟩ : ∃ Mz : MW, Mz = mu M24 H24.size (.inl (g.2 0, 200, .inl (fun _ => 0))) := ⟨_, rfl⟩
  replace hH : HS g (mA M s.heap.size) s.heap M25 H25 locs := by rw [hM25]; exact hH
  replace o0 : M25 t = some (.inr (7, [.int 0, .int 0, .ref s.heap.size, .ref H2.size, .ref H4.size, .ref H6.size, .ref H8.size, .ref H10.size, .ref H12.size, .int 0, .ref H14.size, .ref H16.size, .ref H18.size, .ref H20.size, .ref H22.size, .null, .null, .null])) := by rw [hM25]; exact (mu_n n0_13).trans o0
  replace o1 : M25 s.heap.size = some (.inl (g.2 0, 4000, .inl (fun _ => 0))) := by rw [hM25]; exact (mu_n n1_13).trans o1
  replace o2 : M25 H2.size = some (.inl (g.2 0, 4000, .inl (fun _ => 0))) := by rw [hM25]; exact (mu_n n2_13).trans o2
  replace o3 : M25 H4.size = some (.inl (g.2 0, 4000, .inl (fun _ => 0))) := by rw [hM25]; exact (mu_n n3_13).trans o3
  replace o4 : M25 H6.size = some (.inl (g.2 0, 4000, .inl (fun _ => 0))) := by rw [hM25]; exact (mu_n n4_13).trans o4
  replace o5 : M25 H8.size = some (.inl (g.2 1, 352000, .inl (fun _ => 0))) := by rw [hM25]; exact (mu_n n5_13).trans o5
  replace o6 : M25 H10.size = some (.inl (g.2 0, 4000, .inl (fun _ => 0))) := by rw [hM25]; exact (mu_n n6_13).trans o6
  replace o7 : M25 H12.size = some (.inl (g.2 0, 3001, .inl (fun _ => 0))) := by rw [hM25]; exact (mu_n n7_13).trans o7
  replace o8 : M25 H14.size = some (.inl (g.2 2, 600200, .inl (fun _ => 0))) := by rw [hM25]; exact (mu_n n8_13).trans o8
  replace o9 : M25 H16.size = some (.inl (g.2 0, 200, .inl (fun _ => 0))) := by rw [hM25]; exact (mu_n n9_13).trans o9
  replace o10 : M25 H18.size = some (.inl (g.2 2, 200, .inl (fun _ => 0))) := by rw [hM25]; exact (mu_n n10_13).trans o10
  replace o11 : M25 H20.size = some (.inl (g.2 0, 200, .inl (fun _ => 0))) := by rw [hM25]; exact (mu_n n11_13).trans o11
  replace o12 : M25 H22.size = some (.inl (g.2 2, 200, .inl (fun _ => 0))) := by rw [hM25]; exact (mu_n n12_13).trans o12
  have o13 : M25 H24.size = some (.inl (g.2 0, 200, .inl (fun _ => 0))) := by rw [hM25]; exact mu_s
  replace fr : ∀ q, q < s.heap.size → q ≠ t → M25 q = M q := fun q h1 h2 => by rw [hM25]; exact (mu_n (by omega)).trans (fr q h1 h2)
  refine m_putF (ci := 7) (v := .ref H24.size) (ty := .array .int) hx hb hT in_T ty_T tk_T nm_T hown hK hH (o0) rfl 15 (by decide) (hT _ w687) (fun _ h9 => h9) rfl hnm rfl (by decide +kernel) rfl rfl (Nat.le_of_ble_eq_true rfl) d_T_init_116 (e1 := .inr (7, [.int 0, .int 0, .ref s.heap.size, .ref H2.size, .ref H4.size, .ref H6.size, .ref H8.size, .ref H10.size, .ref H12.size, .int 0, .ref H14.size, .ref H16.size, .ref H18.size, .ref H20.size, .ref H22.size, .ref H24.size, .null, .null])) rfl (fun H26 locs hH zH26 => ?_)
  obtain ⟨M26, hM26⟩ : ∃ Mz : MW, Mz = mu M25 t (.inr (7, [.int 0, .int 0, .ref s.heap.size, .ref H2.size, .ref H4.size, .ref H6.size, .ref H8.size, .ref H10.size, .ref H12.size, .int 0, .ref H14.size, .ref H16.size, .ref H18.size, .ref H20.size, .ref H22.size, .ref H24.size, .null, .null])) := ⟨_, rfl⟩
  replace hH : HS g (mA M s.heap.size) s.heap M26 H26 locs := by rw [hM26]; exact hH
  replace o1 : M26 s.heap.size = some (.inl (g.2 0, 4000, .inl (fun _ => 0))) := by rw [hM26]; exact (mu_n (Ne.symm n0_1)).trans o1
  replace o2 : M26 H2.size = some (.inl (g.2 0, 4000, .inl (fun _ => 0))) := by rw [hM26]; exact (mu_n (Ne.symm n0_2)).trans o2
  replace o3 : M26 H4.size = some (.inl (g.2 0, 4000, .inl (fun _ => 0))) := by rw [hM26]; exact (mu_n (Ne.symm n0_3)).trans o3
  replace o4 : M26 H6.size = some (.inl (g.2 0, 4000, .inl (fun _ => 0))) := by rw [hM26]; exact (mu_n (Ne.symm n0_4)).trans o4
  replace o5 : M26 H8.size = some (.inl (g.2 1, 352000, .inl (fun _ => 0))) := by rw [hM26]; exact (mu_n (Ne.symm n0_5)).trans o5
  replace o6 : M26 H10.size = some (.inl (g.2 0, 4000, .inl (fun _ => 0))) := by rw [hM26]; exact (mu_n (Ne.symm n0_6)).trans o6
  replace o7 : M26 H12.size = some (.inl (g.2 0, 3001, .inl (fun _ => 0))) := by rw [hM26]; exact (mu_n (Ne.symm n0_7)).trans o7
  replace o8 : M26 H14.size = some (.inl (g.2 2, 600200, .inl (fun _ => 0))) := by rw [hM26]; exact (mu_n (Ne.symm n0_8)).trans o8
  replace o9 : M26 H16.size = some (.inl (g.2 0, 200, .inl (fun _ => 0))) := by rw [hM26]; exact (mu_n (Ne.symm n0_9)).trans o9
  replace o10 : M26 H18.size = some (.inl (g.2 2, 200, .inl (fun _ => 0))) := by rw [hM26]; exact (mu_n (Ne.symm n0_10)).trans o10
  replace o11 : M26 H20.size = some (.inl (g.2 0, 200, .inl (fun _ => 0))) := by rw [hM26]; exact (mu_n (Ne.symm n0_11)).trans o11
  replace o12 : M26 H22.size = some (.inl (g.2 2, 200, .inl (fun _ => 0))) := by rw [hM26]; exact (mu_n (Ne.symm n0_12)).trans o12
  replace o13 : M26 H24.size = some (.inl (g.2 0, 200, .inl (fun _ => 0))) := by rw [hM26]; exact (mu_n (Ne.symm n0_13)).trans o13
  have o0 : M26 t = some (.inr (7, [.int 0, .int 0, .ref s.heap.size, .ref H2.size, .ref H4.size, .ref H6.size, .ref H8.size, .ref H10.size, .ref H12.size, .int 0, .ref H14.size, .ref H16.size, .ref H18.size, .ref H20.size, .ref H22.size, .ref H24.size, .null, .null])) := by rw [hM26]; exact mu_s
  replace fr : ∀ q, q < s.heap.size → q ≠ t → M26 q = M q := fun q h1 h2 => by rw [hM26]; exact (mu_n (by omega)).trans (fr q h1 h2)
  refine lv_aload_n hx hb d_T_init_119 rfl (lv_at hl 0 rfl) ?_
  refine lv_sipush (v := 200) hx hb d_T_init_120 (by decide) ?_
  have l0 := hH.1.lt o0
  have l1 := hH.1.lt o1
  have l2 := hH.1.lt o2
  have l3 := hH.1.lt o3
  have l4 := hH.1.lt o4
  have l5 := hH.1.lt o5
  have l6 := hH.1.lt o6
  have l7 := hH.1.lt o7
  have l8 := hH.1.lt o8
  have l9 := hH.1.lt o9
  have l10 := hH.1.lt o10
  have l11 := hH.1.lt o11
  have l12 := hH.1.lt o12
  have l13 := hH.1.lt o13
  refine m_newa (atype := .int) (ty := .int) (a0 := (200, .inl (fun _ => 0))) hx hb (hT _ w96) rfl hK hH 0 rfl (fun h9 => h9) rfl (N' := 200) rfl (by decide) (by decide +kernel) (by decide) (Nat.le_of_ble_eq_true rfl) d_T_init_123 (fun H27 hH zH27 => ?_)
  have n0_14 : t ≠ H26.size := Nat.ne_of_lt l0
  have n1_14 : s.heap.size ≠ H26.size := Nat.ne_of_lt l1
  have n2_14 : H2.size ≠ H26.size := Nat.ne_of_lt l2
  have n3_14 : H4.size ≠ H26.size := Nat.ne_of_lt l3
  have n4_14 : H6.size ≠ H26.size := Nat.ne_of_lt l4
  have n5_14 : H8.size ≠ H26.size := Nat.ne_of_lt l5
  have n6_14 : H10.size ≠ H26.size := Nat.ne_of_lt l6
  have n7_14 : H12.size ≠ H26.size := Nat.ne_of_lt l7
  have n8_14 : H14.size ≠ H26.size := Nat.ne_of_lt l8
  have n9_14 : H16.size ≠ H26.size := Nat.ne_of_lt l9
  have n10_14 : H18.size ≠ H26.size := Nat.ne_of_lt l10
  have n11_14 : H20.size ≠ H26.size := Nat.ne_of_lt l11
  have n12_14 : H22.size ≠ H26.size := Nat.ne_of_lt l12
  have n13_14 : H24.size ≠ H26.size := Nat.ne_of_lt l13
  obtain ⟨M27, hM27⟩ : ∃ Mz : MW, Mz = mu M26 H26.size (.inl (g.2 0, 200, .inl (fun _ => 0))) := ⟨_, rfl⟩
  replace hH : HS g (mA M s.heap.size) s.heap M27 H27 locs := by rw [hM27]; exact hH
  replace o0 : M27 t = some (.inr (7, [.int 0, .int 0, .ref s.heap.size, .ref H2.size, .ref H4.size, .ref H6.size, .ref H8.size, .ref H10.size, .ref H12.size, .int 0, .ref H14.size, .ref H16.size, .ref H18.size, .ref H20.size, .ref H22.size, .ref H24.size, .null, .null])) := by rw [hM27]; exact (mu_n n0_14).trans o0
  replace o1 : M27 s.heap.size = some (.inl (g.2 0, 4000, .inl (fun _ => 0))) := by rw [hM27]; exact (mu_n n1_14).trans o1
  replace o2 : M27 H2.size = some (.inl (g.2 0, 4000, .inl (fun _ => 0))) := by rw [hM27]; exact (mu_n n2_14).trans o2
  replace o3 : M27 H4.size = some (.inl (g.2 0, 4000, .inl (fun _ => 0))) := by rw [hM27]; exact (mu_n n3_14).trans o3
  replace o4 : M27 H6.size = some (.inl (g.2 0, 4000, .inl (fun _ => 0))) := by rw [hM27]; exact (mu_n n4_14).trans o4
  replace o5 : M27 H8.size = some (.inl (g.2 1, 352000, .inl (fun _ => 0))) := by rw [hM27]; exact (mu_n n5_14).trans o5
  replace o6 : M27 H10.size = some (.inl (g.2 0, 4000, .inl (fun _ => 0))) := by rw [hM27]; exact (mu_n n6_14).trans o6
  replace o7 : M27 H12.size = some (.inl (g.2 0, 3001, .inl (fun _ => 0))) := by rw [hM27]; exact (mu_n n7_14).trans o7
  replace o8 : M27 H14.size = some (.inl (g.2 2, 600200, .inl (fun _ => 0))) := by rw [hM27]; exact (mu_n n8_14).trans o8
  replace o9 : M27 H16.size = some (.inl (g.2 0, 200, .inl (fun _ => 0))) := by rw [hM27]; exact (mu_n n9_14).trans o9
  replace o10 : M27 H18.size = some (.inl (g.2 2, 200, .inl (fun _ => 0))) := by rw [hM27]; exact (mu_n n10_14).trans o10
  replace o11 : M27 H20.size = some (.inl (g.2 0, 200, .inl (fun _ => 0))) := by rw [hM27]; exact (mu_n n11_14).trans o11
  replace o12 : M27 H22.size = some (.inl (g.2 2, 200, .inl (fun _ => 0))) := by rw [hM27]; exact (mu_n n12_14).trans o12
  replace o13 : M27 H24.size = some (.inl (g.2 0, 200, .inl (fun _ => 0))) := by rw [hM27]; exact (mu_n n13_14).trans o13
  have o14 : M27 H26.size = some (.inl (g.2 0, 200, .inl (fun _ => 0))) := by rw [hM27]; exact mu_s
  replace fr : ∀ q, q < s.heap.size → q ≠ t → M27 q = M q := fun q h1 h2 => by rw [hM27]; exact (mu_n (by omega)).trans (fr q h1 h2)
  refine m_putF (ci := 7) (v := .ref H26.size) (ty := .array .int) hx hb hT in_T ty_T tk_T nm_T hown hK hH (o0) rfl 16 (by decide) (hT _ w688) (fun _ h9 => h9) rfl hnm rfl (by decide +kernel) rfl rfl (Nat.le_of_ble_eq_true rfl) d_T_init_125 (e1 := .inr (7, [.int 0, .int 0, .ref s.heap.size, .ref H2.size, .ref H4.size, .ref H6.size, .ref H8.size, .ref H10.size, .ref H12.size, .int 0, .ref H14.size, .ref H16.size, .ref H18.size, .ref H20.size, .ref H22.size, .ref H24.size, .ref H26.size, .null])) rfl (fun H28 locs hH zH28 => ?_)
  obtain ⟨M28, hM28⟩ : ∃ Mz : MW, Mz = mu M27 t (.inr (7, [.int 0, .int 0, .ref s.heap.size, .ref H2.size, .ref H4.size, .ref H6.size, .ref H8.size, .ref H10.size, .ref H12.size, .int 0, .ref H14.size, .ref H16.size, .ref H18.size, .ref H20.size, .ref H22.size, .ref H24.size, .ref H26.size, .null])) := ⟨_, rfl⟩
  replace hH : HS g (mA M s.heap.size) s.heap M28 H28 locs := by rw [hM28]; exact hH
  replace o1 : M28 s.heap.size = some (.inl (g.2 0, 4000, .inl (fun _ => 0))) := by rw [hM28]; exact (mu_n (Ne.symm n0_1)).trans o1
  replace o2 : M28 H2.size = some (.inl (g.2 0, 4000, .inl (fun _ => 0))) := by rw [hM28]; exact (mu_n (Ne.symm n0_2)).trans o2
  replace o3 : M28 H4.size = some (.inl (g.2 0, 4000, .inl (fun _ => 0))) := by rw [hM28]; exact (mu_n (Ne.symm n0_3)).trans o3
  replace o4 : M28 H6.size = some (.inl (g.2 0, 4000, .inl (fun _ => 0))) := by rw [hM28]; exact (mu_n (Ne.symm n0_4)).trans o4
  replace o5 : M28 H8.size = some (.inl (g.2 1, 352000, .inl (fun _ => 0))) := by rw [hM28]; exact (mu_n (Ne.symm n0_5)).trans o5
  replace o6 : M28 H10.size = some (.inl (g.2 0, 4000, .inl (fun _ => 0))) := by rw [hM28]; exact (mu_n (Ne.symm n0_6)).trans o6
  replace o7 : M28 H12.size = some (.inl (g.2 0, 3001, .inl (fun _ => 0))) := by rw [hM28]; exact (mu_n (Ne.symm n0_7)).trans o7
  replace o8 : M28 H14.size = some (.inl (g.2 2, 600200, .inl (fun _ => 0))) := by rw [hM28]; exact (mu_n (Ne.symm n0_8)).trans o8
  replace o9 : M28 H16.size = some (.inl (g.2 0, 200, .inl (fun _ => 0))) := by rw [hM28]; exact (mu_n (Ne.symm n0_9)).trans o9
  replace o10 : M28 H18.size = some (.inl (g.2 2, 200, .inl (fun _ => 0))) := by rw [hM28]; exact (mu_n (Ne.symm n0_10)).trans o10
  replace o11 : M28 H20.size = some (.inl (g.2 0, 200, .inl (fun _ => 0))) := by rw [hM28]; exact (mu_n (Ne.symm n0_11)).trans o11
  replace o12 : M28 H22.size = some (.inl (g.2 2, 200, .inl (fun _ => 0))) := by rw [hM28]; exact (mu_n (Ne.symm n0_12)).trans o12
  replace o13 : M28 H24.size = some (.inl (g.2 0, 200, .inl (fun _ => 0))) := by rw [hM28]; exact (mu_n (Ne.symm n0_13)).trans o13
  replace o14 : M28 H26.size = some (.inl (g.2 0, 200, .inl (fun _ => 0))) := by rw [hM28]; exact (mu_n (Ne.symm n0_14)).trans o14
  have o0 : M28 t = some (.inr (7, [.int 0, .int 0, .ref s.heap.size, .ref H2.size, .ref H4.size, .ref H6.size, .ref H8.size, .ref H10.size, .ref H12.size, .int 0, .ref H14.size, .ref H16.size, .ref H18.size, .ref H20.size, .ref H22.size, .ref H24.size, .ref H26.size, .null])) := by rw [hM28]; exact mu_s
  replace fr : ∀ q, q < s.heap.size → q ≠ t → M28 q = M q := fun q h1 h2 => by rw [hM28]; exact (mu_n (by omega)).trans (fr q h1 h2)
  refine lv_aload_n hx hb d_T_init_128 rfl (lv_at hl 0 rfl) ?_
  refine lv_sipush (v := 200) hx hb d_T_init_129 (by decide) ?_
  have l0 := hH.1.lt o0
  have l1 := hH.1.lt o1
  have l2 := hH.1.lt o2
  have l3 := hH.1.lt o3
  have l4 := hH.1.lt o4
  have l5 := hH.1.lt o5
  have l6 := hH.1.lt o6
  have l7 := hH.1.lt o7
  have l8 := hH.1.lt o8
  have l9 := hH.1.lt o9
  have l10 := hH.1.lt o10
  have l11 := hH.1.lt o11
  have l12 := hH.1.lt o12
  have l13 := hH.1.lt o13
  have l14 := hH.1.lt o14
  refine m_newa (atype := .int) (ty := .int) (a0 := (200, .inl (fun _ => 0))) hx hb (hT _ w96) rfl hK hH 0 rfl (fun h9 => h9) rfl (N' := 200) rfl (by decide) (by decide +kernel) (by decide) (Nat.le_of_ble_eq_true rfl) d_T_init_132 (fun H29 hH zH29 => ?_)
  have n0_15 : t ≠ H28.size := Nat.ne_of_lt l0
  have n1_15 : s.heap.size ≠ H28.size := Nat.ne_of_lt l1
  have n2_15 : H2.size ≠ H28.size := Nat.ne_of_lt l2
  have n3_15 : H4.size ≠ H28.size := Nat.ne_of_lt l3
  have n4_15 : H6.size ≠ H28.size := Nat.ne_of_lt l4
  have n5_15 : H8.size ≠ H28.size := Nat.ne_of_lt l5
  have n6_15 : H10.size ≠ H28.size := Nat.ne_of_lt l6
  have n7_15 : H12.size ≠ H28.size := Nat.ne_of_lt l7
  have n8_15 : H14.size ≠ H28.size := Nat.ne_of_lt l8
  have n9_15 : H16.size ≠ H28.size := Nat.ne_of_lt l9
  have n10_15 : H18.size ≠ H28.size := Nat.ne_of_lt l10
  have n11_15 : H20.size ≠ H28.size := Nat.ne_of_lt l11
  have n12_15 : H22.size ≠ H28.size := Nat.ne_of_lt l12
  have n13_15 : H24.size ≠ H28.size := Nat.ne_of_lt l13
  have n14_15 : H26.size ≠ H28.size := Nat.ne_of_lt l14
  obtain ⟨M29, hM29⟩ : ∃ Mz : MW, Mz = mu M28 H28.size (.inl (g.2 0, 200, .inl (fun _ => 0))) := ⟨_, rfl⟩
  replace hH : HS g (mA M s.heap.size) s.heap M29 H29 locs := by rw [hM29]; exact hH
  replace o0 : M29 t = some (.inr (7, [.int 0, .int 0, .ref s.heap.size, .ref H2.size, .ref H4.size, .ref H6.size, .ref H8.size, .ref H10.size, .ref H12.size, .int 0, .ref H14.size, .ref H16.size, .ref H18.size, .ref H20.size, .ref H22.size, .ref H24.size, .ref H26.size, .null])) := by rw [hM29]; exact (mu_n n0_15).trans o0
  replace o1 : M29 s.heap.size = some (.inl (g.2 0, 4000, .inl (fun _ => 0))) := by rw [hM29]; exact (mu_n n1_15).trans o1
  replace o2 : M29 H2.size = some (.inl (g.2 0, 4000, .inl (fun _ => 0))) := by rw [hM29]; exact (mu_n n2_15).trans o2
  replace o3 : M29 H4.size = some (.inl (g.2 0, 4000, .inl (fun _ => 0))) := by rw [hM29]; exact (mu_n n3_15).trans o3
  replace o4 : M29 H6.size = some (.inl (g.2 0, 4000, .inl (fun _ => 0))) := by rw [hM29]; exact (mu_n n4_15).trans o4
  replace o5 : M29 H8.size = some (.inl (g.2 1, 352000, .inl (fun _ => 0))) := by rw [hM29]; exact (mu_n n5_15).trans o5
  replace o6 : M29 H10.size = some (.inl (g.2 0, 4000, .inl (fun _ => 0))) := by rw [hM29]; exact (mu_n n6_15).trans o6
  replace o7 : M29 H12.size = some (.inl (g.2 0, 3001, .inl (fun _ => 0))) := by rw [hM29]; exact (mu_n n7_15).trans o7
  replace o8 : M29 H14.size = some (.inl (g.2 2, 600200, .inl (fun _ => 0))) := by rw [hM29]; exact (mu_n n8_15).trans o8
  replace o9 : M29 H16.size = some (.inl (g.2 0, 200, .inl (fun _ => 0))) := by rw [hM29]; exact (mu_n n9_15).trans o9
  replace o10 : M29 H18.size = some (.inl (g.2 2, 200, .inl (fun _ => 0))) := by rw [hM29]; exact (mu_n n10_15).trans o10
  replace o11 : M29 H20.size = some (.inl (g.2 0, 200, .inl (fun _ => 0))) := by rw [hM29]; exact (mu_n n11_15).trans o11
  replace o12 : M29 H22.size = some (.inl (g.2 2, 200, .inl (fun _ => 0))) := by rw [hM29]; exact (mu_n n12_15).trans o12
  replace o13 : M29 H24.size = some (.inl (g.2 0, 200, .inl (fun _ => 0))) := by rw [hM29]; exact (mu_n n13_15).trans o13
  replace o14 : M29 H26.size = some (.inl (g.2 0, 200, .inl (fun _ => 0))) := by rw [hM29]; exact (mu_n n14_15).trans o14
  have o15 : M29 H28.size = some (.inl (g.2 0, 200, .inl (fun _ => 0))) := by rw [hM29]; exact mu_s
  replace fr : ∀ q, q < s.heap.size → q ≠ t → M29 q = M q := fun q h1 h2 => by rw [hM29]; exact (mu_n (by omega)).trans (fr q h1 h2)
  refine m_putF (ci := 7) (v := .ref H28.size) (ty := .array .int) hx hb hT in_T ty_T tk_T nm_T hown hK hH (o0) rfl 17 (by decide) (hT _ w689) (fun _ h9 => h9) rfl hnm rfl (by decide +kernel) rfl rfl (Nat.le_of_ble_eq_true rfl) d_T_init_134 (e1 := .inr (7, [.int 0, .int 0, .ref s.heap.size, .ref H2.size, .ref H4.size, .ref H6.size, .ref H8.size, .ref H10.size, .ref H12.size, .int 0, .ref H14.size, .ref H16.size, .ref H18.size, .ref H20.size, .ref H22.size, .ref H24.size, .ref H26.size, .ref H28.size])) rfl (fun H30 locs hH zH30 => ?_)
  obtain ⟨M30, hM30⟩ : ∃ Mz : MW, Mz = mu M29 t (.inr (7, [.int 0, .int 0, .ref s.heap.size, .ref H2.size, .ref H4.size, .ref H6.size, .ref H8.size, .ref H10.size, .ref H12.size, .int 0, .ref H14.size, .ref H16.size, .ref H18.size, .ref H20.size, .ref H22.size, .ref H24.size, .ref H26.size, .ref H28.size])) := ⟨_, rfl⟩
  replace hH : HS g (mA M s.heap.size) s.heap M30 H30 locs := by rw [hM30]; exact hH
  replace o1 : M30 s.heap.size = some (.inl (g.2 0, 4000, .inl (fun _ => 0))) := by rw [hM30]; exact (mu_n (Ne.symm n0_1)).trans o1
  replace o2 : M30 H2.size = some (.inl (g.2 0, 4000, .inl (fun _ => 0))) := by rw [hM30]; exact (mu_n (Ne.symm n0_2)).trans o2
  replace o3 : M30 H4.size = some (.inl (g.2 0, 4000, .inl (fun _ => 0))) := by rw [hM30]; exact (mu_n (Ne.symm n0_3)).trans o3
  replace o4 : M30 H6.size = some (.inl (g.2 0, 4000, .inl (fun _ => 0))) := by rw [hM30]; exact (mu_n (Ne.symm n0_4)).trans o4
  replace o5 : M30 H8.size = some (.inl (g.2 1, 352000, .inl (fun _ => 0))) := by rw [hM30]; exact (mu_n (Ne.symm n0_5)).trans o5
  replace o6 : M30 H10.size = some (.inl (g.2 0, 4000, .inl (fun _ => 0))) := by rw [hM30]; exact (mu_n (Ne.symm n0_6)).trans o6
  replace o7 : M30 H12.size = some (.inl (g.2 0, 3001, .inl (fun _ => 0))) := by rw [hM30]; exact (mu_n (Ne.symm n0_7)).trans o7
  replace o8 : M30 H14.size = some (.inl (g.2 2, 600200, .inl (fun _ => 0))) := by rw [hM30]; exact (mu_n (Ne.symm n0_8)).trans o8
  replace o9 : M30 H16.size = some (.inl (g.2 0, 200, .inl (fun _ => 0))) := by rw [hM30]; exact (mu_n (Ne.symm n0_9)).trans o9
  replace o10 : M30 H18.size = some (.inl (g.2 2, 200, .inl (fun _ => 0))) := by rw [hM30]; exact (mu_n (Ne.symm n0_10)).trans o10
  replace o11 : M30 H20.size = some (.inl (g.2 0, 200, .inl (fun _ => 0))) := by rw [hM30]; exact (mu_n (Ne.symm n0_11)).trans o11
  replace o12 : M30 H22.size = some (.inl (g.2 2, 200, .inl (fun _ => 0))) := by rw [hM30]; exact (mu_n (Ne.symm n0_12)).trans o12
  replace o13 : M30 H24.size = some (.inl (g.2 0, 200, .inl (fun _ => 0))) := by rw [hM30]; exact (mu_n (Ne.symm n0_13)).trans o13
  replace o14 : M30 H26.size = some (.inl (g.2 0, 200, .inl (fun _ => 0))) := by rw [hM30]; exact (mu_n (Ne.symm n0_14)).trans o14
  replace o15 : M30 H28.size = some (.inl (g.2 0, 200, .inl (fun _ => 0))) := by rw [hM30]; exact (mu_n (Ne.symm n0_15)).trans o15
  have o0 : M30 t = some (.inr (7, [.int 0, .int 0, .ref s.heap.size, .ref H2.size, .ref H4.size, .ref H6.size, .ref H8.size, .ref H10.size, .ref H12.size, .int 0, .ref H14.size, .ref H16.size, .ref H18.size, .ref H20.size, .ref H22.size, .ref H24.size, .ref H26.size, .ref H28.size])) := by rw [hM30]; exact mu_s
  replace fr : ∀ q, q < s.heap.size → q ≠ t → M30 q = M q := fun q h1 h2 => by rw [hM30]; exact (mu_n (by omega)).trans (fr q h1 h2)
  have e1 : s.heap.size = t + 1 := by omega
  have e2 : H2.size = t + 2 := by omega
  have e3 : H4.size = t + 3 := by omega
  have e4 : H6.size = t + 4 := by omega
  have e5 : H8.size = t + 5 := by omega
  have e6 : H10.size = t + 6 := by omega
  have e7 : H12.size = t + 7 := by omega
  have e8 : H14.size = t + 8 := by omega
  have e9 : H16.size = t + 9 := by omega
  have e10 : H18.size = t + 10 := by omega
  have e11 : H20.size = t + 11 := by omega
  have e12 : H22.size = t + 12 := by omega
  have e13 : H24.size = t + 13 := by omega
  have e14 : H26.size = t + 14 := by omega
  have e15 : H28.size = t + 15 := by omega
  rw [e1, e2, e3, e4, e5, e6, e7, e8, e9, e10, e11, e12, e13, e14, e15] at o0
  rw [e1] at o1
  rw [e2] at o2
  rw [e3] at o3
  rw [e4] at o4
  rw [e5] at o5
  rw [e6] at o6
  rw [e7] at o7
  rw [e8] at o8
  rw [e9] at o9
  rw [e10] at o10
  rw [e11] at o11
  rw [e12] at o12
  rw [e13] at o13
  rw [e14] at o14
  rw [e15] at o15
  refine m_vret hx hb hr hlocks hsz hH ?_ d_T_init_137
  intro q e9 hq
  by_cases h0 : q = t
  · subst h0; rw [tw_t] at hq; exact o0.trans hq
  · obtain ⟨h1, h2⟩ := tw_dom.mp (some_ne hq)
    obtain ⟨k, rfl⟩ : ∃ k, q = t + k := ⟨q - t, by omega⟩
    rw [tw_a k (by omega) (by omega)] at hq
    rcases (show k = 1 ∨ k = 2 ∨ k = 3 ∨ k = 4 ∨ k = 5 ∨ k = 6 ∨ k = 7 ∨ k = 8 ∨ k = 9 ∨ k = 10 ∨ k = 11 ∨ k = 12 ∨ k = 13 ∨ k = 14 ∨ k = 15 by omega) with rfl | rfl | rfl | rfl | rfl | rfl | rfl | rfl | rfl | rfl | rfl | rfl | rfl | rfl | rfl
    · exact o1.trans hq
    · exact o2.trans hq
    · exact o3.trans hq
    · exact o4.trans hq
    · exact o5.trans hq
    · exact o6.trans hq
    · exact o7.trans hq
    · exact o8.trans hq
    · exact o9.trans hq
    · exact o10.trans hq
    · exact o11.trans hq
    · exact o12.trans hq
    · exact o13.trans hq
    · exact o14.trans hq
    · exact o15.trans hq
