/-! JDK lists: add. -/
set_option maxHeartbeats 800000 in
set_option maxRecDepth 100000 in
theorem c_AL_add2_s (l : Launch) (g : GG) (M : MW) (al ed n len ci : Nat) (mo : Int32) (ad : Nat → Nat) (x : Nat) (xs : List Value) (de mir : Nat) (sz : Nat) {r9 : vw_C} (hc : cls8[ci]? = some r9) (hca : Cond.castable r9.1 "java/lang/Object" ∈ NW) (hA : M al = some (.inr (0, [.ref ed, .int (nI n), .int mo]))) (hE : M ed = some (.inl (g.2 5, len, .inr (.inr (.inr (.inr (fun q => if q < n then some (ad q) else none))))))) (hne : al ≠ ed) (hn3 : ed ≠ x) (hlt : n < len) (hl2 : len < 2 ^ 20) (hX : M x = some (.inr (ci, xs))) (hn2 : al ≠ x) : Met l y_AL_add2 (k_AL_add2 :: TT) { frames := 5, cells := 1, slots := 1000, locals := 134 } (Pd g [.ref al, .ref x, .ref ed, .int (nI n)] sz (M) de mir) (Qm g M (fun _ : Unit => none) (fun _ M' => ∃ r cap, n < cap ∧ cap < 2 ^ 20 ∧ (r = ed ∨ sz ≤ r) ∧ M' r = some (.inl (g.2 5, cap, .inr (.inr (.inr (.inr (fun q => if q < (n + 1) then some (if q = n then x else ad q) else none)))))) ∧ M' al = some (.inr (0, [.ref r, .int (nI (n + 1)), .int mo])) ∧ ∀ q, q < sz → q ≠ al → q ≠ ed → M' q = M q)) 1 1000 (mA M sz) := by
  refine dmet_of (by decide) (Nat.le_of_ble_eq_true rfl) ?_
  intro pr en s mi below meth co hx hb hr hml hown hlocks hnm hT hsz hP hK hZ ls hl
  have hl : lv_has ls 4 [(0, .ref al), (1, .ref x), (2, .ref ed), (3, .int (nI n))] := hl
  have hH := HS.start hP
  have o0 : M al = some (.inr (0, [.ref ed, .int (nI n), .int mo])) := hA
  have o1 : M ed = some (.inl (g.2 5, len, .inr (.inr (.inr (.inr (fun q => if q < n then some (ad q) else none)))))) := hE
  have o2 : M x = some (.inr (ci, xs)) := hX
  have fr : ∀ q, q < s.heap.size → q ≠ al → q ≠ ed → M q = M q := fun q h1 _ _ => rfl
  refine W.more (cells' := 1) (slots' := 1000) (by decide) (by decide) ?_
  refine lv_iload_n hx hb d_AL_add2_0 rfl (lv_at hl 3 rfl) ?_
  refine lv_aload_n hx hb d_AL_add2_1 rfl (lv_at hl 2 rfl) ?_
  refine m_alen (v := nI len) hx hb hK hH.1 5 (o1) rfl rfl d_AL_add2_2 ?_
  refine lv_icmp_ne (tgt := 11) hx hb d_AL_add2_3 (by decide) (fun _ => ?_) (fun hq9 => absurd hq9 (fun z => absurd ((nI_eq (by omega) (by omega)).mp z) (by omega)))
  refine lv_aload_n hx hb d_AL_add2_11 rfl (lv_at hl 2 rfl) ?_
  refine lv_iload_n hx hb d_AL_add2_12 rfl (lv_at hl 3 rfl) ?_
  refine lv_aload_n hx hb d_AL_add2_13 rfl (lv_at hl 1 rfl) ?_
  refine m_aast hx hb hK hH 5 ci o1 rfl (Or.inr hca) o2 hc (j := n) rfl (hlt) (by omega) d_AL_add2_14 (fun H1 locs hH zH1 => ?_)
  rw [up_f] at hH
  obtain ⟨M1, hM1⟩ : ∃ Mz : MW, Mz = mu M ed (.inl (g.2 5, len, .inr (.inr (.inr (.inr (fun q => if q < n + 1 then some (if q = n then x else ad q) else none)))))) := ⟨_, rfl⟩
  replace hH : HS g (mA M s.heap.size) s.heap M1 H1 locs := by rw [hM1]; exact hH
  replace o0 : M1 al = some (.inr (0, [.ref ed, .int (nI n), .int mo])) := by rw [hM1]; exact (mu_n hne).trans o0
  replace o2 : M1 x = some (.inr (ci, xs)) := by rw [hM1]; exact (mu_n (Ne.symm hn3)).trans o2
  have o1 : M1 ed = some (.inl (g.2 5, len, .inr (.inr (.inr (.inr (fun q => if q < n + 1 then some (if q = n then x else ad q) else none)))))) := by rw [hM1]; exact mu_s
  replace fr : ∀ q, q < s.heap.size → q ≠ al → q ≠ ed → M1 q = M q := fun q h1 h2 h3 => by rw [hM1]; exact (mu_n (by omega)).trans (fr q h1 h2 h3)
  refine lv_aload_n hx hb d_AL_add2_15 rfl (lv_at hl 0 rfl) ?_
  refine lv_iload_n hx hb d_AL_add2_16 rfl (lv_at hl 3 rfl) ?_
  refine lv_iconst (v := 1) hx hb d_AL_add2_17 (by decide) ?_
  refine lv_iadd hx hb d_AL_add2_18 ?_
  rw [show ((nI n) + 1) = nI (n + 1) from nI_1 _]
  refine m_put (ci := 0) (v := .int (nI (n + 1))) (ty := .int) hx hb hT in_AL ty_AL tk_AL nm_AL hown hK hH (o0) rfl 1 (by decide) (hT _ w46) (fun _ h9 => h9) rfl (by decide +kernel) rfl rfl (Nat.le_of_ble_eq_true rfl) d_AL_add2_19 (e1 := .inr (0, [.ref ed, .int (nI (n + 1)), .int mo])) rfl (fun H2 locs hH zH2 => ?_)
  obtain ⟨M2, hM2⟩ : ∃ Mz : MW, Mz = mu M1 al (.inr (0, [.ref ed, .int (nI (n + 1)), .int mo])) := ⟨_, rfl⟩
  replace hH : HS g (mA M s.heap.size) s.heap M2 H2 locs := by rw [hM2]; exact hH
  replace o1 : M2 ed = some (.inl (g.2 5, len, .inr (.inr (.inr (.inr (fun q => if q < n + 1 then some (if q = n then x else ad q) else none)))))) := by rw [hM2]; exact (mu_n (Ne.symm hne)).trans o1
  replace o2 : M2 x = some (.inr (ci, xs)) := by rw [hM2]; exact (mu_n (Ne.symm hn2)).trans o2
  have o0 : M2 al = some (.inr (0, [.ref ed, .int (nI (n + 1)), .int mo])) := by rw [hM2]; exact mu_s
  replace fr : ∀ q, q < s.heap.size → q ≠ al → q ≠ ed → M2 q = M q := fun q h1 h2 h3 => by rw [hM2]; exact (mu_n (by omega)).trans (fr q h1 h2 h3)
  exact m_vret hx hb hr hlocks hsz hH (⟨ed, len, hlt, hl2, Or.inl rfl, o1, o0, fun q h1 h2 h3 => fr q (by omega) h2 h3⟩) d_AL_add2_22
set_option maxHeartbeats 800000 in
set_option maxRecDepth 100000 in
theorem c_AL_add2_n (l : Launch) (g : GG) (M : MW) (al ed n ci : Nat) (mo : Int32) (ad : Nat → Nat) (x : Nat) (xs : List Value) (de mir : Nat) (sz : Nat) {r9 : vw_C} (hc : cls8[ci]? = some r9) (hca : Cond.castable r9.1 "java/lang/Object" ∈ NW) (hA : M al = some (.inr (0, [.ref ed, .int (nI n), .int mo]))) (hE : M ed = some (.inl (g.2 5, n, .inr (.inr (.inr (.inr (fun q => if q < n then some (ad q) else none))))))) (hel : ∀ q, q < n → ∃ vs, M (ad q) = some (.inr (ci, vs))) (hne : al ≠ ed) (hn3 : ed ≠ x) (hn0 : 0 < n) (hn6 : n ≤ 600) (hX : M x = some (.inr (ci, xs))) (hn2 : al ≠ x) : Met l y_AL_add2 (k_AL_add2 :: TT) { frames := 5, cells := 1, slots := 1000, locals := 134 } (Pd g [.ref al, .ref x, .ref ed, .int (nI n)] sz (M) de mir) (Qm g M (fun _ : Unit => none) (fun _ M' => ∃ r cap, n < cap ∧ cap < 2 ^ 20 ∧ (r = ed ∨ sz ≤ r) ∧ M' r = some (.inl (g.2 5, cap, .inr (.inr (.inr (.inr (fun q => if q < (n + 1) then some (if q = n then x else ad q) else none)))))) ∧ M' al = some (.inr (0, [.ref r, .int (nI (n + 1)), .int mo])) ∧ ∀ q, q < sz → q ≠ al → q ≠ ed → M' q = M q)) 1 1000 (mA M sz) := by
  refine dmet_of (by decide) (Nat.le_of_ble_eq_true rfl) ?_
  intro pr en s mi below meth co hx hb hr hml hown hlocks hnm hT hsz hP hK hZ ls hl
  have hl : lv_has ls 4 [(0, .ref al), (1, .ref x), (2, .ref ed), (3, .int (nI n))] := hl
  have hH := HS.start hP
  have o0 : M al = some (.inr (0, [.ref ed, .int (nI n), .int mo])) := hA
  have o1 : M ed = some (.inl (g.2 5, n, .inr (.inr (.inr (.inr (fun q => if q < n then some (ad q) else none)))))) := hE
  have o2 : M x = some (.inr (ci, xs)) := hX
  have fr : ∀ q, q < s.heap.size → q ≠ al → q ≠ ed → M q = M q := fun q h1 _ _ => rfl
  refine lv_iload_n hx hb d_AL_add2_0 rfl (lv_at hl 3 rfl) ?_
  refine lv_aload_n hx hb d_AL_add2_1 rfl (lv_at hl 2 rfl) ?_
  refine m_alen (v := nI n) hx hb hK hH.1 5 (o1) rfl rfl d_AL_add2_2 ?_
  refine lv_icmp_ne (tgt := 11) hx hb d_AL_add2_3 (by decide) (fun hq9 => absurd (rfl) hq9) (fun _ => ?_)
  refine lv_aload_n hx hb d_AL_add2_6 rfl (lv_at hl 0 rfl) ?_
  have l0 := hH.1.lt o0
  have l1 := hH.1.lt o1
  have l2 := hH.1.lt o2
  refine m_run (d_V (As := []) (rest := []) hx hb hml hl.1 hown hT hK hH.1 (dd_of hH hZ) (c_AL_grow1_n l g _ al ed n ci mo ad de mir _ hc hca o0 o1 hel hne hn0 hn6) kw_AL_grow1 w267 w269 selp_AL_grow1 w4 hd_AL_grow1 rfl rfl ⟨by decide, by decide⟩ (o0) rfl rfl rfl (Nat.le_of_ble_eq_true rfl) d_AL_add2_7 ⟨by decide, Nat.le_of_ble_eq_true rfl⟩) hH (fun rv M1 H1 locs hpost hH zH1 hdm hfr => ?_)
  obtain ⟨cap, p0, p1, p2, p3, p4, p5⟩ := hpost
  replace o1 : M1 ed = some (.inl (g.2 5, n, .inr (.inr (.inr (.inr (fun q => if q < n then some (ad q) else none)))))) := Eq.trans (p5 _ l1 (Ne.symm hne)) o1
  replace o2 : M1 x = some (.inr (ci, xs)) := Eq.trans (p5 _ l2 (Ne.symm hn2)) o2
  replace o0 : M1 al = some (.inr (0, [.ref rv, .int (nI n), .int mo])) := p4
  replace fr : ∀ q, q < s.heap.size → q ≠ al → q ≠ ed → M1 q = M q := fun q h1 h2 h3 => Eq.trans (p5 q h1 h2) (fr q h1 h2 h3)
  have o3 : M1 rv = some (.inl (g.2 5, cap, .inr (.inr (.inr (.inr (fun q => if q < n then some (ad q) else none)))))) := p3
  refine lv_astore_n (lv' := [(2, .ref rv), (0, .ref al), (1, .ref x), (3, .int (nI n))]) hx hb d_AL_add2_10 rfl hl (by decide) rfl (fun ls hl => ?_)
  refine lv_aload_n hx hb d_AL_add2_11 rfl (lv_at hl 0 rfl) ?_
  refine lv_iload_n hx hb d_AL_add2_12 rfl (lv_at hl 3 rfl) ?_
  refine lv_aload_n hx hb d_AL_add2_13 rfl (lv_at hl 2 rfl) ?_
  refine m_aast hx hb hK hH 5 ci o3 rfl (Or.inr hca) o2 hc (j := n) rfl (p0) (by omega) d_AL_add2_14 (fun H2 locs hH zH2 => ?_)
  rw [up_f] at hH
  obtain ⟨M2, hM2⟩ : ∃ Mz : MW, Mz = mu M1 rv (.inl (g.2 5, cap, .inr (.inr (.inr (.inr (fun q => if q < n + 1 then some (if q = n then x else ad q) else none)))))) := ⟨_, rfl⟩
  replace hH : HS g (mA M s.heap.size) s.heap M2 H2 locs := by rw [hM2]; exact hH
  replace o0 : M2 al = some (.inr (0, [.ref rv, .int (nI n), .int mo])) := by rw [hM2]; exact (mu_n (by omega)).trans o0
  replace o1 : M2 ed = some (.inl (g.2 5, n, .inr (.inr (.inr (.inr (fun q => if q < n then some (ad q) else none)))))) := by rw [hM2]; exact (mu_n (by omega)).trans o1
  replace o2 : M2 x = some (.inr (ci, xs)) := by rw [hM2]; exact (mu_n (by omega)).trans o2
  have o3 : M2 rv = some (.inl (g.2 5, cap, .inr (.inr (.inr (.inr (fun q => if q < n + 1 then some (if q = n then x else ad q) else none)))))) := by rw [hM2]; exact mu_s
  replace fr : ∀ q, q < s.heap.size → q ≠ al → q ≠ ed → M2 q = M q := fun q h1 h2 h3 => by rw [hM2]; exact (mu_n (by omega)).trans (fr q h1 h2 h3)
  refine lv_aload_n hx hb d_AL_add2_15 rfl (lv_at hl 1 rfl) ?_
  refine lv_iload_n hx hb d_AL_add2_16 rfl (lv_at hl 3 rfl) ?_
  refine lv_iconst (v := 1) hx hb d_AL_add2_17 (by decide) ?_
  refine lv_iadd hx hb d_AL_add2_18 ?_
  rw [show ((nI n) + 1) = nI (n + 1) from nI_1 _]
  refine m_put (ci := 0) (v := .int (nI (n + 1))) (ty := .int) hx hb hT in_AL ty_AL tk_AL nm_AL hown hK hH (o0) rfl 1 (by decide) (hT _ w46) (fun _ h9 => h9) rfl (by decide +kernel) rfl rfl (Nat.le_of_ble_eq_true rfl) d_AL_add2_19 (e1 := .inr (0, [.ref rv, .int (nI (n + 1)), .int mo])) rfl (fun H3 locs hH zH3 => ?_)
  obtain ⟨M3, hM3⟩ : ∃ Mz : MW, Mz = mu M2 al (.inr (0, [.ref rv, .int (nI (n + 1)), .int mo])) := ⟨_, rfl⟩
  replace hH : HS g (mA M s.heap.size) s.heap M3 H3 locs := by rw [hM3]; exact hH
  replace o1 : M3 ed = some (.inl (g.2 5, n, .inr (.inr (.inr (.inr (fun q => if q < n then some (ad q) else none)))))) := by rw [hM3]; exact (mu_n (Ne.symm hne)).trans o1
  replace o2 : M3 x = some (.inr (ci, xs)) := by rw [hM3]; exact (mu_n (Ne.symm hn2)).trans o2
  replace o3 : M3 rv = some (.inl (g.2 5, cap, .inr (.inr (.inr (.inr (fun q => if q < n + 1 then some (if q = n then x else ad q) else none)))))) := by rw [hM3]; exact (mu_n (by omega)).trans o3
  have o0 : M3 al = some (.inr (0, [.ref rv, .int (nI (n + 1)), .int mo])) := by rw [hM3]; exact mu_s
  replace fr : ∀ q, q < s.heap.size → q ≠ al → q ≠ ed → M3 q = M q := fun q h1 h2 h3 => by rw [hM3]; exact (mu_n (by omega)).trans (fr q h1 h2 h3)
  exact m_vret hx hb hr hlocks hsz hH (⟨rv, cap, p0, by omega, Or.inr (by omega), o3, o0, fun q h1 h2 h3 => fr q (by omega) h2 h3⟩) d_AL_add2_22
set_option maxHeartbeats 800000 in
set_option maxRecDepth 100000 in
theorem c_AL_add2_0 (l : Launch) (g : GG) (M : MW) (al ci : Nat) (mo : Int32) (ad : Nat → Nat) (x : Nat) (xs : List Value) (de mir : Nat) (sz : Nat) {r9 : vw_C} (hc : cls8[ci]? = some r9) (hca : Cond.castable r9.1 "java/lang/Object" ∈ NW) (hA : M al = some (.inr (0, [.ref de, .int (nI 0), .int mo]))) (hX : M x = some (.inr (ci, xs))) (hn2 : al ≠ x) : Met l y_AL_add2 (k_AL_add2 :: TT) { frames := 5, cells := 1, slots := 1000, locals := 134 } (Pd g [.ref al, .ref x, .ref de, .int (nI 0)] sz (M) de mir) (Qm g M (fun _ : Unit => none) (fun _ M' => ∃ r cap, 0 < cap ∧ cap < 2 ^ 20 ∧ (r = de ∨ sz ≤ r) ∧ M' r = some (.inl (g.2 5, cap, .inr (.inr (.inr (.inr (fun q => if q < (0 + 1) then some (if q = 0 then x else ad q) else none)))))) ∧ M' al = some (.inr (0, [.ref r, .int (nI (0 + 1)), .int mo])) ∧ ∀ q, q < sz → q ≠ al → q ≠ de → M' q = M q)) 1 1000 (mA M sz) := by
  refine dmet_of (by decide) (Nat.le_of_ble_eq_true rfl) ?_
  intro pr en s mi below meth co hx hb hr hml hown hlocks hnm hT hsz hP hK hZ ls hl
  have hl : lv_has ls 4 [(0, .ref al), (1, .ref x), (2, .ref de), (3, .int (nI 0))] := hl
  have hH := HS.start hP
  have o0 : M al = some (.inr (0, [.ref de, .int (nI 0), .int mo])) := hA
  have o1 : M x = some (.inr (ci, xs)) := hX
  have fr : ∀ q, q < s.heap.size → q ≠ al → M q = M q := fun q h1 _ => rfl
  refine lv_iload_n hx hb d_AL_add2_0 rfl (lv_at hl 3 rfl) ?_
  refine lv_aload_n hx hb d_AL_add2_1 rfl (lv_at hl 2 rfl) ?_
  refine m_len0 hx hb (dd_of hH hZ) d_AL_add2_2 ?_
  refine lv_icmp_ne (tgt := 11) hx hb d_AL_add2_3 (by decide) (fun hq9 => absurd (rfl) hq9) (fun _ => ?_)
  refine lv_aload_n hx hb d_AL_add2_6 rfl (lv_at hl 0 rfl) ?_
  have l0 := hH.1.lt o0
  have l1 := hH.1.lt o1
  refine m_run (d_V (As := []) (rest := []) hx hb hml hl.1 hown hT hK hH.1 (dd_of hH hZ) (c_AL_grow1_0 l g _ al mo ad de mir _ o0) kw_AL_grow1 w267 w269 selp_AL_grow1 w4 hd_AL_grow1 rfl rfl ⟨by decide, by decide⟩ (o0) rfl rfl rfl (Nat.le_of_ble_eq_true rfl) d_AL_add2_7 ⟨by decide, Nat.le_of_ble_eq_true rfl⟩) hH (fun rv M1 H1 locs hpost hH zH1 hdm hfr => ?_)
  obtain ⟨cap, p0, p1, p2, p3, p4, p5⟩ := hpost
  replace o1 : M1 x = some (.inr (ci, xs)) := Eq.trans (p5 _ l1 (Ne.symm hn2)) o1
  replace o0 : M1 al = some (.inr (0, [.ref rv, .int (nI 0), .int mo])) := p4
  replace fr : ∀ q, q < s.heap.size → q ≠ al → M1 q = M q := fun q h1 h2 => Eq.trans (p5 q h1 h2) (fr q h1 h2)
  have o2 : M1 rv = some (.inl (g.2 5, cap, .inr (.inr (.inr (.inr (fun q => if q < 0 then some (ad q) else none)))))) := p3
  refine lv_astore_n (lv' := [(2, .ref rv), (0, .ref al), (1, .ref x), (3, .int (nI 0))]) hx hb d_AL_add2_10 rfl hl (by decide) rfl (fun ls hl => ?_)
  refine lv_aload_n hx hb d_AL_add2_11 rfl (lv_at hl 0 rfl) ?_
  refine lv_iload_n hx hb d_AL_add2_12 rfl (lv_at hl 3 rfl) ?_
  refine lv_aload_n hx hb d_AL_add2_13 rfl (lv_at hl 2 rfl) ?_
  refine m_aast hx hb hK hH 5 ci o2 rfl (Or.inr hca) o1 hc (j := 0) rfl (p0) (by omega) d_AL_add2_14 (fun H2 locs hH zH2 => ?_)
  rw [up_f] at hH
  obtain ⟨M2, hM2⟩ : ∃ Mz : MW, Mz = mu M1 rv (.inl (g.2 5, cap, .inr (.inr (.inr (.inr (fun q => if q < 0 + 1 then some (if q = 0 then x else ad q) else none)))))) := ⟨_, rfl⟩
  replace hH : HS g (mA M s.heap.size) s.heap M2 H2 locs := by rw [hM2]; exact hH
  replace o0 : M2 al = some (.inr (0, [.ref rv, .int (nI 0), .int mo])) := by rw [hM2]; exact (mu_n (by omega)).trans o0
  replace o1 : M2 x = some (.inr (ci, xs)) := by rw [hM2]; exact (mu_n (by omega)).trans o1
  have o2 : M2 rv = some (.inl (g.2 5, cap, .inr (.inr (.inr (.inr (fun q => if q < 0 + 1 then some (if q = 0 then x else ad q) else none)))))) := by rw [hM2]; exact mu_s
  replace fr : ∀ q, q < s.heap.size → q ≠ al → M2 q = M q := fun q h1 h2 => by rw [hM2]; exact (mu_n (by omega)).trans (fr q h1 h2)
  refine lv_aload_n hx hb d_AL_add2_15 rfl (lv_at hl 1 rfl) ?_
  refine lv_iload_n hx hb d_AL_add2_16 rfl (lv_at hl 3 rfl) ?_
  refine lv_iconst (v := 1) hx hb d_AL_add2_17 (by decide) ?_
  refine lv_iadd hx hb d_AL_add2_18 ?_
  rw [show ((nI 0) + 1) = nI (0 + 1) from (by decide)]
  refine m_put (ci := 0) (v := .int (nI (0 + 1))) (ty := .int) hx hb hT in_AL ty_AL tk_AL nm_AL hown hK hH (o0) rfl 1 (by decide) (hT _ w46) (fun _ h9 => h9) rfl (by decide +kernel) rfl rfl (Nat.le_of_ble_eq_true rfl) d_AL_add2_19 (e1 := .inr (0, [.ref rv, .int (nI (0 + 1)), .int mo])) rfl (fun H3 locs hH zH3 => ?_)
  obtain ⟨M3, hM3⟩ : ∃ Mz : MW, Mz = mu M2 al (.inr (0, [.ref rv, .int (nI (0 + 1)), .int mo])) := ⟨_, rfl⟩
  replace hH : HS g (mA M s.heap.size) s.heap M3 H3 locs := by rw [hM3]; exact hH
  replace o1 : M3 x = some (.inr (ci, xs)) := by rw [hM3]; exact (mu_n (Ne.symm hn2)).trans o1
  replace o2 : M3 rv = some (.inl (g.2 5, cap, .inr (.inr (.inr (.inr (fun q => if q < 0 + 1 then some (if q = 0 then x else ad q) else none)))))) := by rw [hM3]; exact (mu_n (by omega)).trans o2
  have o0 : M3 al = some (.inr (0, [.ref rv, .int (nI (0 + 1)), .int mo])) := by rw [hM3]; exact mu_s
  replace fr : ∀ q, q < s.heap.size → q ≠ al → M3 q = M q := fun q h1 h2 => by rw [hM3]; exact (mu_n (by omega)).trans (fr q h1 h2)
  exact m_vret hx hb hr hlocks hsz hH (⟨rv, cap, p0, by omega, Or.inr (by omega), o2, o0, fun q h1 h2 h3 => fr q (by omega) h2⟩) d_AL_add2_22
set_option maxHeartbeats 800000 in
set_option maxRecDepth 100000 in
theorem c_AL_add1_s (l : Launch) (g : GG) (M : MW) (al ed n len ci : Nat) (mo : Int32) (ad : Nat → Nat) (x : Nat) (xs : List Value) (de mir : Nat) (sz : Nat) {r9 : vw_C} (hc : cls8[ci]? = some r9) (hca : Cond.castable r9.1 "java/lang/Object" ∈ NW) (hA : M al = some (.inr (0, [.ref ed, .int (nI n), .int mo]))) (hE : M ed = some (.inl (g.2 5, len, .inr (.inr (.inr (.inr (fun q => if q < n then some (ad q) else none))))))) (hne : al ≠ ed) (hn3 : ed ≠ x) (hlt : n < len) (hl2 : len < 2 ^ 20) (hX : M x = some (.inr (ci, xs))) (hn2 : al ≠ x) : Met l y_AL_add1 (k_AL_add1 :: TT) { frames := 6, cells := 1, slots := 1000, locals := 157 } (Pd g [.ref al, .ref x] sz (M) de mir) (Qm g M (fun r : Int32 => some (.int r)) (fun rv M' => rv = 1 ∧ ∃ r cap, n < cap ∧ cap < 2 ^ 20 ∧ (r = ed ∨ sz ≤ r) ∧ M' r = some (.inl (g.2 5, cap, .inr (.inr (.inr (.inr (fun q => if q < (n + 1) then some (if q = n then x else ad q) else none)))))) ∧ M' al = some (.inr (0, [.ref r, .int (nI (n + 1)), .int (mo + 1)])) ∧ ∀ q, q < sz → q ≠ al → q ≠ ed → M' q = M q)) 1 1000 (mA M sz) := by
  refine dmet_of (by decide) (Nat.le_of_ble_eq_true rfl) ?_
  intro pr en s mi below meth co hx hb hr hml hown hlocks hnm hT hsz hP hK hZ ls hl
  have hl : lv_has ls 2 [(0, .ref al), (1, .ref x)] := hl
  have hH := HS.start hP
  have o0 : M al = some (.inr (0, [.ref ed, .int (nI n), .int mo])) := hA
  have o1 : M ed = some (.inl (g.2 5, len, .inr (.inr (.inr (.inr (fun q => if q < n then some (ad q) else none)))))) := hE
  have o2 : M x = some (.inr (ci, xs)) := hX
  have fr : ∀ q, q < s.heap.size → q ≠ al → q ≠ ed → M q = M q := fun q h1 _ _ => rfl
  refine lv_aload_n hx hb d_AL_add1_0 rfl (lv_at hl 0 rfl) ?_
  refine lv_dup hx hb d_AL_add1_1 rfl ?_
  refine m_get (ci := 0) (v := .int mo) hx hb hT in_AL hown hK hH.1 (o0) rfl 2 (by decide) (hT _ w48) (fun x9 h9 => u_same (hT _ w49) x9 h9) rfl d_AL_add1_2 ?_
  refine lv_iconst (v := 1) hx hb d_AL_add1_5 (by decide) ?_
  refine lv_iadd hx hb d_AL_add1_6 ?_
  refine m_put (ci := 0) (v := .int (mo + 1)) (ty := .int) hx hb hT in_AL ty_AL tk_AL nm_AL hown hK hH (o0) rfl 2 (by decide) (hT _ w48) (fun x9 h9 => u_same (hT _ w49) x9 h9) rfl (by decide +kernel) rfl rfl (Nat.le_of_ble_eq_true rfl) d_AL_add1_7 (e1 := .inr (0, [.ref ed, .int (nI n), .int (mo + 1)])) rfl (fun H1 locs hH zH1 => ?_)
  obtain ⟨M1, hM1⟩ : ∃ Mz : MW, Mz = mu M al (.inr (0, [.ref ed, .int (nI n), .int (mo + 1)])) := ⟨_, rfl⟩
  replace hH : HS g (mA M s.heap.size) s.heap M1 H1 locs := by rw [hM1]; exact hH
  replace o1 : M1 ed = some (.inl (g.2 5, len, .inr (.inr (.inr (.inr (fun q => if q < n then some (ad q) else none)))))) := by rw [hM1]; exact (mu_n (Ne.symm hne)).trans o1
  replace o2 : M1 x = some (.inr (ci, xs)) := by rw [hM1]; exact (mu_n (Ne.symm hn2)).trans o2
  have o0 : M1 al = some (.inr (0, [.ref ed, .int (nI n), .int (mo + 1)])) := by rw [hM1]; exact mu_s
  replace fr : ∀ q, q < s.heap.size → q ≠ al → q ≠ ed → M1 q = M q := fun q h1 h2 h3 => by rw [hM1]; exact (mu_n (by omega)).trans (fr q h1 h2 h3)
  refine lv_aload_n hx hb d_AL_add1_10 rfl (lv_at hl 0 rfl) ?_
  refine lv_aload_n hx hb d_AL_add1_11 rfl (lv_at hl 1 rfl) ?_
  refine lv_aload_n hx hb d_AL_add1_12 rfl (lv_at hl 0 rfl) ?_
  refine m_get (ci := 0) (v := .ref ed) hx hb hT in_AL hown hK hH.1 (o0) rfl 0 (by decide) (hT _ w45) (fun _ h9 => h9) rfl d_AL_add1_13 ?_
  refine lv_aload_n hx hb d_AL_add1_16 rfl (lv_at hl 0 rfl) ?_
  refine m_get (ci := 0) (v := .int (nI n)) hx hb hT in_AL hown hK hH.1 (o0) rfl 1 (by decide) (hT _ w46) (fun _ h9 => h9) rfl d_AL_add1_17 ?_
  have l0 := hH.1.lt o0
  have l1 := hH.1.lt o1
  have l2 := hH.1.lt o2
  refine m_run (d_V (As := [.ref x, .ref ed, .int (nI n)]) (rest := []) hx hb hml hl.1 hown hT hK hH.1 (dd_of hH hZ) (c_AL_add2_s l g _ al ed n len ci (mo + 1) ad x xs de mir _ hc hca o0 o1 hne hn3 hlt hl2 o2 hn2) kw_AL_add2 w263 w265 selp_AL_add2 w4 hd_AL_add2 rfl rfl ⟨by decide, by decide⟩ (o0) rfl rfl rfl (Nat.le_of_ble_eq_true rfl) d_AL_add1_20 ⟨by decide, Nat.le_of_ble_eq_true rfl⟩) hH (fun rv M2 H2 locs hpost hH zH2 hdm hfr => ?_)
  obtain ⟨r, cap, p0, p1, p2, p3, p4, p5⟩ := hpost
  refine lv_iconst (v := 1) hx hb d_AL_add1_23 (by decide) ?_
  exact m_zret hx hb hr hlocks hsz hH (Or.inr rfl) (⟨rfl, r, cap, p0, p1, p2.elim Or.inl (fun z => Or.inr (by omega)), p3, p4, fun q h1 h2 h3 => (p5 q (by omega) h2 h3).trans (fr q (by omega) h2 h3)⟩) d_AL_add1_24
theorem el_put {M : MW} {al n ci : Nat} {fs : List Value} {e : va_E} {ad : Nat → Nat} (hA : M al = some (.inr (0, fs))) (hci : ci ≠ 0) (hel : ∀ q, q < n → ∃ vs, M (ad q) = some (.inr (ci, vs))) : ∀ q, q < n → ∃ vs, mu M al e (ad q) = some (.inr (ci, vs)) := by
  intro q hq
  obtain ⟨vs, hv⟩ := hel q hq
  refine ⟨vs, ?_⟩
  rw [mu_n]
  · exact hv
  · intro z
    rw [z, hA] at hv
    injection hv with hv
    injection hv with hv
    injection hv with hv
    exact hci hv.symm
set_option maxHeartbeats 800000 in
set_option maxRecDepth 100000 in
theorem c_AL_add1_n (l : Launch) (g : GG) (M : MW) (al ed n ci : Nat) (mo : Int32) (ad : Nat → Nat) (x : Nat) (xs : List Value) (de mir : Nat) (sz : Nat) {r9 : vw_C} (hc : cls8[ci]? = some r9) (hca : Cond.castable r9.1 "java/lang/Object" ∈ NW) (hA : M al = some (.inr (0, [.ref ed, .int (nI n), .int mo]))) (hE : M ed = some (.inl (g.2 5, n, .inr (.inr (.inr (.inr (fun q => if q < n then some (ad q) else none))))))) (hel : ∀ q, q < n → ∃ vs, M (ad q) = some (.inr (ci, vs))) (hne : al ≠ ed) (hn3 : ed ≠ x) (hn0 : 0 < n) (hn6 : n ≤ 600) (hX : M x = some (.inr (ci, xs))) (hn2 : al ≠ x) (hci : ci ≠ 0) : Met l y_AL_add1 (k_AL_add1 :: TT) { frames := 6, cells := 1, slots := 1000, locals := 157 } (Pd g [.ref al, .ref x] sz (M) de mir) (Qm g M (fun r : Int32 => some (.int r)) (fun rv M' => rv = 1 ∧ ∃ r cap, n < cap ∧ cap < 2 ^ 20 ∧ (r = ed ∨ sz ≤ r) ∧ M' r = some (.inl (g.2 5, cap, .inr (.inr (.inr (.inr (fun q => if q < (n + 1) then some (if q = n then x else ad q) else none)))))) ∧ M' al = some (.inr (0, [.ref r, .int (nI (n + 1)), .int (mo + 1)])) ∧ ∀ q, q < sz → q ≠ al → q ≠ ed → M' q = M q)) 1 1000 (mA M sz) := by
  refine dmet_of (by decide) (Nat.le_of_ble_eq_true rfl) ?_
  intro pr en s mi below meth co hx hb hr hml hown hlocks hnm hT hsz hP hK hZ ls hl
  have hl : lv_has ls 2 [(0, .ref al), (1, .ref x)] := hl
  have hH := HS.start hP
  have o0 : M al = some (.inr (0, [.ref ed, .int (nI n), .int mo])) := hA
  have o1 : M ed = some (.inl (g.2 5, n, .inr (.inr (.inr (.inr (fun q => if q < n then some (ad q) else none)))))) := hE
  have o2 : M x = some (.inr (ci, xs)) := hX
  have fr : ∀ q, q < s.heap.size → q ≠ al → q ≠ ed → M q = M q := fun q h1 _ _ => rfl
  refine lv_aload_n hx hb d_AL_add1_0 rfl (lv_at hl 0 rfl) ?_
  refine lv_dup hx hb d_AL_add1_1 rfl ?_
  refine m_get (ci := 0) (v := .int mo) hx hb hT in_AL hown hK hH.1 (o0) rfl 2 (by decide) (hT _ w48) (fun x9 h9 => u_same (hT _ w49) x9 h9) rfl d_AL_add1_2 ?_
  refine lv_iconst (v := 1) hx hb d_AL_add1_5 (by decide) ?_
  refine lv_iadd hx hb d_AL_add1_6 ?_
  refine m_put (ci := 0) (v := .int (mo + 1)) (ty := .int) hx hb hT in_AL ty_AL tk_AL nm_AL hown hK hH (o0) rfl 2 (by decide) (hT _ w48) (fun x9 h9 => u_same (hT _ w49) x9 h9) rfl (by decide +kernel) rfl rfl (Nat.le_of_ble_eq_true rfl) d_AL_add1_7 (e1 := .inr (0, [.ref ed, .int (nI n), .int (mo + 1)])) rfl (fun H1 locs hH zH1 => ?_)
  obtain ⟨M1, hM1⟩ : ∃ Mz : MW, Mz = mu M al (.inr (0, [.ref ed, .int (nI n), .int (mo + 1)])) := ⟨_, rfl⟩
  replace hH : HS g (mA M s.heap.size) s.heap M1 H1 locs := by rw [hM1]; exact hH
  replace o1 : M1 ed = some (.inl (g.2 5, n, .inr (.inr (.inr (.inr (fun q => if q < n then some (ad q) else none)))))) := by rw [hM1]; exact (mu_n (Ne.symm hne)).trans o1
  replace o2 : M1 x = some (.inr (ci, xs)) := by rw [hM1]; exact (mu_n (Ne.symm hn2)).trans o2
  have o0 : M1 al = some (.inr (0, [.ref ed, .int (nI n), .int (mo + 1)])) := by rw [hM1]; exact mu_s
  replace fr : ∀ q, q < s.heap.size → q ≠ al → q ≠ ed → M1 q = M q := fun q h1 h2 h3 => by rw [hM1]; exact (mu_n (by omega)).trans (fr q h1 h2 h3)
  refine lv_aload_n hx hb d_AL_add1_10 rfl (lv_at hl 0 rfl) ?_
  refine lv_aload_n hx hb d_AL_add1_11 rfl (lv_at hl 1 rfl) ?_
  refine lv_aload_n hx hb d_AL_add1_12 rfl (lv_at hl 0 rfl) ?_
  refine m_get (ci := 0) (v := .ref ed) hx hb hT in_AL hown hK hH.1 (o0) rfl 0 (by decide) (hT _ w45) (fun _ h9 => h9) rfl d_AL_add1_13 ?_
  refine lv_aload_n hx hb d_AL_add1_16 rfl (lv_at hl 0 rfl) ?_
  refine m_get (ci := 0) (v := .int (nI n)) hx hb hT in_AL hown hK hH.1 (o0) rfl 1 (by decide) (hT _ w46) (fun _ h9 => h9) rfl d_AL_add1_17 ?_
  have l0 := hH.1.lt o0
  have l1 := hH.1.lt o1
  have l2 := hH.1.lt o2
  refine m_run (d_V (As := [.ref x, .ref ed, .int (nI n)]) (rest := []) hx hb hml hl.1 hown hT hK hH.1 (dd_of hH hZ) (c_AL_add2_n l g _ al ed n ci (mo + 1) ad x xs de mir _ hc hca o0 o1 (by rw [hM1]; exact el_put hA hci hel) hne hn3 hn0 hn6 o2 hn2) kw_AL_add2 w263 w265 selp_AL_add2 w4 hd_AL_add2 rfl rfl ⟨by decide, by decide⟩ (o0) rfl rfl rfl (Nat.le_of_ble_eq_true rfl) d_AL_add1_20 ⟨by decide, Nat.le_of_ble_eq_true rfl⟩) hH (fun rv M2 H2 locs hpost hH zH2 hdm hfr => ?_)
  obtain ⟨r, cap, p0, p1, p2, p3, p4, p5⟩ := hpost
  refine lv_iconst (v := 1) hx hb d_AL_add1_23 (by decide) ?_
  exact m_zret hx hb hr hlocks hsz hH (Or.inr rfl) (⟨rfl, r, cap, p0, p1, p2.elim Or.inl (fun z => Or.inr (by omega)), p3, p4, fun q h1 h2 h3 => (p5 q (by omega) h2 h3).trans (fr q (by omega) h2 h3)⟩) d_AL_add1_24
set_option maxHeartbeats 800000 in
set_option maxRecDepth 100000 in
theorem c_AL_add1_0 (l : Launch) (g : GG) (M : MW) (al ci : Nat) (mo : Int32) (ad : Nat → Nat) (x : Nat) (xs : List Value) (de mir : Nat) (sz : Nat) {r9 : vw_C} (hc : cls8[ci]? = some r9) (hca : Cond.castable r9.1 "java/lang/Object" ∈ NW) (hA : M al = some (.inr (0, [.ref de, .int (nI 0), .int mo]))) (hX : M x = some (.inr (ci, xs))) (hn2 : al ≠ x) : Met l y_AL_add1 (k_AL_add1 :: TT) { frames := 6, cells := 1, slots := 1000, locals := 157 } (Pd g [.ref al, .ref x] sz (M) de mir) (Qm g M (fun r : Int32 => some (.int r)) (fun rv M' => rv = 1 ∧ ∃ r cap, 0 < cap ∧ cap < 2 ^ 20 ∧ (r = de ∨ sz ≤ r) ∧ M' r = some (.inl (g.2 5, cap, .inr (.inr (.inr (.inr (fun q => if q < (0 + 1) then some (if q = 0 then x else ad q) else none)))))) ∧ M' al = some (.inr (0, [.ref r, .int (nI (0 + 1)), .int (mo + 1)])) ∧ ∀ q, q < sz → q ≠ al → q ≠ de → M' q = M q)) 1 1000 (mA M sz) := by
  refine dmet_of (by decide) (Nat.le_of_ble_eq_true rfl) ?_
  intro pr en s mi below meth co hx hb hr hml hown hlocks hnm hT hsz hP hK hZ ls hl
  have hl : lv_has ls 2 [(0, .ref al), (1, .ref x)] := hl
  have hH := HS.start hP
  have o0 : M al = some (.inr (0, [.ref de, .int (nI 0), .int mo])) := hA
  have o1 : M x = some (.inr (ci, xs)) := hX
  have fr : ∀ q, q < s.heap.size → q ≠ al → M q = M q := fun q h1 _ => rfl
  refine lv_aload_n hx hb d_AL_add1_0 rfl (lv_at hl 0 rfl) ?_
  refine lv_dup hx hb d_AL_add1_1 rfl ?_
  refine m_get (ci := 0) (v := .int mo) hx hb hT in_AL hown hK hH.1 (o0) rfl 2 (by decide) (hT _ w48) (fun x9 h9 => u_same (hT _ w49) x9 h9) rfl d_AL_add1_2 ?_
  refine lv_iconst (v := 1) hx hb d_AL_add1_5 (by decide) ?_
  refine lv_iadd hx hb d_AL_add1_6 ?_
  refine m_put (ci := 0) (v := .int (mo + 1)) (ty := .int) hx hb hT in_AL ty_AL tk_AL nm_AL hown hK hH (o0) rfl 2 (by decide) (hT _ w48) (fun x9 h9 => u_same (hT _ w49) x9 h9) rfl (by decide +kernel) rfl rfl (Nat.le_of_ble_eq_true rfl) d_AL_add1_7 (e1 := .inr (0, [.ref de, .int (nI 0), .int (mo + 1)])) rfl (fun H1 locs hH zH1 => ?_)
  obtain ⟨M1, hM1⟩ : ∃ Mz : MW, Mz = mu M al (.inr (0, [.ref de, .int (nI 0), .int (mo + 1)])) := ⟨_, rfl⟩
  replace hH : HS g (mA M s.heap.size) s.heap M1 H1 locs := by rw [hM1]; exact hH
  replace o1 : M1 x = some (.inr (ci, xs)) := by rw [hM1]; exact (mu_n (Ne.symm hn2)).trans o1
  have o0 : M1 al = some (.inr (0, [.ref de, .int (nI 0), .int (mo + 1)])) := by rw [hM1]; exact mu_s
  replace fr : ∀ q, q < s.heap.size → q ≠ al → M1 q = M q := fun q h1 h2 => by rw [hM1]; exact (mu_n (by omega)).trans (fr q h1 h2)
  refine lv_aload_n hx hb d_AL_add1_10 rfl (lv_at hl 0 rfl) ?_
  refine lv_aload_n hx hb d_AL_add1_11 rfl (lv_at hl 1 rfl) ?_
  refine lv_aload_n hx hb d_AL_add1_12 rfl (lv_at hl 0 rfl) ?_
  refine m_get (ci := 0) (v := .ref de) hx hb hT in_AL hown hK hH.1 (o0) rfl 0 (by decide) (hT _ w45) (fun _ h9 => h9) rfl d_AL_add1_13 ?_
  refine lv_aload_n hx hb d_AL_add1_16 rfl (lv_at hl 0 rfl) ?_
  refine m_get (ci := 0) (v := .int (nI 0)) hx hb hT in_AL hown hK hH.1 (o0) rfl 1 (by decide) (hT _ w46) (fun _ h9 => h9) rfl d_AL_add1_17 ?_
  have l0 := hH.1.lt o0
  have l1 := hH.1.lt o1
  refine m_run (d_V (As := [.ref x, .ref de, .int (nI 0)]) (rest := []) hx hb hml hl.1 hown hT hK hH.1 (dd_of hH hZ) (c_AL_add2_0 l g _ al ci (mo + 1) ad x xs de mir _ hc hca o0 o1 hn2) kw_AL_add2 w263 w265 selp_AL_add2 w4 hd_AL_add2 rfl rfl ⟨by decide, by decide⟩ (o0) rfl rfl rfl (Nat.le_of_ble_eq_true rfl) d_AL_add1_20 ⟨by decide, Nat.le_of_ble_eq_true rfl⟩) hH (fun rv M2 H2 locs hpost hH zH2 hdm hfr => ?_)
  obtain ⟨r, cap, p0, p1, p2, p3, p4, p5⟩ := hpost
  refine lv_iconst (v := 1) hx hb d_AL_add1_23 (by decide) ?_
  exact m_zret hx hb hr hlocks hsz hH (Or.inr rfl) (⟨rfl, r, cap, p0, p1, p2.elim Or.inl (fun z => Or.inr (by omega)), p3, p4, fun q h1 h2 h3 => (p5 q (by omega) h2 h3).trans (fr q (by omega) h2)⟩) d_AL_add1_24
theorem c_AL_add1 (l : Launch) (g : GG) (M : MW) (al ed n len ci : Nat) (mo : Int32) (ad : Nat → Nat) (x : Nat) (xs : List Value) (de mir : Nat) (sz : Nat) {r9 : vw_C} (hc : cls8[ci]? = some r9) (hca : Cond.castable r9.1 "java/lang/Object" ∈ NW) (hA : M al = some (.inr (0, [.ref ed, .int (nI n), .int mo]))) (hE : (n = 0 ∧ ed = de) ∨ (M ed = some (.inl (g.2 5, len, .inr (.inr (.inr (.inr (fun q => if q < n then some (ad q) else none)))))) ∧ n ≤ len ∧ 0 < len ∧ len < 2 ^ 20 ∧ al ≠ ed ∧ ed ≠ x)) (hel : ∀ q, q < n → ∃ vs, M (ad q) = some (.inr (ci, vs))) (hX : M x = some (.inr (ci, xs))) (hn2 : al ≠ x) (hci : ci ≠ 0) (hn6 : n ≤ 600) : Met l y_AL_add1 (k_AL_add1 :: TT) { frames := 6, cells := 1, slots := 1000, locals := 157 } (Pd g [.ref al, .ref x] sz (M) de mir) (Qm g M (fun r : Int32 => some (.int r)) (fun rv M' => rv = 1 ∧ ∃ r cap, n < cap ∧ cap < 2 ^ 20 ∧ (r = ed ∨ sz ≤ r) ∧ M' r = some (.inl (g.2 5, cap, .inr (.inr (.inr (.inr (fun q => if q < (n + 1) then some (if q = n then x else ad q) else none)))))) ∧ M' al = some (.inr (0, [.ref r, .int (nI (n + 1)), .int (mo + 1)])) ∧ ∀ q, q < sz → q ≠ al → q ≠ ed → M' q = M q)) 1 1000 (mA M sz) := by
  rcases hE with ⟨rfl, rfl⟩ | ⟨hE, h1, h2, h3, h4, h5⟩
  · exact c_AL_add1_0 l g M al ci mo ad x xs ed mir sz hc hca hA hX hn2
  · rcases Nat.lt_or_ge n len with h | h
    · exact c_AL_add1_s l g M al ed n len ci mo ad x xs de mir sz hc hca hA hE h4 h5 h h3 hX hn2
    · obtain rfl : n = len := by omega
      exact c_AL_add1_n l g M al ed n ci mo ad x xs de mir sz hc hca hA hE hel h4 h5 h2 hn6 hX hn2 hci
