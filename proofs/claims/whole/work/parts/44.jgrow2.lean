/-! JDK lists: copies and growth. -/
theorem cpy_f (f : Nat → Option Nat) (n : Nat) : va_cpy (fun q => if q < n then f q else none) (fun _ => none) 0 0 n = fun q => if q < n then f q else none := by
  funext k
  unfold va_cpy
  by_cases h : k < n
  · rw [if_pos ⟨Nat.zero_le _, by omega⟩, show 0 + (k - 0) = k by omega]
  · rw [if_neg (fun z => h (by omega)), if_neg h]
theorem mn_le {a b : Nat} (h : a ≤ b) (hb : b < 2 ^ 31) : mnJ (nI a) (nI b) = nI a := by
  unfold mnJ
  rw [if_neg (nI_nlt h (by omega))]
theorem el_of {M : MW} {n ci : Nat} {ad : Nat → Nat} (hel : ∀ q, q < n → ∃ vs, M (ad q) = some (.inr (ci, vs))) : ∀ i y, (fun q => if q < n then some (ad q) else none) i = some y → ∃ vs, M y = some (.inr (ci, vs)) := by
  intro i y hy
  have h8 : (if i < n then some (ad i) else none) = some y := hy
  by_cases h9 : i < n
  · rw [if_pos h9] at h8; cases h8; exact hel i h9
  · rw [if_neg h9] at h8; cases h8
theorem up_f (ad : Nat → Nat) (n x : Nat) : va_up (fun q => if q < n then some (ad q) else none) n (some x) = fun q => if q < n + 1 then some (if q = n then x else ad q) else none := by
  funext k
  unfold va_up
  by_cases h : k = n
  · subst h; simp
  · by_cases h2 : k < n
    · simp [h, h2, show k < n + 1 by omega]
    · simp [h, h2, show ¬ k < n + 1 by omega]
theorem shr1_tab : (List.range 1001).all (fun n => decide (nI n >>> ((1 : Int32) &&& 31) = nI (n / 2))) = true := by decide +kernel
theorem shr1 {n : Nat} (h : n ≤ 1000) : nI n >>> ((1 : Int32) &&& 31) = nI (n / 2) := of_decide_eq_true (List.all_eq_true.mp shr1_tab n (List.mem_range.mpr (by omega)))
set_option maxHeartbeats 800000 in
set_option maxRecDepth 100000 in
theorem c_Arr_copyOf2 (l : Launch) (g : GG) (M : MW) (ed len n' ci : Nat) (f : Nat → Option Nat) (de mir : Nat) (sz : Nat) {r9 : vw_C} (hc : cls8[ci]? = some r9) (hca : Cond.castable r9.1 "java/lang/Object" ∈ NW) (hE : M ed = some (.inl (g.2 5, len, .inr (.inr (.inr (.inr (f))))))) (hel : ∀ i y, f i = some y → ∃ vs, M y = some (.inr (ci, vs))) (hn1 : len ≤ n') (hn2 : n' ≤ 1000) : Met l y_Arr_copyOf2 (k_Arr_copyOf2 :: TT) { frames := 1, cells := 1, slots := 1000, locals := 40 } (Pd g [.ref ed, .int (nI n'), .ref mir] sz (M) de mir) (Qm g M (fun r : Nat => some (.ref r)) (fun r M' => sz ≤ r ∧ M' r = some (.inl (g.2 5, n', .inr (.inr (.inr (.inr (va_cpy f (fun _ => none) 0 0 len)))))) ∧ ∀ q, q < sz → M' q = M q)) 1 1000 (mA M sz) := by
  refine dmet_of (by decide) (Nat.le_of_ble_eq_true rfl) ?_
  intro pr en s mi below meth co hx hb hr hml hown hlocks hnm hT hsz hP hK hZ ls hl
  have hl : lv_has ls 4 [(0, .ref ed), (1, .int (nI n')), (2, .ref mir)] := hl
  have hH := HS.start hP
  have o0 : M ed = some (.inl (g.2 5, len, .inr (.inr (.inr (.inr (f)))))) := hE
  have fr : ∀ q, q < s.heap.size → M q = M q := fun q h1 => rfl
  refine lv_aload_n hx hb d_Arr_copyOf2_0 rfl (lv_at hl 2 rfl) ?_
  refine va_ldcM hx hb hown (hT _ w306) hZ.2.2.2.1 d_Arr_copyOf2_1 ?_
  refine lv_acmp_ne (rx := some mir) (ry := some mir) (tgt := 13) hx hb d_Arr_copyOf2_3 (by decide) (fun z => absurd rfl z) (fun _ => ?_)
  refine lv_iload_n hx hb d_Arr_copyOf2_6 rfl (lv_at hl 1 rfl) ?_
  have l0 := hH.1.lt o0
  refine m_newq hx hb hown (hT _ w308) hK nw307 hH 5 rfl (N' := n') rfl (by omega) (by decide) (by show 0 + n' ≤ 1000; omega) d_Arr_copyOf2_7 (fun H1 hH zH1 => ?_)
  refine W.more (cells' := 1) (slots' := 1000) (by decide) (by show 0 + n' ≤ 1000; omega) ?_
  have n0_1 : ed ≠ s.heap.size := Nat.ne_of_lt l0
  obtain ⟨M1, hM1⟩ : ∃ Mz : MW, Mz = mu M s.heap.size (.inl (g.2 5, n', .inr (.inr (.inr (.inr (fun _ => none)))))) := ⟨_, rfl⟩
  replace hH : HS g (mA M s.heap.size) s.heap M1 H1 [] := by rw [hM1]; exact hH
  replace o0 : M1 ed = some (.inl (g.2 5, len, .inr (.inr (.inr (.inr (f)))))) := by rw [hM1]; exact (mu_n n0_1).trans o0
  have o1 : M1 s.heap.size = some (.inl (g.2 5, n', .inr (.inr (.inr (.inr (fun _ => none)))))) := by rw [hM1]; exact mu_s
  replace fr : ∀ q, q < s.heap.size → M1 q = M q := fun q h1  => by rw [hM1]; exact (mu_n (by omega)).trans (fr q h1 )
  refine lv_goto (tgt := 24) hx hb d_Arr_copyOf2_10 (by decide) ?_
  refine lv_astore_n (lv' := [(3, .ref s.heap.size), (0, .ref ed), (1, .int (nI n')), (2, .ref mir)]) hx hb d_Arr_copyOf2_24 rfl hl (by decide) rfl (fun ls hl => ?_)
  refine lv_aload_n hx hb d_Arr_copyOf2_25 rfl (lv_at hl 1 rfl) ?_
  refine lv_iconst (v := 0) hx hb d_Arr_copyOf2_26 (by decide) ?_
  refine lv_aload_n hx hb d_Arr_copyOf2_27 rfl (lv_at hl 0 rfl) ?_
  refine lv_iconst (v := 0) hx hb d_Arr_copyOf2_28 (by decide) ?_
  refine lv_aload_n hx hb d_Arr_copyOf2_29 rfl (lv_at hl 1 rfl) ?_
  refine m_alen (v := nI len) hx hb hK hH.1 5 (o0) rfl rfl d_Arr_copyOf2_30 ?_
  refine lv_iload_n hx hb d_Arr_copyOf2_31 rfl (lv_at hl 2 rfl) ?_
  refine va_mmin hx hb (hml.trans hl.1.symm) hown (hT _ w309) (hT _ w310) (hT _ w16) (hT _ w311) (by decide) (Nat.le_of_ble_eq_true rfl) (by decide) (by decide) d_Arr_copyOf2_32 ?_
  refine W.eq (g2 := F0 mi 35 ls [.int (mnJ (nI len) (nI n')), .int 0, .ref s.heap.size, .int 0, .ref ed]) rfl ?_
  rw [show (mnJ (nI len) (nI n')) = nI len from mn_le (by omega) (by omega)]
  refine m_copyq hx hb (hml.trans hl.1.symm) hZ hown hT hK hH o0 o1 n0_1 ci hc hca (fun i y hy => by obtain ⟨vs, hv⟩ := hel i y hy; exact ⟨vs, by rw [hM1, mu_n (Nat.ne_of_lt (hP.lt hv))]; exact hv⟩) (n := len) (by omega) (by omega) (by omega) (by decide) (Nat.le_of_ble_eq_true rfl) d_Arr_copyOf2_35 (fun H2 locs hH zH2 => ?_)
  obtain ⟨M2, hM2⟩ : ∃ Mz : MW, Mz = mu M1 s.heap.size (.inl (g.2 5, n', .inr (.inr (.inr (.inr (va_cpy f (fun _ => none) 0 0 len)))))) := ⟨_, rfl⟩
  replace hH : HS g (mA M s.heap.size) s.heap M2 H2 locs := by rw [hM2]; exact hH
  replace o0 : M2 ed = some (.inl (g.2 5, len, .inr (.inr (.inr (.inr (f)))))) := by rw [hM2]; exact (mu_n n0_1).trans o0
  have o1 : M2 s.heap.size = some (.inl (g.2 5, n', .inr (.inr (.inr (.inr (va_cpy f (fun _ => none) 0 0 len)))))) := by rw [hM2]; exact mu_s
  replace fr : ∀ q, q < s.heap.size → M2 q = M q := fun q h1  => by rw [hM2]; exact (mu_n (by omega)).trans (fr q h1 )
  refine lv_aload_n hx hb d_Arr_copyOf2_38 rfl (lv_at hl 0 rfl) ?_
  exact m_aret hx hb hr (by first | exact Or.inl ⟨_, rfl⟩ | exact Or.inr ⟨_, rfl⟩) hlocks hsz hH (⟨by omega, o1, fun q h1 => fr q (by omega)⟩) d_Arr_copyOf2_39
set_option maxHeartbeats 800000 in
set_option maxRecDepth 100000 in
theorem c_Arr_copyOf1 (l : Launch) (g : GG) (M : MW) (ed len n' ci : Nat) (f : Nat → Option Nat) (de mir : Nat) (sz : Nat) {r9 : vw_C} (hc : cls8[ci]? = some r9) (hca : Cond.castable r9.1 "java/lang/Object" ∈ NW) (hE : M ed = some (.inl (g.2 5, len, .inr (.inr (.inr (.inr (f))))))) (hel : ∀ i y, f i = some y → ∃ vs, M y = some (.inr (ci, vs))) (hn1 : len ≤ n') (hn2 : n' ≤ 1000) : Met l y_Arr_copyOf1 (k_Arr_copyOf1 :: TT) { frames := 2, cells := 1, slots := 1000, locals := 70 } (Pd g [.ref ed, .int (nI n')] sz (M) de mir) (Qm g M (fun r : Nat => some (.ref r)) (fun r M' => sz ≤ r ∧ M' r = some (.inl (g.2 5, n', .inr (.inr (.inr (.inr (va_cpy f (fun _ => none) 0 0 len)))))) ∧ ∀ q, q < sz → M' q = M q)) 1 1000 (mA M sz) := by
  refine dmet_of (by decide) (Nat.le_of_ble_eq_true rfl) ?_
  intro pr en s mi below meth co hx hb hr hml hown hlocks hnm hT hsz hP hK hZ ls hl
  have hl : lv_has ls 2 [(0, .ref ed), (1, .int (nI n'))] := hl
  have hH := HS.start hP
  have o0 : M ed = some (.inl (g.2 5, len, .inr (.inr (.inr (.inr (f)))))) := hE
  have fr : ∀ q, q < s.heap.size → M q = M q := fun q h1 => rfl
  refine lv_aload_n hx hb d_Arr_copyOf1_0 rfl (lv_at hl 0 rfl) ?_
  refine lv_iload_n hx hb d_Arr_copyOf1_1 rfl (lv_at hl 1 rfl) ?_
  refine lv_aload_n hx hb d_Arr_copyOf1_2 rfl (lv_at hl 0 rfl) ?_
  refine va_getC (C := OBA) hx hb (hml.trans hl.1.symm) hown (hT _ w288) (va_Nw.use rfl (hK.2.1 _ nw884)) (hT _ w883) (hT _ w289) (va_Nw.use rfl hZ.2.2.2.2.2) hZ.2.2.2.1 ⟨_, hH.1 _ _ o0, rfl, va_nmO (hK.1.2 5 _ rfl).2 (by decide)⟩ (by decide) (Nat.le_of_ble_eq_true rfl) d_Arr_copyOf1_3 ?_
  have l0 := hH.1.lt o0
  refine m_run (d_S (As := [.ref ed, .int (nI n'), .ref mir]) (rest := []) hx hb hml hl.1 hown hT hK hH.1 (dd_of hH hZ) (c_Arr_copyOf2 l g _ ed len n' ci f de mir _ hc hca o0 hel hn1 hn2) kw_Arr_copyOf2 w303 w304 w7 hd_Arr_copyOf2 rfl rfl ⟨by decide, by decide⟩ rfl rfl (Nat.le_of_ble_eq_true rfl) d_Arr_copyOf1_6 ⟨by decide, Nat.le_of_ble_eq_true rfl⟩) hH (fun rv M1 H1 locs hpost hH zH1 hdm hfr => ?_)
  obtain ⟨p1, p2, p3⟩ := hpost
  replace o0 : M1 ed = some (.inl (g.2 5, len, .inr (.inr (.inr (.inr (f)))))) := Eq.trans (p3 _ l0) o0
  replace fr : ∀ q, q < s.heap.size → M1 q = M q := fun q h1  => Eq.trans (p3 q h1) (fr q h1 )
  have o1 : M1 rv = some (.inl (g.2 5, n', .inr (.inr (.inr (.inr (va_cpy f (fun _ => none) 0 0 len)))))) := p2
  exact m_aret hx hb hr (by first | exact Or.inl ⟨_, rfl⟩ | exact Or.inr ⟨_, rfl⟩) hlocks hsz hH (⟨by omega, o1, fun q h1 => fr q (by omega)⟩) d_Arr_copyOf1_9
set_option maxHeartbeats 800000 in
set_option maxRecDepth 100000 in
theorem c_AL_grow2_n (l : Launch) (g : GG) (M : MW) (al ed n ci : Nat) (mo : Int32) (ad : Nat → Nat) (de mir : Nat) (sz : Nat) {r9 : vw_C} (hc : cls8[ci]? = some r9) (hca : Cond.castable r9.1 "java/lang/Object" ∈ NW) (hA : M al = some (.inr (0, [.ref ed, .int (nI n), .int mo]))) (hE : M ed = some (.inl (g.2 5, n, .inr (.inr (.inr (.inr (fun q => if q < n then some (ad q) else none))))))) (hel : ∀ q, q < n → ∃ vs, M (ad q) = some (.inr (ci, vs))) (hne : al ≠ ed) (hn0 : 0 < n) (hn6 : n ≤ 600) : Met l y_AL_grow2 (k_AL_grow2 :: TT) { frames := 3, cells := 1, slots := 1000, locals := 91 } (Pd g [.ref al, .int (nI (n + 1))] sz (M) de mir) (Qm g M (fun r : Nat => some (.ref r)) (fun r M' => ∃ cap, n < cap ∧ cap ≤ 1000 ∧ sz ≤ r ∧ M' r = some (.inl (g.2 5, cap, .inr (.inr (.inr (.inr (fun q => if q < n then some (ad q) else none)))))) ∧ M' al = some (.inr (0, [.ref r, .int (nI n), .int mo])) ∧ ∀ q, q < sz → q ≠ al → M' q = M q)) 1 1000 (mA M sz) := by
  refine dmet_of (by decide) (Nat.le_of_ble_eq_true rfl) ?_
  intro pr en s mi below meth co hx hb hr hml hown hlocks hnm hT hsz hP hK hZ ls hl
  have hl : lv_has ls 4 [(0, .ref al), (1, .int (nI (n + 1)))] := hl
  have hH := HS.start hP
  have o0 : M al = some (.inr (0, [.ref ed, .int (nI n), .int mo])) := hA
  have o1 : M ed = some (.inl (g.2 5, n, .inr (.inr (.inr (.inr (fun q => if q < n then some (ad q) else none)))))) := hE
  have fr : ∀ q, q < s.heap.size → q ≠ al → M q = M q := fun q h1 _ => rfl
  have hel2 := el_of hel
  refine lv_aload_n hx hb d_AL_grow2_0 rfl (lv_at hl 0 rfl) ?_
  refine m_get (ci := 0) (v := .ref ed) hx hb hT in_AL hown hK hH.1 (o0) rfl 0 (by decide) (hT _ w45) (fun _ h9 => h9) rfl d_AL_grow2_1 ?_
  refine m_alen (v := nI n) hx hb hK hH.1 5 (o1) rfl rfl d_AL_grow2_4 ?_
  refine lv_istore_n (lv' := [(2, .int (nI n)), (0, .ref al), (1, .int (nI (n + 1)))]) hx hb d_AL_grow2_5 rfl hl (by decide) rfl (fun ls hl => ?_)
  refine lv_iload_n hx hb d_AL_grow2_6 rfl (lv_at hl 0 rfl) ?_
  refine lv_if_gt (tgt := 20) hx hb d_AL_grow2_7 (by decide) (fun _ => ?_) (fun hq9 => absurd (nI_lt (a := 0) hn0 (by omega)) hq9)
  refine lv_iload_n hx hb d_AL_grow2_20 rfl (lv_at hl 0 rfl) ?_
  refine lv_iload_n hx hb d_AL_grow2_21 rfl (lv_at hl 2 rfl) ?_
  refine lv_iload_n hx hb d_AL_grow2_22 rfl (lv_at hl 0 rfl) ?_
  refine lv_isub hx hb d_AL_grow2_23 ?_
  rw [show ((nI (n + 1)) - (nI n)) = nI (n + 1 - n) from pk_sub (by omega)]
  refine lv_iload_n hx hb d_AL_grow2_24 rfl (lv_at hl 0 rfl) ?_
  refine lv_iconst (v := 1) hx hb d_AL_grow2_25 (by decide) ?_
  refine lv_ishr hx hb d_AL_grow2_26 ?_
  rw [show ((nI n) >>> (1 &&& 31)) = nI (n / 2) from shr1 (by omega)]
  refine rd_run (c_S (As := [.int (nI n), .int (nI (n + 1 - n)), .int (nI (n / 2))]) (rest := []) hx hb hml hl.1 hown hT hK hH.1 (c_ASup_newLength l g _ n (n + 1 - n) (n / 2) _ (by omega) (by omega) (by omega) (by omega)) kw_ASup_newLength w275 w276 w15 hd_ASup_newLength rfl rfl ⟨by decide, by decide⟩ rfl rfl (Nat.le_of_ble_eq_true rfl) d_AL_grow2_27 ⟨by decide, Nat.le_of_ble_eq_true rfl⟩) rfl ?_
  refine lv_istore_n (lv' := [(3, .int (nI (n + max (n + 1 - n) (n / 2)))), (2, .int (nI n)), (0, .ref al), (1, .int (nI (n + 1)))]) hx hb d_AL_grow2_30 rfl hl (by decide) rfl (fun ls hl => ?_)
  refine lv_aload_n hx hb d_AL_grow2_31 rfl (lv_at hl 2 rfl) ?_
  refine lv_aload_n hx hb d_AL_grow2_32 rfl (lv_at hl 2 rfl) ?_
  refine m_get (ci := 0) (v := .ref ed) hx hb hT in_AL hown hK hH.1 (o0) rfl 0 (by decide) (hT _ w45) (fun _ h9 => h9) rfl d_AL_grow2_33 ?_
  refine lv_iload_n hx hb d_AL_grow2_36 rfl (lv_at hl 0 rfl) ?_
  have l0 := hH.1.lt o0
  have l1 := hH.1.lt o1
  refine m_run (d_S (As := [.ref ed, .int (nI (n + max (n + 1 - n) (n / 2)))]) (rest := [.ref al]) hx hb hml hl.1 hown hT hK hH.1 (dd_of hH hZ) (c_Arr_copyOf1 l g _ ed n (n + max (n + 1 - n) (n / 2)) ci (fun q => if q < n then some (ad q) else none) de mir _ hc hca o1 hel2 (by omega) (by omega)) kw_Arr_copyOf1 w285 w286 w7 hd_Arr_copyOf1 rfl rfl ⟨by decide, by decide⟩ rfl rfl (Nat.le_of_ble_eq_true rfl) d_AL_grow2_37 ⟨by decide, Nat.le_of_ble_eq_true rfl⟩) hH (fun rv M1 H1 locs hpost hH zH1 hdm hfr => ?_)
  obtain ⟨p1, p2, p3⟩ := hpost
  replace o0 : M1 al = some (.inr (0, [.ref ed, .int (nI n), .int mo])) := Eq.trans (p3 _ l0) o0
  replace o1 : M1 ed = some (.inl (g.2 5, n, .inr (.inr (.inr (.inr (fun q => if q < n then some (ad q) else none)))))) := Eq.trans (p3 _ l1) o1
  replace fr : ∀ q, q < s.heap.size → q ≠ al → M1 q = M q := fun q h1 h2 => Eq.trans (p3 q h1) (fr q h1 h2)
  have o2 : M1 rv = some (.inl (g.2 5, (n + max (n + 1 - n) (n / 2)), .inr (.inr (.inr (.inr (va_cpy (fun q => if q < n then some (ad q) else none) (fun _ => none) 0 0 n)))))) := p2
  refine lv_dup_x1 hx hb d_AL_grow2_40 rfl rfl ?_
  refine m_put (ci := 0) (v := .ref rv) (ty := .array (.object "java/lang/Object")) hx hb hT in_AL ty_AL tk_AL nm_AL hown hK hH (o0) rfl 0 (by decide) (hT _ w45) (fun _ h9 => h9) rfl (by decide +kernel) rfl rfl (Nat.le_of_ble_eq_true rfl) d_AL_grow2_41 (e1 := .inr (0, [.ref rv, .int (nI n), .int mo])) rfl (fun H2 locs hH zH2 => ?_)
  obtain ⟨M2, hM2⟩ : ∃ Mz : MW, Mz = mu M1 al (.inr (0, [.ref rv, .int (nI n), .int mo])) := ⟨_, rfl⟩
  replace hH : HS g (mA M s.heap.size) s.heap M2 H2 locs := by rw [hM2]; exact hH
  replace o1 : M2 ed = some (.inl (g.2 5, n, .inr (.inr (.inr (.inr (fun q => if q < n then some (ad q) else none)))))) := by rw [hM2]; exact (mu_n (Ne.symm hne)).trans o1
  replace o2 : M2 rv = some (.inl (g.2 5, (n + max (n + 1 - n) (n / 2)), .inr (.inr (.inr (.inr (va_cpy (fun q => if q < n then some (ad q) else none) (fun _ => none) 0 0 n)))))) := by rw [hM2]; exact (mu_n (by omega)).trans o2
  have o0 : M2 al = some (.inr (0, [.ref rv, .int (nI n), .int mo])) := by rw [hM2]; exact mu_s
  replace fr : ∀ q, q < s.heap.size → q ≠ al → M2 q = M q := fun q h1 h2 => by rw [hM2]; exact (mu_n (by omega)).trans (fr q h1 h2)
  exact m_aret hx hb hr (by first | exact Or.inl ⟨_, rfl⟩ | exact Or.inr ⟨_, rfl⟩) hlocks hsz hH (⟨(n + max (n + 1 - n) (n / 2)), by omega, by omega, by omega, by rw [← cpy_f]; exact o2, o0, fun q h1 h2 => fr q (by omega) h2⟩) d_AL_grow2_44
set_option maxHeartbeats 800000 in
set_option maxRecDepth 100000 in
theorem c_AL_grow2_0 (l : Launch) (g : GG) (M : MW) (al : Nat) (mo : Int32) (ad : Nat → Nat) (de mir : Nat) (sz : Nat) (hA : M al = some (.inr (0, [.ref de, .int (nI 0), .int mo]))) : Met l y_AL_grow2 (k_AL_grow2 :: TT) { frames := 3, cells := 1, slots := 1000, locals := 91 } (Pd g [.ref al, .int (nI 1)] sz (M) de mir) (Qm g M (fun r : Nat => some (.ref r)) (fun r M' => ∃ cap, 0 < cap ∧ cap ≤ 1000 ∧ sz ≤ r ∧ M' r = some (.inl (g.2 5, cap, .inr (.inr (.inr (.inr (fun q => if q < 0 then some (ad q) else none)))))) ∧ M' al = some (.inr (0, [.ref r, .int (nI 0), .int mo])) ∧ ∀ q, q < sz → q ≠ al → M' q = M q)) 1 1000 (mA M sz) := by
  refine dmet_of (by decide) (Nat.le_of_ble_eq_true rfl) ?_
  intro pr en s mi below meth co hx hb hr hml hown hlocks hnm hT hsz hP hK hZ ls hl
  have hl : lv_has ls 4 [(0, .ref al), (1, .int (nI 1))] := hl
  have hH := HS.start hP
  have o0 : M al = some (.inr (0, [.ref de, .int (nI 0), .int mo])) := hA
  have fr : ∀ q, q < s.heap.size → q ≠ al → M q = M q := fun q h1 _ => rfl
  refine lv_aload_n hx hb d_AL_grow2_0 rfl (lv_at hl 0 rfl) ?_
  refine m_get (ci := 0) (v := .ref de) hx hb hT in_AL hown hK hH.1 (o0) rfl 0 (by decide) (hT _ w45) (fun _ h9 => h9) rfl d_AL_grow2_1 ?_
  refine m_len0 hx hb (dd_of hH hZ) d_AL_grow2_4 ?_
  refine lv_istore_n (lv' := [(2, .int 0), (0, .ref al), (1, .int (nI 1))]) hx hb d_AL_grow2_5 rfl hl (by decide) rfl (fun ls hl => ?_)
  refine lv_iload_n hx hb d_AL_grow2_6 rfl (lv_at hl 0 rfl) ?_
  refine lv_if_gt (tgt := 20) hx hb d_AL_grow2_7 (by decide) (fun hq9 => absurd hq9 (by decide)) (fun _ => ?_)
  refine lv_aload_n hx hb d_AL_grow2_10 rfl (lv_at hl 1 rfl) ?_
  refine m_get (ci := 0) (v := .ref de) hx hb hT in_AL hown hK hH.1 (o0) rfl 0 (by decide) (hT _ w45) (fun _ h9 => h9) rfl d_AL_grow2_11 ?_
  refine m_gets hx hb (index := 39) hZ hH hown hT d_AL_grow2_14 ?_
  refine lv_acmp_eq (rx := some de) (ry := some de) (tgt := 45) hx hb d_AL_grow2_17 (by decide) (fun _ => ?_) (fun z => absurd rfl z)
  refine lv_aload_n hx hb d_AL_grow2_45 rfl (lv_at hl 1 rfl) ?_
  refine lv_bipush (v := 10) hx hb d_AL_grow2_46 (by decide) ?_
  refine lv_iload_n hx hb d_AL_grow2_48 rfl (lv_at hl 2 rfl) ?_
  refine va_mmax hx hb (hml.trans hl.1.symm) hown (hT _ w315) (hT _ w279) (hT _ w16) (hT _ w280) (by decide) (Nat.le_of_ble_eq_true rfl) (by decide) (by decide) d_AL_grow2_49 ?_
  refine W.eq (g2 := F0 mi 52 ls [.int (mxJ 10 (nI 1)), .ref al]) rfl ?_
  rw [show (mxJ 10 (nI 1)) = nI 10 from (by decide)]
  have l0 := hH.1.lt o0
  refine m_newq hx hb hown (hT _ w316) hK nw307 hH 5 rfl (N' := 10) rfl (by decide) (by decide) (by show 0 + 10 ≤ 1000; omega) d_AL_grow2_52 (fun H1 hH zH1 => ?_)
  refine W.more (cells' := 1) (slots' := 1000) (by decide) (by show 0 + 10 ≤ 1000; omega) ?_
  have n0_1 : al ≠ s.heap.size := Nat.ne_of_lt l0
  obtain ⟨M1, hM1⟩ : ∃ Mz : MW, Mz = mu M s.heap.size (.inl (g.2 5, 10, .inr (.inr (.inr (.inr (fun _ => none)))))) := ⟨_, rfl⟩
  replace hH : HS g (mA M s.heap.size) s.heap M1 H1 [] := by rw [hM1]; exact hH
  replace o0 : M1 al = some (.inr (0, [.ref de, .int (nI 0), .int mo])) := by rw [hM1]; exact (mu_n n0_1).trans o0
  have o1 : M1 s.heap.size = some (.inl (g.2 5, 10, .inr (.inr (.inr (.inr (fun _ => none)))))) := by rw [hM1]; exact mu_s
  replace fr : ∀ q, q < s.heap.size → q ≠ al → M1 q = M q := fun q h1 h2 => by rw [hM1]; exact (mu_n (by omega)).trans (fr q h1 h2)
  refine lv_dup_x1 hx hb d_AL_grow2_55 rfl rfl ?_
  refine m_put (ci := 0) (v := .ref s.heap.size) (ty := .array (.object "java/lang/Object")) hx hb hT in_AL ty_AL tk_AL nm_AL hown hK hH (o0) rfl 0 (by decide) (hT _ w45) (fun _ h9 => h9) rfl (by decide +kernel) rfl rfl (Nat.le_of_ble_eq_true rfl) d_AL_grow2_56 (e1 := .inr (0, [.ref s.heap.size, .int (nI 0), .int mo])) rfl (fun H2 locs hH zH2 => ?_)
  obtain ⟨M2, hM2⟩ : ∃ Mz : MW, Mz = mu M1 al (.inr (0, [.ref s.heap.size, .int (nI 0), .int mo])) := ⟨_, rfl⟩
  replace hH : HS g (mA M s.heap.size) s.heap M2 H2 locs := by rw [hM2]; exact hH
  replace o1 : M2 s.heap.size = some (.inl (g.2 5, 10, .inr (.inr (.inr (.inr (fun _ => none)))))) := by rw [hM2]; exact (mu_n (Ne.symm n0_1)).trans o1
  have o0 : M2 al = some (.inr (0, [.ref s.heap.size, .int (nI 0), .int mo])) := by rw [hM2]; exact mu_s
  replace fr : ∀ q, q < s.heap.size → q ≠ al → M2 q = M q := fun q h1 h2 => by rw [hM2]; exact (mu_n (by omega)).trans (fr q h1 h2)
  exact m_aret hx hb hr (by first | exact Or.inl ⟨_, rfl⟩ | exact Or.inr ⟨_, rfl⟩) hlocks hsz hH (⟨10, by omega, by omega, by omega, o1, o0, fun q h1 h2 => fr q (by omega) h2⟩) d_AL_grow2_59
set_option maxHeartbeats 800000 in
set_option maxRecDepth 100000 in
theorem c_AL_grow1_n (l : Launch) (g : GG) (M : MW) (al ed n ci : Nat) (mo : Int32) (ad : Nat → Nat) (de mir : Nat) (sz : Nat) {r9 : vw_C} (hc : cls8[ci]? = some r9) (hca : Cond.castable r9.1 "java/lang/Object" ∈ NW) (hA : M al = some (.inr (0, [.ref ed, .int (nI n), .int mo]))) (hE : M ed = some (.inl (g.2 5, n, .inr (.inr (.inr (.inr (fun q => if q < n then some (ad q) else none))))))) (hel : ∀ q, q < n → ∃ vs, M (ad q) = some (.inr (ci, vs))) (hne : al ≠ ed) (hn0 : 0 < n) (hn6 : n ≤ 600) : Met l y_AL_grow1 (k_AL_grow1 :: TT) { frames := 4, cells := 1, slots := 1000, locals := 114 } (Pd g [.ref al] sz (M) de mir) (Qm g M (fun r : Nat => some (.ref r)) (fun r M' => ∃ cap, n < cap ∧ cap ≤ 1000 ∧ sz ≤ r ∧ M' r = some (.inl (g.2 5, cap, .inr (.inr (.inr (.inr (fun q => if q < n then some (ad q) else none)))))) ∧ M' al = some (.inr (0, [.ref r, .int (nI n), .int mo])) ∧ ∀ q, q < sz → q ≠ al → M' q = M q)) 1 1000 (mA M sz) := by
  refine dmet_of (by decide) (Nat.le_of_ble_eq_true rfl) ?_
  intro pr en s mi below meth co hx hb hr hml hown hlocks hnm hT hsz hP hK hZ ls hl
  have hl : lv_has ls 1 [(0, .ref al)] := hl
  have hH := HS.start hP
  have o0 : M al = some (.inr (0, [.ref ed, .int (nI n), .int mo])) := hA
  have o1 : M ed = some (.inl (g.2 5, n, .inr (.inr (.inr (.inr (fun q => if q < n then some (ad q) else none)))))) := hE
  have fr : ∀ q, q < s.heap.size → q ≠ al → M q = M q := fun q h1 _ => rfl
  refine lv_aload_n hx hb d_AL_grow1_0 rfl (lv_at hl 0 rfl) ?_
  refine lv_aload_n hx hb d_AL_grow1_1 rfl (lv_at hl 0 rfl) ?_
  refine m_get (ci := 0) (v := .int (nI n)) hx hb hT in_AL hown hK hH.1 (o0) rfl 1 (by decide) (hT _ w46) (fun _ h9 => h9) rfl d_AL_grow1_2 ?_
  refine lv_iconst (v := 1) hx hb d_AL_grow1_5 (by decide) ?_
  refine lv_iadd hx hb d_AL_grow1_6 ?_
  rw [show ((nI n) + 1) = nI (n + 1) from nI_1 _]
  have l0 := hH.1.lt o0
  have l1 := hH.1.lt o1
  refine m_run (d_V (As := [.int (nI (n + 1))]) (rest := []) hx hb hml hl.1 hown hT hK hH.1 (dd_of hH hZ) (c_AL_grow2_n l g _ al ed n ci mo ad de mir _ hc hca o0 o1 hel hne hn0 hn6) kw_AL_grow2 w271 w273 selp_AL_grow2 w4 hd_AL_grow2 rfl rfl ⟨by decide, by decide⟩ (o0) rfl rfl rfl (Nat.le_of_ble_eq_true rfl) d_AL_grow1_7 ⟨by decide, Nat.le_of_ble_eq_true rfl⟩) hH (fun rv M1 H1 locs hpost hH zH1 hdm hfr => ?_)
  obtain ⟨cap, p0, p1, p2, p3, p4, p5⟩ := hpost
  replace o1 : M1 ed = some (.inl (g.2 5, n, .inr (.inr (.inr (.inr (fun q => if q < n then some (ad q) else none)))))) := Eq.trans (p5 _ l1 (Ne.symm hne)) o1
  replace o0 : M1 al = some (.inr (0, [.ref rv, .int (nI n), .int mo])) := p4
  replace fr : ∀ q, q < s.heap.size → q ≠ al → M1 q = M q := fun q h1 h2 => Eq.trans (p5 q h1 h2) (fr q h1 h2)
  have o2 : M1 rv = some (.inl (g.2 5, cap, .inr (.inr (.inr (.inr (fun q => if q < n then some (ad q) else none)))))) := p3
  exact m_aret hx hb hr (by first | exact Or.inl ⟨_, rfl⟩ | exact Or.inr ⟨_, rfl⟩) hlocks hsz hH (⟨cap, p0, p1, by omega, o2, o0, fun q h1 h2 => fr q (by omega) h2⟩) d_AL_grow1_10
set_option maxHeartbeats 800000 in
set_option maxRecDepth 100000 in
theorem c_AL_grow1_0 (l : Launch) (g : GG) (M : MW) (al : Nat) (mo : Int32) (ad : Nat → Nat) (de mir : Nat) (sz : Nat) (hA : M al = some (.inr (0, [.ref de, .int (nI 0), .int mo]))) : Met l y_AL_grow1 (k_AL_grow1 :: TT) { frames := 4, cells := 1, slots := 1000, locals := 114 } (Pd g [.ref al] sz (M) de mir) (Qm g M (fun r : Nat => some (.ref r)) (fun r M' => ∃ cap, 0 < cap ∧ cap ≤ 1000 ∧ sz ≤ r ∧ M' r = some (.inl (g.2 5, cap, .inr (.inr (.inr (.inr (fun q => if q < 0 then some (ad q) else none)))))) ∧ M' al = some (.inr (0, [.ref r, .int (nI 0), .int mo])) ∧ ∀ q, q < sz → q ≠ al → M' q = M q)) 1 1000 (mA M sz) := by
  refine dmet_of (by decide) (Nat.le_of_ble_eq_true rfl) ?_
  intro pr en s mi below meth co hx hb hr hml hown hlocks hnm hT hsz hP hK hZ ls hl
  have hl : lv_has ls 1 [(0, .ref al)] := hl
  have hH := HS.start hP
  have o0 : M al = some (.inr (0, [.ref de, .int (nI 0), .int mo])) := hA
  have fr : ∀ q, q < s.heap.size → q ≠ al → M q = M q := fun q h1 _ => rfl
  refine lv_aload_n hx hb d_AL_grow1_0 rfl (lv_at hl 0 rfl) ?_
  refine lv_aload_n hx hb d_AL_grow1_1 rfl (lv_at hl 0 rfl) ?_
  refine m_get (ci := 0) (v := .int (nI 0)) hx hb hT in_AL hown hK hH.1 (o0) rfl 1 (by decide) (hT _ w46) (fun _ h9 => h9) rfl d_AL_grow1_2 ?_
  refine lv_iconst (v := 1) hx hb d_AL_grow1_5 (by decide) ?_
  refine lv_iadd hx hb d_AL_grow1_6 ?_
  rw [show ((nI 0) + 1) = nI 1 from (by decide)]
  have l0 := hH.1.lt o0
  refine m_run (d_V (As := [.int (nI 1)]) (rest := []) hx hb hml hl.1 hown hT hK hH.1 (dd_of hH hZ) (c_AL_grow2_0 l g _ al mo ad de mir _ o0) kw_AL_grow2 w271 w273 selp_AL_grow2 w4 hd_AL_grow2 rfl rfl ⟨by decide, by decide⟩ (o0) rfl rfl rfl (Nat.le_of_ble_eq_true rfl) d_AL_grow1_7 ⟨by decide, Nat.le_of_ble_eq_true rfl⟩) hH (fun rv M1 H1 locs hpost hH zH1 hdm hfr => ?_)
  obtain ⟨cap, p0, p1, p2, p3, p4, p5⟩ := hpost
  replace o0 : M1 al = some (.inr (0, [.ref rv, .int (nI 0), .int mo])) := p4
  replace fr : ∀ q, q < s.heap.size → q ≠ al → M1 q = M q := fun q h1 h2 => Eq.trans (p5 q h1 h2) (fr q h1 h2)
  have o1 : M1 rv = some (.inl (g.2 5, cap, .inr (.inr (.inr (.inr (fun q => if q < 0 then some (ad q) else none)))))) := p3
  exact m_aret hx hb hr (by first | exact Or.inl ⟨_, rfl⟩ | exact Or.inr ⟨_, rfl⟩) hlocks hsz hH (⟨cap, p0, p1, by omega, o1, o0, fun q h1 h2 => fr q (by omega) h2⟩) d_AL_grow1_10
