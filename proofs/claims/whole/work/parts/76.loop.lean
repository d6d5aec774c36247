/-! The law: its loop, its start. -/
theorem len5 {L k : Nat} (hL : L ≤ 2560) (hk : 5 * k ≤ L + 4) (h : ¬ Int32.ofNat L - 5 < nI (5 * k)) : 5 * k + 5 ≤ L := by
  rcases Nat.lt_or_ge L 5 with h5 | h5
  · exfalso
    apply h
    refine Int32.lt_of_lt_of_le (b := 0) ?_ (nI_pos' (by omega))
    rcases (show L = 0 ∨ L = 1 ∨ L = 2 ∨ L = 3 ∨ L = 4 by omega) with rfl | rfl | rfl | rfl | rfl <;> decide
  · have e : Int32.ofNat L - 5 = nI (L - 5) := pk_sub (a := L) (b := 5) h5
    rw [e] at h
    rcases Nat.lt_or_ge (L - 5) (5 * k) with z | z
    · exact absurd (nI_lt z (by omega)) h
    · omega
section LAWL
variable {p : Program} {l : Launch} {e : Env} {s : State} {m : MethodId} {below : List Frame} {meth : Method} {c : Code} {g : GG} {de mir b L : Nat} {xs : Nat → Int32} {t o a0 : Nat}
set_option maxHeartbeats 4000000 in
set_option maxRecDepth 100000 in
theorem law_loop (C : LC p l s m c g de mir b L xs) (hr : meth.sig.returnType = ret) (hlocks : meth.locks = false) : ∀ (n k : Nat) (ls : Array Slot) (H : Heap) (MC : MW) (f : Nat → Int64) (σ : SG) (α : AL3) (ν : Nat → Nat) (χ : SG), 513 ≤ k + n → lv_has ls 7 [(4, .int (nI (5 * k))), (3, .ref o), (2, .ref t), (1, .ref a0), (0, .ref b)] → LI g s t o σ MC f H → CL g α ν χ MC de σ a0 → ν 0 ≤ k → ν 1 ≤ k → 5 * k ≤ L + 4 → W p l e room_1 s m #[Value.ref b] below meth c H [] (225 + 6 * k) (978433 + 1202 * k) (lw_Z below #[Value.ref b] s) (F0 m 23 ls []) := by
  obtain ⟨hx, hb, hml, hown, hT, hK, hZ, hD, hN, hX, hbl, hlf, hL⟩ := id C
  intro n
  induction n with
  | zero => intro k ls H MC f σ α ν χ h1 h2 h3 h4 h5 h6 h7; omega
  | succ n ih =>
    intro k ls H MC f σ α ν χ hkn hl hLI hCL hn0 hn1 hkL
    have kk : ∀ (ls' : Array Slot) (H' : Heap) (MC' : MW) (f' : Nat → Int64) (σ' : SG) (α' : AL3) (ν' : Nat → Nat) (χ' : SG), 5 * k + 5 ≤ L → lv_has ls' 7 [(4, .int (nI (5 * k))), (3, .ref o), (2, .ref t), (1, .ref a0), (0, .ref b)] → LI g s t o σ' MC' f' H' → CL g α' ν' χ' MC' de σ' a0 → ν' 0 ≤ ν 0 + 1 → ν' 1 ≤ ν 1 + 1 → W p l e room_1 s m #[Value.ref b] below meth c H' [] (225 + 6 * k + 6) (978433 + 1202 * k + 1202) (lw_Z below #[Value.ref b] s) (F0 m 1221 ls' []) := by
      intro ls' H' MC' f' σ' α' ν' χ' h5 hl' hLI' hCL' hm0 hm1
      refine lv_iinc (v := nI (5 * (k + 1))) (lv' := [(4, .int (nI (5 * (k + 1)))), (3, .ref o), (2, .ref t), (1, .ref a0), (0, .ref b)]) hx hb d_law_1221 hl' (k := 0) rfl (nI_add (5 * k) 5) (by decide) rfl (fun ls hl => ?_)
      refine lv_goto (tgt := 23) hx hb d_law_1224 (by decide) ?_
      refine W.more (cells' := 225 + 6 * (k + 1)) (slots' := 978433 + 1202 * (k + 1)) (by omega) (by omega) ?_
      exact ih (k + 1) ls H' MC' f' σ' α' ν' χ' (by omega) hl hLI' hCL' (by omega) (by omega) (by omega)
    refine lv_iload hx hb d_law_23 (lv_at hl 0 rfl) ?_
    refine lv_aload_n hx hb d_law_25 rfl (lv_at hl 4 rfl) ?_
    refine va_slen (A := fun q => s.heap.size ≤ q) hx hb hX hbl (Nat.not_le.mpr hbl) hLI.2.2.2.2.2 d_law_26 ?_
    refine lv_iconst (v := 5) hx hb d_law_27 (by decide) ?_
    refine lv_isub hx hb d_law_28 ?_
    refine lv_icmp_gt (tgt := 1227) hx hb d_law_29 (by decide) (fun c0 => ?_) (fun c0 => ?_)
    · refine lv_iconst (v := 1) hx hb d_law_1227 (by decide) ?_
      refine W.more (cells' := 601024) (slots' := 7293033) (by omega) (by omega) ?_
      exact lw_ret hx hb hr hlocks d_law_1228
    · have h5 := len5 hL hkL c0
      refine lv_aload_n hx hb d_law_32 rfl (lv_at hl 4 rfl) ?_
      refine lv_iload hx hb d_law_33 (lv_at hl 0 rfl) ?_
      refine l_sld C hLI (j := 5 * k) rfl (by omega) d_law_35 ?_
      refine lv_bipush (v := 31) hx hb d_law_36 (by decide) ?_
      refine lv_iand hx hb d_law_38 ?_
      obtain ⟨q, hq, eq⟩ := pk_andE (xs (5 * k)) (m := 31) 5 (by decide)
      rw [eq]
      have hq32 : q < 32 := hq
      rcases (show q = 0 ∨ q = 1 ∨ q = 2 ∨ q = 3 ∨ q = 4 ∨ q = 5 ∨ q = 6 ∨ q = 7 ∨ q = 8 ∨ q = 9 ∨ q = 10 ∨ q = 11 ∨ q = 12 ∨ q = 13 ∨ q = 14 ∨ q = 15 ∨ q = 16 ∨ q = 17 ∨ q = 18 ∨ 19 ≤ q by omega) with rfl | rfl | rfl | rfl | rfl | rfl | rfl | rfl | rfl | rfl | rfl | rfl | rfl | rfl | rfl | rfl | rfl | rfl | rfl | hq19
      · refine lv_tableIn (tgt := 128) hx hb d_law_39 (by decide) (by decide) rfl (by decide) ?_
        exact turn_issue C hl hLI hCL (by omega) (by omega) (by omega) (by omega) (by omega) (fun a1 a2 a3 a4 a5 a6 a7 a8 => kk a1 a2 a3 a4 a5 a6 a7 a8 h5)
      · refine lv_tableIn (tgt := 196) hx hb d_law_39 (by decide) (by decide) rfl (by decide) ?_
        exact turn_cards C hl hLI hCL (by omega) (by omega) (by omega) (by omega) (by omega) (fun a1 a2 a3 a4 a5 a6 a7 a8 => kk a1 a2 a3 a4 a5 a6 a7 a8 h5)
      · refine lv_tableIn (tgt := 209) hx hb d_law_39 (by decide) (by decide) rfl (by decide) ?_
        exact turn_revoke C hl hLI hCL (by omega) (by omega) (by omega) (by omega) (by omega) (fun a1 a2 a3 a4 a5 a6 a7 a8 => kk a1 a2 a3 a4 a5 a6 a7 a8 h5)
      · refine lv_tableIn (tgt := 265) hx hb d_law_39 (by decide) (by decide) rfl (by decide) ?_
        exact turn_entries C hl hLI hCL (by omega) (by omega) (by omega) (by omega) (by omega) (fun a1 a2 a3 a4 a5 a6 a7 a8 => kk a1 a2 a3 a4 a5 a6 a7 a8 h5)
      · refine lv_tableIn (tgt := 278) hx hb d_law_39 (by decide) (by decide) rfl (by decide) ?_
        exact turn_gate C hl hLI hCL (by omega) (by omega) (by omega) (by omega) (by omega) (fun a1 a2 a3 a4 a5 a6 a7 a8 => kk a1 a2 a3 a4 a5 a6 a7 a8 h5)
      · refine lv_tableIn (tgt := 314) hx hb d_law_39 (by decide) (by decide) rfl (by decide) ?_
        exact turn_zoneOf C hl hLI hCL (by omega) (by omega) (by omega) (by omega) (by omega) (fun a1 a2 a3 a4 a5 a6 a7 a8 => kk a1 a2 a3 a4 a5 a6 a7 a8 h5)
      · refine lv_tableIn (tgt := 362) hx hb d_law_39 (by decide) (by decide) rfl (by decide) ?_
        exact turn_show C hl hLI hCL (by omega) (by omega) (by omega) (by omega) (by omega) (fun a1 a2 a3 a4 a5 a6 a7 a8 => kk a1 a2 a3 a4 a5 a6 a7 a8 h5)
      · refine lv_tableIn (tgt := 442) hx hb d_law_39 (by decide) (by decide) rfl (by decide) ?_
        exact turn_tear C hl hLI hCL (by omega) (by omega) (by omega) (by omega) (by omega) (fun a1 a2 a3 a4 a5 a6 a7 a8 => kk a1 a2 a3 a4 a5 a6 a7 a8 h5)
      · refine lv_tableIn (tgt := 490) hx hb d_law_39 (by decide) (by decide) rfl (by decide) ?_
        exact turn_written C hl hLI hCL (by omega) (by omega) (by omega) (by omega) (by omega) (fun a1 a2 a3 a4 a5 a6 a7 a8 => kk a1 a2 a3 a4 a5 a6 a7 a8 h5)
      · refine lv_tableIn (tgt := 546) hx hb d_law_39 (by decide) (by decide) rfl (by decide) ?_
        exact turn_word C hl hLI hCL (by omega) (by omega) (by omega) (by omega) (by omega) (fun a1 a2 a3 a4 a5 a6 a7 a8 => kk a1 a2 a3 a4 a5 a6 a7 a8 h5)
      · refine lv_tableIn (tgt := 626) hx hb d_law_39 (by decide) (by decide) rfl (by decide) ?_
        exact turn_carries C hl hLI hCL (by omega) (by omega) (by omega) (by omega) (by omega) (fun a1 a2 a3 a4 a5 a6 a7 a8 => kk a1 a2 a3 a4 a5 a6 a7 a8 h5)
      · refine lv_tableIn (tgt := 694) hx hb d_law_39 (by decide) (by decide) rfl (by decide) ?_
        exact turn_memory C hl hLI hCL (by omega) (by omega) (by omega) (by omega) (by omega) (fun a1 a2 a3 a4 a5 a6 a7 a8 => kk a1 a2 a3 a4 a5 a6 a7 a8 h5)
      · refine lv_tableIn (tgt := 762) hx hb d_law_39 (by decide) (by decide) rfl (by decide) ?_
        exact turn_about C hl hLI hCL (by omega) (by omega) (by omega) (by omega) (by omega) (fun a1 a2 a3 a4 a5 a6 a7 a8 => kk a1 a2 a3 a4 a5 a6 a7 a8 h5)
      · refine lv_tableIn (tgt := 830) hx hb d_law_39 (by decide) (by decide) rfl (by decide) ?_
        exact turn_run C hl hLI hCL (by omega) (by omega) (by omega) (by omega) (by omega) (fun a1 a2 a3 a4 a5 a6 a7 a8 => kk a1 a2 a3 a4 a5 a6 a7 a8 h5)
      · refine lv_tableIn (tgt := 926) hx hb d_law_39 (by decide) (by decide) rfl (by decide) ?_
        exact turn_refuses C hl hLI hCL (by omega) (by omega) (by omega) (by omega) (by omega) (fun a1 a2 a3 a4 a5 a6 a7 a8 => kk a1 a2 a3 a4 a5 a6 a7 a8 h5)
      · refine lv_tableIn (tgt := 1001) hx hb d_law_39 (by decide) (by decide) rfl (by decide) ?_
        exact turn_reach C hl hLI hCL (by omega) (by omega) (by omega) (by omega) (by omega) (fun a1 a2 a3 a4 a5 a6 a7 a8 => kk a1 a2 a3 a4 a5 a6 a7 a8 h5)
      · refine lv_tableIn (tgt := 1057) hx hb d_law_39 (by decide) (by decide) rfl (by decide) ?_
        exact turn_loseBattery C hl hLI hCL (by omega) (by omega) (by omega) (by omega) (by omega) (fun a1 a2 a3 a4 a5 a6 a7 a8 => kk a1 a2 a3 a4 a5 a6 a7 a8 h5)
      · refine lv_tableIn (tgt := 1093) hx hb d_law_39 (by decide) (by decide) rfl (by decide) ?_
        exact turn_visit C hl hLI hCL (by omega) (by omega) (by omega) (by omega) (by omega) (fun a1 a2 a3 a4 a5 a6 a7 a8 => kk a1 a2 a3 a4 a5 a6 a7 a8 h5)
      · refine lv_tableIn (tgt := 1165) hx hb d_law_39 (by decide) (by decide) rfl (by decide) ?_
        exact turn_spread C hl hLI hCL (by omega) (by omega) (by omega) (by omega) (by omega) (fun a1 a2 a3 a4 a5 a6 a7 a8 => kk a1 a2 a3 a4 a5 a6 a7 a8 h5)
      · refine lv_tableOut (tgt := 1221) hx hb d_law_39 (Or.inr (by rw [nI_toInt (by omega)]; omega)) (by decide) ?_
        refine W.more (cells' := 225 + 6 * k + 6) (slots' := 978433 + 1202 * k + 1202) (by omega) (by omega) ?_
        exact kk ls H MC f σ α ν χ h5 hl hLI hCL (by omega) (by omega)
def jn (M N : MW) : MW := fun q => match M q with
  | some e => some e
  | none => N q
theorem jn_l {M N : MW} {q : Nat} {e : va_E} (h : M q = some e) : jn M N q = some e := by
  unfold jn
  rw [h]
theorem jn_r {M N : MW} {q : Nat} (h : M q = none) : jn M N q = N q := by
  unfold jn
  rw [h]
theorem jn_d {M N : MW} {q : Nat} (h : jn M N q ≠ none) : M q ≠ none ∨ N q ≠ none := by
  by_cases z : M q = none
  · rw [jn_r z] at h
    exact Or.inr h
  · exact Or.inl z
set_option maxHeartbeats 4000000 in
set_option maxRecDepth 100000 in
theorem law_start (l : Launch) (hlf : l.stackTraces = false) (hL : L ≤ 2560) (C0 : lw_At p s m meth c b L xs) : W p l e room_1 s m #[Value.ref b] below meth c s.heap [] 0 0 (lw_Z below #[Value.ref b] s) (entryFrame m ([Value.ref b] : List Value).toArray 7) := by
  obtain ⟨hx, hb, hr, hml, hown, hts, hX, hbl, hlocks, hgv⟩ := C0
  obtain ⟨g, de, mir, hK, hZ, hD, hN⟩ := kk_start hts hgv
  have hT : ∀ w ∈ TT, w.before #[Value.ref b] s = true := fun w h => hts w (tt_lw h)
  have hown : s.vm.findClass "LockHouseLaw" = some m.cls := hown
  have C : LC p l s m c g de mir b L xs := ⟨hx, hb, hml, hown, hT, hK, hZ, hD, hN, hX, hbl, hlf, hL⟩
  have hl := lv_entry [Value.ref b] (n := 7) (Nat.le_of_ble_eq_true rfl)
  rw [lg_entry_eq]
  generalize (lg_sl [Value.ref b] ++ List.replicate (7 - (lg_sl [Value.ref b]).length) Slot.unset).toArray = ls at hl ⊢
  have hl : lv_has ls 7 [(0, .ref b)] := hl
  have hH : HS g (fun q => s.heap.size ≤ q) s.heap (fun _ => none) s.heap [] := ⟨fun q e h => (by cases h), fun q h => absurd rfl h, fun q h => h, va_S.rf⟩
  -- the house
  refine m_new (ci := 6) (fs := [.null, .null, .null, .null, .null, .null]) hx hb hT in_H ty_H tk_H hown (hT _ w23) (hT _ w24) (hT _ w1) hK hH rfl (fun j hj => by rcases j with _ | _ | _ | _ | _ | _ | j <;> first | rfl | (exact absurd hj (by omega))) (by decide) (Nat.le_of_ble_eq_true rfl) d_law_0 (fun H1 hH1 z1 => ?_)
  refine lv_dup hx hb d_law_3 rfl ?_
  refine m_run (d_I (As := []) (rest := [.ref s.heap.size]) hx hb hml hl.1 hown hT hK hH1.1 (dd_of hH1 hD) (c_H_init l g _ s.heap.size de mir H1.size mu_s) kw_H_init w25 w26 rfl w1 hd_H_init rfl rfl ⟨by decide, by decide⟩ rfl rfl (Nat.le_of_ble_eq_true rfl) d_law_4 ⟨by decide, Nat.le_of_ble_eq_true rfl⟩) hH1 (fun rv MC H2 locs2 hp hH2 z2 hdm2 hfr2 => ?_)
  obtain ⟨α, hW, ha, hLD, -⟩ := hp
  refine W.forgetL (fun y hy => hH2.S.2.2 y hy) ?_
  have hH2 : HS g (fun q => s.heap.size ≤ q) s.heap MC H2 [] := ⟨hH2.1, hH2.2.1, hH2.2.2.1, hH2.S.1, hH2.S.2.1, fun z h => by cases h⟩
  refine W.eq (g2 := F0 m 7 ls [.ref s.heap.size]) rfl ?_
  refine lv_astore_n (lv' := [(1, .ref s.heap.size), (0, .ref b)]) hx hb d_law_7 rfl hl (by decide) rfl (fun ls hl => ?_)
  -- the reference
  refine m_new (ci := 7) (fs := [.int 0, .int 0, .null, .null, .null, .null, .null, .null, .null, .int 0, .null, .null, .null, .null, .null, .null, .null, .null]) hx hb hT in_T ty_T tk_T hown (hT _ w664) (hT _ w665) (hT _ w8) hK hH2 rfl (fun j hj => by rcases j with _ | _ | _ | _ | _ | _ | _ | _ | _ | _ | _ | _ | _ | _ | _ | _ | _ | _ | j <;> first | rfl | (exact absurd hj (by omega))) (by decide) (Nat.le_of_ble_eq_true rfl) d_law_8 (fun H3 hH3 z3 => ?_)
  obtain ⟨t, ht⟩ : ∃ t, t = H2.size := ⟨_, rfl⟩
  rw [← ht] at hH3 z3 ⊢
  refine lv_dup hx hb d_law_11 rfl ?_
  have hst : s.heap.size ≤ t := by rw [ht]; exact hH2.S.1
  have hHt : HS g (fun q => s.heap.size ≤ q) s.heap (mu (fun _ => none) t (.inr (7, [.int 0, .int 0, .null, .null, .null, .null, .null, .null, .null, .int 0, .null, .null, .null, .null, .null, .null, .null, .null]))) H3 [] := by
    refine ⟨fun q x hq => ?_, fun q hq => ?_, hH3.2.2⟩
    · by_cases h : q = t
      · subst h
        rw [mu_s] at hq
        cases hq
        exact hH3.1 q _ mu_s
      · rw [mu_n h] at hq
        cases hq
    · rcases mu_dom hq with rfl | z
      · exact hst
      · exact absurd rfl z
  refine m_run (c_I (As := []) (rest := [.ref t]) hx hb hml hl.1 hown hT hK hHt.1 (c_T_init l g _ t H3.size mu_s (by omega)) kw_T_init w666 w667 rfl w8 hd_T_init rfl rfl ⟨by decide, by decide⟩ rfl rfl (Nat.le_of_ble_eq_true rfl) d_law_12 ⟨by decide, Nat.le_of_ble_eq_true rfl⟩) hHt (fun rv MT H4 locs4 hp hH4 z4 hdm4 hfr4 => ?_)
  have hp : ∀ q e, tw g t (fun _ _ => 0) q = some e → MT q = some e := hp
  refine W.forgetL (fun y hy => hH4.S.2.2 y hy) ?_
  refine W.eq (g2 := F0 m 15 ls [.ref t]) rfl ?_
  refine lv_astore_n (lv' := [(2, .ref t), (1, .ref s.heap.size), (0, .ref b)]) hx hb d_law_15 rfl hl (by decide) rfl (fun ls hl => ?_)
  have hMCt : ∀ q, MC q ≠ none → s.heap.size ≤ q ∧ q < t := fun q hq => ⟨hH2.2.1 q hq, by rw [ht]; exact hH2.1.ltn hq⟩
  have pT : PM g (tw g t (fun _ _ => 0)) H4 := fun q x hq => hH4.1 q x (hp q x hq)
  have pC : PM g MC H4 := by
    have pC3 : PM g MC H3 := fun q x hq => hH3.1 q x (by rw [mu_n (by have := (hMCt q (some_ne hq)).2; omega)]; exact hq)
    exact pC3.kept (fun q hq => hfr4 q (by have := (hMCt q hq).2; omega) (by rw [mu_n (by have := (hMCt q hq).2; omega)]))
  have h15 : t + 15 < H4.size := pT.ltn (a := t + 15) (by
    unfold tw
    rw [if_neg (by omega), if_pos (by omega)]
    exact fun z => by cases z)
  have hJ : HS g (fun q => s.heap.size ≤ q) s.heap (jn MC (tw g t (fun _ _ => 0))) H4 [] := by
    refine ⟨fun q x hq => ?_, fun q hq => ?_, fun q h => h, hH4.S.1, hH4.S.2.1, fun z h => by cases h⟩
    · by_cases z : MC q = none
      · rw [jn_r z] at hq
        exact pT q x hq
      · obtain ⟨e9, he9⟩ := Option.ne_none_iff_exists'.mp z
        rw [jn_l he9] at hq
        exact pC q x (he9.trans hq)
    · rcases jn_d hq with z | z
      · exact (hMCt q z).1
      · exact Nat.le_trans hst (tw_d z).1
  -- the array of one long
  refine lv_iconst (v := 1) hx hb d_law_16 (by decide) ?_
  refine m_newa (atype := .long) (ty := .long) (a0 := (1, .inr (.inl (fun _ => 0)))) hx hb (hT _ w878) rfl hK hJ 3 rfl (fun h9 => h9) rfl (N' := 1) rfl (by decide) (by decide +kernel) (by decide) (Nat.le_of_ble_eq_true rfl) d_law_17 (fun H5 hH5 z5 => ?_)
  obtain ⟨o, ho⟩ : ∃ o, o = H4.size := ⟨_, rfl⟩
  rw [← ho] at hH5 z5 h15 ⊢
  refine lv_astore_n (lv' := [(3, .ref o), (2, .ref t), (1, .ref s.heap.size), (0, .ref b)]) hx hb d_law_19 rfl hl (by decide) rfl (fun ls hl => ?_)
  refine lv_iconst (v := 0) hx hb d_law_20 (by decide) ?_
  refine lv_istore (lv' := [(4, .int 0), (3, .ref o), (2, .ref t), (1, .ref s.heap.size), (0, .ref b)]) hx hb d_law_21 hl (by decide) rfl (fun ls hl => ?_)
  have hLI : LI g s t o (fun _ _ => 0) MC (fun _ => 0) H5 := by
    refine ⟨fun q x hq => hH5.1 q x ?_, fun q x hq => hH5.1 q x ?_, hH5.1 o _ mu_s, fun q hq => ?_, ⟨hst, by omega, Or.inr h15⟩, hH5.S.1, hH5.S.2.1, fun z h => by cases h⟩
    · have := (hMCt q (some_ne hq)).2
      rw [mu_n (by omega)]
      exact jn_l hq
    · have h1 := tw_d (some_ne hq)
      rw [mu_n (by omega), jn_r (Classical.byContradiction fun z => by have := (hMCt q z).2; omega)]
      exact hq
    · have := hMCt q hq
      exact ⟨this.1, by omega, Or.inl this.2⟩
  exact law_loop C hr hlocks 513 0 ls H5 MC _ _ α hiN hiX (by omega) hl hLI ⟨hW, (by unfold nOK hiN; decide), hLD, RI_init, ha⟩ (Nat.le_refl _) (Nat.le_refl _) (by omega)
end LAWL
