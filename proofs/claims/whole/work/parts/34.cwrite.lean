/-! The class: methods that write. -/
def pt1 (χ : SG) (c b k : Nat) (v : Int32) : SG := su χ (rW c b) k v.toInt16.toInt32
def ptS (χ : SG) (c b k : Nat) (v : Int32) : SG := if χ 16 c ≤ 0 then χ else su (su (pt1 χ c b k v) 16 c (χ 16 c - 1)) 4 c (χ 4 c + 1)
def bgS (ν : Nat → Nat) (χ : SG) (d e : Nat) : SG := if 1 ≤ e ∧ e ≤ ν 1 then su χ (rH e) d 1 else χ
set_option maxHeartbeats 4000000 in
set_option maxRecDepth 100000 in
theorem c_Im_put (l : Launch) (g : GG) (M : MW) (α : AL3) (ν : Nat → Nat) (χ : SG) (c b k : Nat) (v : Int32) (sz : Nat) (hW : HW g α ν χ M) (hc : c < ν 0) (hb2 : b < 2) (hk : k < 44) : Met l y_Im_put (k_Im_put :: TT) { frames := 0, cells := 0, slots := 0, locals := 0 } (Pm g [.ref (α 2 c b), .int (nI k), .int v] sz (M)) (Qm g M (fun _ : Unit => none) (fun _ M1 => HW g α ν (pt1 χ c b k v) M1)) 0 0 (mA M sz) := by
  refine met_of (by decide) (Nat.le_of_ble_eq_true rfl) ?_
  intro pr en s mi below meth co hx hb hr hml hown hlocks hnm hT hsz hP hK ls hl
  have hl : lv_has ls 3 [(0, .ref (α 2 c b)), (1, .int (nI k)), (2, .int v)] := hl
  have hH := HS.start hP
  refine lv_iload_n hx hb d_Im_put_0 rfl (lv_at hl 1 rfl) ?_
  refine lv_if_lt (tgt := 21) hx hb d_Im_put_1 (by decide) (fun hq9 => absurd hq9 (nI_pos (by omega))) (fun _ => ?_)
  refine lv_iload_n hx hb d_Im_put_4 rfl (lv_at hl 1 rfl) ?_
  refine lv_aload_n hx hb d_Im_put_5 rfl (lv_at hl 0 rfl) ?_
  refine m_get (ci := 5) (v := .ref (α 3 c b)) hx hb hT in_Im hown hK hH.1 (hw_im hW hc hb2) rfl 0 (by decide) (hT _ w224) (fun _ h9 => h9) rfl d_Im_put_6 ?_
  refine m_alen (v := nI 44) hx hb hK hH.1 1 (hw_wd hW hc hb2) rfl rfl d_Im_put_9 ?_
  refine lv_icmp_ge (tgt := 21) hx hb d_Im_put_10 (by decide) (fun hq9 => absurd hq9 (nI_ge hk (by decide))) (fun _ => ?_)
  refine lv_aload_n hx hb d_Im_put_13 rfl (lv_at hl 0 rfl) ?_
  refine m_get (ci := 5) (v := .ref (α 3 c b)) hx hb hT in_Im hown hK hH.1 (hw_im hW hc hb2) rfl 0 (by decide) (hT _ w224) (fun _ h9 => h9) rfl d_Im_put_14 ?_
  refine lv_iload_n hx hb d_Im_put_17 rfl (lv_at hl 1 rfl) ?_
  refine lv_iload_n hx hb d_Im_put_18 rfl (lv_at hl 2 rfl) ?_
  refine lv_i2s (v := v.toInt16.toInt32) hx hb d_Im_put_19 rfl ?_
  refine m_sast hx hb hK hH 1 (hw_wd hW hc hb2) rfl (j := k) (rfl) (hk) (by decide) d_Im_put_20 (fun H locs hH hzz => ?_)
  rw [pk_vs] at hH
  replace hW := hws_wd hW hc hb2 (k := k) (v := (v.toInt16.toInt32))
  exact m_vret hx hb hr hlocks hsz hH (hW) d_Im_put_21
set_option maxHeartbeats 4000000 in
set_option maxRecDepth 100000 in
theorem c_Card_putNext (l : Launch) (g : GG) (M : MW) (α : AL3) (ν : Nat → Nat) (χ : SG) (c b k : Nat) (v : Int32) (sz : Nat) (hW : HW g α ν χ M) (hc : c < ν 0) (hb2 : b < 2) (hk : k < 44) : Met l y_Card_putNext (k_Card_putNext :: TT) { frames := 1, cells := 0, slots := 0, locals := 22 } (Pm g [.ref (α 1 c 0), .ref (α 2 c b), .int (nI k), .int v] sz (M)) (Qm g M (fun _ : Unit => none) (fun _ M1 => HW g α ν (ptS χ c b k v) M1)) 0 0 (mA M sz) := by
  refine met_of (by decide) (Nat.le_of_ble_eq_true rfl) ?_
  intro pr en s mi below meth co hx hb hr hml hown hlocks hnm hT hsz hP hK ls hl
  have hl : lv_has ls 4 [(0, .ref (α 1 c 0)), (1, .ref (α 2 c b)), (2, .int (nI k)), (3, .int v)] := hl
  have hH := HS.start hP
  refine lv_aload_n hx hb d_Card_putNext_0 rfl (lv_at hl 0 rfl) ?_
  refine m_get (ci := 1) (v := .int ((χ) 16 c)) hx hb hT in_Card hown hK hH.1 (hw_card hW hc) rfl 6 (by decide) (hT _ w239) (fun _ h9 => h9) rfl d_Card_putNext_1 ?_
  refine lv_if_le (tgt := 33) hx hb d_Card_putNext_4 (by decide) (fun c1 => ?_) (fun c1 => ?_)
  · skip
    exact m_vret hx hb hr hlocks hsz hH (by first | (show HW g α ν (ptS χ c b k v) _; unfold ptS; rw [if_pos c1]; exact hW) | (show HW g α ν (ptS χ c b k v) _; unfold ptS; rw [if_neg c1]; exact hW)) d_Card_putNext_33
  · skip
    refine lv_aload_n hx hb d_Card_putNext_7 rfl (lv_at hl 1 rfl) ?_
    refine lv_iload_n hx hb d_Card_putNext_8 rfl (lv_at hl 2 rfl) ?_
    refine lv_iload_n hx hb d_Card_putNext_9 rfl (lv_at hl 3 rfl) ?_
    refine m_run (c_V (As := [.int (nI k), .int v]) (rest := []) hx hb hml hl.1 hown hT hK hH.1 (c_Im_put l g M α ν χ c b k v s.heap.size hW hc hb2 hk) kw_Im_put w428 w429 w430 w14 hd_Im_put rfl rfl ⟨by decide, by decide⟩ (hw_im hW hc hb2) rfl rfl rfl (Nat.le_of_ble_eq_true rfl) d_Card_putNext_10 ⟨by decide, by decide⟩) hH (fun rv M1 H locs hpost hH hzz hdm hfr => ?_)
    replace hW : HW g α ν (pt1 χ c b k v) M1 := hpost
    refine W.eq (g2 := F0 mi 13 ls []) rfl ?_
    refine lv_aload_n hx hb d_Card_putNext_13 rfl (lv_at hl 0 rfl) ?_
    refine lv_dup hx hb d_Card_putNext_14 rfl ?_
    refine m_get (ci := 1) (v := .int ((pt1 χ c b k v) 16 c)) hx hb hT in_Card hown hK hH.1 (hw_card hW hc) rfl 6 (by decide) (hT _ w239) (fun _ h9 => h9) rfl d_Card_putNext_15 ?_
    rw [show ((pt1 χ c b k v) 16 c) = χ 16 c from su_k (by unfold rW; omega)]
    refine lv_iconst (v := 1) hx hb d_Card_putNext_18 (by decide) ?_
    refine lv_isub hx hb d_Card_putNext_19 ?_
    refine m_put (ci := 1) (v := .int ((χ 16 c) - 1)) (ty := .int) hx hb hT in_Card ty_Card tk_Card nm_Card hown hK hH (hw_card hW hc) rfl 6 (by decide) (hT _ w239) (fun _ h9 => h9) rfl (by decide +kernel) rfl rfl (Nat.le_of_ble_eq_true rfl) d_Card_putNext_20 (e1 := .inr (1, [.int ((pt1 χ c b k v) 1 c), .int ((pt1 χ c b k v) 2 c), .ref (α 2 c 0), .ref (α 2 c 1), .int ((pt1 χ c b k v) 6 c), .int ((pt1 χ c b k v) 3 c), .int ((χ 16 c) - 1), .int ((pt1 χ c b k v) 4 c)])) rfl (fun H locs hH hzz => ?_)
    replace hW := hws_c16 hW hc (v := ((χ 16 c) - 1))
    refine lv_aload_n hx hb d_Card_putNext_23 rfl (lv_at hl 0 rfl) ?_
    refine lv_dup hx hb d_Card_putNext_24 rfl ?_
    refine m_get (ci := 1) (v := .int ((su (pt1 χ c b k v) 16 c ((χ 16 c) - 1)) 4 c)) hx hb hT in_Card hown hK hH.1 (hw_card hW hc) rfl 7 (by decide) (hT _ w240) (fun _ h9 => h9) rfl d_Card_putNext_25 ?_
    rw [show ((su (pt1 χ c b k v) 16 c ((χ 16 c) - 1)) 4 c) = χ 4 c from (su_k (by decide)).trans (su_k (by unfold rW; omega))]
    refine lv_iconst (v := 1) hx hb d_Card_putNext_28 (by decide) ?_
    refine lv_iadd hx hb d_Card_putNext_29 ?_
    refine m_put (ci := 1) (v := .int ((χ 4 c) + 1)) (ty := .int) hx hb hT in_Card ty_Card tk_Card nm_Card hown hK hH (hw_card hW hc) rfl 7 (by decide) (hT _ w240) (fun _ h9 => h9) rfl (by decide +kernel) rfl rfl (Nat.le_of_ble_eq_true rfl) d_Card_putNext_30 (e1 := .inr (1, [.int ((su (pt1 χ c b k v) 16 c ((χ 16 c) - 1)) 1 c), .int ((su (pt1 χ c b k v) 16 c ((χ 16 c) - 1)) 2 c), .ref (α 2 c 0), .ref (α 2 c 1), .int ((su (pt1 χ c b k v) 16 c ((χ 16 c) - 1)) 6 c), .int ((su (pt1 χ c b k v) 16 c ((χ 16 c) - 1)) 3 c), .int ((su (pt1 χ c b k v) 16 c ((χ 16 c) - 1)) 16 c), .int ((χ 4 c) + 1)])) rfl (fun H locs hH hzz => ?_)
    replace hW := hws_c4 hW hc (v := ((χ 4 c) + 1))
    exact m_vret hx hb hr hlocks hsz hH (by first | (show HW g α ν (ptS χ c b k v) _; unfold ptS; rw [if_pos c1]; exact hW) | (show HW g α ν (ptS χ c b k v) _; unfold ptS; rw [if_neg c1]; exact hW)) d_Card_putNext_33
set_option maxHeartbeats 4000000 in
set_option maxRecDepth 100000 in
theorem c_Entry_bringTo (l : Launch) (g : GG) (M : MW) (α : AL3) (ν : Nat → Nat) (χ : SG) (e d : Nat) (sz : Nat) (hW : HW g α ν χ M) (h1 : 1 ≤ e) (he : e ≤ ν 1) (hd : d < 200) : Met l y_Entry_bringTo (k_Entry_bringTo :: TT) { frames := 0, cells := 0, slots := 0, locals := 0 } (Pm g [.ref (α 4 e 0), .int (nI d)] sz (M)) (Qm g M (fun _ : Unit => none) (fun _ M1 => HW g α ν (su χ (rH e) d 1) M1)) 0 0 (mA M sz) := by
  refine met_of (by decide) (Nat.le_of_ble_eq_true rfl) ?_
  intro pr en s mi below meth co hx hb hr hml hown hlocks hnm hT hsz hP hK ls hl
  have hl : lv_has ls 2 [(0, .ref (α 4 e 0)), (1, .int (nI d))] := hl
  have hH := HS.start hP
  refine lv_iload_n hx hb d_Entry_bringTo_0 rfl (lv_at hl 1 rfl) ?_
  refine lv_if_lt (tgt := 20) hx hb d_Entry_bringTo_1 (by decide) (fun hq9 => absurd hq9 (nI_pos (by omega))) (fun _ => ?_)
  refine lv_iload_n hx hb d_Entry_bringTo_4 rfl (lv_at hl 1 rfl) ?_
  refine lv_aload_n hx hb d_Entry_bringTo_5 rfl (lv_at hl 0 rfl) ?_
  refine m_get (ci := 3) (v := .ref (α 5 e 0)) hx hb hT in_Entry hown hK hH.1 (hw_en hW h1 he) rfl 1 (by decide) (hT _ w376) (fun _ h9 => h9) rfl d_Entry_bringTo_6 ?_
  refine m_alen (v := nI 200) hx hb hK hH.1 2 (hw_eb hW h1 he) rfl rfl d_Entry_bringTo_9 ?_
  refine lv_icmp_ge (tgt := 20) hx hb d_Entry_bringTo_10 (by decide) (fun hq9 => absurd hq9 (nI_ge hd (by decide))) (fun _ => ?_)
  refine lv_aload_n hx hb d_Entry_bringTo_13 rfl (lv_at hl 0 rfl) ?_
  refine m_get (ci := 3) (v := .ref (α 5 e 0)) hx hb hT in_Entry hown hK hH.1 (hw_en hW h1 he) rfl 1 (by decide) (hT _ w376) (fun _ h9 => h9) rfl d_Entry_bringTo_14 ?_
  refine lv_iload_n hx hb d_Entry_bringTo_17 rfl (lv_at hl 1 rfl) ?_
  refine lv_iconst (v := 1) hx hb d_Entry_bringTo_18 (by decide) ?_
  refine m_zast hx hb hK hH 2 (hw_eb hW h1 he) rfl (j := d) (rfl) (hd) (by decide) d_Entry_bringTo_19 (fun H locs hH hzz => ?_)
  rw [show vp_nar .boolean 1 = 1 from rfl] at hH
  replace hW := hws_eb hW h1 he (k := d) (v := 1)
  exact m_vret hx hb hr hlocks hsz hH (hW) d_Entry_bringTo_20
set_option maxHeartbeats 4000000 in
set_option maxRecDepth 100000 in
theorem c_EL_bringTo (l : Launch) (g : GG) (M : MW) (α : AL3) (ν : Nat → Nat) (χ : SG) (e d : Nat) (sz : Nat) (hW : HW g α ν χ M) (hN : nOK ν) (he9 : e < 2 ^ 30) (hd : d < 200) : Met l y_EL_bringTo (k_EL_bringTo :: TT) { frames := 3, cells := 0, slots := 0, locals := 64 } (Pm g [.ref (α 0 3 0), .int (nI e), .int (nI d)] sz (M)) (Qm g M (fun _ : Unit => none) (fun _ M1 => HW g α ν (bgS ν χ d e) M1)) 0 0 (mA M sz) := by
  refine met_of (by decide) (Nat.le_of_ble_eq_true rfl) ?_
  intro pr en s mi below meth co hx hb hr hml hown hlocks hnm hT hsz hP hK ls hl
  have hl : lv_has ls 3 [(0, .ref (α 0 3 0)), (1, .int (nI e)), (2, .int (nI d))] := hl
  have hH := HS.start hP
  have hN6 : ν 1 ≤ 600 := hN.2.2.2.2.2
  have hN3 : ν 1 ≤ ν 3 := hN.2.1
  have hN4 : ν 3 < 2 ^ 20 := hN.2.2.2.1
  refine lv_aload_n hx hb d_EL_bringTo_0 rfl (lv_at hl 0 rfl) ?_
  refine lv_iload_n hx hb d_EL_bringTo_1 rfl (lv_at hl 1 rfl) ?_
  refine rd_run (c_V (As := [.int (nI e)]) (rest := []) hx hb hml hl.1 hown hT hK hH.1 (c_EL_holds l g M α ν χ e s.heap.size hW hN (by omega)) kw_EL_holds w436 w438 selp_EL_holds w5 hd_EL_holds rfl rfl ⟨by decide, by decide⟩ (hw_03 hW) rfl rfl rfl (Nat.le_of_ble_eq_true rfl) d_EL_bringTo_2 ⟨by decide, by decide⟩) rfl ?_
  refine lv_if_eq (tgt := 25) hx hb d_EL_bringTo_5 (by decide) (fun c1 => ?_) (fun c1 => ?_)
  · skip
    have c1 := bI_z.mp c1
    exact m_vret hx hb hr hlocks hsz hH (by first | (show HW g α ν (bgS ν χ d e) _; unfold bgS; rw [if_neg c1]; exact hW) | (show HW g α ν (bgS ν χ d e) _; unfold bgS; rw [if_pos c1]; exact hW)) d_EL_bringTo_25
  · skip
    have c1 := bI_n.mp c1
    have h1 := c1.1
    have he := c1.2
    refine lv_aload_n hx hb d_EL_bringTo_8 rfl (lv_at hl 0 rfl) ?_
    refine m_get (ci := 4) (v := .ref (α 0 4 0)) hx hb hT in_EL hown hK hH.1 (hw_03 hW) rfl 0 (by decide) (hT _ w65) (fun _ h9 => h9) rfl d_EL_bringTo_9 ?_
    refine lv_iload_n hx hb d_EL_bringTo_12 rfl (lv_at hl 1 rfl) ?_
    refine lv_iconst (v := 1) hx hb d_EL_bringTo_13 (by decide) ?_
    refine lv_isub hx hb d_EL_bringTo_14 ?_
    rw [show ((nI e) - 1) = nI (e - 1) from pk_sub (a := e) (b := 1) h1]
    refine rd_run (c_V (As := [.int (nI (e - 1))]) (rest := []) hx hb hml hl.1 hown hT hK hH.1 (c_AL_get l g M (α 0 4 0) (α 0 5 0) (ν 1) (ν 3) (e - 1) (α 4 e 0) (χ 0 4) (fun q => if q < ν 1 then some (α 4 (q + 1) 0) else none) s.heap.size (hw_04 hW) (hw_05 hW (by omega)) (by omega) hN.2.1 (by omega) (by rw [if_pos (by omega), Nat.sub_add_cancel h1])) kw_AL_get w440 w350 w351 w4 hd_AL_get rfl rfl ⟨by decide, by decide⟩ (hw_04 hW) rfl rfl rfl (Nat.le_of_ble_eq_true rfl) d_EL_bringTo_15 ⟨by decide, by decide⟩) rfl ?_
    refine va_castY (C := "LockHouse$Entry") hx hb hown (hT _ w368) (hK.2.1 _ nw881) (hH.1.recv hK (hw_en hW h1 he) rfl) d_EL_bringTo_18 ?_
    refine lv_iload_n hx hb d_EL_bringTo_21 rfl (lv_at hl 2 rfl) ?_
    refine m_run (c_V (As := [.int (nI d)]) (rest := []) hx hb hml hl.1 hown hT hK hH.1 (c_Entry_bringTo l g M α ν χ e d s.heap.size hW h1 he hd) kw_Entry_bringTo w500 w501 w502 w21 hd_Entry_bringTo rfl rfl ⟨by decide, by decide⟩ (hw_en hW h1 he) rfl rfl rfl (Nat.le_of_ble_eq_true rfl) d_EL_bringTo_22 ⟨by decide, by decide⟩) hH (fun rv M1 H locs hpost hH hzz hdm hfr => ?_)
    replace hW : HW g α ν (su χ (rH e) d 1) M1 := hpost
    refine W.eq (g2 := F0 mi 25 ls []) rfl ?_
    exact m_vret hx hb hr hlocks hsz hH (by first | (show HW g α ν (bgS ν χ d e) _; unfold bgS; rw [if_neg c1]; exact hW) | (show HW g α ν (bgS ν χ d e) _; unfold bgS; rw [if_pos c1]; exact hW)) d_EL_bringTo_25
