/-! The class: a run is stored on a card. -/
theorem n1x (χ : SG) (c : Nat) : (1 : Int32) - nI (xcur χ c) = nI (1 - xcur χ c) := by
  rcases (show xcur χ c = 0 ∨ xcur χ c = 1 by have := xcur_lt χ c; omega) with h | h <;> rw [h] <;> rfl
def xhd (χ : SG) (c n : Nat) : Int32 := 256 * ((xsq χ c (xcur χ c) + 1) &&& 255) + nI n
def xkp (χ : SG) (c : Nat) : Int32 := if ¬ χ 3 c = -1 then χ 3 c else 44
def s0S (χ : SG) (c : Nat) : SG := su (su χ 16 c (xkp χ c)) 3 c (-1)
def s3S (χ : SG) (c a n : Nat) (v : Int32) : SG := ptS (ptS (ptS (s0S χ c) c (1 - xcur χ c) 0 (xhd χ c n)) c (1 - xcur χ c) 1 (nI a)) c (1 - xcur χ c) 2 v
def slS (ν : Nat → Nat) (χ τ : SG) (c a : Nat) : Nat → SG
  | 0 => τ
  | k + 1 => ptS (slS ν χ τ c a k) c (1 - xcur χ c) (3 + k) (xcd ν (slS ν χ τ c a k) (a + k))
def s5S (ν : Nat → Nat) (χ : SG) (c a n : Nat) (v : Int32) : SG := ptS (slS ν χ (s3S χ c a n v) c a n) c (1 - xcur χ c) 43 (xhd χ c n)
def stS (ν : Nat → Nat) (χ : SG) (c a n : Nat) (v : Int32) : SG := if xtl χ c (xcur χ c) (nI a) (nI n) v = 0 then s5S ν χ c a n v else χ
set_option maxHeartbeats 4000000 in
set_option maxRecDepth 100000 in
theorem c_Card_store (l : Launch) (g : GG) (M : MW) (α : AL3) (ν : Nat → Nat) (χ : SG) (c a n : Nat) (v : Int32) (sz : Nat) (hW : HW g α ν χ M) (hN : nOK ν) (hc : c < ν 0) (hn4 : n ≤ 40) (ha : n = 0 ∨ 1 ≤ a) (ha9 : a + n < 2 ^ 30) : Met l y_Card_store (k_Card_store :: TT) { frames := 4, cells := 0, slots := 0, locals := 85 } (Pm g [.ref (α 1 c 0), .int (nI a), .int (nI n), .int v, .ref (α 0 3 0)] sz (M)) (Qm g M (fun _ : Unit => none) (fun _ M1 => HW g α ν (stS ν χ c a n v) M1)) 0 0 (mA M sz) := by
  refine met_of (by decide) (Nat.le_of_ble_eq_true rfl) ?_
  intro pr en s mi below meth co hx hb hr hml hown hlocks hnm hT hsz hP hK ls hl
  have hl : lv_has ls 10 [(0, .ref (α 1 c 0)), (1, .int (nI a)), (2, .int (nI n)), (3, .int v), (4, .ref (α 0 3 0))] := hl
  have hH := HS.start hP
  have hbq : 1 - xcur χ c < 2 := by omega
  refine lv_aload_n hx hb d_Card_store_0 rfl (lv_at hl 0 rfl) ?_
  refine rd_run (c_V (As := []) (rest := []) hx hb hml hl.1 hown hT hK hH.1 (c_Card_currentIndex l g _ α ν χ c _ hW hc) kw_Card_currentIndex w396 w397 w398 w13 hd_Card_currentIndex rfl rfl ⟨by decide, by decide⟩ (hw_card hW hc) rfl rfl rfl (Nat.le_of_ble_eq_true rfl) d_Card_store_1 ⟨by decide, by decide⟩) rfl ?_
  refine lv_istore (lv' := [(5, .int (nI (xcur χ c))), (0, .ref (α 1 c 0)), (1, .int (nI a)), (2, .int (nI n)), (3, .int v), (4, .ref (α 0 3 0))]) hx hb d_Card_store_4 hl (by decide) rfl (fun ls hl => ?_)
  refine lv_aload_n hx hb d_Card_store_6 rfl (lv_at hl 1 rfl) ?_
  refine lv_iload hx hb d_Card_store_7 (lv_at hl 0 rfl) ?_
  refine rd_run (c_V (As := [.int (nI (xcur χ c))]) (rest := []) hx hb hml hl.1 hown hT hK hH.1 (c_Card_image l g _ α ν χ c (xcur χ c) _ hW hc (xcur_lt χ c)) kw_Card_image w412 w413 w414 w13 hd_Card_image rfl rfl ⟨by decide, by decide⟩ (hw_card hW hc) rfl rfl rfl (Nat.le_of_ble_eq_true rfl) d_Card_store_9 ⟨by decide, by decide⟩) rfl ?_
  refine lv_iload_n hx hb d_Card_store_12 rfl (lv_at hl 2 rfl) ?_
  refine lv_iload_n hx hb d_Card_store_13 rfl (lv_at hl 3 rfl) ?_
  refine lv_iload_n hx hb d_Card_store_14 rfl (lv_at hl 4 rfl) ?_
  refine rd_run (c_V (As := [.int (nI a), .int (nI n), .int v]) (rest := []) hx hb hml hl.1 hown hT hK hH.1 (c_Im_tells l g _ α ν χ c (xcur χ c) (nI a) (nI n) v _ hW hc (xcur_lt χ c)) kw_Im_tells w416 w417 w418 w14 hd_Im_tells rfl rfl ⟨by decide, by decide⟩ (hw_im hW hc (xcur_lt χ c)) rfl rfl rfl (Nat.le_of_ble_eq_true rfl) d_Card_store_15 ⟨by decide, by decide⟩) rfl ?_
  refine lv_if_eq (tgt := 22) hx hb d_Card_store_18 (by decide) (fun c1 => ?_) (fun c1 => ?_)
  · skip
    refine lv_aload_n hx hb d_Card_store_22 rfl (lv_at hl 1 rfl) ?_
    refine lv_iload hx hb d_Card_store_23 (lv_at hl 0 rfl) ?_
    refine rd_run (c_V (As := [.int (nI (xcur χ c))]) (rest := []) hx hb hml hl.1 hown hT hK hH.1 (c_Card_image l g _ α ν χ c (xcur χ c) _ hW hc (xcur_lt χ c)) kw_Card_image w412 w413 w414 w13 hd_Card_image rfl rfl ⟨by decide, by decide⟩ (hw_card hW hc) rfl rfl rfl (Nat.le_of_ble_eq_true rfl) d_Card_store_25 ⟨by decide, by decide⟩) rfl ?_
    refine rd_run (c_V (As := []) (rest := []) hx hb hml hl.1 hown hT hK hH.1 (c_Im_sequence l g _ α ν χ c (xcur χ c) _ hW hc (xcur_lt χ c)) kw_Im_sequence w408 w409 w410 w14 hd_Im_sequence rfl rfl ⟨by decide, by decide⟩ (hw_im hW hc (xcur_lt χ c)) rfl rfl rfl (Nat.le_of_ble_eq_true rfl) d_Card_store_28 ⟨by decide, by decide⟩) rfl ?_
    refine lv_iconst (v := 1) hx hb d_Card_store_31 (by decide) ?_
    refine lv_iadd hx hb d_Card_store_32 ?_
    refine lv_sipush (v := 255) hx hb d_Card_store_33 (by decide) ?_
    refine lv_iand hx hb d_Card_store_36 ?_
    refine lv_istore (lv' := [(6, .int (((xsq χ c (xcur χ c)) + 1) &&& 255)), (5, .int (nI (xcur χ c))), (0, .ref (α 1 c 0)), (1, .int (nI a)), (2, .int (nI n)), (3, .int v), (4, .ref (α 0 3 0))]) hx hb d_Card_store_37 hl (by decide) rfl (fun ls hl => ?_)
    refine lv_sipush (v := 256) hx hb d_Card_store_39 (by decide) ?_
    refine lv_iload hx hb d_Card_store_42 (lv_at hl 0 rfl) ?_
    refine lv_imul hx hb d_Card_store_44 ?_
    refine lv_iload_n hx hb d_Card_store_45 rfl (lv_at hl 4 rfl) ?_
    refine lv_iadd hx hb d_Card_store_46 ?_
    rw [show ((256 * (((xsq χ c (xcur χ c)) + 1) &&& 255)) + (nI n)) = xhd χ c n from rfl]
    refine lv_istore (lv' := [(7, .int (xhd χ c n)), (6, .int (((xsq χ c (xcur χ c)) + 1) &&& 255)), (5, .int (nI (xcur χ c))), (0, .ref (α 1 c 0)), (1, .int (nI a)), (2, .int (nI n)), (3, .int v), (4, .ref (α 0 3 0))]) hx hb d_Card_store_47 hl (by decide) rfl (fun ls hl => ?_)
    refine lv_aload_n hx hb d_Card_store_49 rfl (lv_at hl 3 rfl) ?_
    refine lv_iconst (v := 1) hx hb d_Card_store_50 (by decide) ?_
    refine lv_iload hx hb d_Card_store_51 (lv_at hl 2 rfl) ?_
    refine lv_isub hx hb d_Card_store_53 ?_
    rw [show (1 - (nI (xcur χ c))) = nI (1 - xcur χ c) from n1x χ c]
    refine rd_run (c_V (As := [.int (nI (1 - xcur χ c))]) (rest := []) hx hb hml hl.1 hown hT hK hH.1 (c_Card_image l g _ α ν χ c (1 - xcur χ c) _ hW hc hbq) kw_Card_image w412 w413 w414 w13 hd_Card_image rfl rfl ⟨by decide, by decide⟩ (hw_card hW hc) rfl rfl rfl (Nat.le_of_ble_eq_true rfl) d_Card_store_54 ⟨by decide, by decide⟩) rfl ?_
    refine lv_astore (lv' := [(8, .ref (α 2 c (1 - xcur χ c))), (7, .int (xhd χ c n)), (6, .int (((xsq χ c (xcur χ c)) + 1) &&& 255)), (5, .int (nI (xcur χ c))), (0, .ref (α 1 c 0)), (1, .int (nI a)), (2, .int (nI n)), (3, .int v), (4, .ref (α 0 3 0))]) hx hb d_Card_store_57 hl (by decide) rfl (fun ls hl => ?_)
    refine lv_aload_n hx hb d_Card_store_59 rfl (lv_at hl 4 rfl) ?_
    refine W.join (fun x : Int32 => x = xkp χ c) (f := fun x => F0 mi 77 ls (.int x :: [.ref (α 1 c 0)])) (fun x ex => ?_) (fun hj => ?_)
    · skip
      subst ex
      refine m_put (ci := 1) (v := .int (xkp χ c)) (ty := .int) hx hb hT in_Card ty_Card tk_Card nm_Card hown hK hH (hw_card hW hc) rfl 6 (by decide) (hT _ w239) (fun _ h9 => h9) rfl (by decide +kernel) rfl rfl (Nat.le_of_ble_eq_true rfl) d_Card_store_77 (e1 := .inr (1, [.int ((χ) 1 c), .int ((χ) 2 c), .ref (α 2 c 0), .ref (α 2 c 1), .int ((χ) 6 c), .int ((χ) 3 c), .int (xkp χ c), .int ((χ) 4 c)])) rfl (fun H locs hH hzz => ?_)
      replace hW := hws_c16 hW hc (v := (xkp χ c))
      refine lv_aload_n hx hb d_Card_store_80 rfl (lv_at hl 4 rfl) ?_
      refine lv_iconst (v := (-1)) hx hb d_Card_store_81 (by decide) ?_
      refine m_put (ci := 1) (v := .int (-1)) (ty := .int) hx hb hT in_Card ty_Card tk_Card nm_Card hown hK hH (hw_card hW hc) rfl 5 (by decide) (hT _ w237) (fun _ h9 => h9) rfl (by decide +kernel) rfl rfl (Nat.le_of_ble_eq_true rfl) d_Card_store_82 (e1 := .inr (1, [.int ((su (χ) 16 c (xkp χ c)) 1 c), .int ((su (χ) 16 c (xkp χ c)) 2 c), .ref (α 2 c 0), .ref (α 2 c 1), .int ((su (χ) 16 c (xkp χ c)) 6 c), .int (-1), .int ((su (χ) 16 c (xkp χ c)) 16 c), .int ((su (χ) 16 c (xkp χ c)) 4 c)])) rfl (fun H locs hH hzz => ?_)
      replace hW := hws_c3 hW hc (v := (-1))
      replace hW : HW g α ν (s0S χ c) _ := hW
      refine lv_aload_n hx hb d_Card_store_85 rfl (lv_at hl 4 rfl) ?_
      refine lv_aload hx hb d_Card_store_86 (lv_at hl 0 rfl) ?_
      refine lv_iconst (v := 0) hx hb d_Card_store_88 (by decide) ?_
      refine lv_iload hx hb d_Card_store_89 (lv_at hl 1 rfl) ?_
      refine m_run (c_V (As := [.ref (α 2 c (1 - xcur χ c)), .int 0, .int (xhd χ c n)]) (rest := []) hx hb hml hl.1 hown hT hK hH.1 (c_Card_putNext l g _ α ν (s0S χ c) c (1 - xcur χ c) 0 (xhd χ c n) _ hW hc hbq (by omega)) kw_Card_putNext w424 w426 selp_Card_putNext w13 hd_Card_putNext rfl rfl ⟨by decide, by decide⟩ (hw_card hW hc) rfl rfl rfl (Nat.le_of_ble_eq_true rfl) d_Card_store_91 ⟨by decide, by decide⟩) hH (fun rv M1 H locs hpost hH hzz hdm hfr => ?_)
      replace hW : HW g α ν (ptS (s0S χ c) c (1 - xcur χ c) 0 (xhd χ c n)) M1 := hpost
      refine W.eq (g2 := F0 mi 94 ls []) rfl ?_
      refine lv_aload_n hx hb d_Card_store_94 rfl (lv_at hl 4 rfl) ?_
      refine lv_aload hx hb d_Card_store_95 (lv_at hl 0 rfl) ?_
      refine lv_iconst (v := 1) hx hb d_Card_store_97 (by decide) ?_
      refine lv_iload_n hx hb d_Card_store_98 rfl (lv_at hl 5 rfl) ?_
      refine m_run (c_V (As := [.ref (α 2 c (1 - xcur χ c)), .int 1, .int (nI a)]) (rest := []) hx hb hml hl.1 hown hT hK hH.1 (c_Card_putNext l g _ α ν (ptS (s0S χ c) c (1 - xcur χ c) 0 (xhd χ c n)) c (1 - xcur χ c) 1 (nI a) _ hW hc hbq (by omega)) kw_Card_putNext w424 w426 selp_Card_putNext w13 hd_Card_putNext rfl rfl ⟨by decide, by decide⟩ (hw_card hW hc) rfl rfl rfl (Nat.le_of_ble_eq_true rfl) d_Card_store_99 ⟨by decide, by decide⟩) hH (fun rv M1 H locs hpost hH hzz hdm hfr => ?_)
      replace hW : HW g α ν (ptS (ptS (s0S χ c) c (1 - xcur χ c) 0 (xhd χ c n)) c (1 - xcur χ c) 1 (nI a)) M1 := hpost
      refine W.eq (g2 := F0 mi 102 ls []) rfl ?_
      refine lv_aload_n hx hb d_Card_store_102 rfl (lv_at hl 4 rfl) ?_
      refine lv_aload hx hb d_Card_store_103 (lv_at hl 0 rfl) ?_
      refine lv_iconst (v := 2) hx hb d_Card_store_105 (by decide) ?_
      refine lv_iload_n hx hb d_Card_store_106 rfl (lv_at hl 7 rfl) ?_
      refine m_run (c_V (As := [.ref (α 2 c (1 - xcur χ c)), .int 2, .int v]) (rest := []) hx hb hml hl.1 hown hT hK hH.1 (c_Card_putNext l g _ α ν (ptS (ptS (s0S χ c) c (1 - xcur χ c) 0 (xhd χ c n)) c (1 - xcur χ c) 1 (nI a)) c (1 - xcur χ c) 2 v _ hW hc hbq (by omega)) kw_Card_putNext w424 w426 selp_Card_putNext w13 hd_Card_putNext rfl rfl ⟨by decide, by decide⟩ (hw_card hW hc) rfl rfl rfl (Nat.le_of_ble_eq_true rfl) d_Card_store_107 ⟨by decide, by decide⟩) hH (fun rv M1 H locs hpost hH hzz hdm hfr => ?_)
      replace hW : HW g α ν (ptS (ptS (ptS (s0S χ c) c (1 - xcur χ c) 0 (xhd χ c n)) c (1 - xcur χ c) 1 (nI a)) c (1 - xcur χ c) 2 v) M1 := hpost
      refine W.eq (g2 := F0 mi 110 ls []) rfl ?_
      refine lv_iconst (v := 0) hx hb d_Card_store_110 (by decide) ?_
      refine lv_istore (lv' := [(9, .int 0), (8, .ref (α 2 c (1 - xcur χ c))), (7, .int (xhd χ c n)), (6, .int (((xsq χ c (xcur χ c)) + 1) &&& 255)), (5, .int (nI (xcur χ c))), (0, .ref (α 1 c 0)), (1, .int (nI a)), (2, .int (nI n)), (3, .int v), (4, .ref (α 0 3 0))]) hx hb d_Card_store_111 hl (by decide) rfl (fun ls hl => ?_)
      refine W.rep (α := Heap × List Loc × Array Slot × MW × Nat) (fun (H, locs, ls, Mx, k) => n - k) (fun (H, locs, ls, Mx, k) => lv_has ls 10 [(0, .ref (α 1 c 0)), (1, .int (nI a)), (2, .int (nI n)), (3, .int v), (4, .ref (α 0 3 0)), (7, .int (xhd χ c n)), (8, .ref (α 2 c (1 - xcur χ c))), (9, .int (nI k))] ∧ HS g (mA M s.heap.size) s.heap (Mx) H locs ∧ HW g α ν (slS ν χ (s3S χ c a n v) c a k) Mx ∧ k ≤ n) (fun (H, locs, ls, Mx, k) => H) (fun (H, locs, ls, Mx, k) => locs) (fun (H, locs, ls, Mx, k) => F0 mi 113 ls []) ?_ (H, locs, ls, _, 0) ⟨lv_sub hl [5, 6, 7, 8, 9, 2, 1, 0] rfl, hH, (show HW g α ν (s3S χ c a n v) _ by unfold s3S; exact hW), by omega⟩
      rintro ⟨H, locs, ls, Mx, k⟩ ⟨hl, hH, hi1, hi2⟩ ih
      dsimp only at hl hH hi1 hi2 ih ⊢
      replace hW := hi1
      refine lv_iload hx hb d_Card_store_113 (lv_at hl 7 rfl) ?_
      refine lv_iload_n hx hb d_Card_store_115 rfl (lv_at hl 2 rfl) ?_
      refine lv_icmp_ge (tgt := 144) hx hb d_Card_store_116 (by decide) (fun c3 => ?_) (fun c3 => ?_)
      · skip
        have hkn : n = k := by have := ge_of c3 (by omega) (by omega); omega
        subst hkn
        refine lv_aload_n hx hb d_Card_store_144 rfl (lv_at hl 0 rfl) ?_
        refine lv_aload hx hb d_Card_store_145 (lv_at hl 6 rfl) ?_
        refine lv_bipush (v := 43) hx hb d_Card_store_147 (by decide) ?_
        refine lv_iload hx hb d_Card_store_149 (lv_at hl 5 rfl) ?_
        refine m_run (c_V (As := [.ref (α 2 c (1 - xcur χ c)), .int 43, .int (xhd χ c n)]) (rest := []) hx hb hml hl.1 hown hT hK hH.1 (c_Card_putNext l g _ α ν (slS ν χ (s3S χ c a n v) c a n) c (1 - xcur χ c) 43 (xhd χ c n) _ hW hc hbq (by omega)) kw_Card_putNext w424 w426 selp_Card_putNext w13 hd_Card_putNext rfl rfl ⟨by decide, by decide⟩ (hw_card hW hc) rfl rfl rfl (Nat.le_of_ble_eq_true rfl) d_Card_store_151 ⟨by decide, by decide⟩) hH (fun rv M1 H locs hpost hH hzz hdm hfr => ?_)
        replace hW : HW g α ν (ptS (slS ν χ (s3S χ c a n v) c a n) c (1 - xcur χ c) 43 (xhd χ c n)) M1 := hpost
        refine W.eq (g2 := F0 mi 154 ls []) rfl ?_
        exact m_vret hx hb hr hlocks hsz hH (by show HW g α ν (stS ν χ c a n v) _; unfold stS; rw [if_pos c1]; exact hW) d_Card_store_154
      · skip
        have hkn : k < n := by rcases Nat.lt_or_ge k n with h9 | h9; exact h9; exact absurd (nI_le h9 (by omega)) c3
        refine lv_aload_n hx hb d_Card_store_119 rfl (lv_at hl 0 rfl) ?_
        refine lv_aload hx hb d_Card_store_120 (lv_at hl 6 rfl) ?_
        refine lv_iconst (v := 3) hx hb d_Card_store_122 (by decide) ?_
        refine lv_iload hx hb d_Card_store_123 (lv_at hl 7 rfl) ?_
        refine lv_iadd hx hb d_Card_store_125 ?_
        rw [show (3 + (nI k)) = nI (3 + k) from nI_add 3 k]
        refine lv_aload hx hb d_Card_store_126 (lv_at hl 4 rfl) ?_
        refine lv_iload_n hx hb d_Card_store_128 rfl (lv_at hl 1 rfl) ?_
        refine lv_iload hx hb d_Card_store_129 (lv_at hl 7 rfl) ?_
        refine lv_iadd hx hb d_Card_store_131 ?_
        rw [show ((nI a) + (nI k)) = nI (a + k) from nI_add a k]
        refine rd_run (c_V (As := [.int (nI (a + k))]) (rest := [.int (nI (3 + k)), .ref (α 2 c (1 - xcur χ c)), .ref (α 1 c 0)]) hx hb hml hl.1 hown hT hK hH.1 (c_EL_cardOf l g _ α ν (slS ν χ (s3S χ c a n v) c a k) (a + k) _ hW hN (by omega) (by omega)) kw_EL_cardOf w432 w433 w434 w5 hd_EL_cardOf rfl rfl ⟨by decide, by decide⟩ (hw_03 hW) rfl rfl rfl (Nat.le_of_ble_eq_true rfl) d_Card_store_132 ⟨by decide, by decide⟩) rfl ?_
        refine m_run (c_V (As := [.ref (α 2 c (1 - xcur χ c)), .int (nI (3 + k)), .int (xcd ν (slS ν χ (s3S χ c a n v) c a k) (a + k))]) (rest := []) hx hb hml hl.1 hown hT hK hH.1 (c_Card_putNext l g _ α ν (slS ν χ (s3S χ c a n v) c a k) c (1 - xcur χ c) (3 + k) (xcd ν (slS ν χ (s3S χ c a n v) c a k) (a + k)) _ hW hc hbq (by omega)) kw_Card_putNext w424 w426 selp_Card_putNext w13 hd_Card_putNext rfl rfl ⟨by decide, by decide⟩ (hw_card hW hc) rfl rfl rfl (Nat.le_of_ble_eq_true rfl) d_Card_store_135 ⟨by decide, by decide⟩) hH (fun rv M1 H locs hpost hH hzz hdm hfr => ?_)
        replace hW : HW g α ν (ptS (slS ν χ (s3S χ c a n v) c a k) c (1 - xcur χ c) (3 + k) (xcd ν (slS ν χ (s3S χ c a n v) c a k) (a + k))) M1 := hpost
        refine W.eq (g2 := F0 mi 138 ls []) rfl ?_
        refine lv_iinc (v := nI (k + 1)) (lv' := [(9, .int (nI (k + 1))), (0, .ref (α 1 c 0)), (1, .int (nI a)), (2, .int (nI n)), (3, .int v), (4, .ref (α 0 3 0)), (7, .int (xhd χ c n)), (8, .ref (α 2 c (1 - xcur χ c)))]) hx hb d_Card_store_138 hl (k := 7) rfl (nI_1 k) (by decide) rfl (fun ls hl => ?_)
        refine lv_goto (tgt := 113) hx hb d_Card_store_141 (by decide) ?_
        exact ih (_, _, _, _, k + 1) ⟨lv_sub hl [1, 2, 3, 4, 5, 6, 7, 0] rfl, hH, hW, by dsimp only; omega⟩ (by dsimp only; omega)
    · skip
      refine lv_aload_n hx hb d_Card_store_60 rfl (lv_at hl 4 rfl) ?_
      refine m_get (ci := 1) (v := .int ((χ) 3 c)) hx hb hT in_Card hown hK hH.1 (hw_card hW hc) rfl 5 (by decide) (hT _ w237) (fun _ h9 => h9) rfl d_Card_store_61 ?_
      refine lv_iconst (v := (-1)) hx hb d_Card_store_64 (by decide) ?_
      refine lv_icmp_ne (tgt := 73) hx hb d_Card_store_65 (by decide) (fun c2 => ?_) (fun c2 => ?_)
      · skip
        refine lv_aload_n hx hb d_Card_store_73 rfl (lv_at hl 4 rfl) ?_
        refine m_get (ci := 1) (v := .int ((χ) 3 c)) hx hb hT in_Card hown hK hH.1 (hw_card hW hc) rfl 5 (by decide) (hT _ w237) (fun _ h9 => h9) rfl d_Card_store_74 ?_
        exact hj _ (by first | (unfold xkp; rw [if_pos c2]) | (unfold xkp; rw [if_neg c2]))
      · skip
        have c2 : ¬ ¬ χ 3 c = -1 := fun z => z c2
        refine lv_bipush (v := 44) hx hb d_Card_store_68 (by decide) ?_
        refine lv_goto (tgt := 77) hx hb d_Card_store_70 (by decide) ?_
        exact hj _ (by first | (unfold xkp; rw [if_pos c2]) | (unfold xkp; rw [if_neg c2]))
  · skip
    exact m_vret hx hb hr hlocks hsz hH (by show HW g α ν (stS ν χ c a n v) _; unfold stS; rw [if_neg c1]; exact hW) d_Card_store_21
