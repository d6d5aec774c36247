/-! The class: a card is shown at a door. -/
def tkX (ν : Nat → Nat) (χ : SG) (d a : Nat) : Nat → SG
  | 0 => χ
  | k + 1 => bgS ν (tkX ν χ d a k) d (a + k)
theorem bgS_r {ν : Nat → Nat} {χ : SG} {d e r : Nat} (h : r < 21 ∨ ∃ c b, r = rW c b) : bgS ν χ d e r = χ r := by
  unfold bgS
  split
  · refine su_kf ?_
    unfold rH
    rcases h with h | ⟨c, b, rfl⟩
    · omega
    · unfold rW; omega
  · rfl
theorem tkX_r {ν : Nat → Nat} {χ : SG} {d a r : Nat} (h : r < 21 ∨ ∃ c b, r = rW c b) : ∀ k, tkX ν χ d a k r = χ r
  | 0 => rfl
  | k + 1 => (bgS_r h).trans (tkX_r h k)
def tk1 (ν : Nat → Nat) (χ : SG) (d a n : Nat) : SG := if n = 0 then tkX ν χ d a n else su (tkX ν χ d a n) 17 d (mxJ (χ 17 d) (nI (a + n - 1)))
def tkE (ν : Nat → Nat) (χ : SG) (c b d a n : Nat) : SG := su (su (tk1 ν χ d a n) 11 d (mxJ (χ 11 d) (χ (rW c b) 2))) 10 d 1
theorem tk1_r {ν : Nat → Nat} {χ : SG} {d a n r : Nat} (h : r < 17 ∨ ∃ c b, r = rW c b) : tk1 ν χ d a n r = χ r := by
  have h2 : r < 21 ∨ ∃ c b, r = rW c b := h.elim (fun z => Or.inl (by omega)) Or.inr
  unfold tk1
  split
  · exact tkX_r h2 n
  · rw [su_kf (by rcases h with h | ⟨c, b, rfl⟩; omega; unfold rW; omega)]
    exact tkX_r h2 n
theorem tkE_r {ν : Nat → Nat} {χ : SG} {c b d a n r : Nat} (h : r < 10 ∨ (∃ c b, r = rW c b) ∨ r = 16) : tkE ν χ c b d a n r = χ r := by
  unfold tkE
  rw [su_kf (by rcases h with h | ⟨c, b, rfl⟩ | h; omega; unfold rW; omega; omega), su_kf (by rcases h with h | ⟨c, b, rfl⟩ | h; omega; unfold rW; omega; omega)]
  exact tk1_r (by rcases h with h | h | h; exact Or.inl (by omega); exact Or.inr h; exact Or.inl (by omega))
theorem tkE_17 {ν : Nat → Nat} {χ : SG} {c b d a n g0 : Nat} (hg : χ 17 d = nI g0) (hg6 : g0 ≤ 600) (ha6 : a + n ≤ 601) : tkE ν χ c b d a n 17 d = nI (if n = 0 then g0 else if g0 < a + n - 1 then a + n - 1 else g0) := by
  unfold tkE
  rw [su_k (by decide), su_k (by decide)]
  unfold tk1
  by_cases h : n = 0
  · rw [if_pos h, if_pos h, tkX_r (Or.inl (by decide))]
    exact hg
  · rw [if_neg h, if_neg h, su_s, hg]
    unfold mxJ
    by_cases h2 : g0 < a + n - 1
    · rw [if_pos h2, if_pos (nI_lt h2 (by omega))]
    · rw [if_neg h2, if_neg (nI_nlt (by omega) (by omega))]
noncomputable def pcF (ν : Nat → Nat) (χ : SG) (d q : Nat) : Nat → Nat → Nat
  | 0, k => k
  | f + 1, k => if bI (xhs ν χ d (q - k)) = 0 then k else pcF ν χ d q f (k + 1)
theorem pcF_in {ν : Nat → Nat} {χ : SG} {d q : Nat} : ∀ (f k : Nat), k ≤ q → f + k ≤ 40 → pcF ν χ d q f k ≤ q ∧ pcF ν χ d q f k ≤ 40 ∧ k ≤ pcF ν χ d q f k
  | 0, k, h, h4 => ⟨h, by show k ≤ 40; omega, Nat.le_refl k⟩
  | f + 1, k, h, h4 => by
    show (if bI (xhs ν χ d (q - k)) = 0 then k else pcF ν χ d q f (k + 1)) ≤ q ∧ (if bI (xhs ν χ d (q - k)) = 0 then k else pcF ν χ d q f (k + 1)) ≤ 40 ∧ k ≤ (if bI (xhs ν χ d (q - k)) = 0 then k else pcF ν χ d q f (k + 1))
    by_cases c : bI (xhs ν χ d (q - k)) = 0
    · rw [if_pos c]; omega
    · rw [if_neg c]
      have h1 := (bI_n.mp c).1
      have := pcF_in (ν := ν) (χ := χ) (d := d) (q := q) f (k + 1) (by omega) (by omega)
      omega
noncomputable def psS (ν : Nat → Nat) (χ : SG) (c d q : Nat) : SG := if q = 0 then χ else stS ν χ c (q - pcF ν χ d q 39 1 + 1) (pcF ν χ d q 39 1) (χ (rW c (xcur χ c)) 2)
set_option maxHeartbeats 4000000 in
set_option maxRecDepth 100000 in
theorem c_Door_take (l : Launch) (g : GG) (M : MW) (α : AL3) (ν : Nat → Nat) (χ : SG) (c b d a n : Nat) (sz : Nat) (hW : HW g α ν χ M) (hN : nOK ν) (hc : c < ν 0) (hb2 : b < 2) (hd : d < 200) (hf : χ (rW c b) 1 = nI a) (hn : xcn χ c b = nI n) (ha9 : a + n < 2 ^ 30) : Met l y_Door_take (k_Door_take :: TT) { frames := 4, cells := 0, slots := 0, locals := 86 } (Pm g [.ref (α 6 d 0), .ref (α 2 c b), .ref (α 0 3 0)] sz (M)) (Qm g M (fun _ : Unit => none) (fun _ M1 => HW g α ν (tkE ν χ c b d a n) M1)) 0 0 (mA M sz) := by
  refine met_of (by decide) (Nat.le_of_ble_eq_true rfl) ?_
  intro pr en s mi below meth co hx hb hr hml hown hlocks hnm hT hsz hP hK ls hl
  have hl : lv_has ls 6 [(0, .ref (α 6 d 0)), (1, .ref (α 2 c b)), (2, .ref (α 0 3 0))] := hl
  have hH := HS.start hP
  refine lv_aload_n hx hb d_Door_take_0 rfl (lv_at hl 1 rfl) ?_
  refine lv_iconst (v := 1) hx hb d_Door_take_1 (by decide) ?_
  refine rd_run (c_V (As := [.int 1]) (rest := []) hx hb hml hl.1 hown hT hK hH.1 (c_Im_at l g _ α ν (χ) c b 1 _ hW hc hb2 (by decide)) kw_Im_at w494 w405 w406 w14 hd_Im_at rfl rfl ⟨by decide, by decide⟩ (hw_im hW hc hb2) rfl rfl rfl (Nat.le_of_ble_eq_true rfl) d_Door_take_2 ⟨by decide, by decide⟩) rfl ?_
  rw [show ((χ) (rW c b) 1) = nI a from hf]
  refine lv_istore_n (lv' := [(3, .int (nI a)), (0, .ref (α 6 d 0)), (1, .ref (α 2 c b)), (2, .ref (α 0 3 0))]) hx hb d_Door_take_5 rfl hl (by decide) rfl (fun ls hl => ?_)
  refine lv_aload_n hx hb d_Door_take_6 rfl (lv_at hl 2 rfl) ?_
  refine rd_run (c_V (As := []) (rest := []) hx hb hml hl.1 hown hT hK hH.1 (c_Im_count l g _ α ν χ c b _ hW hc hb2) kw_Im_count w495 w421 w422 w14 hd_Im_count rfl rfl ⟨by decide, by decide⟩ (hw_im hW hc hb2) rfl rfl rfl (Nat.le_of_ble_eq_true rfl) d_Door_take_7 ⟨by decide, by decide⟩) rfl ?_
  rw [show (xcn χ c b) = nI n from hn]
  refine lv_istore (lv' := [(4, .int (nI n)), (3, .int (nI a)), (0, .ref (α 6 d 0)), (1, .ref (α 2 c b)), (2, .ref (α 0 3 0))]) hx hb d_Door_take_10 hl (by decide) rfl (fun ls hl => ?_)
  refine lv_iconst (v := 0) hx hb d_Door_take_12 (by decide) ?_
  refine lv_istore (lv' := [(5, .int 0), (4, .int (nI n)), (3, .int (nI a)), (0, .ref (α 6 d 0)), (1, .ref (α 2 c b)), (2, .ref (α 0 3 0))]) hx hb d_Door_take_13 hl (by decide) rfl (fun ls hl => ?_)
  refine W.rep (α := Heap × List Loc × Array Slot × MW × Nat) (fun (H, locs, ls, Mx, k) => n - k) (fun (H, locs, ls, Mx, k) => lv_has ls 6 [(0, .ref (α 6 d 0)), (1, .ref (α 2 c b)), (2, .ref (α 0 3 0)), (3, .int (nI a)), (4, .int (nI n)), (5, .int (nI k))] ∧ HS g (mA M s.heap.size) s.heap (Mx) H locs ∧ HW g α ν (tkX ν χ d a k) Mx ∧ k ≤ n) (fun (H, locs, ls, Mx, k) => H) (fun (H, locs, ls, Mx, k) => locs) (fun (H, locs, ls, Mx, k) => F0 mi 15 ls []) ?_ (s.heap, [], ls, _, 0) ⟨lv_sub hl [3, 4, 5, 2, 1, 0] rfl, hH, hW, Nat.zero_le _⟩
  rintro ⟨H, locs, ls, Mx, k⟩ ⟨hl, hH, hi1, hi2⟩ ih
  dsimp only at hl hH hi1 hi2 ih ⊢
  replace hW := hi1
  refine lv_iload hx hb d_Door_take_15 (lv_at hl 5 rfl) ?_
  refine lv_iload hx hb d_Door_take_17 (lv_at hl 4 rfl) ?_
  refine lv_icmp_ge (tgt := 40) hx hb d_Door_take_19 (by decide) (fun c1 => ?_) (fun c1 => ?_)
  · skip
    have hkn : n = k := by have := ge_of c1 (by omega) (by omega); omega
    subst hkn
    refine lv_iload hx hb d_Door_take_40 (lv_at hl 4 rfl) ?_
    refine lv_if_le (tgt := 62) hx hb d_Door_take_42 (by decide) (fun c2 => ?_) (fun c2 => ?_)
    · skip
      have hn0 : n = 0 := by have := ge_of (b := 0) c2 (by omega) (by decide); omega
      rw [show tkX ν χ d a n = tk1 ν χ d a n from by unfold tk1; rw [if_pos hn0]] at hW
      refine lv_aload_n hx hb d_Door_take_62 rfl (lv_at hl 0 rfl) ?_
      refine lv_aload_n hx hb d_Door_take_63 rfl (lv_at hl 0 rfl) ?_
      refine m_get (ci := 2) (v := .int ((tk1 ν χ d a n) 11 d)) hx hb hT in_Door hown hK hH.1 (hw_dr hW hd) rfl 2 (by decide) (hT _ w79) (fun _ h9 => h9) rfl d_Door_take_64 ?_
      rw [show ((tk1 ν χ d a n) 11 d) = χ 11 d from congrFun (tk1_r (Or.inl (by decide))) d]
      refine lv_aload_n hx hb d_Door_take_67 rfl (lv_at hl 1 rfl) ?_
      refine lv_iconst (v := 2) hx hb d_Door_take_68 (by decide) ?_
      refine rd_run (c_V (As := [.int 2]) (rest := [.int (χ 11 d), .ref (α 6 d 0)]) hx hb hml hl.1 hown hT hK hH.1 (c_Im_at l g _ α ν (tk1 ν χ d a n) c b 2 _ hW hc hb2 (by decide)) kw_Im_at w494 w405 w406 w14 hd_Im_at rfl rfl ⟨by decide, by decide⟩ (hw_im hW hc hb2) rfl rfl rfl (Nat.le_of_ble_eq_true rfl) d_Door_take_69 ⟨by decide, by decide⟩) rfl ?_
      rw [show (tk1 ν χ d a n (rW c b) 2) = χ (rW c b) 2 from congrFun (tk1_r (Or.inr ⟨c, b, rfl⟩)) 2]
      refine va_mmax hx hb (hml.trans hl.1.symm) hown (hT _ w504) (hT _ w279) (hT _ w16) (hT _ w280) (by decide) (Nat.le_of_ble_eq_true rfl) (by decide) (by decide) d_Door_take_72 ?_
      refine W.eq (g2 := F0 mi 75 ls [.int (mxJ (χ 11 d) (χ (rW c b) 2)), .ref (α 6 d 0)]) rfl ?_
      refine m_put (ci := 2) (v := .int (mxJ (χ 11 d) (χ (rW c b) 2))) (ty := .int) hx hb hT in_Door ty_Door tk_Door nm_Door hown hK hH (hw_dr hW hd) rfl 2 (by decide) (hT _ w79) (fun _ h9 => h9) rfl (by decide +kernel) rfl rfl (Nat.le_of_ble_eq_true rfl) d_Door_take_75 (e1 := .inr (2, [.int (nI d), .int ((tk1 ν χ d a n) 9 d), .int (mxJ (χ 11 d) (χ (rW c b) 2)), .int ((tk1 ν χ d a n) 17 d), .int ((tk1 ν χ d a n) 10 d)])) rfl (fun H locs hH hzz => ?_)
      replace hW := hws_d11 hW hd (v := (mxJ (χ 11 d) (χ (rW c b) 2)))
      refine lv_aload_n hx hb d_Door_take_78 rfl (lv_at hl 0 rfl) ?_
      refine lv_iconst (v := 1) hx hb d_Door_take_79 (by decide) ?_
      refine m_put (ci := 2) (v := .int 1) (ty := .boolean) hx hb hT in_Door ty_Door tk_Door nm_Door hown hK hH (hw_dr hW hd) rfl 4 (by decide) (hT _ w83) (fun _ h9 => h9) rfl (by decide +kernel) rfl rfl (Nat.le_of_ble_eq_true rfl) d_Door_take_80 (e1 := .inr (2, [.int (nI d), .int ((su (tk1 ν χ d a n) 11 d (mxJ (χ 11 d) (χ (rW c b) 2))) 9 d), .int ((su (tk1 ν χ d a n) 11 d (mxJ (χ 11 d) (χ (rW c b) 2))) 11 d), .int ((su (tk1 ν χ d a n) 11 d (mxJ (χ 11 d) (χ (rW c b) 2))) 17 d), .int 1])) rfl (fun H locs hH hzz => ?_)
      replace hW := hws_d10 hW hd (v := 1)
      exact m_vret hx hb hr hlocks hsz hH (hW) d_Door_take_83
    · skip
      have hn0 : ¬ n = 0 := fun z => c2 (by rw [z]; decide)
      refine lv_aload_n hx hb d_Door_take_45 rfl (lv_at hl 0 rfl) ?_
      refine lv_aload_n hx hb d_Door_take_46 rfl (lv_at hl 0 rfl) ?_
      refine m_get (ci := 2) (v := .int ((tkX ν χ d a n) 17 d)) hx hb hT in_Door hown hK hH.1 (hw_dr hW hd) rfl 3 (by decide) (hT _ w81) (fun _ h9 => h9) rfl d_Door_take_47 ?_
      rw [show ((tkX ν χ d a n) 17 d) = χ 17 d from congrFun (tkX_r (Or.inl (by decide)) n) d]
      refine lv_iload_n hx hb d_Door_take_50 rfl (lv_at hl 3 rfl) ?_
      refine lv_iload hx hb d_Door_take_51 (lv_at hl 4 rfl) ?_
      refine lv_iadd hx hb d_Door_take_53 ?_
      rw [show ((nI a) + (nI n)) = nI (a + n) from nI_add a n]
      refine lv_iconst (v := 1) hx hb d_Door_take_54 (by decide) ?_
      refine lv_isub hx hb d_Door_take_55 ?_
      rw [show ((nI (a + n)) - 1) = nI (a + n - 1) from pk_sub (a := a + n) (b := 1) (by omega)]
      refine va_mmax hx hb (hml.trans hl.1.symm) hown (hT _ w504) (hT _ w279) (hT _ w16) (hT _ w280) (by decide) (Nat.le_of_ble_eq_true rfl) (by decide) (by decide) d_Door_take_56 ?_
      refine W.eq (g2 := F0 mi 59 ls [.int (mxJ (χ 17 d) (nI (a + n - 1))), .ref (α 6 d 0)]) rfl ?_
      refine m_put (ci := 2) (v := .int (mxJ (χ 17 d) (nI (a + n - 1)))) (ty := .int) hx hb hT in_Door ty_Door tk_Door nm_Door hown hK hH (hw_dr hW hd) rfl 3 (by decide) (hT _ w81) (fun _ h9 => h9) rfl (by decide +kernel) rfl rfl (Nat.le_of_ble_eq_true rfl) d_Door_take_59 (e1 := .inr (2, [.int (nI d), .int ((tkX ν χ d a n) 9 d), .int ((tkX ν χ d a n) 11 d), .int (mxJ (χ 17 d) (nI (a + n - 1))), .int ((tkX ν χ d a n) 10 d)])) rfl (fun H locs hH hzz => ?_)
      replace hW := hws_d17 hW hd (v := (mxJ (χ 17 d) (nI (a + n - 1))))
      rw [show su (tkX ν χ d a n) 17 d (mxJ (χ 17 d) (nI (a + n - 1))) = tk1 ν χ d a n from by unfold tk1; rw [if_neg hn0]] at hW
      refine lv_aload_n hx hb d_Door_take_62 rfl (lv_at hl 0 rfl) ?_
      refine lv_aload_n hx hb d_Door_take_63 rfl (lv_at hl 0 rfl) ?_
      refine m_get (ci := 2) (v := .int ((tk1 ν χ d a n) 11 d)) hx hb hT in_Door hown hK hH.1 (hw_dr hW hd) rfl 2 (by decide) (hT _ w79) (fun _ h9 => h9) rfl d_Door_take_64 ?_
      rw [show ((tk1 ν χ d a n) 11 d) = χ 11 d from congrFun (tk1_r (Or.inl (by decide))) d]
      refine lv_aload_n hx hb d_Door_take_67 rfl (lv_at hl 1 rfl) ?_
      refine lv_iconst (v := 2) hx hb d_Door_take_68 (by decide) ?_
      refine rd_run (c_V (As := [.int 2]) (rest := [.int (χ 11 d), .ref (α 6 d 0)]) hx hb hml hl.1 hown hT hK hH.1 (c_Im_at l g _ α ν (tk1 ν χ d a n) c b 2 _ hW hc hb2 (by decide)) kw_Im_at w494 w405 w406 w14 hd_Im_at rfl rfl ⟨by decide, by decide⟩ (hw_im hW hc hb2) rfl rfl rfl (Nat.le_of_ble_eq_true rfl) d_Door_take_69 ⟨by decide, by decide⟩) rfl ?_
      rw [show (tk1 ν χ d a n (rW c b) 2) = χ (rW c b) 2 from congrFun (tk1_r (Or.inr ⟨c, b, rfl⟩)) 2]
      refine va_mmax hx hb (hml.trans hl.1.symm) hown (hT _ w504) (hT _ w279) (hT _ w16) (hT _ w280) (by decide) (Nat.le_of_ble_eq_true rfl) (by decide) (by decide) d_Door_take_72 ?_
      refine W.eq (g2 := F0 mi 75 ls [.int (mxJ (χ 11 d) (χ (rW c b) 2)), .ref (α 6 d 0)]) rfl ?_
      refine m_put (ci := 2) (v := .int (mxJ (χ 11 d) (χ (rW c b) 2))) (ty := .int) hx hb hT in_Door ty_Door tk_Door nm_Door hown hK hH (hw_dr hW hd) rfl 2 (by decide) (hT _ w79) (fun _ h9 => h9) rfl (by decide +kernel) rfl rfl (Nat.le_of_ble_eq_true rfl) d_Door_take_75 (e1 := .inr (2, [.int (nI d), .int ((tk1 ν χ d a n) 9 d), .int (mxJ (χ 11 d) (χ (rW c b) 2)), .int ((tk1 ν χ d a n) 17 d), .int ((tk1 ν χ d a n) 10 d)])) rfl (fun H locs hH hzz => ?_)
      replace hW := hws_d11 hW hd (v := (mxJ (χ 11 d) (χ (rW c b) 2)))
      refine lv_aload_n hx hb d_Door_take_78 rfl (lv_at hl 0 rfl) ?_
      refine lv_iconst (v := 1) hx hb d_Door_take_79 (by decide) ?_
      refine m_put (ci := 2) (v := .int 1) (ty := .boolean) hx hb hT in_Door ty_Door tk_Door nm_Door hown hK hH (hw_dr hW hd) rfl 4 (by decide) (hT _ w83) (fun _ h9 => h9) rfl (by decide +kernel) rfl rfl (Nat.le_of_ble_eq_true rfl) d_Door_take_80 (e1 := .inr (2, [.int (nI d), .int ((su (tk1 ν χ d a n) 11 d (mxJ (χ 11 d) (χ (rW c b) 2))) 9 d), .int ((su (tk1 ν χ d a n) 11 d (mxJ (χ 11 d) (χ (rW c b) 2))) 11 d), .int ((su (tk1 ν χ d a n) 11 d (mxJ (χ 11 d) (χ (rW c b) 2))) 17 d), .int 1])) rfl (fun H locs hH hzz => ?_)
      replace hW := hws_d10 hW hd (v := 1)
      exact m_vret hx hb hr hlocks hsz hH (hW) d_Door_take_83
  · skip
    have hkn : k < n := by rcases Nat.lt_or_ge k n with h9 | h9; exact h9; exact absurd (nI_le h9 (by omega)) c1
    refine lv_aload_n hx hb d_Door_take_22 rfl (lv_at hl 2 rfl) ?_
    refine lv_iload_n hx hb d_Door_take_23 rfl (lv_at hl 3 rfl) ?_
    refine lv_iload hx hb d_Door_take_24 (lv_at hl 5 rfl) ?_
    refine lv_iadd hx hb d_Door_take_26 ?_
    rw [show ((nI a) + (nI k)) = nI (a + k) from nI_add a k]
    refine lv_aload_n hx hb d_Door_take_27 rfl (lv_at hl 0 rfl) ?_
    refine m_get (ci := 2) (v := .int (nI d)) hx hb hT in_Door hown hK hH.1 (hw_dr hW hd) rfl 0 (by decide) (hT _ w76) (fun _ h9 => h9) rfl d_Door_take_28 ?_
    refine m_run (c_V (As := [.int (nI (a + k)), .int (nI d)]) (rest := []) hx hb hml hl.1 hown hT hK hH.1 (c_EL_bringTo l g _ α ν (tkX ν χ d a k) (a + k) d _ hW hN (by omega) hd) kw_EL_bringTo w496 w497 w498 w5 hd_EL_bringTo rfl rfl ⟨by decide, by decide⟩ (hw_03 hW) rfl rfl rfl (Nat.le_of_ble_eq_true rfl) d_Door_take_31 ⟨by decide, by decide⟩) hH (fun rv M1 H locs hpost hH hzz hdm hfr => ?_)
    replace hW : HW g α ν (tkX ν χ d a (k + 1)) M1 := hpost
    refine W.eq (g2 := F0 mi 34 ls []) rfl ?_
    refine lv_iinc (v := nI (k + 1)) (lv' := [(5, .int (nI (k + 1))), (0, .ref (α 6 d 0)), (1, .ref (α 2 c b)), (2, .ref (α 0 3 0)), (3, .int (nI a)), (4, .int (nI n))]) hx hb d_Door_take_34 hl (k := 5) rfl (nI_1 k) (by decide) rfl (fun ls hl => ?_)
    refine lv_goto (tgt := 15) hx hb d_Door_take_37 (by decide) ?_
    exact ih (_, _, _, _, k + 1) ⟨lv_sub hl [1, 2, 3, 4, 5, 0] rfl, hH, hW, by dsimp only; omega⟩ (by dsimp only; omega)
set_option maxHeartbeats 4000000 in
set_option maxRecDepth 100000 in
theorem c_Door_pass (l : Launch) (g : GG) (M : MW) (α : AL3) (ν : Nat → Nat) (χ : SG) (c d q : Nat) (sz : Nat) (hW : HW g α ν χ M) (hN : nOK ν) (hc : c < ν 0) (hd : d < 200) (hq : χ 17 d = nI q) (hq9 : q < 2 ^ 29) : Met l y_Door_pass (k_Door_pass :: TT) { frames := 5, cells := 0, slots := 0, locals := 114 } (Pm g [.ref (α 6 d 0), .ref (α 1 c 0), .ref (α 0 3 0)] sz (M)) (Qm g M (fun _ : Unit => none) (fun _ M1 => HW g α ν (psS ν χ c d q) M1)) 0 0 (mA M sz) := by
  refine met_of (by decide) (Nat.le_of_ble_eq_true rfl) ?_
  intro pr en s mi below meth co hx hb hr hml hown hlocks hnm hT hsz hP hK ls hl
  have hl : lv_has ls 4 [(0, .ref (α 6 d 0)), (1, .ref (α 1 c 0)), (2, .ref (α 0 3 0))] := hl
  have hH := HS.start hP
  refine lv_aload_n hx hb d_Door_pass_0 rfl (lv_at hl 0 rfl) ?_
  refine m_get (ci := 2) (v := .int ((χ) 17 d)) hx hb hT in_Door hown hK hH.1 (hw_dr hW hd) rfl 3 (by decide) (hT _ w81) (fun _ h9 => h9) rfl d_Door_pass_1 ?_
  rw [show ((χ) 17 d) = nI q from hq]
  refine lv_if_ne (tgt := 8) hx hb d_Door_pass_4 (by decide) (fun c1 => ?_) (fun c1 => ?_)
  · skip
    have hq0 : ¬ q = 0 := fun z => c1 (by rw [z]; rfl)
    refine lv_iconst (v := 1) hx hb d_Door_pass_8 (by decide) ?_
    refine lv_istore_n (lv' := [(3, .int 1), (0, .ref (α 6 d 0)), (1, .ref (α 1 c 0)), (2, .ref (α 0 3 0))]) hx hb d_Door_pass_9 rfl hl (by decide) rfl (fun ls hl => ?_)
    refine W.rep (α := Heap × List Loc × Array Slot × Nat) (fun (H, locs, ls, k) => 40 - k) (fun (H, locs, ls, k) => lv_has ls 4 [(0, .ref (α 6 d 0)), (1, .ref (α 1 c 0)), (2, .ref (α 0 3 0)), (3, .int (nI k))] ∧ HS g (mA M s.heap.size) s.heap (M) H locs ∧ 1 ≤ k ∧ k ≤ 40 ∧ k ≤ q ∧ pcF ν χ d q 39 1 = pcF ν χ d q (40 - k) k) (fun (H, locs, ls, k) => H) (fun (H, locs, ls, k) => locs) (fun (H, locs, ls, k) => F0 mi 10 ls []) ?_ (s.heap, [], ls, 1) ⟨lv_sub hl [1, 2, 3, 0] rfl, hH, by omega, by omega, by omega, rfl⟩
    rintro ⟨H, locs, ls, k⟩ ⟨hl, hH, hi1, hi2, hi3, hi4⟩ ih
    dsimp only at hl hH hi1 hi2 hi3 hi4 ih ⊢
    refine lv_iload_n hx hb d_Door_pass_10 rfl (lv_at hl 3 rfl) ?_
    refine lv_bipush (v := 40) hx hb d_Door_pass_11 (by decide) ?_
    refine lv_icmp_ge (tgt := 36) hx hb d_Door_pass_13 (by decide) (fun c2 => ?_) (fun c2 => ?_)
    · skip
      have hk4 : k = 40 := by have := ge_of (a := 40) c2 (by decide) (by omega); omega
      have hend : pcF ν χ d q (40 - k) k = k := by rw [show 40 - k = 0 by omega]; rfl
      refine lv_aload_n hx hb d_Door_pass_36 rfl (lv_at hl 1 rfl) ?_
      refine lv_aload_n hx hb d_Door_pass_37 rfl (lv_at hl 0 rfl) ?_
      refine m_get (ci := 2) (v := .int ((χ) 17 d)) hx hb hT in_Door hown hK hH.1 (hw_dr hW hd) rfl 3 (by decide) (hT _ w81) (fun _ h9 => h9) rfl d_Door_pass_38 ?_
      rw [show ((χ) 17 d) = nI q from hq]
      refine lv_iload_n hx hb d_Door_pass_41 rfl (lv_at hl 3 rfl) ?_
      refine lv_isub hx hb d_Door_pass_42 ?_
      rw [show ((nI q) - (nI k)) = nI (q - k) from pk_sub hi3]
      refine lv_iconst (v := 1) hx hb d_Door_pass_43 (by decide) ?_
      refine lv_iadd hx hb d_Door_pass_44 ?_
      rw [show ((nI (q - k)) + 1) = nI (q - k + 1) from nI_1 _]
      refine lv_iload_n hx hb d_Door_pass_45 rfl (lv_at hl 3 rfl) ?_
      refine lv_aload_n hx hb d_Door_pass_46 rfl (lv_at hl 1 rfl) ?_
      refine rd_run (c_V (As := []) (rest := [.int (nI k), .int (nI (q - k + 1)), .ref (α 1 c 0)]) hx hb hml hl.1 hown hT hK hH.1 (c_Card_current l g _ α ν χ c _ hW hc) kw_Card_current w529 w487 w488 w13 hd_Card_current rfl rfl ⟨by decide, by decide⟩ (hw_card hW hc) rfl rfl rfl (Nat.le_of_ble_eq_true rfl) d_Door_pass_47 ⟨by decide, by decide⟩) rfl ?_
      refine lv_iconst (v := 2) hx hb d_Door_pass_50 (by decide) ?_
      refine rd_run (c_V (As := [.int 2]) (rest := [.int (nI k), .int (nI (q - k + 1)), .ref (α 1 c 0)]) hx hb hml hl.1 hown hT hK hH.1 (c_Im_at l g _ α ν χ c (xcur χ c) 2 _ hW hc (xcur_lt χ c) (by decide)) kw_Im_at w494 w405 w406 w14 hd_Im_at rfl rfl ⟨by decide, by decide⟩ (hw_im hW hc (xcur_lt χ c)) rfl rfl rfl (Nat.le_of_ble_eq_true rfl) d_Door_pass_51 ⟨by decide, by decide⟩) rfl ?_
      refine lv_aload_n hx hb d_Door_pass_54 rfl (lv_at hl 2 rfl) ?_
      refine m_run (c_V (As := [.int (nI (q - k + 1)), .int (nI k), .int (χ (rW c (xcur χ c)) 2), .ref (α 0 3 0)]) (rest := []) hx hb hml hl.1 hown hT hK hH.1 (c_Card_store l g _ α ν χ c (q - k + 1) k (χ (rW c (xcur χ c)) 2) _ hW hN hc (by omega) (by omega) (by omega)) kw_Card_store w530 w393 w394 w13 hd_Card_store rfl rfl ⟨by decide, by decide⟩ (hw_card hW hc) rfl rfl rfl (Nat.le_of_ble_eq_true rfl) d_Door_pass_55 ⟨by decide, by decide⟩) hH (fun rv M1 H locs hpost hH hzz hdm hfr => ?_)
      replace hW : HW g α ν (stS ν χ c (q - k + 1) k (χ (rW c (xcur χ c)) 2)) M1 := hpost
      refine W.eq (g2 := F0 mi 58 ls []) rfl ?_
      exact m_vret hx hb hr hlocks hsz hH (by show HW g α ν (psS ν χ c d q) _; unfold psS; rw [if_neg hq0, hi4, hend]; exact hW) d_Door_pass_58
    · skip
      have hk4 : k < 40 := by rcases Nat.lt_or_ge k 40 with h9 | h9; exact h9; exact absurd (nI_le (a := 40) h9 (by omega)) c2
      refine lv_aload_n hx hb d_Door_pass_16 rfl (lv_at hl 0 rfl) ?_
      refine lv_aload_n hx hb d_Door_pass_17 rfl (lv_at hl 0 rfl) ?_
      refine m_get (ci := 2) (v := .int ((χ) 17 d)) hx hb hT in_Door hown hK hH.1 (hw_dr hW hd) rfl 3 (by decide) (hT _ w81) (fun _ h9 => h9) rfl d_Door_pass_18 ?_
      rw [show ((χ) 17 d) = nI q from hq]
      refine lv_iload_n hx hb d_Door_pass_21 rfl (lv_at hl 3 rfl) ?_
      refine lv_isub hx hb d_Door_pass_22 ?_
      rw [show ((nI q) - (nI k)) = nI (q - k) from pk_sub hi3]
      refine lv_aload_n hx hb d_Door_pass_23 rfl (lv_at hl 2 rfl) ?_
      refine rd_run (c_V (As := [.int (nI (q - k)), .ref (α 0 3 0)]) (rest := []) hx hb hml hl.1 hown hT hK hH.1 (c_Door_has l g _ α ν χ d (q - k) _ hW hN (by omega) hd) kw_Door_has w509 w510 w511 w6 hd_Door_has rfl rfl ⟨by decide, by decide⟩ (hw_dr hW hd) rfl rfl rfl (Nat.le_of_ble_eq_true rfl) d_Door_pass_24 ⟨by decide, by decide⟩) rfl ?_
      refine lv_if_eq (tgt := 36) hx hb d_Door_pass_27 (by decide) (fun c3 => ?_) (fun c3 => ?_)
      · skip
        have hend : pcF ν χ d q (40 - k) k = k := by obtain ⟨f, hf⟩ : ∃ f, 40 - k = f + 1 := ⟨40 - k - 1, by omega⟩; rw [hf]; exact if_pos c3
        refine lv_aload_n hx hb d_Door_pass_36 rfl (lv_at hl 1 rfl) ?_
        refine lv_aload_n hx hb d_Door_pass_37 rfl (lv_at hl 0 rfl) ?_
        refine m_get (ci := 2) (v := .int ((χ) 17 d)) hx hb hT in_Door hown hK hH.1 (hw_dr hW hd) rfl 3 (by decide) (hT _ w81) (fun _ h9 => h9) rfl d_Door_pass_38 ?_
        rw [show ((χ) 17 d) = nI q from hq]
        refine lv_iload_n hx hb d_Door_pass_41 rfl (lv_at hl 3 rfl) ?_
        refine lv_isub hx hb d_Door_pass_42 ?_
        rw [show ((nI q) - (nI k)) = nI (q - k) from pk_sub hi3]
        refine lv_iconst (v := 1) hx hb d_Door_pass_43 (by decide) ?_
        refine lv_iadd hx hb d_Door_pass_44 ?_
        rw [show ((nI (q - k)) + 1) = nI (q - k + 1) from nI_1 _]
        refine lv_iload_n hx hb d_Door_pass_45 rfl (lv_at hl 3 rfl) ?_
        refine lv_aload_n hx hb d_Door_pass_46 rfl (lv_at hl 1 rfl) ?_
        refine rd_run (c_V (As := []) (rest := [.int (nI k), .int (nI (q - k + 1)), .ref (α 1 c 0)]) hx hb hml hl.1 hown hT hK hH.1 (c_Card_current l g _ α ν χ c _ hW hc) kw_Card_current w529 w487 w488 w13 hd_Card_current rfl rfl ⟨by decide, by decide⟩ (hw_card hW hc) rfl rfl rfl (Nat.le_of_ble_eq_true rfl) d_Door_pass_47 ⟨by decide, by decide⟩) rfl ?_
        refine lv_iconst (v := 2) hx hb d_Door_pass_50 (by decide) ?_
        refine rd_run (c_V (As := [.int 2]) (rest := [.int (nI k), .int (nI (q - k + 1)), .ref (α 1 c 0)]) hx hb hml hl.1 hown hT hK hH.1 (c_Im_at l g _ α ν χ c (xcur χ c) 2 _ hW hc (xcur_lt χ c) (by decide)) kw_Im_at w494 w405 w406 w14 hd_Im_at rfl rfl ⟨by decide, by decide⟩ (hw_im hW hc (xcur_lt χ c)) rfl rfl rfl (Nat.le_of_ble_eq_true rfl) d_Door_pass_51 ⟨by decide, by decide⟩) rfl ?_
        refine lv_aload_n hx hb d_Door_pass_54 rfl (lv_at hl 2 rfl) ?_
        refine m_run (c_V (As := [.int (nI (q - k + 1)), .int (nI k), .int (χ (rW c (xcur χ c)) 2), .ref (α 0 3 0)]) (rest := []) hx hb hml hl.1 hown hT hK hH.1 (c_Card_store l g _ α ν χ c (q - k + 1) k (χ (rW c (xcur χ c)) 2) _ hW hN hc (by omega) (by omega) (by omega)) kw_Card_store w530 w393 w394 w13 hd_Card_store rfl rfl ⟨by decide, by decide⟩ (hw_card hW hc) rfl rfl rfl (Nat.le_of_ble_eq_true rfl) d_Door_pass_55 ⟨by decide, by decide⟩) hH (fun rv M1 H locs hpost hH hzz hdm hfr => ?_)
        replace hW : HW g α ν (stS ν χ c (q - k + 1) k (χ (rW c (xcur χ c)) 2)) M1 := hpost
        refine W.eq (g2 := F0 mi 58 ls []) rfl ?_
        exact m_vret hx hb hr hlocks hsz hH (by show HW g α ν (psS ν χ c d q) _; unfold psS; rw [if_neg hq0, hi4, hend]; exact hW) d_Door_pass_58
      · skip
        have hx1 := (bI_n.mp c3).1
        have hrec : pcF ν χ d q (40 - k) k = pcF ν χ d q (40 - (k + 1)) (k + 1) := by obtain ⟨f, hf⟩ : ∃ f, 40 - k = f + 1 := ⟨40 - k - 1, by omega⟩; rw [hf, show 40 - (k + 1) = f by omega]; exact if_neg c3
        refine lv_iinc (v := nI (k + 1)) (lv' := [(3, .int (nI (k + 1))), (0, .ref (α 6 d 0)), (1, .ref (α 1 c 0)), (2, .ref (α 0 3 0))]) hx hb d_Door_pass_30 hl (k := 3) rfl (nI_1 k) (by decide) rfl (fun ls hl => ?_)
        refine lv_goto (tgt := 10) hx hb d_Door_pass_33 (by decide) ?_
        exact ih (_, _, _, k + 1) ⟨lv_sub hl [1, 2, 3, 0] rfl, hH, by dsimp only; omega, by dsimp only; omega, by dsimp only; omega, by rw [hi4, hrec]⟩ (by dsimp only; omega)
  · skip
    have hq0 : q = 0 := (nI_eq (b := 0) (by omega) (by decide)).mp c1
    exact m_vret hx hb hr hlocks hsz hH (by show HW g α ν (psS ν χ c d q) _; unfold psS; rw [if_pos hq0]; exact hW) d_Door_pass_7
set_option maxHeartbeats 4000000 in
set_option maxRecDepth 100000 in
theorem c_H_present (l : Launch) (g : GG) (M : MW) (α : AL3) (ν : Nat → Nat) (χ : SG) (c d a n e2 z g0 : Nat) (day : Int32) (sz : Nat) (hW : HW g α ν χ M) (hN : nOK ν) (hc : c < ν 0) (hd : d < 200) (hf : χ (rW c (xcur χ c)) 1 = nI a) (hn : xcn χ c (xcur χ c) = nI n) (ha6 : a + n ≤ 601) (he : χ 6 c = nI e2) (he6 : e2 ≤ 600) (hz : χ 9 d = nI z) (hg : χ 17 d = nI g0) (hg6 : g0 ≤ 600) : Met l y_H_present (k_H_present :: TT) { frames := 6, cells := 0, slots := 0, locals := 137 } (Pm g [.ref (α 0 0 0), .ref (α 1 c 0), .ref (α 6 d 0), .int day] sz (M)) (Qm g M (fun r : Int32 => some (.int r)) (fun r M1 => r = xjd ν (tkE ν χ c (xcur χ c) d a n) c d e2 z day ∧ HW g α ν (psS ν (tkE ν χ c (xcur χ c) d a n) c d (if n = 0 then g0 else if g0 < a + n - 1 then a + n - 1 else g0)) M1)) 0 0 (mA M sz) := by
  refine met_of (by decide) (Nat.le_of_ble_eq_true rfl) ?_
  intro pr en s mi below meth co hx hb hr hml hown hlocks hnm hT hsz hP hK ls hl
  have hl : lv_has ls 5 [(0, .ref (α 0 0 0)), (1, .ref (α 1 c 0)), (2, .ref (α 6 d 0)), (3, .int day)] := hl
  have hH := HS.start hP
  refine lv_aload_n hx hb d_H_present_0 rfl (lv_at hl 2 rfl) ?_
  refine lv_aload_n hx hb d_H_present_1 rfl (lv_at hl 1 rfl) ?_
  refine rd_run (c_V (As := []) (rest := [.ref (α 6 d 0)]) hx hb hml hl.1 hown hT hK hH.1 (c_Card_current l g _ α ν χ c _ hW hc) kw_Card_current w486 w487 w488 w13 hd_Card_current rfl rfl ⟨by decide, by decide⟩ (hw_card hW hc) rfl rfl rfl (Nat.le_of_ble_eq_true rfl) d_H_present_2 ⟨by decide, by decide⟩) rfl ?_
  refine lv_aload_n hx hb d_H_present_5 rfl (lv_at hl 0 rfl) ?_
  refine m_get (ci := 6) (v := .ref (α 0 3 0)) hx hb hT in_H hown hK hH.1 (hw_00 hW) rfl 1 (by decide) (hT _ w101) (fun _ h9 => h9) rfl d_H_present_6 ?_
  refine m_run (c_V (As := [.ref (α 2 c (xcur χ c)), .ref (α 0 3 0)]) (rest := []) hx hb hml hl.1 hown hT hK hH.1 (c_Door_take l g _ α ν χ c (xcur χ c) d a n _ hW hN hc (xcur_lt χ c) hd hf hn (by omega)) kw_Door_take w490 w491 w492 w6 hd_Door_take rfl rfl ⟨by decide, by decide⟩ (hw_dr hW hd) rfl rfl rfl (Nat.le_of_ble_eq_true rfl) d_H_present_9 ⟨by decide, by decide⟩) hH (fun rv M1 H locs hpost hH hzz hdm hfr => ?_)
  replace hW : HW g α ν (tkE ν χ c (xcur χ c) d a n) M1 := hpost
  refine W.eq (g2 := F0 mi 12 ls []) rfl ?_
  refine lv_aload_n hx hb d_H_present_12 rfl (lv_at hl 2 rfl) ?_
  refine lv_aload_n hx hb d_H_present_13 rfl (lv_at hl 1 rfl) ?_
  refine lv_iload_n hx hb d_H_present_14 rfl (lv_at hl 3 rfl) ?_
  refine lv_aload_n hx hb d_H_present_15 rfl (lv_at hl 0 rfl) ?_
  refine m_get (ci := 6) (v := .ref (α 0 3 0)) hx hb hT in_H hown hK hH.1 (hw_00 hW) rfl 1 (by decide) (hT _ w101) (fun _ h9 => h9) rfl d_H_present_16 ?_
  refine rd_run (c_V (As := [.ref (α 1 c 0), .int day, .ref (α 0 3 0)]) (rest := []) hx hb hml hl.1 hown hT hK hH.1 (c_Door_judge l g _ α ν (tkE ν χ c (xcur χ c) d a n) c d e2 z day _ hW hN hd hc ((congrFun (tkE_r (Or.inl (by decide))) c).trans he) (by omega) ((congrFun (tkE_r (Or.inl (by decide))) d).trans hz)) kw_Door_judge w505 w506 w507 w6 hd_Door_judge rfl rfl ⟨by decide, by decide⟩ (hw_dr hW hd) rfl rfl rfl (Nat.le_of_ble_eq_true rfl) d_H_present_19 ⟨by decide, by decide⟩) rfl ?_
  refine lv_istore (lv' := [(4, .int (xjd ν (tkE ν χ c (xcur χ c) d a n) c d e2 z day)), (0, .ref (α 0 0 0)), (1, .ref (α 1 c 0)), (2, .ref (α 6 d 0)), (3, .int day)]) hx hb d_H_present_22 hl (by decide) rfl (fun ls hl => ?_)
  refine lv_aload_n hx hb d_H_present_24 rfl (lv_at hl 3 rfl) ?_
  refine lv_aload_n hx hb d_H_present_25 rfl (lv_at hl 2 rfl) ?_
  refine lv_aload_n hx hb d_H_present_26 rfl (lv_at hl 1 rfl) ?_
  refine m_get (ci := 6) (v := .ref (α 0 3 0)) hx hb hT in_H hown hK hH.1 (hw_00 hW) rfl 1 (by decide) (hT _ w101) (fun _ h9 => h9) rfl d_H_present_27 ?_
  refine m_run (c_V (As := [.ref (α 1 c 0), .ref (α 0 3 0)]) (rest := []) hx hb hml hl.1 hown hT hK hH.1 (c_Door_pass l g _ α ν (tkE ν χ c (xcur χ c) d a n) c d (if n = 0 then g0 else if g0 < a + n - 1 then a + n - 1 else g0) _ hW hN hc hd (tkE_17 hg hg6 ha6) (by split <;> first | omega | (split <;> omega))) kw_Door_pass w525 w526 w527 w6 hd_Door_pass rfl rfl ⟨by decide, by decide⟩ (hw_dr hW hd) rfl rfl rfl (Nat.le_of_ble_eq_true rfl) d_H_present_30 ⟨by decide, by decide⟩) hH (fun rv M1 H locs hpost hH hzz hdm hfr => ?_)
  replace hW : HW g α ν (psS ν (tkE ν χ c (xcur χ c) d a n) c d (if n = 0 then g0 else if g0 < a + n - 1 then a + n - 1 else g0)) M1 := hpost
  refine W.eq (g2 := F0 mi 33 ls []) rfl ?_
  refine lv_iload hx hb d_H_present_33 (lv_at hl 0 rfl) ?_
  exact m_iret hx hb hr hlocks hsz hH (⟨rfl, hW⟩) d_H_present_35
