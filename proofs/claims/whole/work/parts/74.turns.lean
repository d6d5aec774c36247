/-! One turn of the law's loop. -/
def LC (p : Program) (l : Launch) (s : State) (m : MethodId) (c : Code) (g : GG) (de mir b L : Nat) (xs : Nat → Int32) : Prop := p.tables.exec = Jvm.exec ∧ c.code = code ∧ c.maxLocals = 7 ∧ s.vm.findClass "LockHouseLaw" = some m.cls ∧ (∀ w ∈ TT, w.before #[Value.ref b] s = true) ∧ KK g s ∧ ZH s s.heap ∧ DD g (fun q => s.heap.size ≤ q) de mir s s.heap ∧ ZN s ∧ va_X b L xs s s.heap ∧ b < s.heap.size ∧ l.stackTraces = false ∧ L ≤ 2560
def CL (g : GG) (α : AL3) (ν : Nat → Nat) (χ : SG) (MC : MW) (de : Nat) (σ : SG) (a0 : Nat) : Prop := HW g α ν χ MC ∧ nOK ν ∧ LD α ν de ∧ RI ν χ σ ∧ α 0 0 0 = a0
theorem lg_same {x y : Int64} (h : x = y) : lg_cmp x y = 0 := by
  unfold lg_cmp
  rw [h, if_neg (by simp), if_pos rfl]
section LAWT
variable {p : Program} {l : Launch} {e : Env} {s : State} {m : MethodId} {below : List Frame} {meth : Method} {c : Code} {H : Heap} {cells slots : Nat} {Q : State → Prop} {g : GG} {de mir b L : Nat} {xs : Nat → Int32} {t o a0 i : Nat} {σ χ : SG} {MC : MW} {f : Nat → Int64} {α : AL3} {ν : Nat → Nat} {ls : Array Slot} {pc : Nat} {rest : List Value} {R : Room}
theorem l_sld (C : LC p l s m c g de mir b L xs) (hLI : LI g s t o σ MC f H) {x : Int32} {j : Nat} (hx : x = nI j) (hj : j < L) (hdg : decode code pc = .ok (.iaload, 1)) (kk : W p l e R s m #[Value.ref b] below meth c H [] cells slots Q (F0 m (pc + 1) ls (.int (xs j) :: rest))) : W p l e R s m #[Value.ref b] below meth c H [] cells slots Q (F0 m pc ls (.int x :: .ref b :: rest)) := by
  obtain ⟨hx0, hb, -, -, -, -, -, -, -, hX, hbl, -, hL⟩ := C
  subst hx
  refine va_sld (A := fun q => s.heap.size ≤ q) hx0 hb hX hbl (Nat.not_le.mpr hbl) hLI.2.2.2.2.2 (vp_in_nI hj (by omega)) hdg ?_
  rw [nI_clamp (by omega)]
  exact kk
set_option maxHeartbeats 4000000 in
set_option maxRecDepth 100000 in
theorem turn_issue (C : LC p l s m c g de mir b L xs) (hl : lv_has ls 7 [(4, .int (nI i)), (3, .ref o), (2, .ref t), (1, .ref a0), (0, .ref b)]) (hLI : LI g s t o σ MC f H) (hCL : CL g α ν χ MC de σ a0) (h60 : ν 0 < 600) (h61 : ν 1 < 600) (hi : i + 5 ≤ L) (hcc : cells + 6 ≤ 601024) (hss : slots + 1202 ≤ 7293033)
    (kk : ∀ (ls' : Array Slot) (H' : Heap) (MC' : MW) (f' : Nat → Int64) (σ' : SG) (α' : AL3) (ν' : Nat → Nat) (χ' : SG), lv_has ls' 7 [(4, .int (nI i)), (3, .ref o), (2, .ref t), (1, .ref a0), (0, .ref b)] → LI g s t o σ' MC' f' H' → CL g α' ν' χ' MC' de σ' a0 → ν' 0 ≤ ν 0 + 1 → ν' 1 ≤ ν 1 + 1 → W p l e room_1 s m #[Value.ref b] below meth c H' [] (cells + 6) (slots + 1202) Q (F0 m 1221 ls' [])) : W p l e room_1 s m #[Value.ref b] below meth c H [] cells slots Q (F0 m 128 ls []) := by
  obtain ⟨hW, hN1, hLD, hR, rfl⟩ := hCL
  obtain ⟨hx, hb, hml, hown, hT, hK, hZ, hD, hN, hX, hbl, hlf, hL⟩ := id C
  obtain ⟨r, σ', hTC, hHC⟩ := op_issue l hlf g α ν χ σ MC de mir o hW hN1 hLD hR hLI.no h60 h61 (xs (i + 1)) (xs (i + 2))
  refine lv_aload_n hx hb d_law_128 rfl (lv_at hl 3 rfl) ?_
  refine lv_aload_n hx hb d_law_129 rfl (lv_at hl 4 rfl) ?_
  refine lv_iload hx hb d_law_130 (lv_at hl 0 rfl) ?_
  refine lv_iconst (v := 1) hx hb d_law_132 (by decide) ?_
  refine lv_iadd hx hb d_law_133 ?_
  refine l_sld C hLI (j := i + 1) (nI_add i 1) (by omega) d_law_134 ?_
  refine lv_aload_n hx hb d_law_135 rfl (lv_at hl 4 rfl) ?_
  refine lv_iload hx hb d_law_136 (lv_at hl 0 rfl) ?_
  refine lv_iconst (v := 2) hx hb d_law_138 (by decide) ?_
  refine lv_iadd hx hb d_law_139 ?_
  refine l_sld C hLI (j := i + 2) (nI_add i 2) (by omega) d_law_140 ?_
  refine lv_aload_n hx hb d_law_141 rfl (lv_at hl 1 rfl) ?_
  refine w_help hLI (c_SW (As := [.ref (α 0 0 0), .int (xs (i + 1)), .int (xs (i + 2)), .ref o]) (rest := []) hx hb hml hl.1 hown hT hK hLI.hsM.1 (hLI.z hZ) (dd_of hLI.hsM hD) hN (hHC f H.size) kw_L_issue w136 w137 w0 hd_L_issue rfl rfl ⟨by decide, by decide⟩ rfl rfl (Nat.le_of_ble_eq_true rfl) d_law_142 ⟨by show cells + 6 ≤ 601024; omega, by show slots + 1098 ≤ 7293033; omega⟩) (fun MC' α' ν' χ' f' H' q1 q2 q3 q4 q5 q6 q7 q8 hLI => ?_)
  refine lv_istore (lv' := [(5, .int (σ' 0 0)), (4, .int (nI i)), (3, .ref o), (2, .ref t), (1, .ref (α 0 0 0)), (0, .ref b)]) hx hb d_law_145 hl (by decide) rfl (fun ls hl => ?_)
  refine lv_aload_n hx hb d_law_147 rfl (lv_at hl 3 rfl) ?_
  refine lv_aload_n hx hb d_law_148 rfl (lv_at hl 5 rfl) ?_
  refine lv_iload hx hb d_law_149 (lv_at hl 1 rfl) ?_
  refine lv_iconst (v := 1) hx hb d_law_151 (by decide) ?_
  refine lv_iadd hx hb d_law_152 ?_
  refine l_sld C hLI (j := i + 1) (nI_add i 1) (by omega) d_law_153 ?_
  refine lv_aload_n hx hb d_law_154 rfl (lv_at hl 5 rfl) ?_
  refine lv_iload hx hb d_law_155 (lv_at hl 1 rfl) ?_
  refine lv_iconst (v := 2) hx hb d_law_157 (by decide) ?_
  refine lv_iadd hx hb d_law_158 ?_
  refine l_sld C hLI (j := i + 2) (nI_add i 2) (by omega) d_law_159 ?_
  refine w_twin hLI (c_V (As := [.int (xs (i + 1)), .int (xs (i + 2))]) (rest := []) hx hb hml hl.1 hown hT hK hLI.hsT.1 (hTC t H'.size) kw_T_issue w731 w732 w733 w8 hd_T_issue rfl rfl ⟨by decide, by decide⟩ tw_t rfl rfl rfl (Nat.le_of_ble_eq_true rfl) d_law_160 ⟨by show cells + 6 + 0 ≤ 601024; omega, by show slots + 1098 + 0 ≤ 7293033; omega⟩) (fun H'' hLI => ?_)
  refine W.eq (g2 := F0 m 163 ls [.int r]) rfl ?_
  refine lv_istore (lv' := [(6, .int r), (5, .int (σ' 0 0)), (4, .int (nI i)), (3, .ref o), (2, .ref t), (1, .ref (α 0 0 0)), (0, .ref b)]) hx hb d_law_163 hl (by decide) rfl (fun ls hl => ?_)
  refine lv_aload_n hx hb d_law_165 rfl (lv_at hl 4 rfl) ?_
  refine rd_run (c_V (As := []) (rest := []) hx hb hml hl.1 hown hT hK hLI.hsT.1 (c_T_thrown l g t σ' H''.size) kw_T_thrown w727 w728 w729 w8 hd_T_thrown rfl rfl ⟨by decide, by decide⟩ tw_t rfl rfl rfl (Nat.le_of_ble_eq_true rfl) d_law_166 ⟨by show cells + 6 + 0 + 0 ≤ 601024; omega, by show slots + 1098 + 0 + 0 ≤ 7293033; omega⟩) rfl ?_
  refine lv_iload hx hb d_law_169 (lv_at hl 1 rfl) ?_
  refine lv_icmp_eq (tgt := 176) hx hb d_law_171 (by decide) (fun _ => ?_) (fun hq9 => absurd (rfl) hq9)
  refine lv_iload hx hb d_law_176 (lv_at hl 1 rfl) ?_
  refine lv_if_ne (tgt := 193) hx hb d_law_178 (by decide) (fun c1 => ?_) (fun c1 => ?_)
  · skip
    refine lv_goto (tgt := 1221) hx hb d_law_193 (by decide) ?_
    refine W.more (cells' := cells + 6) (slots' := slots + 1202) (by omega) (by omega) ?_
    exact kk _ _ MC' f' σ' α' ν' χ' (lv_sub hl [2, 3, 4, 5, 6] rfl) hLI ⟨q1, q2, q3, q4, q5⟩ q6 q7
  · skip
    refine lv_aload_n hx hb d_law_181 rfl (lv_at hl 3 rfl) ?_
    refine lv_iconst (v := 0) hx hb d_law_182 (by decide) ?_
    refine m_lald hx hb hK hLI.hsM.1 3 (show mu MC' o (oL g f') o = some (.inl (g.2 3, 1, .inr (.inl f'))) from mu_s) rfl (j := 0) rfl (by decide) (by decide) d_law_183 ?_
    refine lv_iload hx hb d_law_184 (lv_at hl 0 rfl) ?_
    refine lv_i2l (v := r.toInt64) hx hb d_law_186 rfl ?_
    refine W.lcmp hx hb d_law_187 ?_
    refine lv_if_eq (tgt := 193) hx hb d_law_188 (by decide) (fun _ => ?_) (fun hq9 => absurd (lg_same (q8 c1)) hq9)
    refine lv_goto (tgt := 1221) hx hb d_law_193 (by decide) ?_
    refine W.more (cells' := cells + 6) (slots' := slots + 1202) (by omega) (by omega) ?_
    exact kk _ _ MC' f' σ' α' ν' χ' (lv_sub hl [2, 3, 4, 5, 6] rfl) hLI ⟨q1, q2, q3, q4, q5⟩ q6 q7
set_option maxHeartbeats 4000000 in
set_option maxRecDepth 100000 in
theorem turn_cards (C : LC p l s m c g de mir b L xs) (hl : lv_has ls 7 [(4, .int (nI i)), (3, .ref o), (2, .ref t), (1, .ref a0), (0, .ref b)]) (hLI : LI g s t o σ MC f H) (hCL : CL g α ν χ MC de σ a0) (h60 : ν 0 < 600) (h61 : ν 1 < 600) (hi : i + 5 ≤ L) (hcc : cells + 6 ≤ 601024) (hss : slots + 1202 ≤ 7293033)
    (kk : ∀ (ls' : Array Slot) (H' : Heap) (MC' : MW) (f' : Nat → Int64) (σ' : SG) (α' : AL3) (ν' : Nat → Nat) (χ' : SG), lv_has ls' 7 [(4, .int (nI i)), (3, .ref o), (2, .ref t), (1, .ref a0), (0, .ref b)] → LI g s t o σ' MC' f' H' → CL g α' ν' χ' MC' de σ' a0 → ν' 0 ≤ ν 0 + 1 → ν' 1 ≤ ν 1 + 1 → W p l e room_1 s m #[Value.ref b] below meth c H' [] (cells + 6) (slots + 1202) Q (F0 m 1221 ls' [])) : W p l e room_1 s m #[Value.ref b] below meth c H [] cells slots Q (F0 m 196 ls []) := by
  obtain ⟨hW, hN1, hLD, hR, rfl⟩ := hCL
  obtain ⟨hx, hb, hml, hown, hT, hK, hZ, hD, hN, hX, hbl, hlf, hL⟩ := id C
  refine lv_aload_n hx hb d_law_196 rfl (lv_at hl 3 rfl) ?_
  refine rd_run (c_V (As := []) (rest := []) hx hb hml hl.1 hown hT hK hLI.1 (c_H_cards l g MC α ν χ H.size hW) kw_H_cards w119 w120 w121 w1 hd_H_cards rfl rfl ⟨by decide, by decide⟩ (hw_00 hW) rfl rfl rfl (Nat.le_of_ble_eq_true rfl) d_law_197 ⟨by show cells + 0 ≤ 601024; omega, by show slots + 0 ≤ 7293033; omega⟩) rfl ?_
  refine lv_aload_n hx hb d_law_200 rfl (lv_at hl 2 rfl) ?_
  refine w_twin hLI (c_V (As := []) (rest := [.int (nI (ν 0))]) hx hb hml hl.1 hown hT hK hLI.hsT.1 (c_T_cards l g t σ H.size) kw_T_cards w735 w736 w737 w8 hd_T_cards rfl rfl ⟨by decide, by decide⟩ tw_t rfl rfl rfl (Nat.le_of_ble_eq_true rfl) d_law_201 ⟨by show cells + 0 ≤ 601024; omega, by show slots + 0 ≤ 7293033; omega⟩) (fun H'' hLI => ?_)
  refine W.eq (g2 := F0 m 204 ls [.int (σ 0 1), .int (nI (ν 0))]) rfl ?_
  refine lv_icmp_eq (tgt := 1221) hx hb d_law_204 (by decide) (fun _ => ?_) (fun hq9 => absurd (hR.1.1.symm) hq9)
  refine W.more (cells' := cells + 6) (slots' := slots + 1202) (by omega) (by omega) ?_
  exact kk _ _ MC f (su σ 0 0 0) α ν χ (lv_sub hl [0, 1, 2, 3, 4] rfl) hLI ⟨hW, hN1, hLD, hR.code 0, rfl⟩ (by omega) (by omega)
set_option maxHeartbeats 4000000 in
set_option maxRecDepth 100000 in
theorem turn_revoke (C : LC p l s m c g de mir b L xs) (hl : lv_has ls 7 [(4, .int (nI i)), (3, .ref o), (2, .ref t), (1, .ref a0), (0, .ref b)]) (hLI : LI g s t o σ MC f H) (hCL : CL g α ν χ MC de σ a0) (h60 : ν 0 < 600) (h61 : ν 1 < 600) (hi : i + 5 ≤ L) (hcc : cells + 6 ≤ 601024) (hss : slots + 1202 ≤ 7293033)
    (kk : ∀ (ls' : Array Slot) (H' : Heap) (MC' : MW) (f' : Nat → Int64) (σ' : SG) (α' : AL3) (ν' : Nat → Nat) (χ' : SG), lv_has ls' 7 [(4, .int (nI i)), (3, .ref o), (2, .ref t), (1, .ref a0), (0, .ref b)] → LI g s t o σ' MC' f' H' → CL g α' ν' χ' MC' de σ' a0 → ν' 0 ≤ ν 0 + 1 → ν' 1 ≤ ν 1 + 1 → W p l e room_1 s m #[Value.ref b] below meth c H' [] (cells + 6) (slots + 1202) Q (F0 m 1221 ls' [])) : W p l e room_1 s m #[Value.ref b] below meth c H [] cells slots Q (F0 m 209 ls []) := by
  obtain ⟨hW, hN1, hLD, hR, rfl⟩ := hCL
  obtain ⟨hx, hb, hml, hown, hT, hK, hZ, hD, hN, hX, hbl, hlf, hL⟩ := id C
  obtain ⟨r, σ', hTC, hHC⟩ := op_revoke l hlf g α ν χ σ MC de mir o hW hN1 hLD hR hLI.no h60 h61 (xs (i + 1))
  refine lv_aload_n hx hb d_law_209 rfl (lv_at hl 3 rfl) ?_
  refine lv_aload_n hx hb d_law_210 rfl (lv_at hl 4 rfl) ?_
  refine lv_iload hx hb d_law_211 (lv_at hl 0 rfl) ?_
  refine lv_iconst (v := 1) hx hb d_law_213 (by decide) ?_
  refine lv_iadd hx hb d_law_214 ?_
  refine l_sld C hLI (j := i + 1) (nI_add i 1) (by omega) d_law_215 ?_
  refine lv_aload_n hx hb d_law_216 rfl (lv_at hl 1 rfl) ?_
  refine w_help hLI (c_SW (As := [.ref (α 0 0 0), .int (xs (i + 1)), .ref o]) (rest := []) hx hb hml hl.1 hown hT hK hLI.hsM.1 (hLI.z hZ) (dd_of hLI.hsM hD) hN (hHC f H.size) kw_L_revoke w317 w318 w0 hd_L_revoke rfl rfl ⟨by decide, by decide⟩ rfl rfl (Nat.le_of_ble_eq_true rfl) d_law_217 ⟨by show cells + 3 ≤ 601024; omega, by show slots + 1202 ≤ 7293033; omega⟩) (fun MC' α' ν' χ' f' H' q1 q2 q3 q4 q5 q6 q7 q8 hLI => ?_)
  refine lv_istore (lv' := [(5, .int (σ' 0 0)), (4, .int (nI i)), (3, .ref o), (2, .ref t), (1, .ref (α 0 0 0)), (0, .ref b)]) hx hb d_law_220 hl (by decide) rfl (fun ls hl => ?_)
  refine lv_aload_n hx hb d_law_222 rfl (lv_at hl 3 rfl) ?_
  refine lv_aload_n hx hb d_law_223 rfl (lv_at hl 5 rfl) ?_
  refine lv_iload hx hb d_law_224 (lv_at hl 1 rfl) ?_
  refine lv_iconst (v := 1) hx hb d_law_226 (by decide) ?_
  refine lv_iadd hx hb d_law_227 ?_
  refine l_sld C hLI (j := i + 1) (nI_add i 1) (by omega) d_law_228 ?_
  refine w_twin hLI (c_V (As := [.int (xs (i + 1))]) (rest := []) hx hb hml hl.1 hown hT hK hLI.hsT.1 (hTC t H'.size) kw_T_revoke w739 w740 w741 w8 hd_T_revoke rfl rfl ⟨by decide, by decide⟩ tw_t rfl rfl rfl (Nat.le_of_ble_eq_true rfl) d_law_229 ⟨by show cells + 3 + 0 ≤ 601024; omega, by show slots + 1202 + 0 ≤ 7293033; omega⟩) (fun H'' hLI => ?_)
  refine W.eq (g2 := F0 m 232 ls [.int r]) rfl ?_
  refine lv_istore (lv' := [(6, .int r), (5, .int (σ' 0 0)), (4, .int (nI i)), (3, .ref o), (2, .ref t), (1, .ref (α 0 0 0)), (0, .ref b)]) hx hb d_law_232 hl (by decide) rfl (fun ls hl => ?_)
  refine lv_aload_n hx hb d_law_234 rfl (lv_at hl 4 rfl) ?_
  refine rd_run (c_V (As := []) (rest := []) hx hb hml hl.1 hown hT hK hLI.hsT.1 (c_T_thrown l g t σ' H''.size) kw_T_thrown w727 w728 w729 w8 hd_T_thrown rfl rfl ⟨by decide, by decide⟩ tw_t rfl rfl rfl (Nat.le_of_ble_eq_true rfl) d_law_235 ⟨by show cells + 3 + 0 + 0 ≤ 601024; omega, by show slots + 1202 + 0 + 0 ≤ 7293033; omega⟩) rfl ?_
  refine lv_iload hx hb d_law_238 (lv_at hl 1 rfl) ?_
  refine lv_icmp_eq (tgt := 245) hx hb d_law_240 (by decide) (fun _ => ?_) (fun hq9 => absurd (rfl) hq9)
  refine lv_iload hx hb d_law_245 (lv_at hl 1 rfl) ?_
  refine lv_if_ne (tgt := 262) hx hb d_law_247 (by decide) (fun c1 => ?_) (fun c1 => ?_)
  · skip
    refine lv_goto (tgt := 1221) hx hb d_law_262 (by decide) ?_
    refine W.more (cells' := cells + 6) (slots' := slots + 1202) (by omega) (by omega) ?_
    exact kk _ _ MC' f' σ' α' ν' χ' (lv_sub hl [2, 3, 4, 5, 6] rfl) hLI ⟨q1, q2, q3, q4, q5⟩ q6 q7
  · skip
    refine lv_aload_n hx hb d_law_250 rfl (lv_at hl 3 rfl) ?_
    refine lv_iconst (v := 0) hx hb d_law_251 (by decide) ?_
    refine m_lald hx hb hK hLI.hsM.1 3 (show mu MC' o (oL g f') o = some (.inl (g.2 3, 1, .inr (.inl f'))) from mu_s) rfl (j := 0) rfl (by decide) (by decide) d_law_252 ?_
    refine lv_iload hx hb d_law_253 (lv_at hl 0 rfl) ?_
    refine lv_i2l (v := r.toInt64) hx hb d_law_255 rfl ?_
    refine W.lcmp hx hb d_law_256 ?_
    refine lv_if_eq (tgt := 262) hx hb d_law_257 (by decide) (fun _ => ?_) (fun hq9 => absurd (lg_same (q8 c1)) hq9)
    refine lv_goto (tgt := 1221) hx hb d_law_262 (by decide) ?_
    refine W.more (cells' := cells + 6) (slots' := slots + 1202) (by omega) (by omega) ?_
    exact kk _ _ MC' f' σ' α' ν' χ' (lv_sub hl [2, 3, 4, 5, 6] rfl) hLI ⟨q1, q2, q3, q4, q5⟩ q6 q7
set_option maxHeartbeats 4000000 in
set_option maxRecDepth 100000 in
theorem turn_entries (C : LC p l s m c g de mir b L xs) (hl : lv_has ls 7 [(4, .int (nI i)), (3, .ref o), (2, .ref t), (1, .ref a0), (0, .ref b)]) (hLI : LI g s t o σ MC f H) (hCL : CL g α ν χ MC de σ a0) (h60 : ν 0 < 600) (h61 : ν 1 < 600) (hi : i + 5 ≤ L) (hcc : cells + 6 ≤ 601024) (hss : slots + 1202 ≤ 7293033)
    (kk : ∀ (ls' : Array Slot) (H' : Heap) (MC' : MW) (f' : Nat → Int64) (σ' : SG) (α' : AL3) (ν' : Nat → Nat) (χ' : SG), lv_has ls' 7 [(4, .int (nI i)), (3, .ref o), (2, .ref t), (1, .ref a0), (0, .ref b)] → LI g s t o σ' MC' f' H' → CL g α' ν' χ' MC' de σ' a0 → ν' 0 ≤ ν 0 + 1 → ν' 1 ≤ ν 1 + 1 → W p l e room_1 s m #[Value.ref b] below meth c H' [] (cells + 6) (slots + 1202) Q (F0 m 1221 ls' [])) : W p l e room_1 s m #[Value.ref b] below meth c H [] cells slots Q (F0 m 265 ls []) := by
  obtain ⟨hW, hN1, hLD, hR, rfl⟩ := hCL
  obtain ⟨hx, hb, hml, hown, hT, hK, hZ, hD, hN, hX, hbl, hlf, hL⟩ := id C
  refine lv_aload_n hx hb d_law_265 rfl (lv_at hl 3 rfl) ?_
  refine rd_run (c_V (As := []) (rest := []) hx hb hml hl.1 hown hT hK hLI.1 (c_H_entries l g MC α ν χ H.size hW) kw_H_entries w127 w128 w129 w1 hd_H_entries rfl rfl ⟨by decide, by decide⟩ (hw_00 hW) rfl rfl rfl (Nat.le_of_ble_eq_true rfl) d_law_266 ⟨by show cells + 0 ≤ 601024; omega, by show slots + 0 ≤ 7293033; omega⟩) rfl ?_
  refine lv_aload_n hx hb d_law_269 rfl (lv_at hl 2 rfl) ?_
  refine w_twin hLI (c_V (As := []) (rest := [.int (nI (ν 1))]) hx hb hml hl.1 hown hT hK hLI.hsT.1 (c_T_entries l g t σ H.size) kw_T_entries w747 w748 w749 w8 hd_T_entries rfl rfl ⟨by decide, by decide⟩ tw_t rfl rfl rfl (Nat.le_of_ble_eq_true rfl) d_law_270 ⟨by show cells + 0 ≤ 601024; omega, by show slots + 0 ≤ 7293033; omega⟩) (fun H'' hLI => ?_)
  refine W.eq (g2 := F0 m 273 ls [.int (σ 0 2), .int (nI (ν 1))]) rfl ?_
  refine lv_icmp_eq (tgt := 1221) hx hb d_law_273 (by decide) (fun _ => ?_) (fun hq9 => absurd (hR.1.2.1.symm) hq9)
  refine W.more (cells' := cells + 6) (slots' := slots + 1202) (by omega) (by omega) ?_
  exact kk _ _ MC f (su σ 0 0 0) α ν χ (lv_sub hl [0, 1, 2, 3, 4] rfl) hLI ⟨hW, hN1, hLD, hR.code 0, rfl⟩ (by omega) (by omega)
set_option maxHeartbeats 4000000 in
set_option maxRecDepth 100000 in
theorem turn_gate (C : LC p l s m c g de mir b L xs) (hl : lv_has ls 7 [(4, .int (nI i)), (3, .ref o), (2, .ref t), (1, .ref a0), (0, .ref b)]) (hLI : LI g s t o σ MC f H) (hCL : CL g α ν χ MC de σ a0) (h60 : ν 0 < 600) (h61 : ν 1 < 600) (hi : i + 5 ≤ L) (hcc : cells + 6 ≤ 601024) (hss : slots + 1202 ≤ 7293033)
    (kk : ∀ (ls' : Array Slot) (H' : Heap) (MC' : MW) (f' : Nat → Int64) (σ' : SG) (α' : AL3) (ν' : Nat → Nat) (χ' : SG), lv_has ls' 7 [(4, .int (nI i)), (3, .ref o), (2, .ref t), (1, .ref a0), (0, .ref b)] → LI g s t o σ' MC' f' H' → CL g α' ν' χ' MC' de σ' a0 → ν' 0 ≤ ν 0 + 1 → ν' 1 ≤ ν 1 + 1 → W p l e room_1 s m #[Value.ref b] below meth c H' [] (cells + 6) (slots + 1202) Q (F0 m 1221 ls' [])) : W p l e room_1 s m #[Value.ref b] below meth c H [] cells slots Q (F0 m 278 ls []) := by
  obtain ⟨hW, hN1, hLD, hR, rfl⟩ := hCL
  obtain ⟨hx, hb, hml, hown, hT, hK, hZ, hD, hN, hX, hbl, hlf, hL⟩ := id C
  obtain ⟨r, σ', hTC, hHC⟩ := op_gate l hlf g α ν χ σ MC de mir o hW hN1 hLD hR hLI.no h60 h61 (xs (i + 1))
  refine lv_aload_n hx hb d_law_278 rfl (lv_at hl 3 rfl) ?_
  refine lv_aload_n hx hb d_law_279 rfl (lv_at hl 4 rfl) ?_
  refine lv_iload hx hb d_law_280 (lv_at hl 0 rfl) ?_
  refine lv_iconst (v := 1) hx hb d_law_282 (by decide) ?_
  refine lv_iadd hx hb d_law_283 ?_
  refine l_sld C hLI (j := i + 1) (nI_add i 1) (by omega) d_law_284 ?_
  refine w_help hLI (c_SW (As := [.ref (α 0 0 0), .int (xs (i + 1))]) (rest := []) hx hb hml hl.1 hown hT hK hLI.hsM.1 (hLI.z hZ) (dd_of hLI.hsM hD) hN (hHC f H.size) kw_L_gate w384 w385 w0 hd_L_gate rfl rfl ⟨by decide, by decide⟩ rfl rfl (Nat.le_of_ble_eq_true rfl) d_law_285 ⟨by show cells + 1 ≤ 601024; omega, by show slots + 6 ≤ 7293033; omega⟩) (fun MC' α' ν' χ' f' H' q1 q2 q3 q4 q5 q6 q7 q8 hLI => ?_)
  refine lv_istore (lv' := [(5, .int (σ' 0 0)), (4, .int (nI i)), (3, .ref o), (2, .ref t), (1, .ref (α 0 0 0)), (0, .ref b)]) hx hb d_law_288 hl (by decide) rfl (fun ls hl => ?_)
  refine lv_aload_n hx hb d_law_290 rfl (lv_at hl 3 rfl) ?_
  refine lv_aload_n hx hb d_law_291 rfl (lv_at hl 5 rfl) ?_
  refine lv_iload hx hb d_law_292 (lv_at hl 1 rfl) ?_
  refine lv_iconst (v := 1) hx hb d_law_294 (by decide) ?_
  refine lv_iadd hx hb d_law_295 ?_
  refine l_sld C hLI (j := i + 1) (nI_add i 1) (by omega) d_law_296 ?_
  refine w_twin hLI (c_V (As := [.int (xs (i + 1))]) (rest := []) hx hb hml hl.1 hown hT hK hLI.hsT.1 (hTC t H'.size) kw_T_gate w751 w752 w753 w8 hd_T_gate rfl rfl ⟨by decide, by decide⟩ tw_t rfl rfl rfl (Nat.le_of_ble_eq_true rfl) d_law_297 ⟨by show cells + 1 + 0 ≤ 601024; omega, by show slots + 6 + 0 ≤ 7293033; omega⟩) (fun H'' hLI => ?_)
  refine W.eq (g2 := F0 m 300 ls []) rfl ?_
  refine lv_aload_n hx hb d_law_300 rfl (lv_at hl 3 rfl) ?_
  refine rd_run (c_V (As := []) (rest := []) hx hb hml hl.1 hown hT hK hLI.hsT.1 (c_T_thrown l g t σ' H''.size) kw_T_thrown w727 w728 w729 w8 hd_T_thrown rfl rfl ⟨by decide, by decide⟩ tw_t rfl rfl rfl (Nat.le_of_ble_eq_true rfl) d_law_301 ⟨by show cells + 1 + 0 + 0 ≤ 601024; omega, by show slots + 6 + 0 + 0 ≤ 7293033; omega⟩) rfl ?_
  refine lv_iload hx hb d_law_304 (lv_at hl 0 rfl) ?_
  refine lv_icmp_eq (tgt := 311) hx hb d_law_306 (by decide) (fun _ => ?_) (fun hq9 => absurd (rfl) hq9)
  refine lv_goto (tgt := 1221) hx hb d_law_311 (by decide) ?_
  refine W.more (cells' := cells + 6) (slots' := slots + 1202) (by omega) (by omega) ?_
  exact kk _ _ MC' f' σ' α' ν' χ' (lv_sub hl [1, 2, 3, 4, 5] rfl) hLI ⟨q1, q2, q3, q4, q5⟩ q6 q7
set_option maxHeartbeats 4000000 in
set_option maxRecDepth 100000 in
theorem turn_zoneOf (C : LC p l s m c g de mir b L xs) (hl : lv_has ls 7 [(4, .int (nI i)), (3, .ref o), (2, .ref t), (1, .ref a0), (0, .ref b)]) (hLI : LI g s t o σ MC f H) (hCL : CL g α ν χ MC de σ a0) (h60 : ν 0 < 600) (h61 : ν 1 < 600) (hi : i + 5 ≤ L) (hcc : cells + 6 ≤ 601024) (hss : slots + 1202 ≤ 7293033)
    (kk : ∀ (ls' : Array Slot) (H' : Heap) (MC' : MW) (f' : Nat → Int64) (σ' : SG) (α' : AL3) (ν' : Nat → Nat) (χ' : SG), lv_has ls' 7 [(4, .int (nI i)), (3, .ref o), (2, .ref t), (1, .ref a0), (0, .ref b)] → LI g s t o σ' MC' f' H' → CL g α' ν' χ' MC' de σ' a0 → ν' 0 ≤ ν 0 + 1 → ν' 1 ≤ ν 1 + 1 → W p l e room_1 s m #[Value.ref b] below meth c H' [] (cells + 6) (slots + 1202) Q (F0 m 1221 ls' [])) : W p l e room_1 s m #[Value.ref b] below meth c H [] cells slots Q (F0 m 314 ls []) := by
  obtain ⟨hW, hN1, hLD, hR, rfl⟩ := hCL
  obtain ⟨hx, hb, hml, hown, hT, hK, hZ, hD, hN, hX, hbl, hlf, hL⟩ := id C
  obtain ⟨r, σ', hTC, hHC⟩ := op_zoneOf l hlf g α ν χ σ MC de mir o hW hN1 hLD hR hLI.no h60 h61 (xs (i + 1)) (xs (i + 2))
  refine lv_aload_n hx hb d_law_314 rfl (lv_at hl 3 rfl) ?_
  refine lv_aload_n hx hb d_law_315 rfl (lv_at hl 4 rfl) ?_
  refine lv_iload hx hb d_law_316 (lv_at hl 0 rfl) ?_
  refine lv_iconst (v := 1) hx hb d_law_318 (by decide) ?_
  refine lv_iadd hx hb d_law_319 ?_
  refine l_sld C hLI (j := i + 1) (nI_add i 1) (by omega) d_law_320 ?_
  refine lv_aload_n hx hb d_law_321 rfl (lv_at hl 4 rfl) ?_
  refine lv_iload hx hb d_law_322 (lv_at hl 0 rfl) ?_
  refine lv_iconst (v := 2) hx hb d_law_324 (by decide) ?_
  refine lv_iadd hx hb d_law_325 ?_
  refine l_sld C hLI (j := i + 2) (nI_add i 2) (by omega) d_law_326 ?_
  refine w_help hLI (c_SW (As := [.ref (α 0 0 0), .int (xs (i + 1)), .int (xs (i + 2))]) (rest := []) hx hb hml hl.1 hown hT hK hLI.hsM.1 (hLI.z hZ) (dd_of hLI.hsM hD) hN (hHC f H.size) kw_L_zoneOf w441 w442 w0 hd_L_zoneOf rfl rfl ⟨by decide, by decide⟩ rfl rfl (Nat.le_of_ble_eq_true rfl) d_law_327 ⟨by show cells + 1 ≤ 601024; omega, by show slots + 6 ≤ 7293033; omega⟩) (fun MC' α' ν' χ' f' H' q1 q2 q3 q4 q5 q6 q7 q8 hLI => ?_)
  refine lv_istore (lv' := [(5, .int (σ' 0 0)), (4, .int (nI i)), (3, .ref o), (2, .ref t), (1, .ref (α 0 0 0)), (0, .ref b)]) hx hb d_law_330 hl (by decide) rfl (fun ls hl => ?_)
  refine lv_aload_n hx hb d_law_332 rfl (lv_at hl 3 rfl) ?_
  refine lv_aload_n hx hb d_law_333 rfl (lv_at hl 5 rfl) ?_
  refine lv_iload hx hb d_law_334 (lv_at hl 1 rfl) ?_
  refine lv_iconst (v := 1) hx hb d_law_336 (by decide) ?_
  refine lv_iadd hx hb d_law_337 ?_
  refine l_sld C hLI (j := i + 1) (nI_add i 1) (by omega) d_law_338 ?_
  refine lv_aload_n hx hb d_law_339 rfl (lv_at hl 5 rfl) ?_
  refine lv_iload hx hb d_law_340 (lv_at hl 1 rfl) ?_
  refine lv_iconst (v := 2) hx hb d_law_342 (by decide) ?_
  refine lv_iadd hx hb d_law_343 ?_
  refine l_sld C hLI (j := i + 2) (nI_add i 2) (by omega) d_law_344 ?_
  refine w_twin hLI (c_V (As := [.int (xs (i + 1)), .int (xs (i + 2))]) (rest := []) hx hb hml hl.1 hown hT hK hLI.hsT.1 (hTC t H'.size) kw_T_zoneOf w795 w796 w797 w8 hd_T_zoneOf rfl rfl ⟨by decide, by decide⟩ tw_t rfl rfl rfl (Nat.le_of_ble_eq_true rfl) d_law_345 ⟨by show cells + 1 + 0 ≤ 601024; omega, by show slots + 6 + 0 ≤ 7293033; omega⟩) (fun H'' hLI => ?_)
  refine W.eq (g2 := F0 m 348 ls []) rfl ?_
  refine lv_aload_n hx hb d_law_348 rfl (lv_at hl 3 rfl) ?_
  refine rd_run (c_V (As := []) (rest := []) hx hb hml hl.1 hown hT hK hLI.hsT.1 (c_T_thrown l g t σ' H''.size) kw_T_thrown w727 w728 w729 w8 hd_T_thrown rfl rfl ⟨by decide, by decide⟩ tw_t rfl rfl rfl (Nat.le_of_ble_eq_true rfl) d_law_349 ⟨by show cells + 1 + 0 + 0 ≤ 601024; omega, by show slots + 6 + 0 + 0 ≤ 7293033; omega⟩) rfl ?_
  refine lv_iload hx hb d_law_352 (lv_at hl 0 rfl) ?_
  refine lv_icmp_eq (tgt := 359) hx hb d_law_354 (by decide) (fun _ => ?_) (fun hq9 => absurd (rfl) hq9)
  refine lv_goto (tgt := 1221) hx hb d_law_359 (by decide) ?_
  refine W.more (cells' := cells + 6) (slots' := slots + 1202) (by omega) (by omega) ?_
  exact kk _ _ MC' f' σ' α' ν' χ' (lv_sub hl [1, 2, 3, 4, 5] rfl) hLI ⟨q1, q2, q3, q4, q5⟩ q6 q7
set_option maxHeartbeats 4000000 in
set_option maxRecDepth 100000 in
theorem turn_show (C : LC p l s m c g de mir b L xs) (hl : lv_has ls 7 [(4, .int (nI i)), (3, .ref o), (2, .ref t), (1, .ref a0), (0, .ref b)]) (hLI : LI g s t o σ MC f H) (hCL : CL g α ν χ MC de σ a0) (h60 : ν 0 < 600) (h61 : ν 1 < 600) (hi : i + 5 ≤ L) (hcc : cells + 6 ≤ 601024) (hss : slots + 1202 ≤ 7293033)
    (kk : ∀ (ls' : Array Slot) (H' : Heap) (MC' : MW) (f' : Nat → Int64) (σ' : SG) (α' : AL3) (ν' : Nat → Nat) (χ' : SG), lv_has ls' 7 [(4, .int (nI i)), (3, .ref o), (2, .ref t), (1, .ref a0), (0, .ref b)] → LI g s t o σ' MC' f' H' → CL g α' ν' χ' MC' de σ' a0 → ν' 0 ≤ ν 0 + 1 → ν' 1 ≤ ν 1 + 1 → W p l e room_1 s m #[Value.ref b] below meth c H' [] (cells + 6) (slots + 1202) Q (F0 m 1221 ls' [])) : W p l e room_1 s m #[Value.ref b] below meth c H [] cells slots Q (F0 m 362 ls []) := by
  obtain ⟨hW, hN1, hLD, hR, rfl⟩ := hCL
  obtain ⟨hx, hb, hml, hown, hT, hK, hZ, hD, hN, hX, hbl, hlf, hL⟩ := id C
  obtain ⟨r, σ', hTC, hHC⟩ := op_show l hlf g α ν χ σ MC de mir o hW hN1 hLD hR hLI.no h60 h61 (xs (i + 1)) (xs (i + 2)) (xs (i + 3))
  refine lv_aload_n hx hb d_law_362 rfl (lv_at hl 3 rfl) ?_
  refine lv_aload_n hx hb d_law_363 rfl (lv_at hl 4 rfl) ?_
  refine lv_iload hx hb d_law_364 (lv_at hl 0 rfl) ?_
  refine lv_iconst (v := 1) hx hb d_law_366 (by decide) ?_
  refine lv_iadd hx hb d_law_367 ?_
  refine l_sld C hLI (j := i + 1) (nI_add i 1) (by omega) d_law_368 ?_
  refine lv_aload_n hx hb d_law_369 rfl (lv_at hl 4 rfl) ?_
  refine lv_iload hx hb d_law_370 (lv_at hl 0 rfl) ?_
  refine lv_iconst (v := 2) hx hb d_law_372 (by decide) ?_
  refine lv_iadd hx hb d_law_373 ?_
  refine l_sld C hLI (j := i + 2) (nI_add i 2) (by omega) d_law_374 ?_
  refine lv_aload_n hx hb d_law_375 rfl (lv_at hl 4 rfl) ?_
  refine lv_iload hx hb d_law_376 (lv_at hl 0 rfl) ?_
  refine lv_iconst (v := 3) hx hb d_law_378 (by decide) ?_
  refine lv_iadd hx hb d_law_379 ?_
  refine l_sld C hLI (j := i + 3) (nI_add i 3) (by omega) d_law_380 ?_
  refine lv_aload_n hx hb d_law_381 rfl (lv_at hl 1 rfl) ?_
  refine w_help hLI (c_SW (As := [.ref (α 0 0 0), .int (xs (i + 1)), .int (xs (i + 2)), .int (xs (i + 3)), .ref o]) (rest := []) hx hb hml hl.1 hown hT hK hLI.hsM.1 (hLI.z hZ) (dd_of hLI.hsM hD) hN (hHC f H.size) kw_L_show w475 w476 w0 hd_L_show rfl rfl ⟨by decide, by decide⟩ rfl rfl (Nat.le_of_ble_eq_true rfl) d_law_382 ⟨by show cells + 1 ≤ 601024; omega, by show slots + 6 ≤ 7293033; omega⟩) (fun MC' α' ν' χ' f' H' q1 q2 q3 q4 q5 q6 q7 q8 hLI => ?_)
  refine lv_istore (lv' := [(5, .int (σ' 0 0)), (4, .int (nI i)), (3, .ref o), (2, .ref t), (1, .ref (α 0 0 0)), (0, .ref b)]) hx hb d_law_385 hl (by decide) rfl (fun ls hl => ?_)
  refine lv_aload_n hx hb d_law_387 rfl (lv_at hl 3 rfl) ?_
  refine lv_aload_n hx hb d_law_388 rfl (lv_at hl 5 rfl) ?_
  refine lv_iload hx hb d_law_389 (lv_at hl 1 rfl) ?_
  refine lv_iconst (v := 1) hx hb d_law_391 (by decide) ?_
  refine lv_iadd hx hb d_law_392 ?_
  refine l_sld C hLI (j := i + 1) (nI_add i 1) (by omega) d_law_393 ?_
  refine lv_aload_n hx hb d_law_394 rfl (lv_at hl 5 rfl) ?_
  refine lv_iload hx hb d_law_395 (lv_at hl 1 rfl) ?_
  refine lv_iconst (v := 2) hx hb d_law_397 (by decide) ?_
  refine lv_iadd hx hb d_law_398 ?_
  refine l_sld C hLI (j := i + 2) (nI_add i 2) (by omega) d_law_399 ?_
  refine lv_aload_n hx hb d_law_400 rfl (lv_at hl 5 rfl) ?_
  refine lv_iload hx hb d_law_401 (lv_at hl 1 rfl) ?_
  refine lv_iconst (v := 3) hx hb d_law_403 (by decide) ?_
  refine lv_iadd hx hb d_law_404 ?_
  refine l_sld C hLI (j := i + 3) (nI_add i 3) (by omega) d_law_405 ?_
  refine w_twin hLI (c_V (As := [.int (xs (i + 1)), .int (xs (i + 2)), .int (xs (i + 3))]) (rest := []) hx hb hml hl.1 hown hT hK hLI.hsT.1 (hTC t H'.size) kw_T_show w802 w803 w804 w8 hd_T_show rfl rfl ⟨by decide, by decide⟩ tw_t rfl rfl rfl (Nat.le_of_ble_eq_true rfl) d_law_406 ⟨by show cells + 1 + 0 ≤ 601024; omega, by show slots + 6 + 0 ≤ 7293033; omega⟩) (fun H'' hLI => ?_)
  refine W.eq (g2 := F0 m 409 ls [.int r]) rfl ?_
  refine lv_istore (lv' := [(6, .int r), (5, .int (σ' 0 0)), (4, .int (nI i)), (3, .ref o), (2, .ref t), (1, .ref (α 0 0 0)), (0, .ref b)]) hx hb d_law_409 hl (by decide) rfl (fun ls hl => ?_)
  refine lv_aload_n hx hb d_law_411 rfl (lv_at hl 4 rfl) ?_
  refine rd_run (c_V (As := []) (rest := []) hx hb hml hl.1 hown hT hK hLI.hsT.1 (c_T_thrown l g t σ' H''.size) kw_T_thrown w727 w728 w729 w8 hd_T_thrown rfl rfl ⟨by decide, by decide⟩ tw_t rfl rfl rfl (Nat.le_of_ble_eq_true rfl) d_law_412 ⟨by show cells + 1 + 0 + 0 ≤ 601024; omega, by show slots + 6 + 0 + 0 ≤ 7293033; omega⟩) rfl ?_
  refine lv_iload hx hb d_law_415 (lv_at hl 1 rfl) ?_
  refine lv_icmp_eq (tgt := 422) hx hb d_law_417 (by decide) (fun _ => ?_) (fun hq9 => absurd (rfl) hq9)
  refine lv_iload hx hb d_law_422 (lv_at hl 1 rfl) ?_
  refine lv_if_ne (tgt := 439) hx hb d_law_424 (by decide) (fun c1 => ?_) (fun c1 => ?_)
  · skip
    refine lv_goto (tgt := 1221) hx hb d_law_439 (by decide) ?_
    refine W.more (cells' := cells + 6) (slots' := slots + 1202) (by omega) (by omega) ?_
    exact kk _ _ MC' f' σ' α' ν' χ' (lv_sub hl [2, 3, 4, 5, 6] rfl) hLI ⟨q1, q2, q3, q4, q5⟩ q6 q7
  · skip
    refine lv_aload_n hx hb d_law_427 rfl (lv_at hl 3 rfl) ?_
    refine lv_iconst (v := 0) hx hb d_law_428 (by decide) ?_
    refine m_lald hx hb hK hLI.hsM.1 3 (show mu MC' o (oL g f') o = some (.inl (g.2 3, 1, .inr (.inl f'))) from mu_s) rfl (j := 0) rfl (by decide) (by decide) d_law_429 ?_
    refine lv_iload hx hb d_law_430 (lv_at hl 0 rfl) ?_
    refine lv_i2l (v := r.toInt64) hx hb d_law_432 rfl ?_
    refine W.lcmp hx hb d_law_433 ?_
    refine lv_if_eq (tgt := 439) hx hb d_law_434 (by decide) (fun _ => ?_) (fun hq9 => absurd (lg_same (q8 c1)) hq9)
    refine lv_goto (tgt := 1221) hx hb d_law_439 (by decide) ?_
    refine W.more (cells' := cells + 6) (slots' := slots + 1202) (by omega) (by omega) ?_
    exact kk _ _ MC' f' σ' α' ν' χ' (lv_sub hl [2, 3, 4, 5, 6] rfl) hLI ⟨q1, q2, q3, q4, q5⟩ q6 q7
set_option maxHeartbeats 4000000 in
set_option maxRecDepth 100000 in
theorem turn_tear (C : LC p l s m c g de mir b L xs) (hl : lv_has ls 7 [(4, .int (nI i)), (3, .ref o), (2, .ref t), (1, .ref a0), (0, .ref b)]) (hLI : LI g s t o σ MC f H) (hCL : CL g α ν χ MC de σ a0) (h60 : ν 0 < 600) (h61 : ν 1 < 600) (hi : i + 5 ≤ L) (hcc : cells + 6 ≤ 601024) (hss : slots + 1202 ≤ 7293033)
    (kk : ∀ (ls' : Array Slot) (H' : Heap) (MC' : MW) (f' : Nat → Int64) (σ' : SG) (α' : AL3) (ν' : Nat → Nat) (χ' : SG), lv_has ls' 7 [(4, .int (nI i)), (3, .ref o), (2, .ref t), (1, .ref a0), (0, .ref b)] → LI g s t o σ' MC' f' H' → CL g α' ν' χ' MC' de σ' a0 → ν' 0 ≤ ν 0 + 1 → ν' 1 ≤ ν 1 + 1 → W p l e room_1 s m #[Value.ref b] below meth c H' [] (cells + 6) (slots + 1202) Q (F0 m 1221 ls' [])) : W p l e room_1 s m #[Value.ref b] below meth c H [] cells slots Q (F0 m 442 ls []) := by
  obtain ⟨hW, hN1, hLD, hR, rfl⟩ := hCL
  obtain ⟨hx, hb, hml, hown, hT, hK, hZ, hD, hN, hX, hbl, hlf, hL⟩ := id C
  obtain ⟨r, σ', hTC, hHC⟩ := op_tear l hlf g α ν χ σ MC de mir o hW hN1 hLD hR hLI.no h60 h61 (xs (i + 1)) (xs (i + 2))
  refine lv_aload_n hx hb d_law_442 rfl (lv_at hl 3 rfl) ?_
  refine lv_aload_n hx hb d_law_443 rfl (lv_at hl 4 rfl) ?_
  refine lv_iload hx hb d_law_444 (lv_at hl 0 rfl) ?_
  refine lv_iconst (v := 1) hx hb d_law_446 (by decide) ?_
  refine lv_iadd hx hb d_law_447 ?_
  refine l_sld C hLI (j := i + 1) (nI_add i 1) (by omega) d_law_448 ?_
  refine lv_aload_n hx hb d_law_449 rfl (lv_at hl 4 rfl) ?_
  refine lv_iload hx hb d_law_450 (lv_at hl 0 rfl) ?_
  refine lv_iconst (v := 2) hx hb d_law_452 (by decide) ?_
  refine lv_iadd hx hb d_law_453 ?_
  refine l_sld C hLI (j := i + 2) (nI_add i 2) (by omega) d_law_454 ?_
  refine w_help hLI (c_SW (As := [.ref (α 0 0 0), .int (xs (i + 1)), .int (xs (i + 2))]) (rest := []) hx hb hml hl.1 hown hT hK hLI.hsM.1 (hLI.z hZ) (dd_of hLI.hsM hD) hN (hHC f H.size) kw_L_tear w531 w532 w0 hd_L_tear rfl rfl ⟨by decide, by decide⟩ rfl rfl (Nat.le_of_ble_eq_true rfl) d_law_455 ⟨by show cells + 1 ≤ 601024; omega, by show slots + 6 ≤ 7293033; omega⟩) (fun MC' α' ν' χ' f' H' q1 q2 q3 q4 q5 q6 q7 q8 hLI => ?_)
  refine lv_istore (lv' := [(5, .int (σ' 0 0)), (4, .int (nI i)), (3, .ref o), (2, .ref t), (1, .ref (α 0 0 0)), (0, .ref b)]) hx hb d_law_458 hl (by decide) rfl (fun ls hl => ?_)
  refine lv_aload_n hx hb d_law_460 rfl (lv_at hl 3 rfl) ?_
  refine lv_aload_n hx hb d_law_461 rfl (lv_at hl 5 rfl) ?_
  refine lv_iload hx hb d_law_462 (lv_at hl 1 rfl) ?_
  refine lv_iconst (v := 1) hx hb d_law_464 (by decide) ?_
  refine lv_iadd hx hb d_law_465 ?_
  refine l_sld C hLI (j := i + 1) (nI_add i 1) (by omega) d_law_466 ?_
  refine lv_aload_n hx hb d_law_467 rfl (lv_at hl 5 rfl) ?_
  refine lv_iload hx hb d_law_468 (lv_at hl 1 rfl) ?_
  refine lv_iconst (v := 2) hx hb d_law_470 (by decide) ?_
  refine lv_iadd hx hb d_law_471 ?_
  refine l_sld C hLI (j := i + 2) (nI_add i 2) (by omega) d_law_472 ?_
  refine w_twin hLI (c_V (As := [.int (xs (i + 1)), .int (xs (i + 2))]) (rest := []) hx hb hml hl.1 hown hT hK hLI.hsT.1 (hTC t H'.size) kw_T_tear w818 w819 w820 w8 hd_T_tear rfl rfl ⟨by decide, by decide⟩ tw_t rfl rfl rfl (Nat.le_of_ble_eq_true rfl) d_law_473 ⟨by show cells + 1 + 0 ≤ 601024; omega, by show slots + 6 + 0 ≤ 7293033; omega⟩) (fun H'' hLI => ?_)
  refine W.eq (g2 := F0 m 476 ls []) rfl ?_
  refine lv_aload_n hx hb d_law_476 rfl (lv_at hl 3 rfl) ?_
  refine rd_run (c_V (As := []) (rest := []) hx hb hml hl.1 hown hT hK hLI.hsT.1 (c_T_thrown l g t σ' H''.size) kw_T_thrown w727 w728 w729 w8 hd_T_thrown rfl rfl ⟨by decide, by decide⟩ tw_t rfl rfl rfl (Nat.le_of_ble_eq_true rfl) d_law_477 ⟨by show cells + 1 + 0 + 0 ≤ 601024; omega, by show slots + 6 + 0 + 0 ≤ 7293033; omega⟩) rfl ?_
  refine lv_iload hx hb d_law_480 (lv_at hl 0 rfl) ?_
  refine lv_icmp_eq (tgt := 487) hx hb d_law_482 (by decide) (fun _ => ?_) (fun hq9 => absurd (rfl) hq9)
  refine lv_goto (tgt := 1221) hx hb d_law_487 (by decide) ?_
  refine W.more (cells' := cells + 6) (slots' := slots + 1202) (by omega) (by omega) ?_
  exact kk _ _ MC' f' σ' α' ν' χ' (lv_sub hl [1, 2, 3, 4, 5] rfl) hLI ⟨q1, q2, q3, q4, q5⟩ q6 q7
set_option maxHeartbeats 4000000 in
set_option maxRecDepth 100000 in
theorem turn_written (C : LC p l s m c g de mir b L xs) (hl : lv_has ls 7 [(4, .int (nI i)), (3, .ref o), (2, .ref t), (1, .ref a0), (0, .ref b)]) (hLI : LI g s t o σ MC f H) (hCL : CL g α ν χ MC de σ a0) (h60 : ν 0 < 600) (h61 : ν 1 < 600) (hi : i + 5 ≤ L) (hcc : cells + 6 ≤ 601024) (hss : slots + 1202 ≤ 7293033)
    (kk : ∀ (ls' : Array Slot) (H' : Heap) (MC' : MW) (f' : Nat → Int64) (σ' : SG) (α' : AL3) (ν' : Nat → Nat) (χ' : SG), lv_has ls' 7 [(4, .int (nI i)), (3, .ref o), (2, .ref t), (1, .ref a0), (0, .ref b)] → LI g s t o σ' MC' f' H' → CL g α' ν' χ' MC' de σ' a0 → ν' 0 ≤ ν 0 + 1 → ν' 1 ≤ ν 1 + 1 → W p l e room_1 s m #[Value.ref b] below meth c H' [] (cells + 6) (slots + 1202) Q (F0 m 1221 ls' [])) : W p l e room_1 s m #[Value.ref b] below meth c H [] cells slots Q (F0 m 490 ls []) := by
  obtain ⟨hW, hN1, hLD, hR, rfl⟩ := hCL
  obtain ⟨hx, hb, hml, hown, hT, hK, hZ, hD, hN, hX, hbl, hlf, hL⟩ := id C
  obtain ⟨r, σ', hTC, hHC⟩ := op_written l hlf g α ν χ σ MC de mir o hW hN1 hLD hR hLI.no h60 h61 (xs (i + 1))
  refine lv_aload_n hx hb d_law_490 rfl (lv_at hl 3 rfl) ?_
  refine lv_aload_n hx hb d_law_491 rfl (lv_at hl 4 rfl) ?_
  refine lv_iload hx hb d_law_492 (lv_at hl 0 rfl) ?_
  refine lv_iconst (v := 1) hx hb d_law_494 (by decide) ?_
  refine lv_iadd hx hb d_law_495 ?_
  refine l_sld C hLI (j := i + 1) (nI_add i 1) (by omega) d_law_496 ?_
  refine lv_aload_n hx hb d_law_497 rfl (lv_at hl 1 rfl) ?_
  refine w_help hLI (c_SW (As := [.ref (α 0 0 0), .int (xs (i + 1)), .ref o]) (rest := []) hx hb hml hl.1 hown hT hK hLI.hsM.1 (hLI.z hZ) (dd_of hLI.hsM hD) hN (hHC f H.size) kw_L_written w539 w540 w0 hd_L_written rfl rfl ⟨by decide, by decide⟩ rfl rfl (Nat.le_of_ble_eq_true rfl) d_law_498 ⟨by show cells + 1 ≤ 601024; omega, by show slots + 6 ≤ 7293033; omega⟩) (fun MC' α' ν' χ' f' H' q1 q2 q3 q4 q5 q6 q7 q8 hLI => ?_)
  refine lv_istore (lv' := [(5, .int (σ' 0 0)), (4, .int (nI i)), (3, .ref o), (2, .ref t), (1, .ref (α 0 0 0)), (0, .ref b)]) hx hb d_law_501 hl (by decide) rfl (fun ls hl => ?_)
  refine lv_aload_n hx hb d_law_503 rfl (lv_at hl 3 rfl) ?_
  refine lv_aload_n hx hb d_law_504 rfl (lv_at hl 5 rfl) ?_
  refine lv_iload hx hb d_law_505 (lv_at hl 1 rfl) ?_
  refine lv_iconst (v := 1) hx hb d_law_507 (by decide) ?_
  refine lv_iadd hx hb d_law_508 ?_
  refine l_sld C hLI (j := i + 1) (nI_add i 1) (by omega) d_law_509 ?_
  refine w_twin hLI (c_V (As := [.int (xs (i + 1))]) (rest := []) hx hb hml hl.1 hown hT hK hLI.hsT.1 (hTC t H'.size) kw_T_written w822 w823 w824 w8 hd_T_written rfl rfl ⟨by decide, by decide⟩ tw_t rfl rfl rfl (Nat.le_of_ble_eq_true rfl) d_law_510 ⟨by show cells + 1 + 0 ≤ 601024; omega, by show slots + 6 + 0 ≤ 7293033; omega⟩) (fun H'' hLI => ?_)
  refine W.eq (g2 := F0 m 513 ls [.int r]) rfl ?_
  refine lv_istore (lv' := [(6, .int r), (5, .int (σ' 0 0)), (4, .int (nI i)), (3, .ref o), (2, .ref t), (1, .ref (α 0 0 0)), (0, .ref b)]) hx hb d_law_513 hl (by decide) rfl (fun ls hl => ?_)
  refine lv_aload_n hx hb d_law_515 rfl (lv_at hl 4 rfl) ?_
  refine rd_run (c_V (As := []) (rest := []) hx hb hml hl.1 hown hT hK hLI.hsT.1 (c_T_thrown l g t σ' H''.size) kw_T_thrown w727 w728 w729 w8 hd_T_thrown rfl rfl ⟨by decide, by decide⟩ tw_t rfl rfl rfl (Nat.le_of_ble_eq_true rfl) d_law_516 ⟨by show cells + 1 + 0 + 0 ≤ 601024; omega, by show slots + 6 + 0 + 0 ≤ 7293033; omega⟩) rfl ?_
  refine lv_iload hx hb d_law_519 (lv_at hl 1 rfl) ?_
  refine lv_icmp_eq (tgt := 526) hx hb d_law_521 (by decide) (fun _ => ?_) (fun hq9 => absurd (rfl) hq9)
  refine lv_iload hx hb d_law_526 (lv_at hl 1 rfl) ?_
  refine lv_if_ne (tgt := 543) hx hb d_law_528 (by decide) (fun c1 => ?_) (fun c1 => ?_)
  · skip
    refine lv_goto (tgt := 1221) hx hb d_law_543 (by decide) ?_
    refine W.more (cells' := cells + 6) (slots' := slots + 1202) (by omega) (by omega) ?_
    exact kk _ _ MC' f' σ' α' ν' χ' (lv_sub hl [2, 3, 4, 5, 6] rfl) hLI ⟨q1, q2, q3, q4, q5⟩ q6 q7
  · skip
    refine lv_aload_n hx hb d_law_531 rfl (lv_at hl 3 rfl) ?_
    refine lv_iconst (v := 0) hx hb d_law_532 (by decide) ?_
    refine m_lald hx hb hK hLI.hsM.1 3 (show mu MC' o (oL g f') o = some (.inl (g.2 3, 1, .inr (.inl f'))) from mu_s) rfl (j := 0) rfl (by decide) (by decide) d_law_533 ?_
    refine lv_iload hx hb d_law_534 (lv_at hl 0 rfl) ?_
    refine lv_i2l (v := r.toInt64) hx hb d_law_536 rfl ?_
    refine W.lcmp hx hb d_law_537 ?_
    refine lv_if_eq (tgt := 543) hx hb d_law_538 (by decide) (fun _ => ?_) (fun hq9 => absurd (lg_same (q8 c1)) hq9)
    refine lv_goto (tgt := 1221) hx hb d_law_543 (by decide) ?_
    refine W.more (cells' := cells + 6) (slots' := slots + 1202) (by omega) (by omega) ?_
    exact kk _ _ MC' f' σ' α' ν' χ' (lv_sub hl [2, 3, 4, 5, 6] rfl) hLI ⟨q1, q2, q3, q4, q5⟩ q6 q7
set_option maxHeartbeats 4000000 in
set_option maxRecDepth 100000 in
theorem turn_word (C : LC p l s m c g de mir b L xs) (hl : lv_has ls 7 [(4, .int (nI i)), (3, .ref o), (2, .ref t), (1, .ref a0), (0, .ref b)]) (hLI : LI g s t o σ MC f H) (hCL : CL g α ν χ MC de σ a0) (h60 : ν 0 < 600) (h61 : ν 1 < 600) (hi : i + 5 ≤ L) (hcc : cells + 6 ≤ 601024) (hss : slots + 1202 ≤ 7293033)
    (kk : ∀ (ls' : Array Slot) (H' : Heap) (MC' : MW) (f' : Nat → Int64) (σ' : SG) (α' : AL3) (ν' : Nat → Nat) (χ' : SG), lv_has ls' 7 [(4, .int (nI i)), (3, .ref o), (2, .ref t), (1, .ref a0), (0, .ref b)] → LI g s t o σ' MC' f' H' → CL g α' ν' χ' MC' de σ' a0 → ν' 0 ≤ ν 0 + 1 → ν' 1 ≤ ν 1 + 1 → W p l e room_1 s m #[Value.ref b] below meth c H' [] (cells + 6) (slots + 1202) Q (F0 m 1221 ls' [])) : W p l e room_1 s m #[Value.ref b] below meth c H [] cells slots Q (F0 m 546 ls []) := by
  obtain ⟨hW, hN1, hLD, hR, rfl⟩ := hCL
  obtain ⟨hx, hb, hml, hown, hT, hK, hZ, hD, hN, hX, hbl, hlf, hL⟩ := id C
  obtain ⟨r, σ', hTC, hHC⟩ := op_word l hlf g α ν χ σ MC de mir o hW hN1 hLD hR hLI.no h60 h61 (xs (i + 1)) (xs (i + 2)) (xs (i + 3))
  refine lv_aload_n hx hb d_law_546 rfl (lv_at hl 3 rfl) ?_
  refine lv_aload_n hx hb d_law_547 rfl (lv_at hl 4 rfl) ?_
  refine lv_iload hx hb d_law_548 (lv_at hl 0 rfl) ?_
  refine lv_iconst (v := 1) hx hb d_law_550 (by decide) ?_
  refine lv_iadd hx hb d_law_551 ?_
  refine l_sld C hLI (j := i + 1) (nI_add i 1) (by omega) d_law_552 ?_
  refine lv_aload_n hx hb d_law_553 rfl (lv_at hl 4 rfl) ?_
  refine lv_iload hx hb d_law_554 (lv_at hl 0 rfl) ?_
  refine lv_iconst (v := 2) hx hb d_law_556 (by decide) ?_
  refine lv_iadd hx hb d_law_557 ?_
  refine l_sld C hLI (j := i + 2) (nI_add i 2) (by omega) d_law_558 ?_
  refine lv_aload_n hx hb d_law_559 rfl (lv_at hl 4 rfl) ?_
  refine lv_iload hx hb d_law_560 (lv_at hl 0 rfl) ?_
  refine lv_iconst (v := 3) hx hb d_law_562 (by decide) ?_
  refine lv_iadd hx hb d_law_563 ?_
  refine l_sld C hLI (j := i + 3) (nI_add i 3) (by omega) d_law_564 ?_
  refine lv_aload_n hx hb d_law_565 rfl (lv_at hl 1 rfl) ?_
  refine w_help hLI (c_SW (As := [.ref (α 0 0 0), .int (xs (i + 1)), .int (xs (i + 2)), .int (xs (i + 3)), .ref o]) (rest := []) hx hb hml hl.1 hown hT hK hLI.hsM.1 (hLI.z hZ) (dd_of hLI.hsM hD) hN (hHC f H.size) kw_L_word w546 w547 w0 hd_L_word rfl rfl ⟨by decide, by decide⟩ rfl rfl (Nat.le_of_ble_eq_true rfl) d_law_566 ⟨by show cells + 1 ≤ 601024; omega, by show slots + 6 ≤ 7293033; omega⟩) (fun MC' α' ν' χ' f' H' q1 q2 q3 q4 q5 q6 q7 q8 hLI => ?_)
  refine lv_istore (lv' := [(5, .int (σ' 0 0)), (4, .int (nI i)), (3, .ref o), (2, .ref t), (1, .ref (α 0 0 0)), (0, .ref b)]) hx hb d_law_569 hl (by decide) rfl (fun ls hl => ?_)
  refine lv_aload_n hx hb d_law_571 rfl (lv_at hl 3 rfl) ?_
  refine lv_aload_n hx hb d_law_572 rfl (lv_at hl 5 rfl) ?_
  refine lv_iload hx hb d_law_573 (lv_at hl 1 rfl) ?_
  refine lv_iconst (v := 1) hx hb d_law_575 (by decide) ?_
  refine lv_iadd hx hb d_law_576 ?_
  refine l_sld C hLI (j := i + 1) (nI_add i 1) (by omega) d_law_577 ?_
  refine lv_aload_n hx hb d_law_578 rfl (lv_at hl 5 rfl) ?_
  refine lv_iload hx hb d_law_579 (lv_at hl 1 rfl) ?_
  refine lv_iconst (v := 2) hx hb d_law_581 (by decide) ?_
  refine lv_iadd hx hb d_law_582 ?_
  refine l_sld C hLI (j := i + 2) (nI_add i 2) (by omega) d_law_583 ?_
  refine lv_aload_n hx hb d_law_584 rfl (lv_at hl 5 rfl) ?_
  refine lv_iload hx hb d_law_585 (lv_at hl 1 rfl) ?_
  refine lv_iconst (v := 3) hx hb d_law_587 (by decide) ?_
  refine lv_iadd hx hb d_law_588 ?_
  refine l_sld C hLI (j := i + 3) (nI_add i 3) (by omega) d_law_589 ?_
  refine w_twin hLI (c_V (As := [.int (xs (i + 1)), .int (xs (i + 2)), .int (xs (i + 3))]) (rest := []) hx hb hml hl.1 hown hT hK hLI.hsT.1 (hTC t H'.size) kw_T_word w826 w827 w828 w8 hd_T_word rfl rfl ⟨by decide, by decide⟩ tw_t rfl rfl rfl (Nat.le_of_ble_eq_true rfl) d_law_590 ⟨by show cells + 1 + 0 ≤ 601024; omega, by show slots + 6 + 0 ≤ 7293033; omega⟩) (fun H'' hLI => ?_)
  refine W.eq (g2 := F0 m 593 ls [.int r]) rfl ?_
  refine lv_istore (lv' := [(6, .int r), (5, .int (σ' 0 0)), (4, .int (nI i)), (3, .ref o), (2, .ref t), (1, .ref (α 0 0 0)), (0, .ref b)]) hx hb d_law_593 hl (by decide) rfl (fun ls hl => ?_)
  refine lv_aload_n hx hb d_law_595 rfl (lv_at hl 4 rfl) ?_
  refine rd_run (c_V (As := []) (rest := []) hx hb hml hl.1 hown hT hK hLI.hsT.1 (c_T_thrown l g t σ' H''.size) kw_T_thrown w727 w728 w729 w8 hd_T_thrown rfl rfl ⟨by decide, by decide⟩ tw_t rfl rfl rfl (Nat.le_of_ble_eq_true rfl) d_law_596 ⟨by show cells + 1 + 0 + 0 ≤ 601024; omega, by show slots + 6 + 0 + 0 ≤ 7293033; omega⟩) rfl ?_
  refine lv_iload hx hb d_law_599 (lv_at hl 1 rfl) ?_
  refine lv_icmp_eq (tgt := 606) hx hb d_law_601 (by decide) (fun _ => ?_) (fun hq9 => absurd (rfl) hq9)
  refine lv_iload hx hb d_law_606 (lv_at hl 1 rfl) ?_
  refine lv_if_ne (tgt := 623) hx hb d_law_608 (by decide) (fun c1 => ?_) (fun c1 => ?_)
  · skip
    refine lv_goto (tgt := 1221) hx hb d_law_623 (by decide) ?_
    refine W.more (cells' := cells + 6) (slots' := slots + 1202) (by omega) (by omega) ?_
    exact kk _ _ MC' f' σ' α' ν' χ' (lv_sub hl [2, 3, 4, 5, 6] rfl) hLI ⟨q1, q2, q3, q4, q5⟩ q6 q7
  · skip
    refine lv_aload_n hx hb d_law_611 rfl (lv_at hl 3 rfl) ?_
    refine lv_iconst (v := 0) hx hb d_law_612 (by decide) ?_
    refine m_lald hx hb hK hLI.hsM.1 3 (show mu MC' o (oL g f') o = some (.inl (g.2 3, 1, .inr (.inl f'))) from mu_s) rfl (j := 0) rfl (by decide) (by decide) d_law_613 ?_
    refine lv_iload hx hb d_law_614 (lv_at hl 0 rfl) ?_
    refine lv_i2l (v := r.toInt64) hx hb d_law_616 rfl ?_
    refine W.lcmp hx hb d_law_617 ?_
    refine lv_if_eq (tgt := 623) hx hb d_law_618 (by decide) (fun _ => ?_) (fun hq9 => absurd (lg_same (q8 c1)) hq9)
    refine lv_goto (tgt := 1221) hx hb d_law_623 (by decide) ?_
    refine W.more (cells' := cells + 6) (slots' := slots + 1202) (by omega) (by omega) ?_
    exact kk _ _ MC' f' σ' α' ν' χ' (lv_sub hl [2, 3, 4, 5, 6] rfl) hLI ⟨q1, q2, q3, q4, q5⟩ q6 q7
set_option maxHeartbeats 4000000 in
set_option maxRecDepth 100000 in
theorem turn_carries (C : LC p l s m c g de mir b L xs) (hl : lv_has ls 7 [(4, .int (nI i)), (3, .ref o), (2, .ref t), (1, .ref a0), (0, .ref b)]) (hLI : LI g s t o σ MC f H) (hCL : CL g α ν χ MC de σ a0) (h60 : ν 0 < 600) (h61 : ν 1 < 600) (hi : i + 5 ≤ L) (hcc : cells + 6 ≤ 601024) (hss : slots + 1202 ≤ 7293033)
    (kk : ∀ (ls' : Array Slot) (H' : Heap) (MC' : MW) (f' : Nat → Int64) (σ' : SG) (α' : AL3) (ν' : Nat → Nat) (χ' : SG), lv_has ls' 7 [(4, .int (nI i)), (3, .ref o), (2, .ref t), (1, .ref a0), (0, .ref b)] → LI g s t o σ' MC' f' H' → CL g α' ν' χ' MC' de σ' a0 → ν' 0 ≤ ν 0 + 1 → ν' 1 ≤ ν 1 + 1 → W p l e room_1 s m #[Value.ref b] below meth c H' [] (cells + 6) (slots + 1202) Q (F0 m 1221 ls' [])) : W p l e room_1 s m #[Value.ref b] below meth c H [] cells slots Q (F0 m 626 ls []) := by
  obtain ⟨hW, hN1, hLD, hR, rfl⟩ := hCL
  obtain ⟨hx, hb, hml, hown, hT, hK, hZ, hD, hN, hX, hbl, hlf, hL⟩ := id C
  obtain ⟨r, σ', hTC, hHC⟩ := op_carries l hlf g α ν χ σ MC de mir o hW hN1 hLD hR hLI.no h60 h61 (xs (i + 1)) (xs (i + 2))
  refine lv_aload_n hx hb d_law_626 rfl (lv_at hl 3 rfl) ?_
  refine lv_aload_n hx hb d_law_627 rfl (lv_at hl 4 rfl) ?_
  refine lv_iload hx hb d_law_628 (lv_at hl 0 rfl) ?_
  refine lv_iconst (v := 1) hx hb d_law_630 (by decide) ?_
  refine lv_iadd hx hb d_law_631 ?_
  refine l_sld C hLI (j := i + 1) (nI_add i 1) (by omega) d_law_632 ?_
  refine lv_aload_n hx hb d_law_633 rfl (lv_at hl 4 rfl) ?_
  refine lv_iload hx hb d_law_634 (lv_at hl 0 rfl) ?_
  refine lv_iconst (v := 2) hx hb d_law_636 (by decide) ?_
  refine lv_iadd hx hb d_law_637 ?_
  refine l_sld C hLI (j := i + 2) (nI_add i 2) (by omega) d_law_638 ?_
  refine lv_aload_n hx hb d_law_639 rfl (lv_at hl 1 rfl) ?_
  refine w_help hLI (c_SW (As := [.ref (α 0 0 0), .int (xs (i + 1)), .int (xs (i + 2)), .ref o]) (rest := []) hx hb hml hl.1 hown hT hK hLI.hsM.1 (hLI.z hZ) (dd_of hLI.hsM hD) hN (hHC f H.size) kw_L_carries w556 w557 w0 hd_L_carries rfl rfl ⟨by decide, by decide⟩ rfl rfl (Nat.le_of_ble_eq_true rfl) d_law_640 ⟨by show cells + 1 ≤ 601024; omega, by show slots + 6 ≤ 7293033; omega⟩) (fun MC' α' ν' χ' f' H' q1 q2 q3 q4 q5 q6 q7 q8 hLI => ?_)
  refine lv_istore (lv' := [(5, .int (σ' 0 0)), (4, .int (nI i)), (3, .ref o), (2, .ref t), (1, .ref (α 0 0 0)), (0, .ref b)]) hx hb d_law_643 hl (by decide) rfl (fun ls hl => ?_)
  refine lv_aload_n hx hb d_law_645 rfl (lv_at hl 3 rfl) ?_
  refine lv_aload_n hx hb d_law_646 rfl (lv_at hl 5 rfl) ?_
  refine lv_iload hx hb d_law_647 (lv_at hl 1 rfl) ?_
  refine lv_iconst (v := 1) hx hb d_law_649 (by decide) ?_
  refine lv_iadd hx hb d_law_650 ?_
  refine l_sld C hLI (j := i + 1) (nI_add i 1) (by omega) d_law_651 ?_
  refine lv_aload_n hx hb d_law_652 rfl (lv_at hl 5 rfl) ?_
  refine lv_iload hx hb d_law_653 (lv_at hl 1 rfl) ?_
  refine lv_iconst (v := 2) hx hb d_law_655 (by decide) ?_
  refine lv_iadd hx hb d_law_656 ?_
  refine l_sld C hLI (j := i + 2) (nI_add i 2) (by omega) d_law_657 ?_
  refine w_twin hLI (c_V (As := [.int (xs (i + 1)), .int (xs (i + 2))]) (rest := []) hx hb hml hl.1 hown hT hK hLI.hsT.1 (hTC t H'.size) kw_T_carries w830 w831 w832 w8 hd_T_carries rfl rfl ⟨by decide, by decide⟩ tw_t rfl rfl rfl (Nat.le_of_ble_eq_true rfl) d_law_658 ⟨by show cells + 1 + 0 ≤ 601024; omega, by show slots + 6 + 0 ≤ 7293033; omega⟩) (fun H'' hLI => ?_)
  refine W.eq (g2 := F0 m 661 ls [.int r]) rfl ?_
  refine lv_istore (lv' := [(6, .int r), (5, .int (σ' 0 0)), (4, .int (nI i)), (3, .ref o), (2, .ref t), (1, .ref (α 0 0 0)), (0, .ref b)]) hx hb d_law_661 hl (by decide) rfl (fun ls hl => ?_)
  refine lv_aload_n hx hb d_law_663 rfl (lv_at hl 4 rfl) ?_
  refine rd_run (c_V (As := []) (rest := []) hx hb hml hl.1 hown hT hK hLI.hsT.1 (c_T_thrown l g t σ' H''.size) kw_T_thrown w727 w728 w729 w8 hd_T_thrown rfl rfl ⟨by decide, by decide⟩ tw_t rfl rfl rfl (Nat.le_of_ble_eq_true rfl) d_law_664 ⟨by show cells + 1 + 0 + 0 ≤ 601024; omega, by show slots + 6 + 0 + 0 ≤ 7293033; omega⟩) rfl ?_
  refine lv_iload hx hb d_law_667 (lv_at hl 1 rfl) ?_
  refine lv_icmp_eq (tgt := 674) hx hb d_law_669 (by decide) (fun _ => ?_) (fun hq9 => absurd (rfl) hq9)
  refine lv_iload hx hb d_law_674 (lv_at hl 1 rfl) ?_
  refine lv_if_ne (tgt := 691) hx hb d_law_676 (by decide) (fun c1 => ?_) (fun c1 => ?_)
  · skip
    refine lv_goto (tgt := 1221) hx hb d_law_691 (by decide) ?_
    refine W.more (cells' := cells + 6) (slots' := slots + 1202) (by omega) (by omega) ?_
    exact kk _ _ MC' f' σ' α' ν' χ' (lv_sub hl [2, 3, 4, 5, 6] rfl) hLI ⟨q1, q2, q3, q4, q5⟩ q6 q7
  · skip
    refine lv_aload_n hx hb d_law_679 rfl (lv_at hl 3 rfl) ?_
    refine lv_iconst (v := 0) hx hb d_law_680 (by decide) ?_
    refine m_lald hx hb hK hLI.hsM.1 3 (show mu MC' o (oL g f') o = some (.inl (g.2 3, 1, .inr (.inl f'))) from mu_s) rfl (j := 0) rfl (by decide) (by decide) d_law_681 ?_
    refine lv_iload hx hb d_law_682 (lv_at hl 0 rfl) ?_
    refine lv_i2l (v := r.toInt64) hx hb d_law_684 rfl ?_
    refine W.lcmp hx hb d_law_685 ?_
    refine lv_if_eq (tgt := 691) hx hb d_law_686 (by decide) (fun _ => ?_) (fun hq9 => absurd (lg_same (q8 c1)) hq9)
    refine lv_goto (tgt := 1221) hx hb d_law_691 (by decide) ?_
    refine W.more (cells' := cells + 6) (slots' := slots + 1202) (by omega) (by omega) ?_
    exact kk _ _ MC' f' σ' α' ν' χ' (lv_sub hl [2, 3, 4, 5, 6] rfl) hLI ⟨q1, q2, q3, q4, q5⟩ q6 q7
set_option maxHeartbeats 4000000 in
set_option maxRecDepth 100000 in
theorem turn_memory (C : LC p l s m c g de mir b L xs) (hl : lv_has ls 7 [(4, .int (nI i)), (3, .ref o), (2, .ref t), (1, .ref a0), (0, .ref b)]) (hLI : LI g s t o σ MC f H) (hCL : CL g α ν χ MC de σ a0) (h60 : ν 0 < 600) (h61 : ν 1 < 600) (hi : i + 5 ≤ L) (hcc : cells + 6 ≤ 601024) (hss : slots + 1202 ≤ 7293033)
    (kk : ∀ (ls' : Array Slot) (H' : Heap) (MC' : MW) (f' : Nat → Int64) (σ' : SG) (α' : AL3) (ν' : Nat → Nat) (χ' : SG), lv_has ls' 7 [(4, .int (nI i)), (3, .ref o), (2, .ref t), (1, .ref a0), (0, .ref b)] → LI g s t o σ' MC' f' H' → CL g α' ν' χ' MC' de σ' a0 → ν' 0 ≤ ν 0 + 1 → ν' 1 ≤ ν 1 + 1 → W p l e room_1 s m #[Value.ref b] below meth c H' [] (cells + 6) (slots + 1202) Q (F0 m 1221 ls' [])) : W p l e room_1 s m #[Value.ref b] below meth c H [] cells slots Q (F0 m 694 ls []) := by
  obtain ⟨hW, hN1, hLD, hR, rfl⟩ := hCL
  obtain ⟨hx, hb, hml, hown, hT, hK, hZ, hD, hN, hX, hbl, hlf, hL⟩ := id C
  obtain ⟨r, σ', hTC, hHC⟩ := op_memory l hlf g α ν χ σ MC de mir o hW hN1 hLD hR hLI.no h60 h61 (xs (i + 1)) (xs (i + 2))
  refine lv_aload_n hx hb d_law_694 rfl (lv_at hl 3 rfl) ?_
  refine lv_aload_n hx hb d_law_695 rfl (lv_at hl 4 rfl) ?_
  refine lv_iload hx hb d_law_696 (lv_at hl 0 rfl) ?_
  refine lv_iconst (v := 1) hx hb d_law_698 (by decide) ?_
  refine lv_iadd hx hb d_law_699 ?_
  refine l_sld C hLI (j := i + 1) (nI_add i 1) (by omega) d_law_700 ?_
  refine lv_aload_n hx hb d_law_701 rfl (lv_at hl 4 rfl) ?_
  refine lv_iload hx hb d_law_702 (lv_at hl 0 rfl) ?_
  refine lv_iconst (v := 2) hx hb d_law_704 (by decide) ?_
  refine lv_iadd hx hb d_law_705 ?_
  refine l_sld C hLI (j := i + 2) (nI_add i 2) (by omega) d_law_706 ?_
  refine lv_aload_n hx hb d_law_707 rfl (lv_at hl 1 rfl) ?_
  refine w_help hLI (c_SW (As := [.ref (α 0 0 0), .int (xs (i + 1)), .int (xs (i + 2)), .ref o]) (rest := []) hx hb hml hl.1 hown hT hK hLI.hsM.1 (hLI.z hZ) (dd_of hLI.hsM hD) hN (hHC f H.size) kw_L_memory w566 w567 w0 hd_L_memory rfl rfl ⟨by decide, by decide⟩ rfl rfl (Nat.le_of_ble_eq_true rfl) d_law_708 ⟨by show cells + 1 ≤ 601024; omega, by show slots + 6 ≤ 7293033; omega⟩) (fun MC' α' ν' χ' f' H' q1 q2 q3 q4 q5 q6 q7 q8 hLI => ?_)
  refine lv_istore (lv' := [(5, .int (σ' 0 0)), (4, .int (nI i)), (3, .ref o), (2, .ref t), (1, .ref (α 0 0 0)), (0, .ref b)]) hx hb d_law_711 hl (by decide) rfl (fun ls hl => ?_)
  refine lv_aload_n hx hb d_law_713 rfl (lv_at hl 3 rfl) ?_
  refine lv_aload_n hx hb d_law_714 rfl (lv_at hl 5 rfl) ?_
  refine lv_iload hx hb d_law_715 (lv_at hl 1 rfl) ?_
  refine lv_iconst (v := 1) hx hb d_law_717 (by decide) ?_
  refine lv_iadd hx hb d_law_718 ?_
  refine l_sld C hLI (j := i + 1) (nI_add i 1) (by omega) d_law_719 ?_
  refine lv_aload_n hx hb d_law_720 rfl (lv_at hl 5 rfl) ?_
  refine lv_iload hx hb d_law_721 (lv_at hl 1 rfl) ?_
  refine lv_iconst (v := 2) hx hb d_law_723 (by decide) ?_
  refine lv_iadd hx hb d_law_724 ?_
  refine l_sld C hLI (j := i + 2) (nI_add i 2) (by omega) d_law_725 ?_
  refine w_twin hLI (c_V (As := [.int (xs (i + 1)), .int (xs (i + 2))]) (rest := []) hx hb hml hl.1 hown hT hK hLI.hsT.1 (hTC t H'.size) kw_T_memory w834 w835 w836 w8 hd_T_memory rfl rfl ⟨by decide, by decide⟩ tw_t rfl rfl rfl (Nat.le_of_ble_eq_true rfl) d_law_726 ⟨by show cells + 1 + 0 ≤ 601024; omega, by show slots + 6 + 0 ≤ 7293033; omega⟩) (fun H'' hLI => ?_)
  refine W.eq (g2 := F0 m 729 ls [.int r]) rfl ?_
  refine lv_istore (lv' := [(6, .int r), (5, .int (σ' 0 0)), (4, .int (nI i)), (3, .ref o), (2, .ref t), (1, .ref (α 0 0 0)), (0, .ref b)]) hx hb d_law_729 hl (by decide) rfl (fun ls hl => ?_)
  refine lv_aload_n hx hb d_law_731 rfl (lv_at hl 4 rfl) ?_
  refine rd_run (c_V (As := []) (rest := []) hx hb hml hl.1 hown hT hK hLI.hsT.1 (c_T_thrown l g t σ' H''.size) kw_T_thrown w727 w728 w729 w8 hd_T_thrown rfl rfl ⟨by decide, by decide⟩ tw_t rfl rfl rfl (Nat.le_of_ble_eq_true rfl) d_law_732 ⟨by show cells + 1 + 0 + 0 ≤ 601024; omega, by show slots + 6 + 0 + 0 ≤ 7293033; omega⟩) rfl ?_
  refine lv_iload hx hb d_law_735 (lv_at hl 1 rfl) ?_
  refine lv_icmp_eq (tgt := 742) hx hb d_law_737 (by decide) (fun _ => ?_) (fun hq9 => absurd (rfl) hq9)
  refine lv_iload hx hb d_law_742 (lv_at hl 1 rfl) ?_
  refine lv_if_ne (tgt := 759) hx hb d_law_744 (by decide) (fun c1 => ?_) (fun c1 => ?_)
  · skip
    refine lv_goto (tgt := 1221) hx hb d_law_759 (by decide) ?_
    refine W.more (cells' := cells + 6) (slots' := slots + 1202) (by omega) (by omega) ?_
    exact kk _ _ MC' f' σ' α' ν' χ' (lv_sub hl [2, 3, 4, 5, 6] rfl) hLI ⟨q1, q2, q3, q4, q5⟩ q6 q7
  · skip
    refine lv_aload_n hx hb d_law_747 rfl (lv_at hl 3 rfl) ?_
    refine lv_iconst (v := 0) hx hb d_law_748 (by decide) ?_
    refine m_lald hx hb hK hLI.hsM.1 3 (show mu MC' o (oL g f') o = some (.inl (g.2 3, 1, .inr (.inl f'))) from mu_s) rfl (j := 0) rfl (by decide) (by decide) d_law_749 ?_
    refine lv_iload hx hb d_law_750 (lv_at hl 0 rfl) ?_
    refine lv_i2l (v := r.toInt64) hx hb d_law_752 rfl ?_
    refine W.lcmp hx hb d_law_753 ?_
    refine lv_if_eq (tgt := 759) hx hb d_law_754 (by decide) (fun _ => ?_) (fun hq9 => absurd (lg_same (q8 c1)) hq9)
    refine lv_goto (tgt := 1221) hx hb d_law_759 (by decide) ?_
    refine W.more (cells' := cells + 6) (slots' := slots + 1202) (by omega) (by omega) ?_
    exact kk _ _ MC' f' σ' α' ν' χ' (lv_sub hl [2, 3, 4, 5, 6] rfl) hLI ⟨q1, q2, q3, q4, q5⟩ q6 q7
set_option maxHeartbeats 4000000 in
set_option maxRecDepth 100000 in
theorem turn_about (C : LC p l s m c g de mir b L xs) (hl : lv_has ls 7 [(4, .int (nI i)), (3, .ref o), (2, .ref t), (1, .ref a0), (0, .ref b)]) (hLI : LI g s t o σ MC f H) (hCL : CL g α ν χ MC de σ a0) (h60 : ν 0 < 600) (h61 : ν 1 < 600) (hi : i + 5 ≤ L) (hcc : cells + 6 ≤ 601024) (hss : slots + 1202 ≤ 7293033)
    (kk : ∀ (ls' : Array Slot) (H' : Heap) (MC' : MW) (f' : Nat → Int64) (σ' : SG) (α' : AL3) (ν' : Nat → Nat) (χ' : SG), lv_has ls' 7 [(4, .int (nI i)), (3, .ref o), (2, .ref t), (1, .ref a0), (0, .ref b)] → LI g s t o σ' MC' f' H' → CL g α' ν' χ' MC' de σ' a0 → ν' 0 ≤ ν 0 + 1 → ν' 1 ≤ ν 1 + 1 → W p l e room_1 s m #[Value.ref b] below meth c H' [] (cells + 6) (slots + 1202) Q (F0 m 1221 ls' [])) : W p l e room_1 s m #[Value.ref b] below meth c H [] cells slots Q (F0 m 762 ls []) := by
  obtain ⟨hW, hN1, hLD, hR, rfl⟩ := hCL
  obtain ⟨hx, hb, hml, hown, hT, hK, hZ, hD, hN, hX, hbl, hlf, hL⟩ := id C
  obtain ⟨r, σ', hTC, hHC⟩ := op_about l hlf g α ν χ σ MC de mir o hW hN1 hLD hR hLI.no h60 h61 (xs (i + 1)) (xs (i + 2))
  refine lv_aload_n hx hb d_law_762 rfl (lv_at hl 3 rfl) ?_
  refine lv_aload_n hx hb d_law_763 rfl (lv_at hl 4 rfl) ?_
  refine lv_iload hx hb d_law_764 (lv_at hl 0 rfl) ?_
  refine lv_iconst (v := 1) hx hb d_law_766 (by decide) ?_
  refine lv_iadd hx hb d_law_767 ?_
  refine l_sld C hLI (j := i + 1) (nI_add i 1) (by omega) d_law_768 ?_
  refine lv_aload_n hx hb d_law_769 rfl (lv_at hl 4 rfl) ?_
  refine lv_iload hx hb d_law_770 (lv_at hl 0 rfl) ?_
  refine lv_iconst (v := 2) hx hb d_law_772 (by decide) ?_
  refine lv_iadd hx hb d_law_773 ?_
  refine l_sld C hLI (j := i + 2) (nI_add i 2) (by omega) d_law_774 ?_
  refine lv_aload_n hx hb d_law_775 rfl (lv_at hl 1 rfl) ?_
  refine w_help hLI (c_SW (As := [.ref (α 0 0 0), .int (xs (i + 1)), .int (xs (i + 2)), .ref o]) (rest := []) hx hb hml hl.1 hown hT hK hLI.hsM.1 (hLI.z hZ) (dd_of hLI.hsM hD) hN (hHC f H.size) kw_L_about w574 w575 w0 hd_L_about rfl rfl ⟨by decide, by decide⟩ rfl rfl (Nat.le_of_ble_eq_true rfl) d_law_776 ⟨by show cells + 1 ≤ 601024; omega, by show slots + 6 ≤ 7293033; omega⟩) (fun MC' α' ν' χ' f' H' q1 q2 q3 q4 q5 q6 q7 q8 hLI => ?_)
  refine lv_istore (lv' := [(5, .int (σ' 0 0)), (4, .int (nI i)), (3, .ref o), (2, .ref t), (1, .ref (α 0 0 0)), (0, .ref b)]) hx hb d_law_779 hl (by decide) rfl (fun ls hl => ?_)
  refine lv_aload_n hx hb d_law_781 rfl (lv_at hl 3 rfl) ?_
  refine lv_aload_n hx hb d_law_782 rfl (lv_at hl 5 rfl) ?_
  refine lv_iload hx hb d_law_783 (lv_at hl 1 rfl) ?_
  refine lv_iconst (v := 1) hx hb d_law_785 (by decide) ?_
  refine lv_iadd hx hb d_law_786 ?_
  refine l_sld C hLI (j := i + 1) (nI_add i 1) (by omega) d_law_787 ?_
  refine lv_aload_n hx hb d_law_788 rfl (lv_at hl 5 rfl) ?_
  refine lv_iload hx hb d_law_789 (lv_at hl 1 rfl) ?_
  refine lv_iconst (v := 2) hx hb d_law_791 (by decide) ?_
  refine lv_iadd hx hb d_law_792 ?_
  refine l_sld C hLI (j := i + 2) (nI_add i 2) (by omega) d_law_793 ?_
  refine w_twin hLI (c_V (As := [.int (xs (i + 1)), .int (xs (i + 2))]) (rest := []) hx hb hml hl.1 hown hT hK hLI.hsT.1 (hTC t H'.size) kw_T_about w838 w839 w840 w8 hd_T_about rfl rfl ⟨by decide, by decide⟩ tw_t rfl rfl rfl (Nat.le_of_ble_eq_true rfl) d_law_794 ⟨by show cells + 1 + 0 ≤ 601024; omega, by show slots + 6 + 0 ≤ 7293033; omega⟩) (fun H'' hLI => ?_)
  refine W.eq (g2 := F0 m 797 ls [.int r]) rfl ?_
  refine lv_istore (lv' := [(6, .int r), (5, .int (σ' 0 0)), (4, .int (nI i)), (3, .ref o), (2, .ref t), (1, .ref (α 0 0 0)), (0, .ref b)]) hx hb d_law_797 hl (by decide) rfl (fun ls hl => ?_)
  refine lv_aload_n hx hb d_law_799 rfl (lv_at hl 4 rfl) ?_
  refine rd_run (c_V (As := []) (rest := []) hx hb hml hl.1 hown hT hK hLI.hsT.1 (c_T_thrown l g t σ' H''.size) kw_T_thrown w727 w728 w729 w8 hd_T_thrown rfl rfl ⟨by decide, by decide⟩ tw_t rfl rfl rfl (Nat.le_of_ble_eq_true rfl) d_law_800 ⟨by show cells + 1 + 0 + 0 ≤ 601024; omega, by show slots + 6 + 0 + 0 ≤ 7293033; omega⟩) rfl ?_
  refine lv_iload hx hb d_law_803 (lv_at hl 1 rfl) ?_
  refine lv_icmp_eq (tgt := 810) hx hb d_law_805 (by decide) (fun _ => ?_) (fun hq9 => absurd (rfl) hq9)
  refine lv_iload hx hb d_law_810 (lv_at hl 1 rfl) ?_
  refine lv_if_ne (tgt := 827) hx hb d_law_812 (by decide) (fun c1 => ?_) (fun c1 => ?_)
  · skip
    refine lv_goto (tgt := 1221) hx hb d_law_827 (by decide) ?_
    refine W.more (cells' := cells + 6) (slots' := slots + 1202) (by omega) (by omega) ?_
    exact kk _ _ MC' f' σ' α' ν' χ' (lv_sub hl [2, 3, 4, 5, 6] rfl) hLI ⟨q1, q2, q3, q4, q5⟩ q6 q7
  · skip
    refine lv_aload_n hx hb d_law_815 rfl (lv_at hl 3 rfl) ?_
    refine lv_iconst (v := 0) hx hb d_law_816 (by decide) ?_
    refine m_lald hx hb hK hLI.hsM.1 3 (show mu MC' o (oL g f') o = some (.inl (g.2 3, 1, .inr (.inl f'))) from mu_s) rfl (j := 0) rfl (by decide) (by decide) d_law_817 ?_
    refine lv_iload hx hb d_law_818 (lv_at hl 0 rfl) ?_
    refine lv_i2l (v := r.toInt64) hx hb d_law_820 rfl ?_
    refine W.lcmp hx hb d_law_821 ?_
    refine lv_if_eq (tgt := 827) hx hb d_law_822 (by decide) (fun _ => ?_) (fun hq9 => absurd (lg_same (q8 c1)) hq9)
    refine lv_goto (tgt := 1221) hx hb d_law_827 (by decide) ?_
    refine W.more (cells' := cells + 6) (slots' := slots + 1202) (by omega) (by omega) ?_
    exact kk _ _ MC' f' σ' α' ν' χ' (lv_sub hl [2, 3, 4, 5, 6] rfl) hLI ⟨q1, q2, q3, q4, q5⟩ q6 q7
set_option maxHeartbeats 4000000 in
set_option maxRecDepth 100000 in
theorem turn_run (C : LC p l s m c g de mir b L xs) (hl : lv_has ls 7 [(4, .int (nI i)), (3, .ref o), (2, .ref t), (1, .ref a0), (0, .ref b)]) (hLI : LI g s t o σ MC f H) (hCL : CL g α ν χ MC de σ a0) (h60 : ν 0 < 600) (h61 : ν 1 < 600) (hi : i + 5 ≤ L) (hcc : cells + 6 ≤ 601024) (hss : slots + 1202 ≤ 7293033)
    (kk : ∀ (ls' : Array Slot) (H' : Heap) (MC' : MW) (f' : Nat → Int64) (σ' : SG) (α' : AL3) (ν' : Nat → Nat) (χ' : SG), lv_has ls' 7 [(4, .int (nI i)), (3, .ref o), (2, .ref t), (1, .ref a0), (0, .ref b)] → LI g s t o σ' MC' f' H' → CL g α' ν' χ' MC' de σ' a0 → ν' 0 ≤ ν 0 + 1 → ν' 1 ≤ ν 1 + 1 → W p l e room_1 s m #[Value.ref b] below meth c H' [] (cells + 6) (slots + 1202) Q (F0 m 1221 ls' [])) : W p l e room_1 s m #[Value.ref b] below meth c H [] cells slots Q (F0 m 830 ls []) := by
  obtain ⟨hW, hN1, hLD, hR, rfl⟩ := hCL
  obtain ⟨hx, hb, hml, hown, hT, hK, hZ, hD, hN, hX, hbl, hlf, hL⟩ := id C
  refine lv_aload_n hx hb d_law_830 rfl (lv_at hl 3 rfl) ?_
  refine lv_aload_n hx hb d_law_831 rfl (lv_at hl 4 rfl) ?_
  refine lv_iload hx hb d_law_832 (lv_at hl 0 rfl) ?_
  refine lv_iconst (v := 1) hx hb d_law_834 (by decide) ?_
  refine lv_iadd hx hb d_law_835 ?_
  refine l_sld C hLI (j := i + 1) (nI_add i 1) (by omega) d_law_836 ?_
  refine lv_aload_n hx hb d_law_837 rfl (lv_at hl 4 rfl) ?_
  refine lv_iload hx hb d_law_838 (lv_at hl 0 rfl) ?_
  refine lv_iconst (v := 2) hx hb d_law_840 (by decide) ?_
  refine lv_iadd hx hb d_law_841 ?_
  refine l_sld C hLI (j := i + 2) (nI_add i 2) (by omega) d_law_842 ?_
  refine lv_aload_n hx hb d_law_843 rfl (lv_at hl 4 rfl) ?_
  refine lv_iload hx hb d_law_844 (lv_at hl 0 rfl) ?_
  refine lv_iconst (v := 3) hx hb d_law_846 (by decide) ?_
  refine lv_iadd hx hb d_law_847 ?_
  refine l_sld C hLI (j := i + 3) (nI_add i 3) (by omega) d_law_848 ?_
  refine lv_if_eq (tgt := 856) hx hb d_law_849 (by decide) (fun c5 => ?_) (fun c5 => ?_)
  · skip
    obtain ⟨r, σ', hTC, hHC⟩ := op_run l hlf g α ν χ σ MC de mir o hW hN1 hLD hR hLI.no h60 h61 (xs (i + 1)) (xs (i + 2)) 0
    refine lv_iconst (v := 0) hx hb d_law_856 (by decide) ?_
    refine lv_aload_n hx hb d_law_857 rfl (lv_at hl 1 rfl) ?_
    refine w_help hLI (c_SW (As := [.ref (α 0 0 0), .int (xs (i + 1)), .int (xs (i + 2)), .int 0, .ref o]) (rest := []) hx hb hml hl.1 hown hT hK hLI.hsM.1 (hLI.z hZ) (dd_of hLI.hsM hD) hN (hHC f H.size) kw_L_run w604 w605 w0 hd_L_run rfl rfl ⟨by decide, by decide⟩ rfl rfl (Nat.le_of_ble_eq_true rfl) d_law_858 ⟨by show cells + 1 ≤ 601024; omega, by show slots + 6 ≤ 7293033; omega⟩) (fun MC' α' ν' χ' f' H' q1 q2 q3 q4 q5 q6 q7 q8 hLI => ?_)
    refine lv_istore (lv' := [(5, .int (σ' 0 0)), (4, .int (nI i)), (3, .ref o), (2, .ref t), (1, .ref (α 0 0 0)), (0, .ref b)]) hx hb d_law_861 hl (by decide) rfl (fun ls hl => ?_)
    refine lv_aload_n hx hb d_law_863 rfl (lv_at hl 3 rfl) ?_
    refine lv_aload_n hx hb d_law_864 rfl (lv_at hl 5 rfl) ?_
    refine lv_iload hx hb d_law_865 (lv_at hl 1 rfl) ?_
    refine lv_iconst (v := 1) hx hb d_law_867 (by decide) ?_
    refine lv_iadd hx hb d_law_868 ?_
    refine l_sld C hLI (j := i + 1) (nI_add i 1) (by omega) d_law_869 ?_
    refine lv_aload_n hx hb d_law_870 rfl (lv_at hl 5 rfl) ?_
    refine lv_iload hx hb d_law_871 (lv_at hl 1 rfl) ?_
    refine lv_iconst (v := 2) hx hb d_law_873 (by decide) ?_
    refine lv_iadd hx hb d_law_874 ?_
    refine l_sld C hLI (j := i + 2) (nI_add i 2) (by omega) d_law_875 ?_
    refine lv_aload_n hx hb d_law_876 rfl (lv_at hl 5 rfl) ?_
    refine lv_iload hx hb d_law_877 (lv_at hl 1 rfl) ?_
    refine lv_iconst (v := 3) hx hb d_law_879 (by decide) ?_
    refine lv_iadd hx hb d_law_880 ?_
    refine l_sld C hLI (j := i + 3) (nI_add i 3) (by omega) d_law_881 ?_
    refine lv_if_eq (tgt := 889) hx hb d_law_882 (by decide) (fun _ => ?_) (fun hq9 => absurd c5 hq9)
    refine lv_iconst (v := 0) hx hb d_law_889 (by decide) ?_
    refine w_twin hLI (c_V (As := [.int (xs (i + 1)), .int (xs (i + 2)), .int 0]) (rest := []) hx hb hml hl.1 hown hT hK hLI.hsT.1 (hTC t H'.size) kw_T_run w854 w855 w856 w8 hd_T_run rfl rfl ⟨by decide, by decide⟩ tw_t rfl rfl rfl (Nat.le_of_ble_eq_true rfl) d_law_890 ⟨by show cells + 1 + 0 ≤ 601024; omega, by show slots + 6 + 0 ≤ 7293033; omega⟩) (fun H'' hLI => ?_)
    refine W.eq (g2 := F0 m 893 ls [.int r]) rfl ?_
    refine lv_istore (lv' := [(6, .int r), (5, .int (σ' 0 0)), (4, .int (nI i)), (3, .ref o), (2, .ref t), (1, .ref (α 0 0 0)), (0, .ref b)]) hx hb d_law_893 hl (by decide) rfl (fun ls hl => ?_)
    refine lv_aload_n hx hb d_law_895 rfl (lv_at hl 4 rfl) ?_
    refine rd_run (c_V (As := []) (rest := []) hx hb hml hl.1 hown hT hK hLI.hsT.1 (c_T_thrown l g t σ' H''.size) kw_T_thrown w727 w728 w729 w8 hd_T_thrown rfl rfl ⟨by decide, by decide⟩ tw_t rfl rfl rfl (Nat.le_of_ble_eq_true rfl) d_law_896 ⟨by show cells + 1 + 0 + 0 ≤ 601024; omega, by show slots + 6 + 0 + 0 ≤ 7293033; omega⟩) rfl ?_
    refine lv_iload hx hb d_law_899 (lv_at hl 1 rfl) ?_
    refine lv_icmp_eq (tgt := 906) hx hb d_law_901 (by decide) (fun _ => ?_) (fun hq9 => absurd (rfl) hq9)
    refine lv_iload hx hb d_law_906 (lv_at hl 1 rfl) ?_
    refine lv_if_ne (tgt := 923) hx hb d_law_908 (by decide) (fun c1 => ?_) (fun c1 => ?_)
    · skip
      refine lv_goto (tgt := 1221) hx hb d_law_923 (by decide) ?_
      refine W.more (cells' := cells + 6) (slots' := slots + 1202) (by omega) (by omega) ?_
      exact kk _ _ MC' f' σ' α' ν' χ' (lv_sub hl [2, 3, 4, 5, 6] rfl) hLI ⟨q1, q2, q3, q4, q5⟩ q6 q7
    · skip
      refine lv_aload_n hx hb d_law_911 rfl (lv_at hl 3 rfl) ?_
      refine lv_iconst (v := 0) hx hb d_law_912 (by decide) ?_
      refine m_lald hx hb hK hLI.hsM.1 3 (show mu MC' o (oL g f') o = some (.inl (g.2 3, 1, .inr (.inl f'))) from mu_s) rfl (j := 0) rfl (by decide) (by decide) d_law_913 ?_
      refine lv_iload hx hb d_law_914 (lv_at hl 0 rfl) ?_
      refine lv_i2l (v := r.toInt64) hx hb d_law_916 rfl ?_
      refine W.lcmp hx hb d_law_917 ?_
      refine lv_if_eq (tgt := 923) hx hb d_law_918 (by decide) (fun _ => ?_) (fun hq9 => absurd (lg_same (q8 c1)) hq9)
      refine lv_goto (tgt := 1221) hx hb d_law_923 (by decide) ?_
      refine W.more (cells' := cells + 6) (slots' := slots + 1202) (by omega) (by omega) ?_
      exact kk _ _ MC' f' σ' α' ν' χ' (lv_sub hl [2, 3, 4, 5, 6] rfl) hLI ⟨q1, q2, q3, q4, q5⟩ q6 q7
  · skip
    obtain ⟨r, σ', hTC, hHC⟩ := op_run l hlf g α ν χ σ MC de mir o hW hN1 hLD hR hLI.no h60 h61 (xs (i + 1)) (xs (i + 2)) 1
    refine lv_iconst (v := 1) hx hb d_law_852 (by decide) ?_
    refine lv_goto (tgt := 857) hx hb d_law_853 (by decide) ?_
    refine lv_aload_n hx hb d_law_857 rfl (lv_at hl 1 rfl) ?_
    refine w_help hLI (c_SW (As := [.ref (α 0 0 0), .int (xs (i + 1)), .int (xs (i + 2)), .int 1, .ref o]) (rest := []) hx hb hml hl.1 hown hT hK hLI.hsM.1 (hLI.z hZ) (dd_of hLI.hsM hD) hN (hHC f H.size) kw_L_run w604 w605 w0 hd_L_run rfl rfl ⟨by decide, by decide⟩ rfl rfl (Nat.le_of_ble_eq_true rfl) d_law_858 ⟨by show cells + 1 ≤ 601024; omega, by show slots + 6 ≤ 7293033; omega⟩) (fun MC' α' ν' χ' f' H' q1 q2 q3 q4 q5 q6 q7 q8 hLI => ?_)
    refine lv_istore (lv' := [(5, .int (σ' 0 0)), (4, .int (nI i)), (3, .ref o), (2, .ref t), (1, .ref (α 0 0 0)), (0, .ref b)]) hx hb d_law_861 hl (by decide) rfl (fun ls hl => ?_)
    refine lv_aload_n hx hb d_law_863 rfl (lv_at hl 3 rfl) ?_
    refine lv_aload_n hx hb d_law_864 rfl (lv_at hl 5 rfl) ?_
    refine lv_iload hx hb d_law_865 (lv_at hl 1 rfl) ?_
    refine lv_iconst (v := 1) hx hb d_law_867 (by decide) ?_
    refine lv_iadd hx hb d_law_868 ?_
    refine l_sld C hLI (j := i + 1) (nI_add i 1) (by omega) d_law_869 ?_
    refine lv_aload_n hx hb d_law_870 rfl (lv_at hl 5 rfl) ?_
    refine lv_iload hx hb d_law_871 (lv_at hl 1 rfl) ?_
    refine lv_iconst (v := 2) hx hb d_law_873 (by decide) ?_
    refine lv_iadd hx hb d_law_874 ?_
    refine l_sld C hLI (j := i + 2) (nI_add i 2) (by omega) d_law_875 ?_
    refine lv_aload_n hx hb d_law_876 rfl (lv_at hl 5 rfl) ?_
    refine lv_iload hx hb d_law_877 (lv_at hl 1 rfl) ?_
    refine lv_iconst (v := 3) hx hb d_law_879 (by decide) ?_
    refine lv_iadd hx hb d_law_880 ?_
    refine l_sld C hLI (j := i + 3) (nI_add i 3) (by omega) d_law_881 ?_
    refine lv_if_eq (tgt := 889) hx hb d_law_882 (by decide) (fun hq9 => absurd hq9 c5) (fun _ => ?_)
    refine lv_iconst (v := 1) hx hb d_law_885 (by decide) ?_
    refine lv_goto (tgt := 890) hx hb d_law_886 (by decide) ?_
    refine w_twin hLI (c_V (As := [.int (xs (i + 1)), .int (xs (i + 2)), .int 1]) (rest := []) hx hb hml hl.1 hown hT hK hLI.hsT.1 (hTC t H'.size) kw_T_run w854 w855 w856 w8 hd_T_run rfl rfl ⟨by decide, by decide⟩ tw_t rfl rfl rfl (Nat.le_of_ble_eq_true rfl) d_law_890 ⟨by show cells + 1 + 0 ≤ 601024; omega, by show slots + 6 + 0 ≤ 7293033; omega⟩) (fun H'' hLI => ?_)
    refine W.eq (g2 := F0 m 893 ls [.int r]) rfl ?_
    refine lv_istore (lv' := [(6, .int r), (5, .int (σ' 0 0)), (4, .int (nI i)), (3, .ref o), (2, .ref t), (1, .ref (α 0 0 0)), (0, .ref b)]) hx hb d_law_893 hl (by decide) rfl (fun ls hl => ?_)
    refine lv_aload_n hx hb d_law_895 rfl (lv_at hl 4 rfl) ?_
    refine rd_run (c_V (As := []) (rest := []) hx hb hml hl.1 hown hT hK hLI.hsT.1 (c_T_thrown l g t σ' H''.size) kw_T_thrown w727 w728 w729 w8 hd_T_thrown rfl rfl ⟨by decide, by decide⟩ tw_t rfl rfl rfl (Nat.le_of_ble_eq_true rfl) d_law_896 ⟨by show cells + 1 + 0 + 0 ≤ 601024; omega, by show slots + 6 + 0 + 0 ≤ 7293033; omega⟩) rfl ?_
    refine lv_iload hx hb d_law_899 (lv_at hl 1 rfl) ?_
    refine lv_icmp_eq (tgt := 906) hx hb d_law_901 (by decide) (fun _ => ?_) (fun hq9 => absurd (rfl) hq9)
    refine lv_iload hx hb d_law_906 (lv_at hl 1 rfl) ?_
    refine lv_if_ne (tgt := 923) hx hb d_law_908 (by decide) (fun c1 => ?_) (fun c1 => ?_)
    · skip
      refine lv_goto (tgt := 1221) hx hb d_law_923 (by decide) ?_
      refine W.more (cells' := cells + 6) (slots' := slots + 1202) (by omega) (by omega) ?_
      exact kk _ _ MC' f' σ' α' ν' χ' (lv_sub hl [2, 3, 4, 5, 6] rfl) hLI ⟨q1, q2, q3, q4, q5⟩ q6 q7
    · skip
      refine lv_aload_n hx hb d_law_911 rfl (lv_at hl 3 rfl) ?_
      refine lv_iconst (v := 0) hx hb d_law_912 (by decide) ?_
      refine m_lald hx hb hK hLI.hsM.1 3 (show mu MC' o (oL g f') o = some (.inl (g.2 3, 1, .inr (.inl f'))) from mu_s) rfl (j := 0) rfl (by decide) (by decide) d_law_913 ?_
      refine lv_iload hx hb d_law_914 (lv_at hl 0 rfl) ?_
      refine lv_i2l (v := r.toInt64) hx hb d_law_916 rfl ?_
      refine W.lcmp hx hb d_law_917 ?_
      refine lv_if_eq (tgt := 923) hx hb d_law_918 (by decide) (fun _ => ?_) (fun hq9 => absurd (lg_same (q8 c1)) hq9)
      refine lv_goto (tgt := 1221) hx hb d_law_923 (by decide) ?_
      refine W.more (cells' := cells + 6) (slots' := slots + 1202) (by omega) (by omega) ?_
      exact kk _ _ MC' f' σ' α' ν' χ' (lv_sub hl [2, 3, 4, 5, 6] rfl) hLI ⟨q1, q2, q3, q4, q5⟩ q6 q7
set_option maxHeartbeats 4000000 in
set_option maxRecDepth 100000 in
theorem turn_refuses (C : LC p l s m c g de mir b L xs) (hl : lv_has ls 7 [(4, .int (nI i)), (3, .ref o), (2, .ref t), (1, .ref a0), (0, .ref b)]) (hLI : LI g s t o σ MC f H) (hCL : CL g α ν χ MC de σ a0) (h60 : ν 0 < 600) (h61 : ν 1 < 600) (hi : i + 5 ≤ L) (hcc : cells + 6 ≤ 601024) (hss : slots + 1202 ≤ 7293033)
    (kk : ∀ (ls' : Array Slot) (H' : Heap) (MC' : MW) (f' : Nat → Int64) (σ' : SG) (α' : AL3) (ν' : Nat → Nat) (χ' : SG), lv_has ls' 7 [(4, .int (nI i)), (3, .ref o), (2, .ref t), (1, .ref a0), (0, .ref b)] → LI g s t o σ' MC' f' H' → CL g α' ν' χ' MC' de σ' a0 → ν' 0 ≤ ν 0 + 1 → ν' 1 ≤ ν 1 + 1 → W p l e room_1 s m #[Value.ref b] below meth c H' [] (cells + 6) (slots + 1202) Q (F0 m 1221 ls' [])) : W p l e room_1 s m #[Value.ref b] below meth c H [] cells slots Q (F0 m 926 ls []) := by
  obtain ⟨hW, hN1, hLD, hR, rfl⟩ := hCL
  obtain ⟨hx, hb, hml, hown, hT, hK, hZ, hD, hN, hX, hbl, hlf, hL⟩ := id C
  obtain ⟨r, σ', hTC, hHC⟩ := op_refuses l hlf g α ν χ σ MC de mir o hW hN1 hLD hR hLI.no h60 h61 (xs (i + 1)) (xs (i + 2))
  refine lv_aload_n hx hb d_law_926 rfl (lv_at hl 3 rfl) ?_
  refine lv_aload_n hx hb d_law_927 rfl (lv_at hl 4 rfl) ?_
  refine lv_iload hx hb d_law_928 (lv_at hl 0 rfl) ?_
  refine lv_iconst (v := 1) hx hb d_law_930 (by decide) ?_
  refine lv_iadd hx hb d_law_931 ?_
  refine l_sld C hLI (j := i + 1) (nI_add i 1) (by omega) d_law_932 ?_
  refine lv_aload_n hx hb d_law_933 rfl (lv_at hl 4 rfl) ?_
  refine lv_iload hx hb d_law_934 (lv_at hl 0 rfl) ?_
  refine lv_iconst (v := 2) hx hb d_law_936 (by decide) ?_
  refine lv_iadd hx hb d_law_937 ?_
  refine l_sld C hLI (j := i + 2) (nI_add i 2) (by omega) d_law_938 ?_
  refine lv_aload_n hx hb d_law_939 rfl (lv_at hl 1 rfl) ?_
  refine w_help hLI (c_SW (As := [.ref (α 0 0 0), .int (xs (i + 1)), .int (xs (i + 2)), .ref o]) (rest := []) hx hb hml hl.1 hown hT hK hLI.hsM.1 (hLI.z hZ) (dd_of hLI.hsM hD) hN (hHC f H.size) kw_L_refuses w617 w618 w0 hd_L_refuses rfl rfl ⟨by decide, by decide⟩ rfl rfl (Nat.le_of_ble_eq_true rfl) d_law_940 ⟨by show cells + 1 ≤ 601024; omega, by show slots + 6 ≤ 7293033; omega⟩) (fun MC' α' ν' χ' f' H' q1 q2 q3 q4 q5 q6 q7 q8 hLI => ?_)
  refine lv_istore (lv' := [(5, .int (σ' 0 0)), (4, .int (nI i)), (3, .ref o), (2, .ref t), (1, .ref (α 0 0 0)), (0, .ref b)]) hx hb d_law_943 hl (by decide) rfl (fun ls hl => ?_)
  refine lv_aload_n hx hb d_law_945 rfl (lv_at hl 3 rfl) ?_
  refine lv_aload_n hx hb d_law_946 rfl (lv_at hl 5 rfl) ?_
  refine lv_iload hx hb d_law_947 (lv_at hl 1 rfl) ?_
  refine lv_iconst (v := 1) hx hb d_law_949 (by decide) ?_
  refine lv_iadd hx hb d_law_950 ?_
  refine l_sld C hLI (j := i + 1) (nI_add i 1) (by omega) d_law_951 ?_
  refine lv_aload_n hx hb d_law_952 rfl (lv_at hl 5 rfl) ?_
  refine lv_iload hx hb d_law_953 (lv_at hl 1 rfl) ?_
  refine lv_iconst (v := 2) hx hb d_law_955 (by decide) ?_
  refine lv_iadd hx hb d_law_956 ?_
  refine l_sld C hLI (j := i + 2) (nI_add i 2) (by omega) d_law_957 ?_
  refine w_twin hLI (c_V (As := [.int (xs (i + 1)), .int (xs (i + 2))]) (rest := []) hx hb hml hl.1 hown hT hK hLI.hsT.1 (hTC t H'.size) kw_T_refuses w858 w859 w860 w8 hd_T_refuses rfl rfl ⟨by decide, by decide⟩ tw_t rfl rfl rfl (Nat.le_of_ble_eq_true rfl) d_law_958 ⟨by show cells + 1 + 0 ≤ 601024; omega, by show slots + 6 + 0 ≤ 7293033; omega⟩) (fun H'' hLI => ?_)
  refine W.eq (g2 := F0 m 961 ls [.int r]) rfl ?_
  refine lv_istore (lv' := [(6, .int r), (5, .int (σ' 0 0)), (4, .int (nI i)), (3, .ref o), (2, .ref t), (1, .ref (α 0 0 0)), (0, .ref b)]) hx hb d_law_961 hl (by decide) rfl (fun ls hl => ?_)
  refine lv_aload_n hx hb d_law_963 rfl (lv_at hl 4 rfl) ?_
  refine rd_run (c_V (As := []) (rest := []) hx hb hml hl.1 hown hT hK hLI.hsT.1 (c_T_thrown l g t σ' H''.size) kw_T_thrown w727 w728 w729 w8 hd_T_thrown rfl rfl ⟨by decide, by decide⟩ tw_t rfl rfl rfl (Nat.le_of_ble_eq_true rfl) d_law_964 ⟨by show cells + 1 + 0 + 0 ≤ 601024; omega, by show slots + 6 + 0 + 0 ≤ 7293033; omega⟩) rfl ?_
  refine lv_iload hx hb d_law_967 (lv_at hl 1 rfl) ?_
  refine lv_icmp_eq (tgt := 974) hx hb d_law_969 (by decide) (fun _ => ?_) (fun hq9 => absurd (rfl) hq9)
  refine lv_iload hx hb d_law_974 (lv_at hl 1 rfl) ?_
  refine lv_if_ne (tgt := 998) hx hb d_law_976 (by decide) (fun c1 => ?_) (fun c1 => ?_)
  · skip
    refine lv_goto (tgt := 1221) hx hb d_law_998 (by decide) ?_
    refine W.more (cells' := cells + 6) (slots' := slots + 1202) (by omega) (by omega) ?_
    exact kk _ _ MC' f' σ' α' ν' χ' (lv_sub hl [2, 3, 4, 5, 6] rfl) hLI ⟨q1, q2, q3, q4, q5⟩ q6 q7
  · skip
    refine lv_aload_n hx hb d_law_979 rfl (lv_at hl 3 rfl) ?_
    refine lv_iconst (v := 0) hx hb d_law_980 (by decide) ?_
    refine m_lald hx hb hK hLI.hsM.1 3 (show mu MC' o (oL g f') o = some (.inl (g.2 3, 1, .inr (.inl f'))) from mu_s) rfl (j := 0) rfl (by decide) (by decide) d_law_981 ?_
    refine lv_iload hx hb d_law_982 (lv_at hl 0 rfl) ?_
    refine lv_if_eq (tgt := 991) hx hb d_law_984 (by decide) (fun c2 => ?_) (fun c2 => ?_)
    · skip
      refine lv_lconst (v := 0) hx hb d_law_991 (by decide) ?_
      refine W.lcmp hx hb d_law_992 ?_
      refine lv_if_eq (tgt := 998) hx hb d_law_993 (by decide) (fun _ => ?_) (fun hq9 => absurd (lg_same ((q8 c1).trans (by first | (rw [if_pos c2]; done) | (rw [if_neg c2]; done) | (rw [if_pos c2]; rfl) | (rw [if_neg c2]; rfl)))) hq9)
      refine lv_goto (tgt := 1221) hx hb d_law_998 (by decide) ?_
      refine W.more (cells' := cells + 6) (slots' := slots + 1202) (by omega) (by omega) ?_
      exact kk _ _ MC' f' σ' α' ν' χ' (lv_sub hl [2, 3, 4, 5, 6] rfl) hLI ⟨q1, q2, q3, q4, q5⟩ q6 q7
    · skip
      refine lv_lconst (v := 1) hx hb d_law_987 (by decide) ?_
      refine lv_goto (tgt := 992) hx hb d_law_988 (by decide) ?_
      refine W.lcmp hx hb d_law_992 ?_
      refine lv_if_eq (tgt := 998) hx hb d_law_993 (by decide) (fun _ => ?_) (fun hq9 => absurd (lg_same ((q8 c1).trans (by first | (rw [if_pos c2]; done) | (rw [if_neg c2]; done) | (rw [if_pos c2]; rfl) | (rw [if_neg c2]; rfl)))) hq9)
      refine lv_goto (tgt := 1221) hx hb d_law_998 (by decide) ?_
      refine W.more (cells' := cells + 6) (slots' := slots + 1202) (by omega) (by omega) ?_
      exact kk _ _ MC' f' σ' α' ν' χ' (lv_sub hl [2, 3, 4, 5, 6] rfl) hLI ⟨q1, q2, q3, q4, q5⟩ q6 q7
set_option maxHeartbeats 4000000 in
set_option maxRecDepth 100000 in
theorem turn_reach (C : LC p l s m c g de mir b L xs) (hl : lv_has ls 7 [(4, .int (nI i)), (3, .ref o), (2, .ref t), (1, .ref a0), (0, .ref b)]) (hLI : LI g s t o σ MC f H) (hCL : CL g α ν χ MC de σ a0) (h60 : ν 0 < 600) (h61 : ν 1 < 600) (hi : i + 5 ≤ L) (hcc : cells + 6 ≤ 601024) (hss : slots + 1202 ≤ 7293033)
    (kk : ∀ (ls' : Array Slot) (H' : Heap) (MC' : MW) (f' : Nat → Int64) (σ' : SG) (α' : AL3) (ν' : Nat → Nat) (χ' : SG), lv_has ls' 7 [(4, .int (nI i)), (3, .ref o), (2, .ref t), (1, .ref a0), (0, .ref b)] → LI g s t o σ' MC' f' H' → CL g α' ν' χ' MC' de σ' a0 → ν' 0 ≤ ν 0 + 1 → ν' 1 ≤ ν 1 + 1 → W p l e room_1 s m #[Value.ref b] below meth c H' [] (cells + 6) (slots + 1202) Q (F0 m 1221 ls' [])) : W p l e room_1 s m #[Value.ref b] below meth c H [] cells slots Q (F0 m 1001 ls []) := by
  obtain ⟨hW, hN1, hLD, hR, rfl⟩ := hCL
  obtain ⟨hx, hb, hml, hown, hT, hK, hZ, hD, hN, hX, hbl, hlf, hL⟩ := id C
  obtain ⟨r, σ', hTC, hHC⟩ := op_reach l hlf g α ν χ σ MC de mir o hW hN1 hLD hR hLI.no h60 h61 (xs (i + 1))
  refine lv_aload_n hx hb d_law_1001 rfl (lv_at hl 3 rfl) ?_
  refine lv_aload_n hx hb d_law_1002 rfl (lv_at hl 4 rfl) ?_
  refine lv_iload hx hb d_law_1003 (lv_at hl 0 rfl) ?_
  refine lv_iconst (v := 1) hx hb d_law_1005 (by decide) ?_
  refine lv_iadd hx hb d_law_1006 ?_
  refine l_sld C hLI (j := i + 1) (nI_add i 1) (by omega) d_law_1007 ?_
  refine lv_aload_n hx hb d_law_1008 rfl (lv_at hl 1 rfl) ?_
  refine w_help hLI (c_SW (As := [.ref (α 0 0 0), .int (xs (i + 1)), .ref o]) (rest := []) hx hb hml hl.1 hown hT hK hLI.hsM.1 (hLI.z hZ) (dd_of hLI.hsM hD) hN (hHC f H.size) kw_L_reach w625 w626 w0 hd_L_reach rfl rfl ⟨by decide, by decide⟩ rfl rfl (Nat.le_of_ble_eq_true rfl) d_law_1009 ⟨by show cells + 1 ≤ 601024; omega, by show slots + 6 ≤ 7293033; omega⟩) (fun MC' α' ν' χ' f' H' q1 q2 q3 q4 q5 q6 q7 q8 hLI => ?_)
  refine lv_istore (lv' := [(5, .int (σ' 0 0)), (4, .int (nI i)), (3, .ref o), (2, .ref t), (1, .ref (α 0 0 0)), (0, .ref b)]) hx hb d_law_1012 hl (by decide) rfl (fun ls hl => ?_)
  refine lv_aload_n hx hb d_law_1014 rfl (lv_at hl 3 rfl) ?_
  refine lv_aload_n hx hb d_law_1015 rfl (lv_at hl 5 rfl) ?_
  refine lv_iload hx hb d_law_1016 (lv_at hl 1 rfl) ?_
  refine lv_iconst (v := 1) hx hb d_law_1018 (by decide) ?_
  refine lv_iadd hx hb d_law_1019 ?_
  refine l_sld C hLI (j := i + 1) (nI_add i 1) (by omega) d_law_1020 ?_
  refine w_twin hLI (c_V (As := [.int (xs (i + 1))]) (rest := []) hx hb hml hl.1 hown hT hK hLI.hsT.1 (hTC t H'.size) kw_T_reach w862 w863 w864 w8 hd_T_reach rfl rfl ⟨by decide, by decide⟩ tw_t rfl rfl rfl (Nat.le_of_ble_eq_true rfl) d_law_1021 ⟨by show cells + 1 + 0 ≤ 601024; omega, by show slots + 6 + 0 ≤ 7293033; omega⟩) (fun H'' hLI => ?_)
  refine W.eq (g2 := F0 m 1024 ls [.int r]) rfl ?_
  refine lv_istore (lv' := [(6, .int r), (5, .int (σ' 0 0)), (4, .int (nI i)), (3, .ref o), (2, .ref t), (1, .ref (α 0 0 0)), (0, .ref b)]) hx hb d_law_1024 hl (by decide) rfl (fun ls hl => ?_)
  refine lv_aload_n hx hb d_law_1026 rfl (lv_at hl 4 rfl) ?_
  refine rd_run (c_V (As := []) (rest := []) hx hb hml hl.1 hown hT hK hLI.hsT.1 (c_T_thrown l g t σ' H''.size) kw_T_thrown w727 w728 w729 w8 hd_T_thrown rfl rfl ⟨by decide, by decide⟩ tw_t rfl rfl rfl (Nat.le_of_ble_eq_true rfl) d_law_1027 ⟨by show cells + 1 + 0 + 0 ≤ 601024; omega, by show slots + 6 + 0 + 0 ≤ 7293033; omega⟩) rfl ?_
  refine lv_iload hx hb d_law_1030 (lv_at hl 1 rfl) ?_
  refine lv_icmp_eq (tgt := 1037) hx hb d_law_1032 (by decide) (fun _ => ?_) (fun hq9 => absurd (rfl) hq9)
  refine lv_iload hx hb d_law_1037 (lv_at hl 1 rfl) ?_
  refine lv_if_ne (tgt := 1054) hx hb d_law_1039 (by decide) (fun c1 => ?_) (fun c1 => ?_)
  · skip
    refine lv_goto (tgt := 1221) hx hb d_law_1054 (by decide) ?_
    refine W.more (cells' := cells + 6) (slots' := slots + 1202) (by omega) (by omega) ?_
    exact kk _ _ MC' f' σ' α' ν' χ' (lv_sub hl [2, 3, 4, 5, 6] rfl) hLI ⟨q1, q2, q3, q4, q5⟩ q6 q7
  · skip
    refine lv_aload_n hx hb d_law_1042 rfl (lv_at hl 3 rfl) ?_
    refine lv_iconst (v := 0) hx hb d_law_1043 (by decide) ?_
    refine m_lald hx hb hK hLI.hsM.1 3 (show mu MC' o (oL g f') o = some (.inl (g.2 3, 1, .inr (.inl f'))) from mu_s) rfl (j := 0) rfl (by decide) (by decide) d_law_1044 ?_
    refine lv_iload hx hb d_law_1045 (lv_at hl 0 rfl) ?_
    refine lv_i2l (v := r.toInt64) hx hb d_law_1047 rfl ?_
    refine W.lcmp hx hb d_law_1048 ?_
    refine lv_if_eq (tgt := 1054) hx hb d_law_1049 (by decide) (fun _ => ?_) (fun hq9 => absurd (lg_same (q8 c1)) hq9)
    refine lv_goto (tgt := 1221) hx hb d_law_1054 (by decide) ?_
    refine W.more (cells' := cells + 6) (slots' := slots + 1202) (by omega) (by omega) ?_
    exact kk _ _ MC' f' σ' α' ν' χ' (lv_sub hl [2, 3, 4, 5, 6] rfl) hLI ⟨q1, q2, q3, q4, q5⟩ q6 q7
set_option maxHeartbeats 4000000 in
set_option maxRecDepth 100000 in
theorem turn_loseBattery (C : LC p l s m c g de mir b L xs) (hl : lv_has ls 7 [(4, .int (nI i)), (3, .ref o), (2, .ref t), (1, .ref a0), (0, .ref b)]) (hLI : LI g s t o σ MC f H) (hCL : CL g α ν χ MC de σ a0) (h60 : ν 0 < 600) (h61 : ν 1 < 600) (hi : i + 5 ≤ L) (hcc : cells + 6 ≤ 601024) (hss : slots + 1202 ≤ 7293033)
    (kk : ∀ (ls' : Array Slot) (H' : Heap) (MC' : MW) (f' : Nat → Int64) (σ' : SG) (α' : AL3) (ν' : Nat → Nat) (χ' : SG), lv_has ls' 7 [(4, .int (nI i)), (3, .ref o), (2, .ref t), (1, .ref a0), (0, .ref b)] → LI g s t o σ' MC' f' H' → CL g α' ν' χ' MC' de σ' a0 → ν' 0 ≤ ν 0 + 1 → ν' 1 ≤ ν 1 + 1 → W p l e room_1 s m #[Value.ref b] below meth c H' [] (cells + 6) (slots + 1202) Q (F0 m 1221 ls' [])) : W p l e room_1 s m #[Value.ref b] below meth c H [] cells slots Q (F0 m 1057 ls []) := by
  obtain ⟨hW, hN1, hLD, hR, rfl⟩ := hCL
  obtain ⟨hx, hb, hml, hown, hT, hK, hZ, hD, hN, hX, hbl, hlf, hL⟩ := id C
  obtain ⟨r, σ', hTC, hHC⟩ := op_loseBattery l hlf g α ν χ σ MC de mir o hW hN1 hLD hR hLI.no h60 h61 (xs (i + 1))
  refine lv_aload_n hx hb d_law_1057 rfl (lv_at hl 3 rfl) ?_
  refine lv_aload_n hx hb d_law_1058 rfl (lv_at hl 4 rfl) ?_
  refine lv_iload hx hb d_law_1059 (lv_at hl 0 rfl) ?_
  refine lv_iconst (v := 1) hx hb d_law_1061 (by decide) ?_
  refine lv_iadd hx hb d_law_1062 ?_
  refine l_sld C hLI (j := i + 1) (nI_add i 1) (by omega) d_law_1063 ?_
  refine w_help hLI (c_SW (As := [.ref (α 0 0 0), .int (xs (i + 1))]) (rest := []) hx hb hml hl.1 hown hT hK hLI.hsM.1 (hLI.z hZ) (dd_of hLI.hsM hD) hN (hHC f H.size) kw_L_loseBattery w641 w642 w0 hd_L_loseBattery rfl rfl ⟨by decide, by decide⟩ rfl rfl (Nat.le_of_ble_eq_true rfl) d_law_1064 ⟨by show cells + 1 ≤ 601024; omega, by show slots + 6 ≤ 7293033; omega⟩) (fun MC' α' ν' χ' f' H' q1 q2 q3 q4 q5 q6 q7 q8 hLI => ?_)
  refine lv_istore (lv' := [(5, .int (σ' 0 0)), (4, .int (nI i)), (3, .ref o), (2, .ref t), (1, .ref (α 0 0 0)), (0, .ref b)]) hx hb d_law_1067 hl (by decide) rfl (fun ls hl => ?_)
  refine lv_aload_n hx hb d_law_1069 rfl (lv_at hl 3 rfl) ?_
  refine lv_aload_n hx hb d_law_1070 rfl (lv_at hl 5 rfl) ?_
  refine lv_iload hx hb d_law_1071 (lv_at hl 1 rfl) ?_
  refine lv_iconst (v := 1) hx hb d_law_1073 (by decide) ?_
  refine lv_iadd hx hb d_law_1074 ?_
  refine l_sld C hLI (j := i + 1) (nI_add i 1) (by omega) d_law_1075 ?_
  refine w_twin hLI (c_V (As := [.int (xs (i + 1))]) (rest := []) hx hb hml hl.1 hown hT hK hLI.hsT.1 (hTC t H'.size) kw_T_loseBattery w866 w867 w868 w8 hd_T_loseBattery rfl rfl ⟨by decide, by decide⟩ tw_t rfl rfl rfl (Nat.le_of_ble_eq_true rfl) d_law_1076 ⟨by show cells + 1 + 0 ≤ 601024; omega, by show slots + 6 + 0 ≤ 7293033; omega⟩) (fun H'' hLI => ?_)
  refine W.eq (g2 := F0 m 1079 ls []) rfl ?_
  refine lv_aload_n hx hb d_law_1079 rfl (lv_at hl 3 rfl) ?_
  refine rd_run (c_V (As := []) (rest := []) hx hb hml hl.1 hown hT hK hLI.hsT.1 (c_T_thrown l g t σ' H''.size) kw_T_thrown w727 w728 w729 w8 hd_T_thrown rfl rfl ⟨by decide, by decide⟩ tw_t rfl rfl rfl (Nat.le_of_ble_eq_true rfl) d_law_1080 ⟨by show cells + 1 + 0 + 0 ≤ 601024; omega, by show slots + 6 + 0 + 0 ≤ 7293033; omega⟩) rfl ?_
  refine lv_iload hx hb d_law_1083 (lv_at hl 0 rfl) ?_
  refine lv_icmp_eq (tgt := 1090) hx hb d_law_1085 (by decide) (fun _ => ?_) (fun hq9 => absurd (rfl) hq9)
  refine lv_goto (tgt := 1221) hx hb d_law_1090 (by decide) ?_
  refine W.more (cells' := cells + 6) (slots' := slots + 1202) (by omega) (by omega) ?_
  exact kk _ _ MC' f' σ' α' ν' χ' (lv_sub hl [1, 2, 3, 4, 5] rfl) hLI ⟨q1, q2, q3, q4, q5⟩ q6 q7
set_option maxHeartbeats 4000000 in
set_option maxRecDepth 100000 in
theorem turn_visit (C : LC p l s m c g de mir b L xs) (hl : lv_has ls 7 [(4, .int (nI i)), (3, .ref o), (2, .ref t), (1, .ref a0), (0, .ref b)]) (hLI : LI g s t o σ MC f H) (hCL : CL g α ν χ MC de σ a0) (h60 : ν 0 < 600) (h61 : ν 1 < 600) (hi : i + 5 ≤ L) (hcc : cells + 6 ≤ 601024) (hss : slots + 1202 ≤ 7293033)
    (kk : ∀ (ls' : Array Slot) (H' : Heap) (MC' : MW) (f' : Nat → Int64) (σ' : SG) (α' : AL3) (ν' : Nat → Nat) (χ' : SG), lv_has ls' 7 [(4, .int (nI i)), (3, .ref o), (2, .ref t), (1, .ref a0), (0, .ref b)] → LI g s t o σ' MC' f' H' → CL g α' ν' χ' MC' de σ' a0 → ν' 0 ≤ ν 0 + 1 → ν' 1 ≤ ν 1 + 1 → W p l e room_1 s m #[Value.ref b] below meth c H' [] (cells + 6) (slots + 1202) Q (F0 m 1221 ls' [])) : W p l e room_1 s m #[Value.ref b] below meth c H [] cells slots Q (F0 m 1093 ls []) := by
  obtain ⟨hW, hN1, hLD, hR, rfl⟩ := hCL
  obtain ⟨hx, hb, hml, hown, hT, hK, hZ, hD, hN, hX, hbl, hlf, hL⟩ := id C
  obtain ⟨r, σ', hTC, hHC⟩ := op_visit l hlf g α ν χ σ MC de mir o hW hN1 hLD hR hLI.no h60 h61 (xs (i + 1)) (xs (i + 2)) (xs (i + 3)) (xs (i + 4))
  refine lv_aload_n hx hb d_law_1093 rfl (lv_at hl 3 rfl) ?_
  refine lv_aload_n hx hb d_law_1094 rfl (lv_at hl 4 rfl) ?_
  refine lv_iload hx hb d_law_1095 (lv_at hl 0 rfl) ?_
  refine lv_iconst (v := 1) hx hb d_law_1097 (by decide) ?_
  refine lv_iadd hx hb d_law_1098 ?_
  refine l_sld C hLI (j := i + 1) (nI_add i 1) (by omega) d_law_1099 ?_
  refine lv_aload_n hx hb d_law_1100 rfl (lv_at hl 4 rfl) ?_
  refine lv_iload hx hb d_law_1101 (lv_at hl 0 rfl) ?_
  refine lv_iconst (v := 2) hx hb d_law_1103 (by decide) ?_
  refine lv_iadd hx hb d_law_1104 ?_
  refine l_sld C hLI (j := i + 2) (nI_add i 2) (by omega) d_law_1105 ?_
  refine lv_aload_n hx hb d_law_1106 rfl (lv_at hl 4 rfl) ?_
  refine lv_iload hx hb d_law_1107 (lv_at hl 0 rfl) ?_
  refine lv_iconst (v := 3) hx hb d_law_1109 (by decide) ?_
  refine lv_iadd hx hb d_law_1110 ?_
  refine l_sld C hLI (j := i + 3) (nI_add i 3) (by omega) d_law_1111 ?_
  refine lv_aload_n hx hb d_law_1112 rfl (lv_at hl 4 rfl) ?_
  refine lv_iload hx hb d_law_1113 (lv_at hl 0 rfl) ?_
  refine lv_iconst (v := 4) hx hb d_law_1115 (by decide) ?_
  refine lv_iadd hx hb d_law_1116 ?_
  refine l_sld C hLI (j := i + 4) (nI_add i 4) (by omega) d_law_1117 ?_
  refine w_help hLI (c_SW (As := [.ref (α 0 0 0), .int (xs (i + 1)), .int (xs (i + 2)), .int (xs (i + 3)), .int (xs (i + 4))]) (rest := []) hx hb hml hl.1 hown hT hK hLI.hsM.1 (hLI.z hZ) (dd_of hLI.hsM hD) hN (hHC f H.size) kw_L_visit w648 w649 w0 hd_L_visit rfl rfl ⟨by decide, by decide⟩ rfl rfl (Nat.le_of_ble_eq_true rfl) d_law_1118 ⟨by show cells + 1 ≤ 601024; omega, by show slots + 6 ≤ 7293033; omega⟩) (fun MC' α' ν' χ' f' H' q1 q2 q3 q4 q5 q6 q7 q8 hLI => ?_)
  refine lv_istore (lv' := [(5, .int (σ' 0 0)), (4, .int (nI i)), (3, .ref o), (2, .ref t), (1, .ref (α 0 0 0)), (0, .ref b)]) hx hb d_law_1121 hl (by decide) rfl (fun ls hl => ?_)
  refine lv_aload_n hx hb d_law_1123 rfl (lv_at hl 3 rfl) ?_
  refine lv_aload_n hx hb d_law_1124 rfl (lv_at hl 5 rfl) ?_
  refine lv_iload hx hb d_law_1125 (lv_at hl 1 rfl) ?_
  refine lv_iconst (v := 1) hx hb d_law_1127 (by decide) ?_
  refine lv_iadd hx hb d_law_1128 ?_
  refine l_sld C hLI (j := i + 1) (nI_add i 1) (by omega) d_law_1129 ?_
  refine lv_aload_n hx hb d_law_1130 rfl (lv_at hl 5 rfl) ?_
  refine lv_iload hx hb d_law_1131 (lv_at hl 1 rfl) ?_
  refine lv_iconst (v := 2) hx hb d_law_1133 (by decide) ?_
  refine lv_iadd hx hb d_law_1134 ?_
  refine l_sld C hLI (j := i + 2) (nI_add i 2) (by omega) d_law_1135 ?_
  refine lv_aload_n hx hb d_law_1136 rfl (lv_at hl 5 rfl) ?_
  refine lv_iload hx hb d_law_1137 (lv_at hl 1 rfl) ?_
  refine lv_iconst (v := 3) hx hb d_law_1139 (by decide) ?_
  refine lv_iadd hx hb d_law_1140 ?_
  refine l_sld C hLI (j := i + 3) (nI_add i 3) (by omega) d_law_1141 ?_
  refine lv_aload_n hx hb d_law_1142 rfl (lv_at hl 5 rfl) ?_
  refine lv_iload hx hb d_law_1143 (lv_at hl 1 rfl) ?_
  refine lv_iconst (v := 4) hx hb d_law_1145 (by decide) ?_
  refine lv_iadd hx hb d_law_1146 ?_
  refine l_sld C hLI (j := i + 4) (nI_add i 4) (by omega) d_law_1147 ?_
  refine w_twin hLI (c_V (As := [.int (xs (i + 1)), .int (xs (i + 2)), .int (xs (i + 3)), .int (xs (i + 4))]) (rest := []) hx hb hml hl.1 hown hT hK hLI.hsT.1 (hTC t H'.size) kw_T_visit w870 w871 w872 w8 hd_T_visit rfl rfl ⟨by decide, by decide⟩ tw_t rfl rfl rfl (Nat.le_of_ble_eq_true rfl) d_law_1148 ⟨by show cells + 1 + 0 ≤ 601024; omega, by show slots + 6 + 0 ≤ 7293033; omega⟩) (fun H'' hLI => ?_)
  refine W.eq (g2 := F0 m 1151 ls []) rfl ?_
  refine lv_aload_n hx hb d_law_1151 rfl (lv_at hl 3 rfl) ?_
  refine rd_run (c_V (As := []) (rest := []) hx hb hml hl.1 hown hT hK hLI.hsT.1 (c_T_thrown l g t σ' H''.size) kw_T_thrown w727 w728 w729 w8 hd_T_thrown rfl rfl ⟨by decide, by decide⟩ tw_t rfl rfl rfl (Nat.le_of_ble_eq_true rfl) d_law_1152 ⟨by show cells + 1 + 0 + 0 ≤ 601024; omega, by show slots + 6 + 0 + 0 ≤ 7293033; omega⟩) rfl ?_
  refine lv_iload hx hb d_law_1155 (lv_at hl 0 rfl) ?_
  refine lv_icmp_eq (tgt := 1162) hx hb d_law_1157 (by decide) (fun _ => ?_) (fun hq9 => absurd (rfl) hq9)
  refine lv_goto (tgt := 1221) hx hb d_law_1162 (by decide) ?_
  refine W.more (cells' := cells + 6) (slots' := slots + 1202) (by omega) (by omega) ?_
  exact kk _ _ MC' f' σ' α' ν' χ' (lv_sub hl [1, 2, 3, 4, 5] rfl) hLI ⟨q1, q2, q3, q4, q5⟩ q6 q7
set_option maxHeartbeats 4000000 in
set_option maxRecDepth 100000 in
theorem turn_spread (C : LC p l s m c g de mir b L xs) (hl : lv_has ls 7 [(4, .int (nI i)), (3, .ref o), (2, .ref t), (1, .ref a0), (0, .ref b)]) (hLI : LI g s t o σ MC f H) (hCL : CL g α ν χ MC de σ a0) (h60 : ν 0 < 600) (h61 : ν 1 < 600) (hi : i + 5 ≤ L) (hcc : cells + 6 ≤ 601024) (hss : slots + 1202 ≤ 7293033)
    (kk : ∀ (ls' : Array Slot) (H' : Heap) (MC' : MW) (f' : Nat → Int64) (σ' : SG) (α' : AL3) (ν' : Nat → Nat) (χ' : SG), lv_has ls' 7 [(4, .int (nI i)), (3, .ref o), (2, .ref t), (1, .ref a0), (0, .ref b)] → LI g s t o σ' MC' f' H' → CL g α' ν' χ' MC' de σ' a0 → ν' 0 ≤ ν 0 + 1 → ν' 1 ≤ ν 1 + 1 → W p l e room_1 s m #[Value.ref b] below meth c H' [] (cells + 6) (slots + 1202) Q (F0 m 1221 ls' [])) : W p l e room_1 s m #[Value.ref b] below meth c H [] cells slots Q (F0 m 1165 ls []) := by
  obtain ⟨hW, hN1, hLD, hR, rfl⟩ := hCL
  obtain ⟨hx, hb, hml, hown, hT, hK, hZ, hD, hN, hX, hbl, hlf, hL⟩ := id C
  obtain ⟨r, σ', hTC, hHC⟩ := op_spread l hlf g α ν χ σ MC de mir o hW hN1 hLD hR hLI.no h60 h61 (xs (i + 1))
  refine lv_aload_n hx hb d_law_1165 rfl (lv_at hl 3 rfl) ?_
  refine lv_aload_n hx hb d_law_1166 rfl (lv_at hl 4 rfl) ?_
  refine lv_iload hx hb d_law_1167 (lv_at hl 0 rfl) ?_
  refine lv_iconst (v := 1) hx hb d_law_1169 (by decide) ?_
  refine lv_iadd hx hb d_law_1170 ?_
  refine l_sld C hLI (j := i + 1) (nI_add i 1) (by omega) d_law_1171 ?_
  refine lv_aload_n hx hb d_law_1172 rfl (lv_at hl 1 rfl) ?_
  refine w_help hLI (c_SW (As := [.ref (α 0 0 0), .int (xs (i + 1)), .ref o]) (rest := []) hx hb hml hl.1 hown hT hK hLI.hsM.1 (hLI.z hZ) (dd_of hLI.hsM hD) hN (hHC f H.size) kw_L_spread w656 w657 w0 hd_L_spread rfl rfl ⟨by decide, by decide⟩ rfl rfl (Nat.le_of_ble_eq_true rfl) d_law_1173 ⟨by show cells + 1 ≤ 601024; omega, by show slots + 6 ≤ 7293033; omega⟩) (fun MC' α' ν' χ' f' H' q1 q2 q3 q4 q5 q6 q7 q8 hLI => ?_)
  refine lv_istore (lv' := [(5, .int (σ' 0 0)), (4, .int (nI i)), (3, .ref o), (2, .ref t), (1, .ref (α 0 0 0)), (0, .ref b)]) hx hb d_law_1176 hl (by decide) rfl (fun ls hl => ?_)
  refine lv_aload_n hx hb d_law_1178 rfl (lv_at hl 3 rfl) ?_
  refine lv_aload_n hx hb d_law_1179 rfl (lv_at hl 5 rfl) ?_
  refine lv_iload hx hb d_law_1180 (lv_at hl 1 rfl) ?_
  refine lv_iconst (v := 1) hx hb d_law_1182 (by decide) ?_
  refine lv_iadd hx hb d_law_1183 ?_
  refine l_sld C hLI (j := i + 1) (nI_add i 1) (by omega) d_law_1184 ?_
  refine w_twin hLI (c_V (As := [.int (xs (i + 1))]) (rest := []) hx hb hml hl.1 hown hT hK hLI.hsT.1 (hTC t H'.size) kw_T_spread w874 w875 w876 w8 hd_T_spread rfl rfl ⟨by decide, by decide⟩ tw_t rfl rfl rfl (Nat.le_of_ble_eq_true rfl) d_law_1185 ⟨by show cells + 1 + 0 ≤ 601024; omega, by show slots + 6 + 0 ≤ 7293033; omega⟩) (fun H'' hLI => ?_)
  refine W.eq (g2 := F0 m 1188 ls [.int r]) rfl ?_
  refine lv_istore (lv' := [(6, .int r), (5, .int (σ' 0 0)), (4, .int (nI i)), (3, .ref o), (2, .ref t), (1, .ref (α 0 0 0)), (0, .ref b)]) hx hb d_law_1188 hl (by decide) rfl (fun ls hl => ?_)
  refine lv_aload_n hx hb d_law_1190 rfl (lv_at hl 4 rfl) ?_
  refine rd_run (c_V (As := []) (rest := []) hx hb hml hl.1 hown hT hK hLI.hsT.1 (c_T_thrown l g t σ' H''.size) kw_T_thrown w727 w728 w729 w8 hd_T_thrown rfl rfl ⟨by decide, by decide⟩ tw_t rfl rfl rfl (Nat.le_of_ble_eq_true rfl) d_law_1191 ⟨by show cells + 1 + 0 + 0 ≤ 601024; omega, by show slots + 6 + 0 + 0 ≤ 7293033; omega⟩) rfl ?_
  refine lv_iload hx hb d_law_1194 (lv_at hl 1 rfl) ?_
  refine lv_icmp_eq (tgt := 1201) hx hb d_law_1196 (by decide) (fun _ => ?_) (fun hq9 => absurd (rfl) hq9)
  refine lv_iload hx hb d_law_1201 (lv_at hl 1 rfl) ?_
  refine lv_if_ne (tgt := 1218) hx hb d_law_1203 (by decide) (fun c1 => ?_) (fun c1 => ?_)
  · skip
    refine lv_goto (tgt := 1221) hx hb d_law_1218 (by decide) ?_
    refine W.more (cells' := cells + 6) (slots' := slots + 1202) (by omega) (by omega) ?_
    exact kk _ _ MC' f' σ' α' ν' χ' (lv_sub hl [2, 3, 4, 5, 6] rfl) hLI ⟨q1, q2, q3, q4, q5⟩ q6 q7
  · skip
    refine lv_aload_n hx hb d_law_1206 rfl (lv_at hl 3 rfl) ?_
    refine lv_iconst (v := 0) hx hb d_law_1207 (by decide) ?_
    refine m_lald hx hb hK hLI.hsM.1 3 (show mu MC' o (oL g f') o = some (.inl (g.2 3, 1, .inr (.inl f'))) from mu_s) rfl (j := 0) rfl (by decide) (by decide) d_law_1208 ?_
    refine lv_iload hx hb d_law_1209 (lv_at hl 0 rfl) ?_
    refine lv_i2l (v := r.toInt64) hx hb d_law_1211 rfl ?_
    refine W.lcmp hx hb d_law_1212 ?_
    refine lv_if_eq (tgt := 1218) hx hb d_law_1213 (by decide) (fun _ => ?_) (fun hq9 => absurd (lg_same (q8 c1)) hq9)
    refine lv_goto (tgt := 1221) hx hb d_law_1218 (by decide) ?_
    refine W.more (cells' := cells + 6) (slots' := slots + 1202) (by omega) (by omega) ?_
    exact kk _ _ MC' f' σ' α' ν' χ' (lv_sub hl [2, 3, 4, 5, 6] rfl) hLI ⟨q1, q2, q3, q4, q5⟩ q6 q7
end LAWT
