/-! Each call of the script: what the reference comes to, and that the helper comes to the same. -/
theorem met_post {β : Type} {l : Launch} {y : MethodName} {ws : List Cond} {rm : Room} {P : Array Value → State → Prop} {g : GG} {M : MW} {vf : β → Option Value} {post post' : β → MW → Prop} {mc ms : Nat} {free : Addr → Prop} (h : Met l y ws rm P (Qm g M vf post) mc ms free) (hp : ∀ v M', post v M' → post' v M') : Met l y ws rm P (Qm g M vf post') mc ms free := fun p e h1 h2 h3 s m args below hf ha hP hk => by
  obtain ⟨n, o, w1, w2, w3, ⟨v, M', q1, q2, q3⟩, L⟩ := h p e h1 h2 h3 s m args below hf ha hP hk
  exact ⟨n, o, w1, w2, w3, ⟨v, M', q1, hp v M' q2, q3⟩, L⟩
def TC {β : Type} (l : Launch) (g : GG) (y : MethodName) (k : Cond) (rm : Room) (av : List Value) (vf : β → Option Value) (σ : SG) (r : β) (σ' : SG) : Prop := ∀ t sz, Met l y (k :: TT) rm (Pm g (.ref t :: av) sz (tw g t σ)) (Qm g (tw g t σ) vf (fun r' M1 => r' = r ∧ M1 = tw g t σ')) 0 0 (mA (tw g t σ) sz)
def HC (l : Launch) (g : GG) (y : MethodName) (k : Cond) (rm : Room) (av : List Value) (a0 n0 n1 : Nat) (MC : MW) (de mir o : Nat) (σ' : SG) (Rr : Int64 → Prop) (C S : Nat) : Prop := ∀ (f : Nat → Int64) (sz : Nat), Met l y (k :: TT) rm (Pl g av sz (mu MC o (oL g f)) de mir) (Qm g (mu MC o (oL g f)) (fun k : Int32 => some (.int k)) (LPq g a0 n0 n1 o de σ' Rr)) C S (mA (mu MC o (oL g f)) sz)
section LPS
variable {g : GG} {α : AL3} {ν : Nat → Nat} {χ σ : SG} {MC : MW} {de o : Nat} {f : Nat → Int64} {k : Int32} {M' : MW}
theorem lp_bad {kc : Int32} {Rr : Int64 → Prop} (hW : HW g α ν χ MC) (hN : nOK ν) (hL : LD α ν de) (hR : RI ν χ σ) (ho : MC o = none) (hk : kc ≠ 0) (h : k = kc ∧ M' = mu MC o (oL g f)) : LPq g (α 0 0 0) (ν 0) (ν 1) o de (su σ 0 0 kc) Rr k M' := by
  obtain ⟨rfl, rfl⟩ := h
  exact ⟨MC, α, ν, χ, f, rfl, ho, hW, hN, hL, hR.code k, rfl, by omega, by omega, su_s.symm, fun z => absurd z hk⟩
theorem lp_void {χ' σ' : SG} (hN : nOK ν) (hL : LD α ν de) (hR : RI ν χ' σ') (h00 : σ' 0 0 = 0) (h : k = 0 ∧ ∃ MC' : MW, HW g α ν χ' MC' ∧ M' = mu MC' o (oL g f) ∧ MC' o = none) : LPq g (α 0 0 0) (ν 0) (ν 1) o de σ' (fun _ => True) k M' := by
  obtain ⟨rfl, MC', hW, rfl, ho⟩ := h
  exact ⟨MC', α, ν, χ', f, rfl, ho, hW, hN, hL, hR, rfl, by omega, by omega, h00.symm, fun _ => trivial⟩
theorem lp_val {χ' σ' : SG} {r : Int32} (hN : nOK ν) (hL : LD α ν de) (hR : RI ν χ' σ') (h00 : σ' 0 0 = 0) (h : k = 0 ∧ ∃ (v : Int32) (MC' : MW) (f' : Nat → Int64), (v = r ∧ HW g α ν χ' MC') ∧ M' = mu MC' o (oL g f') ∧ MC' o = none ∧ f' 0 = v.toInt64) : LPq g (α 0 0 0) (ν 0) (ν 1) o de σ' (fun z => z = r.toInt64) k M' := by
  obtain ⟨rfl, v, MC', f', ⟨rfl, hW⟩, rfl, ho, hf⟩ := h
  exact ⟨MC', α, ν, χ', f', rfl, ho, hW, hN, hL, hR, rfl, by omega, by omega, h00.symm, fun _ => hf⟩
theorem lp_read {r r' : Int32} (hW : HW g α ν χ MC) (hN : nOK ν) (hL : LD α ν de) (hR : RI ν χ σ) (e : r' = r) (h : k = 0 ∧ ∃ (v : Int32) (MC' : MW) (f' : Nat → Int64), (v = r' ∧ MC' = MC) ∧ M' = mu MC' o (oL g f') ∧ MC' o = none ∧ f' 0 = v.toInt64) : LPq g (α 0 0 0) (ν 0) (ν 1) o de (su σ 0 0 0) (fun z => z = r.toInt64) k M' := by
  obtain ⟨rfl, v, MC', f', ⟨rfl, rfl⟩, rfl, ho, hf⟩ := h
  exact ⟨MC', α, ν, χ, f', rfl, ho, hW, hN, hL, hR.code 0, rfl, by omega, by omega, su_s.symm, fun _ => by rw [← e]; exact hf⟩
end LPS
theorem le_lt (i : Int32) : i ≤ 43 ↔ i < 44 := by
  rw [Int32.le_iff_toInt_le, Int32.lt_iff_toInt_lt]
  show i.toInt ≤ 43 ↔ i.toInt < 44
  omega
theorem le_lt3 (i : Int32) : i ≤ 31 ↔ i < 32 := by
  rw [Int32.le_iff_toInt_le, Int32.lt_iff_toInt_lt]
  show i.toInt ≤ 31 ↔ i.toInt < 32
  omega
theorem lt_le2 (i : Int32) : 199 < i ↔ 200 ≤ i := by
  rw [Int32.le_iff_toInt_le, Int32.lt_iff_toInt_lt]
  show 199 < i.toInt ↔ 200 ≤ i.toInt
  omega
theorem is_00 {σ : SG} {n : Nat} {z d : Int32} : isS σ n z d 0 0 = 0 := by
  unfold isS
  rw [su_i (by decide), su_k (by decide), su_k (by decide), su_k (by decide), su_s]
theorem rv_00 {σ : SG} {c n : Nat} : rvS σ c n 0 0 = 0 := by
  unfold rvS
  rw [su_k (by decide), su_k (by decide), su_i (by decide), su_s]
set_option maxHeartbeats 1000000 in
theorem op_issue (l : Launch) (hlf : l.stackTraces = false) (g : GG) (α : AL3) (ν : Nat → Nat) (χ σ : SG) (MC : MW) (de mir o : Nat) (hW : HW g α ν χ MC) (hN : nOK ν) (hL : LD α ν de) (hR : RI ν χ σ) (ho : MC o = none) (h60 : ν 0 < 600) (h61 : ν 1 < 600) (x1 x2 : Int32) : ∃ (r : Int32) (σ' : SG), TC l g y_T_issue k_T_issue { frames := 0, cells := 0, slots := 0, locals := 0 } [.int x1, .int x2] (fun r : Int32 => some (.int r)) σ r σ' ∧ HC l g y_L_issue k_L_issue { frames := 8, cells := 6, slots := 1098, locals := 200 } [.ref (α 0 0 0), .int x1, .int x2, .ref o] (α 0 0 0) (ν 0) (ν 1) MC de mir o σ' (fun z => z = r.toInt64) 6 1098 := by
  have hne := hR.ne
  refine ⟨nI (ν 0), isS σ (ν 0) x1 x2, fun t sz => c_T_issue l g t σ (ν 0) x1 x2 sz hR.1.1 (by omega), fun f sz => met_post (g_L_issue l g MC o (α 0 0 0) f de mir x1 x2 _ (hw_00 hW) ho _ (fun sz => c_H_issue l g MC α ν χ x1 x2 de mir sz hW hN hL h60) sz) (fun k M' h => ?_)⟩
  obtain ⟨rfl, v, MC', f', ⟨rfl, α', ν', q1, q2, q3, q4, q5, q6⟩, rfl, ho', hf⟩ := h
  exact ⟨MC', α', ν', _, f', rfl, ho', q1, q2, q3, RI_issue hR h60 q4 q5, q6, by omega, by omega, is_00.symm, fun _ => hf⟩
set_option maxHeartbeats 1000000 in
theorem op_revoke (l : Launch) (hlf : l.stackTraces = false) (g : GG) (α : AL3) (ν : Nat → Nat) (χ σ : SG) (MC : MW) (de mir o : Nat) (hW : HW g α ν χ MC) (hN : nOK ν) (hL : LD α ν de) (hR : RI ν χ σ) (ho : MC o = none) (h60 : ν 0 < 600) (h61 : ν 1 < 600) (x1 : Int32) : ∃ (r : Int32) (σ' : SG), TC l g y_T_revoke k_T_revoke { frames := 1, cells := 0, slots := 0, locals := 21 } [.int x1] (fun r : Int32 => some (.int r)) σ r σ' ∧ HC l g y_L_revoke k_L_revoke { frames := 9, cells := 3, slots := 1202, locals := 221 } [.ref (α 0 0 0), .int x1, .ref o] (α 0 0 0) (ν 0) (ν 1) MC de mir o σ' (fun z => z = r.toInt64) 3 1202 := by
  have hne := hR.ne
  rcases card_or hR x1 with ⟨hb, hx⟩ | ⟨c, hc, rfl, hc0⟩
  · exact ⟨0, su σ 0 0 1, fun t sz => c_T_revoke_b l g t σ x1 sz hb,
      fun f sz => met_post (b_L_revoke_1 l g MC o (α 0 0 0) f de mir x1 _ (hw_00 hW) ho (fun sz => c_H_revoke_b l hlf g MC α ν χ x1 sz hW hx) sz) (fun k M' h => lp_bad hW hN hL hR ho (by decide) h)⟩
  · obtain ⟨-, -, -, -, x6, -, -, -, e, he, ee⟩ := hR.2.1 c hc
    by_cases hz : σ 6 c = 0
    · refine ⟨nI (ν 1 + 1), rvS σ c (ν 1), fun t sz => met_post (c_T_revoke l g t σ c (ν 1) sz hc0 (by omega) hz hR.1.2.1 (by omega)) (fun v M' h => ⟨by rw [h.1, hR.1.2.1, nI_1], h.2⟩), fun f sz => met_post (g_L_revoke l g MC o (α 0 0 0) f de mir (nI c) _ (hw_00 hW) ho _ (fun sz => c_H_revoke_n l g MC α ν χ c de mir sz hW hN hL hc (x6.trans hz) h61) sz) (fun k M' h => ?_)⟩
      obtain ⟨rfl, v, MC', f', ⟨rfl, α', ν', q1, q2, q3, q4, q5, q6⟩, rfl, ho', hf⟩ := h
      exact ⟨MC', α', ν', _, f', rfl, ho', q1, q2, q3, RI_revoke hR hc h61 q4 q5, q6, by omega, by omega, rv_00.symm, fun _ => hf⟩
    · have he0 : e ≠ 0 := fun z => hz (by rw [ee, z]; rfl)
      obtain ⟨e2, rfl⟩ : ∃ j, e = j + 1 := ⟨e - 1, by omega⟩
      exact ⟨-1, su σ 0 0 0, fun t sz => c_T_revoke_n l g t σ c e2 sz hc0 (by omega) ee (by omega),
        fun f sz => met_post (g_L_revoke_2 l g MC o (α 0 0 0) f de mir (nI c) _ (hw_00 hW) ho _ (fun sz => rd_pd (c_H_revoke_o l g MC α ν χ c sz hW hN hc (by rw [x6]; exact hz))) sz) (fun k M' h => lp_read hW hN hL hR rfl h)⟩
set_option maxHeartbeats 1000000 in
theorem op_gate (l : Launch) (hlf : l.stackTraces = false) (g : GG) (α : AL3) (ν : Nat → Nat) (χ σ : SG) (MC : MW) (de mir o : Nat) (hW : HW g α ν χ MC) (hN : nOK ν) (hL : LD α ν de) (hR : RI ν χ σ) (ho : MC o = none) (h60 : ν 0 < 600) (h61 : ν 1 < 600) (x1 : Int32) : ∃ (r : Unit) (σ' : SG), TC l g y_T_gate k_T_gate { frames := 8, cells := 0, slots := 0, locals := 190 } [.int x1] (fun _ : Unit => none) σ r σ' ∧ HC l g y_L_gate k_L_gate { frames := 8, cells := 1, slots := 6, locals := 146 } [.ref (α 0 0 0), .int x1] (α 0 0 0) (ν 0) (ν 1) MC de mir o σ' (fun _ => True) 1 6 := by
  have hne := hR.ne
  rcases card_or hR x1 with ⟨hb, hx⟩ | ⟨c, hc, rfl, hc0⟩
  · exact ⟨(), su σ 0 0 1, fun t sz => met_post (c_T_gate_b l g t σ x1 sz hb) (fun _ _ h => ⟨rfl, h⟩),
      fun f sz => met_post (b_L_gate_1 l g MC o (α 0 0 0) f de mir x1 _ (hw_00 hW) ho (fun sz => c_H_gate_b l hlf g MC α ν χ x1 sz hW hx) sz) (fun k M' h => lp_bad hW hN hL hR ho (by decide) h)⟩
  · have hk := (hR.2.1 c hc).2.2.2.2.2.2.1
    have hg := RI_gate (hR.code 0) hc
    by_cases hz : ν 1 = 0
    · rw [if_pos hz] at hg
      exact ⟨(), wtS (su σ 0 0 0) c 0 0 0, fun t sz => met_post (c_T_gate_0 l g t σ c sz hc0 (by omega) (by rw [hR.1.2.1, hz]; rfl) hk) (fun _ _ h => ⟨rfl, h⟩),
        fun f sz => met_post (g_L_gate l g MC o (α 0 0 0) f de mir (nI c) _ (hw_00 hW) ho _ (fun sz => pm_pd (c_H_gate l g MC α ν χ c sz hW hN hc)) sz) (fun k M' h => lp_void hN hL hg (by rw [wt_row (by decide) (by decide) (by decide)]; exact su_s) h)⟩
    · rw [if_neg hz] at hg
      exact ⟨(), gvS (su σ 0 0 0) c 1 (ν 1) (nI (ν 1)), fun t sz => met_post (c_T_gate l g t σ c (ν 1) sz hc0 (by omega) hR.1.2.1 (by omega) (by omega) hk) (fun _ _ h => ⟨rfl, h⟩),
        fun f sz => met_post (g_L_gate l g MC o (α 0 0 0) f de mir (nI c) _ (hw_00 hW) ho _ (fun sz => pm_pd (c_H_gate l g MC α ν χ c sz hW hN hc)) sz) (fun k M' h => lp_void hN hL hg (by unfold gvS; rw [wt_row (by decide) (by decide) (by decide)]; exact su_s) h)⟩
set_option maxHeartbeats 1000000 in
theorem op_zoneOf (l : Launch) (hlf : l.stackTraces = false) (g : GG) (α : AL3) (ν : Nat → Nat) (χ σ : SG) (MC : MW) (de mir o : Nat) (hW : HW g α ν χ MC) (hN : nOK ν) (hL : LD α ν de) (hR : RI ν χ σ) (ho : MC o = none) (h60 : ν 0 < 600) (h61 : ν 1 < 600) (x1 x2 : Int32) : ∃ (r : Unit) (σ' : SG), TC l g y_T_zoneOf k_T_zoneOf { frames := 1, cells := 0, slots := 0, locals := 20 } [.int x1, .int x2] (fun _ : Unit => none) σ r σ' ∧ HC l g y_L_zoneOf k_L_zoneOf { frames := 8, cells := 1, slots := 6, locals := 144 } [.ref (α 0 0 0), .int x1, .int x2] (α 0 0 0) (ν 0) (ν 1) MC de mir o σ' (fun _ => True) 1 6 := by
  have hne := hR.ne
  rcases door_or x1 with ⟨hb, hx⟩ | ⟨d, hd, rfl, hd0⟩
  · exact ⟨(), su σ 0 0 1, fun t sz => met_post (c_T_zoneOf_b l g t σ x1 x2 sz hb) (fun _ _ h => ⟨rfl, h⟩),
      fun f sz => met_post (b_L_zoneOf_1 l g MC o (α 0 0 0) f de mir x1 x2 _ (hw_00 hW) ho (fun sz => c_H_zoneOf_b l hlf g MC α ν χ x1 x2 sz hW hx) sz) (fun k M' h => lp_bad hW hN hL hR ho (by decide) h)⟩
  · by_cases hz : x2 < 0 ∨ ¬ x2 ≤ 31
    · exact ⟨(), su σ 0 0 2, fun t sz => met_post (c_T_zoneOf_z l g t σ (nI d) x2 sz hd0 hz) (fun _ _ h => ⟨rfl, h⟩),
        fun f sz => met_post (b_L_zoneOf_2 l g MC o (α 0 0 0) f de mir (nI d) x2 _ (hw_00 hW) ho (fun sz => c_H_zoneOf_z l hlf g MC α ν χ d x2 sz hW hd (hz.imp id (fun q z => q ((le_lt3 x2).mpr z)))) sz) (fun k M' h => lp_bad hW hN hL hR ho (by decide) h)⟩
    · have hz1 : ¬ x2 < 0 := fun q => hz (Or.inl q)
      have hz2 : x2 ≤ 31 := Classical.not_not.mp (fun q => hz (Or.inr q))
      obtain ⟨-, d10, -⟩ := hR.2.2.2.2.2.1 d hd
      by_cases hu : σ 10 d = 0
      · obtain ⟨z, hz9, rfl⟩ := nI_of2 (M := 31) (n := 31) rfl hz1 hz2
        exact ⟨(), su (su σ 0 0 0) 9 d (nI z), fun t sz => met_post (c_T_zoneOf l g t σ d (nI z) sz hd0 hd hz1 hz2 hu) (fun _ _ h => ⟨rfl, h⟩),
          fun f sz => met_post (g_L_zoneOf l g MC o (α 0 0 0) f de mir (nI d) (nI z) _ (hw_00 hW) ho _ (fun sz => pm_pd (c_H_zoneOf l g MC α ν χ d (nI z) sz hW hd hz1 ((le_lt3 _).mp hz2) (d10.trans hu))) sz) (fun k M' h => lp_void hN hL (RI_door (hR.code 0) (Or.inl ⟨rfl, z, by omega, rfl⟩)) (by rw [su_k (by decide)]; exact su_s) h)⟩
      · exact ⟨(), su σ 0 0 3, fun t sz => met_post (c_T_zoneOf_u l g t σ d x2 sz hd0 hd hz1 hz2 hu) (fun _ _ h => ⟨rfl, h⟩),
          fun f sz => met_post (b_L_zoneOf_3 l g MC o (α 0 0 0) f de mir (nI d) x2 _ (hw_00 hW) ho (fun sz => c_H_zoneOf_u l hlf g MC α ν χ d x2 sz hW hd hz1 ((le_lt3 _).mp hz2) (by rw [d10]; exact hu)) sz) (fun k M' h => lp_bad hW hN hL hR ho (by decide) h)⟩
set_option maxHeartbeats 1000000 in
theorem op_show (l : Launch) (hlf : l.stackTraces = false) (g : GG) (α : AL3) (ν : Nat → Nat) (χ σ : SG) (MC : MW) (de mir o : Nat) (hW : HW g α ν χ MC) (hN : nOK ν) (hL : LD α ν de) (hR : RI ν χ σ) (ho : MC o = none) (h60 : ν 0 < 600) (h61 : ν 1 < 600) (x1 x2 x3 : Int32) : ∃ (r : Int32) (σ' : SG), TC l g y_T_show k_T_show { frames := 9, cells := 0, slots := 0, locals := 218 } [.int x1, .int x2, .int x3] (fun r : Int32 => some (.int r)) σ r σ' ∧ HC l g y_L_show k_L_show { frames := 8, cells := 1, slots := 6, locals := 186 } [.ref (α 0 0 0), .int x1, .int x2, .int x3, .ref o] (α 0 0 0) (ν 0) (ν 1) MC de mir o σ' (fun z => z = r.toInt64) 1 6 := by
  have hne := hR.ne
  rcases card_or hR x1 with ⟨hb, hx⟩ | ⟨c, hc, rfl, hc0⟩
  · exact ⟨0, su σ 0 0 1, fun t sz => c_T_show_b l g t σ x1 x2 x3 sz (Or.inl hb),
      fun f sz => met_post (b_L_show_1 l g MC o (α 0 0 0) f de mir x1 x2 x3 _ (hw_00 hW) ho (fun sz => c_H_show_b l hlf g MC α ν χ x1 x2 x3 sz hW hx) sz) (fun k M' h => lp_bad hW hN hL hR ho (by decide) h)⟩
  · rcases door_or x2 with ⟨hb, hx⟩ | ⟨d, hd, rfl, hd0⟩
    · exact ⟨0, su σ 0 0 1, fun t sz => c_T_show_b l g t σ (nI c) x2 x3 sz (Or.inr hb),
        fun f sz => met_post (b_L_show_1 l g MC o (α 0 0 0) f de mir (nI c) x2 x3 _ (hw_00 hW) ho (fun sz => c_H_show_d l hlf g MC α ν χ c x2 x3 sz hW hN hc hx) sz) (fun k M' h => lp_bad hW hN hL hR ho (by decide) h)⟩
    · obtain ⟨a, n, e, z, q1, q2, q3, q4, q5, q6, q7, q8, q9, q10, q11, q12, q13, q14, q15⟩ := RI_visit (hR.code 0) hc hd
      have g8 : gre (su σ 0 0 0) d = gre σ d := gre8 (c0_r (by decide)) d
      exact ⟨anI (su σ 0 0 0) (v1S (su σ 0 0 0) c d a n) c d e x3, vsS (su σ 0 0 0) c d a n, fun t sz => c_T_show l g t σ c d a n e x3 sz hc0 hd0 (by omega) hd ((fi5 c0_5 c).symm.trans q3) ((cn5 c0_5 c).symm.trans q4) (by omega) q6 ((congrFun (c0_r (by decide)) c).symm.trans q8) (by omega) (kOK3 (c0_r (by decide)).symm q13),
        fun f sz => met_post (g_L_show l g MC o (α 0 0 0) f de mir (nI c) (nI d) x3 _ (hw_00 hW) ho _ (fun sz => pm_pd (c_H_show l g MC α ν χ c d a n e z (gre (su σ 0 0 0) d) x3 sz hW hN hc hd q1 q2 q5 q7 q9 q10 q11 q12)) sz) (fun k M' h => by rw [q14 x3] at h; exact lp_val hN hL q15 (by rw [vs_row (Or.inl rfl)]; exact su_s) h)⟩
set_option maxHeartbeats 1000000 in
theorem op_tear (l : Launch) (hlf : l.stackTraces = false) (g : GG) (α : AL3) (ν : Nat → Nat) (χ σ : SG) (MC : MW) (de mir o : Nat) (hW : HW g α ν χ MC) (hN : nOK ν) (hL : LD α ν de) (hR : RI ν χ σ) (ho : MC o = none) (h60 : ν 0 < 600) (h61 : ν 1 < 600) (x1 x2 : Int32) : ∃ (r : Unit) (σ' : SG), TC l g y_T_tear k_T_tear { frames := 1, cells := 0, slots := 0, locals := 21 } [.int x1, .int x2] (fun _ : Unit => none) σ r σ' ∧ HC l g y_L_tear k_L_tear { frames := 8, cells := 1, slots := 6, locals := 144 } [.ref (α 0 0 0), .int x1, .int x2] (α 0 0 0) (ν 0) (ν 1) MC de mir o σ' (fun _ => True) 1 6 := by
  have hne := hR.ne
  rcases card_or hR x1 with ⟨hb, hx⟩ | ⟨c, hc, rfl, hc0⟩
  · exact ⟨(), su σ 0 0 1, fun t sz => met_post (c_T_tear_b l g t σ x1 x2 sz hb) (fun _ _ h => ⟨rfl, h⟩),
      fun f sz => met_post (b_L_tear_1 l g MC o (α 0 0 0) f de mir x1 x2 _ (hw_00 hW) ho (fun sz => c_H_tear_b l hlf g MC α ν χ x1 x2 sz hW hx) sz) (fun k M' h => lp_bad hW hN hL hR ho (by decide) h)⟩
  · by_cases hz : x2 < 0 ∨ ¬ x2 ≤ 50
    · exact ⟨(), su σ 0 0 2, fun t sz => met_post (c_T_tear_z l g t σ (nI c) x2 sz hc0 hz) (fun _ _ h => ⟨rfl, h⟩),
        fun f sz => met_post (b_L_tear_2 l g MC o (α 0 0 0) f de mir (nI c) x2 _ (hw_00 hW) ho (fun sz => c_H_tear_z l hlf g MC α ν χ c x2 sz hW hN hc hz) sz) (fun k M' h => lp_bad hW hN hL hR ho (by decide) h)⟩
    · have hz1 : ¬ x2 < 0 := fun q => hz (Or.inl q)
      have hz2 : x2 ≤ 50 := Classical.not_not.mp (fun q => hz (Or.inr q))
      obtain ⟨z, hz9, rfl⟩ := nI_of2 (M := 50) (n := 50) rfl hz1 hz2
      exact ⟨(), su (su σ 0 0 0) 3 c (nI z), fun t sz => met_post (c_T_tear l g t σ c (nI z) sz hc0 (by omega) hz1 hz2) (fun _ _ h => ⟨rfl, h⟩),
        fun f sz => met_post (g_L_tear l g MC o (α 0 0 0) f de mir (nI c) (nI z) _ (hw_00 hW) ho _ (fun sz => pm_pd (c_H_tear l g MC α ν χ c (nI z) sz hW hN hc hz1 hz2)) sz) (fun k M' h => lp_void hN hL (RI_tear (hR.code 0) hz9) (by rw [su_k (by decide)]; exact su_s) h)⟩
set_option maxHeartbeats 1000000 in
theorem op_written (l : Launch) (hlf : l.stackTraces = false) (g : GG) (α : AL3) (ν : Nat → Nat) (χ σ : SG) (MC : MW) (de mir o : Nat) (hW : HW g α ν χ MC) (hN : nOK ν) (hL : LD α ν de) (hR : RI ν χ σ) (ho : MC o = none) (h60 : ν 0 < 600) (h61 : ν 1 < 600) (x1 : Int32) : ∃ (r : Int32) (σ' : SG), TC l g y_T_written k_T_written { frames := 1, cells := 0, slots := 0, locals := 21 } [.int x1] (fun r : Int32 => some (.int r)) σ r σ' ∧ HC l g y_L_written k_L_written { frames := 8, cells := 1, slots := 6, locals := 142 } [.ref (α 0 0 0), .int x1, .ref o] (α 0 0 0) (ν 0) (ν 1) MC de mir o σ' (fun z => z = r.toInt64) 1 6 := by
  have hne := hR.ne
  rcases card_or hR x1 with ⟨hb, hx⟩ | ⟨c, hc, rfl, hc0⟩
  · exact ⟨0, su σ 0 0 1, fun t sz => c_T_written_b l g t σ x1 sz hb,
      fun f sz => met_post (b_L_written_1 l g MC o (α 0 0 0) f de mir x1 _ (hw_00 hW) ho (fun sz => c_H_written_b l hlf g MC α ν χ x1 sz hW hx) sz) (fun k M' h => lp_bad hW hN hL hR ho (by decide) h)⟩
  · exact ⟨σ 4 c, su σ 0 0 0, fun t sz => c_T_written l g t σ c sz hc0 (by omega),
      fun f sz => met_post (g_L_written l g MC o (α 0 0 0) f de mir (nI c) _ (hw_00 hW) ho _ (fun sz => rd_pd (c_H_written l g MC α ν χ c sz hW hN hc)) sz) (fun k M' h => lp_read hW hN hL hR ((hR.2.1 c hc).2.2.2.1) h)⟩
set_option maxHeartbeats 1000000 in
theorem op_word (l : Launch) (hlf : l.stackTraces = false) (g : GG) (α : AL3) (ν : Nat → Nat) (χ σ : SG) (MC : MW) (de mir o : Nat) (hW : HW g α ν χ MC) (hN : nOK ν) (hL : LD α ν de) (hR : RI ν χ σ) (ho : MC o = none) (h60 : ν 0 < 600) (h61 : ν 1 < 600) (x1 x2 x3 : Int32) : ∃ (r : Int32) (σ' : SG), TC l g y_T_word k_T_word { frames := 1, cells := 0, slots := 0, locals := 23 } [.int x1, .int x2, .int x3] (fun r : Int32 => some (.int r)) σ r σ' ∧ HC l g y_L_word k_L_word { frames := 8, cells := 1, slots := 6, locals := 145 } [.ref (α 0 0 0), .int x1, .int x2, .int x3, .ref o] (α 0 0 0) (ν 0) (ν 1) MC de mir o σ' (fun z => z = r.toInt64) 1 6 := by
  have hne := hR.ne
  rcases card_or hR x1 with ⟨hb, hx⟩ | ⟨c, hc, rfl, hc0⟩
  · exact ⟨0, su σ 0 0 1, fun t sz => c_T_word_b l g t σ x1 x2 x3 sz (Or.inl hb),
      fun f sz => met_post (b_L_word_1 l g MC o (α 0 0 0) f de mir x1 x2 x3 _ (hw_00 hW) ho (fun sz => c_H_word_b l hlf g MC α ν χ x1 x2 x3 sz hW hx) sz) (fun k M' h => lp_bad hW hN hL hR ho (by decide) h)⟩
  · by_cases hz : (x2 < 0 ∨ 1 < x2) ∨ (x3 < 0 ∨ ¬ x3 ≤ 43)
    · exact ⟨0, su σ 0 0 1, fun t sz => c_T_word_b l g t σ (nI c) x2 x3 sz (Or.inr hz),
        fun f sz => met_post (b_L_word_1 l g MC o (α 0 0 0) f de mir (nI c) x2 x3 _ (hw_00 hW) ho (fun sz => c_H_word_z l hlf g MC α ν χ c x2 x3 sz hW hN hc (hz.imp id (fun q => q.imp id (fun z w => z ((le_lt x3).mpr w))))) sz) (fun k M' h => lp_bad hW hN hL hR ho (by decide) h)⟩
    · obtain ⟨b, hb9, rfl⟩ := nI_of2 (M := 1) (n := 1) rfl (fun q => hz (Or.inl (Or.inl q))) (Int32.not_lt.mp (fun q => hz (Or.inl (Or.inr q))))
      obtain ⟨i, hi9, rfl⟩ := nI_of2 (M := 43) (n := 43) rfl (fun q => hz (Or.inr (Or.inl q))) (Classical.not_not.mp (fun q => hz (Or.inr (Or.inr q))))
      obtain ⟨-, -, -, -, -, xw, -⟩ := hR.2.1 c hc
      exact ⟨wd σ c b i, su σ 0 0 0, fun t sz => c_T_word l g t σ c b i sz hc0 (by omega) (by omega) (by omega),
          fun f sz => met_post (g_L_word l g MC o (α 0 0 0) f de mir (nI c) (nI b) (nI i) _ (hw_00 hW) ho _ (fun sz => rd_pd (c_H_word l g MC α ν χ c b i sz hW hN hc (by omega) (by omega))) sz) (fun k M' h => lp_read hW hN hL hR (by rw [← xW_at (χ := χ) (by omega) (by omega), xw, wS_at (by omega) (by omega)]) h)⟩
set_option maxHeartbeats 1000000 in
theorem op_carries (l : Launch) (hlf : l.stackTraces = false) (g : GG) (α : AL3) (ν : Nat → Nat) (χ σ : SG) (MC : MW) (de mir o : Nat) (hW : HW g α ν χ MC) (hN : nOK ν) (hL : LD α ν de) (hR : RI ν χ σ) (ho : MC o = none) (h60 : ν 0 < 600) (h61 : ν 1 < 600) (x1 x2 : Int32) : ∃ (r : Int32) (σ' : SG), TC l g y_T_carries k_T_carries { frames := 5, cells := 0, slots := 0, locals := 109 } [.int x1, .int x2] (fun r : Int32 => some (.int r)) σ r σ' ∧ HC l g y_L_carries k_L_carries { frames := 8, cells := 1, slots := 6, locals := 144 } [.ref (α 0 0 0), .int x1, .int x2, .ref o] (α 0 0 0) (ν 0) (ν 1) MC de mir o σ' (fun z => z = r.toInt64) 1 6 := by
  have hne := hR.ne
  rcases card_or hR x1 with ⟨hb, hx⟩ | ⟨c, hc, rfl, hc0⟩
  · exact ⟨0, su σ 0 0 1, fun t sz => c_T_carries_b l g t σ x1 x2 sz hb,
      fun f sz => met_post (b_L_carries_1 l g MC o (α 0 0 0) f de mir x1 x2 _ (hw_00 hW) ho (fun sz => c_H_carries_b l hlf g MC α ν χ x1 x2 sz hW hx) sz) (fun k M' h => lp_bad hW hN hL hR ho (by decide) h)⟩
  · by_cases hz : x2 < 0 ∨ ¬ x2 ≤ 3
    · exact ⟨0, su σ 0 0 2, fun t sz => c_T_carries_z l g t σ (nI c) x2 sz hc0 hz,
        fun f sz => met_post (b_L_carries_2 l g MC o (α 0 0 0) f de mir (nI c) x2 _ (hw_00 hW) ho (fun sz => c_H_carries_z l hlf g MC α ν χ c x2 sz hW hN hc hz) sz) (fun k M' h => lp_bad hW hN hL hR ho (by decide) h)⟩
    · have hz1 : ¬ x2 < 0 := fun q => hz (Or.inl q)
      have hz2 : x2 ≤ 3 := Classical.not_not.mp (fun q => hz (Or.inr q))
      obtain ⟨w, hw9, rfl⟩ := nI_of2 (M := 3) (n := 3) rfl hz1 hz2
      have hq := cr_eq hR hc hw9
      rcases (show w = 0 ∨ w = 1 ∨ w = 2 ∨ w = 3 by omega) with rfl | rfl | rfl | rfl
      · exact ⟨crI σ c (nI 0), su σ 0 0 0, fun t sz => c_T_carries l g t σ c (nI 0) sz hc0 (by omega) hz1 hz2,
          fun f sz => met_post (g_L_carries l g MC o (α 0 0 0) f de mir (nI c) (nI 0) _ (hw_00 hW) ho _ (fun sz => rd_pd (c_H_carries_0 l g MC α ν χ c sz hW hN hc)) sz) (fun k M' h => lp_read hW hN hL hR (hq) h)⟩
      · exact ⟨crI σ c (nI 1), su σ 0 0 0, fun t sz => c_T_carries l g t σ c (nI 1) sz hc0 (by omega) hz1 hz2,
          fun f sz => met_post (g_L_carries l g MC o (α 0 0 0) f de mir (nI c) (nI 1) _ (hw_00 hW) ho _ (fun sz => rd_pd (c_H_carries_1 l g MC α ν χ c sz hW hN hc)) sz) (fun k M' h => lp_read hW hN hL hR (hq) h)⟩
      · exact ⟨crI σ c (nI 2), su σ 0 0 0, fun t sz => c_T_carries l g t σ c (nI 2) sz hc0 (by omega) hz1 hz2,
          fun f sz => met_post (g_L_carries l g MC o (α 0 0 0) f de mir (nI c) (nI 2) _ (hw_00 hW) ho _ (fun sz => rd_pd (c_H_carries_2 l g MC α ν χ c sz hW hN hc)) sz) (fun k M' h => lp_read hW hN hL hR (hq) h)⟩
      · exact ⟨crI σ c (nI 3), su σ 0 0 0, fun t sz => c_T_carries l g t σ c (nI 3) sz hc0 (by omega) hz1 hz2,
          fun f sz => met_post (g_L_carries l g MC o (α 0 0 0) f de mir (nI c) (nI 3) _ (hw_00 hW) ho _ (fun sz => rd_pd (c_H_carries_3 l g MC α ν χ c sz hW hN hc)) sz) (fun k M' h => lp_read hW hN hL hR (hq) h)⟩
set_option maxHeartbeats 1000000 in
theorem op_memory (l : Launch) (hlf : l.stackTraces = false) (g : GG) (α : AL3) (ν : Nat → Nat) (χ σ : SG) (MC : MW) (de mir o : Nat) (hW : HW g α ν χ MC) (hN : nOK ν) (hL : LD α ν de) (hR : RI ν χ σ) (ho : MC o = none) (h60 : ν 0 < 600) (h61 : ν 1 < 600) (x1 x2 : Int32) : ∃ (r : Int32) (σ' : SG), TC l g y_T_memory k_T_memory { frames := 4, cells := 0, slots := 0, locals := 88 } [.int x1, .int x2] (fun r : Int32 => some (.int r)) σ r σ' ∧ HC l g y_L_memory k_L_memory { frames := 8, cells := 1, slots := 6, locals := 144 } [.ref (α 0 0 0), .int x1, .int x2, .ref o] (α 0 0 0) (ν 0) (ν 1) MC de mir o σ' (fun z => z = r.toInt64) 1 6 := by
  have hne := hR.ne
  rcases card_or hR x1 with ⟨hb, hx⟩ | ⟨c, hc, rfl, hc0⟩
  · exact ⟨0, su σ 0 0 1, fun t sz => c_T_memory_b l g t σ x1 x2 sz hb,
      fun f sz => met_post (b_L_memory_1 l g MC o (α 0 0 0) f de mir x1 x2 _ (hw_00 hW) ho (fun sz => c_H_memory_b l hlf g MC α ν χ x1 x2 sz hW hx) sz) (fun k M' h => lp_bad hW hN hL hR ho (by decide) h)⟩
  · obtain ⟨ec, ew, a, n, v, q1, q2, q3, -⟩ := (hR.2.1 c hc).on
    by_cases hz : x2 < 0 ∨ ¬ x2 < cnI σ c
    · exact ⟨0, su σ 0 0 1, fun t sz => c_T_memory_z l g t σ c x2 sz hc0 (by omega) hz,
        fun f sz => met_post (b_L_memory_1 l g MC o (α 0 0 0) f de mir (nI c) x2 _ (hw_00 hW) ho (fun sz => c_H_memory_z l hlf g MC α ν χ c x2 sz hW hN hc (by rw [q2, ← q3]; exact hz)) sz) (fun k M' h => lp_bad hW hN hL hR ho (by decide) h)⟩
    · obtain ⟨i, hi, rfl⟩ := n_of (n := n) (fun q => hz (Or.inl q)) (fun q => hz (Or.inr (Int32.not_lt.mpr (by rw [q3]; exact q)))) (by omega)
      exact ⟨wd σ c (cur σ c) (3 + i), su σ 0 0 0, fun t sz => c_T_memory l g t σ c i n sz hc0 (by omega) q3 q1 hi,
          fun f sz => met_post (g_L_memory l g MC o (α 0 0 0) f de mir (nI c) (nI i) _ (hw_00 hW) ho _ (fun sz => rd_pd (c_H_memory l g MC α ν χ c i n sz hW hN hc q2 q1 hi)) sz) (fun k M' h => lp_read hW hN hL hR (ew (3 + i) (by omega)) h)⟩
set_option maxHeartbeats 1000000 in
theorem op_about (l : Launch) (hlf : l.stackTraces = false) (g : GG) (α : AL3) (ν : Nat → Nat) (χ σ : SG) (MC : MW) (de mir o : Nat) (hW : HW g α ν χ MC) (hN : nOK ν) (hL : LD α ν de) (hR : RI ν χ σ) (ho : MC o = none) (h60 : ν 0 < 600) (h61 : ν 1 < 600) (x1 x2 : Int32) : ∃ (r : Int32) (σ' : SG), TC l g y_T_about k_T_about { frames := 1, cells := 0, slots := 0, locals := 23 } [.int x1, .int x2] (fun r : Int32 => some (.int r)) σ r σ' ∧ HC l g y_L_about k_L_about { frames := 8, cells := 1, slots := 6, locals := 176 } [.ref (α 0 0 0), .int x1, .int x2, .ref o] (α 0 0 0) (ν 0) (ν 1) MC de mir o σ' (fun z => z = r.toInt64) 1 6 := by
  have hne := hR.ne
  rcases door_or x1 with ⟨hb, hx⟩ | ⟨d, hd, rfl, hd0⟩
  · exact ⟨0, su σ 0 0 1, fun t sz => c_T_about_b l g t σ x1 x2 sz hb,
      fun f sz => met_post (b_L_about_1 l g MC o (α 0 0 0) f de mir x1 x2 _ (hw_00 hW) ho (fun sz => c_H_about_b l hlf g MC α ν χ x1 x2 sz hW hx) sz) (fun k M' h => lp_bad hW hN hL hR ho (by decide) h)⟩
  · by_cases hz : x2 < 0 ∨ ¬ x2 ≤ 4
    · exact ⟨0, su σ 0 0 2, fun t sz => c_T_about_z l g t σ (nI d) x2 sz hd0 hz,
        fun f sz => met_post (b_L_about_2 l g MC o (α 0 0 0) f de mir (nI d) x2 _ (hw_00 hW) ho (fun sz => c_H_about_z l hlf g MC α ν χ d x2 sz hW hd hz) sz) (fun k M' h => lp_bad hW hN hL hR ho (by decide) h)⟩
    · have hz1 : ¬ x2 < 0 := fun q => hz (Or.inl q)
      have hz2 : x2 ≤ 4 := Classical.not_not.mp (fun q => hz (Or.inr q))
      obtain ⟨w, hw9, rfl⟩ := nI_of2 (M := 4) (n := 4) rfl hz1 hz2
      have hq := ab_eq hR hd hw9
      rcases (show w = 0 ∨ w = 1 ∨ w = 2 ∨ w = 3 ∨ w = 4 by omega) with rfl | rfl | rfl | rfl | rfl
      · exact ⟨abI σ d (nI 0), su σ 0 0 0, fun t sz => c_T_about l g t σ d (nI 0) sz hd0 hd hz1 hz2,
          fun f sz => met_post (g_L_about l g MC o (α 0 0 0) f de mir (nI d) (nI 0) _ (hw_00 hW) ho _ (fun sz => rd_pd (c_H_about_0 l g MC α ν χ d sz hW hN hd)) sz) (fun k M' h => lp_read hW hN hL hR (hq) h)⟩
      · exact ⟨abI σ d (nI 1), su σ 0 0 0, fun t sz => c_T_about l g t σ d (nI 1) sz hd0 hd hz1 hz2,
          fun f sz => met_post (g_L_about l g MC o (α 0 0 0) f de mir (nI d) (nI 1) _ (hw_00 hW) ho _ (fun sz => rd_pd (c_H_about_1 l g MC α ν χ d sz hW hN hd)) sz) (fun k M' h => lp_read hW hN hL hR (hq) h)⟩
      · exact ⟨abI σ d (nI 2), su σ 0 0 0, fun t sz => c_T_about l g t σ d (nI 2) sz hd0 hd hz1 hz2,
          fun f sz => met_post (g_L_about l g MC o (α 0 0 0) f de mir (nI d) (nI 2) _ (hw_00 hW) ho _ (fun sz => rd_pd (c_H_about_2 l g MC α ν χ d sz hW hN hd)) sz) (fun k M' h => lp_read hW hN hL hR (hq) h)⟩
      · exact ⟨abI σ d (nI 3), su σ 0 0 0, fun t sz => c_T_about l g t σ d (nI 3) sz hd0 hd hz1 hz2,
          fun f sz => met_post (g_L_about l g MC o (α 0 0 0) f de mir (nI d) (nI 3) _ (hw_00 hW) ho _ (fun sz => rd_pd (c_H_about_3 l g MC α ν χ d sz hW hN hd)) sz) (fun k M' h => lp_read hW hN hL hR (hq) h)⟩
      · exact ⟨abI σ d (nI 4), su σ 0 0 0, fun t sz => c_T_about l g t σ d (nI 4) sz hd0 hd hz1 hz2,
          fun f sz => met_post (g_L_about l g MC o (α 0 0 0) f de mir (nI d) (nI 4) _ (hw_00 hW) ho _ (fun sz => rd_pd (c_H_about_4 l g MC α ν χ d sz hW hN hd)) sz) (fun k M' h => lp_read hW hN hL hR (hq) h)⟩
set_option maxHeartbeats 1000000 in
theorem op_run (l : Launch) (hlf : l.stackTraces = false) (g : GG) (α : AL3) (ν : Nat → Nat) (χ σ : SG) (MC : MW) (de mir o : Nat) (hW : HW g α ν χ MC) (hN : nOK ν) (hL : LD α ν de) (hR : RI ν χ σ) (ho : MC o = none) (h60 : ν 0 < 600) (h61 : ν 1 < 600) (x1 x2 x3 : Int32) : ∃ (r : Int32) (σ' : SG), TC l g y_T_run k_T_run { frames := 1, cells := 0, slots := 0, locals := 23 } [.int x1, .int x2, .int x3] (fun r : Int32 => some (.int r)) σ r σ' ∧ HC l g y_L_run k_L_run { frames := 8, cells := 1, slots := 6, locals := 179 } [.ref (α 0 0 0), .int x1, .int x2, .int x3, .ref o] (α 0 0 0) (ν 0) (ν 1) MC de mir o σ' (fun z => z = r.toInt64) 1 6 := by
  have hne := hR.ne
  rcases door_or x1 with ⟨hb, hx⟩ | ⟨d, hd, rfl, hd0⟩
  · exact ⟨0, su σ 0 0 1, fun t sz => c_T_run_b l g t σ x1 x2 x3 sz hb,
      fun f sz => met_post (b_L_run_1 l g MC o (α 0 0 0) f de mir x1 x2 x3 _ (hw_00 hW) ho (fun sz => c_H_run_b l hlf g MC α ν χ x1 x2 x3 sz hW hx) sz) (fun k M' h => lp_bad hW hN hL hR ho (by decide) h)⟩
  · have hre := (rn_eq hR hd (ν 1) (by omega)).trans ((rn_end hR hd (3000 - ν 1) (by omega)).symm.trans (by rw [show ν 1 + (3000 - ν 1) = 3000 by omega]))
    have hrl := rn_le σ d 3000
    by_cases hz : x2 < 0 ∨ ¬ x2 < nI (rnF σ d 3000)
    · exact ⟨0, su σ 0 0 1, fun t sz => c_T_run_z l g t σ d x2 x3 sz hd0 hd hz,
        fun f sz => met_post (b_L_run_1 l g MC o (α 0 0 0) f de mir (nI d) x2 x3 _ (hw_00 hW) ho (fun sz => c_H_run_z l hlf g MC α ν χ d x2 x3 sz hW hN hd (fun j hj q => by rw [hre] at hj; rw [← q] at hz; exact hz.elim (fun y => nI_pos (by omega) y) (fun y => y (nI_lt hj (by omega))))) sz) (fun k M' h => lp_bad hW hN hL hR ho (by decide) h)⟩
    · obtain ⟨i, hi, rfl⟩ := n_of (n := rnF σ d 3000) (fun q => hz (Or.inl q)) (fun q => hz (Or.inr (Int32.not_lt.mpr q))) (by omega)
      obtain ⟨k, hk, hr⟩ := run_ex σ d i 3000 hi
      obtain ⟨y1, y2, y3, y4⟩ := run_x hR hd hk hr
      refine ⟨if ¬ x3 = 0 then nI k else nI (cpF σ d (3000 - k) k), su σ 0 0 0, fun t sz => met_post (c_T_run l g t σ d i x3 sz hd0 hd hi) (fun v M' h => ?_), fun f sz => met_post (g_L_run l g MC o (α 0 0 0) f de mir (nI d) (nI i) x3 _ (hw_00 hW) ho _ (fun sz => rd_pd (c_H_run l g MC α ν χ d i k x3 sz hW hN hd y1 y3 y2)) sz) (fun k M' h => lp_read hW hN hL hR ?_ h)⟩
      · obtain ⟨⟨k2, h2, rfl⟩, h3⟩ := h
        rw [run_one h2 hr]
        exact ⟨rfl, h3⟩
      · rw [y4]
        by_cases hq : x3 = 0
        · rw [if_pos hq, if_neg (fun z => z hq)]
        · rw [if_neg hq, if_pos hq]
set_option maxHeartbeats 1000000 in
theorem op_refuses (l : Launch) (hlf : l.stackTraces = false) (g : GG) (α : AL3) (ν : Nat → Nat) (χ σ : SG) (MC : MW) (de mir o : Nat) (hW : HW g α ν χ MC) (hN : nOK ν) (hL : LD α ν de) (hR : RI ν χ σ) (ho : MC o = none) (h60 : ν 0 < 600) (h61 : ν 1 < 600) (x1 x2 : Int32) : ∃ (r : Int32) (σ' : SG), TC l g y_T_refuses k_T_refuses { frames := 1, cells := 0, slots := 0, locals := 22 } [.int x1, .int x2] (fun r : Int32 => some (.int r)) σ r σ' ∧ HC l g y_L_refuses k_L_refuses { frames := 8, cells := 1, slots := 6, locals := 144 } [.ref (α 0 0 0), .int x1, .int x2, .ref o] (α 0 0 0) (ν 0) (ν 1) MC de mir o σ' (fun z => z = if r = 0 then 0 else 1) 1 6 := by
  have hne := hR.ne
  rcases door_or x1 with ⟨hb, hx⟩ | ⟨d, hd, rfl, hd0⟩
  · exact ⟨0, su σ 0 0 1, fun t sz => c_T_refuses_b l g t σ x1 x2 sz (Or.inl hb),
      fun f sz => met_post (b_L_refuses_1 l g MC o (α 0 0 0) f de mir x1 x2 _ (hw_00 hW) ho (fun sz => c_H_refuses_b l hlf g MC α ν χ x1 x2 sz hW hx) sz) (fun k M' h => lp_bad hW hN hL hR ho (by decide) h)⟩
  · rcases card_or hR x2 with ⟨hb, hx⟩ | ⟨c, hc, rfl, hc0⟩
    · exact ⟨0, su σ 0 0 1, fun t sz => c_T_refuses_b l g t σ (nI d) x2 sz (Or.inr hb),
        fun f sz => met_post (b_L_refuses_1 l g MC o (α 0 0 0) f de mir (nI d) x2 _ (hw_00 hW) ho (fun sz => c_H_refuses_c l hlf g MC α ν χ d x2 sz hW hd hx) sz) (fun k M' h => lp_bad hW hN hL hR ho (by decide) h)⟩
    · obtain ⟨-, -, -, -, x6, -, -, -, e, he, ee⟩ := hR.2.1 c hc
      refine ⟨rvI σ d e, su σ 0 0 0, fun t sz => c_T_refuses l g t σ d c e sz hd0 hc0 hd (by omega) ee (by omega), fun f sz => met_post (g_L_refuses l g MC o (α 0 0 0) f de mir (nI d) (nI c) _ (hw_00 hW) ho _ (fun sz => rd_pd (c_H_refuses l g MC α ν χ d c e sz hW hN hd hc (x6.trans ee) (by omega))) sz) (fun k M' h => ?_)⟩
      obtain ⟨rfl, v, MC', f', ⟨rfl, rfl⟩, rfl, ho', hf⟩ := h
      exact ⟨MC', α, ν, χ, f', rfl, ho', hW, hN, hL, hR.code 0, rfl, by omega, by omega, su_s.symm, fun _ => by rw [hf, rv_eq hR hd he]⟩
set_option maxHeartbeats 1000000 in
theorem op_reach (l : Launch) (hlf : l.stackTraces = false) (g : GG) (α : AL3) (ν : Nat → Nat) (χ σ : SG) (MC : MW) (de mir o : Nat) (hW : HW g α ν χ MC) (hN : nOK ν) (hL : LD α ν de) (hR : RI ν χ σ) (ho : MC o = none) (h60 : ν 0 < 600) (h61 : ν 1 < 600) (x1 : Int32) : ∃ (r : Int32) (σ' : SG), TC l g y_T_reach k_T_reach { frames := 0, cells := 0, slots := 0, locals := 0 } [.int x1] (fun r : Int32 => some (.int r)) σ r σ' ∧ HC l g y_L_reach k_L_reach { frames := 7, cells := 1, slots := 6, locals := 121 } [.ref (α 0 0 0), .int x1, .ref o] (α 0 0 0) (ν 0) (ν 1) MC de mir o σ' (fun z => z = r.toInt64) 1 6 := by
  have hne := hR.ne
  by_cases hz : x1 < 1 ∨ ¬ x1 ≤ σ 0 2
  · exact ⟨0, su σ 0 0 1, fun t sz => c_T_reach_b l g t σ x1 sz hz,
      fun f sz => met_post (b_L_reach_1 l g MC o (α 0 0 0) f de mir x1 _ (hw_00 hW) ho (fun sz => c_H_reach_b l hlf g MC α ν χ x1 sz hW (by rw [← hR.1.2.1]; exact hz)) sz) (fun k M' h => lp_bad hW hN hL hR ho (by decide) h)⟩
  · have hz1 : ¬ x1 < 1 := fun q => hz (Or.inl q)
    have hz2 : x1 ≤ nI (ν 1) := by rw [← hR.1.2.1]; exact Classical.not_not.mp (fun q => hz (Or.inr q))
    obtain ⟨e, he, rfl⟩ := n_of (x := x1) (n := ν 1 + 1) (fun q => hz1 (Int32.lt_trans q (by decide))) (fun q => absurd (Int32.le_trans q hz2) (nI_ge (by omega) (by omega))) (by omega)
    have he1 : 1 ≤ e := by
      rcases Nat.eq_zero_or_pos e with q | q
      · exact absurd (show nI e < 1 by rw [q]; decide) hz1
      · exact q
    exact ⟨nI (rcF σ e 200), su σ 0 0 0, fun t sz => c_T_reach l g t σ e (ν 1) sz hR.1.2.1 he1 (by omega) (by omega),
        fun f sz => met_post (g_L_reach l g MC o (α 0 0 0) f de mir (nI e) _ (hw_00 hW) ho _ (fun sz => rd_pd (c_H_reach l g MC α ν χ e sz hW hN he1 (by omega))) sz) (fun k M' h => lp_read hW hN hL hR (by rw [rc_eq (hR.2.2.2.1 e he1 (by omega)).2.2 200 (Nat.le_refl _)]) h)⟩
set_option maxHeartbeats 1000000 in
theorem op_loseBattery (l : Launch) (hlf : l.stackTraces = false) (g : GG) (α : AL3) (ν : Nat → Nat) (χ σ : SG) (MC : MW) (de mir o : Nat) (hW : HW g α ν χ MC) (hN : nOK ν) (hL : LD α ν de) (hR : RI ν χ σ) (ho : MC o = none) (h60 : ν 0 < 600) (h61 : ν 1 < 600) (x1 : Int32) : ∃ (r : Unit) (σ' : SG), TC l g y_T_loseBattery k_T_loseBattery { frames := 1, cells := 0, slots := 0, locals := 20 } [.int x1] (fun _ : Unit => none) σ r σ' ∧ HC l g y_L_loseBattery k_L_loseBattery { frames := 8, cells := 1, slots := 6, locals := 142 } [.ref (α 0 0 0), .int x1] (α 0 0 0) (ν 0) (ν 1) MC de mir o σ' (fun _ => True) 1 6 := by
  have hne := hR.ne
  rcases door_or x1 with ⟨hb, hx⟩ | ⟨d, hd, rfl, hd0⟩
  · exact ⟨(), su σ 0 0 1, fun t sz => met_post (c_T_loseBattery_b l g t σ x1 sz hb) (fun _ _ h => ⟨rfl, h⟩),
      fun f sz => met_post (b_L_loseBattery_1 l g MC o (α 0 0 0) f de mir x1 _ (hw_00 hW) ho (fun sz => c_H_loseBattery_b l hlf g MC α ν χ x1 sz hW hx) sz) (fun k M' h => lp_bad hW hN hL hR ho (by decide) h)⟩
  · exact ⟨(), su (su σ 0 0 0) 11 d 0, fun t sz => met_post (c_T_loseBattery l g t σ d sz hd0 hd) (fun _ _ h => ⟨rfl, h⟩),
      fun f sz => met_post (g_L_loseBattery l g MC o (α 0 0 0) f de mir (nI d) _ (hw_00 hW) ho _ (fun sz => pm_pd (c_H_loseBattery l g MC α ν χ d sz hW hd)) sz) (fun k M' h => lp_void hN hL (RI_door (hR.code 0) (Or.inr rfl)) (by rw [su_k (by decide)]; exact su_s) h)⟩
set_option maxHeartbeats 1000000 in
theorem op_visit (l : Launch) (hlf : l.stackTraces = false) (g : GG) (α : AL3) (ν : Nat → Nat) (χ σ : SG) (MC : MW) (de mir o : Nat) (hW : HW g α ν χ MC) (hN : nOK ν) (hL : LD α ν de) (hR : RI ν χ σ) (ho : MC o = none) (h60 : ν 0 < 600) (h61 : ν 1 < 600) (x1 x2 x3 x4 : Int32) : ∃ (r : Unit) (σ' : SG), TC l g y_T_visit k_T_visit { frames := 1, cells := 0, slots := 0, locals := 21 } [.int x1, .int x2, .int x3, .int x4] (fun _ : Unit => none) σ r σ' ∧ HC l g y_L_visit k_L_visit { frames := 7, cells := 1, slots := 6, locals := 124 } [.ref (α 0 0 0), .int x1, .int x2, .int x3, .int x4] (α 0 0 0) (ν 0) (ν 1) MC de mir o σ' (fun _ => True) 1 6 := by
  have hne := hR.ne
  by_cases hi : x1 < 0 ∨ 199 < x1
  · exact ⟨(), su σ 0 0 1, fun t sz => met_post (c_T_visit_b l g t σ x1 x2 x3 x4 sz (Or.inl hi)) (fun _ _ h => ⟨rfl, h⟩),
      fun f sz => met_post (b_L_visit_1 l g MC o (α 0 0 0) f de mir x1 x2 x3 x4 _ (hw_00 hW) ho (fun sz => c_H_visit_b l hlf g MC α ν χ x1 x2 x3 x4 sz hW (Or.inl (hi.imp id (lt_le2 x1).mp))) sz) (fun k M' h => lp_bad hW hN hL hR ho (by decide) h)⟩
  · rcases card_or hR x2 with ⟨hb, hx⟩ | ⟨c, hc, rfl, hc0⟩
    · exact ⟨(), su σ 0 0 1, fun t sz => met_post (c_T_visit_b l g t σ x1 x2 x3 x4 sz (Or.inr (Or.inl hb))) (fun _ _ h => ⟨rfl, h⟩),
        fun f sz => met_post (b_L_visit_1 l g MC o (α 0 0 0) f de mir x1 x2 x3 x4 _ (hw_00 hW) ho (fun sz => c_H_visit_b l hlf g MC α ν χ x1 x2 x3 x4 sz hW (Or.inr (Or.inl hx))) sz) (fun k M' h => lp_bad hW hN hL hR ho (by decide) h)⟩
    · rcases door_or x3 with ⟨hb, hx⟩ | ⟨d, hd, rfl, hd0⟩
      · exact ⟨(), su σ 0 0 1, fun t sz => met_post (c_T_visit_b l g t σ x1 (nI c) x3 x4 sz (Or.inr (Or.inr hb))) (fun _ _ h => ⟨rfl, h⟩),
          fun f sz => met_post (b_L_visit_1 l g MC o (α 0 0 0) f de mir x1 (nI c) x3 x4 _ (hw_00 hW) ho (fun sz => c_H_visit_b l hlf g MC α ν χ x1 (nI c) x3 x4 sz hW (Or.inr (Or.inr hx))) sz) (fun k M' h => lp_bad hW hN hL hR ho (by decide) h)⟩
      · obtain ⟨i, hi9, rfl⟩ := n_of (x := x1) (n := 200) (fun q => hi (Or.inl q)) (fun q => hi (Or.inr ((lt_le2 x1).mpr q))) (by decide)
        exact ⟨(), su (su (su (su (su σ 0 0 0) 12 i 1) 13 i (nI c)) 14 i (nI d)) 15 i x4, fun t sz => met_post (c_T_visit l g t σ i c d x4 sz hi9 hc0 hd0) (fun _ _ h => ⟨rfl, h⟩),
            fun f sz => met_post (g_L_visit l g MC o (α 0 0 0) f de mir (nI i) (nI c) (nI d) x4 _ (hw_00 hW) ho _ (fun sz => pm_pd (c_H_visit l g MC α ν χ i c d x4 sz hW hN hi9 hc hd)) sz) (fun k M' h => lp_void hN hL (RI_slot (hR.code 0) hc hd) (by rw [su_k (by decide), su_k (by decide), su_k (by decide), su_k (by decide)]; exact su_s) h)⟩
set_option maxHeartbeats 1000000 in
theorem op_spread (l : Launch) (hlf : l.stackTraces = false) (g : GG) (α : AL3) (ν : Nat → Nat) (χ σ : SG) (MC : MW) (de mir o : Nat) (hW : HW g α ν χ MC) (hN : nOK ν) (hL : LD α ν de) (hR : RI ν χ σ) (ho : MC o = none) (h60 : ν 0 < 600) (h61 : ν 1 < 600) (x1 : Int32) : ∃ (r : Int32) (σ' : SG), TC l g y_T_spread k_T_spread { frames := 9, cells := 0, slots := 0, locals := 218 } [.int x1] (fun r : Int32 => some (.int r)) σ r σ' ∧ HC l g y_L_spread k_L_spread { frames := 8, cells := 1, slots := 6, locals := 184 } [.ref (α 0 0 0), .int x1, .ref o] (α 0 0 0) (ν 0) (ν 1) MC de mir o σ' (fun z => z = r.toInt64) 1 6 := by
  have hne := hR.ne
  by_cases hz : x1 < 0 ∨ ¬ x1 ≤ 200
  · exact ⟨0, su σ 0 0 1, fun t sz => c_T_spread_b l g t σ x1 sz hz,
      fun f sz => met_post (b_L_spread_1 l g MC o (α 0 0 0) f de mir x1 _ (hw_00 hW) ho (fun sz => c_H_spread_b l hlf g MC α ν χ x1 sz hW hz) sz) (fun k M' h => lp_bad hW hN hL hR ho (by decide) h)⟩
  · have hz1 : ¬ x1 < 0 := fun q => hz (Or.inl q)
    have hz2 : x1 ≤ 200 := Classical.not_not.mp (fun q => hz (Or.inr q))
    obtain ⟨n, hn, rfl⟩ := nI_of2 (M := 200) (n := 200) rfl hz1 hz2
    refine ⟨nI (spN σ n), spS σ n, fun t sz => c_T_spread l g t σ ν χ n sz hR hn, fun f sz => met_post (g_L_spread l g MC o (α 0 0 0) f de mir (nI n) _ (hw_00 hW) ho _ (fun sz => pm_pd (c_H_spread l g MC α ν χ σ n sz hW hN hR hn)) sz) (fun k M' h => ?_)⟩
    obtain ⟨rfl, v, MC', f', ⟨rfl, χ', h3, h4⟩, rfl, ho', hf⟩ := h
    exact ⟨MC', α, ν, χ', f', rfl, ho', h4, hN, hL, h3, rfl, by omega, by omega, (sp_code σ n).symm, fun _ => hf⟩
