/-! The class and the reference hold the same. -/
def RC (ν : Nat → Nat) (χ σ : SG) (c : Nat) : Prop := χ 1 c = σ 1 c ∧ χ 2 c = σ 2 c ∧ χ 3 c = σ 3 c ∧ χ 4 c = σ 4 c ∧ χ 6 c = σ 6 c ∧ xW χ c = wS σ c ∧ kOK σ c ∧ cI (wS σ c) (σ 7) (ν 1) ∧ ∃ e, e ≤ ν 1 ∧ σ 6 c = nI e
def RE (χ σ : SG) (e : Nat) : Prop := χ 7 e = σ 7 e ∧ (∃ k, k < 600 ∧ σ 7 e = nI k) ∧ ∀ d, d < 200 → χ (rH e) d = hs σ d e
def RD (χ σ : SG) (d : Nat) : Prop := χ 9 d = σ 9 d ∧ χ 10 d = σ 10 d ∧ χ 11 d = σ 11 d ∧ χ 17 d = nI (gre σ d) ∧ ∃ z, z < 32 ∧ σ 9 d = nI z
def RV (ν : Nat → Nat) (χ σ : SG) (i : Nat) : Prop := (σ 12 i = 0 → χ 13 i = -1) ∧ (¬ σ 12 i = 0 → χ 13 i = σ 13 i ∧ χ 14 i = σ 14 i ∧ ∃ c d, c < ν 0 ∧ d < 200 ∧ σ 13 i = nI c ∧ σ 14 i = nI d) ∧ χ 15 i = σ 15 i
def RF (σ : SG) (c : Nat) : Prop := σ 4 c = 0 ∧ σ 6 c = 0 ∧ wS σ c = fun _ _ => 0
def RI (ν : Nat → Nat) (χ σ : SG) : Prop := (σ 0 1 = nI (ν 0) ∧ σ 0 2 = nI (ν 1) ∧ ν 0 ≤ 600 ∧ ν 1 ≤ 600) ∧ (∀ c, c < ν 0 → RC ν χ σ c) ∧ (∀ c, ν 0 ≤ c → c < 4000 → RF σ c) ∧ (∀ e, 1 ≤ e → e ≤ ν 1 → RE χ σ e) ∧ (∀ d e, d < 200 → e ≤ 3000 → ¬ (1 ≤ e ∧ e ≤ ν 1) → hs σ d e = 0) ∧ (∀ d, d < 200 → RD χ σ d) ∧ ∀ i, i < 200 → RV ν χ σ i
theorem wS_5 {σ σ' : SG} (h : σ' 5 = σ 5) (c : Nat) : wS σ' c = wS σ c := by
  unfold wS
  rw [h]
theorem xW_r {χ χ' : SG} {c : Nat} (h : ∀ b, b < 2 → χ' (rW c b) = χ (rW c b)) : xW χ' c = xW χ c := by
  funext b i
  unfold xW
  by_cases hq : b < 2 ∧ i < 44
  · rw [if_pos hq, if_pos hq, h b hq.1]
  · rw [if_neg hq, if_neg hq]
theorem hs_8 {σ σ' : SG} (h : σ' 8 = σ 8) (d e : Nat) : hs σ' d e = hs σ d e := by
  unfold hs
  rw [h]
theorem gr_8 {σ σ' : SG} (h : σ' 8 = σ 8) (d : Nat) : ∀ n, grF σ' d n = grF σ d n
  | 0 => rfl
  | n + 1 => by
    show (if hs σ' d (n + 1) = 0 then grF σ' d n else n + 1) = if hs σ d (n + 1) = 0 then grF σ d n else n + 1
    rw [hs_8 h, gr_8 h d n]
theorem RI.code {ν : Nat → Nat} {χ σ : SG} (h : RI ν χ σ) (v : Int32) : RI ν χ (su σ 0 0 v) := by
  have r : ∀ k, k ≠ 0 → su σ 0 0 v k = σ k := fun k hk => su_kf hk
  obtain ⟨⟨a1, a2, a3⟩, h2, h3, h4, h5, h6, h7⟩ := h
  refine ⟨⟨by rw [su_i (by decide)]; exact a1, by rw [su_i (by decide)]; exact a2, a3⟩, fun c hc => ?_, fun c hc hc4 => ?_, fun e h1 he => ?_, fun d e hd he hn => ?_, fun d hd => ?_, fun i hi => ?_⟩
  · have q := h2 c hc
    unfold RC kOK at q ⊢
    rw [r 1 (by decide), r 2 (by decide), r 3 (by decide), r 4 (by decide), r 6 (by decide), r 7 (by decide), wS_5 (r 5 (by decide))]
    exact q
  · have q := h3 c hc hc4
    unfold RF at q ⊢
    rw [r 4 (by decide), r 6 (by decide), wS_5 (r 5 (by decide))]
    exact q
  · have q := h4 e h1 he
    unfold RE hs at q ⊢
    rw [r 7 (by decide), r 8 (by decide)]
    exact q
  · rw [hs_8 (r 8 (by decide))]
    exact h5 d e hd he hn
  · have q := h6 d hd
    unfold RD gre at q ⊢
    rw [r 9 (by decide), r 10 (by decide), r 11 (by decide), gr_8 (r 8 (by decide))]
    exact q
  · have q := h7 i hi
    unfold RV at q ⊢
    rw [r 12 (by decide), r 13 (by decide), r 14 (by decide), r 15 (by decide)]
    exact q
/-- the two ways to find the current image agree -/
theorem cu_eq {χ σ : SG} {c : Nat} {f : Nat → Int32} {ne : Nat} (hw : xW χ c = wS σ c) (h : cI (wS σ c) f ne) : xcur χ c = cur σ c := by
  rw [← cuW_eq, ← hw]
  rw [← hw] at h
  have e : ∀ b i, b < 2 → i < 44 → χ (rW c b) i = xW χ c b i := fun b i hb hi => (xW_at hb hi).symm
  unfold xcur xsq
  rw [e 0 0 (by decide) (by decide), e 0 43 (by decide) (by decide), e 1 0 (by decide) (by decide), e 1 43 (by decide) (by decide)]
  generalize xW χ c = w at h
  unfold cuW
  by_cases h0 : w 0 0 = w 0 43
  · by_cases h1 : w 1 0 = w 1 43
    · rw [if_neg (show ¬ ¬ w 1 0 = w 1 43 from fun q => q h1), if_neg (show ¬ ¬ w 0 0 = w 0 43 from fun q => q h0), if_pos (show w 0 0 = w 0 43 ∧ w 1 0 = w 1 43 from ⟨h0, h1⟩)]
      obtain ⟨s0, q0, e0⟩ := and255 (w 0 0 >>> ((8 : Int32) &&& 31))
      obtain ⟨s1, q1, e1⟩ := and255 (w 1 0 >>> ((8 : Int32) &&& 31))
      unfold sqw
      rw [e0, e1]
      have t := by_of q1 q0
      by_cases hz : (nI s1 - nI s0).toInt8.toInt32 ≤ 0
      · rw [if_pos hz, if_neg (t.mp hz)]
      · rw [if_neg hz, if_pos (Classical.not_not.mp (fun q => hz (t.mpr q)))]
    · rw [if_pos h1, if_neg (show ¬ (w 0 0 = w 0 43 ∧ w 1 0 = w 1 43) from fun q => h1 q.2), if_pos h0]
  · have h1 : w 1 0 = w 1 43 := h.1.resolve_left h0
    rw [if_neg (show ¬ ¬ w 1 0 = w 1 43 from fun q => q h1), if_pos h0, if_neg (show ¬ (w 0 0 = w 0 43 ∧ w 1 0 = w 1 43) from fun q => h0 q.1), if_neg h0]
/-- what is on a card -/
theorem RC.on {ν : Nat → Nat} {χ σ : SG} {c : Nat} (h : RC ν χ σ c) : xcur χ c = cur σ c ∧ (∀ i, i < 44 → χ (rW c (xcur χ c)) i = wd σ c (cur σ c) i) ∧ ∃ a n v, n ≤ 40 ∧ xcn χ c (xcur χ c) = nI n ∧ cnI σ c = nI n ∧ χ (rW c (xcur χ c)) 1 = nI a ∧ fiI σ c = nI a ∧ χ (rW c (xcur χ c)) 2 = nI v ∧ seI σ c = nI v ∧ v ≤ ν 1 ∧ (n = 0 → a = 0) ∧ (n ≠ 0 → 1 ≤ a ∧ a + n ≤ ν 1 + 1) ∧ ∀ j, j < n → wd σ c (cur σ c) (3 + j) = σ 7 (a + j) := by
  obtain ⟨-, -, -, -, -, hw, -, hc, -⟩ := h
  have ec := cu_eq hw hc
  have hb : cur σ c < 2 := by rw [← ec]; exact xcur_lt χ c
  have ew : ∀ i, i < 44 → χ (rW c (xcur χ c)) i = wd σ c (cur σ c) i := fun i hi => by rw [ec, ← wS_at hb hi, ← hw, xW_at hb hi]
  obtain ⟨a, n, v, q1, q2, q3, q4, q5, q6, q7, q8⟩ := hc.2.2
  rw [cuW_eq] at q2 q3 q4 q8
  rw [wS_at hb (by decide)] at q2 q3 q4
  refine ⟨ec, ew, a, n, v, q1, ?_, q2, by rw [ew 1 (by decide)]; exact q3, ?_, by rw [ew 2 (by decide)]; exact q4, q4, q5, q6, q7, fun j hj => by rw [← wS_at hb (by omega)]; exact q8 j hj⟩
  · unfold xcn; rw [ew 0 (by decide)]; exact q2
  · unfold fiI cnI
    rw [q2]
    by_cases hz : n = 0
    · rw [hz, q6 hz, if_pos nI_0, nI_0]
    · rw [if_neg (nI_ne0 (by omega) (by omega))]; exact q3
