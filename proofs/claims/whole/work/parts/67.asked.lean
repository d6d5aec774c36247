/-! Questions: both answer the same. -/
theorem card_or {ν : Nat → Nat} {χ σ : SG} (h : RI ν χ σ) (x : Int32) : (ncI σ x = 1 ∧ xic ν x = 0) ∨ ∃ c, c < ν 0 ∧ x = nI c ∧ ncI σ (nI c) = 0 := by
  have hne := h.ne
  unfold ncI xic
  rw [h.1.1]
  by_cases h0 : x < 0
  · exact Or.inl ⟨if_pos (Or.inl h0), if_pos (Or.inl h0)⟩
  · by_cases h1 : nI (ν 0) ≤ x
    · exact Or.inl ⟨if_pos (Or.inr (Int32.not_lt.mpr h1)), if_pos (Or.inr h1)⟩
    · obtain ⟨c, hc, rfl⟩ := n_of h0 h1 (by omega)
      exact Or.inr ⟨c, hc, rfl, if_neg (fun q => q.elim h0 (fun z => z (Int32.not_le.mp h1)))⟩
theorem door_or (x : Int32) : (ndI x = 1 ∧ xid x = 0) ∨ ∃ d, d < 200 ∧ x = nI d ∧ ndI (nI d) = 0 := by
  unfold ndI xid
  by_cases h0 : x < 0
  · exact Or.inl ⟨if_pos (Or.inl h0), if_pos (Or.inl h0)⟩
  · by_cases h1 : nI 200 ≤ x
    · refine Or.inl ⟨if_pos (Or.inr (fun z => ?_)), if_pos (Or.inr h1)⟩
      exact absurd (Int32.le_trans h1 z) (by decide)
    · obtain ⟨c, hc, rfl⟩ := n_of h0 h1 (by omega)
      exact Or.inr ⟨c, hc, rfl, if_neg (fun q => q.elim h0 (fun z => z (nI_le (b := 199) (by omega) (by decide))))⟩
theorem hs_iff {ν : Nat → Nat} {χ σ : SG} (h : RI ν χ σ) {d e : Nat} (hd : d < 200) (he : e ≤ 3000) : xhs ν χ d e ↔ ¬ hs σ d e = 0 := by
  unfold xhs
  by_cases hn : 1 ≤ e ∧ e ≤ ν 1
  · rw [(h.2.2.2.1 e hn.1 hn.2).2.2 d hd]
    exact ⟨fun z => z.2.2, fun z => ⟨hn.1, hn.2, z⟩⟩
  · exact ⟨fun z => absurd ⟨z.1, z.2.1⟩ hn, fun z => absurd (h.2.2.2.2.1 d e hd he hn) z⟩
theorem bI_iff (p : Prop) : bI p = 0 ↔ ¬ p := by
  unfold bI
  by_cases h : p
  · rw [if_pos h]; exact ⟨fun z => absurd z (by decide), fun z => absurd h z⟩
  · rw [if_neg h]; exact ⟨fun _ => h, fun _ => rfl⟩
theorem cp_eq {ν : Nat → Nat} {χ σ : SG} (h : RI ν χ σ) {d : Nat} (hd : d < 200) : ∀ f' e f, f' + e = ν 1 → f + e = 3000 → xeF ν χ d f' e = cpF σ d f e
  | 0, e, f, h1, h2 => by
    have hne := h.ne
    obtain ⟨f, rfl⟩ : ∃ k, f = k + 1 := ⟨f - 1, by omega⟩
    show e = if hs σ d (e + 1) = 0 then e else cpF σ d f (e + 1)
    rw [if_pos (h.2.2.2.2.1 d (e + 1) hd (by omega) (fun z => by omega))]
  | f' + 1, e, f, h1, h2 => by
    have hne := h.ne
    obtain ⟨f, rfl⟩ : ∃ k, f = k + 1 := ⟨f - 1, by omega⟩
    show (if bI (xhs ν χ d (e + 1)) = 0 then e else xeF ν χ d f' (e + 1)) = if hs σ d (e + 1) = 0 then e else cpF σ d f (e + 1)
    by_cases hz : hs σ d (e + 1) = 0
    · rw [if_pos hz, if_pos ((hs_eq h hd (by omega) (by omega)).mpr hz)]
    · rw [if_neg hz, if_neg (fun z => hz ((hs_eq h hd (by omega) (by omega)).mp z)), cp_eq h hd f' (e + 1) f (by omega) (by omega)]
theorem mk_eq {ν : Nat → Nat} {χ σ : SG} (h : RI ν χ σ) {d : Nat} (hd : d < 200) : ∀ k, k ≤ 3000 → xmF ν χ d k = mkF σ d k
  | 0, _ => rfl
  | k + 1, hk => by
    show (if bI (xhs ν χ d (k + 1)) = 0 then xmF ν χ d k else xmF ν χ d k + 1) = if hs σ d (k + 1) = 0 then mkF σ d k else mkF σ d k + 1
    rw [mk_eq h hd k (by omega)]
    by_cases hz : hs σ d (k + 1) = 0
    · rw [if_pos hz, if_pos ((hs_eq h hd (by omega) hk).mpr hz)]
    · rw [if_neg hz, if_neg (fun z => hz ((hs_eq h hd (by omega) hk).mp z))]
theorem mk_end {ν : Nat → Nat} {χ σ : SG} (h : RI ν χ σ) {d : Nat} (hd : d < 200) : ∀ j, ν 1 + j ≤ 3000 → mkF σ d (ν 1 + j) = mkF σ d (ν 1)
  | 0, _ => rfl
  | j + 1, hj => by
    show (if hs σ d (ν 1 + j + 1) = 0 then mkF σ d (ν 1 + j) else mkF σ d (ν 1 + j) + 1) = _
    rw [if_pos (h.2.2.2.2.1 d (ν 1 + j + 1) hd (by omega) (fun z => by omega)), mk_end h hd j (by omega)]
theorem rn_eq {ν : Nat → Nat} {χ σ : SG} (h : RI ν χ σ) {d : Nat} (hd : d < 200) : ∀ k, k ≤ 3000 → xrF ν χ d k = rnF σ d k
  | 0, _ => rfl
  | k + 1, hk => by
    show (if bI (xhs ν χ d (k + 1) ∧ ¬ xhs ν χ d k) = 0 then xrF ν χ d k else xrF ν χ d k + 1) = if ¬ hs σ d (k + 1) = 0 ∧ hs σ d k = 0 then rnF σ d k + 1 else rnF σ d k
    rw [rn_eq h hd k (by omega)]
    have e1 := hs_iff h hd hk
    have e2 := hs_iff h hd (show k ≤ 3000 by omega)
    by_cases hz : ¬ hs σ d (k + 1) = 0 ∧ hs σ d k = 0
    · rw [if_pos hz, if_neg (fun z => (bI_iff _).mp z ⟨e1.mpr hz.1, fun w => e2.mp w hz.2⟩)]
    · rw [if_neg hz, if_pos ((bI_iff _).mpr (fun z => hz ⟨e1.mp z.1, Classical.not_not.mp (fun w => z.2 (e2.mpr w))⟩))]
theorem rn_end {ν : Nat → Nat} {χ σ : SG} (h : RI ν χ σ) {d : Nat} (hd : d < 200) : ∀ j, ν 1 + j ≤ 3000 → rnF σ d (ν 1 + j) = rnF σ d (ν 1)
  | 0, _ => rfl
  | j + 1, hj => by
    show (if ¬ hs σ d (ν 1 + j + 1) = 0 ∧ hs σ d (ν 1 + j) = 0 then rnF σ d (ν 1 + j) + 1 else rnF σ d (ν 1 + j)) = _
    rw [if_neg (fun q => q.1 (h.2.2.2.2.1 d (ν 1 + j + 1) hd (by omega) (fun z => by omega))), rn_end h hd j (by omega)]
theorem rn_mono (σ : SG) (d : Nat) : ∀ k j, j ≤ k → rnF σ d j ≤ rnF σ d k ∧ rnF σ d (k + 1) ≤ rnF σ d k + 1
  | 0, j, hj => by
    refine ⟨by rw [show j = 0 by omega]; exact Nat.le_refl _, ?_⟩
    show (if ¬ hs σ d (0 + 1) = 0 ∧ hs σ d 0 = 0 then rnF σ d 0 + 1 else rnF σ d 0) ≤ _
    split <;> omega
  | k + 1, j, hj => by
    have h2 : ∀ m, rnF σ d (m + 1) ≤ rnF σ d m + 1 ∧ rnF σ d m ≤ rnF σ d (m + 1) := fun m => by
      show (if ¬ hs σ d (m + 1) = 0 ∧ hs σ d m = 0 then rnF σ d m + 1 else rnF σ d m) ≤ _ ∧ _ ≤ (if ¬ hs σ d (m + 1) = 0 ∧ hs σ d m = 0 then rnF σ d m + 1 else rnF σ d m)
      split <;> omega
    refine ⟨?_, (h2 (k + 1)).1⟩
    rcases Nat.lt_or_ge k j with q | q
    · rw [show j = k + 1 by omega]; exact Nat.le_refl _
    · exact Nat.le_trans (rn_mono σ d k j q).1 (h2 k).2
theorem run_ex (σ : SG) (d i : Nat) : ∀ N, i < rnF σ d N → ∃ k, k ≤ N ∧ isRun σ d i k
  | 0, h => absurd h (Nat.not_lt_zero i)
  | N + 1, h => by
    rcases Nat.lt_or_ge i (rnF σ d N) with q | q
    · obtain ⟨k, hk, hr⟩ := run_ex σ d i N q
      exact ⟨k, by omega, hr⟩
    · have m := (rn_mono σ d N 0 (by omega)).2
      exact ⟨N + 1, Nat.le_refl _, by omega, fun j hj => Nat.le_trans (rn_mono σ d N j (by omega)).1 q⟩
theorem run_one {σ : SG} {d i k k' : Nat} (h : isRun σ d i k) (h' : isRun σ d i k') : k = k' := by
  rcases Nat.lt_trichotomy k k' with q | q | q
  · have := h'.2 k q; have := h.1; omega
  · exact q
  · have := h.2 k' q; have := h'.1; omega
theorem run_x {ν : Nat → Nat} {χ σ : SG} (h : RI ν χ σ) {d i k : Nat} (hd : d < 200) (hk : k ≤ 3000) (hr : isRun σ d i k) : xRun ν χ d i k ∧ 1 ≤ k ∧ k ≤ ν 1 ∧ xeF ν χ d (ν 1 - k) k = cpF σ d (3000 - k) k := by
  have hne := h.ne
  have k1 : 1 ≤ k := by
    rcases Nat.eq_zero_or_pos k with q | q
    · have := hr.1; rw [q] at this; exact absurd this (by show ¬ 0 = i + 1; omega)
    · exact q
  have k2 : k ≤ ν 1 := by
    rcases Nat.lt_or_ge (ν 1) k with q | q
    · have a := hr.2 (ν 1) q
      have b := rn_end h hd (k - ν 1) (by omega)
      rw [show ν 1 + (k - ν 1) = k by omega, hr.1] at b
      omega
    · exact q
  exact ⟨⟨by rw [rn_eq h hd k hk]; exact hr.1, fun j hj => by rw [rn_eq h hd j (by omega)]; exact hr.2 j hj⟩, k1, k2, cp_eq h hd _ _ _ (by omega) (by omega)⟩
theorem rc_eq {χ σ : SG} {e : Nat} (h : ∀ d, d < 200 → χ (rH e) d = hs σ d e) : ∀ k, k ≤ 200 → rdF χ e k = rcF σ e k
  | 0, _ => rfl
  | k + 1, hk => by
    show (if χ (rH e) k = 0 then rdF χ e k else rdF χ e k + 1) = if hs σ k e = 0 then rcF σ e k else rcF σ e k + 1
    rw [h k (by omega), rc_eq h k (by omega)]
/-- a door's five numbers -/
noncomputable def xab (ν : Nat → Nat) (χ : SG) (d w : Nat) : Int32 := if w = 0 then nI (xeF ν χ d (ν 1) 0) else if w = 1 then mxJ (χ 17 d) (χ 11 d) else if w = 2 then mxJ (χ 11 d - nI (xeF ν χ d (ν 1) 0)) 0 else if w = 3 then nI (xmF ν χ d (ν 1)) else nI (xrF ν χ d (ν 1))
theorem ab_eq {ν : Nat → Nat} {χ σ : SG} (h : RI ν χ σ) {d w : Nat} (hd : d < 200) (hw : w ≤ 4) : xab ν χ d w = abI σ d (nI w) := by
  have hne := h.ne
  obtain ⟨-, -, d3, d4, -⟩ := h.2.2.2.2.2.1 d hd
  have ec : xeF ν χ d (ν 1) 0 = cmp σ d := cp_eq h hd _ _ _ (by omega) (by omega)
  have ne : ∀ j, j ≤ 4 → j ≠ w → ¬ nI w = nI j := fun j hj hn => fun q => hn ((nI_eq (by omega) (by omega)).mp q).symm
  unfold xab abI
  rw [ec, d3, d4]
  rcases (show w = 0 ∨ w = 1 ∨ w = 2 ∨ w = 3 ∨ w = 4 by omega) with rfl | rfl | rfl | rfl | rfl
  · rw [if_pos rfl, if_neg (fun q => q nI_0)]
  · rw [if_neg (by decide), if_pos rfl, if_pos (show ¬ nI 1 = 0 from ne 0 (by decide) (by decide)), if_neg (fun q => q nI_one)]
    unfold mxJ
    by_cases q : nI (gre σ d) < σ 11 d
    · rw [if_pos q, if_pos (Int32.le_of_lt q)]
    · rw [if_neg q]
      by_cases q2 : nI (gre σ d) ≤ σ 11 d
      · rw [if_pos q2]; exact Int32.le_antisymm q2 (Int32.not_lt.mp q)
      · rw [if_neg q2]
  · rw [if_neg (by decide), if_neg (by decide), if_pos rfl, if_pos (show ¬ nI 2 = 0 from ne 0 (by decide) (by decide)), if_pos (show ¬ nI 2 = 1 from ne 1 (by decide) (by decide)), if_neg (show ¬ ¬ nI 2 = 2 from fun q => q rfl)]
    unfold mxJ
    by_cases q : σ 11 d - nI (cmp σ d) < 0
    · rw [if_pos q, if_pos (Int32.le_of_lt q)]
    · rw [if_neg q]
      by_cases q2 : σ 11 d - nI (cmp σ d) ≤ 0
      · rw [if_pos q2]; exact Int32.le_antisymm q2 (Int32.not_lt.mp q)
      · rw [if_neg q2]
  · rw [if_neg (by decide), if_neg (by decide), if_neg (by decide), if_pos rfl, if_pos (show ¬ nI 3 = 0 from ne 0 (by decide) (by decide)), if_pos (show ¬ nI 3 = 1 from ne 1 (by decide) (by decide)), if_pos (show ¬ nI 3 = 2 from ne 2 (by decide) (by decide)), if_neg (show ¬ ¬ nI 3 = 3 from fun q => q rfl), mk_eq h hd _ (by omega), ← mk_end h hd (3000 - ν 1) (by omega), show ν 1 + (3000 - ν 1) = 3000 by omega]
  · rw [if_neg (by decide), if_neg (by decide), if_neg (by decide), if_neg (by decide), if_pos (show ¬ nI 4 = 0 from ne 0 (by decide) (by decide)), if_pos (show ¬ nI 4 = 1 from ne 1 (by decide) (by decide)), if_pos (show ¬ nI 4 = 2 from ne 2 (by decide) (by decide)), if_pos (show ¬ nI 4 = 3 from ne 3 (by decide) (by decide)), rn_eq h hd _ (by omega), ← rn_end h hd (3000 - ν 1) (by omega), show ν 1 + (3000 - ν 1) = 3000 by omega]
noncomputable def xcr (χ : SG) (c w : Nat) : Int32 := if w = 0 then nI (xcur χ c) else if w = 1 then xcn χ c (xcur χ c) else if w = 2 then χ (rW c (xcur χ c)) 1 else χ (rW c (xcur χ c)) 2
theorem cr_eq {ν : Nat → Nat} {χ σ : SG} (h : RI ν χ σ) {c w : Nat} (hc : c < ν 0) (hw : w ≤ 3) : xcr χ c w = crI σ c (nI w) := by
  obtain ⟨ec, ew, a, n, v, q1, q2, q3, q4, q5, q6, q7, -⟩ := (h.2.1 c hc).on
  have ne : ∀ j, j ≤ 4 → j ≠ w → ¬ nI w = nI j := fun j hj hn => fun q => hn ((nI_eq (by omega) (by omega)).mp q).symm
  unfold xcr crI
  rcases (show w = 0 ∨ w = 1 ∨ w = 2 ∨ w = 3 by omega) with rfl | rfl | rfl | rfl
  · rw [if_pos rfl, if_neg (fun q => q nI_0), ec]
  · rw [if_neg (by decide), if_pos rfl, if_pos (show ¬ nI 1 = 0 from ne 0 (by decide) (by decide)), if_neg (fun q => q nI_one), q2, q3]
  · rw [if_neg (by decide), if_neg (by decide), if_pos rfl, if_pos (show ¬ nI 2 = 0 from ne 0 (by decide) (by decide)), if_pos (show ¬ nI 2 = 1 from ne 1 (by decide) (by decide)), if_neg (show ¬ ¬ nI 2 = 2 from fun q => q rfl), q4, q5]
  · rw [if_neg (by decide), if_neg (by decide), if_neg (by decide), if_pos (show ¬ nI 3 = 0 from ne 0 (by decide) (by decide)), if_pos (show ¬ nI 3 = 1 from ne 1 (by decide) (by decide)), if_pos (show ¬ nI 3 = 2 from ne 2 (by decide) (by decide)), q6, q7]
