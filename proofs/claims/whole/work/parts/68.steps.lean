/-! Each call that changes the house keeps what the two hold. -/
theorem RI_issue {ν ν' : Nat → Nat} {χ σ : SG} {z e : Int32} (h : RI ν χ σ) (hlt : ν 0 < 600) (e0 : ν' 0 = ν 0 + 1) (e1 : ν' 1 = ν 1) : RI ν' (isX χ (ν 0) z e) (isS σ (ν 0) z e) := by
  obtain ⟨hA, hR, hF, hE, hz, hD, hV⟩ := h
  have er : ∀ b, b < 2 → ∀ c, rW c b = rW (ν 0) 0 ∨ rW c b = rW (ν 0) 1 → c = ν 0 := fun b hb c q => by unfold rW at q; omega
  -- rows
  have xo : ∀ r k, r ≠ 0 → r < 20 ∨ r % 2 = 1 → k ≠ ν 0 → isX χ (ν 0) z e r k = χ r k := fun r k q1 q2 q3 => by
    unfold isX
    rw [if_neg q1, if_neg (fun q => by unfold rW at q; omega), if_neg q3]
  have xc : ∀ r k, r ≠ 0 → r < 20 ∨ r % 2 = 1 → r ≠ 1 → r ≠ 2 → r ≠ 3 → r ≠ 4 → r ≠ 6 → r ≠ 16 → isX χ (ν 0) z e r k = χ r k := fun r k q1 q2 q3 q4 q5 q6 q7 q8 => by
    unfold isX
    rw [if_neg q1, if_neg (fun q => by unfold rW at q; omega)]
    split
    · exact if_neg (by omega)
    · rfl
  have xn : ∀ r, r < 20 → r ≠ 0 → isX χ (ν 0) z e r (ν 0) = if r = 1 then z else if r = 2 then e else if r = 6 ∨ r = 16 ∨ r = 4 then 0 else if r = 3 then -1 else χ r (ν 0) := fun r q1 q2 => by
    unfold isX
    rw [if_neg q2, if_neg (fun q => by unfold rW at q; omega), if_pos rfl]
  have so : ∀ r, r ≠ 0 → r ≠ 1 → r ≠ 2 → r ≠ 3 → isS σ (ν 0) z e r = σ r := fun r q0 q1 q2 q3 => by
    unfold isS
    rw [su_kf q0, su_kf q3, su_kf q2, su_kf q1, su_kf q0]
  have si : ∀ r k, r ≠ 0 → k ≠ ν 0 → isS σ (ν 0) z e r k = σ r k := fun r k q0 q1 => by
    unfold isS
    rw [su_k q0, su_i q1, su_i q1, su_i q1, su_k q0]
  have s1 : isS σ (ν 0) z e 1 (ν 0) = z := by
    unfold isS
    rw [su_k (by decide), su_k (by decide), su_k (by decide), su_s]
  have s2 : isS σ (ν 0) z e 2 (ν 0) = e := by
    unfold isS
    rw [su_k (by decide), su_k (by decide), su_s]
  have s3 : isS σ (ν 0) z e 3 (ν 0) = -1 := by
    unfold isS
    rw [su_k (by decide), su_s]
  have s01 : isS σ (ν 0) z e 0 1 = σ 0 1 + 1 := by unfold isS; rw [su_s]
  have s02 : isS σ (ν 0) z e 0 2 = σ 0 2 := by
    unfold isS
    rw [su_i (by decide), su_k (by decide), su_k (by decide), su_k (by decide), su_i (by decide)]
  have xw : ∀ c, c ≠ ν 0 → xW (isX χ (ν 0) z e) c = xW χ c := fun c hc => xW_r (fun b hb => by
    funext i
    unfold isX
    rw [if_neg (by unfold rW; omega), if_neg (fun q => hc (er b hb c q))]
    split
    · rw [if_neg (by unfold rW; omega), if_neg (by unfold rW; omega), if_neg (by unfold rW; omega), if_neg (by unfold rW; omega)]
    · rfl)
  have xw0 : xW (isX χ (ν 0) z e) (ν 0) = fun _ _ => 0 := by
    funext b i
    unfold xW
    split
    · unfold isX
      rw [if_neg (by unfold rW; omega), if_pos (by rcases (show b = 0 ∨ b = 1 by omega) with rfl | rfl <;> simp)]
    · rfl
  generalize isX χ (ν 0) z e = χ' at xo xc xn xw xw0 ⊢
  generalize isS σ (ν 0) z e = σ' at so si s1 s2 s3 s01 s02 ⊢
  refine ⟨⟨by rw [s01, hA.1, e0, nI_1], by rw [s02, hA.2.1, e1], by omega, by omega⟩, fun c hc => ?_, fun c hc hc4 => ?_, fun e q1 q2 => ?_, fun d e q1 q2 q3 => ?_, fun d hd => ?_, fun i hi => ?_⟩
  · by_cases hq : c = ν 0
    · subst hq
      obtain ⟨f1, f2, f3⟩ := hF (ν 0) (Nat.le_refl _) (by omega)
      have w0 : wS σ' (ν 0) = fun _ _ => 0 := by rw [wS_5 (so 5 (by decide) (by decide) (by decide) (by decide)), f3]
      refine ⟨?_, ?_, ?_, ?_, ?_, by rw [xw0, w0], Or.inl s3, by rw [w0]; exact cI_zero _ _, 0, by omega, ?_⟩
      · rw [s1, xn 1 (by decide) (by decide)]; rfl
      · rw [s2, xn 2 (by decide) (by decide)]; rfl
      · rw [s3, xn 3 (by decide) (by decide)]; rfl
      · rw [so 4 (by decide) (by decide) (by decide) (by decide), f1, xn 4 (by decide) (by decide)]; rfl
      · rw [so 6 (by decide) (by decide) (by decide) (by decide), f2, xn 6 (by decide) (by decide)]; rfl
      · rw [so 6 (by decide) (by decide) (by decide) (by decide), f2]; rfl
    · have q := hR c (by omega)
      unfold RC kOK at q ⊢
      rw [e1, xo 1 c (by decide) (by decide) hq, xo 2 c (by decide) (by decide) hq, xo 3 c (by decide) (by decide) hq, xo 4 c (by decide) (by decide) hq, xo 6 c (by decide) (by decide) hq, si 1 c (by decide) hq, si 2 c (by decide) hq, si 3 c (by decide) hq, si 4 c (by decide) hq, si 6 c (by decide) hq, xw c hq, wS_5 (so 5 (by decide) (by decide) (by decide) (by decide)), so 7 (by decide) (by decide) (by decide) (by decide)]
      exact q
  · have q := hF c (by omega) hc4
    unfold RF at q ⊢
    rw [so 4 (by decide) (by decide) (by decide) (by decide), so 6 (by decide) (by decide) (by decide) (by decide), wS_5 (so 5 (by decide) (by decide) (by decide) (by decide))]
    exact q
  · have q := hE e q1 (by omega)
    unfold RE at q ⊢
    obtain ⟨p1, p2, p3⟩ := q
    refine ⟨?_, ?_, fun d hd => ?_⟩
    · rw [xc 7 e (by decide) (by decide) (by decide) (by decide) (by decide) (by decide) (by decide) (by decide), so 7 (by decide) (by decide) (by decide) (by decide)]; exact p1
    · rw [so 7 (by decide) (by decide) (by decide) (by decide)]; exact p2
    · rw [xc (rH e) d (by unfold rH; omega) (Or.inr (by unfold rH; omega)) (by unfold rH; omega) (by unfold rH; omega) (by unfold rH; omega) (by unfold rH; omega) (by unfold rH; omega) (by unfold rH; omega), hs_8 (so 8 (by decide) (by decide) (by decide) (by decide))]; exact p3 d hd
  · rw [hs_8 (so 8 (by decide) (by decide) (by decide) (by decide))]
    exact hz d e q1 q2 (by rw [e1] at q3; exact q3)
  · have q := hD d hd
    unfold RD gre at q ⊢
    have xk : ∀ r, r = 9 ∨ r = 10 ∨ r = 11 ∨ r = 17 → χ' r d = χ r d := fun r hr => xc r d (by omega) (by omega) (by omega) (by omega) (by omega) (by omega) (by omega) (by omega)
    rw [xk 9 (by decide), xk 10 (by decide), xk 11 (by decide), xk 17 (by decide), so 9 (by decide) (by decide) (by decide) (by decide), so 10 (by decide) (by decide) (by decide) (by decide), so 11 (by decide) (by decide) (by decide) (by decide), gr_8 (so 8 (by decide) (by decide) (by decide) (by decide))]
    exact q
  · have xk : ∀ r, r = 13 ∨ r = 14 ∨ r = 15 → χ' r i = χ r i := fun r hr => xc r i (by omega) (by omega) (by omega) (by omega) (by omega) (by omega) (by omega) (by omega)
    obtain ⟨p1, p2, p3⟩ := hV i hi
    unfold RV
    rw [xk 13 (by decide), xk 14 (by decide), xk 15 (by decide), so 12 (by decide) (by decide) (by decide) (by decide), so 13 (by decide) (by decide) (by decide) (by decide), so 14 (by decide) (by decide) (by decide) (by decide), so 15 (by decide) (by decide) (by decide) (by decide)]
    refine ⟨p1, fun q => ?_, p3⟩
    obtain ⟨a1, a2, c, d, a3, a4⟩ := p2 q
    exact ⟨a1, a2, c, d, by omega, a4⟩
theorem RI_revoke {ν ν' : Nat → Nat} {χ σ : SG} {c : Nat} (h : RI ν χ σ) (hc : c < ν 0) (hlt : ν 1 < 600) (e0 : ν' 0 = ν 0) (e1 : ν' 1 = ν 1 + 1) : RI ν' (su (rvX χ (ν 1 + 1) (nI c)) 6 c (nI (ν 1 + 1))) (rvS σ c (ν 1)) := by
  obtain ⟨hA, hR, hF, hE, hz, hD, hV⟩ := h
  have xo : ∀ r, r ≠ 0 → r ≠ rH (ν 1 + 1) → r ≠ 7 → rvX χ (ν 1 + 1) (nI c) r = χ r := fun r q1 q2 q3 => by
    funext k
    unfold rvX
    rw [if_neg q1, if_neg q2, if_neg (fun q => q3 q.1)]
  have xh : ∀ k, rvX χ (ν 1 + 1) (nI c) (rH (ν 1 + 1)) k = 0 := fun k => by
    unfold rvX
    rw [if_neg (by unfold rH; omega), if_pos rfl]
  have x7 : ∀ k, rvX χ (ν 1 + 1) (nI c) 7 k = if k = ν 1 + 1 then nI c else χ 7 k := fun k => by
    unfold rvX
    rw [if_neg (by decide), if_neg (by unfold rH; omega)]
    by_cases q : k = ν 1 + 1
    · rw [if_pos ⟨rfl, q⟩, if_pos q]
    · rw [if_neg (fun z => q z.2), if_neg q]
  have so : ∀ r, r ≠ 0 → r ≠ 6 → r ≠ 7 → rvS σ c (ν 1) r = σ r := fun r q0 q1 q2 => by
    unfold rvS
    rw [su_kf q2, su_kf q1, su_kf q0, su_kf q0]
  have s6 : ∀ k, rvS σ c (ν 1) 6 k = if k = c then nI (ν 1 + 1) else σ 6 k := fun k => by
    unfold rvS
    rw [su_k (by decide)]
    by_cases q : k = c
    · rw [if_pos q, q, su_s, hA.2.1, nI_1]
    · rw [if_neg q, su_i q, su_k (by decide), su_k (by decide)]
  have s7 : ∀ k, rvS σ c (ν 1) 7 k = if k = ν 1 + 1 then nI c else σ 7 k := fun k => by
    unfold rvS
    by_cases q : k = ν 1 + 1
    · rw [if_pos q, q, su_s]
    · rw [if_neg q, su_i q, su_k (by decide), su_k (by decide), su_k (by decide)]
  have s01 : rvS σ c (ν 1) 0 1 = σ 0 1 := by
    unfold rvS
    rw [su_k (by decide), su_k (by decide), su_i (by decide), su_i (by decide)]
  have s02 : rvS σ c (ν 1) 0 2 = σ 0 2 + 1 := by
    unfold rvS
    rw [su_k (by decide), su_k (by decide), su_s]
  generalize rvX χ (ν 1 + 1) (nI c) = χ' at xo xh x7 ⊢
  generalize rvS σ c (ν 1) = σ' at so s6 s7 s01 s02 ⊢
  have rl : ∀ r, r < 20 → r ≠ rH (ν 1 + 1) := fun r q => by unfold rH; omega
  refine ⟨⟨by rw [s01, hA.1, e0], by rw [s02, hA.2.1, e1, nI_1], by omega, by omega⟩, fun c' hc' => ?_, fun c' hc' hc4 => ?_, fun e q1 q2 => ?_, fun d e q1 q2 q3 => ?_, fun d hd => ?_, fun i hi => ?_⟩
  · obtain ⟨x1, x2, x3, x4, x6, xw, xk, xc, e, he, xe⟩ := hR c' (by omega)
    unfold RC kOK
    rw [su_k (by decide), su_k (by decide), su_k (by decide), su_k (by decide), xo 1 (by decide) (rl 1 (by decide)) (by decide), xo 2 (by decide) (rl 2 (by decide)) (by decide), xo 3 (by decide) (rl 3 (by decide)) (by decide), xo 4 (by decide) (rl 4 (by decide)) (by decide), so 1 (by decide) (by decide) (by decide), so 2 (by decide) (by decide) (by decide), so 3 (by decide) (by decide) (by decide), so 4 (by decide) (by decide) (by decide), wS_5 (so 5 (by decide) (by decide) (by decide)), xW_r (χ := χ) (fun b hb => (su_kf (by unfold rW; omega)).trans (xo _ (by unfold rW; omega) (by unfold rW rH; omega) (by unfold rW; omega))), s6]
    refine ⟨x1, x2, x3, x4, ?_, xw, xk, cI_more xc (by omega) (fun e p1 p2 => by rw [s7, if_neg (by omega)]), ?_⟩
    · by_cases q : c' = c
      · rw [q, su_s, if_pos rfl]
      · rw [su_i q, if_neg q, xo 6 (by decide) (rl 6 (by decide)) (by decide)]; exact x6
    · by_cases q : c' = c
      · exact ⟨ν 1 + 1, by omega, if_pos q⟩
      · exact ⟨e, by omega, by rw [if_neg q]; exact xe⟩
  · have q := hF c' (by omega) hc4
    unfold RF at q ⊢
    rw [so 4 (by decide) (by decide) (by decide), s6, if_neg (by omega), wS_5 (so 5 (by decide) (by decide) (by decide))]
    exact q
  · by_cases q : e = ν 1 + 1
    · subst q
      refine ⟨by rw [su_k (by decide), x7, s7, if_pos rfl, if_pos rfl], ⟨c, by omega, by rw [s7, if_pos rfl]⟩, fun d hd => ?_⟩
      rw [su_k (by unfold rH; omega), xh, hs_8 (so 8 (by decide) (by decide) (by decide)), hz d (ν 1 + 1) hd (by omega) (fun z => by omega)]
    · obtain ⟨p1, p2, p3⟩ := hE e q1 (by omega)
      refine ⟨by rw [su_k (by decide), x7, s7, if_neg q, if_neg q]; exact p1, by rw [s7, if_neg q]; exact p2, fun d hd => ?_⟩
      rw [su_k (by unfold rH; omega), xo _ (by unfold rH; omega) (by unfold rH; omega) (by unfold rH; omega), hs_8 (so 8 (by decide) (by decide) (by decide))]
      exact p3 d hd
  · rw [hs_8 (so 8 (by decide) (by decide) (by decide))]
    exact hz d e q1 q2 (fun z => q3 (by omega))
  · have q := hD d hd
    unfold RD gre at q ⊢
    rw [su_k (by decide), su_k (by decide), su_k (by decide), su_k (by decide), xo 9 (by decide) (rl 9 (by decide)) (by decide), xo 10 (by decide) (rl 10 (by decide)) (by decide), xo 11 (by decide) (rl 11 (by decide)) (by decide), xo 17 (by decide) (rl 17 (by decide)) (by decide), so 9 (by decide) (by decide) (by decide), so 10 (by decide) (by decide) (by decide), so 11 (by decide) (by decide) (by decide), gr_8 (so 8 (by decide) (by decide) (by decide))]
    exact q
  · obtain ⟨p1, p2, p3⟩ := hV i hi
    unfold RV
    rw [su_k (by decide), su_k (by decide), su_k (by decide), xo 13 (by decide) (rl 13 (by decide)) (by decide), xo 14 (by decide) (rl 14 (by decide)) (by decide), xo 15 (by decide) (rl 15 (by decide)) (by decide), so 12 (by decide) (by decide) (by decide), so 13 (by decide) (by decide) (by decide), so 14 (by decide) (by decide) (by decide), so 15 (by decide) (by decide) (by decide)]
    refine ⟨p1, fun q => ?_, p3⟩
    obtain ⟨a1, a2, c, d, a3, a4⟩ := p2 q
    exact ⟨a1, a2, c, d, by omega, a4⟩
theorem RI_tear {ν : Nat → Nat} {χ σ : SG} {c k : Nat} (h : RI ν χ σ) (hk : k ≤ 50) : RI ν (su χ 3 c (nI k)) (su σ 3 c (nI k)) := by
  obtain ⟨hA, hR, hF, hE, hz, hD, hV⟩ := h
  have r : ∀ (ρ : SG) q, q ≠ 3 → su ρ 3 c (nI k) q = ρ q := fun ρ q hq => su_kf hq
  refine ⟨by rw [r σ 0 (by decide)]; exact hA, fun c' hc' => ?_, fun c' hc' hc4 => ?_, fun e q1 q2 => ?_, fun d e q1 q2 q3 => ?_, fun d hd => ?_, fun i hi => ?_⟩
  · obtain ⟨x1, x2, x3, x4, x6, xw, xk, xc⟩ := hR c' hc'
    unfold RC kOK
    rw [r χ 1 (by decide), r χ 2 (by decide), r χ 4 (by decide), r χ 6 (by decide), r σ 1 (by decide), r σ 2 (by decide), r σ 4 (by decide), r σ 6 (by decide), r σ 7 (by decide), wS_5 (r σ 5 (by decide)), xW_r (χ := χ) (fun b hb => r χ _ (by unfold rW; omega))]
    by_cases q : c' = c
    · rw [q, su_s, su_s]
      rw [q] at x1 x2 x4 x6 xw xc
      exact ⟨x1, x2, rfl, x4, x6, xw, Or.inr ⟨k, hk, rfl⟩, xc⟩
    · rw [su_i q, su_i q]
      exact ⟨x1, x2, x3, x4, x6, xw, xk, xc⟩
  · have q := hF c' hc' hc4
    unfold RF at q ⊢
    rw [r σ 4 (by decide), r σ 6 (by decide), wS_5 (r σ 5 (by decide))]
    exact q
  · have q := hE e q1 q2
    unfold RE hs at q ⊢
    rw [r χ 7 (by decide), r χ (rH e) (by unfold rH; omega), r σ 7 (by decide), r σ 8 (by decide)]
    exact q
  · rw [hs_8 (r σ 8 (by decide))]
    exact hz d e q1 q2 q3
  · have q := hD d hd
    unfold RD gre at q ⊢
    rw [r χ 9 (by decide), r χ 10 (by decide), r χ 11 (by decide), r χ 17 (by decide), r σ 9 (by decide), r σ 10 (by decide), r σ 11 (by decide), gr_8 (r σ 8 (by decide))]
    exact q
  · have q := hV i hi
    unfold RV at q ⊢
    rw [r χ 13 (by decide), r χ 14 (by decide), r χ 15 (by decide), r σ 12 (by decide), r σ 13 (by decide), r σ 14 (by decide), r σ 15 (by decide)]
    exact q
/-- zone and battery: rows 9 and 11 -/
theorem RI_door {ν : Nat → Nat} {χ σ : SG} {m d0 : Nat} {v : Int32} (h : RI ν χ σ) (hm : m = 9 ∧ (∃ z, z < 32 ∧ v = nI z) ∨ m = 11) : RI ν (su χ m d0 v) (su σ m d0 v) := by
  obtain ⟨hA, hR, hF, hE, hz, hD, hV⟩ := h
  have hm' : m = 9 ∨ m = 11 := by omega
  have r : ∀ (ρ : SG) q, q ≠ 9 → q ≠ 11 → su ρ m d0 v q = ρ q := fun ρ q h1 h2 => su_kf (by omega)
  refine ⟨by rw [r σ 0 (by decide) (by decide)]; exact hA, fun c' hc' => ?_, fun c' hc' hc4 => ?_, fun e q1 q2 => ?_, fun d e q1 q2 q3 => ?_, fun d hd => ?_, fun i hi => ?_⟩
  · have q := hR c' hc'
    unfold RC kOK at q ⊢
    rw [r χ 1 (by decide) (by decide), r χ 2 (by decide) (by decide), r χ 3 (by decide) (by decide), r χ 4 (by decide) (by decide), r χ 6 (by decide) (by decide), r σ 1 (by decide) (by decide), r σ 2 (by decide) (by decide), r σ 3 (by decide) (by decide), r σ 4 (by decide) (by decide), r σ 6 (by decide) (by decide), r σ 7 (by decide) (by decide), wS_5 (r σ 5 (by decide) (by decide)), xW_r (χ := χ) (fun b hb => r χ _ (by unfold rW; omega) (by unfold rW; omega))]
    exact q
  · have q := hF c' hc' hc4
    unfold RF at q ⊢
    rw [r σ 4 (by decide) (by decide), r σ 6 (by decide) (by decide), wS_5 (r σ 5 (by decide) (by decide))]
    exact q
  · have q := hE e q1 q2
    unfold RE hs at q ⊢
    rw [r χ 7 (by decide) (by decide), r χ (rH e) (by unfold rH; omega) (by unfold rH; omega), r σ 7 (by decide) (by decide), r σ 8 (by decide) (by decide)]
    exact q
  · rw [hs_8 (r σ 8 (by decide) (by decide))]
    exact hz d e q1 q2 q3
  · obtain ⟨p1, p2, p3, p4, z, hz, p5⟩ := hD d hd
    unfold RD gre
    rw [r χ 10 (by decide) (by decide), r χ 17 (by decide) (by decide), r σ 10 (by decide) (by decide), gr_8 (r σ 8 (by decide) (by decide))]
    refine ⟨?_, p2, ?_, p4, ?_⟩
    · unfold su
      by_cases q : 9 = m ∧ d = d0
      · rw [if_pos q, if_pos q]
      · rw [if_neg q, if_neg q]; exact p1
    · unfold su
      by_cases q : 11 = m ∧ d = d0
      · rw [if_pos q, if_pos q]
      · rw [if_neg q, if_neg q]; exact p3
    · unfold su
      by_cases q : 9 = m ∧ d = d0
      · rw [if_pos q]
        exact (hm.resolve_right (by omega)).2
      · rw [if_neg q]; exact ⟨z, hz, p5⟩
  · have q := hV i hi
    unfold RV at q ⊢
    rw [r χ 13 (by decide) (by decide), r χ 14 (by decide) (by decide), r χ 15 (by decide) (by decide), r σ 12 (by decide) (by decide), r σ 13 (by decide) (by decide), r σ 14 (by decide) (by decide), r σ 15 (by decide) (by decide)]
    exact q
theorem RI_slot {ν : Nat → Nat} {χ σ : SG} {i0 c d0 : Nat} {day : Int32} (h : RI ν χ σ) (hc : c < ν 0) (hd0 : d0 < 200) : RI ν (su (su (su χ 13 i0 (nI c)) 14 i0 (nI d0)) 15 i0 day) (su (su (su (su σ 12 i0 1) 13 i0 (nI c)) 14 i0 (nI d0)) 15 i0 day) := by
  obtain ⟨hA, hR, hF, hE, hz, hD, hV⟩ := h
  have rx : ∀ q, q < 12 ∨ 15 < q → (su (su (su χ 13 i0 (nI c)) 14 i0 (nI d0)) 15 i0 day) q = χ q := fun q hq => by
    rw [su_kf (by omega), su_kf (by omega), su_kf (by omega)]
  have rs : ∀ q, q < 12 ∨ 15 < q → (su (su (su (su σ 12 i0 1) 13 i0 (nI c)) 14 i0 (nI d0)) 15 i0 day) q = σ q := fun q hq => by
    rw [su_kf (by omega), su_kf (by omega), su_kf (by omega), su_kf (by omega)]
  refine ⟨by rw [rs 0 (by decide)]; exact hA, fun c' hc' => ?_, fun c' hc' hc4 => ?_, fun e q1 q2 => ?_, fun d e q1 q2 q3 => ?_, fun d hd => ?_, fun i hi => ?_⟩
  · have q := hR c' hc'
    unfold RC kOK at q ⊢
    rw [rx 1 (by decide), rx 2 (by decide), rx 3 (by decide), rx 4 (by decide), rx 6 (by decide), rs 1 (by decide), rs 2 (by decide), rs 3 (by decide), rs 4 (by decide), rs 6 (by decide), rs 7 (by decide), wS_5 (rs 5 (by decide)), xW_r (χ := χ) (fun b hb => rx _ (by unfold rW; omega))]
    exact q
  · have q := hF c' hc' hc4
    unfold RF at q ⊢
    rw [rs 4 (by decide), rs 6 (by decide), wS_5 (rs 5 (by decide))]
    exact q
  · have q := hE e q1 q2
    unfold RE hs at q ⊢
    rw [rx 7 (by decide), rx (rH e) (by unfold rH; omega), rs 7 (by decide), rs 8 (by decide)]
    exact q
  · rw [hs_8 (rs 8 (by decide))]
    exact hz d e q1 q2 q3
  · have q := hD d hd
    unfold RD gre at q ⊢
    rw [rx 9 (by decide), rx 10 (by decide), rx 11 (by decide), rx 17 (by decide), rs 9 (by decide), rs 10 (by decide), rs 11 (by decide), gr_8 (rs 8 (by decide))]
    exact q
  · by_cases q : i = i0
    · rw [q]
      have y1 : (su (su (su χ 13 i0 (nI c)) 14 i0 (nI d0)) 15 i0 day) 13 i0 = nI c := by rw [su_k (by decide), su_k (by decide), su_s]
      have y2 : (su (su (su χ 13 i0 (nI c)) 14 i0 (nI d0)) 15 i0 day) 14 i0 = nI d0 := by rw [su_k (by decide), su_s]
      have z0 : (su (su (su (su σ 12 i0 1) 13 i0 (nI c)) 14 i0 (nI d0)) 15 i0 day) 12 i0 = 1 := by rw [su_k (by decide), su_k (by decide), su_k (by decide), su_s]
      have z1 : (su (su (su (su σ 12 i0 1) 13 i0 (nI c)) 14 i0 (nI d0)) 15 i0 day) 13 i0 = nI c := by rw [su_k (by decide), su_k (by decide), su_s]
      have z2 : (su (su (su (su σ 12 i0 1) 13 i0 (nI c)) 14 i0 (nI d0)) 15 i0 day) 14 i0 = nI d0 := by rw [su_k (by decide), su_s]
      unfold RV
      rw [y1, y2, z0, z1, z2, su_s, su_s]
      exact ⟨fun z => absurd z (by decide), fun _ => ⟨rfl, rfl, c, d0, hc, hd0, rfl, rfl⟩, rfl⟩
    · have p := hV i hi
      unfold RV at p ⊢
      have y : ∀ r, (su (su (su χ 13 i0 (nI c)) 14 i0 (nI d0)) 15 i0 day) r i = χ r i := fun r => by rw [su_i q, su_i q, su_i q]
      have z : ∀ r, (su (su (su (su σ 12 i0 1) 13 i0 (nI c)) 14 i0 (nI d0)) 15 i0 day) r i = σ r i := fun r => by rw [su_i q, su_i q, su_i q, su_i q]
      rw [y, y, y, z, z, z, z]
      exact p
theorem RI_init : RI hiN hiX (fun _ _ => 0) := by
  have g0 : ∀ d N, grF (fun _ _ => 0) d N = 0 := fun d N => gr_is (Nat.zero_le N) (Or.inl rfl) (fun _ _ _ => rfl)
  refine ⟨⟨rfl, rfl, by decide, by decide⟩, fun c hc => absurd hc (Nat.not_lt_zero c), fun c _ _ => ⟨rfl, rfl, ?_⟩, fun e h1 h2 => by have : e ≤ 0 := h2; omega, fun _ _ _ _ _ => rfl, fun d hd => ?_, fun i hi => ?_⟩
  · funext b i
    unfold wS
    split <;> rfl
  · unfold RD gre hiX
    rw [g0, if_neg (by omega), if_neg (by omega), if_neg (by omega), if_neg (by omega)]
    exact ⟨rfl, rfl, rfl, rfl, 0, by decide, rfl⟩
  · unfold RV hiX
    rw [if_pos ⟨rfl, hi⟩, if_neg (by omega)]
    exact ⟨fun _ => rfl, fun q => absurd rfl q, rfl⟩
