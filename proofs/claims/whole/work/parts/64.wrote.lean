/-! A write keeps what the two hold. -/
theorem sl_clw {ν : Nat → Nat} {χ τ : SG} {c a n : Nat} {hd v : Int32} {f : Nat → Int32} (hn : n ≤ 40) (hτ : τ 7 = χ 7) (hf : ∀ j, j < n → a + j ≤ ν 1 ∧ f (a + j) = χ 7 (a + j)) (h3 : ∀ ρ, ρ = clw χ τ c hd a n v f 3 → True) : ∀ k, k ≤ n → slS ν χ (clw χ τ c hd a n v f 3) c a k = clw χ τ c hd a n v f (3 + k)
  | 0, _ => rfl
  | k + 1, hk => by
    show ptS (slS ν χ (clw χ τ c hd a n v f 3) c a k) c (1 - xcur χ c) (3 + k) (xcd ν (slS ν χ (clw χ τ c hd a n v f 3) c a k) (a + k)) = ptS (clw χ τ c hd a n v f (3 + k)) c (1 - xcur χ c) (atN n (3 + k)) (vlW hd a v f (atN n (3 + k)))
    rw [sl_clw hn hτ hf h3 k (by omega)]
    have e1 : atN n (3 + k) = 3 + k := if_neg (by omega)
    have e2 : vlW hd a v f (3 + k) = χ 7 (a + k) := by
      unfold vlW
      rw [if_neg (by omega), if_neg (by omega), if_neg (by omega), show a + (3 + k) - 3 = a + k by omega, (hf k (by omega)).2]
    have e3 : xcd ν (clw χ τ c hd a n v f (3 + k)) (a + k) = χ 7 (a + k) := by
      unfold xcd
      rw [if_pos (hf k (by omega)).1, clw_r χ τ c hd a n v f (by unfold rW; omega) (by decide) (by decide), hτ]
    rw [e1, e2, e3]
theorem s5_clw {ν : Nat → Nat} {χ : SG} {c a n : Nat} {v : Int32} {f : Nat → Int32} (hn : n ≤ 40) (hf : ∀ j, j < n → a + j ≤ ν 1 ∧ f (a + j) = χ 7 (a + j)) : s5S ν χ c a n v = clw χ (s0S χ c) c (xhd χ c n) a n v f (n + 4) := by
  have e0 : s3S χ c a n v = clw χ (s0S χ c) c (xhd χ c n) a n v f 3 := by
    have a0 : atN n 0 = 0 := if_neg (by omega)
    have a1 : atN n 1 = 1 := if_neg (by omega)
    have a2 : atN n 2 = 2 := if_neg (by omega)
    show s3S χ c a n v = ptS (ptS (ptS (s0S χ c) c (1 - xcur χ c) (atN n 0) (vlW (xhd χ c n) a v f (atN n 0))) c (1 - xcur χ c) (atN n 1) (vlW (xhd χ c n) a v f (atN n 1))) c (1 - xcur χ c) (atN n 2) (vlW (xhd χ c n) a v f (atN n 2))
    rw [a0, a1, a2]
    rfl
  unfold s5S
  rw [e0, sl_clw hn (by unfold s0S; rw [su_kf (by decide), su_kf (by decide)]) hf (fun _ _ => trivial) n (Nat.le_refl n)]
  show _ = ptS (clw χ (s0S χ c) c (xhd χ c n) a n v f (n + 3)) c (1 - xcur χ c) (atN n (n + 3)) (vlW (xhd χ c n) a v f (atN n (n + 3)))
  have e1 : atN n (n + 3) = 43 := if_pos rfl
  rw [e1, show 3 + n = n + 3 by omega]
  rfl
theorem RI.ne {ν : Nat → Nat} {χ σ : SG} (h : RI ν χ σ) : ν 0 ≤ 600 ∧ ν 1 ≤ 600 := ⟨h.1.2.2.1, h.1.2.2.2⟩
theorem RI_s5 {ν : Nat → Nat} {χ σ : SG} {c a n v : Nat} (h : RI ν χ σ) (hc : c < ν 0) (hn : n ≤ 40) (h0 : n = 0 → a = 0) (h1 : n ≠ 0 → 1 ≤ a ∧ a + n ≤ ν 1 + 1) (hv : v ≤ ν 1) : RI ν (s5S ν χ c a n (nI v)) (wrS σ c a n (nI v)) := by
  have hne := h.ne
  have hC := h.2.1 c hc
  have hE := h.2.2.2.1
  have hf : ∀ j, j < n → a + j ≤ ν 1 ∧ σ 7 (a + j) = χ 7 (a + j) := fun j hj => by
    have := h1 (by omega)
    exact ⟨by omega, (hE (a + j) (by omega) (by omega)).1.symm⟩
  rw [s5_clw (f := σ 7) hn hf]
  unfold wrS
  have on := hC.on
  obtain ⟨ec, ew, -⟩ := on
  obtain ⟨x1, x2, x3, x4, x6, xw, xk, xc, xe⟩ := hC
  have ehd : xhd χ c n = hdI σ c n := by
    unfold xhd hdI xsq sq
    rw [ew 0 (by decide)]
  obtain ⟨L, hL, h16, hK⟩ : ∃ L, L ≤ 50 ∧ s0S χ c 16 c = nI L ∧ min (n + 4) L = min (n + 4) (w0N σ c) := by
    have e16 : s0S χ c 16 c = xkp χ c := by unfold s0S; rw [su_k (by decide), su_s]
    rw [e16]
    unfold xkp w0N
    rw [x3]
    by_cases hz : σ 3 c = -1
    · refine ⟨44, by omega, by rw [if_neg (fun q => q hz)]; rfl, ?_⟩
      rw [if_pos hz]
      omega
    · obtain ⟨k, hk, ek⟩ := xk.resolve_left hz
      refine ⟨k, hk, by rw [if_pos hz]; exact ek, ?_⟩
      rw [if_neg hz, ek, nI_clamp (by omega)]
  obtain ⟨c1, c2, -⟩ := clw_w χ (s0S χ c) c (xhd χ c n) a n (nI v) (σ 7) hn L hL h16 (n + 4) (Nat.le_refl _)
  obtain ⟨w1, w2⟩ := wl_w σ c a n (nI v) hn (min (n + 4) (w0N σ c)) (by omega)
  obtain ⟨v1, v2⟩ := wl_4 σ c a n (nI v) (min (n + 4) (w0N σ c))
  rw [hK] at c1 c2
  have xr := fun {r : Nat} (q1 : r ≠ rW c (1 - xcur χ c)) (q2 : r ≠ 16) (q3 : r ≠ 4) (q4 : r ≠ 3) => (clw_r χ (s0S χ c) c (xhd χ c n) a n (nI v) (σ 7) q1 q2 q3 (n + 4)).trans (show s0S χ c r = χ r by unfold s0S; rw [su_kf q4, su_kf q2])
  have xr4 := fun {c' : Nat} (q : c' ≠ c) => (clw_c χ (s0S χ c) c (xhd χ c n) a n (nI v) (σ 7) q (n + 4)).trans (show s0S χ c 4 c' = χ 4 c' by unfold s0S; rw [su_k (by decide), su_k (by decide)])
  have xr3 := congrFun (clw_r χ (s0S χ c) c (xhd χ c n) a n (nI v) (σ 7) (show 3 ≠ rW c (1 - xcur χ c) by unfold rW; omega) (by decide) (by decide) (n + 4))
  have sr := fun {r : Nat} (q5 : r ≠ 5) (q4 : r ≠ 4) => wl_row σ c a n (nI v) q5 q4 (min (n + 4) (w0N σ c))
  generalize clw χ (s0S χ c) c (xhd χ c n) a n (nI v) (σ 7) (n + 4) = χ' at c1 c2 xr xr4 xr3 ⊢
  generalize wl σ c a n (nI v) (min (n + 4) (w0N σ c)) = τ at w1 w2 v1 v2 sr ⊢
  have tr : ∀ r, r ≠ 3 → su τ 3 c (-1) r = τ r := fun r hr => su_kf hr
  have rw20 : ∀ c b, 20 ≤ rW c b := fun c b => by unfold rW; omega
  have rr := fun {r : Nat} (q : r < 20) => show r ≠ rW c (1 - xcur χ c) from fun z => by have := rw20 c (1 - xcur χ c); omega
  have rl := fun {c' b : Nat} => show rW c' b ≠ 16 ∧ rW c' b ≠ 4 ∧ rW c' b ≠ 3 from ⟨by unfold rW; omega, by unfold rW; omega, by unfold rW; omega⟩
  have s0w : xW (s0S χ c) c = xW χ c := xW_r (fun b hb => by unfold s0S; rw [su_kf (by unfold rW; omega), su_kf (by unfold rW; omega)])
  have xcu := xcur_lt χ c
  obtain ⟨hA, hR, hF, hE, hz, hD, hV⟩ := h
  refine ⟨⟨?_, ?_, hA.2.2⟩, fun c' hc' => ?_, fun c' hc' hc4 => ?_, fun e q1 q2 => ?_, fun d e q1 q2 q3 => ?_, fun d hd => ?_, fun i hi => ?_⟩
  · rw [tr 0 (by decide), sr (by decide) (by decide)]; exact hA.1
  · rw [tr 0 (by decide), sr (by decide) (by decide)]; exact hA.2.1
  · by_cases he : c' = c
    · subst he
      refine ⟨?_, ?_, ?_, ?_, ?_, ?_, Or.inl su_s, ?_, ?_⟩
      · rw [xr (rr (by decide)) (by decide) (by decide) (by decide), tr 1 (by decide), sr (by decide) (by decide)]; exact x1
      · rw [xr (rr (by decide)) (by decide) (by decide) (by decide), tr 2 (by decide), sr (by decide) (by decide)]; exact x2
      · rw [xr3, su_s]; unfold s0S; rw [su_s]
      · rw [c2, tr 4 (by decide), v1, show s0S χ c' 4 c' = χ 4 c' by unfold s0S; rw [su_k (by decide), su_k (by decide)], x4]
      · rw [xr (rr (by decide)) (by decide) (by decide) (by decide), tr 6 (by decide), sr (by decide) (by decide)]; exact x6
      · rw [c1, wS_5 (tr 5 (by decide)), w1, s0w, xw, ec, ehd]
      · rw [wS_5 (tr 5 (by decide)), w1, tr 7 (by decide), sr (by decide) (by decide), ← cuW_eq]
        refine cI_write xc hne.2 (fun e h1 h2 => (hE e h1 h2).2.1) hn hv h0 h1 ?_ (by omega)
        rw [wS_at (cuW_lt _) (by decide), cuW_eq]
        rfl
      · rw [tr 6 (by decide), sr (by decide) (by decide)]; exact xe
    · have q := hR c' hc'
      unfold RC kOK at q ⊢
      rw [xr (rr (by decide)) (by decide) (by decide) (by decide), xr (rr (by decide)) (by decide) (by decide) (by decide), xr3, xr4 he, xr (rr (by decide)) (by decide) (by decide) (by decide), show su τ 3 c (-1) 3 c' = τ 3 c' from su_i he, tr 1 (by decide), sr (by decide) (by decide), tr 2 (by decide), sr (by decide) (by decide), sr (by decide) (by decide), tr 4 (by decide), v2 c' he, tr 6 (by decide), sr (by decide) (by decide), tr 7 (by decide), sr (by decide) (by decide), wS_5 (tr 5 (by decide)), w2 c' he, xW_r (χ := χ) (fun b hb => xr (by unfold rW; omega) rl.1 rl.2.1 rl.2.2), show s0S χ c 3 c' = χ 3 c' by unfold s0S; rw [su_i he, su_k (by decide)]]
      exact q
  · have q := hF c' hc' hc4
    unfold RF at q ⊢
    have he : c' ≠ c := by omega
    rw [tr 4 (by decide), v2 c' he, tr 6 (by decide), sr (by decide) (by decide), wS_5 (tr 5 (by decide)), w2 c' he]
    exact q
  · have q := hE e q1 q2
    unfold RE hs at q ⊢
    rw [xr (rr (by decide)) (by decide) (by decide) (by decide), xr (by unfold rH rW; omega) (by unfold rH; omega) (by unfold rH; omega) (by unfold rH; omega), tr 7 (by decide), sr (by decide) (by decide), tr 8 (by decide), sr (by decide) (by decide)]
    exact q
  · rw [hs_8 (σ := σ) ((tr 8 (by decide)).trans (sr (by decide) (by decide)))]
    exact hz d e q1 q2 q3
  · have q := hD d hd
    unfold RD gre at q ⊢
    rw [xr (rr (by decide)) (by decide) (by decide) (by decide), xr (rr (by decide)) (by decide) (by decide) (by decide), xr (rr (by decide)) (by decide) (by decide) (by decide), xr (rr (by decide)) (by decide) (by decide) (by decide), tr 9 (by decide), sr (by decide) (by decide), tr 10 (by decide), sr (by decide) (by decide), tr 11 (by decide), sr (by decide) (by decide), gr_8 (σ := σ) ((tr 8 (by decide)).trans (sr (by decide) (by decide)))]
    exact q
  · have q := hV i hi
    unfold RV at q ⊢
    rw [xr (rr (by decide)) (by decide) (by decide) (by decide), xr (rr (by decide)) (by decide) (by decide) (by decide), xr (rr (by decide)) (by decide) (by decide) (by decide), tr 12 (by decide), sr (by decide) (by decide), tr 13 (by decide), sr (by decide) (by decide), tr 14 (by decide), sr (by decide) (by decide), tr 15 (by decide), sr (by decide) (by decide)]
    exact q
theorem RI_write {ν : Nat → Nat} {χ σ : SG} {c a n v : Nat} (h : RI ν χ σ) (hc : c < ν 0) (hn : n ≤ 40) (h0 : n = 0 → a = 0) (h1 : n ≠ 0 → 1 ≤ a ∧ a + n ≤ ν 1 + 1) (hv : v ≤ ν 1) : RI ν (stS ν χ c a n (nI v)) (wtS σ c a n (nI v)) := by
  have hne := h.ne
  obtain ⟨-, -, a0, n0, v0, q1, q2, q3, q4, q5, q6, q7, q8, q9, q10, q11⟩ := (h.2.1 c hc).on
  have ba : a < 2 ^ 31 := by
    by_cases hz : n = 0
    · rw [h0 hz]; decide
    · have := h1 hz; omega
  have ba0 : a0 < 2 ^ 31 := by
    by_cases hz : n0 = 0
    · rw [q9 hz]; decide
    · have := q10 hz; omega
  unfold stS wtS xtl tl0
  rw [q4, q2, q6, q3, q5, q7]
  by_cases ht : nI a0 = nI a ∧ nI n0 = nI n ∧ nI v0 = nI v
  · have e1 := (nI_eq ba0 ba).mp ht.1
    have e2 := (nI_eq (by omega) (by omega)).mp ht.2.1
    rw [if_neg (show ¬ (if nI a0 = nI a ∧ nI n0 = nI n ∧ nI v0 = nI v then (1 : Int32) else 0) = 0 by rw [if_pos ht]; decide), if_pos ⟨⟨ht.2.1, ht.1, ht.2.2⟩, fun j hj => by rw [q11 j (by omega), e1]⟩]
    exact h
  · rw [if_pos (show (if nI a0 = nI a ∧ nI n0 = nI n ∧ nI v0 = nI v then (1 : Int32) else 0) = 0 by rw [if_neg ht]), if_neg (fun q => ht ⟨q.1.2.1, q.1.1, q.1.2.2⟩)]
    exact RI_s5 h hc hn h0 h1 hv
