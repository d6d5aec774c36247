/-! A visit: what the door takes, how it judges, what it passes on. -/
theorem gr_in (σ : SG) (d : Nat) : ∀ N, grF σ d N ≤ N ∧ (grF σ d N = 0 ∨ ¬ hs σ d (grF σ d N) = 0) ∧ ∀ e, grF σ d N < e → e ≤ N → hs σ d e = 0
  | 0 => ⟨Nat.le_refl 0, Or.inl rfl, fun e h1 h2 => absurd h1 (by show ¬ 0 < e; omega)⟩
  | N + 1 => by
    obtain ⟨h1, h2, h3⟩ := gr_in σ d N
    show (if hs σ d (N + 1) = 0 then grF σ d N else N + 1) ≤ N + 1 ∧ ((if hs σ d (N + 1) = 0 then grF σ d N else N + 1) = 0 ∨ ¬ hs σ d (if hs σ d (N + 1) = 0 then grF σ d N else N + 1) = 0) ∧ ∀ e, (if hs σ d (N + 1) = 0 then grF σ d N else N + 1) < e → e ≤ N + 1 → hs σ d e = 0
    by_cases hz : hs σ d (N + 1) = 0
    · rw [if_pos hz]
      refine ⟨by omega, h2, fun e q1 q2 => ?_⟩
      rcases Nat.lt_or_ge N e with q | q
      · rw [show e = N + 1 by omega]; exact hz
      · exact h3 e q1 q
    · rw [if_neg hz]
      exact ⟨Nat.le_refl _, Or.inr hz, fun e q1 q2 => by omega⟩
theorem gr_is {σ : SG} {d N q : Nat} (h1 : q ≤ N) (h2 : q = 0 ∨ ¬ hs σ d q = 0) (h3 : ∀ e, q < e → e ≤ N → hs σ d e = 0) : grF σ d N = q := by
  obtain ⟨g1, g2, g3⟩ := gr_in σ d N
  rcases Nat.lt_trichotomy (grF σ d N) q with h | h | h
  · exact absurd (g3 q h h1) (h2.resolve_left (by omega))
  · exact h
  · exact absurd (h3 _ h g1) (g2.resolve_left (by omega))
theorem gr_ext {σ σ' : SG} {d N : Nat} (h : ∀ e, 1 ≤ e → e ≤ N → hs σ' d e = hs σ d e) : grF σ' d N = grF σ d N := by
  obtain ⟨g1, g2, g3⟩ := gr_in σ d N
  refine gr_is g1 ?_ (fun e q1 q2 => by rw [h e (by omega) q2]; exact g3 e q1 q2)
  rcases Nat.eq_zero_or_pos (grF σ d N) with q | q
  · exact Or.inl q
  · exact Or.inr (by rw [h _ q g1]; exact g2.resolve_left (by omega))
theorem RI.gre_le {ν : Nat → Nat} {χ σ : SG} (h : RI ν χ σ) {d : Nat} (hd : d < 200) : gre σ d ≤ ν 1 := by
  obtain ⟨g1, g2, g3⟩ := gr_in σ d 3000
  unfold gre
  rcases Nat.lt_or_ge (ν 1) (grF σ d 3000) with q | q
  · exact absurd (h.2.2.2.2.1 d _ hd g1 (fun z => by omega)) (g2.resolve_left (by omega))
  · exact q
theorem rH_r {r e : Nat} (h : r < 20 ∨ r % 2 = 0) : r ≠ rH e := by unfold rH; omega
theorem tkX_q {ν : Nat → Nat} {χ : SG} {d a r : Nat} (h : r < 20 ∨ r % 2 = 0) : ∀ k, tkX ν χ d a k r = χ r
  | 0 => rfl
  | k + 1 => by
    show bgS ν (tkX ν χ d a k) d (a + k) r = χ r
    unfold bgS
    split
    · rw [su_kf (rH_r h), tkX_q h k]
    · exact tkX_q h k
theorem tkX_hh {ν : Nat → Nat} {χ : SG} {d a : Nat} (h1 : 1 ≤ a) : ∀ k, a + k ≤ ν 1 + 1 → ∀ e d', tkX ν χ d a k (rH e) d' = if d' = d ∧ a ≤ e ∧ e < a + k then 1 else χ (rH e) d'
  | 0, _, e, d' => by rw [if_neg (by omega)]; rfl
  | k + 1, h, e, d' => by
    show bgS ν (tkX ν χ d a k) d (a + k) (rH e) d' = _
    unfold bgS
    rw [if_pos ⟨by omega, by omega⟩]
    by_cases hq : d' = d ∧ e = a + k
    · rw [hq.1, hq.2, su_s, if_pos ⟨rfl, by omega, by omega⟩]
    · have e0 : su (tkX ν χ d a k) (rH (a + k)) d 1 (rH e) d' = tkX ν χ d a k (rH e) d' := by
        by_cases hd : d' = d
        · exact su_k (by unfold rH; omega)
        · exact su_i hd
      rw [e0, tkX_hh h1 k (by omega)]
      by_cases hz : d' = d ∧ a ≤ e ∧ e < a + k
      · rw [if_pos hz, if_pos ⟨hz.1, hz.2.1, by omega⟩]
      · rw [if_neg hz, if_neg (fun q => hz ⟨q.1, q.2.1, by omega⟩)]
theorem tkS_q {σ : SG} {d a r : Nat} (h : r ≠ 8) : ∀ k, tkS σ d a k r = σ r
  | 0 => rfl
  | k + 1 => by
    show su (tkS σ d a k) 8 _ 1 r = σ r
    rw [su_kf h, tkS_q h k]
theorem tkS_hh {σ : SG} {d a : Nat} : ∀ k, a + k ≤ 3001 → ∀ e d', e ≤ 3000 → hs (tkS σ d a k) d' e = if d' = d ∧ a ≤ e ∧ e < a + k then 1 else hs σ d' e
  | 0, _, e, d', _ => by rw [if_neg (by omega)]; rfl
  | k + 1, h, e, d', he => by
    show su (tkS σ d a k) 8 (3001 * d + a + k) 1 8 (3001 * d' + e) = _
    by_cases hq : d' = d ∧ e = a + k
    · rw [hq.1, hq.2, show 3001 * d + a + k = 3001 * d + (a + k) by omega, su_s, if_pos ⟨rfl, by omega, by omega⟩]
    · rw [su_i (by omega)]
      have := tkS_hh (σ := σ) (d := d) (a := a) k (by omega) e d' he
      unfold hs at this ⊢
      rw [this]
      by_cases hz : d' = d ∧ a ≤ e ∧ e < a + k
      · rw [if_pos hz, if_pos ⟨hz.1, hz.2.1, by omega⟩]
      · rw [if_neg hz, if_neg (fun q => hz ⟨q.1, q.2.1, by omega⟩)]
theorem mx_eq (x y : Int32) : mxJ y x = mxI x y := by
  unfold mxJ mxI
  by_cases h : x ≤ y
  · rw [if_pos h, if_neg (Int32.not_lt.mpr h)]
  · rw [if_neg h, if_pos (Int32.not_le.mp h)]
theorem mxJ_n {p q : Nat} (hp : p < 2 ^ 31) (hq : q < 2 ^ 31) : mxJ (nI p) (nI q) = nI (if p < q then q else p) := by
  unfold mxJ
  by_cases h : p < q
  · rw [if_pos (nI_lt h hq), if_pos h]
  · rw [if_neg (nI_nlt (by omega) hp), if_neg h]
def ggN (g0 a n : Nat) : Nat := if n = 0 then g0 else if g0 < a + n - 1 then a + n - 1 else g0
theorem RI_take {ν : Nat → Nat} {χ σ : SG} {c d a n v b : Nat} (h : RI ν χ σ) (hd : d < 200) (h0 : n = 0 → a = 0) (h1 : n ≠ 0 → 1 ≤ a ∧ a + n ≤ ν 1 + 1) (ev : χ (rW c b) 2 = nI v) (es : seI σ c = nI v) : RI ν (tkE ν χ c b d a n) (v1S σ c d a n) ∧ gre (v1S σ c d a n) d = ggN (gre σ d) a n := by
  have hne := h.ne
  have hg := h.gre_le hd
  have h3 : a + n ≤ 3001 := by
    by_cases hz : n = 0
    · have := h0 hz; omega
    · have := h1 hz; omega
  unfold tkE v1S
  rw [ev, es, mx_eq]
  -- rows of the class
  have t1r : ∀ r, (r < 20 ∨ r % 2 = 0) → r ≠ 17 → tk1 ν χ d a n r = χ r := fun r q1 q2 => by
    unfold tk1
    split
    · exact tkX_q q1 n
    · rw [su_kf q2]; exact tkX_q q1 n
  have t1h : ∀ e d', tk1 ν χ d a n (rH e) d' = if d' = d ∧ a ≤ e ∧ e < a + n then 1 else χ (rH e) d' := fun e d' => by
    unfold tk1
    by_cases hz : n = 0
    · rw [if_pos hz, hz, if_neg (by omega)]
      rfl
    · rw [if_neg hz, su_k (by unfold rH; omega)]
      exact tkX_hh (h1 hz).1 n (h1 hz).2 e d'
  have x17 : ∀ d', tk1 ν χ d a n 17 d' = if d' = d then nI (ggN (gre σ d) a n) else χ 17 d' := fun d' => by
    unfold tk1 ggN
    have hD := (h.2.2.2.2.2.1 d hd).2.2.2.1
    by_cases hz : n = 0
    · rw [if_pos hz, if_pos hz, tkX_q (by decide)]
      by_cases q : d' = d
      · rw [if_pos q, q, hD]
      · rw [if_neg q]
    · rw [if_neg hz, if_neg hz, hD, mxJ_n (by omega) (by have := h1 hz; omega)]
      by_cases q : d' = d
      · rw [if_pos q, q, su_s]
      · rw [if_neg q, su_i q, tkX_q (by decide)]
  -- rows of the reference
  have s0 : ∀ r, r ≠ 8 → r ≠ 10 → tkS (su σ 10 d 1) d a n r = σ r := fun r q1 q2 => by rw [tkS_q q1, su_kf q2]
  have s10 : tkS (su σ 10 d 1) d a n 10 = su σ 10 d 1 10 := tkS_q (by decide) n
  have s8 : ∀ e d', e ≤ 3000 → hs (tkS (su σ 10 d 1) d a n) d' e = if d' = d ∧ a ≤ e ∧ e < a + n then 1 else hs σ d' e := fun e d' he => by
    rw [tkS_hh n h3 e d' he, hs_8 (su_kf (by decide))]
  generalize tk1 ν χ d a n = χ1 at t1r t1h x17 ⊢
  generalize tkS (su σ 10 d 1) d a n = σ1 at s0 s10 s8 ⊢
  have hsE : ∀ d' e, hs (su σ1 11 d (mxI (nI v) (σ 11 d))) d' e = hs σ1 d' e := fun d' e => hs_8 (su_kf (by decide)) d' e
  obtain ⟨hA, hR, hF, hE, hz, hD, hV⟩ := h
  have gd : ∀ d', d' < 200 → d' ≠ d → gre (su σ1 11 d (mxI (nI v) (σ 11 d))) d' = gre σ d' := fun d' _ q => by
    unfold gre
    exact gr_ext (fun e _ he => by rw [hsE, s8 e d' he, if_neg (fun z => q z.1)])
  have gd0 : gre (su σ1 11 d (mxI (nI v) (σ 11 d))) d = ggN (gre σ d) a n := by
    obtain ⟨g1, g2, g3⟩ := gr_in σ d 3000
    unfold ggN
    show grF _ d 3000 = _
    by_cases hz : n = 0
    · rw [if_pos hz]
      exact gr_ext (fun e _ he => by rw [hsE, s8 e d he, if_neg (fun z => by omega)])
    · have q1 := h1 hz
      rw [if_neg hz]
      have : gre σ d = grF σ d 3000 := rfl
      by_cases q : gre σ d < a + n - 1
      · rw [if_pos q]
        refine gr_is (by omega) (Or.inr ?_) (fun e w1 w2 => ?_)
        · rw [hsE, s8 _ d (by omega), if_pos ⟨rfl, by omega, by omega⟩]; decide
        · rw [hsE, s8 _ d w2, if_neg (fun z => by omega)]
          exact g3 e (by omega) w2
      · rw [if_neg q]
        refine gr_is g1 (Or.inr ?_) (fun e w1 w2 => ?_)
        · rw [hsE, this, s8 _ d g1]
          split
          · decide
          · exact g2.resolve_left (by omega)
        · rw [hsE, s8 _ d w2, if_neg (fun z => by omega)]
          exact g3 e (by omega) w2
  refine ⟨⟨⟨?_, ?_, hA.2.2⟩, fun c' hc' => ?_, fun c' hc' hc4 => ?_, fun e q1 q2 => ?_, fun d' e q1 q2 q3 => ?_, fun d' hd' => ?_, fun i hi => ?_⟩, gd0⟩
  · rw [su_k (by decide), s0 0 (by decide) (by decide)]; exact hA.1
  · rw [su_k (by decide), s0 0 (by decide) (by decide)]; exact hA.2.1
  · have q := hR c' hc'
    unfold RC kOK at q ⊢
    rw [xW_r (χ := χ) (fun b hb => by rw [su_kf (by unfold rW; omega), su_kf (by unfold rW; omega)]; exact t1r _ (Or.inr (by unfold rW; omega)) (by unfold rW; omega)), su_k (by decide), su_k (by decide), su_k (by decide), su_k (by decide), su_k (by decide), su_k (by decide), su_k (by decide), su_k (by decide), su_k (by decide), su_k (by decide), su_k (by decide), su_k (by decide), su_k (by decide), su_k (by decide), su_k (by decide), su_kf (by decide), wS_5 (σ := σ1) (su_kf (by decide)), wS_5 (σ := σ) (s0 5 (by decide) (by decide)), t1r 1 (by decide) (by decide), t1r 2 (by decide) (by decide), t1r 3 (by decide) (by decide), t1r 4 (by decide) (by decide), t1r 6 (by decide) (by decide), s0 1 (by decide) (by decide), s0 2 (by decide) (by decide), s0 3 (by decide) (by decide), s0 4 (by decide) (by decide), s0 6 (by decide) (by decide), s0 7 (by decide) (by decide)]
    exact q
  · have q := hF c' hc' hc4
    unfold RF at q ⊢
    rw [su_k (by decide), su_k (by decide), wS_5 (σ := σ1) (su_kf (by decide)), wS_5 (σ := σ) (s0 5 (by decide) (by decide)), s0 4 (by decide) (by decide), s0 6 (by decide) (by decide)]
    exact q
  · obtain ⟨p1, p2, p3⟩ := hE e q1 q2
    refine ⟨?_, ?_, fun d' hd' => ?_⟩
    · rw [su_k (by decide), su_k (by decide), su_k (by decide), t1r 7 (by decide) (by decide), s0 7 (by decide) (by decide)]; exact p1
    · rw [su_k (by decide), s0 7 (by decide) (by decide)]; exact p2
    · rw [su_k (by unfold rH; omega), su_k (by unfold rH; omega), t1h, hsE, s8 e d' (by omega), p3 d' hd']
  · rw [hsE, s8 e d' q2, if_neg (fun z => q3 (by have := h1 (by omega); omega))]
    exact hz d' e q1 q2 q3
  · obtain ⟨p1, p2, p3, p4, p5⟩ := hD d' hd'
    refine ⟨?_, ?_, ?_, ?_, ?_⟩
    · rw [su_k (by decide), su_k (by decide), su_k (by decide), t1r 9 (by decide) (by decide), s0 9 (by decide) (by decide)]; exact p1
    · rw [su_k (k' := 10) (k := 11) (by decide), s10]
      by_cases q : d' = d
      · rw [q, su_s, su_s]
      · rw [su_i q, su_i q, su_i q, t1r 10 (by decide) (by decide)]; exact p2
    · rw [su_k (by decide)]
      by_cases q : d' = d
      · rw [q, su_s, su_s, ← (hD d hd).2.2.1]
      · rw [su_i q, su_i q, t1r 11 (by decide) (by decide), s0 11 (by decide) (by decide)]; exact p3
    · rw [su_k (by decide), su_k (by decide), x17]
      by_cases q : d' = d
      · rw [if_pos q, q, gd0]
      · rw [if_neg q, gd d' hd' q]; exact p4
    · rw [su_k (by decide), s0 9 (by decide) (by decide)]; exact p5
  · have q := hV i hi
    unfold RV at q ⊢
    rw [su_k (by decide), su_k (by decide), su_k (by decide), su_k (by decide), su_k (by decide), su_k (by decide), su_k (by decide), su_k (by decide), su_k (by decide), su_k (by decide), t1r 13 (by decide) (by decide), t1r 14 (by decide) (by decide), t1r 15 (by decide) (by decide), s0 12 (by decide) (by decide), s0 13 (by decide) (by decide), s0 14 (by decide) (by decide), s0 15 (by decide) (by decide)]
    exact q
