/-! What a write does: the reference's, the class's. -/
theorem wl_row (σ : SG) (c a n : Nat) (v : Int32) {r : Nat} (h5 : r ≠ 5) (h4 : r ≠ 4) : ∀ k, wl σ c a n v k r = σ r
  | 0 => rfl
  | k + 1 => by
    show su (su (wl σ c a n v k) 5 _ _) 4 c _ r = σ r
    rw [su_kf h4, su_kf h5, wl_row σ c a n v h5 h4 k]
theorem wl_4 (σ : SG) (c a n : Nat) (v : Int32) : ∀ k, wl σ c a n v k 4 c = σ 4 c + nI k ∧ ∀ c', c' ≠ c → wl σ c a n v k 4 c' = σ 4 c'
  | 0 => ⟨by show σ 4 c = σ 4 c + nI 0; rw [nI_0]; exact (Int32.add_zero _).symm, fun _ _ => rfl⟩
  | k + 1 => by
    obtain ⟨h1, h2⟩ := wl_4 σ c a n v k
    refine ⟨?_, fun c' hc => ?_⟩
    · show su _ 4 c ((wl σ c a n v k) 4 c + 1) 4 c = _
      rw [su_s, h1, ← nI_1, Int32.add_assoc]
    · show su (su (wl σ c a n v k) 5 _ _) 4 c _ 4 c' = _
      rw [su_i hc, su_k (by decide), h2 c' hc]
theorem vl_eq {σ : SG} {c a n k : Nat} {v : Int32} (hn : n ≤ 40) (hk : k < n + 4) : vlI σ c a n v k = vlW (hdI σ c n) a v (σ 7) (atN n k) := by
  unfold vlI vlW atN
  by_cases h : k = n + 3
  · rw [if_pos (Or.inr h), if_pos h, if_pos (Or.inr rfl)]
  · rw [if_neg h]
    by_cases h0 : k = 0
    · rw [if_pos (Or.inl h0), if_pos (Or.inl h0)]
    · rw [if_neg (fun q => q.elim h0 h), if_neg (show ¬ (k = 0 ∨ k = 43) by omega)]
theorem at_lt {n k : Nat} (hn : n ≤ 40) (hk : k < n + 4) : atN n k < 44 := by
  unfold atN
  split <;> omega
theorem wl_w (σ : SG) (c a n : Nat) (v : Int32) (hn : n ≤ 40) : ∀ k, k ≤ n + 4 → wS (wl σ c a n v k) c = wrW (wS σ c) (1 - cur σ c) (hdI σ c n) a n v (σ 7) k ∧ ∀ c', c' ≠ c → wS (wl σ c a n v k) c' = wS σ c'
  | 0, _ => ⟨(wrW_0 _ _ _ _ _ _ _).symm, fun _ _ => rfl⟩
  | k + 1, hk => by
    obtain ⟨h1, h2⟩ := wl_w σ c a n v hn k (by omega)
    have hb : cur σ c < 2 := by rw [← cuW_eq]; exact cuW_lt _
    have ha := at_lt hn (show k < n + 4 by omega)
    refine ⟨?_, fun c' hc => ?_⟩
    · rw [wrW_s _ _ _ _ _ hn (by omega), ← h1, ← vl_eq hn (by omega)]
      funext b i
      by_cases hq : b < 2 ∧ i < 44
      · rw [wS_at hq.1 hq.2]
        show su (su (wl σ c a n v k) 5 (88 * c + 44 * (1 - cur σ c) + atN n k) (vlI σ c a n v k).toInt16.toInt32) 4 c ((wl σ c a n v k) 4 c + 1) 5 (88 * c + 44 * b + i) = _
        rw [su_k (by decide)]
        by_cases hq2 : b = 1 - cur σ c ∧ i = atN n k
        · rw [if_pos hq2, hq2.1, hq2.2, su_s]
        · rw [if_neg hq2, wS_at hq.1 hq.2, su_i (by omega)]; rfl
      · have e1 : wS (wl σ c a n v (k + 1)) c b i = 0 := if_neg hq
        have e2 : wS (wl σ c a n v k) c b i = 0 := if_neg hq
        rw [e1, if_neg (fun z => hq ⟨by omega, by omega⟩), e2]
    · rw [← h2 c' hc]
      funext b i
      by_cases hq : b < 2 ∧ i < 44
      · rw [wS_at hq.1 hq.2, wS_at hq.1 hq.2]
        show su (su (wl σ c a n v k) 5 (88 * c + 44 * (1 - cur σ c) + atN n k) (vlI σ c a n v k).toInt16.toInt32) 4 c ((wl σ c a n v k) 4 c + 1) 5 (88 * c' + 44 * b + i) = _
        rw [su_k (by decide), su_i (by omega)]; rfl
      · have e1 : wS (wl σ c a n v (k + 1)) c' b i = 0 := if_neg hq
        have e2 : wS (wl σ c a n v k) c' b i = 0 := if_neg hq
        rw [e1, e2]
/-- the class's words of a write, one behind the other -/
def clw (χ τ : SG) (c : Nat) (hd : Int32) (a n : Nat) (v : Int32) (f : Nat → Int32) : Nat → SG
  | 0 => τ
  | k + 1 => ptS (clw χ τ c hd a n v f k) c (1 - xcur χ c) (atN n k) (vlW hd a v f (atN n k))
theorem ptS_r {χ : SG} {c b k r : Nat} {v : Int32} (h1 : r ≠ rW c b) (h2 : r ≠ 16) (h3 : r ≠ 4) : ptS χ c b k v r = χ r := by
  unfold ptS pt1
  split
  · rfl
  · rw [su_kf h3, su_kf h2, su_kf h1]
theorem ptS_c {χ : SG} {c b k c' : Nat} {v : Int32} (hc : c' ≠ c) : ptS χ c b k v 4 c' = χ 4 c' ∧ ptS χ c b k v 16 c' = χ 16 c' := by
  unfold ptS pt1
  split
  · exact ⟨rfl, rfl⟩
  · exact ⟨by rw [su_i hc, su_k (by decide), su_k (by unfold rW; omega)], by rw [su_k (by decide), su_i hc, su_k (by unfold rW; omega)]⟩
theorem clw_r (χ τ : SG) (c : Nat) (hd : Int32) (a n : Nat) (v : Int32) (f : Nat → Int32) {r : Nat} (h1 : r ≠ rW c (1 - xcur χ c)) (h2 : r ≠ 16) (h3 : r ≠ 4) : ∀ k, clw χ τ c hd a n v f k r = τ r
  | 0 => rfl
  | k + 1 => (ptS_r h1 h2 h3).trans (clw_r χ τ c hd a n v f h1 h2 h3 k)
theorem clw_c (χ τ : SG) (c : Nat) (hd : Int32) (a n : Nat) (v : Int32) (f : Nat → Int32) {c' : Nat} (hc : c' ≠ c) : ∀ k, clw χ τ c hd a n v f k 4 c' = τ 4 c'
  | 0 => rfl
  | k + 1 => (ptS_c hc).1.trans (clw_c χ τ c hd a n v f hc k)
theorem clw_w (χ τ : SG) (c : Nat) (hd : Int32) (a n : Nat) (v : Int32) (f : Nat → Int32) (hn : n ≤ 40) (L : Nat) (hL : L ≤ 50) (h16 : τ 16 c = nI L) : ∀ k, k ≤ n + 4 → xW (clw χ τ c hd a n v f k) c = wrW (xW τ c) (1 - xcur χ c) hd a n v f (min k L) ∧ clw χ τ c hd a n v f k 4 c = τ 4 c + nI (min k L) ∧ clw χ τ c hd a n v f k 16 c = nI (L - min k L)
  | 0, _ => by
    refine ⟨?_, ?_, ?_⟩
    · rw [show min 0 L = 0 by omega, wrW_0]; rfl
    · rw [show min 0 L = 0 by omega, nI_0]; exact (Int32.add_zero _).symm
    · rw [show L - min 0 L = L by omega]; exact h16
  | k + 1, hk => by
    obtain ⟨h1, h2, h3⟩ := clw_w χ τ c hd a n v f hn L hL h16 k (by omega)
    have hx := xcur_lt χ c
    have ha := at_lt hn (show k < n + 4 by omega)
    show xW (ptS (clw χ τ c hd a n v f k) c (1 - xcur χ c) (atN n k) (vlW hd a v f (atN n k))) c = _ ∧ ptS (clw χ τ c hd a n v f k) c (1 - xcur χ c) (atN n k) (vlW hd a v f (atN n k)) 4 c = _ ∧ ptS (clw χ τ c hd a n v f k) c (1 - xcur χ c) (atN n k) (vlW hd a v f (atN n k)) 16 c = _
    generalize clw χ τ c hd a n v f k = ρ at h1 h2 h3
    unfold ptS pt1
    by_cases hz : k < L
    · rw [if_neg (show ¬ ρ 16 c ≤ 0 by rw [h3]; exact nI_nle (by omega) (by omega))]
      refine ⟨?_, ?_, ?_⟩
      · rw [show min (k + 1) L = k + 1 by omega, wrW_s _ _ _ _ _ hn (by omega), ← show min k L = k by omega, ← h1, show min k L = k by omega]
        funext b i
        by_cases hq : b < 2 ∧ i < 44
        · rw [xW_at hq.1 hq.2, su_k (by unfold rW; omega), su_k (by unfold rW; omega)]
          by_cases hq2 : b = 1 - xcur χ c ∧ i = atN n k
          · rw [if_pos hq2, hq2.1, hq2.2, su_s]
          · rw [if_neg hq2, xW_at hq.1 hq.2]
            by_cases hb : b = 1 - xcur χ c
            · rw [hb, su_i (fun z => hq2 ⟨hb, z⟩)]
            · rw [su_k (by unfold rW; omega)]
        · have e1 : ∀ ρ : SG, xW ρ c b i = 0 := fun _ => if_neg hq
          rw [e1, e1, if_neg (fun z => hq ⟨by omega, by omega⟩)]
      · rw [su_s, h2, show min (k + 1) L = min k L + 1 by omega, ← nI_1, Int32.add_assoc]
      · rw [su_k (by decide), su_s, h3, show (1 : Int32) = nI 1 from rfl, pk_sub (by omega)]
        congr 1
        omega
    · rw [if_pos (show ρ 16 c ≤ 0 by rw [h3, show L - min k L = 0 by omega]; decide)]
      rw [show min (k + 1) L = min k L by omega]
      exact ⟨h1, h2, h3⟩
