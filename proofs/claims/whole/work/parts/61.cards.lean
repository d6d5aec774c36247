/-! A card's two images, as numbers: which is current, what a write does. -/
abbrev WI : Type := Nat → Nat → Int32
def wS (σ : SG) (c : Nat) : WI := fun b i => if b < 2 ∧ i < 44 then σ 5 (88 * c + 44 * b + i) else 0
def xW (χ : SG) (c : Nat) : WI := fun b i => if b < 2 ∧ i < 44 then χ (rW c b) i else 0
def cuW (w : WI) : Nat := if w 0 0 = w 0 43 ∧ w 1 0 = w 1 43 then (if ¬ ((sqw (w 1 0) - sqw (w 0 0)) &&& 255) ≤ 0 ∧ ¬ 128 ≤ ((sqw (w 1 0) - sqw (w 0 0)) &&& 255) then 1 else 0) else if w 0 0 = w 0 43 then 0 else 1
theorem wS_at {σ : SG} {c b i : Nat} (hb : b < 2) (hi : i < 44) : wS σ c b i = wd σ c b i := if_pos ⟨hb, hi⟩
theorem xW_at {χ : SG} {c b i : Nat} (hb : b < 2) (hi : i < 44) : xW χ c b i = χ (rW c b) i := if_pos ⟨hb, hi⟩
theorem cuW_lt (w : WI) : cuW w < 2 := by
  unfold cuW
  repeat' split
  all_goals omega
theorem cuW_eq (σ : SG) (c : Nat) : cuW (wS σ c) = cur σ c := by
  unfold cuW cur ahd sq
  rw [wS_at (by decide) (by decide), wS_at (by decide) (by decide), wS_at (by decide) (by decide), wS_at (by decide) (by decide)]
  rfl
/-- what holds of a card's images: f are the entries' cards, of which there are ne -/
def cI (w : WI) (f : Nat → Int32) (ne : Nat) : Prop := (w 0 0 = w 0 43 ∨ w 1 0 = w 1 43) ∧ ¬ sqw (w (1 - cuW w) 43) = (sqw (w (cuW w) 0) + 1) &&& 255 ∧ ∃ a n v, n ≤ 40 ∧ w (cuW w) 0 &&& 255 = nI n ∧ w (cuW w) 1 = nI a ∧ w (cuW w) 2 = nI v ∧ v ≤ ne ∧ (n = 0 → a = 0) ∧ (n ≠ 0 → 1 ≤ a ∧ a + n ≤ ne + 1) ∧ ∀ j, j < n → w (cuW w) (3 + j) = f (a + j)
theorem cI_more {w : WI} {f f' : Nat → Int32} {ne ne' : Nat} (h : cI w f ne) (hne : ne ≤ ne') (hf : ∀ e, 1 ≤ e → e ≤ ne → f' e = f e) : cI w f' ne' := by
  obtain ⟨h1, h2, a, n, v, q1, q2, q3, q4, q5, q6, q7, q8⟩ := h
  refine ⟨h1, h2, a, n, v, q1, q2, q3, q4, by omega, q6, fun h => ⟨(q7 h).1, by have := (q7 h).2; omega⟩, fun j hj => ?_⟩
  have := q7 (by omega)
  rw [q8 j hj, hf (a + j) (by omega) (by omega)]
theorem cI_zero (f : Nat → Int32) (ne : Nat) : cI (fun _ _ => 0) f ne := by
  have e : cuW (fun _ _ => 0) = 0 := by decide
  refine ⟨Or.inl rfl, by rw [e]; decide, 0, 0, 0, by omega, rfl, rfl, rfl, by omega, fun _ => rfl, fun h => absurd rfl h, fun j hj => absurd hj (Nat.not_lt_zero j)⟩
/-- the current image is whole -/
theorem cI_whole {w : WI} {f : Nat → Int32} {ne : Nat} (h : cI w f ne) : w (cuW w) 0 = w (cuW w) 43 := by
  rcases h.1 with h1 | h1
  · by_cases h2 : w 1 0 = w 1 43
    · unfold cuW
      rw [if_pos ⟨h1, h2⟩]
      split <;> assumption
    · have e : cuW w = 0 := by unfold cuW; rw [if_neg (fun q => h2 q.2), if_pos h1]
      rw [e]; exact h1
  · by_cases h2 : w 0 0 = w 0 43
    · unfold cuW
      rw [if_pos ⟨h2, h1⟩]
      split <;> assumption
    · have e : cuW w = 1 := by unfold cuW; rw [if_neg (fun q => h2 q.1), if_neg h2]
      rw [e]; exact h1
theorem cu_only {w : WI} {b : Nat} (hb : b < 2) (h1 : w b 0 = w b 43) (h2 : ¬ w (1 - b) 0 = w (1 - b) 43) : cuW w = b := by
  rcases (show b = 0 ∨ b = 1 by omega) with rfl | rfl
  · unfold cuW; rw [if_neg (fun q => h2 q.2), if_pos h1]
  · unfold cuW; rw [if_neg (fun q => h2 q.1), if_neg h2]
theorem cu_next {w : WI} {b s : Nat} (hb : b < 2) (h1 : w b 0 = w b 43) (h2 : w (1 - b) 0 = w (1 - b) 43) (hs : s < 256) (e1 : sqw (w b 0) = nI s) (e2 : sqw (w (1 - b) 0) = nI ((s + 1) % 256)) : cuW w = 1 - b := by
  obtain ⟨-, t1, t2, -⟩ := sq_of hs
  rcases (show b = 0 ∨ b = 1 by omega) with rfl | rfl
  · unfold cuW
    rw [if_pos ⟨h1, h2⟩, e1, e2, t1, if_pos (by decide)]
  · unfold cuW
    rw [if_pos ⟨h2, h1⟩, e1, e2, t2, if_neg (by decide)]
def vlW (hd : Int32) (a : Nat) (v : Int32) (f : Nat → Int32) (i : Nat) : Int32 := if i = 0 ∨ i = 43 then hd else if i = 1 then nI a else if i = 2 then v else f (a + i - 3)
/-- the first K words of a write -/
def wrW (w : WI) (b' : Nat) (hd : Int32) (a n : Nat) (v : Int32) (f : Nat → Int32) (K : Nat) : WI := fun b i => if b = b' ∧ (i = 43 ∨ i < n + 3) ∧ (if i = 43 then n + 3 else i) < K then (vlW hd a v f i).toInt16.toInt32 else w b i
theorem wrW_0 (w : WI) (b' : Nat) (hd : Int32) (a n : Nat) (v : Int32) (f : Nat → Int32) : wrW w b' hd a n v f 0 = w := by
  funext b i
  unfold wrW
  rw [if_neg (fun q => absurd q.2.2 (Nat.not_lt_zero _))]
theorem wrW_s (w : WI) (b' : Nat) (hd : Int32) {a n K : Nat} (v : Int32) (f : Nat → Int32) (hn : n ≤ 40) (hK : K < n + 4) : wrW w b' hd a n v f (K + 1) = fun b i => if b = b' ∧ i = atN n K then (vlW hd a v f (atN n K)).toInt16.toInt32 else wrW w b' hd a n v f K b i := by
  funext b i
  have hat : (atN n K = 43 ∧ K = n + 3) ∨ (atN n K = K ∧ K < n + 3) := by
    unfold atN
    by_cases h : K = n + 3
    · rw [if_pos h]; exact Or.inl ⟨rfl, h⟩
    · rw [if_neg h]; exact Or.inr ⟨rfl, by omega⟩
  by_cases hb : b = b'
  · by_cases hi : i = atN n K
    · rw [if_pos ⟨hb, hi⟩]
      unfold wrW
      rw [if_pos]
      · rw [hi]
      · refine ⟨hb, ?_, ?_⟩
        · omega
        · split <;> omega
    · rw [if_neg (fun q => hi q.2)]
      unfold wrW
      by_cases h : b = b' ∧ (i = 43 ∨ i < n + 3) ∧ (if i = 43 then n + 3 else i) < K
      · rw [if_pos h, if_pos ⟨h.1, h.2.1, by have := h.2.2; omega⟩]
      · rw [if_neg h, if_neg]
        intro q
        refine h ⟨q.1, q.2.1, ?_⟩
        have q1 := q.2.1
        have q2 := q.2.2
        by_cases h43 : i = 43
        · rw [if_pos h43] at q2 ⊢
          omega
        · rw [if_neg h43] at q2 ⊢
          omega
  · rw [if_neg (fun q => hb q.1)]
    unfold wrW
    rw [if_neg (fun q => hb q.1), if_neg (fun q => hb q.1)]
theorem wrW_o {w : WI} {b' b : Nat} {hd : Int32} {a n K : Nat} {v : Int32} {f : Nat → Int32} (h : b ≠ b') : wrW w b' hd a n v f K b = w b := by
  funext i
  unfold wrW
  rw [if_neg (fun q => h q.1)]
theorem wrW_in {w : WI} {b' i : Nat} {hd : Int32} {a n K : Nat} {v : Int32} {f : Nat → Int32} (h1 : i = 43 ∨ i < n + 3) (h2 : (if i = 43 then n + 3 else i) < K) : wrW w b' hd a n v f K b' i = (vlW hd a v f i).toInt16.toInt32 := if_pos ⟨rfl, h1, h2⟩
theorem cI_write {w : WI} {f : Nat → Int32} {ne a n v K : Nat} {hd : Int32} (h : cI w f ne) (hne : ne ≤ 600) (hf : ∀ e, 1 ≤ e → e ≤ ne → ∃ k, k < 600 ∧ f e = nI k) (hn : n ≤ 40) (hv : v ≤ ne) (ha0 : n = 0 → a = 0) (ha1 : n ≠ 0 → 1 ≤ a ∧ a + n ≤ ne + 1) (hhd : hd = 256 * ((sqw (w (cuW w) 0) + 1) &&& 255) + nI n) (hK : K ≤ n + 4) : cI (wrW w (1 - cuW w) hd a n (nI v) f K) f ne := by
  have hb := cuW_lt w
  have hwh := cI_whole h
  obtain ⟨s, hs, es⟩ := and255 (w (cuW w) 0 >>> ((8 : Int32) &&& 31))
  have es : sqw (w (cuW w) 0) = nI s := es
  obtain ⟨t0, -, -, t3⟩ := sq_of hs
  rw [es, t0] at hhd
  have hs' : (s + 1) % 256 < 256 := Nat.mod_lt _ (by decide)
  have h16 : hd.toInt16.toInt32 = hd16 ((s + 1) % 256) n := by rw [hhd]; rfl
  obtain ⟨g1, g2⟩ := hd_sq hs' hn
  have ob : ∀ i, wrW w (1 - cuW w) hd a n (nI v) f K (cuW w) i = w (cuW w) i := fun i => congrFun (wrW_o (by omega)) i
  have e0 : 1 - (1 - cuW w) = cuW w := by omega
  rcases Nat.lt_or_ge K (n + 4) with hK4 | hK4
  · -- torn: the current image stays
    have ot : wrW w (1 - cuW w) hd a n (nI v) f K (1 - cuW w) 43 = w (1 - cuW w) 43 := by
      unfold wrW
      rw [if_neg (fun q => by have := q.2.2; rw [if_pos rfl] at this; omega)]
    have ec : cuW (wrW w (1 - cuW w) hd a n (nI v) f K) = cuW w := by
      rcases Nat.eq_zero_or_pos K with hz | hz
      · rw [hz, wrW_0]
      · refine cu_only hb ?_ ?_
        · rw [ob, ob]; exact hwh
        · rw [ot, wrW_in (Or.inr (by omega)) (by rw [if_neg (by decide)]; exact hz)]
          intro q
          have e1 : (vlW hd a (nI v) f 0).toInt16.toInt32 = hd16 ((s + 1) % 256) n := h16
          rw [e1] at q
          refine h.2.1 ?_
          rw [← q, g1, es, t0]
    refine ⟨?_, ?_, ?_⟩
    · have : wrW w (1 - cuW w) hd a n (nI v) f K (cuW w) 0 = wrW w (1 - cuW w) hd a n (nI v) f K (cuW w) 43 := by rw [ob, ob]; exact hwh
      rcases (show cuW w = 0 ∨ cuW w = 1 by omega) with hc | hc <;> rw [hc] at this ⊢
      · exact Or.inl this
      · exact Or.inr this
    · rw [ec, ot, ob]; exact h.2.1
    · rw [ec]
      obtain ⟨a0, n0, v0, q1, q2, q3, q4, q5, q6, q7, q8⟩ := h.2.2
      exact ⟨a0, n0, v0, q1, by rw [ob]; exact q2, by rw [ob]; exact q3, by rw [ob]; exact q4, q5, q6, q7, fun j hj => by rw [ob]; exact q8 j hj⟩
  · obtain rfl : K = n + 4 := by omega
    have wi : ∀ i, (i = 43 ∨ i < n + 3) → wrW w (1 - cuW w) hd a n (nI v) f (n + 4) (1 - cuW w) i = (vlW hd a (nI v) f i).toInt16.toInt32 := fun i hi => wrW_in hi (by split <;> omega)
    have w0 : wrW w (1 - cuW w) hd a n (nI v) f (n + 4) (1 - cuW w) 0 = hd16 ((s + 1) % 256) n := (wi 0 (Or.inr (by omega))).trans h16
    have w43 : wrW w (1 - cuW w) hd a n (nI v) f (n + 4) (1 - cuW w) 43 = hd16 ((s + 1) % 256) n := (wi 43 (Or.inl rfl)).trans h16
    have ec : cuW (wrW w (1 - cuW w) hd a n (nI v) f (n + 4)) = 1 - cuW w := cu_next hb (by rw [ob, ob]; exact hwh) (by rw [w0, w43]) hs (by rw [ob]; exact es) (by rw [w0]; exact g1)
    have ale : a ≤ 601 := by
      by_cases hz : n = 0
      · have := ha0 hz; omega
      · have := ha1 hz; omega
    refine ⟨?_, ?_, a, n, v, hn, ?_, ?_, ?_, hv, ha0, ha1, ?_⟩
    · have : wrW w (1 - cuW w) hd a n (nI v) f (n + 4) (cuW w) 0 = wrW w (1 - cuW w) hd a n (nI v) f (n + 4) (cuW w) 43 := by rw [ob, ob]; exact hwh
      rcases (show cuW w = 0 ∨ cuW w = 1 by omega) with hc | hc <;> rw [hc] at this ⊢
      · exact Or.inl this
      · exact Or.inr this
    · rw [ec, e0, w0, g1, ob, ← hwh, es]
      exact t3
    · rw [ec, w0]; exact g2
    · rw [ec, wi 1 (Or.inr (by omega))]
      exact i16_of (by omega)
    · rw [ec, wi 2 (Or.inr (by omega))]
      exact i16_of (by omega)
    · intro j hj
      have h1 := ha1 (by omega)
      rw [ec, wi (3 + j) (Or.inr (by omega))]
      obtain ⟨k, hk, ek⟩ := hf (a + j) (by omega) (by omega)
      have e1 : vlW hd a (nI v) f (3 + j) = f (a + j) := by
        unfold vlW
        rw [if_neg (by omega), if_neg (by omega), if_neg (by omega), show a + (3 + j) - 3 = a + j by omega]
      rw [e1, ek]
      exact i16_of (by omega)
