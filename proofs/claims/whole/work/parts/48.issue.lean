/-! The class's world grows: a card is issued, an entry is made. -/
theorem HW.ext {g : GG} {α α' : AL3} {ν ν' : Nat → Nat} {χ χ' : SG} {M M' : MW} {sz : Nat} (hW : HW g α ν χ M) (S : Nat → Nat → Nat → Prop) (hlt : ∀ k i j, vr ν k i j → α k i j < sz)
    (hold : ∀ k i j, vr ν' k i j → ¬ S k i j → vr ν k i j ∧ α' k i j = α k i j) (hnew : ∀ k i j, vr ν' k i j → S k i j → sz ≤ α' k i j)
    (hinj : ∀ k i j k' i' j', vr ν' k i j → vr ν' k' i' j' → S k i j → S k' i' j' → α' k i j = α' k' i' j' → k = k' ∧ i = i' ∧ j = j')
    (hc : ∀ k i j, vr ν' k i j → M' (α' k i j) = some (cel g α' ν' χ' k i j)) : HW g α' ν' χ' M' := by
  refine ⟨hc, fun k i j k' i' j' h1 h2 he => ?_⟩
  by_cases s1 : S k i j
  · by_cases s2 : S k' i' j'
    · exact hinj k i j k' i' j' h1 h2 s1 s2 he
    · obtain ⟨v2, e2⟩ := hold k' i' j' h2 s2
      have := hnew k i j h1 s1
      have := hlt k' i' j' v2
      omega
  · obtain ⟨v1, e1⟩ := hold k i j h1 s1
    by_cases s2 : S k' i' j'
    · have := hnew k' i' j' h2 s2
      have := hlt k i j v1
      omega
    · obtain ⟨v2, e2⟩ := hold k' i' j' h2 s2
      exact hW.2 k i j k' i' j' v1 v2 (by rw [← e1, ← e2]; exact he)
def LD (α : AL3) (ν : Nat → Nat) (de : Nat) : Prop := (ν 2 = 0 → ν 0 = 0 ∧ α 0 2 0 = de) ∧ (ν 3 = 0 → ν 1 = 0 ∧ α 0 5 0 = de)
def isA (α : AL3) (c a i0 w0 i1 w1 r : Nat) : AL3 := fun k i j => if k = 0 ∧ i = 2 then r else if k = 1 ∧ i = c then a else if k = 2 ∧ i = c then (if j = 0 then i0 else i1) else if k = 3 ∧ i = c then (if j = 0 then w0 else w1) else α k i j
def isN (ν : Nat → Nat) (cap : Nat) : Nat → Nat := fun k => if k = 0 then ν 0 + 1 else if k = 2 then cap else ν k
def isX (χ : SG) (c : Nat) (z e : Int32) : SG := fun r k => if r = 0 then (if k = 3 then χ 0 3 + 1 else χ 0 k) else if r = rW c 0 ∨ r = rW c 1 then 0 else if k = c then (if r = 1 then z else if r = 2 then e else if r = 6 ∨ r = 16 ∨ r = 4 then 0 else if r = 3 then -1 else χ r k) else χ r k
theorem isX_k {χ : SG} {c r k : Nat} {z e : Int32} (h0 : r ≠ 0) (h1 : r ≠ rW c 0) (h2 : r ≠ rW c 1) (h3 : k ≠ c) : isX χ c z e r k = χ r k := by
  unfold isX
  rw [if_neg h0, if_neg (fun q => q.elim h1 h2), if_neg h3]
theorem isX_r {χ : SG} {c r : Nat} {z e : Int32} (h0 : r ≠ 0) (h1 : r ≠ rW c 0) (h2 : r ≠ rW c 1) (h3 : r ≠ 1) (h4 : r ≠ 2) (h5 : r ≠ 6) (h6 : r ≠ 16) (h7 : r ≠ 4) (h8 : r ≠ 3) : isX χ c z e r = χ r := by
  funext k
  unfold isX
  rw [if_neg h0, if_neg (fun q => q.elim h1 h2)]
  by_cases h : k = c
  · rw [if_pos h, if_neg h3, if_neg h4, if_neg (fun q => q.elim h5 (fun q => q.elim h6 h7)), if_neg h8]
  · rw [if_neg h]
theorem isX_w {χ : SG} {c b : Nat} {z e : Int32} (hb : b < 2) : isX χ c z e (rW c b) = fun _ => 0 := by
  funext k
  unfold isX
  rw [if_neg (by unfold rW; omega), if_pos]
  rcases (show b = 0 ∨ b = 1 by omega) with rfl | rfl
  · exact Or.inl rfl
  · exact Or.inr rfl
theorem hw_issue {g : GG} {α : AL3} {ν : Nat → Nat} {χ : SG} {M M' : MW} {sz a i0 w0 i1 w1 r cap : Nat} {z e : Int32} (hW : HW g α ν χ M) (hlt : ∀ k i j, vr ν k i j → α k i j < sz) (h0 : sz ≤ a) (h1 : a < i0) (h2 : i0 < w0) (h3 : w0 < i1) (h4 : i1 < w1) (hr : (r = α 0 2 0 ∧ 0 < ν 2) ∨ w1 < r) (hcap : 0 < cap)
    (ma : M' a = some (.inr (1, [.int z, .int e, .ref i0, .ref i1, .int 0, .int (-1), .int 0, .int 0]))) (mi0 : M' i0 = some (.inr (5, [.ref w0]))) (mw0 : M' w0 = some (.inl (g.2 1, 44, .inl (fun _ => 0)))) (mi1 : M' i1 = some (.inr (5, [.ref w1]))) (mw1 : M' w1 = some (.inl (g.2 1, 44, .inl (fun _ => 0))))
    (mr : M' r = some (.inl (g.2 5, cap, .inr (.inr (.inr (.inr (fun q => if q < ν 0 + 1 then some (if q = ν 0 then a else α 1 q 0) else none))))))) (mal : M' (α 0 1 0) = some (.inr (0, [.ref r, .int (nI (ν 0 + 1)), .int (χ 0 3 + 1)]))) (hde : ν 2 = 0 → M (α 0 2 0) = none) (hf : ∀ q, q < sz → q ≠ α 0 1 0 → q ≠ α 0 2 0 → M' q = M q) : HW g (isA α (ν 0) a i0 w0 i1 w1 r) (isN ν cap) (isX χ (ν 0) z e) M' := by
  have v01 : vr ν 0 1 0 := v_0 (by decide) (by decide) (by decide)
  have keep : ∀ k i j, vr ν k i j → ¬ (k = 0 ∧ i = 1) → ¬ (k = 0 ∧ i = 2) → M' (α k i j) = some (cel g α ν χ k i j) := by
    intro k i j hv n1 n2
    rw [hf _ (hlt k i j hv) (fun q => n1 ⟨(hW.2 _ _ _ _ _ _ hv v01 q).1, (hW.2 _ _ _ _ _ _ hv v01 q).2.1⟩) (fun q => ?_)]
    · exact hW.1 k i j hv
    · by_cases h9 : 0 < ν 2
      · exact n2 ⟨(hW.2 _ _ _ _ _ _ hv (v_02 h9) q).1, (hW.2 _ _ _ _ _ _ hv (v_02 h9) q).2.1⟩
      · have h8 := hde (by omega)
        rw [← q, hW.1 k i j hv] at h8
        cases h8
  refine hW.ext (fun k i j => (k = 1 ∧ i = ν 0) ∨ (k = 2 ∧ i = ν 0) ∨ (k = 3 ∧ i = ν 0) ∨ (k = 0 ∧ i = 2 ∧ w1 < r)) hlt ?_ ?_ ?_ ?_
  · intro k i j hv hs
    rcases hv with ⟨rfl, h9, rfl, ha, hb⟩ | ⟨rfl, h9, rfl⟩ | ⟨hk, h9, h8⟩ | ⟨hk, h8, h9, rfl⟩ | ⟨rfl, h9, rfl⟩
    · by_cases hi : i = 2
      · subst hi
        rcases hr with ⟨rfl, hp⟩ | hr
        · exact ⟨v_02 hp, rfl⟩
        · exact absurd (Or.inr (Or.inr (Or.inr ⟨rfl, rfl, hr⟩))) hs
      · exact ⟨Or.inl ⟨rfl, h9, rfl, fun q => absurd q hi, hb⟩, by simp [isA, hi]⟩
    · have h8 : i ≠ ν 0 := fun q => hs (Or.inl ⟨rfl, q⟩)
      have h9 : i < ν 0 + 1 := h9
      exact ⟨v_card (by omega), by simp [isA, h8]⟩
    · have h7 : i ≠ ν 0 := fun q => hs (by rcases hk with rfl | rfl; exact Or.inr (Or.inl ⟨rfl, q⟩); exact Or.inr (Or.inr (Or.inl ⟨rfl, q⟩)))
      have h9 : i < ν 0 + 1 := h9
      exact ⟨Or.inr (Or.inr (Or.inl ⟨hk, by omega, h8⟩)), by simp [isA, h7]; intro q; rcases hk with hk | hk <;> omega⟩
    · exact ⟨Or.inr (Or.inr (Or.inr (Or.inl ⟨hk, h8, h9, rfl⟩))), by rcases hk with rfl | rfl <;> simp [isA]⟩
    · exact ⟨v_dr h9, by simp [isA]⟩
  · intro k i j hv hs
    rcases hs with ⟨rfl, rfl⟩ | ⟨rfl, rfl⟩ | ⟨rfl, rfl⟩ | ⟨rfl, rfl, hs⟩
    · simp [isA]; omega
    · by_cases hj : j = 0 <;> simp [isA, hj] <;> omega
    · by_cases hj : j = 0 <;> simp [isA, hj] <;> omega
    · simp [isA]; omega
  · intro k i j k' i' j' hv hv' hs hs' he
    have hj : ∀ k i j, vr (isN ν cap) k i j → j < 2 ∧ (k = 1 → j = 0) ∧ (k = 0 → j = 0) := by
      intro k i j hv
      rcases hv with ⟨rfl, h9, rfl, ha, hb⟩ | ⟨rfl, h9, rfl⟩ | ⟨hk, h9, h8⟩ | ⟨hk, h8, h9, rfl⟩ | ⟨rfl, h9, rfl⟩ <;> first | (refine ⟨by omega, by omega, by omega⟩)
    have hq : ∀ k i j, vr (isN ν cap) k i j → ((k = 1 ∧ i = ν 0) ∨ (k = 2 ∧ i = ν 0) ∨ (k = 3 ∧ i = ν 0) ∨ (k = 0 ∧ i = 2 ∧ w1 < r)) → ∃ v, isA α (ν 0) a i0 w0 i1 w1 r k i j = v ∧ ((k = 1 ∧ i = ν 0 ∧ j = 0 ∧ v = a) ∨ (k = 2 ∧ i = ν 0 ∧ j = 0 ∧ v = i0) ∨ (k = 2 ∧ i = ν 0 ∧ j = 1 ∧ v = i1) ∨ (k = 3 ∧ i = ν 0 ∧ j = 0 ∧ v = w0) ∨ (k = 3 ∧ i = ν 0 ∧ j = 1 ∧ v = w1) ∨ (k = 0 ∧ i = 2 ∧ j = 0 ∧ v = r ∧ w1 < r)) := by
      intro k i j hv hs
      obtain ⟨a1, a2, a3⟩ := hj k i j hv
      rcases (show j = 0 ∨ j = 1 by omega) with rfl | rfl <;> rcases hs with ⟨rfl, rfl⟩ | ⟨rfl, rfl⟩ | ⟨rfl, rfl⟩ | ⟨rfl, rfl, hs⟩ <;> first | (exfalso; omega) | (refine ⟨_, rfl, ?_⟩; simp [isA]; done) | (refine ⟨_, rfl, ?_⟩; simp [isA]; exact hs)
    obtain ⟨v, e1, q1⟩ := hq k i j hv hs
    obtain ⟨v', e2, q2⟩ := hq k' i' j' hv' hs'
    rw [e1, e2] at he
    omega
  · intro k i j hv
    rcases hv with ⟨rfl, h9, rfl, ha, hb⟩ | ⟨rfl, h9, rfl⟩ | ⟨rfl | rfl, h9, h8⟩ | ⟨rfl | rfl, h8, h9, rfl⟩ | ⟨rfl, h9, rfl⟩
    · rcases (show i = 0 ∨ i = 1 ∨ i = 2 ∨ i = 3 ∨ i = 4 ∨ i = 5 ∨ i = 6 ∨ i = 7 ∨ i = 8 ∨ i = 9 by omega) with rfl | rfl | rfl | rfl | rfl | rfl | rfl | rfl | rfl | rfl
      · exact keep 0 0 0 (v_0 (by decide) (by decide) (by decide)) (by decide) (by decide)
      · exact mal
      · refine mr.trans ?_
        show some (Sum.inl (g.2 5, cap, _)) = some (Sum.inl (g.2 5, cap, _))
        congr 8
        funext q
        show _ = if q < ν 0 + 1 then some (isA α (ν 0) a i0 w0 i1 w1 r 1 q 0) else none
        simp [isA]
      · exact keep 0 3 0 (v_0 (by decide) (by decide) (by decide)) (by decide) (by decide)
      · exact keep 0 4 0 (v_0 (by decide) (by decide) (by decide)) (by decide) (by decide)
      · exact keep 0 5 0 (Or.inl ⟨rfl, by decide, rfl, fun q => absurd q (by decide), hb⟩) (by decide) (by decide)
      · exact keep 0 6 0 (v_0 (by decide) (by decide) (by decide)) (by decide) (by decide)
      · refine (keep 0 7 0 (v_0 (by decide) (by decide) (by decide)) (by decide) (by decide)).trans ?_
        show _ = some (Sum.inl (g.2 0, 200, Sum.inl (isX χ (ν 0) z e 13)))
        rw [isX_r (by decide) (by unfold rW; omega) (by unfold rW; omega) (by decide) (by decide) (by decide) (by decide) (by decide) (by decide)]
        rfl
      · refine (keep 0 8 0 (v_0 (by decide) (by decide) (by decide)) (by decide) (by decide)).trans ?_
        show _ = some (Sum.inl (g.2 0, 200, Sum.inl (isX χ (ν 0) z e 14)))
        rw [isX_r (by decide) (by unfold rW; omega) (by unfold rW; omega) (by decide) (by decide) (by decide) (by decide) (by decide) (by decide)]
        rfl
      · refine (keep 0 9 0 (v_0 (by decide) (by decide) (by decide)) (by decide) (by decide)).trans ?_
        show _ = some (Sum.inl (g.2 0, 200, Sum.inl (isX χ (ν 0) z e 15)))
        rw [isX_r (by decide) (by unfold rW; omega) (by unfold rW; omega) (by decide) (by decide) (by decide) (by decide) (by decide) (by decide)]
        rfl
    · have h9 : i < ν 0 + 1 := h9
      by_cases hi : i = ν 0
      · subst hi
        have e1 : isA α (ν 0) a i0 w0 i1 w1 r 1 (ν 0) 0 = a := by simp [isA]
        rw [e1]
        refine ma.trans ?_
        have n0 : ∀ b : Nat, ∀ k : Nat, k < 20 → k ≠ rW (ν 0) b := fun b k hk q => by unfold rW at q; omega
        simp [cel, isA, isX, n0]
      · have e1 : isA α (ν 0) a i0 w0 i1 w1 r 1 i 0 = α 1 i 0 := by simp [isA, hi]
        rw [e1]
        refine (keep 1 i 0 (v_card (by omega)) (by omega) (by omega)).trans ?_
        have n0 : ∀ k : Nat, k ≠ 0 → k < 20 → isX χ (ν 0) z e k i = χ k i := fun k h0 hk => isX_k h0 (by unfold rW; omega) (by unfold rW; omega) hi
        simp [cel, isA, hi, n0]
    · have h9 : i < ν 0 + 1 := h9
      by_cases hi : i = ν 0
      · subst hi
        rcases (show j = 0 ∨ j = 1 by omega) with rfl | rfl
        · have e1 : isA α (ν 0) a i0 w0 i1 w1 r 2 (ν 0) 0 = i0 := by simp [isA]
          rw [e1]; refine mi0.trans ?_; simp [cel, isA]
        · have e1 : isA α (ν 0) a i0 w0 i1 w1 r 2 (ν 0) 1 = i1 := by simp [isA]
          rw [e1]; refine mi1.trans ?_; simp [cel, isA]
      · have e1 : isA α (ν 0) a i0 w0 i1 w1 r 2 i j = α 2 i j := by simp [isA, hi]
        rw [e1]
        refine (keep 2 i j (v_im (by omega) h8) (by omega) (by omega)).trans ?_
        simp [cel, isA, hi]
    · have h9 : i < ν 0 + 1 := h9
      by_cases hi : i = ν 0
      · subst hi
        rcases (show j = 0 ∨ j = 1 by omega) with rfl | rfl
        · have e1 : isA α (ν 0) a i0 w0 i1 w1 r 3 (ν 0) 0 = w0 := by simp [isA]
          rw [e1]; refine mw0.trans ?_; simp only [cel, isX_w (show 0 < 2 by decide)]
        · have e1 : isA α (ν 0) a i0 w0 i1 w1 r 3 (ν 0) 1 = w1 := by simp [isA]
          rw [e1]; refine mw1.trans ?_; simp only [cel, isX_w (show 1 < 2 by decide)]
      · have e1 : isA α (ν 0) a i0 w0 i1 w1 r 3 i j = α 3 i j := by simp [isA, hi]
        rw [e1]
        refine (keep 3 i j (v_wd (by omega) h8) (by omega) (by omega)).trans ?_
        simp only [cel]
        rw [isX_r (by unfold rW; omega) (by unfold rW; omega) (by unfold rW; omega) (by unfold rW; omega) (by unfold rW; omega) (by unfold rW; omega) (by unfold rW; omega) (by unfold rW; omega) (by unfold rW; omega)]
    · have h9 : i ≤ ν 1 := h9
      refine (keep 4 i 0 (v_en h8 h9) (by omega) (by omega)).trans ?_
      have n0 : isX χ (ν 0) z e 7 = χ 7 := isX_r (by decide) (by unfold rW; omega) (by unfold rW; omega) (by decide) (by decide) (by decide) (by decide) (by decide) (by decide)
      simp [cel, isA, n0]
    · have h9 : i ≤ ν 1 := h9
      refine (keep 5 i 0 (v_eb h8 h9) (by omega) (by omega)).trans ?_
      simp only [cel]
      rw [isX_r (by unfold rH; omega) (by unfold rW rH; omega) (by unfold rW rH; omega) (by unfold rH; omega) (by unfold rH; omega) (by unfold rH; omega) (by unfold rH; omega) (by unfold rH; omega) (by unfold rH; omega)]
    · refine (keep 6 i 0 (v_dr h9) (by omega) (by omega)).trans ?_
      have n0 : ∀ k : Nat, k = 9 ∨ k = 11 ∨ k = 17 ∨ k = 10 → isX χ (ν 0) z e k = χ k := fun k hk => isX_r (by omega) (by unfold rW; omega) (by unfold rW; omega) (by omega) (by omega) (by omega) (by omega) (by omega) (by omega)
      simp [cel, n0]
def rvA (α : AL3) (e a w r : Nat) : AL3 := fun k i j => if k = 0 ∧ i = 5 then r else if k = 4 ∧ i = e then a else if k = 5 ∧ i = e then w else α k i j
def rvN (ν : Nat → Nat) (cap : Nat) : Nat → Nat := fun k => if k = 1 then ν 1 + 1 else if k = 3 then cap else ν k
def rvX (χ : SG) (e : Nat) (c : Int32) : SG := fun r k => if r = 0 then (if k = 4 then χ 0 4 + 1 else χ 0 k) else if r = rH e then 0 else if r = 7 ∧ k = e then c else χ r k
theorem rvX_k {χ : SG} {e r k : Nat} {c : Int32} (h0 : r ≠ 0) (h1 : r ≠ rH e) (h3 : k ≠ e) : rvX χ e c r k = χ r k := by
  unfold rvX
  rw [if_neg h0, if_neg h1, if_neg (fun q => h3 q.2)]
theorem rvX_r {χ : SG} {e r : Nat} {c : Int32} (h0 : r ≠ 0) (h1 : r ≠ rH e) (h3 : r ≠ 7) : rvX χ e c r = χ r := by
  funext k
  unfold rvX
  rw [if_neg h0, if_neg h1, if_neg (fun q => h3 q.1)]
theorem rvX_h {χ : SG} {e : Nat} {c : Int32} : rvX χ e c (rH e) = fun _ => 0 := by
  funext k
  unfold rvX
  rw [if_neg (by unfold rH; omega), if_pos rfl]
theorem hw_revoke {g : GG} {α : AL3} {ν : Nat → Nat} {χ : SG} {M M' : MW} {sz a w r cap : Nat} {c : Int32} (hW : HW g α ν χ M) (hlt : ∀ k i j, vr ν k i j → α k i j < sz) (h0 : sz ≤ a) (h1 : a < w) (hr : (r = α 0 5 0 ∧ 0 < ν 3) ∨ w < r) (hcap : 0 < cap)
    (ma : M' a = some (.inr (3, [.int c, .ref w]))) (mw : M' w = some (.inl (g.2 2, 200, .inl (fun _ => 0))))
    (mr : M' r = some (.inl (g.2 5, cap, .inr (.inr (.inr (.inr (fun q => if q < ν 1 + 1 then some (if q = ν 1 then a else α 4 (q + 1) 0) else none))))))) (mal : M' (α 0 4 0) = some (.inr (0, [.ref r, .int (nI (ν 1 + 1)), .int (χ 0 4 + 1)]))) (hde : ν 3 = 0 → M (α 0 5 0) = none) (hf : ∀ q, q < sz → q ≠ α 0 4 0 → q ≠ α 0 5 0 → M' q = M q) : HW g (rvA α (ν 1 + 1) a w r) (rvN ν cap) (rvX χ (ν 1 + 1) c) M' := by
  have v04 : vr ν 0 4 0 := v_0 (by decide) (by decide) (by decide)
  have keep : ∀ k i j, vr ν k i j → ¬ (k = 0 ∧ i = 4) → ¬ (k = 0 ∧ i = 5) → M' (α k i j) = some (cel g α ν χ k i j) := by
    intro k i j hv n1 n2
    rw [hf _ (hlt k i j hv) (fun q => n1 ⟨(hW.2 _ _ _ _ _ _ hv v04 q).1, (hW.2 _ _ _ _ _ _ hv v04 q).2.1⟩) (fun q => ?_)]
    · exact hW.1 k i j hv
    · by_cases h9 : 0 < ν 3
      · exact n2 ⟨(hW.2 _ _ _ _ _ _ hv (v_05 h9) q).1, (hW.2 _ _ _ _ _ _ hv (v_05 h9) q).2.1⟩
      · have h8 := hde (by omega)
        rw [← q, hW.1 k i j hv] at h8
        cases h8
  refine hW.ext (fun k i j => (k = 4 ∧ i = ν 1 + 1) ∨ (k = 5 ∧ i = ν 1 + 1) ∨ (k = 0 ∧ i = 5 ∧ w < r)) hlt ?_ ?_ ?_ ?_
  · intro k i j hv hs
    rcases hv with ⟨rfl, h9, rfl, ha, hb⟩ | ⟨rfl, h9, rfl⟩ | ⟨hk, h9, h8⟩ | ⟨hk, h8, h9, rfl⟩ | ⟨rfl, h9, rfl⟩
    · by_cases hi : i = 5
      · subst hi
        rcases hr with ⟨rfl, hp⟩ | hr
        · exact ⟨v_05 hp, rfl⟩
        · exact absurd (Or.inr (Or.inr ⟨rfl, rfl, hr⟩)) hs
      · exact ⟨Or.inl ⟨rfl, h9, rfl, ha, fun q => absurd q hi⟩, by simp [rvA, hi]⟩
    · exact ⟨v_card h9, by simp [rvA]⟩
    · exact ⟨Or.inr (Or.inr (Or.inl ⟨hk, h9, h8⟩)), by rcases hk with rfl | rfl <;> simp [rvA]⟩
    · have h7 : i ≠ ν 1 + 1 := fun q => hs (by rcases hk with rfl | rfl; exact Or.inl ⟨rfl, q⟩; exact Or.inr (Or.inl ⟨rfl, q⟩))
      have h9 : i ≤ ν 1 + 1 := h9
      exact ⟨Or.inr (Or.inr (Or.inr (Or.inl ⟨hk, h8, by omega, rfl⟩))), by simp [rvA, h7]; intro q; rcases hk with hk | hk <;> omega⟩
    · exact ⟨v_dr h9, by simp [rvA]⟩
  · intro k i j hv hs
    rcases hs with ⟨rfl, rfl⟩ | ⟨rfl, rfl⟩ | ⟨rfl, rfl, hs⟩ <;> simp [rvA] <;> omega
  · intro k i j k' i' j' hv hv' hs hs' he
    have hj : ∀ k i j, vr (rvN ν cap) k i j → (k = 4 → j = 0) ∧ (k = 5 → j = 0) ∧ (k = 0 → j = 0) := by
      intro k i j hv
      rcases hv with ⟨rfl, h9, rfl, ha, hb⟩ | ⟨rfl, h9, rfl⟩ | ⟨hk, h9, h8⟩ | ⟨hk, h8, h9, rfl⟩ | ⟨rfl, h9, rfl⟩ <;> first | (refine ⟨by omega, by omega, by omega⟩)
    have hq : ∀ k i j, vr (rvN ν cap) k i j → ((k = 4 ∧ i = ν 1 + 1) ∨ (k = 5 ∧ i = ν 1 + 1) ∨ (k = 0 ∧ i = 5 ∧ w < r)) → ∃ v, rvA α (ν 1 + 1) a w r k i j = v ∧ ((k = 4 ∧ i = ν 1 + 1 ∧ j = 0 ∧ v = a) ∨ (k = 5 ∧ i = ν 1 + 1 ∧ j = 0 ∧ v = w) ∨ (k = 0 ∧ i = 5 ∧ j = 0 ∧ v = r ∧ w < r)) := by
      intro k i j hv hs
      obtain ⟨a1, a2, a3⟩ := hj k i j hv
      rcases hs with ⟨rfl, rfl⟩ | ⟨rfl, rfl⟩ | ⟨rfl, rfl, hs⟩
      · exact ⟨a, by simp [rvA], by omega⟩
      · exact ⟨w, by simp [rvA], by omega⟩
      · exact ⟨r, by simp [rvA], by omega⟩
    obtain ⟨v, e1, q1⟩ := hq k i j hv hs
    obtain ⟨v', e2, q2⟩ := hq k' i' j' hv' hs'
    rw [e1, e2] at he
    omega
  · intro k i j hv
    rcases hv with ⟨rfl, h9, rfl, ha, hb⟩ | ⟨rfl, h9, rfl⟩ | ⟨rfl | rfl, h9, h8⟩ | ⟨rfl | rfl, h8, h9, rfl⟩ | ⟨rfl, h9, rfl⟩
    · rcases (show i = 0 ∨ i = 1 ∨ i = 2 ∨ i = 3 ∨ i = 4 ∨ i = 5 ∨ i = 6 ∨ i = 7 ∨ i = 8 ∨ i = 9 by omega) with rfl | rfl | rfl | rfl | rfl | rfl | rfl | rfl | rfl | rfl
      · exact keep 0 0 0 (v_0 (by decide) (by decide) (by decide)) (by decide) (by decide)
      · exact keep 0 1 0 (v_0 (by decide) (by decide) (by decide)) (by decide) (by decide)
      · exact keep 0 2 0 (Or.inl ⟨rfl, by decide, rfl, ha, fun q => absurd q (by decide)⟩) (by decide) (by decide)
      · exact keep 0 3 0 (v_0 (by decide) (by decide) (by decide)) (by decide) (by decide)
      · exact mal
      · refine mr.trans ?_
        show some (Sum.inl (g.2 5, cap, _)) = some (Sum.inl (g.2 5, cap, _))
        congr 8
        funext q
        show _ = if q < ν 1 + 1 then some (rvA α (ν 1 + 1) a w r 4 (q + 1) 0) else none
        simp [rvA]
      · exact keep 0 6 0 (v_0 (by decide) (by decide) (by decide)) (by decide) (by decide)
      · refine (keep 0 7 0 (v_0 (by decide) (by decide) (by decide)) (by decide) (by decide)).trans ?_
        show _ = some (Sum.inl (g.2 0, 200, Sum.inl (rvX χ (ν 1 + 1) c 13)))
        rw [rvX_r (by decide) (by unfold rH; omega) (by decide)]
        rfl
      · refine (keep 0 8 0 (v_0 (by decide) (by decide) (by decide)) (by decide) (by decide)).trans ?_
        show _ = some (Sum.inl (g.2 0, 200, Sum.inl (rvX χ (ν 1 + 1) c 14)))
        rw [rvX_r (by decide) (by unfold rH; omega) (by decide)]
        rfl
      · refine (keep 0 9 0 (v_0 (by decide) (by decide) (by decide)) (by decide) (by decide)).trans ?_
        show _ = some (Sum.inl (g.2 0, 200, Sum.inl (rvX χ (ν 1 + 1) c 15)))
        rw [rvX_r (by decide) (by unfold rH; omega) (by decide)]
        rfl
    · refine (keep 1 i 0 (v_card h9) (by omega) (by omega)).trans ?_
      have n0 : ∀ k : Nat, k = 1 ∨ k = 2 ∨ k = 6 ∨ k = 3 ∨ k = 16 ∨ k = 4 → rvX χ (ν 1 + 1) c k = χ k := fun k hk => rvX_r (by omega) (by unfold rH; omega) (by omega)
      simp [cel, rvA, n0]
    · refine (keep 2 i j (v_im h9 h8) (by omega) (by omega)).trans ?_
      simp [cel, rvA]
    · refine (keep 3 i j (v_wd h9 h8) (by omega) (by omega)).trans ?_
      simp only [cel]
      rw [rvX_r (by unfold rW; omega) (by unfold rW rH; omega) (by unfold rW; omega)]
    · have h9 : i ≤ ν 1 + 1 := h9
      by_cases hi : i = ν 1 + 1
      · subst hi
        have e1 : rvA α (ν 1 + 1) a w r 4 (ν 1 + 1) 0 = a := by simp [rvA]
        rw [e1]
        refine ma.trans ?_
        have n0 : (7 : Nat) ≠ rH (ν 1 + 1) := by unfold rH; omega
        simp [cel, rvA, rvX, n0]
      · have e1 : rvA α (ν 1 + 1) a w r 4 i 0 = α 4 i 0 := by simp [rvA, hi]
        rw [e1]
        refine (keep 4 i 0 (v_en h8 (by omega)) (by omega) (by omega)).trans ?_
        have n0 : rvX χ (ν 1 + 1) c 7 i = χ 7 i := rvX_k (by decide) (by unfold rH; omega) hi
        simp [cel, rvA, hi, n0]
    · have h9 : i ≤ ν 1 + 1 := h9
      by_cases hi : i = ν 1 + 1
      · subst hi
        have e1 : rvA α (ν 1 + 1) a w r 5 (ν 1 + 1) 0 = w := by simp [rvA]
        rw [e1]
        refine mw.trans ?_
        simp only [cel, rvX_h]
      · have e1 : rvA α (ν 1 + 1) a w r 5 i 0 = α 5 i 0 := by simp [rvA, hi]
        rw [e1]
        refine (keep 5 i 0 (v_eb h8 (by omega)) (by omega) (by omega)).trans ?_
        simp only [cel]
        rw [rvX_r (by unfold rH; omega) (by unfold rH; omega) (by unfold rH; omega)]
    · refine (keep 6 i 0 (v_dr h9) (by omega) (by omega)).trans ?_
      have n0 : ∀ k : Nat, k = 9 ∨ k = 11 ∨ k = 17 ∨ k = 10 → rvX χ (ν 1 + 1) c k = χ k := fun k hk => rvX_r (by omega) (by unfold rH; omega) (by omega)
      simp [cel, n0]
