/-! The reference: its state is 16 rows of numbers (row 0: code, cards, entries; the others its arrays), its cells lie one behind the other. -/
abbrev SG : Type := Nat → Nat → Int32
def su (σ : SG) (k i : Nat) (v : Int32) : SG := fun k' i' => if k' = k ∧ i' = i then v else σ k' i'
theorem su_s {σ : SG} {k i : Nat} {v : Int32} : su σ k i v k i = v := if_pos ⟨rfl, rfl⟩
theorem su_k {σ : SG} {k i k' i' : Nat} {v : Int32} (h : k' ≠ k) : su σ k i v k' i' = σ k' i' := if_neg (fun z => h z.1)
theorem su_i {σ : SG} {k i k' i' : Nat} {v : Int32} (h : i' ≠ i) : su σ k i v k' i' = σ k' i' := if_neg (fun z => h z.2)
theorem su_kf {σ : SG} {k i k' : Nat} {v : Int32} (h : k' ≠ k) : su σ k i v k' = σ k' := funext fun _ => su_k h
theorem su_f {σ : SG} {k i : Nat} {v : Int32} : su σ k i v k = upd (σ k) i v := funext fun j => by
  by_cases h : j = i
  · subst h; rw [su_s]; exact pk_us.symm
  · rw [su_i h]; exact (pk_un h).symm
def lenT (k : Nat) : Nat := if k = 5 then 352000 else if k = 7 then 3001 else if k = 8 then 600200 else if k ≤ 6 then 4000 else 200
def tiT (k : Nat) : Nat := if k = 5 then 1 else if k = 8 ∨ k = 10 ∨ k = 12 then 2 else 0
def aT (g : GG) (k : Nat) (f : Nat → Int32) : va_E := .inl (g.2 (tiT k), lenT k, .inl f)
def oT (t : Nat) (σ : SG) : va_E := .inr (7, [.int (σ 0 0), .int (σ 0 1), .ref (t + 1), .ref (t + 2), .ref (t + 3), .ref (t + 4), .ref (t + 5), .ref (t + 6), .ref (t + 7), .int (σ 0 2), .ref (t + 8), .ref (t + 9), .ref (t + 10), .ref (t + 11), .ref (t + 12), .ref (t + 13), .ref (t + 14), .ref (t + 15)])
def tw (g : GG) (t : Nat) (σ : SG) : MW := fun q => if q = t then some (oT t σ) else if t < q ∧ q ≤ t + 15 then some (aT g (q - t) (σ (q - t))) else none
theorem tw_t {g : GG} {t : Nat} {σ : SG} : tw g t σ t = some (oT t σ) := if_pos rfl
theorem tw_a {g : GG} {t : Nat} {σ : SG} (k : Nat) (h1 : 1 ≤ k) (h2 : k ≤ 15) : tw g t σ (t + k) = some (aT g k (σ k)) := by
  unfold tw
  rw [if_neg (by omega), if_pos ⟨by omega, by omega⟩, Nat.add_sub_cancel_left]
theorem tw_dom {g : GG} {t : Nat} {σ : SG} {q : Nat} : tw g t σ q ≠ none ↔ t ≤ q ∧ q ≤ t + 15 := by
  unfold tw
  by_cases h : q = t
  · rw [if_pos h]; simp; omega
  · rw [if_neg h]
    by_cases h2 : t < q ∧ q ≤ t + 15
    · rw [if_pos h2]; simp; omega
    · rw [if_neg h2]; simp; omega
theorem tw_put {g : GG} {t : Nat} {σ : SG} {k j : Nat} {v : Int32} (h1 : 1 ≤ k) (h2 : k ≤ 15) : mu (tw g t σ) (t + k) (aT g k (upd (σ k) j v)) = tw g t (su σ k j v) := by
  funext q
  by_cases hq : q = t + k
  · subst hq
    rw [mu_s, tw_a k h1 h2, su_f]
  · rw [mu_n hq]
    unfold tw
    by_cases h : q = t
    · rw [if_pos h, if_pos h]
      unfold oT
      simp only [su_k (show (0 : Nat) ≠ k by omega)]
    · rw [if_neg h, if_neg h]
      by_cases h3 : t < q ∧ q ≤ t + 15
      · rw [if_pos h3, if_pos h3, su_kf (by omega)]
      · rw [if_neg h3, if_neg h3]
theorem tw_putO {g : GG} {t : Nat} {σ : SG} {i : Nat} {v : Int32} : mu (tw g t σ) t (oT t (su σ 0 i v)) = tw g t (su σ 0 i v) := by
  funext q
  by_cases hq : q = t
  · subst hq
    rw [mu_s, tw_t]
  · rw [mu_n hq]
    unfold tw
    rw [if_neg hq, if_neg hq]
    by_cases h3 : t < q ∧ q ≤ t + 15
    · rw [if_pos h3, if_pos h3, su_kf (by omega)]
    · rw [if_neg h3, if_neg h3]
theorem tw_1 {g : GG} {t : Nat} {σ : SG} : tw g t σ (t + 1) = some (.inl (g.2 0, 4000, .inl (σ 1))) := tw_a 1 (by decide) (by decide)
theorem tws_1 {g : GG} {A : Nat → Prop} {H0 H : Heap} {locs : List Loc} {t j : Nat} {σ : SG} {v : Int32} (h : HS g A H0 (mu (tw g t σ) (t + 1) (.inl (g.2 0, 4000, .inl (upd (σ 1) j v)))) H locs) : HS g A H0 (tw g t (su σ 1 j v)) H locs := by
  rw [← tw_put (by decide) (by decide)]
  exact h
theorem tw_2 {g : GG} {t : Nat} {σ : SG} : tw g t σ (t + 2) = some (.inl (g.2 0, 4000, .inl (σ 2))) := tw_a 2 (by decide) (by decide)
theorem tws_2 {g : GG} {A : Nat → Prop} {H0 H : Heap} {locs : List Loc} {t j : Nat} {σ : SG} {v : Int32} (h : HS g A H0 (mu (tw g t σ) (t + 2) (.inl (g.2 0, 4000, .inl (upd (σ 2) j v)))) H locs) : HS g A H0 (tw g t (su σ 2 j v)) H locs := by
  rw [← tw_put (by decide) (by decide)]
  exact h
theorem tw_3 {g : GG} {t : Nat} {σ : SG} : tw g t σ (t + 3) = some (.inl (g.2 0, 4000, .inl (σ 3))) := tw_a 3 (by decide) (by decide)
theorem tws_3 {g : GG} {A : Nat → Prop} {H0 H : Heap} {locs : List Loc} {t j : Nat} {σ : SG} {v : Int32} (h : HS g A H0 (mu (tw g t σ) (t + 3) (.inl (g.2 0, 4000, .inl (upd (σ 3) j v)))) H locs) : HS g A H0 (tw g t (su σ 3 j v)) H locs := by
  rw [← tw_put (by decide) (by decide)]
  exact h
theorem tw_4 {g : GG} {t : Nat} {σ : SG} : tw g t σ (t + 4) = some (.inl (g.2 0, 4000, .inl (σ 4))) := tw_a 4 (by decide) (by decide)
theorem tws_4 {g : GG} {A : Nat → Prop} {H0 H : Heap} {locs : List Loc} {t j : Nat} {σ : SG} {v : Int32} (h : HS g A H0 (mu (tw g t σ) (t + 4) (.inl (g.2 0, 4000, .inl (upd (σ 4) j v)))) H locs) : HS g A H0 (tw g t (su σ 4 j v)) H locs := by
  rw [← tw_put (by decide) (by decide)]
  exact h
theorem tw_5 {g : GG} {t : Nat} {σ : SG} : tw g t σ (t + 5) = some (.inl (g.2 1, 352000, .inl (σ 5))) := tw_a 5 (by decide) (by decide)
theorem tws_5 {g : GG} {A : Nat → Prop} {H0 H : Heap} {locs : List Loc} {t j : Nat} {σ : SG} {v : Int32} (h : HS g A H0 (mu (tw g t σ) (t + 5) (.inl (g.2 1, 352000, .inl (upd (σ 5) j v)))) H locs) : HS g A H0 (tw g t (su σ 5 j v)) H locs := by
  rw [← tw_put (by decide) (by decide)]
  exact h
theorem tw_6 {g : GG} {t : Nat} {σ : SG} : tw g t σ (t + 6) = some (.inl (g.2 0, 4000, .inl (σ 6))) := tw_a 6 (by decide) (by decide)
theorem tws_6 {g : GG} {A : Nat → Prop} {H0 H : Heap} {locs : List Loc} {t j : Nat} {σ : SG} {v : Int32} (h : HS g A H0 (mu (tw g t σ) (t + 6) (.inl (g.2 0, 4000, .inl (upd (σ 6) j v)))) H locs) : HS g A H0 (tw g t (su σ 6 j v)) H locs := by
  rw [← tw_put (by decide) (by decide)]
  exact h
theorem tw_7 {g : GG} {t : Nat} {σ : SG} : tw g t σ (t + 7) = some (.inl (g.2 0, 3001, .inl (σ 7))) := tw_a 7 (by decide) (by decide)
theorem tws_7 {g : GG} {A : Nat → Prop} {H0 H : Heap} {locs : List Loc} {t j : Nat} {σ : SG} {v : Int32} (h : HS g A H0 (mu (tw g t σ) (t + 7) (.inl (g.2 0, 3001, .inl (upd (σ 7) j v)))) H locs) : HS g A H0 (tw g t (su σ 7 j v)) H locs := by
  rw [← tw_put (by decide) (by decide)]
  exact h
theorem tw_8 {g : GG} {t : Nat} {σ : SG} : tw g t σ (t + 8) = some (.inl (g.2 2, 600200, .inl (σ 8))) := tw_a 8 (by decide) (by decide)
theorem tws_8 {g : GG} {A : Nat → Prop} {H0 H : Heap} {locs : List Loc} {t j : Nat} {σ : SG} {v : Int32} (h : HS g A H0 (mu (tw g t σ) (t + 8) (.inl (g.2 2, 600200, .inl (upd (σ 8) j v)))) H locs) : HS g A H0 (tw g t (su σ 8 j v)) H locs := by
  rw [← tw_put (by decide) (by decide)]
  exact h
theorem tw_9 {g : GG} {t : Nat} {σ : SG} : tw g t σ (t + 9) = some (.inl (g.2 0, 200, .inl (σ 9))) := tw_a 9 (by decide) (by decide)
theorem tws_9 {g : GG} {A : Nat → Prop} {H0 H : Heap} {locs : List Loc} {t j : Nat} {σ : SG} {v : Int32} (h : HS g A H0 (mu (tw g t σ) (t + 9) (.inl (g.2 0, 200, .inl (upd (σ 9) j v)))) H locs) : HS g A H0 (tw g t (su σ 9 j v)) H locs := by
  rw [← tw_put (by decide) (by decide)]
  exact h
theorem tw_10 {g : GG} {t : Nat} {σ : SG} : tw g t σ (t + 10) = some (.inl (g.2 2, 200, .inl (σ 10))) := tw_a 10 (by decide) (by decide)
theorem tws_10 {g : GG} {A : Nat → Prop} {H0 H : Heap} {locs : List Loc} {t j : Nat} {σ : SG} {v : Int32} (h : HS g A H0 (mu (tw g t σ) (t + 10) (.inl (g.2 2, 200, .inl (upd (σ 10) j v)))) H locs) : HS g A H0 (tw g t (su σ 10 j v)) H locs := by
  rw [← tw_put (by decide) (by decide)]
  exact h
theorem tw_11 {g : GG} {t : Nat} {σ : SG} : tw g t σ (t + 11) = some (.inl (g.2 0, 200, .inl (σ 11))) := tw_a 11 (by decide) (by decide)
theorem tws_11 {g : GG} {A : Nat → Prop} {H0 H : Heap} {locs : List Loc} {t j : Nat} {σ : SG} {v : Int32} (h : HS g A H0 (mu (tw g t σ) (t + 11) (.inl (g.2 0, 200, .inl (upd (σ 11) j v)))) H locs) : HS g A H0 (tw g t (su σ 11 j v)) H locs := by
  rw [← tw_put (by decide) (by decide)]
  exact h
theorem tw_12 {g : GG} {t : Nat} {σ : SG} : tw g t σ (t + 12) = some (.inl (g.2 2, 200, .inl (σ 12))) := tw_a 12 (by decide) (by decide)
theorem tws_12 {g : GG} {A : Nat → Prop} {H0 H : Heap} {locs : List Loc} {t j : Nat} {σ : SG} {v : Int32} (h : HS g A H0 (mu (tw g t σ) (t + 12) (.inl (g.2 2, 200, .inl (upd (σ 12) j v)))) H locs) : HS g A H0 (tw g t (su σ 12 j v)) H locs := by
  rw [← tw_put (by decide) (by decide)]
  exact h
theorem tw_13 {g : GG} {t : Nat} {σ : SG} : tw g t σ (t + 13) = some (.inl (g.2 0, 200, .inl (σ 13))) := tw_a 13 (by decide) (by decide)
theorem tws_13 {g : GG} {A : Nat → Prop} {H0 H : Heap} {locs : List Loc} {t j : Nat} {σ : SG} {v : Int32} (h : HS g A H0 (mu (tw g t σ) (t + 13) (.inl (g.2 0, 200, .inl (upd (σ 13) j v)))) H locs) : HS g A H0 (tw g t (su σ 13 j v)) H locs := by
  rw [← tw_put (by decide) (by decide)]
  exact h
theorem tw_14 {g : GG} {t : Nat} {σ : SG} : tw g t σ (t + 14) = some (.inl (g.2 0, 200, .inl (σ 14))) := tw_a 14 (by decide) (by decide)
theorem tws_14 {g : GG} {A : Nat → Prop} {H0 H : Heap} {locs : List Loc} {t j : Nat} {σ : SG} {v : Int32} (h : HS g A H0 (mu (tw g t σ) (t + 14) (.inl (g.2 0, 200, .inl (upd (σ 14) j v)))) H locs) : HS g A H0 (tw g t (su σ 14 j v)) H locs := by
  rw [← tw_put (by decide) (by decide)]
  exact h
theorem tw_15 {g : GG} {t : Nat} {σ : SG} : tw g t σ (t + 15) = some (.inl (g.2 0, 200, .inl (σ 15))) := tw_a 15 (by decide) (by decide)
theorem tws_15 {g : GG} {A : Nat → Prop} {H0 H : Heap} {locs : List Loc} {t j : Nat} {σ : SG} {v : Int32} (h : HS g A H0 (mu (tw g t σ) (t + 15) (.inl (g.2 0, 200, .inl (upd (σ 15) j v)))) H locs) : HS g A H0 (tw g t (su σ 15 j v)) H locs := by
  rw [← tw_put (by decide) (by decide)]
  exact h
theorem two {g : GG} {A : Nat → Prop} {H0 H : Heap} {locs : List Loc} {t i : Nat} {σ : SG} {v : Int32} (h : HS g A H0 (mu (tw g t σ) t (oT t (su σ 0 i v))) H locs) : HS g A H0 (tw g t (su σ 0 i v)) H locs := by
  rw [← tw_putO]
  exact h
/-! what the numbers of a card say -/
def wd (σ : SG) (c b i : Nat) : Int32 := σ 5 (88 * c + 44 * b + i)
def whI (σ : SG) (c b : Nat) : Int32 := if wd σ c b 0 = wd σ c b 43 then 1 else 0
def sq (σ : SG) (c b : Nat) : Int32 := (wd σ c b 0 >>> ((8 : Int32) &&& 31)) &&& 255
def ahd (σ : SG) (c : Nat) : Int32 := (sq σ c 1 - sq σ c 0) &&& 255
def cur (σ : SG) (c : Nat) : Nat := if wd σ c 0 0 = wd σ c 0 43 ∧ wd σ c 1 0 = wd σ c 1 43 then (if ¬ ahd σ c ≤ 0 ∧ ¬ 128 ≤ ahd σ c then 1 else 0) else if wd σ c 0 0 = wd σ c 0 43 then 0 else 1
theorem cur_lt (σ : SG) (c : Nat) : cur σ c < 2 := by
  unfold cur
  repeat' split
  all_goals omega
theorem whI_0 {σ : SG} {c b : Nat} : whI σ c b = 0 ↔ ¬ wd σ c b 0 = wd σ c b 43 := by
  unfold whI
  by_cases h : wd σ c b 0 = wd σ c b 43
  · rw [if_pos h]; simp [h]
  · rw [if_neg h]; simp [h]
theorem nI_one : nI 1 = 1 := rfl
/-! what a door has: entry e at door d -/
def hs (σ : SG) (d e : Nat) : Int32 := σ 8 (3001 * d + e)
def grF (σ : SG) (d : Nat) : Nat → Nat
  | 0 => 0
  | n + 1 => if hs σ d (n + 1) = 0 then grF σ d n else n + 1
def gre (σ : SG) (d : Nat) : Nat := grF σ d 3000
def cpF (σ : SG) (d : Nat) : Nat → Nat → Nat
  | 0, e => e
  | f + 1, e => if hs σ d (e + 1) = 0 then e else cpF σ d f (e + 1)
def cmp (σ : SG) (d : Nat) : Nat := cpF σ d 3000 0
def mkF (σ : SG) (d : Nat) : Nat → Nat
  | 0 => 0
  | n + 1 => if hs σ d (n + 1) = 0 then mkF σ d n else mkF σ d n + 1
def rnF (σ : SG) (d : Nat) : Nat → Nat
  | 0 => 0
  | n + 1 => if ¬ hs σ d (n + 1) = 0 ∧ hs σ d n = 0 then rnF σ d n + 1 else rnF σ d n
def rvI (σ : SG) (d e : Nat) : Int32 := if ¬ nI e ≤ 0 ∧ ¬ hs σ d e = 0 then 1 else 0
def cnI (σ : SG) (c : Nat) : Int32 := wd σ c (cur σ c) 0 &&& 255
def fiI (σ : SG) (c : Nat) : Int32 := if cnI σ c = 0 then 0 else wd σ c (cur σ c) 1
def seI (σ : SG) (c : Nat) : Int32 := wd σ c (cur σ c) 2
def tl0 (σ : SG) (c a n : Nat) (h : Int32) : Prop := cnI σ c = nI n ∧ fiI σ c = nI a ∧ seI σ c = h
def tlW (σ : SG) (c a k : Nat) : Prop := ∀ j, j < k → wd σ c (cur σ c) (3 + j) = σ 7 (a + j)
noncomputable def smI (σ : SG) (c a n : Nat) (h : Int32) (k : Nat) : Int32 := @ite Int32 (tl0 σ c a n h ∧ tlW σ c a k) (Classical.propDecidable _) 1 0
theorem smI_1 {σ : SG} {c a n k : Nat} {h : Int32} (q : tl0 σ c a n h ∧ tlW σ c a k) : smI σ c a n h k = 1 := if_pos q
theorem smI_0 {σ : SG} {c a n k : Nat} {h : Int32} (q : ¬ (tl0 σ c a n h ∧ tlW σ c a k)) : smI σ c a n h k = 0 := if_neg q
theorem smI_z {σ : SG} {c a n k : Nat} {h : Int32} : smI σ c a n h k = 0 ↔ ¬ (tl0 σ c a n h ∧ tlW σ c a k) := by
  by_cases q : tl0 σ c a n h ∧ tlW σ c a k
  · rw [smI_1 q]; simp [q]
  · rw [smI_0 q]; simp only [q, not_false_eq_true]
theorem smI_01 (σ : SG) (c a n : Nat) (h : Int32) (k : Nat) : smI σ c a n h k = 0 ∨ smI σ c a n h k = 1 := by
  by_cases q : tl0 σ c a n h ∧ tlW σ c a k
  · exact Or.inr (smI_1 q)
  · exact Or.inl (smI_0 q)
theorem tlW_0 {σ : SG} {c a : Nat} : tlW σ c a 0 := fun j h => by omega
theorem tlW_s {σ : SG} {c a k : Nat} (h : tlW σ c a k) (hk : wd σ c (cur σ c) (3 + k) = σ 7 (a + k)) : tlW σ c a (k + 1) := lt_s h hk
theorem tlW_le {σ : SG} {c a k n : Nat} (h : tlW σ c a n) (hk : k ≤ n) : tlW σ c a k := fun j hj => h j (by omega)
def ncI (σ : SG) (x : Int32) : Int32 := if x < 0 ∨ ¬ x < σ 0 1 then 1 else 0
def ndI (x : Int32) : Int32 := if x < 0 ∨ ¬ x ≤ 199 then 1 else 0
