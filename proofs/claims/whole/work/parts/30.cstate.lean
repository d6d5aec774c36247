/-! The class: which cell has which role (kind, number, number), what each holds, by rows of numbers χ.
kinds: 0 the house itself (0), the list of cards (1), its array (2), the entry list (3), its list (4), its array (5), the doors' array (6), the three arrays of visits (7, 8, 9); 1 a card; 2 an image; 3 its words; 4 an entry; 5 its doors; 6 a door.
rows of χ: 1 zones, 2 endDay, 3 keep, 4 wordsWritten, 6 entry, 16 wordsLeft (of cards); 7 the card of an entry; 9 zone, 10 used, 11 heard, 17 greatest (of doors); 13, 14, 15 visits; 0 (3, 4: the lists' modCount); rW c b the words of image b of card c; rH e the doors that have entry e.
ν: 0 how many cards, 1 how many entries, 2 and 3 how long the lists' arrays are. -/
abbrev AL3 : Type := Nat → Nat → Nat → Nat
def rW (c b : Nat) : Nat := 20 + 4 * c + 2 * b
def rH (e : Nat) : Nat := 21 + 2 * e
def vr (ν : Nat → Nat) (k i j : Nat) : Prop := (k = 0 ∧ i ≤ 9 ∧ j = 0 ∧ (i = 2 → 0 < ν 2) ∧ (i = 5 → 0 < ν 3)) ∨ (k = 1 ∧ i < ν 0 ∧ j = 0) ∨ ((k = 2 ∨ k = 3) ∧ i < ν 0 ∧ j < 2) ∨ ((k = 4 ∨ k = 5) ∧ 1 ≤ i ∧ i ≤ ν 1 ∧ j = 0) ∨ (k = 6 ∧ i < 200 ∧ j = 0)
def cel (g : GG) (α : AL3) (ν : Nat → Nat) (χ : SG) (k i j : Nat) : va_E := match k with
  | 0 => (match i with
    | 0 => .inr (6, [.ref (α 0 1 0), .ref (α 0 3 0), .ref (α 0 6 0), .ref (α 0 7 0), .ref (α 0 8 0), .ref (α 0 9 0)])
    | 1 => .inr (0, [.ref (α 0 2 0), .int (nI (ν 0)), .int (χ 0 3)])
    | 2 => .inl (g.2 5, ν 2, .inr (.inr (.inr (.inr (fun q => if q < ν 0 then some (α 1 q 0) else none)))))
    | 3 => .inr (4, [.ref (α 0 4 0)])
    | 4 => .inr (0, [.ref (α 0 5 0), .int (nI (ν 1)), .int (χ 0 4)])
    | 5 => .inl (g.2 5, ν 3, .inr (.inr (.inr (.inr (fun q => if q < ν 1 then some (α 4 (q + 1) 0) else none)))))
    | 6 => .inl (g.2 4, 200, .inr (.inr (.inr (.inr (fun q => if q < 200 then some (α 6 q 0) else none)))))
    | 7 => .inl (g.2 0, 200, .inl (χ 13))
    | 8 => .inl (g.2 0, 200, .inl (χ 14))
    | _ => .inl (g.2 0, 200, .inl (χ 15)))
  | 1 => .inr (1, [.int (χ 1 i), .int (χ 2 i), .ref (α 2 i 0), .ref (α 2 i 1), .int (χ 6 i), .int (χ 3 i), .int (χ 16 i), .int (χ 4 i)])
  | 2 => .inr (5, [.ref (α 3 i j)])
  | 3 => .inl (g.2 1, 44, .inl (χ (rW i j)))
  | 4 => .inr (3, [.int (χ 7 i), .ref (α 5 i 0)])
  | 5 => .inl (g.2 2, 200, .inl (χ (rH i)))
  | _ => .inr (2, [.int (nI i), .int (χ 9 i), .int (χ 11 i), .int (χ 17 i), .int (χ 10 i)])
def HW (g : GG) (α : AL3) (ν : Nat → Nat) (χ : SG) (M : MW) : Prop := (∀ k i j, vr ν k i j → M (α k i j) = some (cel g α ν χ k i j)) ∧ ∀ k i j k' i' j', vr ν k i j → vr ν k' i' j' → α k i j = α k' i' j' → k = k' ∧ i = i' ∧ j = j'
theorem HW.upd {g : GG} {α : AL3} {ν : Nat → Nat} {χ χ' : SG} {M : MW} {k i j : Nat} {e : va_E} (h : HW g α ν χ M) (hv : vr ν k i j) (he : cel g α ν χ' k i j = e) (ho : ∀ k' i' j', vr ν k' i' j' → ¬ (k' = k ∧ i' = i ∧ j' = j) → cel g α ν χ' k' i' j' = cel g α ν χ k' i' j') : HW g α ν χ' (mu M (α k i j) e) := by
  refine ⟨fun k' i' j' hv' => ?_, h.2⟩
  by_cases hq : k' = k ∧ i' = i ∧ j' = j
  · obtain ⟨rfl, rfl, rfl⟩ := hq
    rw [mu_s, he]
  · rw [mu_n (fun z => hq (h.2 k' i' j' k i j hv' hv z)), ho k' i' j' hv' hq]
    exact h.1 k' i' j' hv'
section VR
variable {ν : Nat → Nat}
theorem v_card {c : Nat} (h : c < ν 0) : vr ν 1 c 0 := Or.inr (Or.inl ⟨rfl, h, rfl⟩)
theorem v_im {c b : Nat} (h : c < ν 0) (hb : b < 2) : vr ν 2 c b := Or.inr (Or.inr (Or.inl ⟨Or.inl rfl, h, hb⟩))
theorem v_wd {c b : Nat} (h : c < ν 0) (hb : b < 2) : vr ν 3 c b := Or.inr (Or.inr (Or.inl ⟨Or.inr rfl, h, hb⟩))
theorem v_en {e : Nat} (h1 : 1 ≤ e) (h : e ≤ ν 1) : vr ν 4 e 0 := Or.inr (Or.inr (Or.inr (Or.inl ⟨Or.inl rfl, h1, h, rfl⟩)))
theorem v_eb {e : Nat} (h1 : 1 ≤ e) (h : e ≤ ν 1) : vr ν 5 e 0 := Or.inr (Or.inr (Or.inr (Or.inl ⟨Or.inr rfl, h1, h, rfl⟩)))
theorem v_dr {d : Nat} (h : d < 200) : vr ν 6 d 0 := Or.inr (Or.inr (Or.inr (Or.inr ⟨rfl, h, rfl⟩)))
theorem v_0 {i : Nat} (h : i ≤ 9) (h2 : i ≠ 2) (h5 : i ≠ 5) : vr ν 0 i 0 := Or.inl ⟨rfl, h, rfl, fun z => absurd z h2, fun z => absurd z h5⟩
theorem v_02 (h : 0 < ν 2) : vr ν 0 2 0 := Or.inl ⟨rfl, by decide, rfl, fun _ => h, fun z => absurd z (by decide)⟩
theorem v_05 (h : 0 < ν 3) : vr ν 0 5 0 := Or.inl ⟨rfl, by decide, rfl, fun z => absurd z (by decide), fun _ => h⟩
end VR
section HWS
variable {g : GG} {α : AL3} {ν : Nat → Nat} {χ : SG} {M : MW}
theorem hw_card (h : HW g α ν χ M) {c : Nat} (hc : c < ν 0) : M (α 1 c 0) = some (.inr (1, [.int (χ 1 c), .int (χ 2 c), .ref (α 2 c 0), .ref (α 2 c 1), .int (χ 6 c), .int (χ 3 c), .int (χ 16 c), .int (χ 4 c)])) := h.1 _ _ _ (v_card hc)
theorem hw_im (h : HW g α ν χ M) {c b : Nat} (hc : c < ν 0) (hb : b < 2) : M (α 2 c b) = some (.inr (5, [.ref (α 3 c b)])) := h.1 _ _ _ (v_im hc hb)
theorem hw_wd (h : HW g α ν χ M) {c b : Nat} (hc : c < ν 0) (hb : b < 2) : M (α 3 c b) = some (.inl (g.2 1, 44, .inl (χ (rW c b)))) := h.1 _ _ _ (v_wd hc hb)
theorem hw_en (h : HW g α ν χ M) {e : Nat} (h1 : 1 ≤ e) (he : e ≤ ν 1) : M (α 4 e 0) = some (.inr (3, [.int (χ 7 e), .ref (α 5 e 0)])) := h.1 _ _ _ (v_en h1 he)
theorem hw_eb (h : HW g α ν χ M) {e : Nat} (h1 : 1 ≤ e) (he : e ≤ ν 1) : M (α 5 e 0) = some (.inl (g.2 2, 200, .inl (χ (rH e)))) := h.1 _ _ _ (v_eb h1 he)
theorem hw_dr (h : HW g α ν χ M) {d : Nat} (hd : d < 200) : M (α 6 d 0) = some (.inr (2, [.int (nI d), .int (χ 9 d), .int (χ 11 d), .int (χ 17 d), .int (χ 10 d)])) := h.1 _ _ _ (v_dr hd)
theorem hw_00 (h : HW g α ν χ M) : M (α 0 0 0) = some (.inr (6, [.ref (α 0 1 0), .ref (α 0 3 0), .ref (α 0 6 0), .ref (α 0 7 0), .ref (α 0 8 0), .ref (α 0 9 0)])) := h.1 _ _ _ (v_0 (by decide) (by decide) (by decide))
theorem hw_01 (h : HW g α ν χ M) : M (α 0 1 0) = some (.inr (0, [.ref (α 0 2 0), .int (nI (ν 0)), .int (χ 0 3)])) := h.1 _ _ _ (v_0 (by decide) (by decide) (by decide))
theorem hw_03 (h : HW g α ν χ M) : M (α 0 3 0) = some (.inr (4, [.ref (α 0 4 0)])) := h.1 _ _ _ (v_0 (by decide) (by decide) (by decide))
theorem hw_04 (h : HW g α ν χ M) : M (α 0 4 0) = some (.inr (0, [.ref (α 0 5 0), .int (nI (ν 1)), .int (χ 0 4)])) := h.1 _ _ _ (v_0 (by decide) (by decide) (by decide))
theorem hw_06 (h : HW g α ν χ M) : M (α 0 6 0) = some (.inl (g.2 4, 200, .inr (.inr (.inr (.inr (fun q => if q < 200 then some (α 6 q 0) else none)))))) := h.1 _ _ _ (v_0 (by decide) (by decide) (by decide))
theorem hw_07 (h : HW g α ν χ M) : M (α 0 7 0) = some (.inl (g.2 0, 200, .inl (χ 13))) := h.1 _ _ _ (v_0 (by decide) (by decide) (by decide))
theorem hw_08 (h : HW g α ν χ M) : M (α 0 8 0) = some (.inl (g.2 0, 200, .inl (χ 14))) := h.1 _ _ _ (v_0 (by decide) (by decide) (by decide))
theorem hw_09 (h : HW g α ν χ M) : M (α 0 9 0) = some (.inl (g.2 0, 200, .inl (χ 15))) := h.1 _ _ _ (v_0 (by decide) (by decide) (by decide))
theorem hw_02 (h : HW g α ν χ M) (h2 : 0 < ν 2) : M (α 0 2 0) = some (.inl (g.2 5, ν 2, .inr (.inr (.inr (.inr (fun q => if q < ν 0 then some (α 1 q 0) else none)))))) := h.1 _ _ _ (v_02 h2)
theorem hw_05 (h : HW g α ν χ M) (h2 : 0 < ν 3) : M (α 0 5 0) = some (.inl (g.2 5, ν 3, .inr (.inr (.inr (.inr (fun q => if q < ν 1 then some (α 4 (q + 1) 0) else none)))))) := h.1 _ _ _ (v_05 h2)
theorem hws_wd {c b k : Nat} {v : Int32} (h : HW g α ν χ M) (hc : c < ν 0) (hb : b < 2) : HW g α ν (su χ (rW c b) k v) (mu M (α 3 c b) (.inl (g.2 1, 44, .inl (upd (χ (rW c b)) k v)))) := by
  refine h.upd (v_wd hc hb) (by simp only [cel]; rw [su_f]) ?_
  intro k' i' j' hv hne
  rcases hv with ⟨rfl, h9, rfl, -, -⟩ | ⟨rfl, h9, rfl⟩ | ⟨rfl | rfl, h9, h8⟩ | ⟨rfl | rfl, h8, h9, rfl⟩ | ⟨rfl, h9, rfl⟩
  · rcases (show i' = 0 ∨ i' = 1 ∨ i' = 2 ∨ i' = 3 ∨ i' = 4 ∨ i' = 5 ∨ i' = 6 ∨ i' = 7 ∨ i' = 8 ∨ i' = 9 by omega) with rfl | rfl | rfl | rfl | rfl | rfl | rfl | rfl | rfl | rfl <;> first | rfl | (simp only [cel]; rw [su_kf (by first | decide | (unfold rW; omega) | (unfold rH; omega))]; done) | (simp only [cel]; rw [su_k (by first | decide | (unfold rW; omega) | (unfold rH; omega))]; done) | exact absurd ⟨rfl, rfl, rfl⟩ hne
  · simp only [cel]; simp only [su_k (show (1 : Nat) ≠ rW c b by first | decide | (unfold rW; omega) | (unfold rH; omega)), su_k (show (2 : Nat) ≠ rW c b by first | decide | (unfold rW; omega) | (unfold rH; omega)), su_k (show (6 : Nat) ≠ rW c b by first | decide | (unfold rW; omega) | (unfold rH; omega)), su_k (show (3 : Nat) ≠ rW c b by first | decide | (unfold rW; omega) | (unfold rH; omega)), su_k (show (16 : Nat) ≠ rW c b by first | decide | (unfold rW; omega) | (unfold rH; omega)), su_k (show (4 : Nat) ≠ rW c b by first | decide | (unfold rW; omega) | (unfold rH; omega))]
  · rfl
  · simp only [cel]; rw [su_kf (fun z => hne (by unfold rW at z; exact ⟨rfl, by omega, by omega⟩))]
  · simp only [cel]; simp only [su_k (show (7 : Nat) ≠ rW c b by first | decide | (unfold rW; omega) | (unfold rH; omega))]
  · simp only [cel]; rw [su_kf (by first | decide | (unfold rW; omega) | (unfold rH; omega) | (unfold rW rH; omega))]
  · simp only [cel]; simp only [su_k (show (9 : Nat) ≠ rW c b by first | decide | (unfold rW; omega) | (unfold rH; omega)), su_k (show (11 : Nat) ≠ rW c b by first | decide | (unfold rW; omega) | (unfold rH; omega)), su_k (show (17 : Nat) ≠ rW c b by first | decide | (unfold rW; omega) | (unfold rH; omega)), su_k (show (10 : Nat) ≠ rW c b by first | decide | (unfold rW; omega) | (unfold rH; omega))]
theorem hws_eb {e k : Nat} {v : Int32} (h : HW g α ν χ M) (h1 : 1 ≤ e) (he : e ≤ ν 1) : HW g α ν (su χ (rH e) k v) (mu M (α 5 e 0) (.inl (g.2 2, 200, .inl (upd (χ (rH e)) k v)))) := by
  refine h.upd (v_eb h1 he) (by simp only [cel]; rw [su_f]) ?_
  intro k' i' j' hv hne
  rcases hv with ⟨rfl, h9, rfl, -, -⟩ | ⟨rfl, h9, rfl⟩ | ⟨rfl | rfl, h9, h8⟩ | ⟨rfl | rfl, h8, h9, rfl⟩ | ⟨rfl, h9, rfl⟩
  · rcases (show i' = 0 ∨ i' = 1 ∨ i' = 2 ∨ i' = 3 ∨ i' = 4 ∨ i' = 5 ∨ i' = 6 ∨ i' = 7 ∨ i' = 8 ∨ i' = 9 by omega) with rfl | rfl | rfl | rfl | rfl | rfl | rfl | rfl | rfl | rfl <;> first | rfl | (simp only [cel]; rw [su_kf (by first | decide | (unfold rW; omega) | (unfold rH; omega))]; done) | (simp only [cel]; rw [su_k (by first | decide | (unfold rW; omega) | (unfold rH; omega))]; done) | exact absurd ⟨rfl, rfl, rfl⟩ hne
  · simp only [cel]; simp only [su_k (show (1 : Nat) ≠ rH e by first | decide | (unfold rW; omega) | (unfold rH; omega)), su_k (show (2 : Nat) ≠ rH e by first | decide | (unfold rW; omega) | (unfold rH; omega)), su_k (show (6 : Nat) ≠ rH e by first | decide | (unfold rW; omega) | (unfold rH; omega)), su_k (show (3 : Nat) ≠ rH e by first | decide | (unfold rW; omega) | (unfold rH; omega)), su_k (show (16 : Nat) ≠ rH e by first | decide | (unfold rW; omega) | (unfold rH; omega)), su_k (show (4 : Nat) ≠ rH e by first | decide | (unfold rW; omega) | (unfold rH; omega))]
  · rfl
  · simp only [cel]; rw [su_kf (by first | decide | (unfold rW; omega) | (unfold rH; omega) | (unfold rW rH; omega))]
  · simp only [cel]; simp only [su_k (show (7 : Nat) ≠ rH e by first | decide | (unfold rW; omega) | (unfold rH; omega))]
  · simp only [cel]; rw [su_kf (fun z => hne (by unfold rH at z; exact ⟨rfl, by omega, rfl⟩))]
  · simp only [cel]; simp only [su_k (show (9 : Nat) ≠ rH e by first | decide | (unfold rW; omega) | (unfold rH; omega)), su_k (show (11 : Nat) ≠ rH e by first | decide | (unfold rW; omega) | (unfold rH; omega)), su_k (show (17 : Nat) ≠ rH e by first | decide | (unfold rW; omega) | (unfold rH; omega)), su_k (show (10 : Nat) ≠ rH e by first | decide | (unfold rW; omega) | (unfold rH; omega))]
theorem hws_c6 {c : Nat} {v : Int32} (h : HW g α ν χ M) (hc : c < ν 0) : HW g α ν (su χ 6 c v) (mu M (α 1 c 0) (.inr (1, [.int (χ 1 c), .int (χ 2 c), .ref (α 2 c 0), .ref (α 2 c 1), .int v, .int (χ 3 c), .int (χ 16 c), .int (χ 4 c)]))) := by
  refine h.upd (v_card hc) (by simp only [cel, su_s, su_k (show (1 : Nat) ≠ 6 by decide), su_k (show (2 : Nat) ≠ 6 by decide), su_k (show (3 : Nat) ≠ 6 by decide), su_k (show (16 : Nat) ≠ 6 by decide), su_k (show (4 : Nat) ≠ 6 by decide)]) ?_
  intro k' i' j' hv hne
  rcases hv with ⟨rfl, h9, rfl, -, -⟩ | ⟨rfl, h9, rfl⟩ | ⟨rfl | rfl, h9, h8⟩ | ⟨rfl | rfl, h8, h9, rfl⟩ | ⟨rfl, h9, rfl⟩
  · rcases (show i' = 0 ∨ i' = 1 ∨ i' = 2 ∨ i' = 3 ∨ i' = 4 ∨ i' = 5 ∨ i' = 6 ∨ i' = 7 ∨ i' = 8 ∨ i' = 9 by omega) with rfl | rfl | rfl | rfl | rfl | rfl | rfl | rfl | rfl | rfl <;> first | rfl | (simp only [cel]; rw [su_kf (by first | decide | (unfold rW; omega) | (unfold rH; omega))]; done) | (simp only [cel]; rw [su_k (by first | decide | (unfold rW; omega) | (unfold rH; omega))]; done) | exact absurd ⟨rfl, rfl, rfl⟩ hne
  · simp only [cel]; simp only [su_k (show (1 : Nat) ≠ 6 by decide), su_k (show (2 : Nat) ≠ 6 by decide), su_i (show i' ≠ c from fun z => hne ⟨rfl, z, rfl⟩), su_k (show (3 : Nat) ≠ 6 by decide), su_k (show (16 : Nat) ≠ 6 by decide), su_k (show (4 : Nat) ≠ 6 by decide)]
  · rfl
  · simp only [cel]; rw [su_kf (by first | decide | (unfold rW; omega) | (unfold rH; omega) | (unfold rW rH; omega))]
  · simp only [cel]; simp only [su_k (show (7 : Nat) ≠ 6 by first | decide | (unfold rW; omega) | (unfold rH; omega))]
  · simp only [cel]; rw [su_kf (by first | decide | (unfold rW; omega) | (unfold rH; omega) | (unfold rW rH; omega))]
  · simp only [cel]; simp only [su_k (show (9 : Nat) ≠ 6 by first | decide | (unfold rW; omega) | (unfold rH; omega)), su_k (show (11 : Nat) ≠ 6 by first | decide | (unfold rW; omega) | (unfold rH; omega)), su_k (show (17 : Nat) ≠ 6 by first | decide | (unfold rW; omega) | (unfold rH; omega)), su_k (show (10 : Nat) ≠ 6 by first | decide | (unfold rW; omega) | (unfold rH; omega))]
theorem hws_c3 {c : Nat} {v : Int32} (h : HW g α ν χ M) (hc : c < ν 0) : HW g α ν (su χ 3 c v) (mu M (α 1 c 0) (.inr (1, [.int (χ 1 c), .int (χ 2 c), .ref (α 2 c 0), .ref (α 2 c 1), .int (χ 6 c), .int v, .int (χ 16 c), .int (χ 4 c)]))) := by
  refine h.upd (v_card hc) (by simp only [cel, su_s, su_k (show (1 : Nat) ≠ 3 by decide), su_k (show (2 : Nat) ≠ 3 by decide), su_k (show (6 : Nat) ≠ 3 by decide), su_k (show (16 : Nat) ≠ 3 by decide), su_k (show (4 : Nat) ≠ 3 by decide)]) ?_
  intro k' i' j' hv hne
  rcases hv with ⟨rfl, h9, rfl, -, -⟩ | ⟨rfl, h9, rfl⟩ | ⟨rfl | rfl, h9, h8⟩ | ⟨rfl | rfl, h8, h9, rfl⟩ | ⟨rfl, h9, rfl⟩
  · rcases (show i' = 0 ∨ i' = 1 ∨ i' = 2 ∨ i' = 3 ∨ i' = 4 ∨ i' = 5 ∨ i' = 6 ∨ i' = 7 ∨ i' = 8 ∨ i' = 9 by omega) with rfl | rfl | rfl | rfl | rfl | rfl | rfl | rfl | rfl | rfl <;> first | rfl | (simp only [cel]; rw [su_kf (by first | decide | (unfold rW; omega) | (unfold rH; omega))]; done) | (simp only [cel]; rw [su_k (by first | decide | (unfold rW; omega) | (unfold rH; omega))]; done) | exact absurd ⟨rfl, rfl, rfl⟩ hne
  · simp only [cel]; simp only [su_k (show (1 : Nat) ≠ 3 by decide), su_k (show (2 : Nat) ≠ 3 by decide), su_k (show (6 : Nat) ≠ 3 by decide), su_i (show i' ≠ c from fun z => hne ⟨rfl, z, rfl⟩), su_k (show (16 : Nat) ≠ 3 by decide), su_k (show (4 : Nat) ≠ 3 by decide)]
  · rfl
  · simp only [cel]; rw [su_kf (by first | decide | (unfold rW; omega) | (unfold rH; omega) | (unfold rW rH; omega))]
  · simp only [cel]; simp only [su_k (show (7 : Nat) ≠ 3 by first | decide | (unfold rW; omega) | (unfold rH; omega))]
  · simp only [cel]; rw [su_kf (by first | decide | (unfold rW; omega) | (unfold rH; omega) | (unfold rW rH; omega))]
  · simp only [cel]; simp only [su_k (show (9 : Nat) ≠ 3 by first | decide | (unfold rW; omega) | (unfold rH; omega)), su_k (show (11 : Nat) ≠ 3 by first | decide | (unfold rW; omega) | (unfold rH; omega)), su_k (show (17 : Nat) ≠ 3 by first | decide | (unfold rW; omega) | (unfold rH; omega)), su_k (show (10 : Nat) ≠ 3 by first | decide | (unfold rW; omega) | (unfold rH; omega))]
theorem hws_c16 {c : Nat} {v : Int32} (h : HW g α ν χ M) (hc : c < ν 0) : HW g α ν (su χ 16 c v) (mu M (α 1 c 0) (.inr (1, [.int (χ 1 c), .int (χ 2 c), .ref (α 2 c 0), .ref (α 2 c 1), .int (χ 6 c), .int (χ 3 c), .int v, .int (χ 4 c)]))) := by
  refine h.upd (v_card hc) (by simp only [cel, su_s, su_k (show (1 : Nat) ≠ 16 by decide), su_k (show (2 : Nat) ≠ 16 by decide), su_k (show (6 : Nat) ≠ 16 by decide), su_k (show (3 : Nat) ≠ 16 by decide), su_k (show (4 : Nat) ≠ 16 by decide)]) ?_
  intro k' i' j' hv hne
  rcases hv with ⟨rfl, h9, rfl, -, -⟩ | ⟨rfl, h9, rfl⟩ | ⟨rfl | rfl, h9, h8⟩ | ⟨rfl | rfl, h8, h9, rfl⟩ | ⟨rfl, h9, rfl⟩
  · rcases (show i' = 0 ∨ i' = 1 ∨ i' = 2 ∨ i' = 3 ∨ i' = 4 ∨ i' = 5 ∨ i' = 6 ∨ i' = 7 ∨ i' = 8 ∨ i' = 9 by omega) with rfl | rfl | rfl | rfl | rfl | rfl | rfl | rfl | rfl | rfl <;> first | rfl | (simp only [cel]; rw [su_kf (by first | decide | (unfold rW; omega) | (unfold rH; omega))]; done) | (simp only [cel]; rw [su_k (by first | decide | (unfold rW; omega) | (unfold rH; omega))]; done) | exact absurd ⟨rfl, rfl, rfl⟩ hne
  · simp only [cel]; simp only [su_k (show (1 : Nat) ≠ 16 by decide), su_k (show (2 : Nat) ≠ 16 by decide), su_k (show (6 : Nat) ≠ 16 by decide), su_k (show (3 : Nat) ≠ 16 by decide), su_i (show i' ≠ c from fun z => hne ⟨rfl, z, rfl⟩), su_k (show (4 : Nat) ≠ 16 by decide)]
  · rfl
  · simp only [cel]; rw [su_kf (by first | decide | (unfold rW; omega) | (unfold rH; omega) | (unfold rW rH; omega))]
  · simp only [cel]; simp only [su_k (show (7 : Nat) ≠ 16 by first | decide | (unfold rW; omega) | (unfold rH; omega))]
  · simp only [cel]; rw [su_kf (by first | decide | (unfold rW; omega) | (unfold rH; omega) | (unfold rW rH; omega))]
  · simp only [cel]; simp only [su_k (show (9 : Nat) ≠ 16 by first | decide | (unfold rW; omega) | (unfold rH; omega)), su_k (show (11 : Nat) ≠ 16 by first | decide | (unfold rW; omega) | (unfold rH; omega)), su_k (show (17 : Nat) ≠ 16 by first | decide | (unfold rW; omega) | (unfold rH; omega)), su_k (show (10 : Nat) ≠ 16 by first | decide | (unfold rW; omega) | (unfold rH; omega))]
theorem hws_c4 {c : Nat} {v : Int32} (h : HW g α ν χ M) (hc : c < ν 0) : HW g α ν (su χ 4 c v) (mu M (α 1 c 0) (.inr (1, [.int (χ 1 c), .int (χ 2 c), .ref (α 2 c 0), .ref (α 2 c 1), .int (χ 6 c), .int (χ 3 c), .int (χ 16 c), .int v]))) := by
  refine h.upd (v_card hc) (by simp only [cel, su_s, su_k (show (1 : Nat) ≠ 4 by decide), su_k (show (2 : Nat) ≠ 4 by decide), su_k (show (6 : Nat) ≠ 4 by decide), su_k (show (3 : Nat) ≠ 4 by decide), su_k (show (16 : Nat) ≠ 4 by decide)]) ?_
  intro k' i' j' hv hne
  rcases hv with ⟨rfl, h9, rfl, -, -⟩ | ⟨rfl, h9, rfl⟩ | ⟨rfl | rfl, h9, h8⟩ | ⟨rfl | rfl, h8, h9, rfl⟩ | ⟨rfl, h9, rfl⟩
  · rcases (show i' = 0 ∨ i' = 1 ∨ i' = 2 ∨ i' = 3 ∨ i' = 4 ∨ i' = 5 ∨ i' = 6 ∨ i' = 7 ∨ i' = 8 ∨ i' = 9 by omega) with rfl | rfl | rfl | rfl | rfl | rfl | rfl | rfl | rfl | rfl <;> first | rfl | (simp only [cel]; rw [su_kf (by first | decide | (unfold rW; omega) | (unfold rH; omega))]; done) | (simp only [cel]; rw [su_k (by first | decide | (unfold rW; omega) | (unfold rH; omega))]; done) | exact absurd ⟨rfl, rfl, rfl⟩ hne
  · simp only [cel]; simp only [su_k (show (1 : Nat) ≠ 4 by decide), su_k (show (2 : Nat) ≠ 4 by decide), su_k (show (6 : Nat) ≠ 4 by decide), su_k (show (3 : Nat) ≠ 4 by decide), su_k (show (16 : Nat) ≠ 4 by decide), su_i (show i' ≠ c from fun z => hne ⟨rfl, z, rfl⟩)]
  · rfl
  · simp only [cel]; rw [su_kf (by first | decide | (unfold rW; omega) | (unfold rH; omega) | (unfold rW rH; omega))]
  · simp only [cel]; simp only [su_k (show (7 : Nat) ≠ 4 by first | decide | (unfold rW; omega) | (unfold rH; omega))]
  · simp only [cel]; rw [su_kf (by first | decide | (unfold rW; omega) | (unfold rH; omega) | (unfold rW rH; omega))]
  · simp only [cel]; simp only [su_k (show (9 : Nat) ≠ 4 by first | decide | (unfold rW; omega) | (unfold rH; omega)), su_k (show (11 : Nat) ≠ 4 by first | decide | (unfold rW; omega) | (unfold rH; omega)), su_k (show (17 : Nat) ≠ 4 by first | decide | (unfold rW; omega) | (unfold rH; omega)), su_k (show (10 : Nat) ≠ 4 by first | decide | (unfold rW; omega) | (unfold rH; omega))]
theorem hws_d9 {d : Nat} {v : Int32} (h : HW g α ν χ M) (hd : d < 200) : HW g α ν (su χ 9 d v) (mu M (α 6 d 0) (.inr (2, [.int (nI d), .int v, .int (χ 11 d), .int (χ 17 d), .int (χ 10 d)]))) := by
  refine h.upd (v_dr hd) (by simp only [cel, su_s, su_k (show (11 : Nat) ≠ 9 by decide), su_k (show (17 : Nat) ≠ 9 by decide), su_k (show (10 : Nat) ≠ 9 by decide)]) ?_
  intro k' i' j' hv hne
  rcases hv with ⟨rfl, h9, rfl, -, -⟩ | ⟨rfl, h9, rfl⟩ | ⟨rfl | rfl, h9, h8⟩ | ⟨rfl | rfl, h8, h9, rfl⟩ | ⟨rfl, h9, rfl⟩
  · rcases (show i' = 0 ∨ i' = 1 ∨ i' = 2 ∨ i' = 3 ∨ i' = 4 ∨ i' = 5 ∨ i' = 6 ∨ i' = 7 ∨ i' = 8 ∨ i' = 9 by omega) with rfl | rfl | rfl | rfl | rfl | rfl | rfl | rfl | rfl | rfl <;> first | rfl | (simp only [cel]; rw [su_kf (by first | decide | (unfold rW; omega) | (unfold rH; omega))]; done) | (simp only [cel]; rw [su_k (by first | decide | (unfold rW; omega) | (unfold rH; omega))]; done) | exact absurd ⟨rfl, rfl, rfl⟩ hne
  · simp only [cel]; simp only [su_k (show (1 : Nat) ≠ 9 by first | decide | (unfold rW; omega) | (unfold rH; omega)), su_k (show (2 : Nat) ≠ 9 by first | decide | (unfold rW; omega) | (unfold rH; omega)), su_k (show (6 : Nat) ≠ 9 by first | decide | (unfold rW; omega) | (unfold rH; omega)), su_k (show (3 : Nat) ≠ 9 by first | decide | (unfold rW; omega) | (unfold rH; omega)), su_k (show (16 : Nat) ≠ 9 by first | decide | (unfold rW; omega) | (unfold rH; omega)), su_k (show (4 : Nat) ≠ 9 by first | decide | (unfold rW; omega) | (unfold rH; omega))]
  · rfl
  · simp only [cel]; rw [su_kf (by first | decide | (unfold rW; omega) | (unfold rH; omega) | (unfold rW rH; omega))]
  · simp only [cel]; simp only [su_k (show (7 : Nat) ≠ 9 by first | decide | (unfold rW; omega) | (unfold rH; omega))]
  · simp only [cel]; rw [su_kf (by first | decide | (unfold rW; omega) | (unfold rH; omega) | (unfold rW rH; omega))]
  · simp only [cel]; simp only [su_i (show i' ≠ d from fun z => hne ⟨rfl, z, rfl⟩), su_k (show (11 : Nat) ≠ 9 by decide), su_k (show (17 : Nat) ≠ 9 by decide), su_k (show (10 : Nat) ≠ 9 by decide)]
theorem hws_d11 {d : Nat} {v : Int32} (h : HW g α ν χ M) (hd : d < 200) : HW g α ν (su χ 11 d v) (mu M (α 6 d 0) (.inr (2, [.int (nI d), .int (χ 9 d), .int v, .int (χ 17 d), .int (χ 10 d)]))) := by
  refine h.upd (v_dr hd) (by simp only [cel, su_s, su_k (show (9 : Nat) ≠ 11 by decide), su_k (show (17 : Nat) ≠ 11 by decide), su_k (show (10 : Nat) ≠ 11 by decide)]) ?_
  intro k' i' j' hv hne
  rcases hv with ⟨rfl, h9, rfl, -, -⟩ | ⟨rfl, h9, rfl⟩ | ⟨rfl | rfl, h9, h8⟩ | ⟨rfl | rfl, h8, h9, rfl⟩ | ⟨rfl, h9, rfl⟩
  · rcases (show i' = 0 ∨ i' = 1 ∨ i' = 2 ∨ i' = 3 ∨ i' = 4 ∨ i' = 5 ∨ i' = 6 ∨ i' = 7 ∨ i' = 8 ∨ i' = 9 by omega) with rfl | rfl | rfl | rfl | rfl | rfl | rfl | rfl | rfl | rfl <;> first | rfl | (simp only [cel]; rw [su_kf (by first | decide | (unfold rW; omega) | (unfold rH; omega))]; done) | (simp only [cel]; rw [su_k (by first | decide | (unfold rW; omega) | (unfold rH; omega))]; done) | exact absurd ⟨rfl, rfl, rfl⟩ hne
  · simp only [cel]; simp only [su_k (show (1 : Nat) ≠ 11 by first | decide | (unfold rW; omega) | (unfold rH; omega)), su_k (show (2 : Nat) ≠ 11 by first | decide | (unfold rW; omega) | (unfold rH; omega)), su_k (show (6 : Nat) ≠ 11 by first | decide | (unfold rW; omega) | (unfold rH; omega)), su_k (show (3 : Nat) ≠ 11 by first | decide | (unfold rW; omega) | (unfold rH; omega)), su_k (show (16 : Nat) ≠ 11 by first | decide | (unfold rW; omega) | (unfold rH; omega)), su_k (show (4 : Nat) ≠ 11 by first | decide | (unfold rW; omega) | (unfold rH; omega))]
  · rfl
  · simp only [cel]; rw [su_kf (by first | decide | (unfold rW; omega) | (unfold rH; omega) | (unfold rW rH; omega))]
  · simp only [cel]; simp only [su_k (show (7 : Nat) ≠ 11 by first | decide | (unfold rW; omega) | (unfold rH; omega))]
  · simp only [cel]; rw [su_kf (by first | decide | (unfold rW; omega) | (unfold rH; omega) | (unfold rW rH; omega))]
  · simp only [cel]; simp only [su_k (show (9 : Nat) ≠ 11 by decide), su_i (show i' ≠ d from fun z => hne ⟨rfl, z, rfl⟩), su_k (show (17 : Nat) ≠ 11 by decide), su_k (show (10 : Nat) ≠ 11 by decide)]
theorem hws_d17 {d : Nat} {v : Int32} (h : HW g α ν χ M) (hd : d < 200) : HW g α ν (su χ 17 d v) (mu M (α 6 d 0) (.inr (2, [.int (nI d), .int (χ 9 d), .int (χ 11 d), .int v, .int (χ 10 d)]))) := by
  refine h.upd (v_dr hd) (by simp only [cel, su_s, su_k (show (9 : Nat) ≠ 17 by decide), su_k (show (11 : Nat) ≠ 17 by decide), su_k (show (10 : Nat) ≠ 17 by decide)]) ?_
  intro k' i' j' hv hne
  rcases hv with ⟨rfl, h9, rfl, -, -⟩ | ⟨rfl, h9, rfl⟩ | ⟨rfl | rfl, h9, h8⟩ | ⟨rfl | rfl, h8, h9, rfl⟩ | ⟨rfl, h9, rfl⟩
  · rcases (show i' = 0 ∨ i' = 1 ∨ i' = 2 ∨ i' = 3 ∨ i' = 4 ∨ i' = 5 ∨ i' = 6 ∨ i' = 7 ∨ i' = 8 ∨ i' = 9 by omega) with rfl | rfl | rfl | rfl | rfl | rfl | rfl | rfl | rfl | rfl <;> first | rfl | (simp only [cel]; rw [su_kf (by first | decide | (unfold rW; omega) | (unfold rH; omega))]; done) | (simp only [cel]; rw [su_k (by first | decide | (unfold rW; omega) | (unfold rH; omega))]; done) | exact absurd ⟨rfl, rfl, rfl⟩ hne
  · simp only [cel]; simp only [su_k (show (1 : Nat) ≠ 17 by first | decide | (unfold rW; omega) | (unfold rH; omega)), su_k (show (2 : Nat) ≠ 17 by first | decide | (unfold rW; omega) | (unfold rH; omega)), su_k (show (6 : Nat) ≠ 17 by first | decide | (unfold rW; omega) | (unfold rH; omega)), su_k (show (3 : Nat) ≠ 17 by first | decide | (unfold rW; omega) | (unfold rH; omega)), su_k (show (16 : Nat) ≠ 17 by first | decide | (unfold rW; omega) | (unfold rH; omega)), su_k (show (4 : Nat) ≠ 17 by first | decide | (unfold rW; omega) | (unfold rH; omega))]
  · rfl
  · simp only [cel]; rw [su_kf (by first | decide | (unfold rW; omega) | (unfold rH; omega) | (unfold rW rH; omega))]
  · simp only [cel]; simp only [su_k (show (7 : Nat) ≠ 17 by first | decide | (unfold rW; omega) | (unfold rH; omega))]
  · simp only [cel]; rw [su_kf (by first | decide | (unfold rW; omega) | (unfold rH; omega) | (unfold rW rH; omega))]
  · simp only [cel]; simp only [su_k (show (9 : Nat) ≠ 17 by decide), su_k (show (11 : Nat) ≠ 17 by decide), su_i (show i' ≠ d from fun z => hne ⟨rfl, z, rfl⟩), su_k (show (10 : Nat) ≠ 17 by decide)]
theorem hws_d10 {d : Nat} {v : Int32} (h : HW g α ν χ M) (hd : d < 200) : HW g α ν (su χ 10 d v) (mu M (α 6 d 0) (.inr (2, [.int (nI d), .int (χ 9 d), .int (χ 11 d), .int (χ 17 d), .int v]))) := by
  refine h.upd (v_dr hd) (by simp only [cel, su_s, su_k (show (9 : Nat) ≠ 10 by decide), su_k (show (11 : Nat) ≠ 10 by decide), su_k (show (17 : Nat) ≠ 10 by decide)]) ?_
  intro k' i' j' hv hne
  rcases hv with ⟨rfl, h9, rfl, -, -⟩ | ⟨rfl, h9, rfl⟩ | ⟨rfl | rfl, h9, h8⟩ | ⟨rfl | rfl, h8, h9, rfl⟩ | ⟨rfl, h9, rfl⟩
  · rcases (show i' = 0 ∨ i' = 1 ∨ i' = 2 ∨ i' = 3 ∨ i' = 4 ∨ i' = 5 ∨ i' = 6 ∨ i' = 7 ∨ i' = 8 ∨ i' = 9 by omega) with rfl | rfl | rfl | rfl | rfl | rfl | rfl | rfl | rfl | rfl <;> first | rfl | (simp only [cel]; rw [su_kf (by first | decide | (unfold rW; omega) | (unfold rH; omega))]; done) | (simp only [cel]; rw [su_k (by first | decide | (unfold rW; omega) | (unfold rH; omega))]; done) | exact absurd ⟨rfl, rfl, rfl⟩ hne
  · simp only [cel]; simp only [su_k (show (1 : Nat) ≠ 10 by first | decide | (unfold rW; omega) | (unfold rH; omega)), su_k (show (2 : Nat) ≠ 10 by first | decide | (unfold rW; omega) | (unfold rH; omega)), su_k (show (6 : Nat) ≠ 10 by first | decide | (unfold rW; omega) | (unfold rH; omega)), su_k (show (3 : Nat) ≠ 10 by first | decide | (unfold rW; omega) | (unfold rH; omega)), su_k (show (16 : Nat) ≠ 10 by first | decide | (unfold rW; omega) | (unfold rH; omega)), su_k (show (4 : Nat) ≠ 10 by first | decide | (unfold rW; omega) | (unfold rH; omega))]
  · rfl
  · simp only [cel]; rw [su_kf (by first | decide | (unfold rW; omega) | (unfold rH; omega) | (unfold rW rH; omega))]
  · simp only [cel]; simp only [su_k (show (7 : Nat) ≠ 10 by first | decide | (unfold rW; omega) | (unfold rH; omega))]
  · simp only [cel]; rw [su_kf (by first | decide | (unfold rW; omega) | (unfold rH; omega) | (unfold rW rH; omega))]
  · simp only [cel]; simp only [su_k (show (9 : Nat) ≠ 10 by decide), su_k (show (11 : Nat) ≠ 10 by decide), su_k (show (17 : Nat) ≠ 10 by decide), su_i (show i' ≠ d from fun z => hne ⟨rfl, z, rfl⟩)]
theorem hws_v13 {k : Nat} {v : Int32} (h : HW g α ν χ M) : HW g α ν (su χ 13 k v) (mu M (α 0 7 0) (.inl (g.2 0, 200, .inl (upd (χ 13) k v)))) := by
  refine h.upd (v_0 (by decide) (by decide) (by decide)) (by simp only [cel]; rw [su_f]) ?_
  intro k' i' j' hv hne
  rcases hv with ⟨rfl, h9, rfl, -, -⟩ | ⟨rfl, h9, rfl⟩ | ⟨rfl | rfl, h9, h8⟩ | ⟨rfl | rfl, h8, h9, rfl⟩ | ⟨rfl, h9, rfl⟩
  · rcases (show i' = 0 ∨ i' = 1 ∨ i' = 2 ∨ i' = 3 ∨ i' = 4 ∨ i' = 5 ∨ i' = 6 ∨ i' = 7 ∨ i' = 8 ∨ i' = 9 by omega) with rfl | rfl | rfl | rfl | rfl | rfl | rfl | rfl | rfl | rfl <;> first | rfl | (simp only [cel]; rw [su_kf (by first | decide | (unfold rW; omega) | (unfold rH; omega))]; done) | (simp only [cel]; rw [su_k (by first | decide | (unfold rW; omega) | (unfold rH; omega))]; done) | exact absurd ⟨rfl, rfl, rfl⟩ hne
  · simp only [cel]; simp only [su_k (show (1 : Nat) ≠ 13 by first | decide | (unfold rW; omega) | (unfold rH; omega)), su_k (show (2 : Nat) ≠ 13 by first | decide | (unfold rW; omega) | (unfold rH; omega)), su_k (show (6 : Nat) ≠ 13 by first | decide | (unfold rW; omega) | (unfold rH; omega)), su_k (show (3 : Nat) ≠ 13 by first | decide | (unfold rW; omega) | (unfold rH; omega)), su_k (show (16 : Nat) ≠ 13 by first | decide | (unfold rW; omega) | (unfold rH; omega)), su_k (show (4 : Nat) ≠ 13 by first | decide | (unfold rW; omega) | (unfold rH; omega))]
  · rfl
  · simp only [cel]; rw [su_kf (by first | decide | (unfold rW; omega) | (unfold rH; omega) | (unfold rW rH; omega))]
  · simp only [cel]; simp only [su_k (show (7 : Nat) ≠ 13 by first | decide | (unfold rW; omega) | (unfold rH; omega))]
  · simp only [cel]; rw [su_kf (by first | decide | (unfold rW; omega) | (unfold rH; omega) | (unfold rW rH; omega))]
  · simp only [cel]; simp only [su_k (show (9 : Nat) ≠ 13 by first | decide | (unfold rW; omega) | (unfold rH; omega)), su_k (show (11 : Nat) ≠ 13 by first | decide | (unfold rW; omega) | (unfold rH; omega)), su_k (show (17 : Nat) ≠ 13 by first | decide | (unfold rW; omega) | (unfold rH; omega)), su_k (show (10 : Nat) ≠ 13 by first | decide | (unfold rW; omega) | (unfold rH; omega))]
theorem hws_v14 {k : Nat} {v : Int32} (h : HW g α ν χ M) : HW g α ν (su χ 14 k v) (mu M (α 0 8 0) (.inl (g.2 0, 200, .inl (upd (χ 14) k v)))) := by
  refine h.upd (v_0 (by decide) (by decide) (by decide)) (by simp only [cel]; rw [su_f]) ?_
  intro k' i' j' hv hne
  rcases hv with ⟨rfl, h9, rfl, -, -⟩ | ⟨rfl, h9, rfl⟩ | ⟨rfl | rfl, h9, h8⟩ | ⟨rfl | rfl, h8, h9, rfl⟩ | ⟨rfl, h9, rfl⟩
  · rcases (show i' = 0 ∨ i' = 1 ∨ i' = 2 ∨ i' = 3 ∨ i' = 4 ∨ i' = 5 ∨ i' = 6 ∨ i' = 7 ∨ i' = 8 ∨ i' = 9 by omega) with rfl | rfl | rfl | rfl | rfl | rfl | rfl | rfl | rfl | rfl <;> first | rfl | (simp only [cel]; rw [su_kf (by first | decide | (unfold rW; omega) | (unfold rH; omega))]; done) | (simp only [cel]; rw [su_k (by first | decide | (unfold rW; omega) | (unfold rH; omega))]; done) | exact absurd ⟨rfl, rfl, rfl⟩ hne
  · simp only [cel]; simp only [su_k (show (1 : Nat) ≠ 14 by first | decide | (unfold rW; omega) | (unfold rH; omega)), su_k (show (2 : Nat) ≠ 14 by first | decide | (unfold rW; omega) | (unfold rH; omega)), su_k (show (6 : Nat) ≠ 14 by first | decide | (unfold rW; omega) | (unfold rH; omega)), su_k (show (3 : Nat) ≠ 14 by first | decide | (unfold rW; omega) | (unfold rH; omega)), su_k (show (16 : Nat) ≠ 14 by first | decide | (unfold rW; omega) | (unfold rH; omega)), su_k (show (4 : Nat) ≠ 14 by first | decide | (unfold rW; omega) | (unfold rH; omega))]
  · rfl
  · simp only [cel]; rw [su_kf (by first | decide | (unfold rW; omega) | (unfold rH; omega) | (unfold rW rH; omega))]
  · simp only [cel]; simp only [su_k (show (7 : Nat) ≠ 14 by first | decide | (unfold rW; omega) | (unfold rH; omega))]
  · simp only [cel]; rw [su_kf (by first | decide | (unfold rW; omega) | (unfold rH; omega) | (unfold rW rH; omega))]
  · simp only [cel]; simp only [su_k (show (9 : Nat) ≠ 14 by first | decide | (unfold rW; omega) | (unfold rH; omega)), su_k (show (11 : Nat) ≠ 14 by first | decide | (unfold rW; omega) | (unfold rH; omega)), su_k (show (17 : Nat) ≠ 14 by first | decide | (unfold rW; omega) | (unfold rH; omega)), su_k (show (10 : Nat) ≠ 14 by first | decide | (unfold rW; omega) | (unfold rH; omega))]
theorem hws_v15 {k : Nat} {v : Int32} (h : HW g α ν χ M) : HW g α ν (su χ 15 k v) (mu M (α 0 9 0) (.inl (g.2 0, 200, .inl (upd (χ 15) k v)))) := by
  refine h.upd (v_0 (by decide) (by decide) (by decide)) (by simp only [cel]; rw [su_f]) ?_
  intro k' i' j' hv hne
  rcases hv with ⟨rfl, h9, rfl, -, -⟩ | ⟨rfl, h9, rfl⟩ | ⟨rfl | rfl, h9, h8⟩ | ⟨rfl | rfl, h8, h9, rfl⟩ | ⟨rfl, h9, rfl⟩
  · rcases (show i' = 0 ∨ i' = 1 ∨ i' = 2 ∨ i' = 3 ∨ i' = 4 ∨ i' = 5 ∨ i' = 6 ∨ i' = 7 ∨ i' = 8 ∨ i' = 9 by omega) with rfl | rfl | rfl | rfl | rfl | rfl | rfl | rfl | rfl | rfl <;> first | rfl | (simp only [cel]; rw [su_kf (by first | decide | (unfold rW; omega) | (unfold rH; omega))]; done) | (simp only [cel]; rw [su_k (by first | decide | (unfold rW; omega) | (unfold rH; omega))]; done) | exact absurd ⟨rfl, rfl, rfl⟩ hne
  · simp only [cel]; simp only [su_k (show (1 : Nat) ≠ 15 by first | decide | (unfold rW; omega) | (unfold rH; omega)), su_k (show (2 : Nat) ≠ 15 by first | decide | (unfold rW; omega) | (unfold rH; omega)), su_k (show (6 : Nat) ≠ 15 by first | decide | (unfold rW; omega) | (unfold rH; omega)), su_k (show (3 : Nat) ≠ 15 by first | decide | (unfold rW; omega) | (unfold rH; omega)), su_k (show (16 : Nat) ≠ 15 by first | decide | (unfold rW; omega) | (unfold rH; omega)), su_k (show (4 : Nat) ≠ 15 by first | decide | (unfold rW; omega) | (unfold rH; omega))]
  · rfl
  · simp only [cel]; rw [su_kf (by first | decide | (unfold rW; omega) | (unfold rH; omega) | (unfold rW rH; omega))]
  · simp only [cel]; simp only [su_k (show (7 : Nat) ≠ 15 by first | decide | (unfold rW; omega) | (unfold rH; omega))]
  · simp only [cel]; rw [su_kf (by first | decide | (unfold rW; omega) | (unfold rH; omega) | (unfold rW rH; omega))]
  · simp only [cel]; simp only [su_k (show (9 : Nat) ≠ 15 by first | decide | (unfold rW; omega) | (unfold rH; omega)), su_k (show (11 : Nat) ≠ 15 by first | decide | (unfold rW; omega) | (unfold rH; omega)), su_k (show (17 : Nat) ≠ 15 by first | decide | (unfold rW; omega) | (unfold rH; omega)), su_k (show (10 : Nat) ≠ 15 by first | decide | (unfold rW; omega) | (unfold rH; omega))]
end HWS
