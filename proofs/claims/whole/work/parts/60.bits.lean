/-! Numbers: bytes of a head, sixteen bits. -/
theorem and255 (x : Int32) : ∃ s, s < 256 ∧ x &&& 255 = nI s := by
  refine ⟨(x &&& 255).toBitVec.toNat, ?_, ?_⟩
  · have : (x &&& 255).toBitVec.toNat = x.toBitVec.toNat &&& 255 := by
      rw [Int32.toBitVec_and, BitVec.toNat_and]; rfl
    rw [this]
    exact Nat.lt_of_le_of_lt Nat.and_le_right (by decide)
  · apply Int32.toBitVec_inj.mp
    show _ = BitVec.ofNat 32 _
    rw [BitVec.ofNat_toNat, BitVec.setWidth_eq]
def hd16 (s n : Nat) : Int32 := (256 * nI s + nI n).toInt16.toInt32
def sqw (x : Int32) : Int32 := (x >>> ((8 : Int32) &&& 31)) &&& 255
theorem hd_tab : (List.range 256).all (fun s => (List.range 41).all (fun n => decide (sqw (hd16 s n) = nI s ∧ hd16 s n &&& 255 = nI n))) = true := by decide +kernel
theorem hd_sq {s n : Nat} (hs : s < 256) (hn : n ≤ 40) : sqw (hd16 s n) = nI s ∧ hd16 s n &&& 255 = nI n := of_decide_eq_true (List.all_eq_true.mp (List.all_eq_true.mp hd_tab s (List.mem_range.mpr hs)) n (List.mem_range.mpr (by omega)))
theorem sq_tab : (List.range 256).all (fun s => decide ((nI s + 1) &&& 255 = nI ((s + 1) % 256) ∧ (nI ((s + 1) % 256) - nI s) &&& 255 = 1 ∧ (nI s - nI ((s + 1) % 256)) &&& 255 = 255 ∧ ¬ nI s = (nI ((s + 1) % 256) + 1) &&& 255)) = true := by decide +kernel
theorem sq_of {s : Nat} (hs : s < 256) : (nI s + 1) &&& 255 = nI ((s + 1) % 256) ∧ (nI ((s + 1) % 256) - nI s) &&& 255 = 1 ∧ (nI s - nI ((s + 1) % 256)) &&& 255 = 255 ∧ ¬ nI s = (nI ((s + 1) % 256) + 1) &&& 255 := of_decide_eq_true (List.all_eq_true.mp sq_tab s (List.mem_range.mpr hs))
theorem i16_tab : (List.range 1001).all (fun n => decide ((nI n).toInt16.toInt32 = nI n)) = true := by decide +kernel
theorem i16_of {n : Nat} (h : n ≤ 1000) : (nI n).toInt16.toInt32 = nI n := of_decide_eq_true (List.all_eq_true.mp i16_tab n (List.mem_range.mpr (by omega)))
theorem by_tab : (List.range 511).all (fun k => decide ((nI k - 255).toInt8.toInt32 ≤ 0 ↔ ¬ (¬ ((nI k - 255) &&& 255) ≤ 0 ∧ ¬ 128 ≤ ((nI k - 255) &&& 255)))) = true := by decide +kernel
theorem by_of {a b : Nat} (ha : a < 256) (hb : b < 256) : (nI a - nI b).toInt8.toInt32 ≤ 0 ↔ ¬ (¬ ((nI a - nI b) &&& 255) ≤ 0 ∧ ¬ 128 ≤ ((nI a - nI b) &&& 255)) := by
  have e : nI a - nI b = nI (a + 255 - b) - 255 := by
    rw [← pk_sub (show b ≤ a + 255 by omega), ← nI_add, show (255 : Int32) = nI 255 from rfl]
    apply Int32.toBitVec_inj.mp
    simp only [Int32.toBitVec_sub, Int32.toBitVec_add]
    generalize (nI a).toBitVec = x
    generalize (nI b).toBitVec = y
    generalize (nI 255).toBitVec = z
    bv_omega
  rw [e]
  exact of_decide_eq_true (List.all_eq_true.mp by_tab _ (List.mem_range.mpr (by omega)))
