/-! A visit's answer, and what goes back on the card. -/
theorem rv_eq {ν : Nat → Nat} {χ σ : SG} (h : RI ν χ σ) {d e : Nat} (hd : d < 200) (he : e ≤ ν 1) : bI (xhs ν χ d e) = rvI σ d e := by
  have hne := h.ne
  unfold bI xhs rvI
  by_cases h1 : 1 ≤ e
  · have q := (h.2.2.2.1 e h1 he).2.2 d hd
    by_cases hz : hs σ d e = 0
    · rw [if_neg (fun z => z.2.2 (by rw [q]; exact hz)), if_neg (fun z => z.2 hz)]
    · rw [if_pos ⟨h1, he, by rw [q]; exact hz⟩, if_pos ⟨nI_nle (by omega) (by omega), hz⟩]
  · rw [if_neg (fun z => h1 z.1), if_neg (fun z => z.1 (by rw [show e = 0 by omega]; decide))]
theorem hs_eq {ν : Nat → Nat} {χ σ : SG} (h : RI ν χ σ) {d e : Nat} (hd : d < 200) (h1 : 1 ≤ e) (he : e ≤ 3000) : bI (xhs ν χ d e) = 0 ↔ hs σ d e = 0 := by
  unfold bI xhs
  by_cases hn : e ≤ ν 1
  · have q := (h.2.2.2.1 e h1 hn).2.2 d hd
    by_cases hz : hs σ d e = 0
    · rw [if_neg (fun z => z.2.2 (by rw [q]; exact hz))]
      exact ⟨fun _ => hz, fun _ => rfl⟩
    · rw [if_pos ⟨h1, hn, by rw [q]; exact hz⟩]
      exact ⟨fun z => absurd z (by decide), fun z => absurd z hz⟩
  · rw [if_neg (fun z => hn z.2.1)]
    exact ⟨fun _ => h.2.2.2.2.1 d e hd he (fun z => hn z.2), fun _ => rfl⟩
theorem zn_tab : (List.range 32).all (fun z => decide (nI z &&& 31 = nI z ∧ ((nI z).toUInt32 &&& Int32.toUInt32 31) = UInt32.ofNat z)) = true := by decide +kernel
theorem zn_of {z : Nat} (h : z < 32) : nI z &&& 31 = nI z ∧ ((nI z).toUInt32 &&& Int32.toUInt32 31) = UInt32.ofNat z := of_decide_eq_true (List.all_eq_true.mp zn_tab z (List.mem_range.mpr h))
theorem op_eq (x : Int32) {z : Nat} (h : z < 32) : (x.toUInt32 >>> ((nI z).toUInt32 &&& Int32.toUInt32 31)).toInt32 &&& 1 = (x >>> (nI z &&& 31)) &&& 1 := by
  rw [(zn_of h).1, (zn_of h).2]
  apply Int32.toBitVec_inj.mp
  apply BitVec.eq_of_getLsbD_eq
  intro i hi
  rw [Int32.toBitVec_and, Int32.toBitVec_and, BitVec.getLsbD_and, BitVec.getLsbD_and]
  by_cases h0 : i = 0
  · subst h0
    congr 1
    have e1 : ((x.toUInt32 >>> UInt32.ofNat z).toInt32).toBitVec = x.toBitVec >>> (BitVec.ofNat 32 z).umod 32#32 := rfl
    have e2 : (x >>> nI z).toBitVec = BitVec.sshiftRight' x.toBitVec ((BitVec.ofNat 32 z).smod 32) := rfl
    have e3 : (BitVec.ofNat 32 z).umod 32#32 = BitVec.ofNat 32 z := by
      apply BitVec.eq_of_toNat_eq
      show z % 2 ^ 32 % 32 = z % 2 ^ 32
      omega
    have e4 : ∀ z, z < 32 → (BitVec.ofNat 32 z).smod 32 = BitVec.ofNat 32 z := by decide +kernel
    rw [e1, e2, e3, e4 z h]
    show (x.toBitVec >>> (BitVec.ofNat 32 z).toNat).getLsbD 0 = (BitVec.sshiftRight x.toBitVec (BitVec.ofNat 32 z).toNat).getLsbD 0
    rw [BitVec.getLsbD_ushiftRight, BitVec.getLsbD_sshiftRight, show (BitVec.ofNat 32 z).toNat = z from Nat.mod_eq_of_lt (by omega)]
    simp [h]
  · have : (1 : Int32).toBitVec.getLsbD i = false := by
      show (1#32).getLsbD i = false
      simp [h0]
    rw [this, Bool.and_false, Bool.and_false]
theorem jd_eq {ν : Nat → Nat} {σ χ' σ' : SG} (h' : RI ν χ' σ') {c d e z : Nat} {day : Int32} (hc : c < ν 0) (hd : d < 200) (he : e ≤ ν 1) (hz : z < 32) (h9 : σ 9 d = nI z) (h1 : σ' 1 = σ 1) (h2 : σ' 2 = σ 2) : xjd ν χ' c d e z day = anI σ σ' c d e day := by
  obtain ⟨x1, x2, -⟩ := h'.2.1 c hc
  unfold xjd anI xop inI
  rw [rv_eq h' hd he, x1, x2, h1, h2, h9, op_eq _ hz]
theorem bg_in (σ : SG) (d : Nat) : ∀ k, bgF σ d k ≤ k ∧ (1 ≤ k → 1 ≤ bgF σ d k)
  | 0 => ⟨Nat.le_refl 0, fun h => h⟩
  | k + 1 => by
    show (if k = 0 ∨ hs σ d k = 0 then k + 1 else bgF σ d k) ≤ k + 1 ∧ (1 ≤ k + 1 → 1 ≤ if k = 0 ∨ hs σ d k = 0 then k + 1 else bgF σ d k)
    have := bg_in σ d k
    by_cases h : k = 0 ∨ hs σ d k = 0
    · rw [if_pos h]; omega
    · rw [if_neg h]
      have : k ≠ 0 := fun z => h (Or.inl z)
      omega
theorem pc_bg {ν : Nat → Nat} {χ σ : SG} (h : RI ν χ σ) {d q : Nat} (hd : d < 200) (hq : q ≤ 600) : ∀ f k, 1 ≤ k → k ≤ q → f + k ≤ 40 → q - pcF ν χ d q f k + 1 = max (bgF σ d (q - k + 1)) (q - k + 1 - f)
  | 0, k, h1, hk, _ => by
    show q - k + 1 = _
    have := (bg_in σ d (q - k + 1)).1
    omega
  | f + 1, k, h1, hk, h4 => by
    show q - (if bI (xhs ν χ d (q - k)) = 0 then k else pcF ν χ d q f (k + 1)) + 1 = max (if q - k = 0 ∨ hs σ d (q - k) = 0 then q - k + 1 else bgF σ d (q - k)) (q - k + 1 - (f + 1))
    by_cases hz : q - k = 0
    · have e0 : bI (xhs ν χ d (q - k)) = 0 := by
        unfold bI xhs
        rw [if_neg (fun z => by have := z.1; omega)]
      rw [if_pos e0, if_pos (Or.inl hz)]
      omega
    · have e0 := hs_eq h hd (show 1 ≤ q - k by omega) (by omega)
      by_cases hw : hs σ d (q - k) = 0
      · rw [if_pos (e0.mpr hw), if_pos (Or.inr hw)]
        omega
      · rw [if_neg (fun z => hw (e0.mp z)), if_neg (fun z => z.elim hz hw), pc_bg h hd hq f (k + 1) (by omega) (by omega) (by omega), show q - (k + 1) + 1 = q - k by omega, show q - k - f = q - k + 1 - (f + 1) by omega]
theorem RI_pass {ν : Nat → Nat} {χ τ σ : SG} {c d v : Nat} (h : RI ν χ τ) (hc : c < ν 0) (hd : d < 200) (hv : v ≤ ν 1) (ev : χ (rW c (xcur χ c)) 2 = nI v) (es : seI σ c = nI v) : RI ν (psS ν χ c d (gre τ d)) (v2S σ τ c d) := by
  have hne := h.ne
  have hg := h.gre_le hd
  unfold psS v2S gvS
  rw [ev, es]
  by_cases hz : gre τ d = 0
  · rw [if_pos hz, if_pos hz]; exact h
  · rw [if_neg hz, if_neg hz]
    have p := pcF_in (ν := ν) (χ := χ) (d := d) (q := gre τ d) 39 1 (by omega) (by omega)
    have e := pc_bg h hd (show gre τ d ≤ 600 by omega) 39 1 (by omega) (by omega) (by omega)
    have b := bg_in τ d (gre τ d)
    rw [show gre τ d - 1 + 1 = gre τ d by omega] at e
    have e2 : gvB (bgF τ d (gre τ d)) (gre τ d) = gre τ d - pcF ν χ d (gre τ d) 39 1 + 1 := by
      unfold gvB
      split <;> omega
    rw [e2, show gre τ d - (gre τ d - pcF ν χ d (gre τ d) 39 1 + 1) + 1 = pcF ν χ d (gre τ d) 39 1 by omega]
    exact RI_write h hc (by omega) (fun z => by omega) (fun _ => ⟨by omega, by omega⟩) hv
theorem RI_gate {ν : Nat → Nat} {χ σ : SG} {c : Nat} (h : RI ν χ σ) (hc : c < ν 0) : RI ν (stS ν χ c (gaF (ν 1)) (min (ν 1) 40) (nI (ν 1))) (if ν 1 = 0 then wtS σ c 0 0 0 else gvS σ c 1 (ν 1) (nI (ν 1))) := by
  by_cases hz : ν 1 = 0
  · rw [if_pos hz, hz]
    exact RI_write (a := 0) (n := 0) (v := 0) h hc (by omega) (fun _ => rfl) (fun z => absurd rfl z) (by omega)
  · rw [if_neg hz]
    unfold gvS
    have e1 : gaF (ν 1) = gvB 1 (ν 1) := by
      unfold gaF gvB
      rw [if_neg hz]
      split <;> omega
    have e2 : ν 1 - gvB 1 (ν 1) + 1 = min (ν 1) 40 := by
      unfold gvB
      split <;> omega
    have e3 : 1 ≤ gvB 1 (ν 1) ∧ gvB 1 (ν 1) ≤ ν 1 := by
      unfold gvB
      split <;> omega
    have hz2 := hz
    rw [e1, e2]
    exact RI_write h hc (by omega) (fun z => by have : ν 1 = 0 ∨ 40 = 0 := by omega
                                                omega) (fun _ => ⟨by omega, by omega⟩) (Nat.le_refl _)
theorem sr_v1 {σ : SG} {c d a n r : Nat} (h1 : r ≠ 8) (h2 : r ≠ 10) (h3 : r ≠ 11) : v1S σ c d a n r = σ r := by
  unfold v1S
  rw [su_kf h3, tkS_q h1, su_kf h2]
theorem xr_tk {ν : Nat → Nat} {χ : SG} {c b d a n r : Nat} (h0 : r < 20 ∨ r % 2 = 0) (h1 : r ≠ 17) (h2 : r ≠ 10) (h3 : r ≠ 11) : tkE ν χ c b d a n r = χ r := by
  unfold tkE tk1
  rw [su_kf h2, su_kf h3]
  split
  · exact tkX_q h0 n
  · rw [su_kf h1]; exact tkX_q h0 n
/-- a whole visit: what both are asked to know, and what both come to -/
theorem RI_visit {ν : Nat → Nat} {χ σ : SG} {c d : Nat} (h : RI ν χ σ) (hc : c < ν 0) (hd : d < 200) : ∃ a n e z, χ (rW c (xcur χ c)) 1 = nI a ∧ xcn χ c (xcur χ c) = nI n ∧ fiI σ c = nI a ∧ cnI σ c = nI n ∧ a + n ≤ 601 ∧ n ≤ 40 ∧ χ 6 c = nI e ∧ σ 6 c = nI e ∧ e ≤ 600 ∧ χ 9 d = nI z ∧ χ 17 d = nI (gre σ d) ∧ gre σ d ≤ 600 ∧ kOK σ c ∧ (∀ day, xjd ν (tkE ν χ c (xcur χ c) d a n) c d e z day = anI σ (v1S σ c d a n) c d e day) ∧ RI ν (psS ν (tkE ν χ c (xcur χ c) d a n) c d (if n = 0 then gre σ d else if gre σ d < a + n - 1 then a + n - 1 else gre σ d)) (vsS σ c d a n) := by
  have hne := h.ne
  have hg := h.gre_le hd
  have hC := h.2.1 c hc
  obtain ⟨ec, ew, a, n, v, q1, q2, q3, q4, q5, q6, q7, q8, q9, q10, q11⟩ := hC.on
  obtain ⟨-, -, -, -, x6, -, xk, -, e, he, ee⟩ := hC
  obtain ⟨d1, -, -, d4, z, hz, d5⟩ := h.2.2.2.2.2.1 d hd
  obtain ⟨t1, t2⟩ := RI_take (c := c) (b := xcur χ c) h hd q9 q10 q6 q7
  have han : a + n ≤ 601 := by
    by_cases h0 : n = 0
    · have := q9 h0; omega
    · have := q10 h0; omega
  have exc : xcur (tkE ν χ c (xcur χ c) d a n) c = xcur χ c := by
    unfold xcur xsq
    rw [xr_tk (r := rW c 0) (Or.inr (by unfold rW; omega)) (by unfold rW; omega) (by unfold rW; omega) (by unfold rW; omega), xr_tk (r := rW c 1) (Or.inr (by unfold rW; omega)) (by unfold rW; omega) (by unfold rW; omega) (by unfold rW; omega)]
  refine ⟨a, n, e, z, q4, q2, q5, q3, han, q1, x6.trans ee, ee, by omega, d1.trans d5, d4, by omega, xk, fun day => jd_eq t1 hc hd he hz d5 (sr_v1 (by decide) (by decide) (by decide)) (sr_v1 (by decide) (by decide) (by decide)), ?_⟩
  have t3 : gre (v1S σ c d a n) d = if n = 0 then gre σ d else if gre σ d < a + n - 1 then a + n - 1 else gre σ d := t2
  rw [← t3]
  refine RI_pass t1 hc hd q8 ?_ q7
  rw [exc, xr_tk (Or.inr (by unfold rW; omega)) (by unfold rW; omega) (by unfold rW; omega) (by unfold rW; omega)]
  exact q6
