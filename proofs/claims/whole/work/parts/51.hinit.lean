/-! The class is made. -/
section RC
variable {p : Program} {l : Launch} {e : Env} {R : Room} {s : State} {m : MethodId} {args : Array Value} {below : List Frame} {meth : Method} {c : Code} {Q : State → Prop}
theorem W.repC {α : Type} (μ : α → Nat) (P : α → Prop) (Hf : α → Heap) (Lf : α → List Loc) (Cf Sf : α → Nat) (f : α → JFrame) (step : ∀ x, P x → (∀ x', P x' → μ x' < μ x → W p l e R s m args below meth c (Hf x') (Lf x') (Cf x') (Sf x') Q (f x')) → W p l e R s m args below meth c (Hf x) (Lf x) (Cf x) (Sf x) Q (f x)) : ∀ x, P x → W p l e R s m args below meth c (Hf x) (Lf x) (Cf x) (Sf x) Q (f x) := by
  have key : ∀ (n : Nat) x, μ x < n → P x → W p l e R s m args below meth c (Hf x) (Lf x) (Cf x) (Sf x) Q (f x) := by
    intro n
    induction n with
    | zero => intro x h; omega
    | succ n ih => intro x hn hp; exact step x hp (fun x' hp' hlt => ih x' (by omega) hp')
  exact fun x hp => key (μ x + 1) x (by omega) hp
end RC
def hiA (h al el al2 ds vc vd vy de : Nat) (β : Nat → Nat) : AL3 := fun k i _ => if k = 0 then (match i with
  | 0 => h
  | 1 => al
  | 2 => de
  | 3 => el
  | 4 => al2
  | 5 => de
  | 6 => ds
  | 7 => vc
  | 8 => vd
  | _ => vy) else β i
def hiX : SG := fun r k => if r = 13 ∧ k < 200 then -1 else 0
def hiN : Nat → Nat := fun _ => 0
theorem hw_init {g : GG} {M : MW} {h al el al2 ds vc vd vy de D : Nat} {β : Nat → Nat} (o0 : M h = some (.inr (6, [.ref al, .ref el, .ref ds, .ref vc, .ref vd, .ref vy]))) (o1 : M al = some (.inr (0, [.ref de, .int 0, .int 0]))) (o2 : M el = some (.inr (4, [.ref al2]))) (o3 : M al2 = some (.inr (0, [.ref de, .int 0, .int 0]))) (o4 : M ds = some (.inl (g.2 4, 200, .inr (.inr (.inr (.inr (fun q => if q < 200 then some (β q) else none))))))) (o5 : M vc = some (.inl (g.2 0, 200, .inl (fun q => if q < 200 then -1 else 0)))) (o6 : M vd = some (.inl (g.2 0, 200, .inl (fun _ => 0)))) (o7 : M vy = some (.inl (g.2 0, 200, .inl (fun _ => 0))))
    (hd : ∀ i, i < 200 → M (β i) = some (.inr (2, [.int (nI i), .int 0, .int 0, .int 0, .int 0]))) (q1 : h < al) (q2 : al < el) (q3 : el < al2) (q4 : al2 < ds) (q5 : ds < vc) (q6 : vc < vd) (q7 : vd < vy) (q8 : ∀ i, i < 200 → vy < β i) (q9 : ∀ i j, i < j → j < 200 → β i < β j) : HW g (hiA h al el al2 ds vc vd vy de β) hiN hiX M := by
  refine ⟨fun k i j hv => ?_, fun k i j k' i' j' hv hv' he => ?_⟩
  · rcases hv with ⟨rfl, h9, rfl, ha, hb⟩ | ⟨rfl, h9, rfl⟩ | ⟨hk, h9, h8⟩ | ⟨hk, h8, h9, rfl⟩ | ⟨rfl, h9, rfl⟩
    · rcases (show i = 0 ∨ i = 1 ∨ i = 2 ∨ i = 3 ∨ i = 4 ∨ i = 5 ∨ i = 6 ∨ i = 7 ∨ i = 8 ∨ i = 9 by omega) with rfl | rfl | rfl | rfl | rfl | rfl | rfl | rfl | rfl | rfl
      · exact o0
      · exact o1
      · exact absurd (ha rfl) (by decide)
      · exact o2
      · exact o3
      · exact absurd (hb rfl) (by decide)
      · exact o4
      · refine o5.trans ?_
        show _ = some (Sum.inl (g.2 0, 200, Sum.inl (hiX 13)))
        congr 4
        congr 1
        funext q
        simp [hiX]
      · exact o6
      · exact o7
    · exact absurd h9 (Nat.not_lt_zero _)
    · exact absurd h9 (Nat.not_lt_zero _)
    · have : i ≤ 0 := h9
      omega
    · exact hd i h9
  · have key : ∀ k i j, vr hiN k i j → (k = 0 ∧ j = 0 ∧ i ≤ 9 ∧ i ≠ 2 ∧ i ≠ 5 ∧ ∃ v, hiA h al el al2 ds vc vd vy de β k i j = v ∧ ((i = 0 ∧ v = h) ∨ (i = 1 ∧ v = al) ∨ (i = 3 ∧ v = el) ∨ (i = 4 ∧ v = al2) ∨ (i = 6 ∧ v = ds) ∨ (i = 7 ∧ v = vc) ∨ (i = 8 ∧ v = vd) ∨ (i = 9 ∧ v = vy))) ∨ (k = 6 ∧ i < 200 ∧ j = 0 ∧ hiA h al el al2 ds vc vd vy de β k i j = β i) := by
      intro k i j hv
      rcases hv with ⟨rfl, h9, rfl, ha, hb⟩ | ⟨rfl, h9, rfl⟩ | ⟨hk, h9, h8⟩ | ⟨hk, h8, h9, rfl⟩ | ⟨rfl, h9, rfl⟩
      · refine Or.inl ⟨rfl, rfl, h9, fun q => absurd (ha q) (by decide), fun q => absurd (hb q) (by decide), ?_⟩
        rcases (show i = 0 ∨ i = 1 ∨ i = 2 ∨ i = 3 ∨ i = 4 ∨ i = 5 ∨ i = 6 ∨ i = 7 ∨ i = 8 ∨ i = 9 by omega) with rfl | rfl | rfl | rfl | rfl | rfl | rfl | rfl | rfl | rfl
        · exact ⟨h, rfl, by omega⟩
        · exact ⟨al, rfl, by omega⟩
        · exact absurd (ha rfl) (by decide)
        · exact ⟨el, rfl, by omega⟩
        · exact ⟨al2, rfl, by omega⟩
        · exact absurd (hb rfl) (by decide)
        · exact ⟨ds, rfl, by omega⟩
        · exact ⟨vc, rfl, by omega⟩
        · exact ⟨vd, rfl, by omega⟩
        · exact ⟨vy, rfl, by omega⟩
      · exact absurd h9 (Nat.not_lt_zero _)
      · exact absurd h9 (Nat.not_lt_zero _)
      · have : i ≤ 0 := h9
        omega
      · exact Or.inr ⟨rfl, h9, rfl, rfl⟩
    rcases key k i j hv with ⟨k1, j1, i1, n1, n2, v, e1, c1⟩ | ⟨k1, i1, j1, e1⟩ <;> rcases key k' i' j' hv' with ⟨k2, j2, i2, n3, n4, v', e2, c2⟩ | ⟨k2, i2, j2, e2⟩
    · rw [e1, e2] at he
      omega
    · rw [e1, e2] at he
      have := q8 i' i2
      omega
    · rw [e1, e2] at he
      have := q8 i i1
      omega
    · rw [e1, e2] at he
      rcases Nat.lt_trichotomy i i' with hl | hl | hl
      · have := q9 i i' hl i2; omega
      · exact ⟨by omega, hl, by omega⟩
      · have := q9 i' i hl i1; omega
set_option maxHeartbeats 800000 in
set_option maxRecDepth 100000 in
theorem c_H_init (l : Launch) (g : GG) (M : MW) (a : Nat) (de mir : Nat) (sz : Nat) (hA : M a = some (.inr (6, [.null, .null, .null, .null, .null, .null]))) : Met l y_H_init (k_H_init :: TT) { frames := 5, cells := 207, slots := 1807, locals := 112 } (Pd g [.ref a] sz (M) de mir) (Qm g M (fun _ : Unit => none) (fun _ M' => ∃ α, HW g α hiN hiX M' ∧ α 0 0 0 = a ∧ LD α hiN de ∧ ∀ q, q < sz → q ≠ a → M' q = M q)) 207 1807 (mA M sz) := by
  refine dmet_of (by decide) (Nat.le_of_ble_eq_true rfl) ?_
  intro pr en s mi below meth co hx hb hr hml hown hlocks hnm hT hsz hP hK hZ ls hl
  have hl : lv_has ls 2 [(0, .ref a)] := hl
  have hH := HS.start hP
  have o0 : M a = some (.inr (6, [.null, .null, .null, .null, .null, .null])) := hA
  have fr : ∀ q, q < s.heap.size → q ≠ a → M q = M q := fun q h1 _ => rfl
  refine lv_aload_n hx hb d_H_init_0 rfl (lv_at hl 0 rfl) ?_
  refine W.objInit hx hb hown (hT _ w28) (hT _ w29) (hT _ w30) rfl (by rw [hml]; exact hl.1) rfl d_H_init_1 (Nat.le_of_ble_eq_true rfl) (Nat.le_of_ble_eq_true rfl) ?_
  refine lv_aload_n hx hb d_H_init_4 rfl (lv_at hl 0 rfl) ?_
  have l0 := hH.1.lt o0
  refine m_new (ci := 0) (fs := [.null, .int 0, .int 0]) hx hb hT in_AL ty_AL tk_AL hown (hT _ w31) (hT _ w32) (hT _ w4) hK hH rfl (fun j hj => by rcases j with _ | _ | _ | j <;> first | rfl | (exact absurd hj (by omega))) (by decide) (Nat.le_of_ble_eq_true rfl) d_H_init_5 (fun H1 hH zH1 => ?_)
  have n0_1 : a ≠ s.heap.size := Nat.ne_of_lt l0
  obtain ⟨M1, hM1⟩ : ∃ Mz : MW, Mz = mu M s.heap.size (.inr (0, [.null, .int 0, .int 0])) := ⟨_, rfl⟩
  replace hH : HS g (mA M s.heap.size) s.heap M1 H1 [] := by rw [hM1]; exact hH
  replace o0 : M1 a = some (.inr (6, [.null, .null, .null, .null, .null, .null])) := by rw [hM1]; exact (mu_n n0_1).trans o0
  have o1 : M1 s.heap.size = some (.inr (0, [.null, .int 0, .int 0])) := by rw [hM1]; exact mu_s
  replace fr : ∀ q, q < s.heap.size → q ≠ a → M1 q = M q := fun q h1 h2 => by rw [hM1]; exact (mu_n (by omega)).trans (fr q h1 h2)
  refine lv_dup hx hb d_H_init_8 rfl ?_
  have l0 := hH.1.lt o0
  have l1 := hH.1.lt o1
  refine m_run (d_I (As := []) (rest := [.ref s.heap.size, .ref a]) hx hb hml hl.1 hown hT hK hH.1 (dd_of hH hZ) (c_AL_init l g _ s.heap.size de mir _ o1) kw_AL_init w33 w34 rfl w4 hd_AL_init rfl rfl ⟨by decide, by decide⟩ rfl rfl (Nat.le_of_ble_eq_true rfl) d_H_init_9 ⟨by decide, Nat.le_of_ble_eq_true rfl⟩) hH (fun rv M2 H2 locs hpost hH zH2 hdm hfr => ?_)
  obtain ⟨p10, p11⟩ := hpost
  replace o0 : M2 a = some (.inr (6, [.null, .null, .null, .null, .null, .null])) := Eq.trans (p11 _ n0_1) o0
  replace o1 : M2 s.heap.size = some (.inr (0, [.ref de, .int 0, .int 0])) := p10
  replace fr : ∀ q, q < s.heap.size → q ≠ a → M2 q = M q := fun q h1 h2 => Eq.trans (p11 q (by omega)) (fr q h1 h2)
  refine m_putF (ci := 6) (v := .ref s.heap.size) (ty := .object "java/util/ArrayList") hx hb hT in_H ty_H tk_H nm_H hown hK hH (o0) rfl 0 (by decide) (hT _ w100) (fun _ h9 => h9) rfl hnm rfl (by decide +kernel) rfl rfl (Nat.le_of_ble_eq_true rfl) d_H_init_12 (e1 := .inr (6, [.ref s.heap.size, .null, .null, .null, .null, .null])) rfl (fun H3 locs hH zH3 => ?_)
  obtain ⟨M3, hM3⟩ : ∃ Mz : MW, Mz = mu M2 a (.inr (6, [.ref s.heap.size, .null, .null, .null, .null, .null])) := ⟨_, rfl⟩
  replace hH : HS g (mA M s.heap.size) s.heap M3 H3 locs := by rw [hM3]; exact hH
  replace o1 : M3 s.heap.size = some (.inr (0, [.ref de, .int 0, .int 0])) := by rw [hM3]; exact (mu_n (Ne.symm n0_1)).trans o1
  have o0 : M3 a = some (.inr (6, [.ref s.heap.size, .null, .null, .null, .null, .null])) := by rw [hM3]; exact mu_s
  replace fr : ∀ q, q < s.heap.size → q ≠ a → M3 q = M q := fun q h1 h2 => by rw [hM3]; exact (mu_n (by omega)).trans (fr q h1 h2)
  refine lv_aload_n hx hb d_H_init_15 rfl (lv_at hl 0 rfl) ?_
  have l0 := hH.1.lt o0
  have l1 := hH.1.lt o1
  refine m_new (ci := 4) (fs := [.null]) hx hb hT in_EL ty_EL tk_EL hown (hT _ w57) (hT _ w58) (hT _ w5) hK hH rfl (fun j hj => by rcases j with _ | j <;> first | rfl | (exact absurd hj (by omega))) (by decide) (Nat.le_of_ble_eq_true rfl) d_H_init_16 (fun H4 hH zH4 => ?_)
  have n0_2 : a ≠ H3.size := Nat.ne_of_lt l0
  have n1_2 : s.heap.size ≠ H3.size := Nat.ne_of_lt l1
  obtain ⟨M4, hM4⟩ : ∃ Mz : MW, Mz = mu M3 H3.size (.inr (4, [.null])) := ⟨_, rfl⟩
  replace hH : HS g (mA M s.heap.size) s.heap M4 H4 locs := by rw [hM4]; exact hH
  replace o0 : M4 a = some (.inr (6, [.ref s.heap.size, .null, .null, .null, .null, .null])) := by rw [hM4]; exact (mu_n n0_2).trans o0
  replace o1 : M4 s.heap.size = some (.inr (0, [.ref de, .int 0, .int 0])) := by rw [hM4]; exact (mu_n n1_2).trans o1
  have o2 : M4 H3.size = some (.inr (4, [.null])) := by rw [hM4]; exact mu_s
  replace fr : ∀ q, q < s.heap.size → q ≠ a → M4 q = M q := fun q h1 h2 => by rw [hM4]; exact (mu_n (by omega)).trans (fr q h1 h2)
  refine lv_dup hx hb d_H_init_19 rfl ?_
  have l0 := hH.1.lt o0
  have l1 := hH.1.lt o1
  have l2 := hH.1.lt o2
  refine m_run (d_IN (As := []) (rest := [.ref H3.size, .ref a]) hx hb hml hl.1 hown hT hK hH.1 (dd_of hH hZ) (c_EL_init l g _ H3.size de mir _ o2) kw_EL_init nw59 w60 rfl w5 hd_EL_init rfl rfl ⟨by decide, by decide⟩ rfl rfl (Nat.le_of_ble_eq_true rfl) d_H_init_20 ⟨by decide, Nat.le_of_ble_eq_true rfl⟩) hH (fun rv M5 H5 locs hpost hH zH5 hdm hfr => ?_)
  obtain ⟨al2, e0, e1, e2, e3⟩ := hpost
  replace o0 : M5 a = some (.inr (6, [.ref s.heap.size, .null, .null, .null, .null, .null])) := Eq.trans (e3 _ l0 n0_2) o0
  replace o1 : M5 s.heap.size = some (.inr (0, [.ref de, .int 0, .int 0])) := Eq.trans (e3 _ l1 n1_2) o1
  replace o2 : M5 H3.size = some (.inr (4, [.ref al2])) := e1
  replace fr : ∀ q, q < s.heap.size → q ≠ a → M5 q = M q := fun q h1 h2 => Eq.trans (e3 q (by omega) (by omega)) (fr q h1 h2)
  have o3 : M5 al2 = some (.inr (0, [.ref de, .int 0, .int 0])) := e2
  refine m_putF (ci := 6) (v := .ref H3.size) (ty := .object "LockHouse$EntryList") hx hb hT in_H ty_H tk_H nm_H hown hK hH (o0) rfl 1 (by decide) (hT _ w101) (fun _ h9 => h9) rfl hnm rfl (by decide +kernel) rfl rfl (Nat.le_of_ble_eq_true rfl) d_H_init_23 (e1 := .inr (6, [.ref s.heap.size, .ref H3.size, .null, .null, .null, .null])) rfl (fun H6 locs hH zH6 => ?_)
  obtain ⟨M6, hM6⟩ : ∃ Mz : MW, Mz = mu M5 a (.inr (6, [.ref s.heap.size, .ref H3.size, .null, .null, .null, .null])) := ⟨_, rfl⟩
  replace hH : HS g (mA M s.heap.size) s.heap M6 H6 locs := by rw [hM6]; exact hH
  replace o1 : M6 s.heap.size = some (.inr (0, [.ref de, .int 0, .int 0])) := by rw [hM6]; exact (mu_n (Ne.symm n0_1)).trans o1
  replace o2 : M6 H3.size = some (.inr (4, [.ref al2])) := by rw [hM6]; exact (mu_n (Ne.symm n0_2)).trans o2
  replace o3 : M6 al2 = some (.inr (0, [.ref de, .int 0, .int 0])) := by rw [hM6]; exact (mu_n (by omega)).trans o3
  have o0 : M6 a = some (.inr (6, [.ref s.heap.size, .ref H3.size, .null, .null, .null, .null])) := by rw [hM6]; exact mu_s
  replace fr : ∀ q, q < s.heap.size → q ≠ a → M6 q = M q := fun q h1 h2 => by rw [hM6]; exact (mu_n (by omega)).trans (fr q h1 h2)
  refine lv_aload_n hx hb d_H_init_26 rfl (lv_at hl 0 rfl) ?_
  refine lv_sipush (v := 200) hx hb d_H_init_27 (by decide) ?_
  have l0 := hH.1.lt o0
  have l1 := hH.1.lt o1
  have l2 := hH.1.lt o2
  have l3 := hH.1.lt o3
  refine m_newq hx hb hown (hT _ w69) hK nw70 hH 4 rfl (N' := 200) rfl (by decide) (by decide) (Nat.le_of_ble_eq_true rfl) d_H_init_30 (fun H7 hH zH7 => ?_)
  have n0_4 : a ≠ H6.size := Nat.ne_of_lt l0
  have n1_4 : s.heap.size ≠ H6.size := Nat.ne_of_lt l1
  have n2_4 : H3.size ≠ H6.size := Nat.ne_of_lt l2
  have n3_4 : al2 ≠ H6.size := Nat.ne_of_lt l3
  obtain ⟨M7, hM7⟩ : ∃ Mz : MW, Mz = mu M6 H6.size (.inl (g.2 4, 200, .inr (.inr (.inr (.inr (fun _ => none)))))) := ⟨_, rfl⟩
  replace hH : HS g (mA M s.heap.size) s.heap M7 H7 locs := by rw [hM7]; exact hH
  replace o0 : M7 a = some (.inr (6, [.ref s.heap.size, .ref H3.size, .null, .null, .null, .null])) := by rw [hM7]; exact (mu_n n0_4).trans o0
  replace o1 : M7 s.heap.size = some (.inr (0, [.ref de, .int 0, .int 0])) := by rw [hM7]; exact (mu_n n1_4).trans o1
  replace o2 : M7 H3.size = some (.inr (4, [.ref al2])) := by rw [hM7]; exact (mu_n n2_4).trans o2
  replace o3 : M7 al2 = some (.inr (0, [.ref de, .int 0, .int 0])) := by rw [hM7]; exact (mu_n n3_4).trans o3
  have o4 : M7 H6.size = some (.inl (g.2 4, 200, .inr (.inr (.inr (.inr (fun _ => none)))))) := by rw [hM7]; exact mu_s
  replace fr : ∀ q, q < s.heap.size → q ≠ a → M7 q = M q := fun q h1 h2 => by rw [hM7]; exact (mu_n (by omega)).trans (fr q h1 h2)
  refine m_putF (ci := 6) (v := .ref H6.size) (ty := .array (.object "LockHouse$Door")) hx hb hT in_H ty_H tk_H nm_H hown hK hH (o0) rfl 2 (by decide) (hT _ w102) (fun _ h9 => h9) rfl hnm rfl (by decide +kernel) rfl rfl (Nat.le_of_ble_eq_true rfl) d_H_init_33 (e1 := .inr (6, [.ref s.heap.size, .ref H3.size, .ref H6.size, .null, .null, .null])) rfl (fun H8 locs hH zH8 => ?_)
  obtain ⟨M8, hM8⟩ : ∃ Mz : MW, Mz = mu M7 a (.inr (6, [.ref s.heap.size, .ref H3.size, .ref H6.size, .null, .null, .null])) := ⟨_, rfl⟩
  replace hH : HS g (mA M s.heap.size) s.heap M8 H8 locs := by rw [hM8]; exact hH
  replace o1 : M8 s.heap.size = some (.inr (0, [.ref de, .int 0, .int 0])) := by rw [hM8]; exact (mu_n (Ne.symm n0_1)).trans o1
  replace o2 : M8 H3.size = some (.inr (4, [.ref al2])) := by rw [hM8]; exact (mu_n (Ne.symm n0_2)).trans o2
  replace o3 : M8 al2 = some (.inr (0, [.ref de, .int 0, .int 0])) := by rw [hM8]; exact (mu_n (by omega)).trans o3
  replace o4 : M8 H6.size = some (.inl (g.2 4, 200, .inr (.inr (.inr (.inr (fun _ => none)))))) := by rw [hM8]; exact (mu_n (Ne.symm n0_4)).trans o4
  have o0 : M8 a = some (.inr (6, [.ref s.heap.size, .ref H3.size, .ref H6.size, .null, .null, .null])) := by rw [hM8]; exact mu_s
  replace fr : ∀ q, q < s.heap.size → q ≠ a → M8 q = M q := fun q h1 h2 => by rw [hM8]; exact (mu_n (by omega)).trans (fr q h1 h2)
  refine lv_aload_n hx hb d_H_init_36 rfl (lv_at hl 0 rfl) ?_
  refine lv_sipush (v := 200) hx hb d_H_init_37 (by decide) ?_
  have l0 := hH.1.lt o0
  have l1 := hH.1.lt o1
  have l2 := hH.1.lt o2
  have l3 := hH.1.lt o3
  have l4 := hH.1.lt o4
  refine m_newa (atype := .int) (ty := .int) (a0 := (200, .inl (fun _ => 0))) hx hb (hT _ w96) rfl hK hH 0 rfl (fun h9 => h9) rfl (N' := 200) rfl (by decide) (by decide +kernel) (by decide) (Nat.le_of_ble_eq_true rfl) d_H_init_40 (fun H9 hH zH9 => ?_)
  have n0_5 : a ≠ H8.size := Nat.ne_of_lt l0
  have n1_5 : s.heap.size ≠ H8.size := Nat.ne_of_lt l1
  have n2_5 : H3.size ≠ H8.size := Nat.ne_of_lt l2
  have n3_5 : al2 ≠ H8.size := Nat.ne_of_lt l3
  have n4_5 : H6.size ≠ H8.size := Nat.ne_of_lt l4
  obtain ⟨M9, hM9⟩ : ∃ Mz : MW, Mz = mu M8 H8.size (.inl (g.2 0, 200, .inl (fun _ => 0))) := ⟨_, rfl⟩
  replace hH : HS g (mA M s.heap.size) s.heap M9 H9 locs := by rw [hM9]; exact hH
  replace o0 : M9 a = some (.inr (6, [.ref s.heap.size, .ref H3.size, .ref H6.size, .null, .null, .null])) := by rw [hM9]; exact (mu_n n0_5).trans o0
  replace o1 : M9 s.heap.size = some (.inr (0, [.ref de, .int 0, .int 0])) := by rw [hM9]; exact (mu_n n1_5).trans o1
  replace o2 : M9 H3.size = some (.inr (4, [.ref al2])) := by rw [hM9]; exact (mu_n n2_5).trans o2
  replace o3 : M9 al2 = some (.inr (0, [.ref de, .int 0, .int 0])) := by rw [hM9]; exact (mu_n n3_5).trans o3
  replace o4 : M9 H6.size = some (.inl (g.2 4, 200, .inr (.inr (.inr (.inr (fun _ => none)))))) := by rw [hM9]; exact (mu_n n4_5).trans o4
  have o5 : M9 H8.size = some (.inl (g.2 0, 200, .inl (fun _ => 0))) := by rw [hM9]; exact mu_s
  replace fr : ∀ q, q < s.heap.size → q ≠ a → M9 q = M q := fun q h1 h2 => by rw [hM9]; exact (mu_n (by omega)).trans (fr q h1 h2)
  refine m_putF (ci := 6) (v := .ref H8.size) (ty := .array .int) hx hb hT in_H ty_H tk_H nm_H hown hK hH (o0) rfl 3 (by decide) (hT _ w103) (fun _ h9 => h9) rfl hnm rfl (by decide +kernel) rfl rfl (Nat.le_of_ble_eq_true rfl) d_H_init_42 (e1 := .inr (6, [.ref s.heap.size, .ref H3.size, .ref H6.size, .ref H8.size, .null, .null])) rfl (fun H10 locs hH zH10 => ?_)
  obtain ⟨M10, hM10⟩ : ∃ Mz : MW, Mz = mu M9 a (.inr (6, [.ref s.heap.size, .ref H3.size, .ref H6.size, .ref H8.size, .null, .null])) := ⟨_, rfl⟩
  replace hH : HS g (mA M s.heap.size) s.heap M10 H10 locs := by rw [hM10]; exact hH
  replace o1 : M10 s.heap.size = some (.inr (0, [.ref de, .int 0, .int 0])) := by rw [hM10]; exact (mu_n (Ne.symm n0_1)).trans o1
  replace o2 : M10 H3.size = some (.inr (4, [.ref al2])) := by rw [hM10]; exact (mu_n (Ne.symm n0_2)).trans o2
  replace o3 : M10 al2 = some (.inr (0, [.ref de, .int 0, .int 0])) := by rw [hM10]; exact (mu_n (by omega)).trans o3
  replace o4 : M10 H6.size = some (.inl (g.2 4, 200, .inr (.inr (.inr (.inr (fun _ => none)))))) := by rw [hM10]; exact (mu_n (Ne.symm n0_4)).trans o4
  replace o5 : M10 H8.size = some (.inl (g.2 0, 200, .inl (fun _ => 0))) := by rw [hM10]; exact (mu_n (Ne.symm n0_5)).trans o5
  have o0 : M10 a = some (.inr (6, [.ref s.heap.size, .ref H3.size, .ref H6.size, .ref H8.size, .null, .null])) := by rw [hM10]; exact mu_s
  replace fr : ∀ q, q < s.heap.size → q ≠ a → M10 q = M q := fun q h1 h2 => by rw [hM10]; exact (mu_n (by omega)).trans (fr q h1 h2)
  refine lv_aload_n hx hb d_H_init_45 rfl (lv_at hl 0 rfl) ?_
  refine lv_sipush (v := 200) hx hb d_H_init_46 (by decide) ?_
  have l0 := hH.1.lt o0
  have l1 := hH.1.lt o1
  have l2 := hH.1.lt o2
  have l3 := hH.1.lt o3
  have l4 := hH.1.lt o4
  have l5 := hH.1.lt o5
  refine m_newa (atype := .int) (ty := .int) (a0 := (200, .inl (fun _ => 0))) hx hb (hT _ w96) rfl hK hH 0 rfl (fun h9 => h9) rfl (N' := 200) rfl (by decide) (by decide +kernel) (by decide) (Nat.le_of_ble_eq_true rfl) d_H_init_49 (fun H11 hH zH11 => ?_)
  have n0_6 : a ≠ H10.size := Nat.ne_of_lt l0
  have n1_6 : s.heap.size ≠ H10.size := Nat.ne_of_lt l1
  have n2_6 : H3.size ≠ H10.size := Nat.ne_of_lt l2
  have n3_6 : al2 ≠ H10.size := Nat.ne_of_lt l3
  have n4_6 : H6.size ≠ H10.size := Nat.ne_of_lt l4
  have n5_6 : H8.size ≠ H10.size := Nat.ne_of_lt l5
  obtain ⟨M11, hM11⟩ : ∃ Mz : MW, Mz = mu M10 H10.size (.inl (g.2 0, 200, .inl (fun _ => 0))) := ⟨_, rfl⟩
  replace hH : HS g (mA M s.heap.size) s.heap M11 H11 locs := by rw [hM11]; exact hH
  replace o0 : M11 a = some (.inr (6, [.ref s.heap.size, .ref H3.size, .ref H6.size, .ref H8.size, .null, .null])) := by rw [hM11]; exact (mu_n n0_6).trans o0
  replace o1 : M11 s.heap.size = some (.inr (0, [.ref de, .int 0, .int 0])) := by rw [hM11]; exact (mu_n n1_6).trans o1
  replace o2 : M11 H3.size = some (.inr (4, [.ref al2])) := by rw [hM11]; exact (mu_n n2_6).trans o2
  replace o3 : M11 al2 = some (.inr (0, [.ref de, .int 0, .int 0])) := by rw [hM11]; exact (mu_n n3_6).trans o3
  replace o4 : M11 H6.size = some (.inl (g.2 4, 200, .inr (.inr (.inr (.inr (fun _ => none)))))) := by rw [hM11]; exact (mu_n n4_6).trans o4
  replace o5 : M11 H8.size = some (.inl (g.2 0, 200, .inl (fun _ => 0))) := by rw [hM11]; exact (mu_n n5_6).trans o5
  have o6 : M11 H10.size = some (.inl (g.2 0, 200, .inl (fun _ => 0))) := by rw [hM11]; exact mu_s
  replace fr : ∀ q, q < s.heap.size → q ≠ a → M11 q = M q := fun q h1 h2 => by rw [hM11]; exact (mu_n (by omega)).trans (fr q h1 h2)
  refine m_putF (ci := 6) (v := .ref H10.size) (ty := .array .int) hx hb hT in_H ty_H tk_H nm_H hown hK hH (o0) rfl 4 (by decide) (hT _ w104) (fun _ h9 => h9) rfl hnm rfl (by decide +kernel) rfl rfl (Nat.le_of_ble_eq_true rfl) d_H_init_51 (e1 := .inr (6, [.ref s.heap.size, .ref H3.size, .ref H6.size, .ref H8.size, .ref H10.size, .null])) rfl (fun H12 locs hH zH12 => ?_)
  obtain ⟨M12, hM12⟩ : ∃ Mz : MW, Mz = mu M11 a (.inr (6, [.ref s.heap.size, .ref H3.size, .ref H6.size, .ref H8.size, .ref H10.size, .null])) := ⟨_, rfl⟩
  replace hH : HS g (mA M s.heap.size) s.heap M12 H12 locs := by rw [hM12]; exact hH
  replace o1 : M12 s.heap.size = some (.inr (0, [.ref de, .int 0, .int 0])) := by rw [hM12]; exact (mu_n (Ne.symm n0_1)).trans o1
  replace o2 : M12 H3.size = some (.inr (4, [.ref al2])) := by rw [hM12]; exact (mu_n (Ne.symm n0_2)).trans o2
  replace o3 : M12 al2 = some (.inr (0, [.ref de, .int 0, .int 0])) := by rw [hM12]; exact (mu_n (by omega)).trans o3
  replace o4 : M12 H6.size = some (.inl (g.2 4, 200, .inr (.inr (.inr (.inr (fun _ => none)))))) := by rw [hM12]; exact (mu_n (Ne.symm n0_4)).trans o4
  replace o5 : M12 H8.size = some (.inl (g.2 0, 200, .inl (fun _ => 0))) := by rw [hM12]; exact (mu_n (Ne.symm n0_5)).trans o5
  replace o6 : M12 H10.size = some (.inl (g.2 0, 200, .inl (fun _ => 0))) := by rw [hM12]; exact (mu_n (Ne.symm n0_6)).trans o6
  have o0 : M12 a = some (.inr (6, [.ref s.heap.size, .ref H3.size, .ref H6.size, .ref H8.size, .ref H10.size, .null])) := by rw [hM12]; exact mu_s
  replace fr : ∀ q, q < s.heap.size → q ≠ a → M12 q = M q := fun q h1 h2 => by rw [hM12]; exact (mu_n (by omega)).trans (fr q h1 h2)
  refine lv_aload_n hx hb d_H_init_54 rfl (lv_at hl 0 rfl) ?_
  refine lv_sipush (v := 200) hx hb d_H_init_55 (by decide) ?_
  have l0 := hH.1.lt o0
  have l1 := hH.1.lt o1
  have l2 := hH.1.lt o2
  have l3 := hH.1.lt o3
  have l4 := hH.1.lt o4
  have l5 := hH.1.lt o5
  have l6 := hH.1.lt o6
  refine m_newa (atype := .int) (ty := .int) (a0 := (200, .inl (fun _ => 0))) hx hb (hT _ w96) rfl hK hH 0 rfl (fun h9 => h9) rfl (N' := 200) rfl (by decide) (by decide +kernel) (by decide) (Nat.le_of_ble_eq_true rfl) d_H_init_58 (fun H13 hH zH13 => ?_)
  have n0_7 : a ≠ H12.size := Nat.ne_of_lt l0
  have n1_7 : s.heap.size ≠ H12.size := Nat.ne_of_lt l1
  have n2_7 : H3.size ≠ H12.size := Nat.ne_of_lt l2
  have n3_7 : al2 ≠ H12.size := Nat.ne_of_lt l3
  have n4_7 : H6.size ≠ H12.size := Nat.ne_of_lt l4
  have n5_7 : H8.size ≠ H12.size := Nat.ne_of_lt l5
  have n6_7 : H10.size ≠ H12.size := Nat.ne_of_lt l6
  obtain ⟨M13, hM13⟩ : ∃ Mz : MW, Mz = mu M12 H12.size (.inl (g.2 0, 200, .inl (fun _ => 0))) := ⟨_, rfl⟩
  replace hH : HS g (mA M s.heap.size) s.heap M13 H13 locs := by rw [hM13]; exact hH
  replace o0 : M13 a = some (.inr (6, [.ref s.heap.size, .ref H3.size, .ref H6.size, .ref H8.size, .ref H10.size, .null])) := by rw [hM13]; exact (mu_n n0_7).trans o0
  replace o1 : M13 s.heap.size = some (.inr (0, [.ref de, .int 0, .int 0])) := by rw [hM13]; exact (mu_n n1_7).trans o1
  replace o2 : M13 H3.size = some (.inr (4, [.ref al2])) := by rw [hM13]; exact (mu_n n2_7).trans o2
  replace o3 : M13 al2 = some (.inr (0, [.ref de, .int 0, .int 0])) := by rw [hM13]; exact (mu_n n3_7).trans o3
  replace o4 : M13 H6.size = some (.inl (g.2 4, 200, .inr (.inr (.inr (.inr (fun _ => none)))))) := by rw [hM13]; exact (mu_n n4_7).trans o4
  replace o5 : M13 H8.size = some (.inl (g.2 0, 200, .inl (fun _ => 0))) := by rw [hM13]; exact (mu_n n5_7).trans o5
  replace o6 : M13 H10.size = some (.inl (g.2 0, 200, .inl (fun _ => 0))) := by rw [hM13]; exact (mu_n n6_7).trans o6
  have o7 : M13 H12.size = some (.inl (g.2 0, 200, .inl (fun _ => 0))) := by rw [hM13]; exact mu_s
  replace fr : ∀ q, q < s.heap.size → q ≠ a → M13 q = M q := fun q h1 h2 => by rw [hM13]; exact (mu_n (by omega)).trans (fr q h1 h2)
  refine m_putF (ci := 6) (v := .ref H12.size) (ty := .array .int) hx hb hT in_H ty_H tk_H nm_H hown hK hH (o0) rfl 5 (by decide) (hT _ w105) (fun _ h9 => h9) rfl hnm rfl (by decide +kernel) rfl rfl (Nat.le_of_ble_eq_true rfl) d_H_init_60 (e1 := .inr (6, [.ref s.heap.size, .ref H3.size, .ref H6.size, .ref H8.size, .ref H10.size, .ref H12.size])) rfl (fun H14 locs hH zH14 => ?_)
  obtain ⟨M14, hM14⟩ : ∃ Mz : MW, Mz = mu M13 a (.inr (6, [.ref s.heap.size, .ref H3.size, .ref H6.size, .ref H8.size, .ref H10.size, .ref H12.size])) := ⟨_, rfl⟩
  replace hH : HS g (mA M s.heap.size) s.heap M14 H14 locs := by rw [hM14]; exact hH
  replace o1 : M14 s.heap.size = some (.inr (0, [.ref de, .int 0, .int 0])) := by rw [hM14]; exact (mu_n (Ne.symm n0_1)).trans o1
  replace o2 : M14 H3.size = some (.inr (4, [.ref al2])) := by rw [hM14]; exact (mu_n (Ne.symm n0_2)).trans o2
  replace o3 : M14 al2 = some (.inr (0, [.ref de, .int 0, .int 0])) := by rw [hM14]; exact (mu_n (by omega)).trans o3
  replace o4 : M14 H6.size = some (.inl (g.2 4, 200, .inr (.inr (.inr (.inr (fun _ => none)))))) := by rw [hM14]; exact (mu_n (Ne.symm n0_4)).trans o4
  replace o5 : M14 H8.size = some (.inl (g.2 0, 200, .inl (fun _ => 0))) := by rw [hM14]; exact (mu_n (Ne.symm n0_5)).trans o5
  replace o6 : M14 H10.size = some (.inl (g.2 0, 200, .inl (fun _ => 0))) := by rw [hM14]; exact (mu_n (Ne.symm n0_6)).trans o6
  replace o7 : M14 H12.size = some (.inl (g.2 0, 200, .inl (fun _ => 0))) := by rw [hM14]; exact (mu_n (Ne.symm n0_7)).trans o7
  have o0 : M14 a = some (.inr (6, [.ref s.heap.size, .ref H3.size, .ref H6.size, .ref H8.size, .ref H10.size, .ref H12.size])) := by rw [hM14]; exact mu_s
  replace fr : ∀ q, q < s.heap.size → q ≠ a → M14 q = M q := fun q h1 h2 => by rw [hM14]; exact (mu_n (by omega)).trans (fr q h1 h2)
  refine lv_iconst (v := 0) hx hb d_H_init_63 (by decide) ?_
  refine lv_istore_n (lv' := [(1, .int 0), (0, .ref a)]) hx hb d_H_init_64 rfl hl (by decide) rfl (fun ls hl => ?_)
  have hn4 : a < s.heap.size ∧ s.heap.size < H3.size ∧ H3.size < al2 ∧ al2 < H6.size ∧ H6.size < H8.size ∧ H8.size < H10.size ∧ H10.size < H12.size := by omega
  have l7 := hH.1.lt o7
  obtain ⟨D, hD⟩ : ∃ D, D = H14.size := ⟨_, rfl⟩
  have o4b : M14 H6.size = some (.inl (g.2 4, 200, .inr (.inr (.inr (.inr (fun q => if q < 0 then some ((fun _ => 0) q) else none)))))) := by rw [o4]; congr 8
  refine W.repC (α := Heap × List Loc × Array Slot × MW × Nat × (Nat → Nat)) (fun (H, locs, ls, Mx, k, β) => 200 - k) (fun (H, locs, ls, Mx, k, β) => lv_has ls 2 [(0, .ref a), (1, .int (nI k))] ∧ HS g (mA M s.heap.size) s.heap Mx H locs ∧ k ≤ 200 ∧ Mx a = some (.inr (6, [.ref s.heap.size, .ref H3.size, .ref H6.size, .ref H8.size, .ref H10.size, .ref H12.size])) ∧ Mx s.heap.size = some (.inr (0, [.ref de, .int 0, .int 0])) ∧ Mx H3.size = some (.inr (4, [.ref al2])) ∧ Mx al2 = some (.inr (0, [.ref de, .int 0, .int 0])) ∧ Mx H8.size = some (.inl (g.2 0, 200, .inl (fun _ => 0))) ∧ Mx H10.size = some (.inl (g.2 0, 200, .inl (fun _ => 0))) ∧ Mx H12.size = some (.inl (g.2 0, 200, .inl (fun _ => 0))) ∧ Mx H6.size = some (.inl (g.2 4, 200, .inr (.inr (.inr (.inr (fun q => if q < k then some (β q) else none)))))) ∧ (∀ i, i < k → Mx (β i) = some (.inr (2, [.int (nI i), .int 0, .int 0, .int 0, .int 0])) ∧ D ≤ β i) ∧ (∀ i j, i < j → j < k → β i < β j) ∧ D ≤ H.size ∧ (∀ q, q < s.heap.size → q ≠ a → Mx q = M q)) (fun (H, locs, ls, Mx, k, β) => H) (fun (H, locs, ls, Mx, k, β) => locs) (fun (H, locs, ls, Mx, k, β) => 7 + k) (fun (H, locs, ls, Mx, k, β) => 807 + 5 * k) (fun (H, locs, ls, Mx, k, β) => F0 mi 65 ls []) ?_ (H14, locs, _, M14, 0, fun _ => 0) ⟨lv_sub hl [1, 0] rfl, hH, by omega, o0, o1, o2, o3, o5, o6, o7, o4b, fun i h => absurd h (Nat.not_lt_zero _), fun i j _ h => absurd h (Nat.not_lt_zero _), by omega, fr⟩
  rintro ⟨H, locs, ls, Mx, k, β⟩ ⟨hl, hH, hk, o0, o1, o2, o3, o5, o6, o7, o4, hd, hβ, hDs, fr⟩ ih
  dsimp only at hl hH hk o0 o1 o2 o3 o5 o6 o7 o4 hd hβ hDs fr ih ⊢
  refine lv_iload_n hx hb d_H_init_65 rfl (lv_at hl 1 rfl) ?_
  refine lv_aload_n hx hb d_H_init_66 rfl (lv_at hl 0 rfl) ?_
  refine m_get (ci := 6) (v := .ref H6.size) hx hb hT in_H hown hK hH.1 (o0) rfl 2 (by decide) (hT _ w102) (fun _ h9 => h9) rfl d_H_init_67 ?_
  refine m_alen (v := nI 200) hx hb hK hH.1 4 (o4) rfl rfl d_H_init_70 ?_
  refine lv_icmp_ge (tgt := 94) hx hb d_H_init_71 (by decide) (fun c1 => ?_) (fun c1 => ?_)
  · skip
    have hk2 : k = 200 := by have := ge_of c1 (by decide) (by omega); omega
    subst hk2
    refine lv_aload_n hx hb d_H_init_94 rfl (lv_at hl 0 rfl) ?_
    refine m_get (ci := 6) (v := .ref H8.size) hx hb hT in_H hown hK hH.1 (o0) rfl 3 (by decide) (hT _ w103) (fun _ h9 => h9) rfl d_H_init_95 ?_
    refine lv_iconst (v := (-1)) hx hb d_H_init_98 (by decide) ?_
    refine m_run (c_S (As := [.ref H8.size, .int (-1)]) (rest := []) hx hb hml hl.1 hown hT hK hH.1 (c_Arr_fill l g _ H8.size (-1) (fun _ => 0) _ o5) kw_Arr_fill w97 w98 w7 hd_Arr_fill rfl rfl ⟨by decide, by decide⟩ rfl rfl (Nat.le_of_ble_eq_true rfl) d_H_init_99 ⟨by decide, Nat.le_of_ble_eq_true rfl⟩) hH (fun rv M2 HB locs hpost hH zHB hdm hfr => ?_)
    have hp2 := hpost
    refine m_vret hx hb hr hlocks hsz hH ⟨hiA a s.heap.size H3.size al2 H6.size H8.size H10.size H12.size de β, hw_init (D := D) (by rw [hp2, mu_n (by omega)]; exact o0) (by rw [hp2, mu_n (by omega)]; exact o1) (by rw [hp2, mu_n (by omega)]; exact o2) (by rw [hp2, mu_n (by omega)]; exact o3) (by rw [hp2, mu_n (by omega)]; exact o4) (by rw [hp2]; exact mu_s) (by rw [hp2, mu_n (by omega)]; exact o6) (by rw [hp2, mu_n (by omega)]; exact o7) (fun i hi => by rw [hp2, mu_n (by have := (hd i hi).2; omega)]; exact (hd i hi).1) (by omega) (by omega) (by omega) (by omega) (by omega) (by omega) (by omega) (fun i hi => by have := (hd i hi).2; omega) hβ, rfl, ⟨fun _ => ⟨rfl, rfl⟩, fun _ => ⟨rfl, rfl⟩⟩, fun q h1 h2 => by rw [hp2, mu_n (by omega)]; exact fr q (by omega) h2⟩ d_H_init_102
  · skip
    have hk2 : k < 200 := by rcases Nat.lt_or_ge k 200 with h9 | h9; exact h9; exact absurd (nI_le h9 (by omega)) c1
    have hP9 : ∀ q e9, Mx q = some e9 → q < H.size := fun q e9 h9 => hH.1.lt h9
    refine lv_aload_n hx hb d_H_init_74 rfl (lv_at hl 0 rfl) ?_
    refine m_get (ci := 6) (v := .ref H6.size) hx hb hT in_H hown hK hH.1 (o0) rfl 2 (by decide) (hT _ w102) (fun _ h9 => h9) rfl d_H_init_75 ?_
    refine lv_iload_n hx hb d_H_init_78 rfl (lv_at hl 1 rfl) ?_
    have l0 := hH.1.lt o0
    have l1 := hH.1.lt o1
    have l2 := hH.1.lt o2
    have l3 := hH.1.lt o3
    have l4 := hH.1.lt o4
    have l5 := hH.1.lt o5
    have l6 := hH.1.lt o6
    have l7 := hH.1.lt o7
    refine m_new (ci := 2) (fs := [.int 0, .int 0, .int 0, .int 0, .int 0]) hx hb hT in_Door ty_Door tk_Door hown (hT _ w69) (hT _ w71) (hT _ w6) hK hH rfl (fun j hj => by rcases j with _ | _ | _ | _ | _ | j <;> first | rfl | (exact absurd hj (by omega))) (by show 7 + k + 1 ≤ 207; omega) (by show 807 + 5 * k + 5 ≤ 1807; omega) d_H_init_79 (fun HA hH zHA => ?_)
    refine lv_dup hx hb d_H_init_82 rfl ?_
    refine lv_iload_n hx hb d_H_init_83 rfl (lv_at hl 1 rfl) ?_
    refine m_run (c_I (As := [.int (nI k)]) (rest := [.ref H.size, .int (nI k), .ref H6.size]) hx hb hml hl.1 hown hT hK hH.1 (c_Door_init l g _ H.size (nI k) _ mu_s) kw_Door_init w72 w73 rfl w6 hd_Door_init rfl rfl ⟨by decide, by decide⟩ rfl rfl (Nat.le_of_ble_eq_true rfl) d_H_init_84 ⟨by show 7 + k + 1 + 0 ≤ 207; omega, by show 807 + 5 * k + 5 + 0 ≤ 1807; omega⟩) hH (fun rv M2 HB locs hpost hH zHB hdm hfr => ?_)
    obtain ⟨d0, d1⟩ := hpost
    have kp : ∀ q e9, Mx q = some e9 → M2 q = some e9 := fun q e9 h9 => by have h8 := hP9 q e9 h9; rw [d1 q (by omega) (by omega), mu_n (by omega)]; exact h9
    have ol : ∀ q e9, Mx q = some e9 → q ≠ H6.size → mu M2 H6.size (.inl (g.2 4, 200, .inr (.inr (.inr (.inr (va_up (fun q => if q < k then some (β q) else none) k (some H.size))))))) q = some e9 := fun q e9 h9 h8 => by rw [mu_n h8]; exact kp q e9 h9
    refine m_aast hx hb hK hH 4 2 (kp _ _ o4) rfl (Or.inl rfl) d0 rfl (j := k) rfl (by omega) (by decide) d_H_init_87 (fun HC locs hH zHC => ?_)
    refine lv_iinc (v := nI (k + 1)) (lv' := [(1, .int (nI (k + 1))), (0, .ref a)]) hx hb d_H_init_88 hl (k := 1) rfl (nI_1 k) (by decide) rfl (fun ls hl => ?_)
    refine lv_goto (tgt := 65) hx hb d_H_init_91 (by decide) ?_
    obtain ⟨M3, hM3⟩ : ∃ Mz : MW, Mz = mu M2 H6.size (.inl (g.2 4, 200, .inr (.inr (.inr (.inr (va_up (fun q => if q < k then some (β q) else none) k (some H.size))))))) := ⟨_, rfl⟩
    rw [← hM3] at hH ol
    have r4 : M3 H6.size = some (.inl (g.2 4, 200, .inr (.inr (.inr (.inr (fun q => if q < k + 1 then some ((fun i => if i = k then H.size else β i) q) else none)))))) := by rw [hM3, mu_s, up_f β k H.size]
    have rd : ∀ i, i < k + 1 → M3 ((fun i => if i = k then H.size else β i) i) = some (.inr (2, [.int (nI i), .int 0, .int 0, .int 0, .int 0])) ∧ D ≤ (fun i => if i = k then H.size else β i) i := by
      intro i hi
      dsimp only
      by_cases h9 : i = k
      · subst h9; rw [if_pos rfl, hM3, mu_n (by omega)]; exact ⟨d0, by omega⟩
      · rw [if_neg h9]; obtain ⟨h8, h7⟩ := hd i (by omega); exact ⟨ol _ _ h8 (by omega), h7⟩
    have rβ : ∀ i j, i < j → j < k + 1 → (fun i => if i = k then H.size else β i) i < (fun i => if i = k then H.size else β i) j := by
      intro i j hij hj
      dsimp only
      rw [if_neg (show i ≠ k by omega)]
      by_cases h9 : j = k
      · rw [if_pos h9]; exact hP9 _ _ (hd i (by omega)).1
      · rw [if_neg h9]; exact hβ i j hij (by omega)
    have rf : ∀ q, q < s.heap.size → q ≠ a → M3 q = M q := by
      intro q h1 h2
      rw [hM3, mu_n (by omega), d1 q (by omega) (by omega), mu_n (by omega)]; exact fr q h1 h2
    exact ih (_, _, _, M3, k + 1, fun i => if i = k then H.size else β i) ⟨lv_sub hl [1, 0] rfl, hH, by dsimp only; omega, ol _ _ o0 (by omega), ol _ _ o1 (by omega), ol _ _ o2 (by omega), ol _ _ o3 (by omega), ol _ _ o5 (by omega), ol _ _ o6 (by omega), ol _ _ o7 (by omega), r4, rd, rβ, by dsimp only; omega, rf⟩ (by dsimp only; omega)
