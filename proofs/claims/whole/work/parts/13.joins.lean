/-! Private methods: which is selected; joins and loops; numbers. -/
theorem selp_in {w : Cond} (h : w ∈ k2_sels lw_privs) (hg : goodWord w = true) : w ∈ TT := tt_mem (List.mem_append_left _ h) hg
theorem selp_AL_add2 : Cond.selects "java/util/ArrayList" y_AL_add2 y_AL_add2 ∈ TT := selp_in (List.mem_of_getElem? (i := 1) rfl) rfl
theorem selp_AL_grow1 : Cond.selects "java/util/ArrayList" y_AL_grow1 y_AL_grow1 ∈ TT := selp_in (List.mem_of_getElem? (i := 2) rfl) rfl
theorem selp_AL_grow2 : Cond.selects "java/util/ArrayList" y_AL_grow2 y_AL_grow2 ∈ TT := selp_in (List.mem_of_getElem? (i := 3) rfl) rfl
theorem selp_H_cardAt : Cond.selects "LockHouse" y_H_cardAt y_H_cardAt ∈ TT := selp_in (List.mem_of_getElem? (i := 4) rfl) rfl
theorem selp_H_isCard : Cond.selects "LockHouse" y_H_isCard y_H_isCard ∈ TT := selp_in (List.mem_of_getElem? (i := 5) rfl) rfl
theorem selp_Card_putNext : Cond.selects "LockHouse$Card" y_Card_putNext y_Card_putNext ∈ TT := selp_in (List.mem_of_getElem? (i := 6) rfl) rfl
theorem selp_EL_holds : Cond.selects "LockHouse$EntryList" y_EL_holds y_EL_holds ∈ TT := selp_in (List.mem_of_getElem? (i := 7) rfl) rfl
theorem selp_H_doorAt : Cond.selects "LockHouse" y_H_doorAt y_H_doorAt ∈ TT := selp_in (List.mem_of_getElem? (i := 8) rfl) rfl
theorem selp_H_isDoor : Cond.selects "LockHouse" y_H_isDoor y_H_isDoor ∈ TT := selp_in (List.mem_of_getElem? (i := 9) rfl) rfl
theorem selp_H_present : Cond.selects "LockHouse" y_H_present y_H_present ∈ TT := selp_in (List.mem_of_getElem? (i := 10) rfl) rfl
theorem selp_Door_startsRun : Cond.selects "LockHouse$Door" y_Door_startsRun y_Door_startsRun ∈ TT := selp_in (List.mem_of_getElem? (i := 11) rfl) rfl
theorem selp_T_noCard : Cond.selects "LockHouseModel" y_T_noCard y_T_noCard ∈ TT := selp_in (List.mem_of_getElem? (i := 12) rfl) rfl
theorem selp_T_write : Cond.selects "LockHouseModel" y_T_write y_T_write ∈ TT := selp_in (List.mem_of_getElem? (i := 13) rfl) rfl
theorem selp_T_tells : Cond.selects "LockHouseModel" y_T_tells y_T_tells ∈ TT := selp_in (List.mem_of_getElem? (i := 14) rfl) rfl
theorem selp_T_count : Cond.selects "LockHouseModel" y_T_count y_T_count ∈ TT := selp_in (List.mem_of_getElem? (i := 15) rfl) rfl
theorem selp_T_current : Cond.selects "LockHouseModel" y_T_current y_T_current ∈ TT := selp_in (List.mem_of_getElem? (i := 16) rfl) rfl
theorem selp_T_whole : Cond.selects "LockHouseModel" y_T_whole y_T_whole ∈ TT := selp_in (List.mem_of_getElem? (i := 17) rfl) rfl
theorem selp_T_wordAt : Cond.selects "LockHouseModel" y_T_wordAt y_T_wordAt ∈ TT := selp_in (List.mem_of_getElem? (i := 18) rfl) rfl
theorem selp_T_sequence : Cond.selects "LockHouseModel" y_T_sequence y_T_sequence ∈ TT := selp_in (List.mem_of_getElem? (i := 19) rfl) rfl
theorem selp_T_first : Cond.selects "LockHouseModel" y_T_first y_T_first ∈ TT := selp_in (List.mem_of_getElem? (i := 20) rfl) rfl
theorem selp_T_seen : Cond.selects "LockHouseModel" y_T_seen y_T_seen ∈ TT := selp_in (List.mem_of_getElem? (i := 21) rfl) rfl
theorem selp_T_give : Cond.selects "LockHouseModel" y_T_give y_T_give ∈ TT := selp_in (List.mem_of_getElem? (i := 22) rfl) rfl
theorem selp_T_visitAt : Cond.selects "LockHouseModel" y_T_visitAt y_T_visitAt ∈ TT := selp_in (List.mem_of_getElem? (i := 23) rfl) rfl
theorem selp_T_revokedAt : Cond.selects "LockHouseModel" y_T_revokedAt y_T_revokedAt ∈ TT := selp_in (List.mem_of_getElem? (i := 24) rfl) rfl
theorem selp_T_greatest : Cond.selects "LockHouseModel" y_T_greatest y_T_greatest ∈ TT := selp_in (List.mem_of_getElem? (i := 25) rfl) rfl
theorem selp_T_complete : Cond.selects "LockHouseModel" y_T_complete y_T_complete ∈ TT := selp_in (List.mem_of_getElem? (i := 26) rfl) rfl
theorem selp_T_marks : Cond.selects "LockHouseModel" y_T_marks y_T_marks ∈ TT := selp_in (List.mem_of_getElem? (i := 27) rfl) rfl
theorem selp_T_runs : Cond.selects "LockHouseModel" y_T_runs y_T_runs ∈ TT := selp_in (List.mem_of_getElem? (i := 28) rfl) rfl
section JROWS
variable {p : Program} {l : Launch} {e : Env} {R : Room} {s : State} {m : MethodId} {args : Array Value} {below : List Frame} {meth : Method} {c : Code} {H : Heap} {locs : List Loc} {cells slots : Nat} {Q : State → Prop}
theorem W.join {α : Type} {f : α → JFrame} {g : JFrame} (P : α → Prop) (k : ∀ x, P x → W p l e R s m args below meth c H locs cells slots Q (f x)) (kk : (∀ x, P x → W p l e R s m args below meth c H locs cells slots Q (f x)) → W p l e R s m args below meth c H locs cells slots Q g) : W p l e R s m args below meth c H locs cells slots Q g := kk k
/-- a loop: a measure falls at each turn -/
theorem W.rep {α : Type} (μ : α → Nat) (P : α → Prop) (Hf : α → Heap) (Lf : α → List Loc) (f : α → JFrame) (step : ∀ x, P x → (∀ x', P x' → μ x' < μ x → W p l e R s m args below meth c (Hf x') (Lf x') cells slots Q (f x')) → W p l e R s m args below meth c (Hf x) (Lf x) cells slots Q (f x)) : ∀ x, P x → W p l e R s m args below meth c (Hf x) (Lf x) cells slots Q (f x) := by
  have key : ∀ (n : Nat) x, μ x < n → P x → W p l e R s m args below meth c (Hf x) (Lf x) cells slots Q (f x) := by
    intro n
    induction n with
    | zero => intro x h; omega
    | succ n ih => intro x hn hp; exact step x hp (fun x' hp' hlt => ih x' (by omega) hp')
  exact fun x hp => key (μ x + 1) x (by omega) hp
end JROWS
theorem n_n (n : Nat) : nI n = Int32.ofNat n := rfl
theorem n_of {x : Int32} {n : Nat} (h0 : ¬ x < 0) (h1 : ¬ nI n ≤ x) (hn : n < 2 ^ 31) : ∃ j, j < n ∧ x = nI j := by
  obtain ⟨j, hj, rfl⟩ := nI_of h0
  exact ⟨j, by rcases Nat.lt_or_ge j n with h | h; exact h; exact absurd (nI_le h (by omega)) h1, rfl⟩
theorem ix3 (c b i : Nat) : (88 : Int32) * nI c + 44 * nI b + nI i = nI (88 * c + 44 * b + i) := by
  rw [show (88 : Int32) = nI 88 from rfl, show (44 : Int32) = nI 44 from rfl, pk_mul, pk_mul, nI_add, nI_add]
theorem ixd (d i : Nat) : (3001 : Int32) * nI d + nI i = nI (3001 * d + i) := by
  rw [show (3001 : Int32) = nI 3001 from rfl, pk_mul, nI_add]
