theorem li_bd {e : w_E} {N i : Nat} {U : w_S} (hi : i ≤ 512) (h : LI (Inv e N) i U) : U.2.2.2.1 ≤ 600000 ∧ U.2.2.2.2 ≤ 6000000 := by
  obtain ⟨S, R, ⟨_, _, c3⟩, t, sa, Ls, hc, _, _, _, ta, L, E, V, n, hs, _⟩ := h
  obtain ⟨_, _, _, _, _, ⟨b1, b2⟩, ⟨⟨_, _, _, _, _, _, b3, _⟩, _⟩, _⟩ := hc
  obtain ⟨_, _, _, _, _, _, _, _, _, _, _, _, _, ⟨hT, _⟩, _⟩ := hs
  obtain ⟨t1, _, _, _, _, _, t7, _, _, t10, _⟩ := hT
  have ht : tl R = L := by
    unfold tl
    rw [t1, t7]
    all_goals rfl
  rw [c3]
  rw [ht] at b2
  exact ⟨by omega, by omega⟩
theorem run_all (z : Bool) {L : Nat} {xs : Nat → Int32} (hL : L ≤ 3072) : ∃ n h' c1 d1, rm_run (pg_G z L xs) pg_fin (pg_pr z) n (pg_mL z) 0 [(0, .ref (rm_K + 2000))] [] [] = some (some (.int 1), h', c1, d1) ∧ c1 ≤ 600000 ∧ d1 ≤ 7302249 := by
  obtain ⟨h, d, k, kd, st⟩ := cr_start z L xs
  have k' := k
  unfold cr_chk at k'
  simp only [Bool.and_eq_true] at k'
  obtain ⟨k1, k2, _⟩ := k'
  have hl := Nat.eq_of_beq_eq_true k1
  have X0 := law_run (e := (z, L, xs)) (N := 16000000) (Q := fun r U => r = some (w_i 1) ∧ U.2.2.2.1 ≤ 600000 ∧ U.2.2.2.2 ≤ 6000000) (Nat.le_refl _) hL (fun i U hi hU => ⟨rfl, li_bd hi hU⟩) 512 0 (cr_S h) rfl ⟨cr_S h, cr_S h, ⟨fun _ _ => rfl, fun _ _ => rfl, rfl⟩, inv0 k⟩
  have ok : w_okl [(0, w_s 1002000), (1, w_s 0), (2, w_s 129), (3, w_i (6 * ((0 : Nat) : Int)))] := by
    intro q hq
    simp only [List.mem_cons, List.not_mem_nil, or_false] at hq
    rcases hq with rfl | rfl | rfl | rfl
    · trivial
    · trivial
    · trivial
    · exact ⟨by decide, by decide⟩
  have ok2 : w_oks [] := by
    intro q hq
    cases hq
  have hin : w_in [(0, w_s 1002000), (1, w_s 0), (2, w_s 129), (3, w_i (6 * ((0 : Nat) : Int)))] [(3, .int (Int32.ofInt 0)), (2, .ref 129), (1, .ref 0), (0, .ref (rm_K + 2000))] := by
    refine ⟨by decide, fun q hq => ?_⟩
    simp only [List.mem_cons, List.not_mem_nil, or_false] at hq
    rcases hq with rfl | rfl | rfl | rfl
    · exact List.mem_of_getElem? (i := 3) rfl
    · exact List.mem_of_getElem? (i := 2) rfl
    · exact List.mem_of_getElem? (i := 1) rfl
    · exact List.mem_of_getElem? (i := 0) rfl
  obtain ⟨n, r, h', S', c, d', r1, _, r3, r4, _, _, _, rfl, b1, b2⟩ := X0 ok ok2 _ hin (cr_h h) (cr_w hl k2)
  have n1 : (cr_S h).2.2.2.1 = 238 := hl
  have n2 : (cr_S h).2.2.2.2 = 0 := rfl
  rw [n1] at r3
  rw [n2] at r4
  refine ⟨max n 3000 + 10, h', 238 + c, d + d', ?_, by omega, by omega⟩
  rw [st _ (Nat.le_max_right n 3000)]
  have r5 := rm_mono (Nat.le_max_left n 3000) r1
  have r5 : rm_run (pg_G z L xs) pg_fin (pg_pr z) (max n 3000) (pg_mL z) 18 [(3, .int (Int32.ofInt 0)), (2, .ref 129), (1, .ref 0), (0, .ref (rm_K + 2000))] [] (cr_h h) = some (some (.int (Int32.ofInt 1)), h', c, d') := r5
  rw [r5]
  rfl
/-- the walk of the law's body -/
theorem whole_start {p : Program} {e : Env} {s : State} {m : MethodId} {below : List Frame} {meth : Method} {c : Code} (l : Launch) {b L : Nat} {xs : Nat → Int32} (hbd : L ≤ 3072) (C0 : lw_At p s m meth c b L xs) : W p l e room_1 s m #[Value.ref b] below meth c s.heap [] 0 0 (lw_Z below #[Value.ref b] s) (entryFrame m ([Value.ref b] : List Value).toArray 4) := pg_start l (by omega) C0 (fun z => run_all z hbd)
