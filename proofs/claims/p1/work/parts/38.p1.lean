def ev_r (xs : Nat → Int32) : Nat → Int32 := fun k => if k = 100 then xs 0 &&& 127 else xs k
theorem ev_df : ∀ l ∈ pg_dl, ∀ v ∈ l, ((match v with
  | .float _ => false
  | .retAddr _ => false
  | _ => true) : Bool) = true := by decide +kernel
theorem ev_self {ρ : Nat → Int32} {v : Value} (h : ((match v with
  | .float _ => false
  | .retAddr _ => false
  | _ => true) : Bool) = true) : se_r ρ v v := by
  cases v <;> first | rfl | (cases h)
theorem ev_G (z : Bool) {L : Nat} (xs : Nat → Int32) (hL : L ≤ 90) : se_G (pg_G z L (fun _ => 0)) (pg_G z L xs) L (ev_r xs) := by
  refine ⟨hL, fun k hk => ?_, ⟨xs, rfl, fun j hj => ?_⟩, rfl, fun _ => rfl, fun _ _ => rfl, fun ci v hv => ?_⟩
  · show pg_ca L xs k = pg_ca L (fun _ => 0) k
    unfold pg_ca
    rw [show Nat.beq k 2000 = false from Bool.eq_false_iff.mpr (fun h => hk (Nat.eq_of_beq_eq_true h))]
    rfl
  · show xs j = if j = 100 then xs 0 &&& 127 else xs j
    rw [if_neg (by omega)]
  · have hv : v ∈ pg_dl.getD ci [] := hv
    rw [List.getD_eq_getElem?_getD] at hv
    cases hc : pg_dl[ci]? with
    | none => rw [hc] at hv; cases hv
    | some l =>
      rw [hc] at hv
      exact ev_self (ev_df l (List.mem_of_getElem? hc) v hv)
theorem ev_go {z : Bool} {L : Nat} {xs : Nat → Int32} {F : se_F} (hL : L ≤ 90) (hc : se_ck (pg_G z L (fun _ => 0)) L pg_fin (pg_pr z) 60000 F (pg_mL z) 0 [(0, .ref (rm_K + 2000))] [] [] [] 0 0 = true) (hF : se_ok (ev_r xs) F) :
    ∃ n h' c1 d1, rm_run (pg_G z L xs) pg_fin (pg_pr z) n (pg_mL z) 0 [(0, .ref (rm_K + 2000))] [] [] = some (some (.int 1), h', c1, d1) ∧ c1 ≤ 600000 ∧ d1 ≤ 7302249 := by
  obtain ⟨C, D, ⟨n, r, h2, c, d, C2, D2, g1, ⟨g2, g3, g4⟩, g5, g6⟩, b1, b2⟩ := se_sound (ev_G z xs hL) (by
    show (if (100 : Nat) = 100 then xs 0 &&& 127 else xs 100) = (if (0 : Nat) = 100 then xs 0 &&& 127 else xs 0) &&& 127
    rw [if_pos rfl, if_neg (by decide)]) _ _ _ _ _ _ _ _ _ _ hc hF [(0, .ref (rm_K + 2000))] [] [] [] ⟨⟨rfl, rfl⟩, trivial⟩ trivial trivial trivial
  subst g2
  exact ⟨n, h2, c, d, g1, by omega, by omega⟩
theorem ev_and (x : Int32) : 0 ≤ (x &&& 127).toInt ∧ (x &&& 127).toInt ≤ 127 := by
  have h : ∀ y : BitVec 32, (y &&& 127#32).toInt = (((y &&& 127#32).toNat : Nat) : Int) ∧ (y &&& 127#32).toNat ≤ 127 := by
    intro y
    have h1 : (y &&& 127#32).toNat ≤ 127 := by
      rw [BitVec.toNat_and]
      exact Nat.and_le_right
    exact ⟨BitVec.toInt_eq_toNat_of_lt (by omega), h1⟩
  have h2 := h x.toBitVec
  have h3 : (x &&& 127).toInt = (x.toBitVec &&& 127#32).toInt := rfl
  rw [h3]
  omega
theorem ev_fact {xs : Nat → Int32} {a b : Int} (h1 : a ≤ (xs 0 &&& 127).toInt) (h2 : (xs 0 &&& 127).toInt ≤ b) : se_ok (ev_r xs) [(100, a, b, [])] :=
  se_ok_cons (fun q hq => by cases hq) h1 h2 (fun e he => by cases he)
theorem ev_nil {xs : Nat → Int32} : se_ok (ev_r xs) [] := fun q hq => by cases hq
set_option maxHeartbeats 4000000 in
theorem ev_run (z : Bool) {L : Nat} {xs : Nat → Int32} (hL : L ≤ 6) : ∃ n h' c1 d1, rm_run (pg_G z L xs) pg_fin (pg_pr z) n (pg_mL z) 0 [(0, .ref (rm_K + 2000))] [] [] = some (some (.int 1), h', c1, d1) ∧ c1 ≤ 600000 ∧ d1 ≤ 7302249 := by
  obtain ⟨w1, w2⟩ := ev_and (xs 0)
  cases z with
  | false =>
    match L, hL with
    | 0, _ => exact ev_go (by decide) ev_fL0 ev_nil
    | 1, _ => exact ev_go (by decide) ev_fL1 ev_nil
    | 2, _ => exact ev_go (by decide) ev_fL2 ev_nil
    | 3, _ => exact ev_go (by decide) ev_fL3 ev_nil
    | 4, _ => exact ev_go (by decide) ev_fL4 ev_nil
    | 5, _ => exact ev_go (by decide) ev_fL5 ev_nil
    | 6, _ =>
      by_cases q0 : (xs 0 &&& 127).toInt ≤ 5
      · exact ev_go (by decide) ev_f0 (ev_fact (by omega) (by omega))
      by_cases q1 : (xs 0 &&& 127).toInt ≤ 11
      · exact ev_go (by decide) ev_f1 (ev_fact (by omega) (by omega))
      by_cases q2 : (xs 0 &&& 127).toInt ≤ 17
      · exact ev_go (by decide) ev_f2 (ev_fact (by omega) (by omega))
      by_cases q3 : (xs 0 &&& 127).toInt ≤ 23
      · exact ev_go (by decide) ev_f3 (ev_fact (by omega) (by omega))
      by_cases q4 : (xs 0 &&& 127).toInt ≤ 29
      · exact ev_go (by decide) ev_f4 (ev_fact (by omega) (by omega))
      by_cases q5 : (xs 0 &&& 127).toInt ≤ 35
      · exact ev_go (by decide) ev_f5 (ev_fact (by omega) (by omega))
      by_cases q6 : (xs 0 &&& 127).toInt ≤ 41
      · exact ev_go (by decide) ev_f6 (ev_fact (by omega) (by omega))
      by_cases q7 : (xs 0 &&& 127).toInt ≤ 47
      · exact ev_go (by decide) ev_f7 (ev_fact (by omega) (by omega))
      by_cases q8 : (xs 0 &&& 127).toInt ≤ 53
      · exact ev_go (by decide) ev_f8 (ev_fact (by omega) (by omega))
      by_cases q9 : (xs 0 &&& 127).toInt ≤ 59
      · exact ev_go (by decide) ev_f9 (ev_fact (by omega) (by omega))
      by_cases q10 : (xs 0 &&& 127).toInt ≤ 65
      · exact ev_go (by decide) ev_f10 (ev_fact (by omega) (by omega))
      by_cases q11 : (xs 0 &&& 127).toInt ≤ 71
      · exact ev_go (by decide) ev_f11 (ev_fact (by omega) (by omega))
      by_cases q12 : (xs 0 &&& 127).toInt ≤ 73
      · exact ev_go (by decide) ev_f12 (ev_fact (by omega) (by omega))
      exact ev_go (by decide) ev_f13 (ev_fact (by omega) (by omega))
    | L + 7, h => exact absurd h (by omega)
  | true =>
    match L, hL with
    | 0, _ => exact ev_go (by decide) ev_tL0 ev_nil
    | 1, _ => exact ev_go (by decide) ev_tL1 ev_nil
    | 2, _ => exact ev_go (by decide) ev_tL2 ev_nil
    | 3, _ => exact ev_go (by decide) ev_tL3 ev_nil
    | 4, _ => exact ev_go (by decide) ev_tL4 ev_nil
    | 5, _ => exact ev_go (by decide) ev_tL5 ev_nil
    | 6, _ =>
      by_cases q0 : (xs 0 &&& 127).toInt ≤ 5
      · exact ev_go (by decide) ev_t0 (ev_fact (by omega) (by omega))
      by_cases q1 : (xs 0 &&& 127).toInt ≤ 11
      · exact ev_go (by decide) ev_t1 (ev_fact (by omega) (by omega))
      by_cases q2 : (xs 0 &&& 127).toInt ≤ 17
      · exact ev_go (by decide) ev_t2 (ev_fact (by omega) (by omega))
      by_cases q3 : (xs 0 &&& 127).toInt ≤ 23
      · exact ev_go (by decide) ev_t3 (ev_fact (by omega) (by omega))
      by_cases q4 : (xs 0 &&& 127).toInt ≤ 29
      · exact ev_go (by decide) ev_t4 (ev_fact (by omega) (by omega))
      by_cases q5 : (xs 0 &&& 127).toInt ≤ 35
      · exact ev_go (by decide) ev_t5 (ev_fact (by omega) (by omega))
      by_cases q6 : (xs 0 &&& 127).toInt ≤ 41
      · exact ev_go (by decide) ev_t6 (ev_fact (by omega) (by omega))
      by_cases q7 : (xs 0 &&& 127).toInt ≤ 47
      · exact ev_go (by decide) ev_t7 (ev_fact (by omega) (by omega))
      by_cases q8 : (xs 0 &&& 127).toInt ≤ 53
      · exact ev_go (by decide) ev_t8 (ev_fact (by omega) (by omega))
      by_cases q9 : (xs 0 &&& 127).toInt ≤ 59
      · exact ev_go (by decide) ev_t9 (ev_fact (by omega) (by omega))
      by_cases q10 : (xs 0 &&& 127).toInt ≤ 65
      · exact ev_go (by decide) ev_t10 (ev_fact (by omega) (by omega))
      by_cases q11 : (xs 0 &&& 127).toInt ≤ 71
      · exact ev_go (by decide) ev_t11 (ev_fact (by omega) (by omega))
      by_cases q12 : (xs 0 &&& 127).toInt ≤ 73
      · exact ev_go (by decide) ev_t12 (ev_fact (by omega) (by omega))
      exact ev_go (by decide) ev_t13 (ev_fact (by omega) (by omega))
    | L + 7, h => exact absurd h (by omega)
theorem whole_start {p : Program} {e : Env} {s : State} {m : MethodId} {below : List Frame} {meth : Method} {c : Code} (l : Launch) {b L : Nat} {xs : Nat → Int32} (hL : L ≤ 6) (C0 : lw_At p s m meth c b L xs) : W p l e room_1 s m #[Value.ref b] below meth c s.heap [] 0 0 (lw_Z below #[Value.ref b] s) (entryFrame m ([Value.ref b] : List Value).toArray 4) := by
  exact pg_start l (by omega) C0 (fun z => ev_run z hL)
