/-- what the cells hold behind the two constructors -/
def cr_V : List (Nat × Nat × Int) := [(3, 0, 0), (3, 5, 0), (17, 0, 0), (17, 3, 0), (17, 7, 0), (27, 1, 0), (27, 2, 0), (27, 4, 0), (35, 0, 0), (35, 1, 0), (35, 2, 0), (35, 3, 0), (46, 0, 0), (46, 4, 0), (46, 12, 0), (62, 3, 0), (62, 14, 0), (76, 0, 0), (76, 7, 0), (76, 11, 0), (89, 0, 0), (0, 17, 0), (129, 12, 0), (129, 13, 0), (129, 17, 0), (129, 23, 0), (129, 24, 0), (129, 26, 0), (129, 31, 0), (129, 65, 0), (129, 68, 0), (129, 114, 0), (129, 122, 0), (129, 125, 0), (129, 127, 0), (129, 131, 0), (129, 140, 0), (129, 144, 0), (129, 148, 0), (129, 83, 0), (129, 87, 0), (129, 93, 0), (129, 96, 0), (129, 104, 0), (129, 111, 0), (229, 0, 1), (229, 1, 1), (229, 2, 1), (229, 3, 1), (229, 4, 1), (229, 5, 1), (129, 7, 0), (129, 8, 0), (129, 9, 0), (129, 10, 0), (129, 11, -1), (0, 12, 0), (0, 13, 0), (0, 14, 0), (0, 15, 0), (0, 16, -1), (129, 1, 0), (1, 1, 0), (1, 2, 0), (129, 39, 0), (106, 2, 0), (106, 4, 0), (106, 8, 0), (129, 51, 0), (129, 102, 0), (129, 58, 0), (129, 159, 0)]
def cr_vs (h : cr_H) : Bool := cr_V.all (fun q => decide (cr_v h q.1 q.2.1 = q.2.2))
/-- a row in which nothing was written -/
def cr_zr (h : cr_H) (a : Nat) : Bool := match h[a]? with
  | some (.inl (_, _, _, [])) => true
  | _ => false
theorem cr_zr_v {h : cr_H} {a : Nat} (g : cr_zr h a = true) (j : Nat) : cr_v h a j = 0 := by
  unfold cr_zr at g
  split at g
  next t n b hg =>
    rw [cr_v_a hg]
    rfl
  next => cases g
def cr_chk (h : cr_H) : Bool := Nat.beq h.length 238 && (cr_es 0 h && (cr_vs h && (cr_zr h 2 && (cr_zr h 91 && (cr_zr h 115 && cr_zr h 232)))))
def cr_two (z : Bool) : cr_R := match cr_run (pg_pr z) 3000 (pg_m0 z) 0 [(0, .ref 0)] [] [.inr (11, pg_df 11)] with
  | some (h1, c1, d1) => (match cr_run (pg_pr z) 3000 (pg_m316 z) 0 [(0, .ref h1.length)] [] (h1 ++ [.inr (12, pg_df 12)]) with
    | some (h2, c2, d2) => cond (Nat.beq h1.length 129) (some (h2, 1 + c1 + 1 + c2, 19 + d1 + 160 + d2)) none
    | none => none)
  | none => none
def cr_fin (r : cr_R) : Bool := match r with
  | some (h, c, d) => cr_chk h && (Nat.beq c 238 && Nat.ble d 400000)
  | none => false
set_option maxRecDepth 100000 in
theorem cr_evf : cr_fin (cr_two false) = true := by decide +kernel
set_option maxRecDepth 100000 in
theorem cr_evt : cr_fin (cr_two true) = true := by decide +kernel
theorem cr_ev (z : Bool) : cr_fin (cr_two z) = true := match z with
  | false => cr_evf
  | true => cr_evt
theorem rm_add_add (a b c d : Nat) (r : rm_R) : rm_add a b (rm_add c d r) = rm_add (a + c) (b + d) r := by
  cases r with
  | none => rfl
  | some y =>
    obtain ⟨v, h, x, w⟩ := y
    show some (v, h, a + (c + x), b + (d + w)) = some (v, h, a + c + x, b + d + w)
    rw [Nat.add_assoc, Nat.add_assoc]
/-- the law's beginning: both constructors -/
theorem cr_start (z : Bool) (L : Nat) (xs : Nat → Int32) : ∃ h d, cr_chk h = true ∧ d ≤ 400000 ∧ ∀ m, 3000 ≤ m → rm_run (pg_G z L xs) pg_fin (pg_pr z) (m + 10) (pg_mL z) 0 [(0, .ref (rm_K + 2000))] [] [] = rm_add 238 d (rm_run (pg_G z L xs) pg_fin (pg_pr z) m (pg_mL z) 18 [(3, .int (Int32.ofInt 0)), (2, .ref 129), (1, .ref 0), (0, .ref (rm_K + 2000))] [] (cr_h h)) := by
  have ev := cr_ev z
  unfold cr_two at ev
  cases e1 : cr_run (pg_pr z) 3000 (pg_m0 z) 0 [(0, .ref 0)] [] [.inr (11, pg_df 11)] with
  | none =>
    rw [e1] at ev
    cases ev
  | some y =>
    obtain ⟨h1, c1, d1⟩ := y
    rw [e1] at ev
    dsimp only at ev
    cases e2 : cr_run (pg_pr z) 3000 (pg_m316 z) 0 [(0, .ref h1.length)] [] (h1 ++ [.inr (12, pg_df 12)]) with
    | none =>
      rw [e2] at ev
      cases ev
    | some y =>
      obtain ⟨h2, c2, d2⟩ := y
      rw [e2] at ev
      dsimp only at ev
      cases l1 : Nat.beq h1.length 129 with
      | false =>
        rw [l1] at ev
        cases ev
      | true =>
        rw [l1] at ev
        have l1 := Nat.eq_of_beq_eq_true l1
        have ev : (cr_chk h2 && (Nat.beq (1 + c1 + 1 + c2) 238 && Nat.ble (19 + d1 + 160 + d2) 400000)) = true := ev
        simp only [Bool.and_eq_true] at ev
        obtain ⟨k1, k2, k3⟩ := ev
        have k2 := Nat.eq_of_beq_eq_true k2
        have k3 := Nat.le_of_ble_eq_true k3
        refine ⟨h2, 19 + d1 + 160 + d2, k1, k3, fun m hm => ?_⟩
        have r1 := rm_mono (show 3000 ≤ m + 7 by omega) (cr_ok (z := z) (L := L) (xs := xs) _ _ _ _ _ _ _ _ _ e1)
        have r2 := rm_mono (show 3000 ≤ m + 3 by omega) (cr_ok (z := z) (L := L) (xs := xs) _ _ _ _ _ _ _ _ _ e2)
        rw [l1, cr_h_app] at r2
        have hl : (cr_h h1).length = 129 := by rw [cr_h_len, l1]
        have s10 : rm_run (pg_G z L xs) pg_fin (pg_pr z) (m + 10) (pg_mL z) 0 [(0, .ref (rm_K + 2000))] [] [] = rm_add 1 19 (rm_run (pg_G z L xs) pg_fin (pg_pr z) (m + 9) (pg_mL z) 3 [(0, .ref (rm_K + 2000))] [.ref 0] (cr_h [.inr (11, pg_df 11)])) := rm_b2 (n := m + 9) (ins := .new 7) (x := (3, [(0, .ref (rm_K + 2000))], [.ref 0], cr_h [.inr (11, pg_df 11)], 1, 19)) rfl rfl rfl
        have s9 : rm_run (pg_G z L xs) pg_fin (pg_pr z) (m + 9) (pg_mL z) 3 [(0, .ref (rm_K + 2000))] [.ref 0] (cr_h [.inr (11, pg_df 11)]) = rm_run (pg_G z L xs) pg_fin (pg_pr z) (m + 8) (pg_mL z) 4 [(0, .ref (rm_K + 2000))] [.ref 0, .ref 0] (cr_h [.inr (11, pg_df 11)]) := rm_b1 (n := m + 8) (ins := .dup) (x := (4, [(0, .ref (rm_K + 2000))], [.ref 0, .ref 0])) rfl rfl
        have s8 : rm_run (pg_G z L xs) pg_fin (pg_pr z) (m + 8) (pg_mL z) 4 [(0, .ref (rm_K + 2000))] [.ref 0, .ref 0] (cr_h [.inr (11, pg_df 11)]) = rm_add c1 d1 (rm_run (pg_G z L xs) pg_fin (pg_pr z) (m + 7) (pg_mL z) 7 [(0, .ref (rm_K + 2000))] [.ref 0] (cr_h h1)) := rm_b3 (n := m + 7) (ins := .invokespecial 9) (j := 0) (as := [.ref 0]) (rest := [.ref 0]) (M' := pg_m0 z) (v := none) rfl rfl rfl (by cases z <;> rfl) (by cases z <;> rfl) r1
        have s7 : rm_run (pg_G z L xs) pg_fin (pg_pr z) (m + 7) (pg_mL z) 7 [(0, .ref (rm_K + 2000))] [.ref 0] (cr_h h1) = rm_run (pg_G z L xs) pg_fin (pg_pr z) (m + 6) (pg_mL z) 8 [(1, .ref 0), (0, .ref (rm_K + 2000))] [] (cr_h h1) := rm_b1 (n := m + 6) (ins := .astore_n 1) (x := (8, [(1, .ref 0), (0, .ref (rm_K + 2000))], [])) rfl rfl
        have s6 : rm_run (pg_G z L xs) pg_fin (pg_pr z) (m + 6) (pg_mL z) 8 [(1, .ref 0), (0, .ref (rm_K + 2000))] [] (cr_h h1) = rm_add 1 160 (rm_run (pg_G z L xs) pg_fin (pg_pr z) (m + 5) (pg_mL z) 11 [(1, .ref 0), (0, .ref (rm_K + 2000))] [.ref 129] (cr_h h1 ++ cr_h [.inr (12, pg_df 12)])) := rm_b2 (n := m + 5) (ins := .new 10) (x := (11, [(1, .ref 0), (0, .ref (rm_K + 2000))], [.ref 129], cr_h h1 ++ cr_h [.inr (12, pg_df 12)], 1, 160)) rfl rfl (by
          show (if (cr_h h1).length < rm_K then some (11, [(1, Value.ref 0), (0, Value.ref (rm_K + 2000))], [Value.ref (cr_h h1).length], cr_h h1 ++ [.inr (12, pg_df 12)], 1, (pg_df 12).length) else none) = _
          rw [hl, if_pos (by decide)]
          rfl)
        have s5 : rm_run (pg_G z L xs) pg_fin (pg_pr z) (m + 5) (pg_mL z) 11 [(1, .ref 0), (0, .ref (rm_K + 2000))] [.ref 129] (cr_h h1 ++ cr_h [.inr (12, pg_df 12)]) = rm_run (pg_G z L xs) pg_fin (pg_pr z) (m + 4) (pg_mL z) 12 [(1, .ref 0), (0, .ref (rm_K + 2000))] [.ref 129, .ref 129] (cr_h h1 ++ cr_h [.inr (12, pg_df 12)]) := rm_b1 (n := m + 4) (ins := .dup) (x := (12, [(1, .ref 0), (0, .ref (rm_K + 2000))], [.ref 129, .ref 129])) rfl rfl
        have s4 : rm_run (pg_G z L xs) pg_fin (pg_pr z) (m + 4) (pg_mL z) 12 [(1, .ref 0), (0, .ref (rm_K + 2000))] [.ref 129, .ref 129] (cr_h h1 ++ cr_h [.inr (12, pg_df 12)]) = rm_add c2 d2 (rm_run (pg_G z L xs) pg_fin (pg_pr z) (m + 3) (pg_mL z) 15 [(1, .ref 0), (0, .ref (rm_K + 2000))] [.ref 129] (cr_h h2)) := rm_b3 (n := m + 3) (ins := .invokespecial 12) (j := 316) (as := [.ref 129]) (rest := [.ref 129]) (M' := pg_m316 z) (v := none) rfl rfl rfl (by cases z <;> rfl) (by cases z <;> rfl) r2
        have s3 : rm_run (pg_G z L xs) pg_fin (pg_pr z) (m + 3) (pg_mL z) 15 [(1, .ref 0), (0, .ref (rm_K + 2000))] [.ref 129] (cr_h h2) = rm_run (pg_G z L xs) pg_fin (pg_pr z) (m + 2) (pg_mL z) 16 [(2, .ref 129), (1, .ref 0), (0, .ref (rm_K + 2000))] [] (cr_h h2) := rm_b1 (n := m + 2) (ins := .astore_n 2) (x := (16, [(2, .ref 129), (1, .ref 0), (0, .ref (rm_K + 2000))], [])) rfl rfl
        have s2 : rm_run (pg_G z L xs) pg_fin (pg_pr z) (m + 2) (pg_mL z) 16 [(2, .ref 129), (1, .ref 0), (0, .ref (rm_K + 2000))] [] (cr_h h2) = rm_run (pg_G z L xs) pg_fin (pg_pr z) (m + 1) (pg_mL z) 17 [(2, .ref 129), (1, .ref 0), (0, .ref (rm_K + 2000))] [.int (Int32.ofInt 0)] (cr_h h2) := rm_b1 (n := m + 1) (ins := .iconst 0) (x := (17, [(2, .ref 129), (1, .ref 0), (0, .ref (rm_K + 2000))], [.int (Int32.ofInt 0)])) rfl rfl
        have s1 : rm_run (pg_G z L xs) pg_fin (pg_pr z) (m + 1) (pg_mL z) 17 [(2, .ref 129), (1, .ref 0), (0, .ref (rm_K + 2000))] [.int (Int32.ofInt 0)] (cr_h h2) = rm_run (pg_G z L xs) pg_fin (pg_pr z) m (pg_mL z) 18 [(3, .int (Int32.ofInt 0)), (2, .ref 129), (1, .ref 0), (0, .ref (rm_K + 2000))] [] (cr_h h2) := rm_b1 (n := m) (ins := .istore_n 3) (x := (18, [(3, .int (Int32.ofInt 0)), (2, .ref 129), (1, .ref 0), (0, .ref (rm_K + 2000))], [])) rfl rfl
        rw [s10, s9, s8, s7, s6, s5, s4, s3, s2, s1, rm_add_add, rm_add_add, rm_add_add, k2]
