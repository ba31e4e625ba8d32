theorem ck_ib {x n : Int} (h : w_ib x n = true) : 0 ≤ x ∧ x < n := by
  unfold w_ib at h
  simpa using h
theorem ck_n32 (c : Int32) : w_n c.toInt := by
  have a := Int32.le_toInt c
  have b := Int32.toInt_lt c
  exact ⟨by omega, by omega⟩
theorem ck_ld {mx pc : Nat} {k : Fin 4} {l : rm_L} {st : List Value} {b : Nat} (g : rm_get l k = some (.ref b)) : rm_s1 mx (.aload_n k) pc l st = some (pc + 1, l, .ref b :: st) := by
  simp only [rm_s1, rm_ld, g]
theorem ck_li {mx pc : Nat} {k : Fin 4} {l : rm_L} {st : List Value} {b : Int32} (g : rm_get l k = some (.int b)) : rm_s1 mx (.iload_n k) pc l st = some (pc + 1, l, .int b :: st) := by
  simp only [rm_s1, rm_ld, g]
theorem ck_s5 (z : Bool) {v : Int32} (hv : narrow .char (.int v) = .int v) : rm_s5 (pg_m153 z) .ireturn [.int v] = some (some (.int v)) := if_pos hv
theorem ck_len0 (z : Bool) (L : Nat) (xs : Nat → Int32) (l : rm_L) (h : rm_H) (g0 : rm_get l 0 = some (.ref 1000000)) : rm_run (pg_G z L xs) pg_fin (pg_pr z) 20 (pg_m151 z) 0 l [] h = some (some (.int 18), h, 0, 0) := by
  rw [rm_b1 (ins := .aload_n 0) rfl (ck_ld g0)]
  rw [rm_b2 (ins := .getfield 9) (x := (4, l, [.ref 1000001], h, 0, 0)) rfl rfl rfl]
  rw [rm_b2 (ins := .arraylength) (x := (5, l, [.int 18], h, 0, 0)) rfl rfl rfl]
  rw [rm_b1 (ins := .aload_n 0) rfl (ck_ld g0)]
  rw [rm_b3 (ins := .invokevirtual 335) (j := 152) (as := [.ref 1000000]) (rest := [.int 18]) (M' := pg_m152 z) (h1 := h) (v := some (.int 0)) (c1 := 0) (d1 := 0) rfl rfl rfl (by cases z <;> rfl) (by cases z <;> rfl) (by cases z <;> rfl)]
  rw [rm_b1 (ins := .ishr) (x := (10, l, [.int 18])) rfl rfl]
  rw [rm_b5 (ins := .ireturn) (v := some (.int 18)) rfl rfl rfl rfl rfl rfl]
  rfl
theorem ck_ch0 {z : Bool} {L : Nat} {xs : Nat → Int32} {l : rm_L} {h : rm_H} {x v : Int32} (hr : rm_run (pg_G z L xs) pg_fin (pg_pr z) 16 (pg_m155 z) 0 [(0, .ref 1000001), (1, .int x)] [] h = some (some (.int v), h, 0, 0)) (hv : narrow .char (.int v) = .int v) (g0 : rm_get l 0 = some (.ref 1000000)) (g1 : rm_get l 1 = some (.int x)) : rm_run (pg_G z L xs) pg_fin (pg_pr z) 23 (pg_m153 z) 0 l [] h = some (some (.int v), h, 0, 0) := by
  rw [rm_b1 (ins := .aload_n 0) rfl (ck_ld g0)]
  rw [rm_b3 (ins := .invokevirtual 492) (j := 154) (as := [.ref 1000000]) (rest := []) (M' := pg_m154 z) (h1 := h) (v := some (.int 1)) (c1 := 0) (d1 := 0) rfl rfl rfl (by cases z <;> rfl) (by cases z <;> rfl) (by cases z <;> rfl)]
  rw [rm_b1 (ins := .ifCond .eq 12) (x := (7, l, [])) rfl rfl]
  rw [rm_b1 (ins := .aload_n 0) rfl (ck_ld g0)]
  rw [rm_b2 (ins := .getfield 9) (x := (11, l, [.ref 1000001], h, 0, 0)) rfl rfl rfl]
  rw [rm_b1 (ins := .iload_n 1) rfl (ck_li g1)]
  rw [rm_b3 (ins := .invokestatic 495) (j := 155) (as := [.ref 1000001, .int x]) (rest := []) (M' := pg_m155 z) (h1 := h) (v := some (.int v)) (c1 := 0) (d1 := 0) rfl rfl rfl (by cases z <;> rfl) (by cases z <;> rfl) hr]
  have q : rm_run (pg_G z L xs) pg_fin (pg_pr z) 16 (pg_m153 z) 15 l [.int v] h = some (some (.int v), h, 0, 0) := rm_b5 (ins := .ireturn) rfl rfl rfl rfl rfl (ck_s5 z hv)
  exact (congrArg (fun r => rm_add 0 0 (rm_add 0 0 (rm_add 0 0 r))) q).trans rfl
theorem ck_in0_0 (z : Bool) (L : Nat) (xs : Nat → Int32) (h : rm_H) : rm_run (pg_G z L xs) pg_fin (pg_pr z) 16 (pg_m155 z) 0 [(0, .ref 1000001), (1, .int (Int32.ofInt ((0 : Nat) : Int)))] [] h = some (some (.int 109), h, 0, 0) := by
  cases z <;> rfl
theorem ck_in0_1 (z : Bool) (L : Nat) (xs : Nat → Int32) (h : rm_H) : rm_run (pg_G z L xs) pg_fin (pg_pr z) 16 (pg_m155 z) 0 [(0, .ref 1000001), (1, .int (Int32.ofInt ((1 : Nat) : Int)))] [] h = some (some (.int 117), h, 0, 0) := by
  cases z <;> rfl
theorem ck_in0_2 (z : Bool) (L : Nat) (xs : Nat → Int32) (h : rm_H) : rm_run (pg_G z L xs) pg_fin (pg_pr z) 16 (pg_m155 z) 0 [(0, .ref 1000001), (1, .int (Int32.ofInt ((2 : Nat) : Int)))] [] h = some (some (.int 115), h, 0, 0) := by
  cases z <;> rfl
theorem ck_in0_3 (z : Bool) (L : Nat) (xs : Nat → Int32) (h : rm_H) : rm_run (pg_G z L xs) pg_fin (pg_pr z) 16 (pg_m155 z) 0 [(0, .ref 1000001), (1, .int (Int32.ofInt ((3 : Nat) : Int)))] [] h = some (some (.int 116), h, 0, 0) := by
  cases z <;> rfl
theorem ck_in0_4 (z : Bool) (L : Nat) (xs : Nat → Int32) (h : rm_H) : rm_run (pg_G z L xs) pg_fin (pg_pr z) 16 (pg_m155 z) 0 [(0, .ref 1000001), (1, .int (Int32.ofInt ((4 : Nat) : Int)))] [] h = some (some (.int 124), h, 0, 0) := by
  cases z <;> rfl
theorem ck_in0_5 (z : Bool) (L : Nat) (xs : Nat → Int32) (h : rm_H) : rm_run (pg_G z L xs) pg_fin (pg_pr z) 16 (pg_m155 z) 0 [(0, .ref 1000001), (1, .int (Int32.ofInt ((5 : Nat) : Int)))] [] h = some (some (.int 111), h, 0, 0) := by
  cases z <;> rfl
theorem ck_in0_6 (z : Bool) (L : Nat) (xs : Nat → Int32) (h : rm_H) : rm_run (pg_G z L xs) pg_fin (pg_pr z) 16 (pg_m155 z) 0 [(0, .ref 1000001), (1, .int (Int32.ofInt ((6 : Nat) : Int)))] [] h = some (some (.int 110), h, 0, 0) := by
  cases z <;> rfl
theorem ck_in0_7 (z : Bool) (L : Nat) (xs : Nat → Int32) (h : rm_H) : rm_run (pg_G z L xs) pg_fin (pg_pr z) 16 (pg_m155 z) 0 [(0, .ref 1000001), (1, .int (Int32.ofInt ((7 : Nat) : Int)))] [] h = some (some (.int 99), h, 0, 0) := by
  cases z <;> rfl
theorem ck_in0_8 (z : Bool) (L : Nat) (xs : Nat → Int32) (h : rm_H) : rm_run (pg_G z L xs) pg_fin (pg_pr z) 16 (pg_m155 z) 0 [(0, .ref 1000001), (1, .int (Int32.ofInt ((8 : Nat) : Int)))] [] h = some (some (.int 101), h, 0, 0) := by
  cases z <;> rfl
theorem ck_in0_9 (z : Bool) (L : Nat) (xs : Nat → Int32) (h : rm_H) : rm_run (pg_G z L xs) pg_fin (pg_pr z) 16 (pg_m155 z) 0 [(0, .ref 1000001), (1, .int (Int32.ofInt ((9 : Nat) : Int)))] [] h = some (some (.int 124), h, 0, 0) := by
  cases z <;> rfl
theorem ck_in0_10 (z : Bool) (L : Nat) (xs : Nat → Int32) (h : rm_H) : rm_run (pg_G z L xs) pg_fin (pg_pr z) 16 (pg_m155 z) 0 [(0, .ref 1000001), (1, .int (Int32.ofInt ((10 : Nat) : Int)))] [] h = some (some (.int 104), h, 0, 0) := by
  cases z <;> rfl
theorem ck_in0_11 (z : Bool) (L : Nat) (xs : Nat → Int32) (h : rm_H) : rm_run (pg_G z L xs) pg_fin (pg_pr z) 16 (pg_m155 z) 0 [(0, .ref 1000001), (1, .int (Int32.ofInt ((11 : Nat) : Int)))] [] h = some (some (.int 97), h, 0, 0) := by
  cases z <;> rfl
theorem ck_in0_12 (z : Bool) (L : Nat) (xs : Nat → Int32) (h : rm_H) : rm_run (pg_G z L xs) pg_fin (pg_pr z) 16 (pg_m155 z) 0 [(0, .ref 1000001), (1, .int (Int32.ofInt ((12 : Nat) : Int)))] [] h = some (some (.int 115), h, 0, 0) := by
  cases z <;> rfl
theorem ck_in0_13 (z : Bool) (L : Nat) (xs : Nat → Int32) (h : rm_H) : rm_run (pg_G z L xs) pg_fin (pg_pr z) 16 (pg_m155 z) 0 [(0, .ref 1000001), (1, .int (Int32.ofInt ((13 : Nat) : Int)))] [] h = some (some (.int 124), h, 0, 0) := by
  cases z <;> rfl
theorem ck_in0_14 (z : Bool) (L : Nat) (xs : Nat → Int32) (h : rm_H) : rm_run (pg_G z L xs) pg_fin (pg_pr z) 16 (pg_m155 z) 0 [(0, .ref 1000001), (1, .int (Int32.ofInt ((14 : Nat) : Int)))] [] h = some (some (.int 109), h, 0, 0) := by
  cases z <;> rfl
theorem ck_in0_15 (z : Bool) (L : Nat) (xs : Nat → Int32) (h : rm_H) : rm_run (pg_G z L xs) pg_fin (pg_pr z) 16 (pg_m155 z) 0 [(0, .ref 1000001), (1, .int (Int32.ofInt ((15 : Nat) : Int)))] [] h = some (some (.int 111), h, 0, 0) := by
  cases z <;> rfl
theorem ck_in0_16 (z : Bool) (L : Nat) (xs : Nat → Int32) (h : rm_H) : rm_run (pg_G z L xs) pg_fin (pg_pr z) 16 (pg_m155 z) 0 [(0, .ref 1000001), (1, .int (Int32.ofInt ((16 : Nat) : Int)))] [] h = some (some (.int 115), h, 0, 0) := by
  cases z <;> rfl
theorem ck_in0_17 (z : Bool) (L : Nat) (xs : Nat → Int32) (h : rm_H) : rm_run (pg_G z L xs) pg_fin (pg_pr z) 16 (pg_m155 z) 0 [(0, .ref 1000001), (1, .int (Int32.ofInt ((17 : Nat) : Int)))] [] h = some (some (.int 116), h, 0, 0) := by
  cases z <;> rfl
theorem ck_at0 (z : Bool) (L : Nat) (xs : Nat → Int32) (l : rm_L) (h : rm_H) (g0 : rm_get l 0 = some (.ref 1000000)) : ∀ x : Nat, x < 18 → rm_get l 1 = some (.int (Int32.ofInt (x : Int))) → rm_run (pg_G z L xs) pg_fin (pg_pr z) 23 (pg_m153 z) 0 l [] h = some (some (.int (([109, 117, 115, 116, 124, 111, 110, 99, 101, 124, 104, 97, 115, 124, 109, 111, 115, 116] : List Int32).getD x 0)), h, 0, 0)
  | 0, _, g1 => ck_ch0 (ck_in0_0 z L xs h) rfl g0 g1
  | 1, _, g1 => ck_ch0 (ck_in0_1 z L xs h) rfl g0 g1
  | 2, _, g1 => ck_ch0 (ck_in0_2 z L xs h) rfl g0 g1
  | 3, _, g1 => ck_ch0 (ck_in0_3 z L xs h) rfl g0 g1
  | 4, _, g1 => ck_ch0 (ck_in0_4 z L xs h) rfl g0 g1
  | 5, _, g1 => ck_ch0 (ck_in0_5 z L xs h) rfl g0 g1
  | 6, _, g1 => ck_ch0 (ck_in0_6 z L xs h) rfl g0 g1
  | 7, _, g1 => ck_ch0 (ck_in0_7 z L xs h) rfl g0 g1
  | 8, _, g1 => ck_ch0 (ck_in0_8 z L xs h) rfl g0 g1
  | 9, _, g1 => ck_ch0 (ck_in0_9 z L xs h) rfl g0 g1
  | 10, _, g1 => ck_ch0 (ck_in0_10 z L xs h) rfl g0 g1
  | 11, _, g1 => ck_ch0 (ck_in0_11 z L xs h) rfl g0 g1
  | 12, _, g1 => ck_ch0 (ck_in0_12 z L xs h) rfl g0 g1
  | 13, _, g1 => ck_ch0 (ck_in0_13 z L xs h) rfl g0 g1
  | 14, _, g1 => ck_ch0 (ck_in0_14 z L xs h) rfl g0 g1
  | 15, _, g1 => ck_ch0 (ck_in0_15 z L xs h) rfl g0 g1
  | 16, _, g1 => ck_ch0 (ck_in0_16 z L xs h) rfl g0 g1
  | 17, _, g1 => ck_ch0 (ck_in0_17 z L xs h) rfl g0 g1
  | _ + 18, hx, _ => absurd hx (by omega)
theorem ck_len1 (z : Bool) (L : Nat) (xs : Nat → Int32) (l : rm_L) (h : rm_H) (g0 : rm_get l 0 = some (.ref 1000002)) : rm_run (pg_G z L xs) pg_fin (pg_pr z) 20 (pg_m151 z) 0 l [] h = some (some (.int 11), h, 0, 0) := by
  rw [rm_b1 (ins := .aload_n 0) rfl (ck_ld g0)]
  rw [rm_b2 (ins := .getfield 9) (x := (4, l, [.ref 1000003], h, 0, 0)) rfl rfl rfl]
  rw [rm_b2 (ins := .arraylength) (x := (5, l, [.int 11], h, 0, 0)) rfl rfl rfl]
  rw [rm_b1 (ins := .aload_n 0) rfl (ck_ld g0)]
  rw [rm_b3 (ins := .invokevirtual 335) (j := 152) (as := [.ref 1000002]) (rest := [.int 11]) (M' := pg_m152 z) (h1 := h) (v := some (.int 0)) (c1 := 0) (d1 := 0) rfl rfl rfl (by cases z <;> rfl) (by cases z <;> rfl) (by cases z <;> rfl)]
  rw [rm_b1 (ins := .ishr) (x := (10, l, [.int 11])) rfl rfl]
  rw [rm_b5 (ins := .ireturn) (v := some (.int 11)) rfl rfl rfl rfl rfl rfl]
  rfl
theorem ck_ch1 {z : Bool} {L : Nat} {xs : Nat → Int32} {l : rm_L} {h : rm_H} {x v : Int32} (hr : rm_run (pg_G z L xs) pg_fin (pg_pr z) 16 (pg_m155 z) 0 [(0, .ref 1000003), (1, .int x)] [] h = some (some (.int v), h, 0, 0)) (hv : narrow .char (.int v) = .int v) (g0 : rm_get l 0 = some (.ref 1000002)) (g1 : rm_get l 1 = some (.int x)) : rm_run (pg_G z L xs) pg_fin (pg_pr z) 23 (pg_m153 z) 0 l [] h = some (some (.int v), h, 0, 0) := by
  rw [rm_b1 (ins := .aload_n 0) rfl (ck_ld g0)]
  rw [rm_b3 (ins := .invokevirtual 492) (j := 154) (as := [.ref 1000002]) (rest := []) (M' := pg_m154 z) (h1 := h) (v := some (.int 1)) (c1 := 0) (d1 := 0) rfl rfl rfl (by cases z <;> rfl) (by cases z <;> rfl) (by cases z <;> rfl)]
  rw [rm_b1 (ins := .ifCond .eq 12) (x := (7, l, [])) rfl rfl]
  rw [rm_b1 (ins := .aload_n 0) rfl (ck_ld g0)]
  rw [rm_b2 (ins := .getfield 9) (x := (11, l, [.ref 1000003], h, 0, 0)) rfl rfl rfl]
  rw [rm_b1 (ins := .iload_n 1) rfl (ck_li g1)]
  rw [rm_b3 (ins := .invokestatic 495) (j := 155) (as := [.ref 1000003, .int x]) (rest := []) (M' := pg_m155 z) (h1 := h) (v := some (.int v)) (c1 := 0) (d1 := 0) rfl rfl rfl (by cases z <;> rfl) (by cases z <;> rfl) hr]
  have q : rm_run (pg_G z L xs) pg_fin (pg_pr z) 16 (pg_m153 z) 15 l [.int v] h = some (some (.int v), h, 0, 0) := rm_b5 (ins := .ireturn) rfl rfl rfl rfl rfl (ck_s5 z hv)
  exact (congrArg (fun r => rm_add 0 0 (rm_add 0 0 (rm_add 0 0 r))) q).trans rfl
theorem ck_in1_0 (z : Bool) (L : Nat) (xs : Nat → Int32) (h : rm_H) : rm_run (pg_G z L xs) pg_fin (pg_pr z) 16 (pg_m155 z) 0 [(0, .ref 1000003), (1, .int (Int32.ofInt ((0 : Nat) : Int)))] [] h = some (some (.int 100), h, 0, 0) := by
  cases z <;> rfl
theorem ck_in1_1 (z : Bool) (L : Nat) (xs : Nat → Int32) (h : rm_H) : rm_run (pg_G z L xs) pg_fin (pg_pr z) 16 (pg_m155 z) 0 [(0, .ref 1000003), (1, .int (Int32.ofInt ((1 : Nat) : Int)))] [] h = some (some (.int 101), h, 0, 0) := by
  cases z <;> rfl
theorem ck_in1_2 (z : Bool) (L : Nat) (xs : Nat → Int32) (h : rm_H) : rm_run (pg_G z L xs) pg_fin (pg_pr z) 16 (pg_m155 z) 0 [(0, .ref 1000003), (1, .int (Int32.ofInt ((2 : Nat) : Int)))] [] h = some (some (.int 108), h, 0, 0) := by
  cases z <;> rfl
theorem ck_in1_3 (z : Bool) (L : Nat) (xs : Nat → Int32) (h : rm_H) : rm_run (pg_G z L xs) pg_fin (pg_pr z) 16 (pg_m155 z) 0 [(0, .ref 1000003), (1, .int (Int32.ofInt ((3 : Nat) : Int)))] [] h = some (some (.int 124), h, 0, 0) := by
  cases z <;> rfl
theorem ck_in1_4 (z : Bool) (L : Nat) (xs : Nat → Int32) (h : rm_H) : rm_run (pg_G z L xs) pg_fin (pg_pr z) 16 (pg_m155 z) 0 [(0, .ref 1000003), (1, .int (Int32.ofInt ((4 : Nat) : Int)))] [] h = some (some (.int 115), h, 0, 0) := by
  cases z <;> rfl
theorem ck_in1_5 (z : Bool) (L : Nat) (xs : Nat → Int32) (h : rm_H) : rm_run (pg_G z L xs) pg_fin (pg_pr z) 16 (pg_m155 z) 0 [(0, .ref 1000003), (1, .int (Int32.ofInt ((5 : Nat) : Int)))] [] h = some (some (.int 101), h, 0, 0) := by
  cases z <;> rfl
theorem ck_in1_6 (z : Bool) (L : Nat) (xs : Nat → Int32) (h : rm_H) : rm_run (pg_G z L xs) pg_fin (pg_pr z) 16 (pg_m155 z) 0 [(0, .ref 1000003), (1, .int (Int32.ofInt ((6 : Nat) : Int)))] [] h = some (some (.int 116), h, 0, 0) := by
  cases z <;> rfl
theorem ck_in1_7 (z : Bool) (L : Nat) (xs : Nat → Int32) (h : rm_H) : rm_run (pg_G z L xs) pg_fin (pg_pr z) 16 (pg_m155 z) 0 [(0, .ref 1000003), (1, .int (Int32.ofInt ((7 : Nat) : Int)))] [] h = some (some (.int 124), h, 0, 0) := by
  cases z <;> rfl
theorem ck_in1_8 (z : Bool) (L : Nat) (xs : Nat → Int32) (h : rm_H) : rm_run (pg_G z L xs) pg_fin (pg_pr z) 16 (pg_m155 z) 0 [(0, .ref 1000003), (1, .int (Int32.ofInt ((8 : Nat) : Int)))] [] h = some (some (.int 97), h, 0, 0) := by
  cases z <;> rfl
theorem ck_in1_9 (z : Bool) (L : Nat) (xs : Nat → Int32) (h : rm_H) : rm_run (pg_G z L xs) pg_fin (pg_pr z) 16 (pg_m155 z) 0 [(0, .ref 1000003), (1, .int (Int32.ofInt ((9 : Nat) : Int)))] [] h = some (some (.int 100), h, 0, 0) := by
  cases z <;> rfl
theorem ck_in1_10 (z : Bool) (L : Nat) (xs : Nat → Int32) (h : rm_H) : rm_run (pg_G z L xs) pg_fin (pg_pr z) 16 (pg_m155 z) 0 [(0, .ref 1000003), (1, .int (Int32.ofInt ((10 : Nat) : Int)))] [] h = some (some (.int 100), h, 0, 0) := by
  cases z <;> rfl
theorem ck_at1 (z : Bool) (L : Nat) (xs : Nat → Int32) (l : rm_L) (h : rm_H) (g0 : rm_get l 0 = some (.ref 1000002)) : ∀ x : Nat, x < 11 → rm_get l 1 = some (.int (Int32.ofInt (x : Int))) → rm_run (pg_G z L xs) pg_fin (pg_pr z) 23 (pg_m153 z) 0 l [] h = some (some (.int (([100, 101, 108, 124, 115, 101, 116, 124, 97, 100, 100] : List Int32).getD x 0)), h, 0, 0)
  | 0, _, g1 => ck_ch1 (ck_in1_0 z L xs h) rfl g0 g1
  | 1, _, g1 => ck_ch1 (ck_in1_1 z L xs h) rfl g0 g1
  | 2, _, g1 => ck_ch1 (ck_in1_2 z L xs h) rfl g0 g1
  | 3, _, g1 => ck_ch1 (ck_in1_3 z L xs h) rfl g0 g1
  | 4, _, g1 => ck_ch1 (ck_in1_4 z L xs h) rfl g0 g1
  | 5, _, g1 => ck_ch1 (ck_in1_5 z L xs h) rfl g0 g1
  | 6, _, g1 => ck_ch1 (ck_in1_6 z L xs h) rfl g0 g1
  | 7, _, g1 => ck_ch1 (ck_in1_7 z L xs h) rfl g0 g1
  | 8, _, g1 => ck_ch1 (ck_in1_8 z L xs h) rfl g0 g1
  | 9, _, g1 => ck_ch1 (ck_in1_9 z L xs h) rfl g0 g1
  | 10, _, g1 => ck_ch1 (ck_in1_10 z L xs h) rfl g0 g1
  | _ + 11, hx, _ => absurd hx (by omega)
theorem ck_len2 (z : Bool) (L : Nat) (xs : Nat → Int32) (l : rm_L) (h : rm_H) (g0 : rm_get l 0 = some (.ref 1000004)) : rm_run (pg_G z L xs) pg_fin (pg_pr z) 20 (pg_m151 z) 0 l [] h = some (some (.int 6), h, 0, 0) := by
  rw [rm_b1 (ins := .aload_n 0) rfl (ck_ld g0)]
  rw [rm_b2 (ins := .getfield 9) (x := (4, l, [.ref 1000005], h, 0, 0)) rfl rfl rfl]
  rw [rm_b2 (ins := .arraylength) (x := (5, l, [.int 6], h, 0, 0)) rfl rfl rfl]
  rw [rm_b1 (ins := .aload_n 0) rfl (ck_ld g0)]
  rw [rm_b3 (ins := .invokevirtual 335) (j := 152) (as := [.ref 1000004]) (rest := [.int 6]) (M' := pg_m152 z) (h1 := h) (v := some (.int 0)) (c1 := 0) (d1 := 0) rfl rfl rfl (by cases z <;> rfl) (by cases z <;> rfl) (by cases z <;> rfl)]
  rw [rm_b1 (ins := .ishr) (x := (10, l, [.int 6])) rfl rfl]
  rw [rm_b5 (ins := .ireturn) (v := some (.int 6)) rfl rfl rfl rfl rfl rfl]
  rfl
theorem ck_ch2 {z : Bool} {L : Nat} {xs : Nat → Int32} {l : rm_L} {h : rm_H} {x v : Int32} (hr : rm_run (pg_G z L xs) pg_fin (pg_pr z) 16 (pg_m155 z) 0 [(0, .ref 1000005), (1, .int x)] [] h = some (some (.int v), h, 0, 0)) (hv : narrow .char (.int v) = .int v) (g0 : rm_get l 0 = some (.ref 1000004)) (g1 : rm_get l 1 = some (.int x)) : rm_run (pg_G z L xs) pg_fin (pg_pr z) 23 (pg_m153 z) 0 l [] h = some (some (.int v), h, 0, 0) := by
  rw [rm_b1 (ins := .aload_n 0) rfl (ck_ld g0)]
  rw [rm_b3 (ins := .invokevirtual 492) (j := 154) (as := [.ref 1000004]) (rest := []) (M' := pg_m154 z) (h1 := h) (v := some (.int 1)) (c1 := 0) (d1 := 0) rfl rfl rfl (by cases z <;> rfl) (by cases z <;> rfl) (by cases z <;> rfl)]
  rw [rm_b1 (ins := .ifCond .eq 12) (x := (7, l, [])) rfl rfl]
  rw [rm_b1 (ins := .aload_n 0) rfl (ck_ld g0)]
  rw [rm_b2 (ins := .getfield 9) (x := (11, l, [.ref 1000005], h, 0, 0)) rfl rfl rfl]
  rw [rm_b1 (ins := .iload_n 1) rfl (ck_li g1)]
  rw [rm_b3 (ins := .invokestatic 495) (j := 155) (as := [.ref 1000005, .int x]) (rest := []) (M' := pg_m155 z) (h1 := h) (v := some (.int v)) (c1 := 0) (d1 := 0) rfl rfl rfl (by cases z <;> rfl) (by cases z <;> rfl) hr]
  have q : rm_run (pg_G z L xs) pg_fin (pg_pr z) 16 (pg_m153 z) 15 l [.int v] h = some (some (.int v), h, 0, 0) := rm_b5 (ins := .ireturn) rfl rfl rfl rfl rfl (ck_s5 z hv)
  exact (congrArg (fun r => rm_add 0 0 (rm_add 0 0 (rm_add 0 0 r))) q).trans rfl
theorem ck_in2_0 (z : Bool) (L : Nat) (xs : Nat → Int32) (h : rm_H) : rm_run (pg_G z L xs) pg_fin (pg_pr z) 16 (pg_m155 z) 0 [(0, .ref 1000005), (1, .int (Int32.ofInt ((0 : Nat) : Int)))] [] h = some (some (.int 101), h, 0, 0) := by
  cases z <;> rfl
theorem ck_in2_1 (z : Bool) (L : Nat) (xs : Nat → Int32) (h : rm_H) : rm_run (pg_G z L xs) pg_fin (pg_pr z) 16 (pg_m155 z) 0 [(0, .ref 1000005), (1, .int (Int32.ofInt ((1 : Nat) : Int)))] [] h = some (some (.int 118), h, 0, 0) := by
  cases z <;> rfl
theorem ck_in2_2 (z : Bool) (L : Nat) (xs : Nat → Int32) (h : rm_H) : rm_run (pg_G z L xs) pg_fin (pg_pr z) 16 (pg_m155 z) 0 [(0, .ref 1000005), (1, .int (Int32.ofInt ((2 : Nat) : Int)))] [] h = some (some (.int 101), h, 0, 0) := by
  cases z <;> rfl
theorem ck_in2_3 (z : Bool) (L : Nat) (xs : Nat → Int32) (h : rm_H) : rm_run (pg_G z L xs) pg_fin (pg_pr z) 16 (pg_m155 z) 0 [(0, .ref 1000005), (1, .int (Int32.ofInt ((3 : Nat) : Int)))] [] h = some (some (.int 114), h, 0, 0) := by
  cases z <;> rfl
theorem ck_in2_4 (z : Bool) (L : Nat) (xs : Nat → Int32) (h : rm_H) : rm_run (pg_G z L xs) pg_fin (pg_pr z) 16 (pg_m155 z) 0 [(0, .ref 1000005), (1, .int (Int32.ofInt ((4 : Nat) : Int)))] [] h = some (some (.int 121), h, 0, 0) := by
  cases z <;> rfl
theorem ck_in2_5 (z : Bool) (L : Nat) (xs : Nat → Int32) (h : rm_H) : rm_run (pg_G z L xs) pg_fin (pg_pr z) 16 (pg_m155 z) 0 [(0, .ref 1000005), (1, .int (Int32.ofInt ((5 : Nat) : Int)))] [] h = some (some (.int 32), h, 0, 0) := by
  cases z <;> rfl
theorem ck_at2 (z : Bool) (L : Nat) (xs : Nat → Int32) (l : rm_L) (h : rm_H) (g0 : rm_get l 0 = some (.ref 1000004)) : ∀ x : Nat, x < 6 → rm_get l 1 = some (.int (Int32.ofInt (x : Int))) → rm_run (pg_G z L xs) pg_fin (pg_pr z) 23 (pg_m153 z) 0 l [] h = some (some (.int (([101, 118, 101, 114, 121, 32] : List Int32).getD x 0)), h, 0, 0)
  | 0, _, g1 => ck_ch2 (ck_in2_0 z L xs h) rfl g0 g1
  | 1, _, g1 => ck_ch2 (ck_in2_1 z L xs h) rfl g0 g1
  | 2, _, g1 => ck_ch2 (ck_in2_2 z L xs h) rfl g0 g1
  | 3, _, g1 => ck_ch2 (ck_in2_3 z L xs h) rfl g0 g1
  | 4, _, g1 => ck_ch2 (ck_in2_4 z L xs h) rfl g0 g1
  | 5, _, g1 => ck_ch2 (ck_in2_5 z L xs h) rfl g0 g1
  | _ + 6, hx, _ => absurd hx (by omega)
theorem ck_len3 (z : Bool) (L : Nat) (xs : Nat → Int32) (l : rm_L) (h : rm_H) (g0 : rm_get l 0 = some (.ref 1000006)) : rm_run (pg_G z L xs) pg_fin (pg_pr z) 20 (pg_m151 z) 0 l [] h = some (some (.int 15), h, 0, 0) := by
  rw [rm_b1 (ins := .aload_n 0) rfl (ck_ld g0)]
  rw [rm_b2 (ins := .getfield 9) (x := (4, l, [.ref 1000007], h, 0, 0)) rfl rfl rfl]
  rw [rm_b2 (ins := .arraylength) (x := (5, l, [.int 15], h, 0, 0)) rfl rfl rfl]
  rw [rm_b1 (ins := .aload_n 0) rfl (ck_ld g0)]
  rw [rm_b3 (ins := .invokevirtual 335) (j := 152) (as := [.ref 1000006]) (rest := [.int 15]) (M' := pg_m152 z) (h1 := h) (v := some (.int 0)) (c1 := 0) (d1 := 0) rfl rfl rfl (by cases z <;> rfl) (by cases z <;> rfl) (by cases z <;> rfl)]
  rw [rm_b1 (ins := .ishr) (x := (10, l, [.int 15])) rfl rfl]
  rw [rm_b5 (ins := .ireturn) (v := some (.int 15)) rfl rfl rfl rfl rfl rfl]
  rfl
theorem ck_ch3 {z : Bool} {L : Nat} {xs : Nat → Int32} {l : rm_L} {h : rm_H} {x v : Int32} (hr : rm_run (pg_G z L xs) pg_fin (pg_pr z) 16 (pg_m155 z) 0 [(0, .ref 1000007), (1, .int x)] [] h = some (some (.int v), h, 0, 0)) (hv : narrow .char (.int v) = .int v) (g0 : rm_get l 0 = some (.ref 1000006)) (g1 : rm_get l 1 = some (.int x)) : rm_run (pg_G z L xs) pg_fin (pg_pr z) 23 (pg_m153 z) 0 l [] h = some (some (.int v), h, 0, 0) := by
  rw [rm_b1 (ins := .aload_n 0) rfl (ck_ld g0)]
  rw [rm_b3 (ins := .invokevirtual 492) (j := 154) (as := [.ref 1000006]) (rest := []) (M' := pg_m154 z) (h1 := h) (v := some (.int 1)) (c1 := 0) (d1 := 0) rfl rfl rfl (by cases z <;> rfl) (by cases z <;> rfl) (by cases z <;> rfl)]
  rw [rm_b1 (ins := .ifCond .eq 12) (x := (7, l, [])) rfl rfl]
  rw [rm_b1 (ins := .aload_n 0) rfl (ck_ld g0)]
  rw [rm_b2 (ins := .getfield 9) (x := (11, l, [.ref 1000007], h, 0, 0)) rfl rfl rfl]
  rw [rm_b1 (ins := .iload_n 1) rfl (ck_li g1)]
  rw [rm_b3 (ins := .invokestatic 495) (j := 155) (as := [.ref 1000007, .int x]) (rest := []) (M' := pg_m155 z) (h1 := h) (v := some (.int v)) (c1 := 0) (d1 := 0) rfl rfl rfl (by cases z <;> rfl) (by cases z <;> rfl) hr]
  have q : rm_run (pg_G z L xs) pg_fin (pg_pr z) 16 (pg_m153 z) 15 l [.int v] h = some (some (.int v), h, 0, 0) := rm_b5 (ins := .ireturn) rfl rfl rfl rfl rfl (ck_s5 z hv)
  exact (congrArg (fun r => rm_add 0 0 (rm_add 0 0 (rm_add 0 0 r))) q).trans rfl
theorem ck_in3_0 (z : Bool) (L : Nat) (xs : Nat → Int32) (h : rm_H) : rm_run (pg_G z L xs) pg_fin (pg_pr z) 16 (pg_m155 z) 0 [(0, .ref 1000007), (1, .int (Int32.ofInt ((0 : Nat) : Int)))] [] h = some (some (.int 32), h, 0, 0) := by
  cases z <;> rfl
theorem ck_in3_1 (z : Bool) (L : Nat) (xs : Nat → Int32) (h : rm_H) : rm_run (pg_G z L xs) pg_fin (pg_pr z) 16 (pg_m155 z) 0 [(0, .ref 1000007), (1, .int (Int32.ofInt ((1 : Nat) : Int)))] [] h = some (some (.int 115), h, 0, 0) := by
  cases z <;> rfl
theorem ck_in3_2 (z : Bool) (L : Nat) (xs : Nat → Int32) (h : rm_H) : rm_run (pg_G z L xs) pg_fin (pg_pr z) 16 (pg_m155 z) 0 [(0, .ref 1000007), (1, .int (Int32.ofInt ((2 : Nat) : Int)))] [] h = some (some (.int 107), h, 0, 0) := by
  cases z <;> rfl
theorem ck_in3_3 (z : Bool) (L : Nat) (xs : Nat → Int32) (h : rm_H) : rm_run (pg_G z L xs) pg_fin (pg_pr z) 16 (pg_m155 z) 0 [(0, .ref 1000007), (1, .int (Int32.ofInt ((3 : Nat) : Int)))] [] h = some (some (.int 105), h, 0, 0) := by
  cases z <;> rfl
theorem ck_in3_4 (z : Bool) (L : Nat) (xs : Nat → Int32) (h : rm_H) : rm_run (pg_G z L xs) pg_fin (pg_pr z) 16 (pg_m155 z) 0 [(0, .ref 1000007), (1, .int (Int32.ofInt ((4 : Nat) : Int)))] [] h = some (some (.int 112), h, 0, 0) := by
  cases z <;> rfl
theorem ck_in3_5 (z : Bool) (L : Nat) (xs : Nat → Int32) (h : rm_H) : rm_run (pg_G z L xs) pg_fin (pg_pr z) 16 (pg_m155 z) 0 [(0, .ref 1000007), (1, .int (Int32.ofInt ((5 : Nat) : Int)))] [] h = some (some (.int 32), h, 0, 0) := by
  cases z <;> rfl
theorem ck_in3_6 (z : Bool) (L : Nat) (xs : Nat → Int32) (h : rm_H) : rm_run (pg_G z L xs) pg_fin (pg_pr z) 16 (pg_m155 z) 0 [(0, .ref 1000007), (1, .int (Int32.ofInt ((6 : Nat) : Int)))] [] h = some (some (.int 124), h, 0, 0) := by
  cases z <;> rfl
theorem ck_in3_7 (z : Bool) (L : Nat) (xs : Nat → Int32) (h : rm_H) : rm_run (pg_G z L xs) pg_fin (pg_pr z) 16 (pg_m155 z) 0 [(0, .ref 1000007), (1, .int (Int32.ofInt ((7 : Nat) : Int)))] [] h = some (some (.int 32), h, 0, 0) := by
  cases z <;> rfl
theorem ck_in3_8 (z : Bool) (L : Nat) (xs : Nat → Int32) (h : rm_H) : rm_run (pg_G z L xs) pg_fin (pg_pr z) 16 (pg_m155 z) 0 [(0, .ref 1000007), (1, .int (Int32.ofInt ((8 : Nat) : Int)))] [] h = some (some (.int 118), h, 0, 0) := by
  cases z <;> rfl
theorem ck_in3_9 (z : Bool) (L : Nat) (xs : Nat → Int32) (h : rm_H) : rm_run (pg_G z L xs) pg_fin (pg_pr z) 16 (pg_m155 z) 0 [(0, .ref 1000007), (1, .int (Int32.ofInt ((9 : Nat) : Int)))] [] h = some (some (.int 111), h, 0, 0) := by
  cases z <;> rfl
theorem ck_in3_10 (z : Bool) (L : Nat) (xs : Nat → Int32) (h : rm_H) : rm_run (pg_G z L xs) pg_fin (pg_pr z) 16 (pg_m155 z) 0 [(0, .ref 1000007), (1, .int (Int32.ofInt ((10 : Nat) : Int)))] [] h = some (some (.int 108), h, 0, 0) := by
  cases z <;> rfl
theorem ck_in3_11 (z : Bool) (L : Nat) (xs : Nat → Int32) (h : rm_H) : rm_run (pg_G z L xs) pg_fin (pg_pr z) 16 (pg_m155 z) 0 [(0, .ref 1000007), (1, .int (Int32.ofInt ((11 : Nat) : Int)))] [] h = some (some (.int 117), h, 0, 0) := by
  cases z <;> rfl
theorem ck_in3_12 (z : Bool) (L : Nat) (xs : Nat → Int32) (h : rm_H) : rm_run (pg_G z L xs) pg_fin (pg_pr z) 16 (pg_m155 z) 0 [(0, .ref 1000007), (1, .int (Int32.ofInt ((12 : Nat) : Int)))] [] h = some (some (.int 109), h, 0, 0) := by
  cases z <;> rfl
theorem ck_in3_13 (z : Bool) (L : Nat) (xs : Nat → Int32) (h : rm_H) : rm_run (pg_G z L xs) pg_fin (pg_pr z) 16 (pg_m155 z) 0 [(0, .ref 1000007), (1, .int (Int32.ofInt ((13 : Nat) : Int)))] [] h = some (some (.int 101), h, 0, 0) := by
  cases z <;> rfl
theorem ck_in3_14 (z : Bool) (L : Nat) (xs : Nat → Int32) (h : rm_H) : rm_run (pg_G z L xs) pg_fin (pg_pr z) 16 (pg_m155 z) 0 [(0, .ref 1000007), (1, .int (Int32.ofInt ((14 : Nat) : Int)))] [] h = some (some (.int 32), h, 0, 0) := by
  cases z <;> rfl
theorem ck_at3 (z : Bool) (L : Nat) (xs : Nat → Int32) (l : rm_L) (h : rm_H) (g0 : rm_get l 0 = some (.ref 1000006)) : ∀ x : Nat, x < 15 → rm_get l 1 = some (.int (Int32.ofInt (x : Int))) → rm_run (pg_G z L xs) pg_fin (pg_pr z) 23 (pg_m153 z) 0 l [] h = some (some (.int (([32, 115, 107, 105, 112, 32, 124, 32, 118, 111, 108, 117, 109, 101, 32] : List Int32).getD x 0)), h, 0, 0)
  | 0, _, g1 => ck_ch3 (ck_in3_0 z L xs h) rfl g0 g1
  | 1, _, g1 => ck_ch3 (ck_in3_1 z L xs h) rfl g0 g1
  | 2, _, g1 => ck_ch3 (ck_in3_2 z L xs h) rfl g0 g1
  | 3, _, g1 => ck_ch3 (ck_in3_3 z L xs h) rfl g0 g1
  | 4, _, g1 => ck_ch3 (ck_in3_4 z L xs h) rfl g0 g1
  | 5, _, g1 => ck_ch3 (ck_in3_5 z L xs h) rfl g0 g1
  | 6, _, g1 => ck_ch3 (ck_in3_6 z L xs h) rfl g0 g1
  | 7, _, g1 => ck_ch3 (ck_in3_7 z L xs h) rfl g0 g1
  | 8, _, g1 => ck_ch3 (ck_in3_8 z L xs h) rfl g0 g1
  | 9, _, g1 => ck_ch3 (ck_in3_9 z L xs h) rfl g0 g1
  | 10, _, g1 => ck_ch3 (ck_in3_10 z L xs h) rfl g0 g1
  | 11, _, g1 => ck_ch3 (ck_in3_11 z L xs h) rfl g0 g1
  | 12, _, g1 => ck_ch3 (ck_in3_12 z L xs h) rfl g0 g1
  | 13, _, g1 => ck_ch3 (ck_in3_13 z L xs h) rfl g0 g1
  | 14, _, g1 => ck_ch3 (ck_in3_14 z L xs h) rfl g0 g1
  | _ + 15, hx, _ => absurd hx (by omega)
theorem ck_len4 (z : Bool) (L : Nat) (xs : Nat → Int32) (l : rm_L) (h : rm_H) (g0 : rm_get l 0 = some (.ref 1000008)) : rm_run (pg_G z L xs) pg_fin (pg_pr z) 20 (pg_m151 z) 0 l [] h = some (some (.int 8), h, 0, 0) := by
  rw [rm_b1 (ins := .aload_n 0) rfl (ck_ld g0)]
  rw [rm_b2 (ins := .getfield 9) (x := (4, l, [.ref 1000009], h, 0, 0)) rfl rfl rfl]
  rw [rm_b2 (ins := .arraylength) (x := (5, l, [.int 8], h, 0, 0)) rfl rfl rfl]
  rw [rm_b1 (ins := .aload_n 0) rfl (ck_ld g0)]
  rw [rm_b3 (ins := .invokevirtual 335) (j := 152) (as := [.ref 1000008]) (rest := [.int 8]) (M' := pg_m152 z) (h1 := h) (v := some (.int 0)) (c1 := 0) (d1 := 0) rfl rfl rfl (by cases z <;> rfl) (by cases z <;> rfl) (by cases z <;> rfl)]
  rw [rm_b1 (ins := .ishr) (x := (10, l, [.int 8])) rfl rfl]
  rw [rm_b5 (ins := .ireturn) (v := some (.int 8)) rfl rfl rfl rfl rfl rfl]
  rfl
theorem ck_ch4 {z : Bool} {L : Nat} {xs : Nat → Int32} {l : rm_L} {h : rm_H} {x v : Int32} (hr : rm_run (pg_G z L xs) pg_fin (pg_pr z) 16 (pg_m155 z) 0 [(0, .ref 1000009), (1, .int x)] [] h = some (some (.int v), h, 0, 0)) (hv : narrow .char (.int v) = .int v) (g0 : rm_get l 0 = some (.ref 1000008)) (g1 : rm_get l 1 = some (.int x)) : rm_run (pg_G z L xs) pg_fin (pg_pr z) 23 (pg_m153 z) 0 l [] h = some (some (.int v), h, 0, 0) := by
  rw [rm_b1 (ins := .aload_n 0) rfl (ck_ld g0)]
  rw [rm_b3 (ins := .invokevirtual 492) (j := 154) (as := [.ref 1000008]) (rest := []) (M' := pg_m154 z) (h1 := h) (v := some (.int 1)) (c1 := 0) (d1 := 0) rfl rfl rfl (by cases z <;> rfl) (by cases z <;> rfl) (by cases z <;> rfl)]
  rw [rm_b1 (ins := .ifCond .eq 12) (x := (7, l, [])) rfl rfl]
  rw [rm_b1 (ins := .aload_n 0) rfl (ck_ld g0)]
  rw [rm_b2 (ins := .getfield 9) (x := (11, l, [.ref 1000009], h, 0, 0)) rfl rfl rfl]
  rw [rm_b1 (ins := .iload_n 1) rfl (ck_li g1)]
  rw [rm_b3 (ins := .invokestatic 495) (j := 155) (as := [.ref 1000009, .int x]) (rest := []) (M' := pg_m155 z) (h1 := h) (v := some (.int v)) (c1 := 0) (d1 := 0) rfl rfl rfl (by cases z <;> rfl) (by cases z <;> rfl) hr]
  have q : rm_run (pg_G z L xs) pg_fin (pg_pr z) 16 (pg_m153 z) 15 l [.int v] h = some (some (.int v), h, 0, 0) := rm_b5 (ins := .ireturn) rfl rfl rfl rfl rfl (ck_s5 z hv)
  exact (congrArg (fun r => rm_add 0 0 (rm_add 0 0 (rm_add 0 0 r))) q).trans rfl
theorem ck_in4_0 (z : Bool) (L : Nat) (xs : Nat → Int32) (h : rm_H) : rm_run (pg_G z L xs) pg_fin (pg_pr z) 16 (pg_m155 z) 0 [(0, .ref 1000009), (1, .int (Int32.ofInt ((0 : Nat) : Int)))] [] h = some (some (.int 32), h, 0, 0) := by
  cases z <;> rfl
theorem ck_in4_1 (z : Bool) (L : Nat) (xs : Nat → Int32) (h : rm_H) : rm_run (pg_G z L xs) pg_fin (pg_pr z) 16 (pg_m155 z) 0 [(0, .ref 1000009), (1, .int (Int32.ofInt ((1 : Nat) : Int)))] [] h = some (some (.int 118), h, 0, 0) := by
  cases z <;> rfl
theorem ck_in4_2 (z : Bool) (L : Nat) (xs : Nat → Int32) (h : rm_H) : rm_run (pg_G z L xs) pg_fin (pg_pr z) 16 (pg_m155 z) 0 [(0, .ref 1000009), (1, .int (Int32.ofInt ((2 : Nat) : Int)))] [] h = some (some (.int 111), h, 0, 0) := by
  cases z <;> rfl
theorem ck_in4_3 (z : Bool) (L : Nat) (xs : Nat → Int32) (h : rm_H) : rm_run (pg_G z L xs) pg_fin (pg_pr z) 16 (pg_m155 z) 0 [(0, .ref 1000009), (1, .int (Int32.ofInt ((3 : Nat) : Int)))] [] h = some (some (.int 108), h, 0, 0) := by
  cases z <;> rfl
theorem ck_in4_4 (z : Bool) (L : Nat) (xs : Nat → Int32) (h : rm_H) : rm_run (pg_G z L xs) pg_fin (pg_pr z) 16 (pg_m155 z) 0 [(0, .ref 1000009), (1, .int (Int32.ofInt ((4 : Nat) : Int)))] [] h = some (some (.int 117), h, 0, 0) := by
  cases z <;> rfl
theorem ck_in4_5 (z : Bool) (L : Nat) (xs : Nat → Int32) (h : rm_H) : rm_run (pg_G z L xs) pg_fin (pg_pr z) 16 (pg_m155 z) 0 [(0, .ref 1000009), (1, .int (Int32.ofInt ((5 : Nat) : Int)))] [] h = some (some (.int 109), h, 0, 0) := by
  cases z <;> rfl
theorem ck_in4_6 (z : Bool) (L : Nat) (xs : Nat → Int32) (h : rm_H) : rm_run (pg_G z L xs) pg_fin (pg_pr z) 16 (pg_m155 z) 0 [(0, .ref 1000009), (1, .int (Int32.ofInt ((6 : Nat) : Int)))] [] h = some (some (.int 101), h, 0, 0) := by
  cases z <;> rfl
theorem ck_in4_7 (z : Bool) (L : Nat) (xs : Nat → Int32) (h : rm_H) : rm_run (pg_G z L xs) pg_fin (pg_pr z) 16 (pg_m155 z) 0 [(0, .ref 1000009), (1, .int (Int32.ofInt ((7 : Nat) : Int)))] [] h = some (some (.int 32), h, 0, 0) := by
  cases z <;> rfl
theorem ck_at4 (z : Bool) (L : Nat) (xs : Nat → Int32) (l : rm_L) (h : rm_H) (g0 : rm_get l 0 = some (.ref 1000008)) : ∀ x : Nat, x < 8 → rm_get l 1 = some (.int (Int32.ofInt (x : Int))) → rm_run (pg_G z L xs) pg_fin (pg_pr z) 23 (pg_m153 z) 0 l [] h = some (some (.int (([32, 118, 111, 108, 117, 109, 101, 32] : List Int32).getD x 0)), h, 0, 0)
  | 0, _, g1 => ck_ch4 (ck_in4_0 z L xs h) rfl g0 g1
  | 1, _, g1 => ck_ch4 (ck_in4_1 z L xs h) rfl g0 g1
  | 2, _, g1 => ck_ch4 (ck_in4_2 z L xs h) rfl g0 g1
  | 3, _, g1 => ck_ch4 (ck_in4_3 z L xs h) rfl g0 g1
  | 4, _, g1 => ck_ch4 (ck_in4_4 z L xs h) rfl g0 g1
  | 5, _, g1 => ck_ch4 (ck_in4_5 z L xs h) rfl g0 g1
  | 6, _, g1 => ck_ch4 (ck_in4_6 z L xs h) rfl g0 g1
  | 7, _, g1 => ck_ch4 (ck_in4_7 z L xs h) rfl g0 g1
  | _ + 8, hx, _ => absurd hx (by omega)
theorem ck_len5 (z : Bool) (L : Nat) (xs : Nat → Int32) (l : rm_L) (h : rm_H) (g0 : rm_get l 0 = some (.ref 1000010)) : rm_run (pg_G z L xs) pg_fin (pg_pr z) 20 (pg_m151 z) 0 l [] h = some (some (.int 9), h, 0, 0) := by
  rw [rm_b1 (ins := .aload_n 0) rfl (ck_ld g0)]
  rw [rm_b2 (ins := .getfield 9) (x := (4, l, [.ref 1000011], h, 0, 0)) rfl rfl rfl]
  rw [rm_b2 (ins := .arraylength) (x := (5, l, [.int 9], h, 0, 0)) rfl rfl rfl]
  rw [rm_b1 (ins := .aload_n 0) rfl (ck_ld g0)]
  rw [rm_b3 (ins := .invokevirtual 335) (j := 152) (as := [.ref 1000010]) (rest := [.int 9]) (M' := pg_m152 z) (h1 := h) (v := some (.int 0)) (c1 := 0) (d1 := 0) rfl rfl rfl (by cases z <;> rfl) (by cases z <;> rfl) (by cases z <;> rfl)]
  rw [rm_b1 (ins := .ishr) (x := (10, l, [.int 9])) rfl rfl]
  rw [rm_b5 (ins := .ireturn) (v := some (.int 9)) rfl rfl rfl rfl rfl rfl]
  rfl
theorem ck_ch5 {z : Bool} {L : Nat} {xs : Nat → Int32} {l : rm_L} {h : rm_H} {x v : Int32} (hr : rm_run (pg_G z L xs) pg_fin (pg_pr z) 16 (pg_m155 z) 0 [(0, .ref 1000011), (1, .int x)] [] h = some (some (.int v), h, 0, 0)) (hv : narrow .char (.int v) = .int v) (g0 : rm_get l 0 = some (.ref 1000010)) (g1 : rm_get l 1 = some (.int x)) : rm_run (pg_G z L xs) pg_fin (pg_pr z) 23 (pg_m153 z) 0 l [] h = some (some (.int v), h, 0, 0) := by
  rw [rm_b1 (ins := .aload_n 0) rfl (ck_ld g0)]
  rw [rm_b3 (ins := .invokevirtual 492) (j := 154) (as := [.ref 1000010]) (rest := []) (M' := pg_m154 z) (h1 := h) (v := some (.int 1)) (c1 := 0) (d1 := 0) rfl rfl rfl (by cases z <;> rfl) (by cases z <;> rfl) (by cases z <;> rfl)]
  rw [rm_b1 (ins := .ifCond .eq 12) (x := (7, l, [])) rfl rfl]
  rw [rm_b1 (ins := .aload_n 0) rfl (ck_ld g0)]
  rw [rm_b2 (ins := .getfield 9) (x := (11, l, [.ref 1000011], h, 0, 0)) rfl rfl rfl]
  rw [rm_b1 (ins := .iload_n 1) rfl (ck_li g1)]
  rw [rm_b3 (ins := .invokestatic 495) (j := 155) (as := [.ref 1000011, .int x]) (rest := []) (M' := pg_m155 z) (h1 := h) (v := some (.int v)) (c1 := 0) (d1 := 0) rfl rfl rfl (by cases z <;> rfl) (by cases z <;> rfl) hr]
  have q : rm_run (pg_G z L xs) pg_fin (pg_pr z) 16 (pg_m153 z) 15 l [.int v] h = some (some (.int v), h, 0, 0) := rm_b5 (ins := .ireturn) rfl rfl rfl rfl rfl (ck_s5 z hv)
  exact (congrArg (fun r => rm_add 0 0 (rm_add 0 0 (rm_add 0 0 r))) q).trans rfl
theorem ck_in5_0 (z : Bool) (L : Nat) (xs : Nat → Int32) (h : rm_H) : rm_run (pg_G z L xs) pg_fin (pg_pr z) 16 (pg_m155 z) 0 [(0, .ref 1000011), (1, .int (Int32.ofInt ((0 : Nat) : Int)))] [] h = some (some (.int 116), h, 0, 0) := by
  cases z <;> rfl
theorem ck_in5_1 (z : Bool) (L : Nat) (xs : Nat → Int32) (h : rm_H) : rm_run (pg_G z L xs) pg_fin (pg_pr z) 16 (pg_m155 z) 0 [(0, .ref 1000011), (1, .int (Int32.ofInt ((1 : Nat) : Int)))] [] h = some (some (.int 124), h, 0, 0) := by
  cases z <;> rfl
theorem ck_in5_2 (z : Bool) (L : Nat) (xs : Nat → Int32) (h : rm_H) : rm_run (pg_G z L xs) pg_fin (pg_pr z) 16 (pg_m155 z) 0 [(0, .ref 1000011), (1, .int (Int32.ofInt ((2 : Nat) : Int)))] [] h = some (some (.int 97), h, 0, 0) := by
  cases z <;> rfl
theorem ck_in5_3 (z : Bool) (L : Nat) (xs : Nat → Int32) (h : rm_H) : rm_run (pg_G z L xs) pg_fin (pg_pr z) 16 (pg_m155 z) 0 [(0, .ref 1000011), (1, .int (Int32.ofInt ((3 : Nat) : Int)))] [] h = some (some (.int 124), h, 0, 0) := by
  cases z <;> rfl
theorem ck_in5_4 (z : Bool) (L : Nat) (xs : Nat → Int32) (h : rm_H) : rm_run (pg_G z L xs) pg_fin (pg_pr z) 16 (pg_m155 z) 0 [(0, .ref 1000011), (1, .int (Int32.ofInt ((4 : Nat) : Int)))] [] h = some (some (.int 115), h, 0, 0) := by
  cases z <;> rfl
theorem ck_in5_5 (z : Bool) (L : Nat) (xs : Nat → Int32) (h : rm_H) : rm_run (pg_G z L xs) pg_fin (pg_pr z) 16 (pg_m155 z) 0 [(0, .ref 1000011), (1, .int (Int32.ofInt ((5 : Nat) : Int)))] [] h = some (some (.int 124), h, 0, 0) := by
  cases z <;> rfl
theorem ck_in5_6 (z : Bool) (L : Nat) (xs : Nat → Int32) (h : rm_H) : rm_run (pg_G z L xs) pg_fin (pg_pr z) 16 (pg_m155 z) 0 [(0, .ref 1000011), (1, .int (Int32.ofInt ((6 : Nat) : Int)))] [] h = some (some (.int 110), h, 0, 0) := by
  cases z <;> rfl
theorem ck_in5_7 (z : Bool) (L : Nat) (xs : Nat → Int32) (h : rm_H) : rm_run (pg_G z L xs) pg_fin (pg_pr z) 16 (pg_m155 z) 0 [(0, .ref 1000011), (1, .int (Int32.ofInt ((7 : Nat) : Int)))] [] h = some (some (.int 124), h, 0, 0) := by
  cases z <;> rfl
theorem ck_in5_8 (z : Bool) (L : Nat) (xs : Nat → Int32) (h : rm_H) : rm_run (pg_G z L xs) pg_fin (pg_pr z) 16 (pg_m155 z) 0 [(0, .ref 1000011), (1, .int (Int32.ofInt ((8 : Nat) : Int)))] [] h = some (some (.int 104), h, 0, 0) := by
  cases z <;> rfl
theorem ck_at5 (z : Bool) (L : Nat) (xs : Nat → Int32) (l : rm_L) (h : rm_H) (g0 : rm_get l 0 = some (.ref 1000010)) : ∀ x : Nat, x < 9 → rm_get l 1 = some (.int (Int32.ofInt (x : Int))) → rm_run (pg_G z L xs) pg_fin (pg_pr z) 23 (pg_m153 z) 0 l [] h = some (some (.int (([116, 124, 97, 124, 115, 124, 110, 124, 104] : List Int32).getD x 0)), h, 0, 0)
  | 0, _, g1 => ck_ch5 (ck_in5_0 z L xs h) rfl g0 g1
  | 1, _, g1 => ck_ch5 (ck_in5_1 z L xs h) rfl g0 g1
  | 2, _, g1 => ck_ch5 (ck_in5_2 z L xs h) rfl g0 g1
  | 3, _, g1 => ck_ch5 (ck_in5_3 z L xs h) rfl g0 g1
  | 4, _, g1 => ck_ch5 (ck_in5_4 z L xs h) rfl g0 g1
  | 5, _, g1 => ck_ch5 (ck_in5_5 z L xs h) rfl g0 g1
  | 6, _, g1 => ck_ch5 (ck_in5_6 z L xs h) rfl g0 g1
  | 7, _, g1 => ck_ch5 (ck_in5_7 z L xs h) rfl g0 g1
  | 8, _, g1 => ck_ch5 (ck_in5_8 z L xs h) rfl g0 g1
  | _ + 9, hx, _ => absurd hx (by omega)
theorem ck_len6 (z : Bool) (L : Nat) (xs : Nat → Int32) (l : rm_L) (h : rm_H) (g0 : rm_get l 0 = some (.ref 1000012)) : rm_run (pg_G z L xs) pg_fin (pg_pr z) 20 (pg_m151 z) 0 l [] h = some (some (.int 10), h, 0, 0) := by
  rw [rm_b1 (ins := .aload_n 0) rfl (ck_ld g0)]
  rw [rm_b2 (ins := .getfield 9) (x := (4, l, [.ref 1000013], h, 0, 0)) rfl rfl rfl]
  rw [rm_b2 (ins := .arraylength) (x := (5, l, [.int 10], h, 0, 0)) rfl rfl rfl]
  rw [rm_b1 (ins := .aload_n 0) rfl (ck_ld g0)]
  rw [rm_b3 (ins := .invokevirtual 335) (j := 152) (as := [.ref 1000012]) (rest := [.int 10]) (M' := pg_m152 z) (h1 := h) (v := some (.int 0)) (c1 := 0) (d1 := 0) rfl rfl rfl (by cases z <;> rfl) (by cases z <;> rfl) (by cases z <;> rfl)]
  rw [rm_b1 (ins := .ishr) (x := (10, l, [.int 10])) rfl rfl]
  rw [rm_b5 (ins := .ireturn) (v := some (.int 10)) rfl rfl rfl rfl rfl rfl]
  rfl
theorem ck_ch6 {z : Bool} {L : Nat} {xs : Nat → Int32} {l : rm_L} {h : rm_H} {x v : Int32} (hr : rm_run (pg_G z L xs) pg_fin (pg_pr z) 16 (pg_m155 z) 0 [(0, .ref 1000013), (1, .int x)] [] h = some (some (.int v), h, 0, 0)) (hv : narrow .char (.int v) = .int v) (g0 : rm_get l 0 = some (.ref 1000012)) (g1 : rm_get l 1 = some (.int x)) : rm_run (pg_G z L xs) pg_fin (pg_pr z) 23 (pg_m153 z) 0 l [] h = some (some (.int v), h, 0, 0) := by
  rw [rm_b1 (ins := .aload_n 0) rfl (ck_ld g0)]
  rw [rm_b3 (ins := .invokevirtual 492) (j := 154) (as := [.ref 1000012]) (rest := []) (M' := pg_m154 z) (h1 := h) (v := some (.int 1)) (c1 := 0) (d1 := 0) rfl rfl rfl (by cases z <;> rfl) (by cases z <;> rfl) (by cases z <;> rfl)]
  rw [rm_b1 (ins := .ifCond .eq 12) (x := (7, l, [])) rfl rfl]
  rw [rm_b1 (ins := .aload_n 0) rfl (ck_ld g0)]
  rw [rm_b2 (ins := .getfield 9) (x := (11, l, [.ref 1000013], h, 0, 0)) rfl rfl rfl]
  rw [rm_b1 (ins := .iload_n 1) rfl (ck_li g1)]
  rw [rm_b3 (ins := .invokestatic 495) (j := 155) (as := [.ref 1000013, .int x]) (rest := []) (M' := pg_m155 z) (h1 := h) (v := some (.int v)) (c1 := 0) (d1 := 0) rfl rfl rfl (by cases z <;> rfl) (by cases z <;> rfl) hr]
  have q : rm_run (pg_G z L xs) pg_fin (pg_pr z) 16 (pg_m153 z) 15 l [.int v] h = some (some (.int v), h, 0, 0) := rm_b5 (ins := .ireturn) rfl rfl rfl rfl rfl (ck_s5 z hv)
  exact (congrArg (fun r => rm_add 0 0 (rm_add 0 0 (rm_add 0 0 r))) q).trans rfl
theorem ck_in6_0 (z : Bool) (L : Nat) (xs : Nat → Int32) (h : rm_H) : rm_run (pg_G z L xs) pg_fin (pg_pr z) 16 (pg_m155 z) 0 [(0, .ref 1000013), (1, .int (Int32.ofInt ((0 : Nat) : Int)))] [] h = some (some (.int 97), h, 0, 0) := by
  cases z <;> rfl
theorem ck_in6_1 (z : Bool) (L : Nat) (xs : Nat → Int32) (h : rm_H) : rm_run (pg_G z L xs) pg_fin (pg_pr z) 16 (pg_m155 z) 0 [(0, .ref 1000013), (1, .int (Int32.ofInt ((1 : Nat) : Int)))] [] h = some (some (.int 110), h, 0, 0) := by
  cases z <;> rfl
theorem ck_in6_2 (z : Bool) (L : Nat) (xs : Nat → Int32) (h : rm_H) : rm_run (pg_G z L xs) pg_fin (pg_pr z) 16 (pg_m155 z) 0 [(0, .ref 1000013), (1, .int (Int32.ofInt ((2 : Nat) : Int)))] [] h = some (some (.int 100), h, 0, 0) := by
  cases z <;> rfl
theorem ck_in6_3 (z : Bool) (L : Nat) (xs : Nat → Int32) (h : rm_H) : rm_run (pg_G z L xs) pg_fin (pg_pr z) 16 (pg_m155 z) 0 [(0, .ref 1000013), (1, .int (Int32.ofInt ((3 : Nat) : Int)))] [] h = some (some (.int 124), h, 0, 0) := by
  cases z <;> rfl
theorem ck_in6_4 (z : Bool) (L : Nat) (xs : Nat → Int32) (h : rm_H) : rm_run (pg_G z L xs) pg_fin (pg_pr z) 16 (pg_m155 z) 0 [(0, .ref 1000013), (1, .int (Int32.ofInt ((4 : Nat) : Int)))] [] h = some (some (.int 111), h, 0, 0) := by
  cases z <;> rfl
theorem ck_in6_5 (z : Bool) (L : Nat) (xs : Nat → Int32) (h : rm_H) : rm_run (pg_G z L xs) pg_fin (pg_pr z) 16 (pg_m155 z) 0 [(0, .ref 1000013), (1, .int (Int32.ofInt ((5 : Nat) : Int)))] [] h = some (some (.int 114), h, 0, 0) := by
  cases z <;> rfl
theorem ck_in6_6 (z : Bool) (L : Nat) (xs : Nat → Int32) (h : rm_H) : rm_run (pg_G z L xs) pg_fin (pg_pr z) 16 (pg_m155 z) 0 [(0, .ref 1000013), (1, .int (Int32.ofInt ((6 : Nat) : Int)))] [] h = some (some (.int 124), h, 0, 0) := by
  cases z <;> rfl
theorem ck_in6_7 (z : Bool) (L : Nat) (xs : Nat → Int32) (h : rm_H) : rm_run (pg_G z L xs) pg_fin (pg_pr z) 16 (pg_m155 z) 0 [(0, .ref 1000013), (1, .int (Int32.ofInt ((7 : Nat) : Int)))] [] h = some (some (.int 110), h, 0, 0) := by
  cases z <;> rfl
theorem ck_in6_8 (z : Bool) (L : Nat) (xs : Nat → Int32) (h : rm_H) : rm_run (pg_G z L xs) pg_fin (pg_pr z) 16 (pg_m155 z) 0 [(0, .ref 1000013), (1, .int (Int32.ofInt ((8 : Nat) : Int)))] [] h = some (some (.int 111), h, 0, 0) := by
  cases z <;> rfl
theorem ck_in6_9 (z : Bool) (L : Nat) (xs : Nat → Int32) (h : rm_H) : rm_run (pg_G z L xs) pg_fin (pg_pr z) 16 (pg_m155 z) 0 [(0, .ref 1000013), (1, .int (Int32.ofInt ((9 : Nat) : Int)))] [] h = some (some (.int 116), h, 0, 0) := by
  cases z <;> rfl
theorem ck_at6 (z : Bool) (L : Nat) (xs : Nat → Int32) (l : rm_L) (h : rm_H) (g0 : rm_get l 0 = some (.ref 1000012)) : ∀ x : Nat, x < 10 → rm_get l 1 = some (.int (Int32.ofInt (x : Int))) → rm_run (pg_G z L xs) pg_fin (pg_pr z) 23 (pg_m153 z) 0 l [] h = some (some (.int (([97, 110, 100, 124, 111, 114, 124, 110, 111, 116] : List Int32).getD x 0)), h, 0, 0)
  | 0, _, g1 => ck_ch6 (ck_in6_0 z L xs h) rfl g0 g1
  | 1, _, g1 => ck_ch6 (ck_in6_1 z L xs h) rfl g0 g1
  | 2, _, g1 => ck_ch6 (ck_in6_2 z L xs h) rfl g0 g1
  | 3, _, g1 => ck_ch6 (ck_in6_3 z L xs h) rfl g0 g1
  | 4, _, g1 => ck_ch6 (ck_in6_4 z L xs h) rfl g0 g1
  | 5, _, g1 => ck_ch6 (ck_in6_5 z L xs h) rfl g0 g1
  | 6, _, g1 => ck_ch6 (ck_in6_6 z L xs h) rfl g0 g1
  | 7, _, g1 => ck_ch6 (ck_in6_7 z L xs h) rfl g0 g1
  | 8, _, g1 => ck_ch6 (ck_in6_8 z L xs h) rfl g0 g1
  | 9, _, g1 => ck_ch6 (ck_in6_9 z L xs h) rfl g0 g1
  | _ + 10, hx, _ => absurd hx (by omega)
theorem ck_len7 (z : Bool) (L : Nat) (xs : Nat → Int32) (l : rm_L) (h : rm_H) (g0 : rm_get l 0 = some (.ref 1000014)) : rm_run (pg_G z L xs) pg_fin (pg_pr z) 20 (pg_m151 z) 0 l [] h = some (some (.int 11), h, 0, 0) := by
  rw [rm_b1 (ins := .aload_n 0) rfl (ck_ld g0)]
  rw [rm_b2 (ins := .getfield 9) (x := (4, l, [.ref 1000015], h, 0, 0)) rfl rfl rfl]
  rw [rm_b2 (ins := .arraylength) (x := (5, l, [.int 11], h, 0, 0)) rfl rfl rfl]
  rw [rm_b1 (ins := .aload_n 0) rfl (ck_ld g0)]
  rw [rm_b3 (ins := .invokevirtual 335) (j := 152) (as := [.ref 1000014]) (rest := [.int 11]) (M' := pg_m152 z) (h1 := h) (v := some (.int 0)) (c1 := 0) (d1 := 0) rfl rfl rfl (by cases z <;> rfl) (by cases z <;> rfl) (by cases z <;> rfl)]
  rw [rm_b1 (ins := .ishr) (x := (10, l, [.int 11])) rfl rfl]
  rw [rm_b5 (ins := .ireturn) (v := some (.int 11)) rfl rfl rfl rfl rfl rfl]
  rfl
theorem ck_ch7 {z : Bool} {L : Nat} {xs : Nat → Int32} {l : rm_L} {h : rm_H} {x v : Int32} (hr : rm_run (pg_G z L xs) pg_fin (pg_pr z) 16 (pg_m155 z) 0 [(0, .ref 1000015), (1, .int x)] [] h = some (some (.int v), h, 0, 0)) (hv : narrow .char (.int v) = .int v) (g0 : rm_get l 0 = some (.ref 1000014)) (g1 : rm_get l 1 = some (.int x)) : rm_run (pg_G z L xs) pg_fin (pg_pr z) 23 (pg_m153 z) 0 l [] h = some (some (.int v), h, 0, 0) := by
  rw [rm_b1 (ins := .aload_n 0) rfl (ck_ld g0)]
  rw [rm_b3 (ins := .invokevirtual 492) (j := 154) (as := [.ref 1000014]) (rest := []) (M' := pg_m154 z) (h1 := h) (v := some (.int 1)) (c1 := 0) (d1 := 0) rfl rfl rfl (by cases z <;> rfl) (by cases z <;> rfl) (by cases z <;> rfl)]
  rw [rm_b1 (ins := .ifCond .eq 12) (x := (7, l, [])) rfl rfl]
  rw [rm_b1 (ins := .aload_n 0) rfl (ck_ld g0)]
  rw [rm_b2 (ins := .getfield 9) (x := (11, l, [.ref 1000015], h, 0, 0)) rfl rfl rfl]
  rw [rm_b1 (ins := .iload_n 1) rfl (ck_li g1)]
  rw [rm_b3 (ins := .invokestatic 495) (j := 155) (as := [.ref 1000015, .int x]) (rest := []) (M' := pg_m155 z) (h1 := h) (v := some (.int v)) (c1 := 0) (d1 := 0) rfl rfl rfl (by cases z <;> rfl) (by cases z <;> rfl) hr]
  have q : rm_run (pg_G z L xs) pg_fin (pg_pr z) 16 (pg_m153 z) 15 l [.int v] h = some (some (.int v), h, 0, 0) := rm_b5 (ins := .ireturn) rfl rfl rfl rfl rfl (ck_s5 z hv)
  exact (congrArg (fun r => rm_add 0 0 (rm_add 0 0 (rm_add 0 0 r))) q).trans rfl
theorem ck_in7_0 (z : Bool) (L : Nat) (xs : Nat → Int32) (h : rm_H) : rm_run (pg_G z L xs) pg_fin (pg_pr z) 16 (pg_m155 z) 0 [(0, .ref 1000015), (1, .int (Int32.ofInt ((0 : Nat) : Int)))] [] h = some (some (.int 76), h, 0, 0) := by
  cases z <;> rfl
theorem ck_in7_1 (z : Bool) (L : Nat) (xs : Nat → Int32) (h : rm_H) : rm_run (pg_G z L xs) pg_fin (pg_pr z) 16 (pg_m155 z) 0 [(0, .ref 1000015), (1, .int (Int32.ofInt ((1 : Nat) : Int)))] [] h = some (some (.int 124), h, 0, 0) := by
  cases z <;> rfl
theorem ck_in7_2 (z : Bool) (L : Nat) (xs : Nat → Int32) (h : rm_H) : rm_run (pg_G z L xs) pg_fin (pg_pr z) 16 (pg_m155 z) 0 [(0, .ref 1000015), (1, .int (Int32.ofInt ((2 : Nat) : Int)))] [] h = some (some (.int 66), h, 0, 0) := by
  cases z <;> rfl
theorem ck_in7_3 (z : Bool) (L : Nat) (xs : Nat → Int32) (h : rm_H) : rm_run (pg_G z L xs) pg_fin (pg_pr z) 16 (pg_m155 z) 0 [(0, .ref 1000015), (1, .int (Int32.ofInt ((3 : Nat) : Int)))] [] h = some (some (.int 124), h, 0, 0) := by
  cases z <;> rfl
theorem ck_in7_4 (z : Bool) (L : Nat) (xs : Nat → Int32) (h : rm_H) : rm_run (pg_G z L xs) pg_fin (pg_pr z) 16 (pg_m155 z) 0 [(0, .ref 1000015), (1, .int (Int32.ofInt ((4 : Nat) : Int)))] [] h = some (some (.int 82), h, 0, 0) := by
  cases z <;> rfl
theorem ck_in7_5 (z : Bool) (L : Nat) (xs : Nat → Int32) (h : rm_H) : rm_run (pg_G z L xs) pg_fin (pg_pr z) 16 (pg_m155 z) 0 [(0, .ref 1000015), (1, .int (Int32.ofInt ((5 : Nat) : Int)))] [] h = some (some (.int 124), h, 0, 0) := by
  cases z <;> rfl
theorem ck_in7_6 (z : Bool) (L : Nat) (xs : Nat → Int32) (h : rm_H) : rm_run (pg_G z L xs) pg_fin (pg_pr z) 16 (pg_m155 z) 0 [(0, .ref 1000015), (1, .int (Int32.ofInt ((6 : Nat) : Int)))] [] h = some (some (.int 72), h, 0, 0) := by
  cases z <;> rfl
theorem ck_in7_7 (z : Bool) (L : Nat) (xs : Nat → Int32) (h : rm_H) : rm_run (pg_G z L xs) pg_fin (pg_pr z) 16 (pg_m155 z) 0 [(0, .ref 1000015), (1, .int (Int32.ofInt ((7 : Nat) : Int)))] [] h = some (some (.int 124), h, 0, 0) := by
  cases z <;> rfl
theorem ck_in7_8 (z : Bool) (L : Nat) (xs : Nat → Int32) (h : rm_H) : rm_run (pg_G z L xs) pg_fin (pg_pr z) 16 (pg_m155 z) 0 [(0, .ref 1000015), (1, .int (Int32.ofInt ((8 : Nat) : Int)))] [] h = some (some (.int 85), h, 0, 0) := by
  cases z <;> rfl
theorem ck_in7_9 (z : Bool) (L : Nat) (xs : Nat → Int32) (h : rm_H) : rm_run (pg_G z L xs) pg_fin (pg_pr z) 16 (pg_m155 z) 0 [(0, .ref 1000015), (1, .int (Int32.ofInt ((9 : Nat) : Int)))] [] h = some (some (.int 124), h, 0, 0) := by
  cases z <;> rfl
theorem ck_in7_10 (z : Bool) (L : Nat) (xs : Nat → Int32) (h : rm_H) : rm_run (pg_G z L xs) pg_fin (pg_pr z) 16 (pg_m155 z) 0 [(0, .ref 1000015), (1, .int (Int32.ofInt ((10 : Nat) : Int)))] [] h = some (some (.int 80), h, 0, 0) := by
  cases z <;> rfl
theorem ck_at7 (z : Bool) (L : Nat) (xs : Nat → Int32) (l : rm_L) (h : rm_H) (g0 : rm_get l 0 = some (.ref 1000014)) : ∀ x : Nat, x < 11 → rm_get l 1 = some (.int (Int32.ofInt (x : Int))) → rm_run (pg_G z L xs) pg_fin (pg_pr z) 23 (pg_m153 z) 0 l [] h = some (some (.int (([76, 124, 66, 124, 82, 124, 72, 124, 85, 124, 80] : List Int32).getD x 0)), h, 0, 0)
  | 0, _, g1 => ck_ch7 (ck_in7_0 z L xs h) rfl g0 g1
  | 1, _, g1 => ck_ch7 (ck_in7_1 z L xs h) rfl g0 g1
  | 2, _, g1 => ck_ch7 (ck_in7_2 z L xs h) rfl g0 g1
  | 3, _, g1 => ck_ch7 (ck_in7_3 z L xs h) rfl g0 g1
  | 4, _, g1 => ck_ch7 (ck_in7_4 z L xs h) rfl g0 g1
  | 5, _, g1 => ck_ch7 (ck_in7_5 z L xs h) rfl g0 g1
  | 6, _, g1 => ck_ch7 (ck_in7_6 z L xs h) rfl g0 g1
  | 7, _, g1 => ck_ch7 (ck_in7_7 z L xs h) rfl g0 g1
  | 8, _, g1 => ck_ch7 (ck_in7_8 z L xs h) rfl g0 g1
  | 9, _, g1 => ck_ch7 (ck_in7_9 z L xs h) rfl g0 g1
  | 10, _, g1 => ck_ch7 (ck_in7_10 z L xs h) rfl g0 g1
  | _ + 11, hx, _ => absurd hx (by omega)
theorem ck_len8 (z : Bool) (L : Nat) (xs : Nat → Int32) (l : rm_L) (h : rm_H) (g0 : rm_get l 0 = some (.ref 1000016)) : rm_run (pg_G z L xs) pg_fin (pg_pr z) 20 (pg_m151 z) 0 l [] h = some (some (.int 2), h, 0, 0) := by
  rw [rm_b1 (ins := .aload_n 0) rfl (ck_ld g0)]
  rw [rm_b2 (ins := .getfield 9) (x := (4, l, [.ref 1000017], h, 0, 0)) rfl rfl rfl]
  rw [rm_b2 (ins := .arraylength) (x := (5, l, [.int 2], h, 0, 0)) rfl rfl rfl]
  rw [rm_b1 (ins := .aload_n 0) rfl (ck_ld g0)]
  rw [rm_b3 (ins := .invokevirtual 335) (j := 152) (as := [.ref 1000016]) (rest := [.int 2]) (M' := pg_m152 z) (h1 := h) (v := some (.int 0)) (c1 := 0) (d1 := 0) rfl rfl rfl (by cases z <;> rfl) (by cases z <;> rfl) (by cases z <;> rfl)]
  rw [rm_b1 (ins := .ishr) (x := (10, l, [.int 2])) rfl rfl]
  rw [rm_b5 (ins := .ireturn) (v := some (.int 2)) rfl rfl rfl rfl rfl rfl]
  rfl
theorem ck_ch8 {z : Bool} {L : Nat} {xs : Nat → Int32} {l : rm_L} {h : rm_H} {x v : Int32} (hr : rm_run (pg_G z L xs) pg_fin (pg_pr z) 16 (pg_m155 z) 0 [(0, .ref 1000017), (1, .int x)] [] h = some (some (.int v), h, 0, 0)) (hv : narrow .char (.int v) = .int v) (g0 : rm_get l 0 = some (.ref 1000016)) (g1 : rm_get l 1 = some (.int x)) : rm_run (pg_G z L xs) pg_fin (pg_pr z) 23 (pg_m153 z) 0 l [] h = some (some (.int v), h, 0, 0) := by
  rw [rm_b1 (ins := .aload_n 0) rfl (ck_ld g0)]
  rw [rm_b3 (ins := .invokevirtual 492) (j := 154) (as := [.ref 1000016]) (rest := []) (M' := pg_m154 z) (h1 := h) (v := some (.int 1)) (c1 := 0) (d1 := 0) rfl rfl rfl (by cases z <;> rfl) (by cases z <;> rfl) (by cases z <;> rfl)]
  rw [rm_b1 (ins := .ifCond .eq 12) (x := (7, l, [])) rfl rfl]
  rw [rm_b1 (ins := .aload_n 0) rfl (ck_ld g0)]
  rw [rm_b2 (ins := .getfield 9) (x := (11, l, [.ref 1000017], h, 0, 0)) rfl rfl rfl]
  rw [rm_b1 (ins := .iload_n 1) rfl (ck_li g1)]
  rw [rm_b3 (ins := .invokestatic 495) (j := 155) (as := [.ref 1000017, .int x]) (rest := []) (M' := pg_m155 z) (h1 := h) (v := some (.int v)) (c1 := 0) (d1 := 0) rfl rfl rfl (by cases z <;> rfl) (by cases z <;> rfl) hr]
  have q : rm_run (pg_G z L xs) pg_fin (pg_pr z) 16 (pg_m153 z) 15 l [.int v] h = some (some (.int v), h, 0, 0) := rm_b5 (ins := .ireturn) rfl rfl rfl rfl rfl (ck_s5 z hv)
  exact (congrArg (fun r => rm_add 0 0 (rm_add 0 0 (rm_add 0 0 r))) q).trans rfl
theorem ck_in8_0 (z : Bool) (L : Nat) (xs : Nat → Int32) (h : rm_H) : rm_run (pg_G z L xs) pg_fin (pg_pr z) 16 (pg_m155 z) 0 [(0, .ref 1000017), (1, .int (Int32.ofInt ((0 : Nat) : Int)))] [] h = some (some (.int 32), h, 0, 0) := by
  cases z <;> rfl
theorem ck_in8_1 (z : Bool) (L : Nat) (xs : Nat → Int32) (h : rm_H) : rm_run (pg_G z L xs) pg_fin (pg_pr z) 16 (pg_m155 z) 0 [(0, .ref 1000017), (1, .int (Int32.ofInt ((1 : Nat) : Int)))] [] h = some (some (.int 35), h, 0, 0) := by
  cases z <;> rfl
theorem ck_at8 (z : Bool) (L : Nat) (xs : Nat → Int32) (l : rm_L) (h : rm_H) (g0 : rm_get l 0 = some (.ref 1000016)) : ∀ x : Nat, x < 2 → rm_get l 1 = some (.int (Int32.ofInt (x : Int))) → rm_run (pg_G z L xs) pg_fin (pg_pr z) 23 (pg_m153 z) 0 l [] h = some (some (.int (([32, 35] : List Int32).getD x 0)), h, 0, 0)
  | 0, _, g1 => ck_ch8 (ck_in8_0 z L xs h) rfl g0 g1
  | 1, _, g1 => ck_ch8 (ck_in8_1 z L xs h) rfl g0 g1
  | _ + 2, hx, _ => absurd hx (by omega)
theorem ck_len9 (z : Bool) (L : Nat) (xs : Nat → Int32) (l : rm_L) (h : rm_H) (g0 : rm_get l 0 = some (.ref 1000018)) : rm_run (pg_G z L xs) pg_fin (pg_pr z) 20 (pg_m151 z) 0 l [] h = some (some (.int 4), h, 0, 0) := by
  rw [rm_b1 (ins := .aload_n 0) rfl (ck_ld g0)]
  rw [rm_b2 (ins := .getfield 9) (x := (4, l, [.ref 1000019], h, 0, 0)) rfl rfl rfl]
  rw [rm_b2 (ins := .arraylength) (x := (5, l, [.int 4], h, 0, 0)) rfl rfl rfl]
  rw [rm_b1 (ins := .aload_n 0) rfl (ck_ld g0)]
  rw [rm_b3 (ins := .invokevirtual 335) (j := 152) (as := [.ref 1000018]) (rest := [.int 4]) (M' := pg_m152 z) (h1 := h) (v := some (.int 0)) (c1 := 0) (d1 := 0) rfl rfl rfl (by cases z <;> rfl) (by cases z <;> rfl) (by cases z <;> rfl)]
  rw [rm_b1 (ins := .ishr) (x := (10, l, [.int 4])) rfl rfl]
  rw [rm_b5 (ins := .ireturn) (v := some (.int 4)) rfl rfl rfl rfl rfl rfl]
  rfl
theorem ck_ch9 {z : Bool} {L : Nat} {xs : Nat → Int32} {l : rm_L} {h : rm_H} {x v : Int32} (hr : rm_run (pg_G z L xs) pg_fin (pg_pr z) 16 (pg_m155 z) 0 [(0, .ref 1000019), (1, .int x)] [] h = some (some (.int v), h, 0, 0)) (hv : narrow .char (.int v) = .int v) (g0 : rm_get l 0 = some (.ref 1000018)) (g1 : rm_get l 1 = some (.int x)) : rm_run (pg_G z L xs) pg_fin (pg_pr z) 23 (pg_m153 z) 0 l [] h = some (some (.int v), h, 0, 0) := by
  rw [rm_b1 (ins := .aload_n 0) rfl (ck_ld g0)]
  rw [rm_b3 (ins := .invokevirtual 492) (j := 154) (as := [.ref 1000018]) (rest := []) (M' := pg_m154 z) (h1 := h) (v := some (.int 1)) (c1 := 0) (d1 := 0) rfl rfl rfl (by cases z <;> rfl) (by cases z <;> rfl) (by cases z <;> rfl)]
  rw [rm_b1 (ins := .ifCond .eq 12) (x := (7, l, [])) rfl rfl]
  rw [rm_b1 (ins := .aload_n 0) rfl (ck_ld g0)]
  rw [rm_b2 (ins := .getfield 9) (x := (11, l, [.ref 1000019], h, 0, 0)) rfl rfl rfl]
  rw [rm_b1 (ins := .iload_n 1) rfl (ck_li g1)]
  rw [rm_b3 (ins := .invokestatic 495) (j := 155) (as := [.ref 1000019, .int x]) (rest := []) (M' := pg_m155 z) (h1 := h) (v := some (.int v)) (c1 := 0) (d1 := 0) rfl rfl rfl (by cases z <;> rfl) (by cases z <;> rfl) hr]
  have q : rm_run (pg_G z L xs) pg_fin (pg_pr z) 16 (pg_m153 z) 15 l [.int v] h = some (some (.int v), h, 0, 0) := rm_b5 (ins := .ireturn) rfl rfl rfl rfl rfl (ck_s5 z hv)
  exact (congrArg (fun r => rm_add 0 0 (rm_add 0 0 (rm_add 0 0 r))) q).trans rfl
theorem ck_in9_0 (z : Bool) (L : Nat) (xs : Nat → Int32) (h : rm_H) : rm_run (pg_G z L xs) pg_fin (pg_pr z) 16 (pg_m155 z) 0 [(0, .ref 1000019), (1, .int (Int32.ofInt ((0 : Nat) : Int)))] [] h = some (some (.int 97), h, 0, 0) := by
  cases z <;> rfl
theorem ck_in9_1 (z : Bool) (L : Nat) (xs : Nat → Int32) (h : rm_H) : rm_run (pg_G z L xs) pg_fin (pg_pr z) 16 (pg_m155 z) 0 [(0, .ref 1000019), (1, .int (Int32.ofInt ((1 : Nat) : Int)))] [] h = some (some (.int 110), h, 0, 0) := by
  cases z <;> rfl
theorem ck_in9_2 (z : Bool) (L : Nat) (xs : Nat → Int32) (h : rm_H) : rm_run (pg_G z L xs) pg_fin (pg_pr z) 16 (pg_m155 z) 0 [(0, .ref 1000019), (1, .int (Int32.ofInt ((2 : Nat) : Int)))] [] h = some (some (.int 100), h, 0, 0) := by
  cases z <;> rfl
theorem ck_in9_3 (z : Bool) (L : Nat) (xs : Nat → Int32) (h : rm_H) : rm_run (pg_G z L xs) pg_fin (pg_pr z) 16 (pg_m155 z) 0 [(0, .ref 1000019), (1, .int (Int32.ofInt ((3 : Nat) : Int)))] [] h = some (some (.int 32), h, 0, 0) := by
  cases z <;> rfl
theorem ck_at9 (z : Bool) (L : Nat) (xs : Nat → Int32) (l : rm_L) (h : rm_H) (g0 : rm_get l 0 = some (.ref 1000018)) : ∀ x : Nat, x < 4 → rm_get l 1 = some (.int (Int32.ofInt (x : Int))) → rm_run (pg_G z L xs) pg_fin (pg_pr z) 23 (pg_m153 z) 0 l [] h = some (some (.int (([97, 110, 100, 32] : List Int32).getD x 0)), h, 0, 0)
  | 0, _, g1 => ck_ch9 (ck_in9_0 z L xs h) rfl g0 g1
  | 1, _, g1 => ck_ch9 (ck_in9_1 z L xs h) rfl g0 g1
  | 2, _, g1 => ck_ch9 (ck_in9_2 z L xs h) rfl g0 g1
  | 3, _, g1 => ck_ch9 (ck_in9_3 z L xs h) rfl g0 g1
  | _ + 4, hx, _ => absurd hx (by omega)
theorem ck_len10 (z : Bool) (L : Nat) (xs : Nat → Int32) (l : rm_L) (h : rm_H) (g0 : rm_get l 0 = some (.ref 1000020)) : rm_run (pg_G z L xs) pg_fin (pg_pr z) 20 (pg_m151 z) 0 l [] h = some (some (.int 3), h, 0, 0) := by
  rw [rm_b1 (ins := .aload_n 0) rfl (ck_ld g0)]
  rw [rm_b2 (ins := .getfield 9) (x := (4, l, [.ref 1000021], h, 0, 0)) rfl rfl rfl]
  rw [rm_b2 (ins := .arraylength) (x := (5, l, [.int 3], h, 0, 0)) rfl rfl rfl]
  rw [rm_b1 (ins := .aload_n 0) rfl (ck_ld g0)]
  rw [rm_b3 (ins := .invokevirtual 335) (j := 152) (as := [.ref 1000020]) (rest := [.int 3]) (M' := pg_m152 z) (h1 := h) (v := some (.int 0)) (c1 := 0) (d1 := 0) rfl rfl rfl (by cases z <;> rfl) (by cases z <;> rfl) (by cases z <;> rfl)]
  rw [rm_b1 (ins := .ishr) (x := (10, l, [.int 3])) rfl rfl]
  rw [rm_b5 (ins := .ireturn) (v := some (.int 3)) rfl rfl rfl rfl rfl rfl]
  rfl
theorem ck_ch10 {z : Bool} {L : Nat} {xs : Nat → Int32} {l : rm_L} {h : rm_H} {x v : Int32} (hr : rm_run (pg_G z L xs) pg_fin (pg_pr z) 16 (pg_m155 z) 0 [(0, .ref 1000021), (1, .int x)] [] h = some (some (.int v), h, 0, 0)) (hv : narrow .char (.int v) = .int v) (g0 : rm_get l 0 = some (.ref 1000020)) (g1 : rm_get l 1 = some (.int x)) : rm_run (pg_G z L xs) pg_fin (pg_pr z) 23 (pg_m153 z) 0 l [] h = some (some (.int v), h, 0, 0) := by
  rw [rm_b1 (ins := .aload_n 0) rfl (ck_ld g0)]
  rw [rm_b3 (ins := .invokevirtual 492) (j := 154) (as := [.ref 1000020]) (rest := []) (M' := pg_m154 z) (h1 := h) (v := some (.int 1)) (c1 := 0) (d1 := 0) rfl rfl rfl (by cases z <;> rfl) (by cases z <;> rfl) (by cases z <;> rfl)]
  rw [rm_b1 (ins := .ifCond .eq 12) (x := (7, l, [])) rfl rfl]
  rw [rm_b1 (ins := .aload_n 0) rfl (ck_ld g0)]
  rw [rm_b2 (ins := .getfield 9) (x := (11, l, [.ref 1000021], h, 0, 0)) rfl rfl rfl]
  rw [rm_b1 (ins := .iload_n 1) rfl (ck_li g1)]
  rw [rm_b3 (ins := .invokestatic 495) (j := 155) (as := [.ref 1000021, .int x]) (rest := []) (M' := pg_m155 z) (h1 := h) (v := some (.int v)) (c1 := 0) (d1 := 0) rfl rfl rfl (by cases z <;> rfl) (by cases z <;> rfl) hr]
  have q : rm_run (pg_G z L xs) pg_fin (pg_pr z) 16 (pg_m153 z) 15 l [.int v] h = some (some (.int v), h, 0, 0) := rm_b5 (ins := .ireturn) rfl rfl rfl rfl rfl (ck_s5 z hv)
  exact (congrArg (fun r => rm_add 0 0 (rm_add 0 0 (rm_add 0 0 r))) q).trans rfl
theorem ck_in10_0 (z : Bool) (L : Nat) (xs : Nat → Int32) (h : rm_H) : rm_run (pg_G z L xs) pg_fin (pg_pr z) 16 (pg_m155 z) 0 [(0, .ref 1000021), (1, .int (Int32.ofInt ((0 : Nat) : Int)))] [] h = some (some (.int 111), h, 0, 0) := by
  cases z <;> rfl
theorem ck_in10_1 (z : Bool) (L : Nat) (xs : Nat → Int32) (h : rm_H) : rm_run (pg_G z L xs) pg_fin (pg_pr z) 16 (pg_m155 z) 0 [(0, .ref 1000021), (1, .int (Int32.ofInt ((1 : Nat) : Int)))] [] h = some (some (.int 114), h, 0, 0) := by
  cases z <;> rfl
theorem ck_in10_2 (z : Bool) (L : Nat) (xs : Nat → Int32) (h : rm_H) : rm_run (pg_G z L xs) pg_fin (pg_pr z) 16 (pg_m155 z) 0 [(0, .ref 1000021), (1, .int (Int32.ofInt ((2 : Nat) : Int)))] [] h = some (some (.int 32), h, 0, 0) := by
  cases z <;> rfl
theorem ck_at10 (z : Bool) (L : Nat) (xs : Nat → Int32) (l : rm_L) (h : rm_H) (g0 : rm_get l 0 = some (.ref 1000020)) : ∀ x : Nat, x < 3 → rm_get l 1 = some (.int (Int32.ofInt (x : Int))) → rm_run (pg_G z L xs) pg_fin (pg_pr z) 23 (pg_m153 z) 0 l [] h = some (some (.int (([111, 114, 32] : List Int32).getD x 0)), h, 0, 0)
  | 0, _, g1 => ck_ch10 (ck_in10_0 z L xs h) rfl g0 g1
  | 1, _, g1 => ck_ch10 (ck_in10_1 z L xs h) rfl g0 g1
  | 2, _, g1 => ck_ch10 (ck_in10_2 z L xs h) rfl g0 g1
  | _ + 3, hx, _ => absurd hx (by omega)
theorem ck_len11 (z : Bool) (L : Nat) (xs : Nat → Int32) (l : rm_L) (h : rm_H) (g0 : rm_get l 0 = some (.ref 1000022)) : rm_run (pg_G z L xs) pg_fin (pg_pr z) 20 (pg_m151 z) 0 l [] h = some (some (.int 4), h, 0, 0) := by
  rw [rm_b1 (ins := .aload_n 0) rfl (ck_ld g0)]
  rw [rm_b2 (ins := .getfield 9) (x := (4, l, [.ref 1000023], h, 0, 0)) rfl rfl rfl]
  rw [rm_b2 (ins := .arraylength) (x := (5, l, [.int 4], h, 0, 0)) rfl rfl rfl]
  rw [rm_b1 (ins := .aload_n 0) rfl (ck_ld g0)]
  rw [rm_b3 (ins := .invokevirtual 335) (j := 152) (as := [.ref 1000022]) (rest := [.int 4]) (M' := pg_m152 z) (h1 := h) (v := some (.int 0)) (c1 := 0) (d1 := 0) rfl rfl rfl (by cases z <;> rfl) (by cases z <;> rfl) (by cases z <;> rfl)]
  rw [rm_b1 (ins := .ishr) (x := (10, l, [.int 4])) rfl rfl]
  rw [rm_b5 (ins := .ireturn) (v := some (.int 4)) rfl rfl rfl rfl rfl rfl]
  rfl
theorem ck_ch11 {z : Bool} {L : Nat} {xs : Nat → Int32} {l : rm_L} {h : rm_H} {x v : Int32} (hr : rm_run (pg_G z L xs) pg_fin (pg_pr z) 16 (pg_m155 z) 0 [(0, .ref 1000023), (1, .int x)] [] h = some (some (.int v), h, 0, 0)) (hv : narrow .char (.int v) = .int v) (g0 : rm_get l 0 = some (.ref 1000022)) (g1 : rm_get l 1 = some (.int x)) : rm_run (pg_G z L xs) pg_fin (pg_pr z) 23 (pg_m153 z) 0 l [] h = some (some (.int v), h, 0, 0) := by
  rw [rm_b1 (ins := .aload_n 0) rfl (ck_ld g0)]
  rw [rm_b3 (ins := .invokevirtual 492) (j := 154) (as := [.ref 1000022]) (rest := []) (M' := pg_m154 z) (h1 := h) (v := some (.int 1)) (c1 := 0) (d1 := 0) rfl rfl rfl (by cases z <;> rfl) (by cases z <;> rfl) (by cases z <;> rfl)]
  rw [rm_b1 (ins := .ifCond .eq 12) (x := (7, l, [])) rfl rfl]
  rw [rm_b1 (ins := .aload_n 0) rfl (ck_ld g0)]
  rw [rm_b2 (ins := .getfield 9) (x := (11, l, [.ref 1000023], h, 0, 0)) rfl rfl rfl]
  rw [rm_b1 (ins := .iload_n 1) rfl (ck_li g1)]
  rw [rm_b3 (ins := .invokestatic 495) (j := 155) (as := [.ref 1000023, .int x]) (rest := []) (M' := pg_m155 z) (h1 := h) (v := some (.int v)) (c1 := 0) (d1 := 0) rfl rfl rfl (by cases z <;> rfl) (by cases z <;> rfl) hr]
  have q : rm_run (pg_G z L xs) pg_fin (pg_pr z) 16 (pg_m153 z) 15 l [.int v] h = some (some (.int v), h, 0, 0) := rm_b5 (ins := .ireturn) rfl rfl rfl rfl rfl (ck_s5 z hv)
  exact (congrArg (fun r => rm_add 0 0 (rm_add 0 0 (rm_add 0 0 r))) q).trans rfl
theorem ck_in11_0 (z : Bool) (L : Nat) (xs : Nat → Int32) (h : rm_H) : rm_run (pg_G z L xs) pg_fin (pg_pr z) 16 (pg_m155 z) 0 [(0, .ref 1000023), (1, .int (Int32.ofInt ((0 : Nat) : Int)))] [] h = some (some (.int 110), h, 0, 0) := by
  cases z <;> rfl
theorem ck_in11_1 (z : Bool) (L : Nat) (xs : Nat → Int32) (h : rm_H) : rm_run (pg_G z L xs) pg_fin (pg_pr z) 16 (pg_m155 z) 0 [(0, .ref 1000023), (1, .int (Int32.ofInt ((1 : Nat) : Int)))] [] h = some (some (.int 111), h, 0, 0) := by
  cases z <;> rfl
theorem ck_in11_2 (z : Bool) (L : Nat) (xs : Nat → Int32) (h : rm_H) : rm_run (pg_G z L xs) pg_fin (pg_pr z) 16 (pg_m155 z) 0 [(0, .ref 1000023), (1, .int (Int32.ofInt ((2 : Nat) : Int)))] [] h = some (some (.int 116), h, 0, 0) := by
  cases z <;> rfl
theorem ck_in11_3 (z : Bool) (L : Nat) (xs : Nat → Int32) (h : rm_H) : rm_run (pg_G z L xs) pg_fin (pg_pr z) 16 (pg_m155 z) 0 [(0, .ref 1000023), (1, .int (Int32.ofInt ((3 : Nat) : Int)))] [] h = some (some (.int 32), h, 0, 0) := by
  cases z <;> rfl
theorem ck_at11 (z : Bool) (L : Nat) (xs : Nat → Int32) (l : rm_L) (h : rm_H) (g0 : rm_get l 0 = some (.ref 1000022)) : ∀ x : Nat, x < 4 → rm_get l 1 = some (.int (Int32.ofInt (x : Int))) → rm_run (pg_G z L xs) pg_fin (pg_pr z) 23 (pg_m153 z) 0 l [] h = some (some (.int (([110, 111, 116, 32] : List Int32).getD x 0)), h, 0, 0)
  | 0, _, g1 => ck_ch11 (ck_in11_0 z L xs h) rfl g0 g1
  | 1, _, g1 => ck_ch11 (ck_in11_1 z L xs h) rfl g0 g1
  | 2, _, g1 => ck_ch11 (ck_in11_2 z L xs h) rfl g0 g1
  | 3, _, g1 => ck_ch11 (ck_in11_3 z L xs h) rfl g0 g1
  | _ + 4, hx, _ => absurd hx (by omega)
theorem ck_len12 (z : Bool) (L : Nat) (xs : Nat → Int32) (l : rm_L) (h : rm_H) (g0 : rm_get l 0 = some (.ref 1000024)) : rm_run (pg_G z L xs) pg_fin (pg_pr z) 20 (pg_m151 z) 0 l [] h = some (some (.int 4), h, 0, 0) := by
  rw [rm_b1 (ins := .aload_n 0) rfl (ck_ld g0)]
  rw [rm_b2 (ins := .getfield 9) (x := (4, l, [.ref 1000025], h, 0, 0)) rfl rfl rfl]
  rw [rm_b2 (ins := .arraylength) (x := (5, l, [.int 4], h, 0, 0)) rfl rfl rfl]
  rw [rm_b1 (ins := .aload_n 0) rfl (ck_ld g0)]
  rw [rm_b3 (ins := .invokevirtual 335) (j := 152) (as := [.ref 1000024]) (rest := [.int 4]) (M' := pg_m152 z) (h1 := h) (v := some (.int 0)) (c1 := 0) (d1 := 0) rfl rfl rfl (by cases z <;> rfl) (by cases z <;> rfl) (by cases z <;> rfl)]
  rw [rm_b1 (ins := .ishr) (x := (10, l, [.int 4])) rfl rfl]
  rw [rm_b5 (ins := .ireturn) (v := some (.int 4)) rfl rfl rfl rfl rfl rfl]
  rfl
theorem ck_ch12 {z : Bool} {L : Nat} {xs : Nat → Int32} {l : rm_L} {h : rm_H} {x v : Int32} (hr : rm_run (pg_G z L xs) pg_fin (pg_pr z) 16 (pg_m155 z) 0 [(0, .ref 1000025), (1, .int x)] [] h = some (some (.int v), h, 0, 0)) (hv : narrow .char (.int v) = .int v) (g0 : rm_get l 0 = some (.ref 1000024)) (g1 : rm_get l 1 = some (.int x)) : rm_run (pg_G z L xs) pg_fin (pg_pr z) 23 (pg_m153 z) 0 l [] h = some (some (.int v), h, 0, 0) := by
  rw [rm_b1 (ins := .aload_n 0) rfl (ck_ld g0)]
  rw [rm_b3 (ins := .invokevirtual 492) (j := 154) (as := [.ref 1000024]) (rest := []) (M' := pg_m154 z) (h1 := h) (v := some (.int 1)) (c1 := 0) (d1 := 0) rfl rfl rfl (by cases z <;> rfl) (by cases z <;> rfl) (by cases z <;> rfl)]
  rw [rm_b1 (ins := .ifCond .eq 12) (x := (7, l, [])) rfl rfl]
  rw [rm_b1 (ins := .aload_n 0) rfl (ck_ld g0)]
  rw [rm_b2 (ins := .getfield 9) (x := (11, l, [.ref 1000025], h, 0, 0)) rfl rfl rfl]
  rw [rm_b1 (ins := .iload_n 1) rfl (ck_li g1)]
  rw [rm_b3 (ins := .invokestatic 495) (j := 155) (as := [.ref 1000025, .int x]) (rest := []) (M' := pg_m155 z) (h1 := h) (v := some (.int v)) (c1 := 0) (d1 := 0) rfl rfl rfl (by cases z <;> rfl) (by cases z <;> rfl) hr]
  have q : rm_run (pg_G z L xs) pg_fin (pg_pr z) 16 (pg_m153 z) 15 l [.int v] h = some (some (.int v), h, 0, 0) := rm_b5 (ins := .ireturn) rfl rfl rfl rfl rfl (ck_s5 z hv)
  exact (congrArg (fun r => rm_add 0 0 (rm_add 0 0 (rm_add 0 0 r))) q).trans rfl
theorem ck_in12_0 (z : Bool) (L : Nat) (xs : Nat → Int32) (h : rm_H) : rm_run (pg_G z L xs) pg_fin (pg_pr z) 16 (pg_m155 z) 0 [(0, .ref 1000025), (1, .int (Int32.ofInt ((0 : Nat) : Int)))] [] h = some (some (.int 100), h, 0, 0) := by
  cases z <;> rfl
theorem ck_in12_1 (z : Bool) (L : Nat) (xs : Nat → Int32) (h : rm_H) : rm_run (pg_G z L xs) pg_fin (pg_pr z) 16 (pg_m155 z) 0 [(0, .ref 1000025), (1, .int (Int32.ofInt ((1 : Nat) : Int)))] [] h = some (some (.int 101), h, 0, 0) := by
  cases z <;> rfl
theorem ck_in12_2 (z : Bool) (L : Nat) (xs : Nat → Int32) (h : rm_H) : rm_run (pg_G z L xs) pg_fin (pg_pr z) 16 (pg_m155 z) 0 [(0, .ref 1000025), (1, .int (Int32.ofInt ((2 : Nat) : Int)))] [] h = some (some (.int 108), h, 0, 0) := by
  cases z <;> rfl
theorem ck_in12_3 (z : Bool) (L : Nat) (xs : Nat → Int32) (h : rm_H) : rm_run (pg_G z L xs) pg_fin (pg_pr z) 16 (pg_m155 z) 0 [(0, .ref 1000025), (1, .int (Int32.ofInt ((3 : Nat) : Int)))] [] h = some (some (.int 32), h, 0, 0) := by
  cases z <;> rfl
theorem ck_at12 (z : Bool) (L : Nat) (xs : Nat → Int32) (l : rm_L) (h : rm_H) (g0 : rm_get l 0 = some (.ref 1000024)) : ∀ x : Nat, x < 4 → rm_get l 1 = some (.int (Int32.ofInt (x : Int))) → rm_run (pg_G z L xs) pg_fin (pg_pr z) 23 (pg_m153 z) 0 l [] h = some (some (.int (([100, 101, 108, 32] : List Int32).getD x 0)), h, 0, 0)
  | 0, _, g1 => ck_ch12 (ck_in12_0 z L xs h) rfl g0 g1
  | 1, _, g1 => ck_ch12 (ck_in12_1 z L xs h) rfl g0 g1
  | 2, _, g1 => ck_ch12 (ck_in12_2 z L xs h) rfl g0 g1
  | 3, _, g1 => ck_ch12 (ck_in12_3 z L xs h) rfl g0 g1
  | _ + 4, hx, _ => absurd hx (by omega)
theorem ck_len13 (z : Bool) (L : Nat) (xs : Nat → Int32) (l : rm_L) (h : rm_H) (g0 : rm_get l 0 = some (.ref 1000026)) : rm_run (pg_G z L xs) pg_fin (pg_pr z) 20 (pg_m151 z) 0 l [] h = some (some (.int 4), h, 0, 0) := by
  rw [rm_b1 (ins := .aload_n 0) rfl (ck_ld g0)]
  rw [rm_b2 (ins := .getfield 9) (x := (4, l, [.ref 1000027], h, 0, 0)) rfl rfl rfl]
  rw [rm_b2 (ins := .arraylength) (x := (5, l, [.int 4], h, 0, 0)) rfl rfl rfl]
  rw [rm_b1 (ins := .aload_n 0) rfl (ck_ld g0)]
  rw [rm_b3 (ins := .invokevirtual 335) (j := 152) (as := [.ref 1000026]) (rest := [.int 4]) (M' := pg_m152 z) (h1 := h) (v := some (.int 0)) (c1 := 0) (d1 := 0) rfl rfl rfl (by cases z <;> rfl) (by cases z <;> rfl) (by cases z <;> rfl)]
  rw [rm_b1 (ins := .ishr) (x := (10, l, [.int 4])) rfl rfl]
  rw [rm_b5 (ins := .ireturn) (v := some (.int 4)) rfl rfl rfl rfl rfl rfl]
  rfl
theorem ck_ch13 {z : Bool} {L : Nat} {xs : Nat → Int32} {l : rm_L} {h : rm_H} {x v : Int32} (hr : rm_run (pg_G z L xs) pg_fin (pg_pr z) 16 (pg_m155 z) 0 [(0, .ref 1000027), (1, .int x)] [] h = some (some (.int v), h, 0, 0)) (hv : narrow .char (.int v) = .int v) (g0 : rm_get l 0 = some (.ref 1000026)) (g1 : rm_get l 1 = some (.int x)) : rm_run (pg_G z L xs) pg_fin (pg_pr z) 23 (pg_m153 z) 0 l [] h = some (some (.int v), h, 0, 0) := by
  rw [rm_b1 (ins := .aload_n 0) rfl (ck_ld g0)]
  rw [rm_b3 (ins := .invokevirtual 492) (j := 154) (as := [.ref 1000026]) (rest := []) (M' := pg_m154 z) (h1 := h) (v := some (.int 1)) (c1 := 0) (d1 := 0) rfl rfl rfl (by cases z <;> rfl) (by cases z <;> rfl) (by cases z <;> rfl)]
  rw [rm_b1 (ins := .ifCond .eq 12) (x := (7, l, [])) rfl rfl]
  rw [rm_b1 (ins := .aload_n 0) rfl (ck_ld g0)]
  rw [rm_b2 (ins := .getfield 9) (x := (11, l, [.ref 1000027], h, 0, 0)) rfl rfl rfl]
  rw [rm_b1 (ins := .iload_n 1) rfl (ck_li g1)]
  rw [rm_b3 (ins := .invokestatic 495) (j := 155) (as := [.ref 1000027, .int x]) (rest := []) (M' := pg_m155 z) (h1 := h) (v := some (.int v)) (c1 := 0) (d1 := 0) rfl rfl rfl (by cases z <;> rfl) (by cases z <;> rfl) hr]
  have q : rm_run (pg_G z L xs) pg_fin (pg_pr z) 16 (pg_m153 z) 15 l [.int v] h = some (some (.int v), h, 0, 0) := rm_b5 (ins := .ireturn) rfl rfl rfl rfl rfl (ck_s5 z hv)
  exact (congrArg (fun r => rm_add 0 0 (rm_add 0 0 (rm_add 0 0 r))) q).trans rfl
theorem ck_in13_0 (z : Bool) (L : Nat) (xs : Nat → Int32) (h : rm_H) : rm_run (pg_G z L xs) pg_fin (pg_pr z) 16 (pg_m155 z) 0 [(0, .ref 1000027), (1, .int (Int32.ofInt ((0 : Nat) : Int)))] [] h = some (some (.int 115), h, 0, 0) := by
  cases z <;> rfl
theorem ck_in13_1 (z : Bool) (L : Nat) (xs : Nat → Int32) (h : rm_H) : rm_run (pg_G z L xs) pg_fin (pg_pr z) 16 (pg_m155 z) 0 [(0, .ref 1000027), (1, .int (Int32.ofInt ((1 : Nat) : Int)))] [] h = some (some (.int 101), h, 0, 0) := by
  cases z <;> rfl
theorem ck_in13_2 (z : Bool) (L : Nat) (xs : Nat → Int32) (h : rm_H) : rm_run (pg_G z L xs) pg_fin (pg_pr z) 16 (pg_m155 z) 0 [(0, .ref 1000027), (1, .int (Int32.ofInt ((2 : Nat) : Int)))] [] h = some (some (.int 116), h, 0, 0) := by
  cases z <;> rfl
theorem ck_in13_3 (z : Bool) (L : Nat) (xs : Nat → Int32) (h : rm_H) : rm_run (pg_G z L xs) pg_fin (pg_pr z) 16 (pg_m155 z) 0 [(0, .ref 1000027), (1, .int (Int32.ofInt ((3 : Nat) : Int)))] [] h = some (some (.int 32), h, 0, 0) := by
  cases z <;> rfl
theorem ck_at13 (z : Bool) (L : Nat) (xs : Nat → Int32) (l : rm_L) (h : rm_H) (g0 : rm_get l 0 = some (.ref 1000026)) : ∀ x : Nat, x < 4 → rm_get l 1 = some (.int (Int32.ofInt (x : Int))) → rm_run (pg_G z L xs) pg_fin (pg_pr z) 23 (pg_m153 z) 0 l [] h = some (some (.int (([115, 101, 116, 32] : List Int32).getD x 0)), h, 0, 0)
  | 0, _, g1 => ck_ch13 (ck_in13_0 z L xs h) rfl g0 g1
  | 1, _, g1 => ck_ch13 (ck_in13_1 z L xs h) rfl g0 g1
  | 2, _, g1 => ck_ch13 (ck_in13_2 z L xs h) rfl g0 g1
  | 3, _, g1 => ck_ch13 (ck_in13_3 z L xs h) rfl g0 g1
  | _ + 4, hx, _ => absurd hx (by omega)
theorem ck_len14 (z : Bool) (L : Nat) (xs : Nat → Int32) (l : rm_L) (h : rm_H) (g0 : rm_get l 0 = some (.ref 1000028)) : rm_run (pg_G z L xs) pg_fin (pg_pr z) 20 (pg_m151 z) 0 l [] h = some (some (.int 4), h, 0, 0) := by
  rw [rm_b1 (ins := .aload_n 0) rfl (ck_ld g0)]
  rw [rm_b2 (ins := .getfield 9) (x := (4, l, [.ref 1000029], h, 0, 0)) rfl rfl rfl]
  rw [rm_b2 (ins := .arraylength) (x := (5, l, [.int 4], h, 0, 0)) rfl rfl rfl]
  rw [rm_b1 (ins := .aload_n 0) rfl (ck_ld g0)]
  rw [rm_b3 (ins := .invokevirtual 335) (j := 152) (as := [.ref 1000028]) (rest := [.int 4]) (M' := pg_m152 z) (h1 := h) (v := some (.int 0)) (c1 := 0) (d1 := 0) rfl rfl rfl (by cases z <;> rfl) (by cases z <;> rfl) (by cases z <;> rfl)]
  rw [rm_b1 (ins := .ishr) (x := (10, l, [.int 4])) rfl rfl]
  rw [rm_b5 (ins := .ireturn) (v := some (.int 4)) rfl rfl rfl rfl rfl rfl]
  rfl
theorem ck_ch14 {z : Bool} {L : Nat} {xs : Nat → Int32} {l : rm_L} {h : rm_H} {x v : Int32} (hr : rm_run (pg_G z L xs) pg_fin (pg_pr z) 16 (pg_m155 z) 0 [(0, .ref 1000029), (1, .int x)] [] h = some (some (.int v), h, 0, 0)) (hv : narrow .char (.int v) = .int v) (g0 : rm_get l 0 = some (.ref 1000028)) (g1 : rm_get l 1 = some (.int x)) : rm_run (pg_G z L xs) pg_fin (pg_pr z) 23 (pg_m153 z) 0 l [] h = some (some (.int v), h, 0, 0) := by
  rw [rm_b1 (ins := .aload_n 0) rfl (ck_ld g0)]
  rw [rm_b3 (ins := .invokevirtual 492) (j := 154) (as := [.ref 1000028]) (rest := []) (M' := pg_m154 z) (h1 := h) (v := some (.int 1)) (c1 := 0) (d1 := 0) rfl rfl rfl (by cases z <;> rfl) (by cases z <;> rfl) (by cases z <;> rfl)]
  rw [rm_b1 (ins := .ifCond .eq 12) (x := (7, l, [])) rfl rfl]
  rw [rm_b1 (ins := .aload_n 0) rfl (ck_ld g0)]
  rw [rm_b2 (ins := .getfield 9) (x := (11, l, [.ref 1000029], h, 0, 0)) rfl rfl rfl]
  rw [rm_b1 (ins := .iload_n 1) rfl (ck_li g1)]
  rw [rm_b3 (ins := .invokestatic 495) (j := 155) (as := [.ref 1000029, .int x]) (rest := []) (M' := pg_m155 z) (h1 := h) (v := some (.int v)) (c1 := 0) (d1 := 0) rfl rfl rfl (by cases z <;> rfl) (by cases z <;> rfl) hr]
  have q : rm_run (pg_G z L xs) pg_fin (pg_pr z) 16 (pg_m153 z) 15 l [.int v] h = some (some (.int v), h, 0, 0) := rm_b5 (ins := .ireturn) rfl rfl rfl rfl rfl (ck_s5 z hv)
  exact (congrArg (fun r => rm_add 0 0 (rm_add 0 0 (rm_add 0 0 r))) q).trans rfl
theorem ck_in14_0 (z : Bool) (L : Nat) (xs : Nat → Int32) (h : rm_H) : rm_run (pg_G z L xs) pg_fin (pg_pr z) 16 (pg_m155 z) 0 [(0, .ref 1000029), (1, .int (Int32.ofInt ((0 : Nat) : Int)))] [] h = some (some (.int 97), h, 0, 0) := by
  cases z <;> rfl
theorem ck_in14_1 (z : Bool) (L : Nat) (xs : Nat → Int32) (h : rm_H) : rm_run (pg_G z L xs) pg_fin (pg_pr z) 16 (pg_m155 z) 0 [(0, .ref 1000029), (1, .int (Int32.ofInt ((1 : Nat) : Int)))] [] h = some (some (.int 100), h, 0, 0) := by
  cases z <;> rfl
theorem ck_in14_2 (z : Bool) (L : Nat) (xs : Nat → Int32) (h : rm_H) : rm_run (pg_G z L xs) pg_fin (pg_pr z) 16 (pg_m155 z) 0 [(0, .ref 1000029), (1, .int (Int32.ofInt ((2 : Nat) : Int)))] [] h = some (some (.int 100), h, 0, 0) := by
  cases z <;> rfl
theorem ck_in14_3 (z : Bool) (L : Nat) (xs : Nat → Int32) (h : rm_H) : rm_run (pg_G z L xs) pg_fin (pg_pr z) 16 (pg_m155 z) 0 [(0, .ref 1000029), (1, .int (Int32.ofInt ((3 : Nat) : Int)))] [] h = some (some (.int 32), h, 0, 0) := by
  cases z <;> rfl
theorem ck_at14 (z : Bool) (L : Nat) (xs : Nat → Int32) (l : rm_L) (h : rm_H) (g0 : rm_get l 0 = some (.ref 1000028)) : ∀ x : Nat, x < 4 → rm_get l 1 = some (.int (Int32.ofInt (x : Int))) → rm_run (pg_G z L xs) pg_fin (pg_pr z) 23 (pg_m153 z) 0 l [] h = some (some (.int (([97, 100, 100, 32] : List Int32).getD x 0)), h, 0, 0)
  | 0, _, g1 => ck_ch14 (ck_in14_0 z L xs h) rfl g0 g1
  | 1, _, g1 => ck_ch14 (ck_in14_1 z L xs h) rfl g0 g1
  | 2, _, g1 => ck_ch14 (ck_in14_2 z L xs h) rfl g0 g1
  | 3, _, g1 => ck_ch14 (ck_in14_3 z L xs h) rfl g0 g1
  | _ + 4, hx, _ => absurd hx (by omega)
theorem ck_len15 (z : Bool) (L : Nat) (xs : Nat → Int32) (l : rm_L) (h : rm_H) (g0 : rm_get l 0 = some (.ref 1000030)) : rm_run (pg_G z L xs) pg_fin (pg_pr z) 20 (pg_m151 z) 0 l [] h = some (some (.int 6), h, 0, 0) := by
  rw [rm_b1 (ins := .aload_n 0) rfl (ck_ld g0)]
  rw [rm_b2 (ins := .getfield 9) (x := (4, l, [.ref 1000031], h, 0, 0)) rfl rfl rfl]
  rw [rm_b2 (ins := .arraylength) (x := (5, l, [.int 6], h, 0, 0)) rfl rfl rfl]
  rw [rm_b1 (ins := .aload_n 0) rfl (ck_ld g0)]
  rw [rm_b3 (ins := .invokevirtual 335) (j := 152) (as := [.ref 1000030]) (rest := [.int 6]) (M' := pg_m152 z) (h1 := h) (v := some (.int 0)) (c1 := 0) (d1 := 0) rfl rfl rfl (by cases z <;> rfl) (by cases z <;> rfl) (by cases z <;> rfl)]
  rw [rm_b1 (ins := .ishr) (x := (10, l, [.int 6])) rfl rfl]
  rw [rm_b5 (ins := .ireturn) (v := some (.int 6)) rfl rfl rfl rfl rfl rfl]
  rfl
theorem ck_ch15 {z : Bool} {L : Nat} {xs : Nat → Int32} {l : rm_L} {h : rm_H} {x v : Int32} (hr : rm_run (pg_G z L xs) pg_fin (pg_pr z) 16 (pg_m155 z) 0 [(0, .ref 1000031), (1, .int x)] [] h = some (some (.int v), h, 0, 0)) (hv : narrow .char (.int v) = .int v) (g0 : rm_get l 0 = some (.ref 1000030)) (g1 : rm_get l 1 = some (.int x)) : rm_run (pg_G z L xs) pg_fin (pg_pr z) 23 (pg_m153 z) 0 l [] h = some (some (.int v), h, 0, 0) := by
  rw [rm_b1 (ins := .aload_n 0) rfl (ck_ld g0)]
  rw [rm_b3 (ins := .invokevirtual 492) (j := 154) (as := [.ref 1000030]) (rest := []) (M' := pg_m154 z) (h1 := h) (v := some (.int 1)) (c1 := 0) (d1 := 0) rfl rfl rfl (by cases z <;> rfl) (by cases z <;> rfl) (by cases z <;> rfl)]
  rw [rm_b1 (ins := .ifCond .eq 12) (x := (7, l, [])) rfl rfl]
  rw [rm_b1 (ins := .aload_n 0) rfl (ck_ld g0)]
  rw [rm_b2 (ins := .getfield 9) (x := (11, l, [.ref 1000031], h, 0, 0)) rfl rfl rfl]
  rw [rm_b1 (ins := .iload_n 1) rfl (ck_li g1)]
  rw [rm_b3 (ins := .invokestatic 495) (j := 155) (as := [.ref 1000031, .int x]) (rest := []) (M' := pg_m155 z) (h1 := h) (v := some (.int v)) (c1 := 0) (d1 := 0) rfl rfl rfl (by cases z <;> rfl) (by cases z <;> rfl) hr]
  have q : rm_run (pg_G z L xs) pg_fin (pg_pr z) 16 (pg_m153 z) 15 l [.int v] h = some (some (.int v), h, 0, 0) := rm_b5 (ins := .ireturn) rfl rfl rfl rfl rfl (ck_s5 z hv)
  exact (congrArg (fun r => rm_add 0 0 (rm_add 0 0 (rm_add 0 0 r))) q).trans rfl
theorem ck_in15_0 (z : Bool) (L : Nat) (xs : Nat → Int32) (h : rm_H) : rm_run (pg_G z L xs) pg_fin (pg_pr z) 16 (pg_m155 z) 0 [(0, .ref 1000031), (1, .int (Int32.ofInt ((0 : Nat) : Int)))] [] h = some (some (.int 101), h, 0, 0) := by
  cases z <;> rfl
theorem ck_in15_1 (z : Bool) (L : Nat) (xs : Nat → Int32) (h : rm_H) : rm_run (pg_G z L xs) pg_fin (pg_pr z) 16 (pg_m155 z) 0 [(0, .ref 1000031), (1, .int (Int32.ofInt ((1 : Nat) : Int)))] [] h = some (some (.int 118), h, 0, 0) := by
  cases z <;> rfl
theorem ck_in15_2 (z : Bool) (L : Nat) (xs : Nat → Int32) (h : rm_H) : rm_run (pg_G z L xs) pg_fin (pg_pr z) 16 (pg_m155 z) 0 [(0, .ref 1000031), (1, .int (Int32.ofInt ((2 : Nat) : Int)))] [] h = some (some (.int 101), h, 0, 0) := by
  cases z <;> rfl
theorem ck_in15_3 (z : Bool) (L : Nat) (xs : Nat → Int32) (h : rm_H) : rm_run (pg_G z L xs) pg_fin (pg_pr z) 16 (pg_m155 z) 0 [(0, .ref 1000031), (1, .int (Int32.ofInt ((3 : Nat) : Int)))] [] h = some (some (.int 114), h, 0, 0) := by
  cases z <;> rfl
theorem ck_in15_4 (z : Bool) (L : Nat) (xs : Nat → Int32) (h : rm_H) : rm_run (pg_G z L xs) pg_fin (pg_pr z) 16 (pg_m155 z) 0 [(0, .ref 1000031), (1, .int (Int32.ofInt ((4 : Nat) : Int)))] [] h = some (some (.int 121), h, 0, 0) := by
  cases z <;> rfl
theorem ck_in15_5 (z : Bool) (L : Nat) (xs : Nat → Int32) (h : rm_H) : rm_run (pg_G z L xs) pg_fin (pg_pr z) 16 (pg_m155 z) 0 [(0, .ref 1000031), (1, .int (Int32.ofInt ((5 : Nat) : Int)))] [] h = some (some (.int 32), h, 0, 0) := by
  cases z <;> rfl
theorem ck_at15 (z : Bool) (L : Nat) (xs : Nat → Int32) (l : rm_L) (h : rm_H) (g0 : rm_get l 0 = some (.ref 1000030)) : ∀ x : Nat, x < 6 → rm_get l 1 = some (.int (Int32.ofInt (x : Int))) → rm_run (pg_G z L xs) pg_fin (pg_pr z) 23 (pg_m153 z) 0 l [] h = some (some (.int (([101, 118, 101, 114, 121, 32] : List Int32).getD x 0)), h, 0, 0)
  | 0, _, g1 => ck_ch15 (ck_in15_0 z L xs h) rfl g0 g1
  | 1, _, g1 => ck_ch15 (ck_in15_1 z L xs h) rfl g0 g1
  | 2, _, g1 => ck_ch15 (ck_in15_2 z L xs h) rfl g0 g1
  | 3, _, g1 => ck_ch15 (ck_in15_3 z L xs h) rfl g0 g1
  | 4, _, g1 => ck_ch15 (ck_in15_4 z L xs h) rfl g0 g1
  | 5, _, g1 => ck_ch15 (ck_in15_5 z L xs h) rfl g0 g1
  | _ + 6, hx, _ => absurd hx (by omega)
theorem ck_len16 (z : Bool) (L : Nat) (xs : Nat → Int32) (l : rm_L) (h : rm_H) (g0 : rm_get l 0 = some (.ref 1000032)) : rm_run (pg_G z L xs) pg_fin (pg_pr z) 20 (pg_m151 z) 0 l [] h = some (some (.int 6), h, 0, 0) := by
  rw [rm_b1 (ins := .aload_n 0) rfl (ck_ld g0)]
  rw [rm_b2 (ins := .getfield 9) (x := (4, l, [.ref 1000033], h, 0, 0)) rfl rfl rfl]
  rw [rm_b2 (ins := .arraylength) (x := (5, l, [.int 6], h, 0, 0)) rfl rfl rfl]
  rw [rm_b1 (ins := .aload_n 0) rfl (ck_ld g0)]
  rw [rm_b3 (ins := .invokevirtual 335) (j := 152) (as := [.ref 1000032]) (rest := [.int 6]) (M' := pg_m152 z) (h1 := h) (v := some (.int 0)) (c1 := 0) (d1 := 0) rfl rfl rfl (by cases z <;> rfl) (by cases z <;> rfl) (by cases z <;> rfl)]
  rw [rm_b1 (ins := .ishr) (x := (10, l, [.int 6])) rfl rfl]
  rw [rm_b5 (ins := .ireturn) (v := some (.int 6)) rfl rfl rfl rfl rfl rfl]
  rfl
theorem ck_ch16 {z : Bool} {L : Nat} {xs : Nat → Int32} {l : rm_L} {h : rm_H} {x v : Int32} (hr : rm_run (pg_G z L xs) pg_fin (pg_pr z) 16 (pg_m155 z) 0 [(0, .ref 1000033), (1, .int x)] [] h = some (some (.int v), h, 0, 0)) (hv : narrow .char (.int v) = .int v) (g0 : rm_get l 0 = some (.ref 1000032)) (g1 : rm_get l 1 = some (.int x)) : rm_run (pg_G z L xs) pg_fin (pg_pr z) 23 (pg_m153 z) 0 l [] h = some (some (.int v), h, 0, 0) := by
  rw [rm_b1 (ins := .aload_n 0) rfl (ck_ld g0)]
  rw [rm_b3 (ins := .invokevirtual 492) (j := 154) (as := [.ref 1000032]) (rest := []) (M' := pg_m154 z) (h1 := h) (v := some (.int 1)) (c1 := 0) (d1 := 0) rfl rfl rfl (by cases z <;> rfl) (by cases z <;> rfl) (by cases z <;> rfl)]
  rw [rm_b1 (ins := .ifCond .eq 12) (x := (7, l, [])) rfl rfl]
  rw [rm_b1 (ins := .aload_n 0) rfl (ck_ld g0)]
  rw [rm_b2 (ins := .getfield 9) (x := (11, l, [.ref 1000033], h, 0, 0)) rfl rfl rfl]
  rw [rm_b1 (ins := .iload_n 1) rfl (ck_li g1)]
  rw [rm_b3 (ins := .invokestatic 495) (j := 155) (as := [.ref 1000033, .int x]) (rest := []) (M' := pg_m155 z) (h1 := h) (v := some (.int v)) (c1 := 0) (d1 := 0) rfl rfl rfl (by cases z <;> rfl) (by cases z <;> rfl) hr]
  have q : rm_run (pg_G z L xs) pg_fin (pg_pr z) 16 (pg_m153 z) 15 l [.int v] h = some (some (.int v), h, 0, 0) := rm_b5 (ins := .ireturn) rfl rfl rfl rfl rfl (ck_s5 z hv)
  exact (congrArg (fun r => rm_add 0 0 (rm_add 0 0 (rm_add 0 0 r))) q).trans rfl
theorem ck_in16_0 (z : Bool) (L : Nat) (xs : Nat → Int32) (h : rm_H) : rm_run (pg_G z L xs) pg_fin (pg_pr z) 16 (pg_m155 z) 0 [(0, .ref 1000033), (1, .int (Int32.ofInt ((0 : Nat) : Int)))] [] h = some (some (.int 32), h, 0, 0) := by
  cases z <;> rfl
theorem ck_in16_1 (z : Bool) (L : Nat) (xs : Nat → Int32) (h : rm_H) : rm_run (pg_G z L xs) pg_fin (pg_pr z) 16 (pg_m155 z) 0 [(0, .ref 1000033), (1, .int (Int32.ofInt ((1 : Nat) : Int)))] [] h = some (some (.int 115), h, 0, 0) := by
  cases z <;> rfl
theorem ck_in16_2 (z : Bool) (L : Nat) (xs : Nat → Int32) (h : rm_H) : rm_run (pg_G z L xs) pg_fin (pg_pr z) 16 (pg_m155 z) 0 [(0, .ref 1000033), (1, .int (Int32.ofInt ((2 : Nat) : Int)))] [] h = some (some (.int 107), h, 0, 0) := by
  cases z <;> rfl
theorem ck_in16_3 (z : Bool) (L : Nat) (xs : Nat → Int32) (h : rm_H) : rm_run (pg_G z L xs) pg_fin (pg_pr z) 16 (pg_m155 z) 0 [(0, .ref 1000033), (1, .int (Int32.ofInt ((3 : Nat) : Int)))] [] h = some (some (.int 105), h, 0, 0) := by
  cases z <;> rfl
theorem ck_in16_4 (z : Bool) (L : Nat) (xs : Nat → Int32) (h : rm_H) : rm_run (pg_G z L xs) pg_fin (pg_pr z) 16 (pg_m155 z) 0 [(0, .ref 1000033), (1, .int (Int32.ofInt ((4 : Nat) : Int)))] [] h = some (some (.int 112), h, 0, 0) := by
  cases z <;> rfl
theorem ck_in16_5 (z : Bool) (L : Nat) (xs : Nat → Int32) (h : rm_H) : rm_run (pg_G z L xs) pg_fin (pg_pr z) 16 (pg_m155 z) 0 [(0, .ref 1000033), (1, .int (Int32.ofInt ((5 : Nat) : Int)))] [] h = some (some (.int 32), h, 0, 0) := by
  cases z <;> rfl
theorem ck_at16 (z : Bool) (L : Nat) (xs : Nat → Int32) (l : rm_L) (h : rm_H) (g0 : rm_get l 0 = some (.ref 1000032)) : ∀ x : Nat, x < 6 → rm_get l 1 = some (.int (Int32.ofInt (x : Int))) → rm_run (pg_G z L xs) pg_fin (pg_pr z) 23 (pg_m153 z) 0 l [] h = some (some (.int (([32, 115, 107, 105, 112, 32] : List Int32).getD x 0)), h, 0, 0)
  | 0, _, g1 => ck_ch16 (ck_in16_0 z L xs h) rfl g0 g1
  | 1, _, g1 => ck_ch16 (ck_in16_1 z L xs h) rfl g0 g1
  | 2, _, g1 => ck_ch16 (ck_in16_2 z L xs h) rfl g0 g1
  | 3, _, g1 => ck_ch16 (ck_in16_3 z L xs h) rfl g0 g1
  | 4, _, g1 => ck_ch16 (ck_in16_4 z L xs h) rfl g0 g1
  | 5, _, g1 => ck_ch16 (ck_in16_5 z L xs h) rfl g0 g1
  | _ + 6, hx, _ => absurd hx (by omega)
theorem ck_len17 (z : Bool) (L : Nat) (xs : Nat → Int32) (l : rm_L) (h : rm_H) (g0 : rm_get l 0 = some (.ref 1000034)) : rm_run (pg_G z L xs) pg_fin (pg_pr z) 20 (pg_m151 z) 0 l [] h = some (some (.int 8), h, 0, 0) := by
  rw [rm_b1 (ins := .aload_n 0) rfl (ck_ld g0)]
  rw [rm_b2 (ins := .getfield 9) (x := (4, l, [.ref 1000035], h, 0, 0)) rfl rfl rfl]
  rw [rm_b2 (ins := .arraylength) (x := (5, l, [.int 8], h, 0, 0)) rfl rfl rfl]
  rw [rm_b1 (ins := .aload_n 0) rfl (ck_ld g0)]
  rw [rm_b3 (ins := .invokevirtual 335) (j := 152) (as := [.ref 1000034]) (rest := [.int 8]) (M' := pg_m152 z) (h1 := h) (v := some (.int 0)) (c1 := 0) (d1 := 0) rfl rfl rfl (by cases z <;> rfl) (by cases z <;> rfl) (by cases z <;> rfl)]
  rw [rm_b1 (ins := .ishr) (x := (10, l, [.int 8])) rfl rfl]
  rw [rm_b5 (ins := .ireturn) (v := some (.int 8)) rfl rfl rfl rfl rfl rfl]
  rfl
theorem ck_ch17 {z : Bool} {L : Nat} {xs : Nat → Int32} {l : rm_L} {h : rm_H} {x v : Int32} (hr : rm_run (pg_G z L xs) pg_fin (pg_pr z) 16 (pg_m155 z) 0 [(0, .ref 1000035), (1, .int x)] [] h = some (some (.int v), h, 0, 0)) (hv : narrow .char (.int v) = .int v) (g0 : rm_get l 0 = some (.ref 1000034)) (g1 : rm_get l 1 = some (.int x)) : rm_run (pg_G z L xs) pg_fin (pg_pr z) 23 (pg_m153 z) 0 l [] h = some (some (.int v), h, 0, 0) := by
  rw [rm_b1 (ins := .aload_n 0) rfl (ck_ld g0)]
  rw [rm_b3 (ins := .invokevirtual 492) (j := 154) (as := [.ref 1000034]) (rest := []) (M' := pg_m154 z) (h1 := h) (v := some (.int 1)) (c1 := 0) (d1 := 0) rfl rfl rfl (by cases z <;> rfl) (by cases z <;> rfl) (by cases z <;> rfl)]
  rw [rm_b1 (ins := .ifCond .eq 12) (x := (7, l, [])) rfl rfl]
  rw [rm_b1 (ins := .aload_n 0) rfl (ck_ld g0)]
  rw [rm_b2 (ins := .getfield 9) (x := (11, l, [.ref 1000035], h, 0, 0)) rfl rfl rfl]
  rw [rm_b1 (ins := .iload_n 1) rfl (ck_li g1)]
  rw [rm_b3 (ins := .invokestatic 495) (j := 155) (as := [.ref 1000035, .int x]) (rest := []) (M' := pg_m155 z) (h1 := h) (v := some (.int v)) (c1 := 0) (d1 := 0) rfl rfl rfl (by cases z <;> rfl) (by cases z <;> rfl) hr]
  have q : rm_run (pg_G z L xs) pg_fin (pg_pr z) 16 (pg_m153 z) 15 l [.int v] h = some (some (.int v), h, 0, 0) := rm_b5 (ins := .ireturn) rfl rfl rfl rfl rfl (ck_s5 z hv)
  exact (congrArg (fun r => rm_add 0 0 (rm_add 0 0 (rm_add 0 0 r))) q).trans rfl
theorem ck_in17_0 (z : Bool) (L : Nat) (xs : Nat → Int32) (h : rm_H) : rm_run (pg_G z L xs) pg_fin (pg_pr z) 16 (pg_m155 z) 0 [(0, .ref 1000035), (1, .int (Int32.ofInt ((0 : Nat) : Int)))] [] h = some (some (.int 32), h, 0, 0) := by
  cases z <;> rfl
theorem ck_in17_1 (z : Bool) (L : Nat) (xs : Nat → Int32) (h : rm_H) : rm_run (pg_G z L xs) pg_fin (pg_pr z) 16 (pg_m155 z) 0 [(0, .ref 1000035), (1, .int (Int32.ofInt ((1 : Nat) : Int)))] [] h = some (some (.int 118), h, 0, 0) := by
  cases z <;> rfl
theorem ck_in17_2 (z : Bool) (L : Nat) (xs : Nat → Int32) (h : rm_H) : rm_run (pg_G z L xs) pg_fin (pg_pr z) 16 (pg_m155 z) 0 [(0, .ref 1000035), (1, .int (Int32.ofInt ((2 : Nat) : Int)))] [] h = some (some (.int 111), h, 0, 0) := by
  cases z <;> rfl
theorem ck_in17_3 (z : Bool) (L : Nat) (xs : Nat → Int32) (h : rm_H) : rm_run (pg_G z L xs) pg_fin (pg_pr z) 16 (pg_m155 z) 0 [(0, .ref 1000035), (1, .int (Int32.ofInt ((3 : Nat) : Int)))] [] h = some (some (.int 108), h, 0, 0) := by
  cases z <;> rfl
theorem ck_in17_4 (z : Bool) (L : Nat) (xs : Nat → Int32) (h : rm_H) : rm_run (pg_G z L xs) pg_fin (pg_pr z) 16 (pg_m155 z) 0 [(0, .ref 1000035), (1, .int (Int32.ofInt ((4 : Nat) : Int)))] [] h = some (some (.int 117), h, 0, 0) := by
  cases z <;> rfl
theorem ck_in17_5 (z : Bool) (L : Nat) (xs : Nat → Int32) (h : rm_H) : rm_run (pg_G z L xs) pg_fin (pg_pr z) 16 (pg_m155 z) 0 [(0, .ref 1000035), (1, .int (Int32.ofInt ((5 : Nat) : Int)))] [] h = some (some (.int 109), h, 0, 0) := by
  cases z <;> rfl
theorem ck_in17_6 (z : Bool) (L : Nat) (xs : Nat → Int32) (h : rm_H) : rm_run (pg_G z L xs) pg_fin (pg_pr z) 16 (pg_m155 z) 0 [(0, .ref 1000035), (1, .int (Int32.ofInt ((6 : Nat) : Int)))] [] h = some (some (.int 101), h, 0, 0) := by
  cases z <;> rfl
theorem ck_in17_7 (z : Bool) (L : Nat) (xs : Nat → Int32) (h : rm_H) : rm_run (pg_G z L xs) pg_fin (pg_pr z) 16 (pg_m155 z) 0 [(0, .ref 1000035), (1, .int (Int32.ofInt ((7 : Nat) : Int)))] [] h = some (some (.int 32), h, 0, 0) := by
  cases z <;> rfl
theorem ck_at17 (z : Bool) (L : Nat) (xs : Nat → Int32) (l : rm_L) (h : rm_H) (g0 : rm_get l 0 = some (.ref 1000034)) : ∀ x : Nat, x < 8 → rm_get l 1 = some (.int (Int32.ofInt (x : Int))) → rm_run (pg_G z L xs) pg_fin (pg_pr z) 23 (pg_m153 z) 0 l [] h = some (some (.int (([32, 118, 111, 108, 117, 109, 101, 32] : List Int32).getD x 0)), h, 0, 0)
  | 0, _, g1 => ck_ch17 (ck_in17_0 z L xs h) rfl g0 g1
  | 1, _, g1 => ck_ch17 (ck_in17_1 z L xs h) rfl g0 g1
  | 2, _, g1 => ck_ch17 (ck_in17_2 z L xs h) rfl g0 g1
  | 3, _, g1 => ck_ch17 (ck_in17_3 z L xs h) rfl g0 g1
  | 4, _, g1 => ck_ch17 (ck_in17_4 z L xs h) rfl g0 g1
  | 5, _, g1 => ck_ch17 (ck_in17_5 z L xs h) rfl g0 g1
  | 6, _, g1 => ck_ch17 (ck_in17_6 z L xs h) rfl g0 g1
  | 7, _, g1 => ck_ch17 (ck_in17_7 z L xs h) rfl g0 g1
  | _ + 8, hx, _ => absurd hx (by omega)
theorem ck_len18 (z : Bool) (L : Nat) (xs : Nat → Int32) (l : rm_L) (h : rm_H) (g0 : rm_get l 0 = some (.ref 1000036)) : rm_run (pg_G z L xs) pg_fin (pg_pr z) 20 (pg_m151 z) 0 l [] h = some (some (.int 4), h, 0, 0) := by
  rw [rm_b1 (ins := .aload_n 0) rfl (ck_ld g0)]
  rw [rm_b2 (ins := .getfield 9) (x := (4, l, [.ref 1000037], h, 0, 0)) rfl rfl rfl]
  rw [rm_b2 (ins := .arraylength) (x := (5, l, [.int 4], h, 0, 0)) rfl rfl rfl]
  rw [rm_b1 (ins := .aload_n 0) rfl (ck_ld g0)]
  rw [rm_b3 (ins := .invokevirtual 335) (j := 152) (as := [.ref 1000036]) (rest := [.int 4]) (M' := pg_m152 z) (h1 := h) (v := some (.int 0)) (c1 := 0) (d1 := 0) rfl rfl rfl (by cases z <;> rfl) (by cases z <;> rfl) (by cases z <;> rfl)]
  rw [rm_b1 (ins := .ishr) (x := (10, l, [.int 4])) rfl rfl]
  rw [rm_b5 (ins := .ireturn) (v := some (.int 4)) rfl rfl rfl rfl rfl rfl]
  rfl
theorem ck_ch18 {z : Bool} {L : Nat} {xs : Nat → Int32} {l : rm_L} {h : rm_H} {x v : Int32} (hr : rm_run (pg_G z L xs) pg_fin (pg_pr z) 16 (pg_m155 z) 0 [(0, .ref 1000037), (1, .int x)] [] h = some (some (.int v), h, 0, 0)) (hv : narrow .char (.int v) = .int v) (g0 : rm_get l 0 = some (.ref 1000036)) (g1 : rm_get l 1 = some (.int x)) : rm_run (pg_G z L xs) pg_fin (pg_pr z) 23 (pg_m153 z) 0 l [] h = some (some (.int v), h, 0, 0) := by
  rw [rm_b1 (ins := .aload_n 0) rfl (ck_ld g0)]
  rw [rm_b3 (ins := .invokevirtual 492) (j := 154) (as := [.ref 1000036]) (rest := []) (M' := pg_m154 z) (h1 := h) (v := some (.int 1)) (c1 := 0) (d1 := 0) rfl rfl rfl (by cases z <;> rfl) (by cases z <;> rfl) (by cases z <;> rfl)]
  rw [rm_b1 (ins := .ifCond .eq 12) (x := (7, l, [])) rfl rfl]
  rw [rm_b1 (ins := .aload_n 0) rfl (ck_ld g0)]
  rw [rm_b2 (ins := .getfield 9) (x := (11, l, [.ref 1000037], h, 0, 0)) rfl rfl rfl]
  rw [rm_b1 (ins := .iload_n 1) rfl (ck_li g1)]
  rw [rm_b3 (ins := .invokestatic 495) (j := 155) (as := [.ref 1000037, .int x]) (rest := []) (M' := pg_m155 z) (h1 := h) (v := some (.int v)) (c1 := 0) (d1 := 0) rfl rfl rfl (by cases z <;> rfl) (by cases z <;> rfl) hr]
  have q : rm_run (pg_G z L xs) pg_fin (pg_pr z) 16 (pg_m153 z) 15 l [.int v] h = some (some (.int v), h, 0, 0) := rm_b5 (ins := .ireturn) rfl rfl rfl rfl rfl (ck_s5 z hv)
  exact (congrArg (fun r => rm_add 0 0 (rm_add 0 0 (rm_add 0 0 r))) q).trans rfl
theorem ck_in18_0 (z : Bool) (L : Nat) (xs : Nat → Int32) (h : rm_H) : rm_run (pg_G z L xs) pg_fin (pg_pr z) 16 (pg_m155 z) 0 [(0, .ref 1000037), (1, .int (Int32.ofInt ((0 : Nat) : Int)))] [] h = some (some (.int 109), h, 0, 0) := by
  cases z <;> rfl
theorem ck_in18_1 (z : Bool) (L : Nat) (xs : Nat → Int32) (h : rm_H) : rm_run (pg_G z L xs) pg_fin (pg_pr z) 16 (pg_m155 z) 0 [(0, .ref 1000037), (1, .int (Int32.ofInt ((1 : Nat) : Int)))] [] h = some (some (.int 117), h, 0, 0) := by
  cases z <;> rfl
theorem ck_in18_2 (z : Bool) (L : Nat) (xs : Nat → Int32) (h : rm_H) : rm_run (pg_G z L xs) pg_fin (pg_pr z) 16 (pg_m155 z) 0 [(0, .ref 1000037), (1, .int (Int32.ofInt ((2 : Nat) : Int)))] [] h = some (some (.int 115), h, 0, 0) := by
  cases z <;> rfl
theorem ck_in18_3 (z : Bool) (L : Nat) (xs : Nat → Int32) (h : rm_H) : rm_run (pg_G z L xs) pg_fin (pg_pr z) 16 (pg_m155 z) 0 [(0, .ref 1000037), (1, .int (Int32.ofInt ((3 : Nat) : Int)))] [] h = some (some (.int 116), h, 0, 0) := by
  cases z <;> rfl
theorem ck_at18 (z : Bool) (L : Nat) (xs : Nat → Int32) (l : rm_L) (h : rm_H) (g0 : rm_get l 0 = some (.ref 1000036)) : ∀ x : Nat, x < 4 → rm_get l 1 = some (.int (Int32.ofInt (x : Int))) → rm_run (pg_G z L xs) pg_fin (pg_pr z) 23 (pg_m153 z) 0 l [] h = some (some (.int (([109, 117, 115, 116] : List Int32).getD x 0)), h, 0, 0)
  | 0, _, g1 => ck_ch18 (ck_in18_0 z L xs h) rfl g0 g1
  | 1, _, g1 => ck_ch18 (ck_in18_1 z L xs h) rfl g0 g1
  | 2, _, g1 => ck_ch18 (ck_in18_2 z L xs h) rfl g0 g1
  | 3, _, g1 => ck_ch18 (ck_in18_3 z L xs h) rfl g0 g1
  | _ + 4, hx, _ => absurd hx (by omega)
theorem ck_len19 (z : Bool) (L : Nat) (xs : Nat → Int32) (l : rm_L) (h : rm_H) (g0 : rm_get l 0 = some (.ref 1000038)) : rm_run (pg_G z L xs) pg_fin (pg_pr z) 20 (pg_m151 z) 0 l [] h = some (some (.int 5), h, 0, 0) := by
  rw [rm_b1 (ins := .aload_n 0) rfl (ck_ld g0)]
  rw [rm_b2 (ins := .getfield 9) (x := (4, l, [.ref 1000039], h, 0, 0)) rfl rfl rfl]
  rw [rm_b2 (ins := .arraylength) (x := (5, l, [.int 5], h, 0, 0)) rfl rfl rfl]
  rw [rm_b1 (ins := .aload_n 0) rfl (ck_ld g0)]
  rw [rm_b3 (ins := .invokevirtual 335) (j := 152) (as := [.ref 1000038]) (rest := [.int 5]) (M' := pg_m152 z) (h1 := h) (v := some (.int 0)) (c1 := 0) (d1 := 0) rfl rfl rfl (by cases z <;> rfl) (by cases z <;> rfl) (by cases z <;> rfl)]
  rw [rm_b1 (ins := .ishr) (x := (10, l, [.int 5])) rfl rfl]
  rw [rm_b5 (ins := .ireturn) (v := some (.int 5)) rfl rfl rfl rfl rfl rfl]
  rfl
theorem ck_ch19 {z : Bool} {L : Nat} {xs : Nat → Int32} {l : rm_L} {h : rm_H} {x v : Int32} (hr : rm_run (pg_G z L xs) pg_fin (pg_pr z) 16 (pg_m155 z) 0 [(0, .ref 1000039), (1, .int x)] [] h = some (some (.int v), h, 0, 0)) (hv : narrow .char (.int v) = .int v) (g0 : rm_get l 0 = some (.ref 1000038)) (g1 : rm_get l 1 = some (.int x)) : rm_run (pg_G z L xs) pg_fin (pg_pr z) 23 (pg_m153 z) 0 l [] h = some (some (.int v), h, 0, 0) := by
  rw [rm_b1 (ins := .aload_n 0) rfl (ck_ld g0)]
  rw [rm_b3 (ins := .invokevirtual 492) (j := 154) (as := [.ref 1000038]) (rest := []) (M' := pg_m154 z) (h1 := h) (v := some (.int 1)) (c1 := 0) (d1 := 0) rfl rfl rfl (by cases z <;> rfl) (by cases z <;> rfl) (by cases z <;> rfl)]
  rw [rm_b1 (ins := .ifCond .eq 12) (x := (7, l, [])) rfl rfl]
  rw [rm_b1 (ins := .aload_n 0) rfl (ck_ld g0)]
  rw [rm_b2 (ins := .getfield 9) (x := (11, l, [.ref 1000039], h, 0, 0)) rfl rfl rfl]
  rw [rm_b1 (ins := .iload_n 1) rfl (ck_li g1)]
  rw [rm_b3 (ins := .invokestatic 495) (j := 155) (as := [.ref 1000039, .int x]) (rest := []) (M' := pg_m155 z) (h1 := h) (v := some (.int v)) (c1 := 0) (d1 := 0) rfl rfl rfl (by cases z <;> rfl) (by cases z <;> rfl) hr]
  have q : rm_run (pg_G z L xs) pg_fin (pg_pr z) 16 (pg_m153 z) 15 l [.int v] h = some (some (.int v), h, 0, 0) := rm_b5 (ins := .ireturn) rfl rfl rfl rfl rfl (ck_s5 z hv)
  exact (congrArg (fun r => rm_add 0 0 (rm_add 0 0 (rm_add 0 0 r))) q).trans rfl
theorem ck_in19_0 (z : Bool) (L : Nat) (xs : Nat → Int32) (h : rm_H) : rm_run (pg_G z L xs) pg_fin (pg_pr z) 16 (pg_m155 z) 0 [(0, .ref 1000039), (1, .int (Int32.ofInt ((0 : Nat) : Int)))] [] h = some (some (.int 109), h, 0, 0) := by
  cases z <;> rfl
theorem ck_in19_1 (z : Bool) (L : Nat) (xs : Nat → Int32) (h : rm_H) : rm_run (pg_G z L xs) pg_fin (pg_pr z) 16 (pg_m155 z) 0 [(0, .ref 1000039), (1, .int (Int32.ofInt ((1 : Nat) : Int)))] [] h = some (some (.int 111), h, 0, 0) := by
  cases z <;> rfl
theorem ck_in19_2 (z : Bool) (L : Nat) (xs : Nat → Int32) (h : rm_H) : rm_run (pg_G z L xs) pg_fin (pg_pr z) 16 (pg_m155 z) 0 [(0, .ref 1000039), (1, .int (Int32.ofInt ((2 : Nat) : Int)))] [] h = some (some (.int 115), h, 0, 0) := by
  cases z <;> rfl
theorem ck_in19_3 (z : Bool) (L : Nat) (xs : Nat → Int32) (h : rm_H) : rm_run (pg_G z L xs) pg_fin (pg_pr z) 16 (pg_m155 z) 0 [(0, .ref 1000039), (1, .int (Int32.ofInt ((3 : Nat) : Int)))] [] h = some (some (.int 116), h, 0, 0) := by
  cases z <;> rfl
theorem ck_in19_4 (z : Bool) (L : Nat) (xs : Nat → Int32) (h : rm_H) : rm_run (pg_G z L xs) pg_fin (pg_pr z) 16 (pg_m155 z) 0 [(0, .ref 1000039), (1, .int (Int32.ofInt ((4 : Nat) : Int)))] [] h = some (some (.int 32), h, 0, 0) := by
  cases z <;> rfl
theorem ck_at19 (z : Bool) (L : Nat) (xs : Nat → Int32) (l : rm_L) (h : rm_H) (g0 : rm_get l 0 = some (.ref 1000038)) : ∀ x : Nat, x < 5 → rm_get l 1 = some (.int (Int32.ofInt (x : Int))) → rm_run (pg_G z L xs) pg_fin (pg_pr z) 23 (pg_m153 z) 0 l [] h = some (some (.int (([109, 111, 115, 116, 32] : List Int32).getD x 0)), h, 0, 0)
  | 0, _, g1 => ck_ch19 (ck_in19_0 z L xs h) rfl g0 g1
  | 1, _, g1 => ck_ch19 (ck_in19_1 z L xs h) rfl g0 g1
  | 2, _, g1 => ck_ch19 (ck_in19_2 z L xs h) rfl g0 g1
  | 3, _, g1 => ck_ch19 (ck_in19_3 z L xs h) rfl g0 g1
  | 4, _, g1 => ck_ch19 (ck_in19_4 z L xs h) rfl g0 g1
  | _ + 5, hx, _ => absurd hx (by omega)
theorem ck_len20 (z : Bool) (L : Nat) (xs : Nat → Int32) (l : rm_L) (h : rm_H) (g0 : rm_get l 0 = some (.ref 1000040)) : rm_run (pg_G z L xs) pg_fin (pg_pr z) 20 (pg_m151 z) 0 l [] h = some (some (.int 4), h, 0, 0) := by
  rw [rm_b1 (ins := .aload_n 0) rfl (ck_ld g0)]
  rw [rm_b2 (ins := .getfield 9) (x := (4, l, [.ref 1000041], h, 0, 0)) rfl rfl rfl]
  rw [rm_b2 (ins := .arraylength) (x := (5, l, [.int 4], h, 0, 0)) rfl rfl rfl]
  rw [rm_b1 (ins := .aload_n 0) rfl (ck_ld g0)]
  rw [rm_b3 (ins := .invokevirtual 335) (j := 152) (as := [.ref 1000040]) (rest := [.int 4]) (M' := pg_m152 z) (h1 := h) (v := some (.int 0)) (c1 := 0) (d1 := 0) rfl rfl rfl (by cases z <;> rfl) (by cases z <;> rfl) (by cases z <;> rfl)]
  rw [rm_b1 (ins := .ishr) (x := (10, l, [.int 4])) rfl rfl]
  rw [rm_b5 (ins := .ireturn) (v := some (.int 4)) rfl rfl rfl rfl rfl rfl]
  rfl
theorem ck_ch20 {z : Bool} {L : Nat} {xs : Nat → Int32} {l : rm_L} {h : rm_H} {x v : Int32} (hr : rm_run (pg_G z L xs) pg_fin (pg_pr z) 16 (pg_m155 z) 0 [(0, .ref 1000041), (1, .int x)] [] h = some (some (.int v), h, 0, 0)) (hv : narrow .char (.int v) = .int v) (g0 : rm_get l 0 = some (.ref 1000040)) (g1 : rm_get l 1 = some (.int x)) : rm_run (pg_G z L xs) pg_fin (pg_pr z) 23 (pg_m153 z) 0 l [] h = some (some (.int v), h, 0, 0) := by
  rw [rm_b1 (ins := .aload_n 0) rfl (ck_ld g0)]
  rw [rm_b3 (ins := .invokevirtual 492) (j := 154) (as := [.ref 1000040]) (rest := []) (M' := pg_m154 z) (h1 := h) (v := some (.int 1)) (c1 := 0) (d1 := 0) rfl rfl rfl (by cases z <;> rfl) (by cases z <;> rfl) (by cases z <;> rfl)]
  rw [rm_b1 (ins := .ifCond .eq 12) (x := (7, l, [])) rfl rfl]
  rw [rm_b1 (ins := .aload_n 0) rfl (ck_ld g0)]
  rw [rm_b2 (ins := .getfield 9) (x := (11, l, [.ref 1000041], h, 0, 0)) rfl rfl rfl]
  rw [rm_b1 (ins := .iload_n 1) rfl (ck_li g1)]
  rw [rm_b3 (ins := .invokestatic 495) (j := 155) (as := [.ref 1000041, .int x]) (rest := []) (M' := pg_m155 z) (h1 := h) (v := some (.int v)) (c1 := 0) (d1 := 0) rfl rfl rfl (by cases z <;> rfl) (by cases z <;> rfl) hr]
  have q : rm_run (pg_G z L xs) pg_fin (pg_pr z) 16 (pg_m153 z) 15 l [.int v] h = some (some (.int v), h, 0, 0) := rm_b5 (ins := .ireturn) rfl rfl rfl rfl rfl (ck_s5 z hv)
  exact (congrArg (fun r => rm_add 0 0 (rm_add 0 0 (rm_add 0 0 r))) q).trans rfl
theorem ck_in20_0 (z : Bool) (L : Nat) (xs : Nat → Int32) (h : rm_H) : rm_run (pg_G z L xs) pg_fin (pg_pr z) 16 (pg_m155 z) 0 [(0, .ref 1000041), (1, .int (Int32.ofInt ((0 : Nat) : Int)))] [] h = some (some (.int 111), h, 0, 0) := by
  cases z <;> rfl
theorem ck_in20_1 (z : Bool) (L : Nat) (xs : Nat → Int32) (h : rm_H) : rm_run (pg_G z L xs) pg_fin (pg_pr z) 16 (pg_m155 z) 0 [(0, .ref 1000041), (1, .int (Int32.ofInt ((1 : Nat) : Int)))] [] h = some (some (.int 110), h, 0, 0) := by
  cases z <;> rfl
theorem ck_in20_2 (z : Bool) (L : Nat) (xs : Nat → Int32) (h : rm_H) : rm_run (pg_G z L xs) pg_fin (pg_pr z) 16 (pg_m155 z) 0 [(0, .ref 1000041), (1, .int (Int32.ofInt ((2 : Nat) : Int)))] [] h = some (some (.int 99), h, 0, 0) := by
  cases z <;> rfl
theorem ck_in20_3 (z : Bool) (L : Nat) (xs : Nat → Int32) (h : rm_H) : rm_run (pg_G z L xs) pg_fin (pg_pr z) 16 (pg_m155 z) 0 [(0, .ref 1000041), (1, .int (Int32.ofInt ((3 : Nat) : Int)))] [] h = some (some (.int 101), h, 0, 0) := by
  cases z <;> rfl
theorem ck_at20 (z : Bool) (L : Nat) (xs : Nat → Int32) (l : rm_L) (h : rm_H) (g0 : rm_get l 0 = some (.ref 1000040)) : ∀ x : Nat, x < 4 → rm_get l 1 = some (.int (Int32.ofInt (x : Int))) → rm_run (pg_G z L xs) pg_fin (pg_pr z) 23 (pg_m153 z) 0 l [] h = some (some (.int (([111, 110, 99, 101] : List Int32).getD x 0)), h, 0, 0)
  | 0, _, g1 => ck_ch20 (ck_in20_0 z L xs h) rfl g0 g1
  | 1, _, g1 => ck_ch20 (ck_in20_1 z L xs h) rfl g0 g1
  | 2, _, g1 => ck_ch20 (ck_in20_2 z L xs h) rfl g0 g1
  | 3, _, g1 => ck_ch20 (ck_in20_3 z L xs h) rfl g0 g1
  | _ + 4, hx, _ => absurd hx (by omega)
theorem ck_len21 (z : Bool) (L : Nat) (xs : Nat → Int32) (l : rm_L) (h : rm_H) (g0 : rm_get l 0 = some (.ref 1000042)) : rm_run (pg_G z L xs) pg_fin (pg_pr z) 20 (pg_m151 z) 0 l [] h = some (some (.int 4), h, 0, 0) := by
  rw [rm_b1 (ins := .aload_n 0) rfl (ck_ld g0)]
  rw [rm_b2 (ins := .getfield 9) (x := (4, l, [.ref 1000043], h, 0, 0)) rfl rfl rfl]
  rw [rm_b2 (ins := .arraylength) (x := (5, l, [.int 4], h, 0, 0)) rfl rfl rfl]
  rw [rm_b1 (ins := .aload_n 0) rfl (ck_ld g0)]
  rw [rm_b3 (ins := .invokevirtual 335) (j := 152) (as := [.ref 1000042]) (rest := [.int 4]) (M' := pg_m152 z) (h1 := h) (v := some (.int 0)) (c1 := 0) (d1 := 0) rfl rfl rfl (by cases z <;> rfl) (by cases z <;> rfl) (by cases z <;> rfl)]
  rw [rm_b1 (ins := .ishr) (x := (10, l, [.int 4])) rfl rfl]
  rw [rm_b5 (ins := .ireturn) (v := some (.int 4)) rfl rfl rfl rfl rfl rfl]
  rfl
theorem ck_ch21 {z : Bool} {L : Nat} {xs : Nat → Int32} {l : rm_L} {h : rm_H} {x v : Int32} (hr : rm_run (pg_G z L xs) pg_fin (pg_pr z) 16 (pg_m155 z) 0 [(0, .ref 1000043), (1, .int x)] [] h = some (some (.int v), h, 0, 0)) (hv : narrow .char (.int v) = .int v) (g0 : rm_get l 0 = some (.ref 1000042)) (g1 : rm_get l 1 = some (.int x)) : rm_run (pg_G z L xs) pg_fin (pg_pr z) 23 (pg_m153 z) 0 l [] h = some (some (.int v), h, 0, 0) := by
  rw [rm_b1 (ins := .aload_n 0) rfl (ck_ld g0)]
  rw [rm_b3 (ins := .invokevirtual 492) (j := 154) (as := [.ref 1000042]) (rest := []) (M' := pg_m154 z) (h1 := h) (v := some (.int 1)) (c1 := 0) (d1 := 0) rfl rfl rfl (by cases z <;> rfl) (by cases z <;> rfl) (by cases z <;> rfl)]
  rw [rm_b1 (ins := .ifCond .eq 12) (x := (7, l, [])) rfl rfl]
  rw [rm_b1 (ins := .aload_n 0) rfl (ck_ld g0)]
  rw [rm_b2 (ins := .getfield 9) (x := (11, l, [.ref 1000043], h, 0, 0)) rfl rfl rfl]
  rw [rm_b1 (ins := .iload_n 1) rfl (ck_li g1)]
  rw [rm_b3 (ins := .invokestatic 495) (j := 155) (as := [.ref 1000043, .int x]) (rest := []) (M' := pg_m155 z) (h1 := h) (v := some (.int v)) (c1 := 0) (d1 := 0) rfl rfl rfl (by cases z <;> rfl) (by cases z <;> rfl) hr]
  have q : rm_run (pg_G z L xs) pg_fin (pg_pr z) 16 (pg_m153 z) 15 l [.int v] h = some (some (.int v), h, 0, 0) := rm_b5 (ins := .ireturn) rfl rfl rfl rfl rfl (ck_s5 z hv)
  exact (congrArg (fun r => rm_add 0 0 (rm_add 0 0 (rm_add 0 0 r))) q).trans rfl
theorem ck_in21_0 (z : Bool) (L : Nat) (xs : Nat → Int32) (h : rm_H) : rm_run (pg_G z L xs) pg_fin (pg_pr z) 16 (pg_m155 z) 0 [(0, .ref 1000043), (1, .int (Int32.ofInt ((0 : Nat) : Int)))] [] h = some (some (.int 104), h, 0, 0) := by
  cases z <;> rfl
theorem ck_in21_1 (z : Bool) (L : Nat) (xs : Nat → Int32) (h : rm_H) : rm_run (pg_G z L xs) pg_fin (pg_pr z) 16 (pg_m155 z) 0 [(0, .ref 1000043), (1, .int (Int32.ofInt ((1 : Nat) : Int)))] [] h = some (some (.int 97), h, 0, 0) := by
  cases z <;> rfl
theorem ck_in21_2 (z : Bool) (L : Nat) (xs : Nat → Int32) (h : rm_H) : rm_run (pg_G z L xs) pg_fin (pg_pr z) 16 (pg_m155 z) 0 [(0, .ref 1000043), (1, .int (Int32.ofInt ((2 : Nat) : Int)))] [] h = some (some (.int 115), h, 0, 0) := by
  cases z <;> rfl
theorem ck_in21_3 (z : Bool) (L : Nat) (xs : Nat → Int32) (h : rm_H) : rm_run (pg_G z L xs) pg_fin (pg_pr z) 16 (pg_m155 z) 0 [(0, .ref 1000043), (1, .int (Int32.ofInt ((3 : Nat) : Int)))] [] h = some (some (.int 32), h, 0, 0) := by
  cases z <;> rfl
theorem ck_at21 (z : Bool) (L : Nat) (xs : Nat → Int32) (l : rm_L) (h : rm_H) (g0 : rm_get l 0 = some (.ref 1000042)) : ∀ x : Nat, x < 4 → rm_get l 1 = some (.int (Int32.ofInt (x : Int))) → rm_run (pg_G z L xs) pg_fin (pg_pr z) 23 (pg_m153 z) 0 l [] h = some (some (.int (([104, 97, 115, 32] : List Int32).getD x 0)), h, 0, 0)
  | 0, _, g1 => ck_ch21 (ck_in21_0 z L xs h) rfl g0 g1
  | 1, _, g1 => ck_ch21 (ck_in21_1 z L xs h) rfl g0 g1
  | 2, _, g1 => ck_ch21 (ck_in21_2 z L xs h) rfl g0 g1
  | 3, _, g1 => ck_ch21 (ck_in21_3 z L xs h) rfl g0 g1
  | _ + 4, hx, _ => absurd hx (by omega)
theorem ck_len22 (z : Bool) (L : Nat) (xs : Nat → Int32) (l : rm_L) (h : rm_H) (g0 : rm_get l 0 = some (.ref 1000044)) : rm_run (pg_G z L xs) pg_fin (pg_pr z) 20 (pg_m151 z) 0 l [] h = some (some (.int 2), h, 0, 0) := by
  rw [rm_b1 (ins := .aload_n 0) rfl (ck_ld g0)]
  rw [rm_b2 (ins := .getfield 9) (x := (4, l, [.ref 1000045], h, 0, 0)) rfl rfl rfl]
  rw [rm_b2 (ins := .arraylength) (x := (5, l, [.int 2], h, 0, 0)) rfl rfl rfl]
  rw [rm_b1 (ins := .aload_n 0) rfl (ck_ld g0)]
  rw [rm_b3 (ins := .invokevirtual 335) (j := 152) (as := [.ref 1000044]) (rest := [.int 2]) (M' := pg_m152 z) (h1 := h) (v := some (.int 0)) (c1 := 0) (d1 := 0) rfl rfl rfl (by cases z <;> rfl) (by cases z <;> rfl) (by cases z <;> rfl)]
  rw [rm_b1 (ins := .ishr) (x := (10, l, [.int 2])) rfl rfl]
  rw [rm_b5 (ins := .ireturn) (v := some (.int 2)) rfl rfl rfl rfl rfl rfl]
  rfl
theorem ck_ch22 {z : Bool} {L : Nat} {xs : Nat → Int32} {l : rm_L} {h : rm_H} {x v : Int32} (hr : rm_run (pg_G z L xs) pg_fin (pg_pr z) 16 (pg_m155 z) 0 [(0, .ref 1000045), (1, .int x)] [] h = some (some (.int v), h, 0, 0)) (hv : narrow .char (.int v) = .int v) (g0 : rm_get l 0 = some (.ref 1000044)) (g1 : rm_get l 1 = some (.int x)) : rm_run (pg_G z L xs) pg_fin (pg_pr z) 23 (pg_m153 z) 0 l [] h = some (some (.int v), h, 0, 0) := by
  rw [rm_b1 (ins := .aload_n 0) rfl (ck_ld g0)]
  rw [rm_b3 (ins := .invokevirtual 492) (j := 154) (as := [.ref 1000044]) (rest := []) (M' := pg_m154 z) (h1 := h) (v := some (.int 1)) (c1 := 0) (d1 := 0) rfl rfl rfl (by cases z <;> rfl) (by cases z <;> rfl) (by cases z <;> rfl)]
  rw [rm_b1 (ins := .ifCond .eq 12) (x := (7, l, [])) rfl rfl]
  rw [rm_b1 (ins := .aload_n 0) rfl (ck_ld g0)]
  rw [rm_b2 (ins := .getfield 9) (x := (11, l, [.ref 1000045], h, 0, 0)) rfl rfl rfl]
  rw [rm_b1 (ins := .iload_n 1) rfl (ck_li g1)]
  rw [rm_b3 (ins := .invokestatic 495) (j := 155) (as := [.ref 1000045, .int x]) (rest := []) (M' := pg_m155 z) (h1 := h) (v := some (.int v)) (c1 := 0) (d1 := 0) rfl rfl rfl (by cases z <;> rfl) (by cases z <;> rfl) hr]
  have q : rm_run (pg_G z L xs) pg_fin (pg_pr z) 16 (pg_m153 z) 15 l [.int v] h = some (some (.int v), h, 0, 0) := rm_b5 (ins := .ireturn) rfl rfl rfl rfl rfl (ck_s5 z hv)
  exact (congrArg (fun r => rm_add 0 0 (rm_add 0 0 (rm_add 0 0 r))) q).trans rfl
theorem ck_in22_0 (z : Bool) (L : Nat) (xs : Nat → Int32) (h : rm_H) : rm_run (pg_G z L xs) pg_fin (pg_pr z) 16 (pg_m155 z) 0 [(0, .ref 1000045), (1, .int (Int32.ofInt ((0 : Nat) : Int)))] [] h = some (some (.int 32), h, 0, 0) := by
  cases z <;> rfl
theorem ck_in22_1 (z : Bool) (L : Nat) (xs : Nat → Int32) (h : rm_H) : rm_run (pg_G z L xs) pg_fin (pg_pr z) 16 (pg_m155 z) 0 [(0, .ref 1000045), (1, .int (Int32.ofInt ((1 : Nat) : Int)))] [] h = some (some (.int 35), h, 0, 0) := by
  cases z <;> rfl
theorem ck_at22 (z : Bool) (L : Nat) (xs : Nat → Int32) (l : rm_L) (h : rm_H) (g0 : rm_get l 0 = some (.ref 1000044)) : ∀ x : Nat, x < 2 → rm_get l 1 = some (.int (Int32.ofInt (x : Int))) → rm_run (pg_G z L xs) pg_fin (pg_pr z) 23 (pg_m153 z) 0 l [] h = some (some (.int (([32, 35] : List Int32).getD x 0)), h, 0, 0)
  | 0, _, g1 => ck_ch22 (ck_in22_0 z L xs h) rfl g0 g1
  | 1, _, g1 => ck_ch22 (ck_in22_1 z L xs h) rfl g0 g1
  | _ + 2, hx, _ => absurd hx (by omega)
theorem ck_at (z : Bool) (L : Nat) (xs : Nat → Int32) (l : rm_L) (h : rm_H) (x : Nat) (g1 : rm_get l 1 = some (.int (Int32.ofInt (x : Int)))) : ∀ i : Nat, i < 23 → x < (pg_str.getD i []).length → rm_get l 0 = some (.ref (1000000 + 2 * i)) → rm_run (pg_G z L xs) pg_fin (pg_pr z) 23 (pg_m153 z) 0 l [] h = some (some (.int ((pg_str.getD i []).getD x 0)), h, 0, 0)
  | 0, _, hx, g0 => ck_at0 z L xs l h g0 x hx g1
  | 1, _, hx, g0 => ck_at1 z L xs l h g0 x hx g1
  | 2, _, hx, g0 => ck_at2 z L xs l h g0 x hx g1
  | 3, _, hx, g0 => ck_at3 z L xs l h g0 x hx g1
  | 4, _, hx, g0 => ck_at4 z L xs l h g0 x hx g1
  | 5, _, hx, g0 => ck_at5 z L xs l h g0 x hx g1
  | 6, _, hx, g0 => ck_at6 z L xs l h g0 x hx g1
  | 7, _, hx, g0 => ck_at7 z L xs l h g0 x hx g1
  | 8, _, hx, g0 => ck_at8 z L xs l h g0 x hx g1
  | 9, _, hx, g0 => ck_at9 z L xs l h g0 x hx g1
  | 10, _, hx, g0 => ck_at10 z L xs l h g0 x hx g1
  | 11, _, hx, g0 => ck_at11 z L xs l h g0 x hx g1
  | 12, _, hx, g0 => ck_at12 z L xs l h g0 x hx g1
  | 13, _, hx, g0 => ck_at13 z L xs l h g0 x hx g1
  | 14, _, hx, g0 => ck_at14 z L xs l h g0 x hx g1
  | 15, _, hx, g0 => ck_at15 z L xs l h g0 x hx g1
  | 16, _, hx, g0 => ck_at16 z L xs l h g0 x hx g1
  | 17, _, hx, g0 => ck_at17 z L xs l h g0 x hx g1
  | 18, _, hx, g0 => ck_at18 z L xs l h g0 x hx g1
  | 19, _, hx, g0 => ck_at19 z L xs l h g0 x hx g1
  | 20, _, hx, g0 => ck_at20 z L xs l h g0 x hx g1
  | 21, _, hx, g0 => ck_at21 z L xs l h g0 x hx g1
  | 22, _, hx, g0 => ck_at22 z L xs l h g0 x hx g1
  | _ + 23, hi, _, _ => absurd hi (by omega)
theorem ck_sl {T : w_T} {e : w_E} {B a : Nat} {c : Int32} {v : Int} {S : w_S} {Q : Option w_V → w_S → Prop} (hr : ∀ (l : rm_L) (h : rm_H), rm_get l 0 = some (.ref a) → rm_run (pg_G e.1 e.2.1 e.2.2) pg_fin (pg_pr e.1) 20 (pg_m151 e.1) 0 l [] h = some (some (.int c), h, 0, 0)) (hc : Int32.ofInt v = c) (hv : w_n v) (hq : Q (some (w_i v)) S) : X T e B m_String_length 0 [(0, w_s a)] [] S Q := by
  intro hl hs l hin h hh
  have g0 : rm_get l 0 = some (.ref a) := w_in_get (v := .inr (.inl a)) hin rfl
  refine ⟨20, some (.inl v), h, S, 0, 0, ?_, hh, rfl, rfl, fun u hu => by cases hu; exact hv, w_fr.refl T B S, w_hf.refl T B h, hq⟩
  rw [← hc] at hr
  exact hr l h g0
abbrev m_String_charAt : Bool → rm_M := pg_m153
def E_String_charAt (a : Nat) (x : Int) (S : w_S) : e_R := if (Nat.ble rm_K a && (Nat.beq ((a - rm_K) % 2) 0 && (Nat.blt ((a - rm_K) / 2) 23 && w_ib x ((pg_str.getD ((a - rm_K) / 2) []).length : Int)))) = true then some (((pg_str.getD ((a - rm_K) / 2) []).getD x.toNat 0).toInt, S) else none
theorem z_String_charAt {T : w_T} {e : w_E} {B a : Nat} {x : Int} {S : w_S} {v : Int} {S' : w_S} {Q : Option w_V → w_S → Prop} (h : E_String_charAt a x S = some (v, S')) (hq : Q (some (w_i v)) S') : X T e B m_String_charAt 0 [(0, w_s a), (1, w_i x)] [] S Q := by
  unfold E_String_charAt at h
  split at h
  next hc =>
    simp only [Bool.and_eq_true] at hc
    obtain ⟨h1, h2, h3, h4⟩ := hc
    have h1 := Nat.le_of_ble_eq_true h1
    have h2 := Nat.eq_of_beq_eq_true h2
    have h3 : (a - rm_K) / 2 < 23 := Nat.le_of_ble_eq_true h3
    generalize hi : (a - rm_K) / 2 = i at h h3 h4
    have ha : a = 1000000 + 2 * i := by unfold rm_K at h1 h2 hi; omega
    obtain ⟨h4, h5⟩ := ck_ib h4
    obtain ⟨k, rfl⟩ := Int.eq_ofNat_of_zero_le h4
    cases h
    intro hl hs l hin h hh
    have g0 : rm_get l 0 = some (.ref (1000000 + 2 * i)) := by rw [← ha]; exact w_in_get (v := .inr (.inl a)) hin rfl
    have g1 : rm_get l 1 = some (.int (Int32.ofInt (k : Int))) := w_in_get (v := .inl (k : Int)) hin rfl
    refine ⟨23, some (.inl _), h, S, 0, 0, ?_, hh, rfl, rfl, fun u hu => by cases hu; exact ck_n32 _, w_fr.refl T B S, w_hf.refl T B h, hq⟩
    refine (ck_at e.1 e.2.1 e.2.2 l h k g1 i h3 (by omega) g0).trans ?_
    simp only [Option.map_some, w_v, Int32.ofInt_toInt, Int.toNat_natCast]
  next => cases h
