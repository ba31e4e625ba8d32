section
-- bi
/-- a small word of 12 bytes at most -/
def pS (G : Int → Int) (q : Int) : Int := if q < 0 then q else if nw cdb G 12 q = 0 then -1 - q else q + (nw cdb G 12 q : Nat)
theorem l_takeSmall {e : w_E} {N : Nat} {S : w_S} {f len w p : Int} {G : Int → Int} (h : TX S f len G) (h0 : 0 ≤ p) : ∀ (k i nf : Nat), i + k = 12 → k < nf → p + i ≤ len → El_Tape_takeSmallWord e N nf 0 [f + p] [] (tp S (f + p + i) w) = some (w_or (w_shl (f + p) 6) ((i + nw cdb G k (p + i) : Nat) : Int), tp S (f + p + (i + nw cdb G k (p + i) : Nat)) (if w = -1 ∧ i + nw cdb G k (p + i) = 0 then p else w))
  | k, i, nf + 1, h1, h2, hl => by
    have hh := h
    obtain ⟨g1, g2, g3, g4, g5, g6, g7⟩ := hh
    have ta := tx_at h (p := p + i) (by omega)
    rw [show f + (p + (i : Int)) = f + p + i by omega] at ta
    clear g7
    by_cases c : k ≠ 0 ∧ cdb (G (p + i)) = true
    · obtain ⟨k', rfl⟩ : ∃ c, k = c + 1 := ⟨k - 1, by omega⟩
      have c2 := c.2
      rw [cdb_iff] at c2
      have tl : p + i < len := by
        by_cases z : p + i < len
        · exact z
        · have := ta.2 (by omega)
          omega
      have tb := ta.1 tl
      have tc : G (p + i) = S.1 2 (f + p + i).toNat := by omega
      have ih := l_takeSmall (e := e) (N := N) (w := w) h h0 k' (i + 1) nf (by omega) (by omega) (by omega)
      rw [nw, if_pos c.2]
      rw [tc] at c2
      rw [show i + 1 + nw cdb G k' (p + ((i + 1 : Nat) : Int)) = i + (nw cdb G k' (p + i + 1) + 1) by rw [show p + ((i + 1 : Nat) : Int) = p + i + 1 by omega]; omega] at ih
      rw [show f + p + ((i + 1 : Nat) : Int) = f + p + i + 1 by omega] at ih
      refine ok_eq ?_
      rw [El_Tape_takeSmallWord, tp4, tp5, tp3, tp6, tp_2, g2, tp_p4]
      clear ta tb c g1 g2
      clear tc
      rcases c2 with c2 | c2
      all_goals repeat' (first | (with_reducible refine ok_of ih ?_) | with_reducible refine ok_nb (by omega) ?_ | with_reducible refine ok_ib (by omega) ?_ | with_reducible refine ok_t (by omega) ?_ | with_reducible refine ok_e (by omega) ?_ | with_reducible refine ok_if (fun h => ?_) (fun h => ?_) | with_reducible refine ok_s ?_ | with_reducible refine ok_b ?_)
      all_goals first | exact ⟨rfl, rfl⟩ | (exfalso; omega)
    · have n0 : nw cdb G k (p + i) = 0 := by
        cases k with
        | zero => rfl
        | succ k' =>
          rw [nw, if_neg (fun z => c ⟨by omega, z⟩)]
      rw [n0, show i + 0 = i from rfl]
      have kx : f + len ≤ f + p + i ∨ (f + p + i < f + len ∧ 12 ≤ i) ∨ (f + p + i < f + len ∧ i < 12 ∧ S.1 2 (f + p + i).toNat < 48) ∨ (f + p + i < f + len ∧ i < 12 ∧ 122 < S.1 2 (f + p + i).toNat) ∨ (f + p + i < f + len ∧ i < 12 ∧ 57 < S.1 2 (f + p + i).toNat ∧ S.1 2 (f + p + i).toNat < 97) := by
        by_cases tl : p + i < len
        · by_cases k0 : k = 0
          · right
            left
            omega
          · have c2 : ¬ cdb (G (p + i)) = true := fun z => c ⟨k0, z⟩
            rw [cdb_iff] at c2
            have := ta.1 (by omega)
            omega
        · left
          omega
      refine ok_eq ?_
      rw [El_Tape_takeSmallWord, tp4, tp5, tp3, tp6, tp_2, g1, g2, tp_p6, show f + p + i - (f + p) = i by omega, show f + p + i - f = p + i by omega]
      clear ta c g1 g2 h
      by_cases B : w = -1 ∧ i = 0
      · rw [if_pos B]
        obtain ⟨b1, b2⟩ := B
        have b3 : p + (i : Int) = p := by omega
        rcases kx with kx | kx | kx | kx | kx
        all_goals repeat' (first | with_reducible refine ok_nb (by omega) ?_ | with_reducible refine ok_ib (by omega) ?_ | with_reducible refine ok_t (by omega) ?_ | with_reducible refine ok_e (by omega) ?_ | with_reducible refine ok_if (fun h => ?_) (fun h => ?_) | with_reducible refine ok_s ?_ | with_reducible refine ok_b ?_)
        all_goals first | (rw [b3]; exact ⟨rfl, rfl⟩) | (exfalso; omega)
      · rw [if_neg B]
        rcases kx with kx | kx | kx | kx | kx
        all_goals repeat' (first | with_reducible refine ok_nb (by omega) ?_ | with_reducible refine ok_ib (by omega) ?_ | with_reducible refine ok_t (by omega) ?_ | with_reducible refine ok_e (by omega) ?_ | with_reducible refine ok_if (fun h => ?_) (fun h => ?_) | with_reducible refine ok_s ?_ | with_reducible refine ok_b ?_)
        all_goals first | exact ⟨rfl, rfl⟩ | (exfalso; omega)
theorem x_takeSmall {e : w_E} {N : Nat} {S : w_S} {f len a w q : Int} {G : Int → Int} (hN : 2001 ≤ N) (h : TX S f len G) (ha : At f len a w q) : Ok (E_Tape_takeSmallWord e N (tp S a w)) (Tk S f len (pS G q) (fun y => y = (f + q) * 64 + (nw cdb G 12 q : Nat) ∧ 0 < nw cdb G 12 q)) := by
  obtain ⟨a1, a2, a3⟩ := ha
  have hh := h
  obtain ⟨g1, g2, g3, g4, g5, g6, g7⟩ := hh
  clear g7
  have z := l_takeSmall (e := e) (N := N) (w := w) h (p := a - f) (by omega) 12 0 N (by omega) (by omega) (by omega)
  have n1 := nw_le cdb G 12 (a - f)
  rw [show ((0 : Nat) : Int) = 0 from rfl, show f + (a - f) + 0 = a by omega, show f + (a - f) = a by omega, show a - f + 0 = a - f by omega, show 0 + nw cdb G 12 (a - f) = nw cdb G 12 (a - f) by omega] at z
  have bnd : a + (nw cdb G 12 (a - f) : Nat) ≤ f + len := by
    have := nw_len (P := cdb) (G := G) (len := len) (fun p hp => by
      rw [(tx_at h (p := p) (by omega)).2 hp]
      decide) 12 (a - f) (by omega)
    omega
  unfold E_Tape_takeSmallWord
  rw [tp4]
  refine ok_of z ?_
  rcases a3 with ⟨b1, b2⟩ | ⟨b1, b2⟩
  · have eq : a - f = q := by omega
    rw [eq] at n1 bnd ⊢
    by_cases B : nw cdb G 12 q = 0
    · have hw : (if w = -1 ∧ nw cdb G 12 q = 0 then q else w) = q := if_pos ⟨b1, B⟩
      rw [hw]
      refine ⟨_, _, rfl, ⟨by omega, by omega, Or.inr ⟨by omega, ?_⟩⟩, fun z => by (exfalso; omega)⟩
      unfold pS
      rw [if_neg (by omega), if_pos B]
    · have hw : (if w = -1 ∧ nw cdb G 12 q = 0 then q else w) = w := if_neg (fun z => B z.2)
      rw [hw]
      refine ⟨_, _, rfl, ⟨by omega, by omega, Or.inl ⟨b1, ?_⟩⟩, fun _ => ⟨?_, by omega⟩⟩
      · unfold pS
        rw [if_neg (by omega), if_neg B]
        omega
      · rw [b_row (by omega) (by omega) (by omega) (by omega)]
        rw [b2]
  · have hw : (if w = -1 ∧ nw cdb G 12 (a - f) = 0 then a - f else w) = w := if_neg (fun z => by omega)
    rw [hw]
    refine ⟨_, _, rfl, ⟨by omega, by omega, Or.inr ⟨b1, ?_⟩⟩, fun z => by (exfalso; omega)⟩
    unfold pS
    rw [if_pos (by omega)]
    exact b2
end
section
-- bj
def RelTp (S R : w_S)  : Prop := R.1 129 1 = S.1 1 2 ∧ 0 ≤ S.1 1 2 ∧ S.1 1 2 ≤ 2000 ∧ 0 ≤ S.1 1 1 ∧ S.1 1 1 + S.1 1 2 ≤ 10240 ∧ ∀ p : Nat, (p : Int) < S.1 1 2 → R.1 130 p = S.1 2 ((S.1 1 1).toNat + p) ∧ -128 ≤ R.1 130 p ∧ R.1 130 p ≤ 127
theorem RelTp.fr {S R S1 R1 : w_S}  {L O L' O' : List Nat} {J J' : List (Nat × Nat)} (h : RelTp S R ) (hf : frm L O J S S1) (hg : frm L' O' J' R R1) (dd : (ckA L O [2] && (ckS L J [(1, 1), (1, 2)] && (ckA L' O' [130] && ckS L' J' [(129, 1)]))) = true) : RelTp S1 R1  := by
  have d := ck4 dd
  have a0 : S1.1 2 = S.1 2 := hf.2.1 2 (d.1 2 (by decide)).1 (d.1 2 (by decide)).2
  have b0 : S1.1 1 1 = S.1 1 1 := hf.2.2 1 1 (d.2.1 (1, 1) (by decide)).1 (d.2.1 (1, 1) (by decide)).2
  have b1 : S1.1 1 2 = S.1 1 2 := hf.2.2 1 2 (d.2.1 (1, 2) (by decide)).1 (d.2.1 (1, 2) (by decide)).2
  have g0 : R1.1 130 = R.1 130 := hg.2.1 130 (d.2.2.1 130 (by decide)).1 (d.2.2.1 130 (by decide)).2
  have k0 : R1.1 129 1 = R.1 129 1 := hg.2.2 129 1 (d.2.2.2 (129, 1) (by decide)).1 (d.2.2.2 (129, 1) (by decide)).2
  unfold RelTp at h ⊢
  simp only [a0, b0, b1, g0, k0]
  exact h
theorem q_end {e : w_E} {N : Nat} {S R : w_S} {x1 : Int} (h : RelTp S R) : Ok (E_C_end e N x1 S) (fun y S1 => Ok (E_R_end e N x1 R) (fun y' R1 => y' = y ∧ frm [] [1] [(1, 2)] S S1 ∧ frm [] [129] [(129, 1)] R R1 ∧ RelTp S1 R1 ∧ S1.1 1 2 ≤ S.1 1 2 ∧ S1.1 1 1 = S.1 1 1)) := by
  have h0 := h
  obtain ⟨h1, h2, h3, h4, h5, h6⟩ := h
  unfold E_C_end E_R_end
  rw [h1]
  by_cases c : 0 ≤ x1 ∧ x1 ≤ S.1 1 2
  · refine ok_e (by omega) (ok_t (by omega) (ok_s (ok_e (by omega) (ok_t (by omega) (ok_s ?_)))))
    refine ⟨rfl, ?_, ?_, ?_, ?_, ?_⟩
    · repeat (first | exact frm.refl _ _ _ _ | refine frm.put ?_ rfl | refine frm.puto ?_ rfl rfl | refine frm.arr ?_ rfl)
    · repeat (first | exact frm.refl _ _ _ _ | refine frm.put ?_ rfl | refine frm.puto ?_ rfl rfl | refine frm.arr ?_ rfl)
    · simp only [RelTp, w_put_r, w_arr_r, reduceIte, Nat.reduceEqDiff, pt_at]
      exact ⟨trivial, by omega, by omega, h4, by omega, fun p hp => h6 p (by omega)⟩
    · simp only [w_put_r, w_arr_r, reduceIte, Nat.reduceEqDiff, pt_at]
      omega
    · simp only [w_put_r, w_arr_r, reduceIte, Nat.reduceEqDiff, pt_at]
  · clear h6
    repeat' (first | with_reducible refine ok_nb (by omega) ?_ | with_reducible refine ok_ib (by omega) ?_ | with_reducible refine ok_t (by omega) ?_ | with_reducible refine ok_e (by omega) ?_ | with_reducible refine ok_if (fun h => ?_) (fun h => ?_) | with_reducible refine ok_s ?_ | with_reducible refine ok_b ?_)
    all_goals first | (exfalso; omega) | exact ⟨rfl, frm.refl _ _ _ _, frm.refl _ _ _ _, h0, by omega, rfl⟩
theorem l_put {e : w_E} {N : Nat} {x1 : Int} (hb : ∀ x, -128 ≤ w_b x ∧ w_b x ≤ 127) : ∀ (k n n' : Nat) (S R : w_S), k < n → k < n' → k ≤ 4 → RelTp S R → S.1 1 2 + k ≤ 2000 → S.1 1 1 + S.1 1 2 + k ≤ 10240 → Ok (El_Tape_put e N n 0 [x1, 8 * (k : Int) - 8] [] S) (fun _ S1 => Ok (El_R_put e N n' 0 [x1, 8 * (k : Int) - 8] [] R) (fun _ R1 => frm [2] [1] [(1, 2)] S S1 ∧ frm [130] [129] [(129, 1)] R R1 ∧ RelTp S1 R1 ∧ S1.1 1 2 = S.1 1 2 + k ∧ S1.1 1 1 = S.1 1 1))
  | 0, n + 1, n' + 1, S, R, h1, h2, h3, h, h5, h6 => by
    rw [El_Tape_put, El_R_put]
    refine ok_t (by omega) (ok_s (ok_t (by omega) (ok_s ?_)))
    exact ⟨frm.refl _ _ _ _, frm.refl _ _ _ _, h, by omega, rfl⟩
  | k + 1, n + 1, n' + 1, S, R, h1, h2, h3, h, h5, h6 => by
    have h00 := h
    obtain ⟨g1, g2, g3, g4, g5, g6⟩ := h00
    have hb1 := hb (w_b (w_shr x1 (8 * ((k + 1 : Nat) : Int) - 8)))
    have hr : RelTp (w_put (w_put S 2 ((S.1 1 1) + (S.1 1 2)).toNat (w_b (w_b (w_shr x1 (8 * ((k + 1 : Nat) : Int) - 8))))) 1 2 ((S.1 1 2) + 1)) (w_put (w_put R 130 (S.1 1 2).toNat (w_b (w_b (w_shr x1 (8 * ((k + 1 : Nat) : Int) - 8))))) 129 1 ((S.1 1 2) + 1)) := by
      simp only [RelTp, w_put_r, w_arr_r, reduceIte, Nat.reduceEqDiff, pt_at]
      refine ⟨trivial, by omega, by omega, by omega, by omega, fun p hp => ?_⟩
      by_cases ep : p = (S.1 1 2).toNat
      · rw [if_pos ep, if_pos (by omega)]
        exact ⟨rfl, hb1⟩
      · rw [if_neg ep, if_neg (by omega)]
        exact g6 p (by omega)
    have ih := l_put (e := e) (N := N) (x1 := x1) hb k n n' _ _ (by omega) (by omega) (by omega) hr (by simp only [w_put_r, w_arr_r, reduceIte, Nat.reduceEqDiff, pt_at]; omega) (by simp only [w_put_r, w_arr_r, reduceIte, Nat.reduceEqDiff, pt_at]; omega)
    rw [El_Tape_put, El_R_put, g1]
    rw [show 8 * ((k + 1 : Nat) : Int) - 8 + -8 = 8 * (k : Int) - 8 by omega]
    refine ok_e (by omega) (ok_nb (by omega) (ok_ib (by omega) (ok_nb (by omega) (ok_nb (by omega) ?_))))
    refine ih.mono (fun y S1 q => ?_)
    refine ok_e (by omega) (ok_ib (by omega) (ok_nb (by omega) (ok_nb (by omega) ?_)))
    refine q.mono (fun y' R1 z => ?_)
    obtain ⟨z1, z2, z3, z4, z5⟩ := z
    refine ⟨frm.trans ?_ z1, frm.trans ?_ z2, z3, ?_, ?_⟩
    · repeat (first | exact frm.refl _ _ _ _ | refine frm.put ?_ rfl | refine frm.puto ?_ rfl rfl | refine frm.arr ?_ rfl)
    · repeat (first | exact frm.refl _ _ _ _ | refine frm.put ?_ rfl | refine frm.puto ?_ rfl rfl | refine frm.arr ?_ rfl)
    · rw [z4]
      simp only [w_put_r, w_arr_r, reduceIte, Nat.reduceEqDiff, pt_at]
      omega
    · rw [z5]
      simp only [w_put_r, w_arr_r, reduceIte, Nat.reduceEqDiff, pt_at]
end
section
-- bk
theorem x_put {e : w_E} {N : Nat} {x1 : Int} {S R : w_S} (hN : 1000 ≤ N) (h : RelTp S R) (h1 : S.1 1 2 + 4 ≤ 2000) (h2 : S.1 1 1 + S.1 1 2 + 4 ≤ 10240) : ∃ v S1 v' R1, E_Tape_put e N x1 S = some (v, S1) ∧ E_R_put e N x1 R = some (v', R1) ∧ frm [2] [1] [(1, 2)] S S1 ∧ frm [130] [129] [(129, 1)] R R1 ∧ RelTp S1 R1 ∧ S1.1 1 2 = S.1 1 2 + 4 ∧ S1.1 1 1 = S.1 1 1 := by
  obtain ⟨v, S1, c1, v', R1, r1, q⟩ := l_put (e := e) (N := N) (x1 := x1) (fun x => by unfold w_b; omega) 4 N N S R (by omega) (by omega) (by omega) h (by omega) (by omega)
  exact ⟨v, S1, v', R1, c1, r1, q⟩
theorem q_feed {e : w_E} {N : Nat} {x1 x2 x3 x4 x5 : Int} {S R : w_S} (hN : 1000 ≤ N) (h : RelTp S R) (hk : S.1 1 1 + S.1 1 2 + 20 ≤ 10240) : Ok (E_C_feed e N x1 x2 x3 x4 x5 S) (fun y S1 => Ok (E_R_feed e N x1 x2 x3 x4 x5 R) (fun y' R1 => y' = y ∧ frm [2] [1] [(1, 2)] S S1 ∧ frm [130] [129] [(129, 1)] R R1 ∧ RelTp S1 R1 ∧ S1.1 1 2 ≤ S.1 1 2 + 20 ∧ S1.1 1 1 = S.1 1 1)) := by
  have h00 := h
  obtain ⟨g1, g2, g3, g4, g5, g6⟩ := h00
  clear g6
  unfold E_C_feed E_R_feed
  rw [g1]
  by_cases c : 2000 < S.1 1 2 + 20
  · refine ok_nb (by omega) (ok_t c (ok_s (ok_nb (by omega) (ok_e (by omega) (ok_s ?_)))))
    exact ⟨rfl, frm.refl _ _ _ _, frm.refl _ _ _ _, h, by omega, rfl⟩
  · obtain ⟨v1, S1, w1, R1, c1, r1, a1, b1, d1, e1, f1⟩ := x_put (e := e) (N := N) (x1 := x1) hN h (by omega) (by omega)
    obtain ⟨v2, S2, w2, R2, c2, r2, a2, b2, d2, e2, f2⟩ := x_put (e := e) (N := N) (x1 := x2) hN d1 (by omega) (by omega)
    obtain ⟨v3, S3, w3, R3, c3, r3, a3, b3, d3, e3, f3⟩ := x_put (e := e) (N := N) (x1 := x3) hN d2 (by omega) (by omega)
    obtain ⟨v4, S4, w4, R4, c4, r4, a4, b4, d4, e4, f4⟩ := x_put (e := e) (N := N) (x1 := x4) hN d3 (by omega) (by omega)
    obtain ⟨v5, S5, w5, R5, c5, r5, a5, b5, d5, e5, f5⟩ := x_put (e := e) (N := N) (x1 := x5) hN d4 (by omega) (by omega)
    refine ok_nb (by omega) (ok_e c (ok_nb (by omega) (ok_nb (by omega) (ok_e (by omega) ?_))))
    refine ok_b (ok_of c1 (ok_b (ok_of c2 (ok_b (ok_of c3 (ok_b (ok_of c4 (ok_b (ok_of c5 (ok_s ?_))))))))))
    refine ok_nb (by omega) (ok_t (by omega) ?_)
    refine ok_b (ok_of r1 (ok_b (ok_of r2 (ok_b (ok_of r3 (ok_b (ok_of r4 (ok_b (ok_of r5 (ok_s ?_))))))))))
    have k1 := d5.1
    dsimp only
    exact ⟨k1, frm.trans a1 (frm.trans a2 (frm.trans a3 (frm.trans a4 a5))), frm.trans b1 (frm.trans b2 (frm.trans b3 (frm.trans b4 b5))), d5, by omega, by omega⟩
end
section
-- bl
/-- two rows of bytes compared from a place on, in so many steps at most -/
def cmr (g h : Nat → Int) (m n : Nat) : Nat → Nat → Int
  | 0, _ => (m : Int) - n
  | k + 1, i => if m ≤ i ∨ n ≤ i then (m : Int) - n else if g i = h i then cmr g h m n k (i + 1) else g i - h i
theorem cmr_zero {g h : Nat → Int} {m n : Nat} : ∀ (k i : Nat), m ≤ i + k → (cmr g h m n k i = 0 ↔ m = n ∧ ∀ j, i ≤ j → j < m → g j = h j)
  | 0, i, h1 => by
    rw [cmr]
    constructor
    · intro z
      exact ⟨by omega, fun j h2 h3 => by omega⟩
    · intro z
      omega
  | k + 1, i, h1 => by
    rw [cmr]
    split
    next c =>
      constructor
      · intro z
        exact ⟨by omega, fun j h2 h3 => by omega⟩
      · intro z
        omega
    next c =>
      split
      next d =>
        rw [cmr_zero k (i + 1) (by omega)]
        constructor
        · intro z
          refine ⟨z.1, fun j h2 h3 => ?_⟩
          by_cases e : j = i
          · rw [e]; exact d
          · exact z.2 j (by omega) h3
        · intro z
          exact ⟨z.1, fun j h2 h3 => z.2 j (by omega) h3⟩
      next d =>
        constructor
        · intro z
          exact absurd (by omega) d
        · intro z
          exact absurd (z.2 i (Nat.le_refl _) (by omega)) d
theorem l_cmp {e : w_E} {N : Nat} {S : w_S} {a b m n : Nat} (ha : a + m ≤ 10240) (hb : b + n ≤ 10240) (hm : m < 64) (hn : n < 64) (hs : ∀ j, -128 ≤ S.1 2 j ∧ S.1 2 j ≤ 127) : ∀ (k i nf : Nat), i + k = 64 → k < nf → El_Tape_compareRows e N nf 0 [(m : Int), (n : Int), (a : Int), (b : Int), (i : Int)] [] S = some (cmr (fun j => S.1 2 (a + j)) (fun j => S.1 2 (b + j)) m n k i, S)
  | 0, i, nf + 1, h1, h2 => by
    refine ok_eq ?_
    rw [El_Tape_compareRows, cmr]
    clear hs
    repeat' (first | with_reducible refine ok_nb (by omega) ?_ | with_reducible refine ok_ib (by omega) ?_ | with_reducible refine ok_t (by omega) ?_ | with_reducible refine ok_e (by omega) ?_ | with_reducible refine ok_if (fun h => ?_) (fun h => ?_) | with_reducible refine ok_s ?_ | with_reducible refine ok_b ?_)
    all_goals first | exact ⟨rfl, rfl⟩ | (exfalso; omega)
  | k + 1, i, nf + 1, h1, h2 => by
    have ih := l_cmp (e := e) (N := N) ha hb hm hn hs k (i + 1) nf (by omega) (by omega)
    rw [show ((i + 1 : Nat) : Int) = (i : Int) + 1 by omega] at ih
    have s1 := hs (a + i)
    have s2 := hs (b + i)
    refine ok_eq ?_
    rw [El_Tape_compareRows, cmr, show ((a : Int) + i).toNat = a + i by omega, show ((b : Int) + i).toNat = b + i by omega]
    clear hs
    by_cases c : m ≤ i ∨ n ≤ i
    · rw [if_pos c]
      rcases c with c | c
      all_goals repeat' (first | with_reducible refine ok_nb (by omega) ?_ | with_reducible refine ok_ib (by omega) ?_ | with_reducible refine ok_t (by omega) ?_ | with_reducible refine ok_e (by omega) ?_ | with_reducible refine ok_if (fun h => ?_) (fun h => ?_) | with_reducible refine ok_s ?_ | with_reducible refine ok_b ?_)
      all_goals first | exact ⟨rfl, rfl⟩ | (exfalso; omega)
    · rw [if_neg c]
      by_cases d : S.1 2 (a + i) = S.1 2 (b + i)
      · refine ok_e (by omega) (ok_e (by omega) (ok_nb (by omega) (ok_ib (by omega) (ok_nb (by omega) (ok_ib (by omega) (ok_t d (ok_nb (by omega) ?_)))))))
        exact ok_of ih ⟨(if_pos d).symm, rfl⟩
      · refine ok_e (by omega) (ok_e (by omega) (ok_nb (by omega) (ok_ib (by omega) (ok_nb (by omega) (ok_ib (by omega) (ok_e d (ok_nb (by omega) (ok_s ?_))))))))
        exact ⟨(if_neg d).symm, rfl⟩
theorem x_cmp {e : w_E} {N : Nat} {S : w_S} {a b m n : Nat} (hN : 1000 ≤ N) (ha : a + m ≤ 10240) (hb : b + n ≤ 10240) (hm : m < 64) (hn : n < 64) (hs : ∀ j, -128 ≤ S.1 2 j ∧ S.1 2 j ≤ 127) : E_Tape_compareRows e N ((a : Int) * 64 + m) ((b : Int) * 64 + n) S = some (cmr (fun j => S.1 2 (a + j)) (fun j => S.1 2 (b + j)) m n 64 0, S) := by
  unfold E_Tape_compareRows
  rw [b_and63 (by omega) (by omega), b_and63 (by omega) (by omega), b_shr6 (by omega) (by omega), b_shr6 (by omega) (by omega)]
  rw [show ((a : Int) * 64 + m) % 64 = m by omega, show ((b : Int) * 64 + n) % 64 = n by omega, show ((a : Int) * 64 + m) / 64 = a by omega, show ((b : Int) * 64 + n) / 64 = b by omega]
  exact l_cmp ha hb hm hn hs 64 0 N (by omega) (by omega)
end
section
-- bm
/-- the text on the reference's tape -/
def txt (R : w_S) (len p : Int) : Int := if p < len then w_and (R.1 130 p.toNat) 255 else -1
theorem tr_open {S R : w_S} (h : RelTp S R) : TR (w_put (w_put R 129 2 (R.1 129 1)) 129 1 0) (S.1 1 2) (txt R (S.1 1 2)) := by
  obtain ⟨h1, h2, h3, h4, h5, h6⟩ := h
  refine ⟨by simp only [w_put_r, w_arr_r, reduceIte, Nat.reduceEqDiff, pt_at]; exact h1, h2, h3, fun p hp => ⟨fun hl => ?_, fun hl => ?_⟩⟩
  · obtain ⟨k1, k2, k3⟩ := h6 p.toNat (by omega)
    have k4 := b_and255 (R.1 130 p.toNat) k2 k3
    unfold txt
    rw [if_pos hl]
    refine ⟨by simp only [w_put_r, w_arr_r, reduceIte, Nat.reduceEqDiff, pt_at], ?_⟩
    rw [k4]
    split <;> omega
  · unfold txt
    rw [if_neg (by omega)]
theorem tx_open {S R T : w_S} (h : RelTp S R) (t1 : T.1 2 = S.1 2) (t2 : T.1 1 3 = S.1 1 1) (t3 : T.1 1 5 = S.1 1 1 + S.1 1 2) : TX T (S.1 1 1) (S.1 1 2) (txt R (S.1 1 2)) := by
  obtain ⟨h1, h2, h3, h4, h5, h6⟩ := h
  refine ⟨t2, t3, h4, h2, h3, h5, fun p hp => ⟨fun hl => ?_, fun hl => ?_⟩⟩
  · obtain ⟨k1, k2, k3⟩ := h6 p.toNat (by omega)
    have k4 := b_and255 (R.1 130 p.toNat) k2 k3
    rw [t1, show (S.1 1 1 + p).toNat = (S.1 1 1).toNat + p.toNat by omega, ← k1]
    unfold txt
    rw [if_pos hl]
    exact ⟨k2, k3, rfl, k4⟩
  · unfold txt
    rw [if_neg (by omega)]
theorem x_rowByte {e : w_E} {N : Nat} {S : w_S} {a m : Nat} {i : Int} (ha : a + m ≤ 10240) (hm : m < 64) : E_Tape_rowByte e N ((a : Int) * 64 + m) i S = some (if 0 ≤ i ∧ i < m then w_and (S.1 2 (a + i.toNat)) 255 else -1, S) := by
  refine ok_eq ?_
  unfold E_Tape_rowByte
  rw [b_and63 (by omega) (by omega), b_shr6 (by omega) (by omega)]
  rw [show ((a : Int) * 64 + m) % 64 = m by omega, show ((a : Int) * 64 + m) / 64 = a by omega]
  by_cases c : 0 ≤ i ∧ i < m
  · rw [if_pos c, show ((a : Int) + i).toNat = a + i.toNat by omega]
    repeat' (first | with_reducible refine ok_nb (by omega) ?_ | with_reducible refine ok_ib (by omega) ?_ | with_reducible refine ok_t (by omega) ?_ | with_reducible refine ok_e (by omega) ?_ | with_reducible refine ok_if (fun h => ?_) (fun h => ?_) | with_reducible refine ok_s ?_ | with_reducible refine ok_b ?_)
    all_goals first | exact ⟨rfl, rfl⟩ | (exfalso; omega)
  · rw [if_neg c]
    repeat' (first | with_reducible refine ok_nb (by omega) ?_ | with_reducible refine ok_ib (by omega) ?_ | with_reducible refine ok_t (by omega) ?_ | with_reducible refine ok_e (by omega) ?_ | with_reducible refine ok_if (fun h => ?_) (fun h => ?_) | with_reducible refine ok_s ?_ | with_reducible refine ok_b ?_)
    all_goals first | exact ⟨rfl, rfl⟩ | (exfalso; omega)
end
section
-- bn
/-- going on behind a take -/
theorem tk_b {r : e_R} {S : w_S} {f len q : Int} {P : Int → Prop} {k : Int × w_S → e_R} {Q : Int → w_S → Prop} (h : Ok r (Tk S f len q P)) (c : ∀ y a w, At f len a w q → (w = -1 → P y) → Ok (k (y, tp S a w)) Q) : Ok (r.bind k) Q := by
  refine ok_b (h.mono (fun y S1 z => ?_))
  obtain ⟨a, w, z1, z2, z3⟩ := z
  rw [z1]
  exact c y a w z2 z3
theorem TX.put {S : w_S} {f len : Int} {G : Int → Int} {b k : Nat} {x : Int} (h : TX S f len G) (h1 : b ≠ 1) (h2 : b ≠ 2) : TX (w_put S b k x) f len G := by
  unfold TX at h ⊢
  rw [w_put_r, w_put_r, if_neg (Ne.symm h1), if_neg (Ne.symm h2)]
  exact h
theorem TX.tp {S : w_S} {f len a w : Int} {G : Int → Int} (h : TX S f len G) : TX (tp S a w) f len G := by
  unfold TX at h ⊢
  rw [tp3, tp5, tp_2]
  exact h
theorem TR.put {R : w_S} {len : Int} {G : Int → Int} {b k : Nat} {x : Int} (h : TR R len G) (h1 : b ≠ 129 ∨ k = 3) (h2 : b ≠ 130) : TR (w_put R b k x) len G := by
  have e1 : (w_put R b k x).1 129 2 = R.1 129 2 := by
    rw [w_put_r]
    by_cases c : 129 = b
    · rw [if_pos c, pt_at, if_neg (by omega)]
    · rw [if_neg c]
  have e2 : (w_put R b k x).1 130 = R.1 130 := by
    rw [w_put_r, if_neg (Ne.symm h2)]
  unfold TR at h ⊢
  rw [e1, e2]
  exact h
/-- a place that is right is right in both -/
theorem At.right {f len a w q : Int} (h : At f len a w q) : (0 ≤ q → w = -1 ∧ a = f + q ∧ q ≤ len) ∧ (q < 0 → 0 ≤ w ∧ w = -1 - q) := by
  obtain ⟨h1, h2, h3⟩ := h
  constructor
  · intro z
    omega
  · intro z
    omega
end
section
-- bo
def Ln0 (e : w_E) (N : Nat) (x2 x3 : Int) (S : w_S) (K : w_S → e_R) : e_R := ((E_Tape_peek e N  S).bind (fun q175 => (if q175.1 ≠ 42 then ((E_Tape_takeBetween e N 48 52 q175.2).bind (fun q176 => (if w_ib (x3 * x2) 140 = true then ((E_Tape_takeByte e N 32 (w_put q176.2 36 ((x3 * x2).toNat) q176.1)).bind (fun q177 => (if w_nb ((x3 * x2) + 1) = true then ((E_Tape_peek e N  q177.2).bind (fun q178 => (if q178.1 ≠ 42 then ((E_Tape_takeBetween e N 48 52 q178.2).bind (fun q179 => (if w_ib ((x3 * x2) + 1) 140 = true then ((E_Tape_takeByte e N 32 (w_put q179.2 36 (((x3 * x2) + 1).toNat) q179.1)).bind (fun q180 => (if w_nb ((x3 * x2) + 2) = true then ((E_Tape_takeNumber e N 1 365 q180.2).bind (fun q181 => (if w_ib ((x3 * x2) + 2) 140 = true then ((E_Tape_takeByte e N 32 (w_put q181.2 36 (((x3 * x2) + 2).toNat) q181.1)).bind (fun q182 => (if w_nb ((x3 * x2) + 3) = true then ((E_Tape_takeNumber e N 0 9 q182.2).bind (fun q183 => (if w_ib ((x3 * x2) + 3) 140 = true then ((E_Tape_takeByte e N 32 (w_put q183.2 36 (((x3 * x2) + 3).toNat) q183.1)).bind (fun q184 => (if w_nb ((x3 * x2) + 4) = true then ((E_Tape_takeNumber e N 0 99 q184.2).bind (fun q185 => (if w_ib ((x3 * x2) + 4) 140 = true then ((E_Tape_takeByte e N 32 (w_put q185.2 36 (((x3 * x2) + 4).toNat) q185.1)).bind (fun q186 => (if w_nb ((x3 * x2) + 5) = true then ((E_Tape_takeNumber e N 0 999 q186.2).bind (fun q187 => (if w_ib ((x3 * x2) + 5) 140 = true then ((E_Tape_takeByte e N 32 (w_put q187.2 36 (((x3 * x2) + 5).toNat) q187.1)).bind (fun q188 => (if w_nb ((x3 * x2) + 6) = true then ((E_Tape_takeNumber e N 0 99999 q188.2).bind (fun q189 => (if w_ib ((x3 * x2) + 6) 140 = true then ((E_Tape_takeByte e N 10 (w_put q189.2 36 (((x3 * x2) + 6).toNat) q189.1)).bind (fun q190 => (if w_nb (x3 + 1) = true then K q190.2 else none))) else none))) else none))) else none))) else none))) else none))) else none))) else none))) else none))) else none))) else none))) else none))) else ((E_Tape_takeByte e N 42 q178.2).bind (fun q191 => (if w_ib ((x3 * x2) + 1) 140 = true then ((E_Tape_takeByte e N 32 (w_put q191.2 36 (((x3 * x2) + 1).toNat) 5)).bind (fun q192 => (if w_nb ((x3 * x2) + 2) = true then ((E_Tape_takeNumber e N 1 365 q192.2).bind (fun q193 => (if w_ib ((x3 * x2) + 2) 140 = true then ((E_Tape_takeByte e N 32 (w_put q193.2 36 (((x3 * x2) + 2).toNat) q193.1)).bind (fun q194 => (if w_nb ((x3 * x2) + 3) = true then ((E_Tape_takeNumber e N 0 9 q194.2).bind (fun q195 => (if w_ib ((x3 * x2) + 3) 140 = true then ((E_Tape_takeByte e N 32 (w_put q195.2 36 (((x3 * x2) + 3).toNat) q195.1)).bind (fun q196 => (if w_nb ((x3 * x2) + 4) = true then ((E_Tape_takeNumber e N 0 99 q196.2).bind (fun q197 => (if w_ib ((x3 * x2) + 4) 140 = true then ((E_Tape_takeByte e N 32 (w_put q197.2 36 (((x3 * x2) + 4).toNat) q197.1)).bind (fun q198 => (if w_nb ((x3 * x2) + 5) = true then ((E_Tape_takeNumber e N 0 999 q198.2).bind (fun q199 => (if w_ib ((x3 * x2) + 5) 140 = true then ((E_Tape_takeByte e N 32 (w_put q199.2 36 (((x3 * x2) + 5).toNat) q199.1)).bind (fun q200 => (if w_nb ((x3 * x2) + 6) = true then ((E_Tape_takeNumber e N 0 99999 q200.2).bind (fun q201 => (if w_ib ((x3 * x2) + 6) 140 = true then ((E_Tape_takeByte e N 10 (w_put q201.2 36 (((x3 * x2) + 6).toNat) q201.1)).bind (fun q202 => (if w_nb (x3 + 1) = true then K q202.2 else none))) else none))) else none))) else none))) else none))) else none))) else none))) else none))) else none))) else none))) else none))) else none)))))) else none))) else none))) else ((E_Tape_takeByte e N 42 q175.2).bind (fun q203 => (if w_ib (x3 * x2) 140 = true then ((E_Tape_takeByte e N 32 (w_put q203.2 36 ((x3 * x2).toNat) 5)).bind (fun q204 => (if w_nb ((x3 * x2) + 1) = true then ((E_Tape_peek e N  q204.2).bind (fun q205 => (if q205.1 ≠ 42 then ((E_Tape_takeBetween e N 48 52 q205.2).bind (fun q206 => (if w_ib ((x3 * x2) + 1) 140 = true then ((E_Tape_takeByte e N 32 (w_put q206.2 36 (((x3 * x2) + 1).toNat) q206.1)).bind (fun q207 => (if w_nb ((x3 * x2) + 2) = true then ((E_Tape_takeNumber e N 1 365 q207.2).bind (fun q208 => (if w_ib ((x3 * x2) + 2) 140 = true then ((E_Tape_takeByte e N 32 (w_put q208.2 36 (((x3 * x2) + 2).toNat) q208.1)).bind (fun q209 => (if w_nb ((x3 * x2) + 3) = true then ((E_Tape_takeNumber e N 0 9 q209.2).bind (fun q210 => (if w_ib ((x3 * x2) + 3) 140 = true then ((E_Tape_takeByte e N 32 (w_put q210.2 36 (((x3 * x2) + 3).toNat) q210.1)).bind (fun q211 => (if w_nb ((x3 * x2) + 4) = true then ((E_Tape_takeNumber e N 0 99 q211.2).bind (fun q212 => (if w_ib ((x3 * x2) + 4) 140 = true then ((E_Tape_takeByte e N 32 (w_put q212.2 36 (((x3 * x2) + 4).toNat) q212.1)).bind (fun q213 => (if w_nb ((x3 * x2) + 5) = true then ((E_Tape_takeNumber e N 0 999 q213.2).bind (fun q214 => (if w_ib ((x3 * x2) + 5) 140 = true then ((E_Tape_takeByte e N 32 (w_put q214.2 36 (((x3 * x2) + 5).toNat) q214.1)).bind (fun q215 => (if w_nb ((x3 * x2) + 6) = true then ((E_Tape_takeNumber e N 0 99999 q215.2).bind (fun q216 => (if w_ib ((x3 * x2) + 6) 140 = true then ((E_Tape_takeByte e N 10 (w_put q216.2 36 (((x3 * x2) + 6).toNat) q216.1)).bind (fun q217 => (if w_nb (x3 + 1) = true then K q217.2 else none))) else none))) else none))) else none))) else none))) else none))) else none))) else none))) else none))) else none))) else none))) else none))) else ((E_Tape_takeByte e N 42 q205.2).bind (fun q218 => (if w_ib ((x3 * x2) + 1) 140 = true then ((E_Tape_takeByte e N 32 (w_put q218.2 36 (((x3 * x2) + 1).toNat) 5)).bind (fun q219 => (if w_nb ((x3 * x2) + 2) = true then ((E_Tape_takeNumber e N 1 365 q219.2).bind (fun q220 => (if w_ib ((x3 * x2) + 2) 140 = true then ((E_Tape_takeByte e N 32 (w_put q220.2 36 (((x3 * x2) + 2).toNat) q220.1)).bind (fun q221 => (if w_nb ((x3 * x2) + 3) = true then ((E_Tape_takeNumber e N 0 9 q221.2).bind (fun q222 => (if w_ib ((x3 * x2) + 3) 140 = true then ((E_Tape_takeByte e N 32 (w_put q222.2 36 (((x3 * x2) + 3).toNat) q222.1)).bind (fun q223 => (if w_nb ((x3 * x2) + 4) = true then ((E_Tape_takeNumber e N 0 99 q223.2).bind (fun q224 => (if w_ib ((x3 * x2) + 4) 140 = true then ((E_Tape_takeByte e N 32 (w_put q224.2 36 (((x3 * x2) + 4).toNat) q224.1)).bind (fun q225 => (if w_nb ((x3 * x2) + 5) = true then ((E_Tape_takeNumber e N 0 999 q225.2).bind (fun q226 => (if w_ib ((x3 * x2) + 5) 140 = true then ((E_Tape_takeByte e N 32 (w_put q226.2 36 (((x3 * x2) + 5).toNat) q226.1)).bind (fun q227 => (if w_nb ((x3 * x2) + 6) = true then ((E_Tape_takeNumber e N 0 99999 q227.2).bind (fun q228 => (if w_ib ((x3 * x2) + 6) 140 = true then ((E_Tape_takeByte e N 10 (w_put q228.2 36 (((x3 * x2) + 6).toNat) q228.1)).bind (fun q229 => (if w_nb (x3 + 1) = true then K q229.2 else none))) else none))) else none))) else none))) else none))) else none))) else none))) else none))) else none))) else none))) else none))) else none)))))) else none))) else none))))))
def Ln1 (e : w_E) (N : Nat) (x2 x3 : Int) (S : w_S) (K : w_S → e_R) : e_R := ((E_Tape_takeNumber e N 0 3 S).bind (fun q230 => (if w_ib (x3 * x2) 140 = true then ((E_Tape_takeByte e N 32 (w_put q230.2 36 ((x3 * x2).toNat) q230.1)).bind (fun q231 => (if w_nb ((x3 * x2) + 1) = true then ((E_Tape_takeNumber e N 0 3 q231.2).bind (fun q232 => (if w_ib ((x3 * x2) + 1) 140 = true then ((E_Tape_takeByte e N 32 (w_put q232.2 36 (((x3 * x2) + 1).toNat) q232.1)).bind (fun q233 => (if w_nb ((x3 * x2) + 2) = true then ((E_RuleBook_readWeekdays e N  q233.2).bind (fun q234 => (if w_ib ((x3 * x2) + 2) 140 = true then ((E_Tape_takeByte e N 32 (w_put q234.2 36 (((x3 * x2) + 2).toNat) q234.1)).bind (fun q244 => (if w_nb ((x3 * x2) + 3) = true then ((E_Tape_takeNumber e N 1 9 q244.2).bind (fun q245 => (if w_ib ((x3 * x2) + 3) 140 = true then ((E_Tape_takeByte e N 10 (w_put q245.2 36 (((x3 * x2) + 3).toNat) q245.1)).bind (fun q246 => (if w_nb (x3 + 1) = true then K q246.2 else none))) else none))) else none))) else none))) else none))) else none))) else none))) else none)))
def Ln2 (e : w_E) (N : Nat) (x2 x3 : Int) (S : w_S) (K : w_S → e_R) : e_R := ((E_Tape_takeTag e N 1 S).bind (fun q247 => (if w_ib (x3 * x2) 140 = true then ((E_Tape_takeByte e N 32 (w_put q247.2 36 ((x3 * x2).toNat) q247.1)).bind (fun q248 => ((E_Tape_takeWord e N  q248.2).bind (fun q249 => (if w_nb ((x3 * x2) + 1) = true then (if w_ib ((x3 * x2) + 1) 140 = true then (if q249.1 < 2 then ((E_Tape_takeByte e N 10 (w_put q249.2 36 (((x3 * x2) + 1).toNat) q249.1)).bind (fun q254 => (if w_nb (x3 + 1) = true then K q254.2 else none))) else ((E_Tape_takeByte e N 32 (w_put q249.2 36 (((x3 * x2) + 1).toNat) q249.1)).bind (fun q255 => (if w_nb ((x3 * x2) + 2) = true then (if q249.1 ≠ 2 then ((E_Tape_takeNumber e N 1 40 q255.2).bind (fun q256 => (if w_ib ((x3 * x2) + 2) 140 = true then ((E_Tape_takeByte e N 10 (w_put q256.2 36 (((x3 * x2) + 2).toNat) q256.1)).bind (fun q257 => (if w_nb (x3 + 1) = true then K q257.2 else none))) else none))) else ((E_Tape_takeCode e N  q255.2).bind (fun q258 => (if w_ib ((x3 * x2) + 2) 140 = true then ((E_Tape_takeByte e N 10 (w_put q258.2 36 (((x3 * x2) + 2).toNat) q258.1)).bind (fun q259 => (if w_nb (x3 + 1) = true then K q259.2 else none))) else none)))) else none)))) else none) else none))))) else none)))
def Ln3 (e : w_E) (N : Nat) (x2 x3 : Int) (S : w_S) (K : w_S → e_R) : e_R := ((E_Tape_takeTag e N 10 S).bind (fun q260 => (if w_ib (x3 * x2) 140 = true then ((E_Tape_takeByte e N 32 (w_put q260.2 36 ((x3 * x2).toNat) q260.1)).bind (fun q261 => (if w_nb ((x3 * x2) + 1) = true then ((E_Tape_takeNumber e N 0 50000 q261.2).bind (fun q262 => (if w_ib ((x3 * x2) + 1) 140 = true then ((E_Tape_takeByte e N 32 (w_put q262.2 36 (((x3 * x2) + 1).toNat) q262.1)).bind (fun q263 => (if w_nb ((x3 * x2) + 2) = true then ((E_Tape_takeRow e N  q263.2).bind (fun q264 => (if w_ib ((x3 * x2) + 2) 140 = true then ((E_Tape_takeByte e N 10 (w_put q264.2 36 (((x3 * x2) + 2).toNat) q264.1)).bind (fun q265 => (if w_nb (x3 + 1) = true then K q265.2 else none))) else none))) else none))) else none))) else none))) else none)))
def Ln4 (e : w_E) (N : Nat) (x2 x3 : Int) (S : w_S) (K : w_S → e_R) : e_R := ((E_Tape_takeWord_v1 e N  S).bind (fun q266 => ((E_Tape_takeByte e N 32 q266.2).bind (fun q271 => (if w_ib (x3 * x2) 140 = true then (if q266.1 ≠ 0 then (if q266.1 ≠ 1 then (if w_nb ((x3 * x2) + 1) = true then (if w_ib ((x3 * x2) + 1) 140 = true then ((E_Draft_readField_v1 e N  (w_put (w_put q271.2 36 ((x3 * x2).toNat) q266.1) 36 (((x3 * x2) + 1).toNat) (q271.2.1 37 0))).bind (fun q272 => (if w_nb (x3 + 1) = true then K q272.2 else none))) else none) else none) else (if w_nb ((x3 * x2) + 1) = true then ((E_Tape_takeTag e N 10 (w_put q271.2 36 ((x3 * x2).toNat) q266.1)).bind (fun q293 => (if w_ib ((x3 * x2) + 1) 140 = true then ((E_Tape_takeByte e N 32 (w_put q293.2 36 (((x3 * x2) + 1).toNat) q293.1)).bind (fun q294 => (if w_nb ((x3 * x2) + 2) = true then ((E_Tape_takeCode e N  q294.2).bind (fun q295 => (if w_ib ((x3 * x2) + 2) 140 = true then ((E_Tape_takeByte e N 32 (w_put q295.2 36 (((x3 * x2) + 2).toNat) q295.1)).bind (fun q296 => (if w_nb ((x3 * x2) + 3) = true then ((E_Tape_takeRow e N  q296.2).bind (fun q297 => (if w_ib ((x3 * x2) + 3) 140 = true then ((E_Tape_takeByte e N 10 (w_put q297.2 36 (((x3 * x2) + 3).toNat) q297.1)).bind (fun q298 => (if w_nb (x3 + 1) = true then K q298.2 else none))) else none))) else none))) else none))) else none))) else none))) else none)) else (if w_nb ((x3 * x2) + 1) = true then ((E_Tape_takeTag e N 1 (w_put q271.2 36 ((x3 * x2).toNat) q266.1)).bind (fun q299 => (if w_ib ((x3 * x2) + 1) 140 = true then ((E_Tape_takeByte e N 10 (w_put q299.2 36 (((x3 * x2) + 1).toNat) q299.1)).bind (fun q300 => (if w_nb (x3 + 1) = true then K q300.2 else none))) else none))) else none)) else none)))))
def LnE (e : w_E) (N : Nat) (x1 x2 x3 : Int) (S : w_S) : e_R := ((E_Tape_takeEnd e N  S).bind (fun q174 => (if (q174.2.1 1 6) ≠ (-1) then (if w_nb ((-1000) - (q174.2.1 1 6)) = true then some ((-1000) - (q174.2.1 1 6), q174.2) else none) else (if w_nb (x3 * x2) = true then (if w_frb Tc B_RuleBook_readLines_27 (29 + 1 + x1.toNat) = false then (e_two Tc q174.2 36 (29 + 1 + x1.toNat)).bind (fun n32 => (if (0 : Int) ≤ 0 then (if (0 : Int) ≤ 0 then (if (0 : Int) ≤ (x3 * x2) then (if 0 + (x3 * x2) ≤ (n32.1 : Int) then (if 0 + (x3 * x2) ≤ (n32.2 : Int) then some (x3, (w_put (w_cpy q174.2 36 (29 + 1 + x1.toNat) 0 0 ((x3 * x2).toNat)) 35 x1.toNat x3)) else none) else none) else none) else none) else none)) else none) else none))))
theorem ln_step {e : w_E} {N n : Nat} {x1 x2 x3 : Int} {S : w_S} : El_RuleBook_readLines e N (n + 1) 0 [x1, x2, x3] [] S = (if w_ib x1 5 = true then (if (((pg_sv.getD 1 []).getD x1.toNat 0).toInt) ≤ x3 then LnE e N x1 x2 x3 S else (if x3 = 0 then (if w_nb (x3 * x2) = true then (e_sw x1 0 [Ln0 e N x2 x3 S (fun T => El_RuleBook_readLines e N n 0 [x1, x2, x3 + 1] [] T), Ln1 e N x2 x3 S (fun T => El_RuleBook_readLines e N n 0 [x1, x2, x3 + 1] [] T), Ln2 e N x2 x3 S (fun T => El_RuleBook_readLines e N n 0 [x1, x2, x3 + 1] [] T), Ln3 e N x2 x3 S (fun T => El_RuleBook_readLines e N n 0 [x1, x2, x3 + 1] [] T)] (Ln4 e N x2 x3 S (fun T => El_RuleBook_readLines e N n 0 [x1, x2, x3 + 1] [] T))) else none) else ((E_Tape_peek e N  S).bind (fun q => (if q.1 = (-1) then LnE e N x1 x2 x3 q.2 else (if w_nb (x3 * x2) = true then (e_sw x1 0 [Ln0 e N x2 x3 q.2 (fun T => El_RuleBook_readLines e N n 0 [x1, x2, x3 + 1] [] T), Ln1 e N x2 x3 q.2 (fun T => El_RuleBook_readLines e N n 0 [x1, x2, x3 + 1] [] T), Ln2 e N x2 x3 q.2 (fun T => El_RuleBook_readLines e N n 0 [x1, x2, x3 + 1] [] T), Ln3 e N x2 x3 q.2 (fun T => El_RuleBook_readLines e N n 0 [x1, x2, x3 + 1] [] T)] (Ln4 e N x2 x3 q.2 (fun T => El_RuleBook_readLines e N n 0 [x1, x2, x3 + 1] [] T))) else none)))))) else none) := by
  rw [El_RuleBook_readLines]
  delta Ln0 Ln1 Ln2 Ln3 Ln4 LnE
  rfl
end
section
-- bp
theorem arr_self (S : w_S) (b : Nat) : w_arr S b (S.1 b) = S := by
  refine w_ext (fun c j => ?_) rfl
  rw [w_arr_r]
  by_cases h : c = b
  · rw [if_pos h, h]
  · rw [if_neg h]
theorem TX.arr {S : w_S} {f len : Int} {G : Int → Int} {b : Nat} {g : Nat → Int} (h : TX S f len G) (h1 : b ≠ 1) (h2 : b ≠ 2) : TX (w_arr S b g) f len G := by
  unfold TX at h ⊢
  rw [w_arr_r, w_arr_r, if_neg (Ne.symm h1), if_neg (Ne.symm h2)]
  exact h
theorem pB_ge {G : Int → Int} {b q : Int} (h : 0 ≤ pB G b q) : 0 ≤ q ∧ G q = b ∧ pB G b q = q + 1 := by
  unfold pB at h ⊢
  split at h
  · omega
  · split at h
    · rename_i h1 h2
      rw [if_neg h1, if_pos h2]
      exact ⟨by omega, h2, rfl⟩
    · omega
theorem pN_ge {G : Int → Int} {len lo hi q : Int} (h : 0 ≤ pN G len lo hi q) : 0 ≤ q := by
  unfold pN at h
  split at h
  · omega
  · omega
theorem pP_ge {P : Int → Bool} {G : Int → Int} {q : Int} (h : 0 ≤ pP P G q) : 0 ≤ q ∧ P (G q) = true ∧ pP P G q = q + 1 := by
  unfold pP at h ⊢
  split at h
  · omega
  · split at h
    · rename_i h1 h2
      rw [if_neg h1, if_pos h2]
      exact ⟨by omega, h2, rfl⟩
    · omega
theorem pB_neg {G : Int → Int} {b q : Int} (h : q < 0) : pB G b q = q := by
  unfold pB
  rw [if_pos h]
theorem pN_neg {G : Int → Int} {len lo hi q : Int} (h : q < 0) : pN G len lo hi q = q := by
  unfold pN
  rw [if_pos h]
theorem pP_neg {P : Int → Bool} {G : Int → Int} {q : Int} (h : q < 0) : pP P G q = q := by
  unfold pP
  rw [if_pos h]
def srt (c : Int) : Bool := decide (c = 42) || (decide (48 ≤ c) && decide (c ≤ 52))
theorem srt_iff {c : Int} : srt c = true ↔ c = 42 ∨ (48 ≤ c ∧ c ≤ 52) := by
  unfold srt
  simp only [Bool.or_eq_true, Bool.and_eq_true, decide_eq_true_eq]
/-- the least and the greatest number of a rule's column -/
def lmn (k : Nat) : Int := if k = 2 then 1 else 0
def lmx (k : Nat) : Int := if k = 2 then 365 else if k = 3 then 9 else if k = 4 then 99 else if k = 5 then 999 else 99999
/-- where a rule's column begins -/
def lq (G : Int → Int) (len q : Int) : Nat → Int
  | 0 => q
  | k + 1 => pB G (if k = 6 then 10 else 32) (if k < 2 then pP srt G (lq G len q k) else pN G len (lmn k) (lmx k) (lq G len q k))
def lv (G : Int → Int) (len q : Int) (k : Nat) : Int := if k < 2 then (if G (lq G len q k) = 42 then 5 else G (lq G len q k) - 48) else vl G (lq G len q k) (nd G (len - lq G len q k).toNat (lq G len q k))
theorem lq_ge {G : Int → Int} {len q : Int} : ∀ (k j : Nat), j ≤ k → 0 ≤ lq G len q k → 0 ≤ lq G len q j
  | 0, j, hj, h => by
    rw [show j = 0 by omega]
    exact h
  | k + 1, j, hj, h => by
    rcases Nat.lt_or_ge k j with c | c
    · rw [show j = k + 1 by omega]
      exact h
    · refine lq_ge k j c ?_
      rw [lq] at h
      have h1 := (pB_ge h).1
      split at h1
      · exact (pP_ge h1).1
      · exact pN_ge h1
theorem At.wm {f len a w q : Int} (h : At f len a w q) (k : 0 ≤ q) : w = -1 := (h.right.1 k).1
end
section
-- bq
/-- what the class reads of a sort -/
theorem x_sortA {e : w_E} {N : Nat} {S : w_S} {f len a w q : Int} {G : Int → Int} (h : TX S f len G) (ha : At f len a w q) (c : (if q < 0 then (-1 : Int) else G q) ≠ 42) : Ok (E_Tape_takeBetween e N 48 52 (tp S a w)) (Tk S f len (pP srt G q) (fun y => y = if G q = 42 then 5 else G q - 48)) := by
  refine (x_takeBetween h ha (by decide)).mono (fun y S1 z => ?_)
  obtain ⟨a1, w1, z1, z2, z3⟩ := z
  have e1 : pP srt G q = pR G 48 52 q := by
    unfold pP pR
    by_cases c0 : q < 0
    · rw [if_pos c0, if_pos c0]
    · rw [if_neg c0] at c
      rw [if_neg c0, if_neg c0]
      by_cases k : 48 ≤ G q ∧ G q ≤ 52
      · rw [if_pos k, if_pos (srt_iff.2 (Or.inr k))]
      · rw [if_neg k, if_neg (by rw [srt_iff]; omega)]
  refine ⟨a1, w1, z1, by rw [e1]; exact z2, fun hw => ?_⟩
  have k := z3 hw
  rw [if_neg (by omega)]
  exact k.1
theorem x_sortB {e : w_E} {N : Nat} {S : w_S} {f len a w q : Int} {G : Int → Int} (h : TX S f len G) (ha : At f len a w q) (c : ¬ (if q < 0 then (-1 : Int) else G q) ≠ 42) : Ok (E_Tape_takeByte e N 42 (tp S a w)) (Tk S f len (pP srt G q) (fun _ => 5 = if G q = 42 then 5 else G q - 48)) := by
  have c0 : ¬ q < 0 := fun d => c (by rw [if_pos d]; decide)
  rw [if_neg c0] at c
  have d : G q = 42 := by omega
  refine (x_takeByte h ha (by decide)).mono (fun y S1 z => ?_)
  obtain ⟨a1, w1, z1, z2, z3⟩ := z
  have e1 : pP srt G q = pB G 42 q := by
    unfold pP pB
    rw [if_neg c0, if_neg c0, if_pos d, if_pos (srt_iff.2 (Or.inl d))]
  exact ⟨a1, w1, z1, by rw [e1]; exact z2, fun hw => by rw [if_pos d]⟩
theorem x_ln0 {e : w_E} {N i : Nat} {S : w_S} {f len a w q : Int} {G : Int → Int} {g : Nat → Int} {K : w_S → e_R} {Q : Int → w_S → Prop} (hN : 2001 ≤ N) (h : TX S f len G) (ha : At f len a w q) (hi : i < 20) (hk : ∀ g' a' w', At f len a' w' (lq G len q 7) → (0 ≤ lq G len q 7 → (∀ k, k < 7 → g' (7 * i + k) = lv G len q k) ∧ ∀ j, j < 7 * i → g' j = g j) → Ok (K (tp (w_arr S 36 g') a' w')) Q) : Ok (Ln0 e N 7 (i : Int) (tp (w_arr S 36 g) a w) K) Q := by
  have hA : ∀ g, TX (w_arr S 36 g) f len G := fun g => h.arr (by decide) (by decide)
  clear h
  unfold Ln0
  refine ok_b (ok_of (x_peek (hA g) ha) ?_)
  dsimp only
  refine ok_if (fun c => tk_b (x_sortA (hA g) ha c) (fun y0 a0 w0 ha0 hy0 => ?_)) (fun c => tk_b (x_sortB (hA g) ha c) (fun y0 a0 w0 ha0 hy0 => ?_))
  all_goals
    clear c
    dsimp only
    refine ok_ib (by omega) ?_
    rw [tp_put _ _ _ _ (by decide), w_arr_put]
    refine tk_b (x_takeByte (hA _) ha0 (by decide)) (fun _ b0 v0 hb0 _ => ?_)
    dsimp only
    refine ok_nb (by omega) ?_
    refine ok_b (ok_of (x_peek (hA _) hb0) ?_)
    dsimp only
    refine ok_if (fun c => tk_b (x_sortA (hA _) hb0 c) (fun y1 a1 w1 ha1 hy1 => ?_)) (fun c => tk_b (x_sortB (hA _) hb0 c) (fun y1 a1 w1 ha1 hy1 => ?_))
  all_goals
    clear c
    dsimp only
    refine ok_ib (by omega) ?_
    rw [tp_put _ _ _ _ (by decide), w_arr_put]
    refine tk_b (x_takeByte (hA _) ha1 (by decide)) (fun _ b1 v1 hb1 _ => ?_)
    dsimp only
    refine ok_nb (by omega) ?_
    refine tk_b (x_takeNumber hN (hA _) hb1) (fun y2 a2 w2 ha2 hy2 => ?_)
    dsimp only
    refine ok_ib (by omega) ?_
    rw [tp_put _ _ _ _ (by decide), w_arr_put]
    refine tk_b (x_takeByte (hA _) ha2 (by decide)) (fun _ b2 v2 hb2 _ => ?_)
    dsimp only
    refine ok_nb (by omega) ?_
    refine tk_b (x_takeNumber hN (hA _) hb2) (fun y3 a3 w3 ha3 hy3 => ?_)
    dsimp only
    refine ok_ib (by omega) ?_
    rw [tp_put _ _ _ _ (by decide), w_arr_put]
    refine tk_b (x_takeByte (hA _) ha3 (by decide)) (fun _ b3 v3 hb3 _ => ?_)
    dsimp only
    refine ok_nb (by omega) ?_
    refine tk_b (x_takeNumber hN (hA _) hb3) (fun y4 a4 w4 ha4 hy4 => ?_)
    dsimp only
    refine ok_ib (by omega) ?_
    rw [tp_put _ _ _ _ (by decide), w_arr_put]
    refine tk_b (x_takeByte (hA _) ha4 (by decide)) (fun _ b4 v4 hb4 _ => ?_)
    dsimp only
    refine ok_nb (by omega) ?_
    refine tk_b (x_takeNumber hN (hA _) hb4) (fun y5 a5 w5 ha5 hy5 => ?_)
    dsimp only
    refine ok_ib (by omega) ?_
    rw [tp_put _ _ _ _ (by decide), w_arr_put]
    refine tk_b (x_takeByte (hA _) ha5 (by decide)) (fun _ b5 v5 hb5 _ => ?_)
    dsimp only
    refine ok_nb (by omega) ?_
    refine tk_b (x_takeNumber hN (hA _) hb5) (fun y6 a6 w6 ha6 hy6 => ?_)
    dsimp only
    refine ok_ib (by omega) ?_
    rw [tp_put _ _ _ _ (by decide), w_arr_put]
    refine tk_b (x_takeByte (hA _) ha6 (by decide)) (fun _ b6 v6 hb6 _ => ?_)
    dsimp only
    refine ok_nb (by omega) ?_
    refine hk _ _ _ hb6 (fun z => ⟨fun k hk7 => ?_, fun j hj => ?_⟩)
    · have z6 := lq_ge 7 6 (by omega) z
      have z5 := lq_ge 7 5 (by omega) z
      have z4 := lq_ge 7 4 (by omega) z
      have z3 := lq_ge 7 3 (by omega) z
      have z2 := lq_ge 7 2 (by omega) z
      have z1 := lq_ge 7 1 (by omega) z
      have kk : k = 0 ∨ k = 1 ∨ k = 2 ∨ k = 3 ∨ k = 4 ∨ k = 5 ∨ k = 6 := by omega
      simp only [pt_at]
      rcases kk with rfl | rfl | rfl | rfl | rfl | rfl | rfl
      · rw [if_neg (by omega), if_neg (by omega), if_neg (by omega), if_neg (by omega), if_neg (by omega), if_neg (by omega), if_pos (by omega)]
        exact hy0 (ha0.wm (pB_ge z1).1)
      · rw [if_neg (by omega), if_neg (by omega), if_neg (by omega), if_neg (by omega), if_neg (by omega), if_pos (by omega)]
        exact hy1 (ha1.wm (pB_ge z2).1)
      · rw [if_neg (by omega), if_neg (by omega), if_neg (by omega), if_neg (by omega), if_pos (by omega)]
        exact (hy2 (ha2.wm (pB_ge z3).1)).1
      · rw [if_neg (by omega), if_neg (by omega), if_neg (by omega), if_pos (by omega)]
        exact (hy3 (ha3.wm (pB_ge z4).1)).1
      · rw [if_neg (by omega), if_neg (by omega), if_pos (by omega)]
        exact (hy4 (ha4.wm (pB_ge z5).1)).1
      · rw [if_neg (by omega), if_pos (by omega)]
        exact (hy5 (ha5.wm (pB_ge z6).1)).1
      · rw [if_pos (by omega)]
        exact (hy6 (ha6.wm (pB_ge z).1)).1
    · simp only [pt_at]
      rw [if_neg (by omega), if_neg (by omega), if_neg (by omega), if_neg (by omega), if_neg (by omega), if_neg (by omega), if_neg (by omega)]
end
section
-- br
theorem lq_stop {G : Int → Int} {len q : Int} {k : Nat} (h : lq G len q k < 0) : ∀ m, lq G len q (k + m) = lq G len q k
  | 0 => rfl
  | m + 1 => by
    have ih := lq_stop h m
    rw [← Nat.add_assoc, lq]
    rw [ih, pP_neg h, pN_neg h, ite_self, pB_neg h]
theorem tr_lt {R : w_S} {len p : Int} {G : Int → Int} (h : TR R len G) (h0 : 0 ≤ p) (h1 : 0 ≤ G p) : p < len := by
  obtain ⟨_, _, _, h4⟩ := h
  rcases Int.lt_or_le p len with c | c
  · exact c
  · have := (h4 p h0).2 c
    omega
theorem l_rt1 {e : w_E} {N to : Nat} {len q : Int} {G : Int → Int} (hN : 2001 ≤ N) (hto : to ≤ 133) : ∀ (m k nf : Nat) (R : w_S), k + m = 7 → 2 ≤ k → m < nf → TR R len G → 0 ≤ lq G len q k → lq G len q k ≤ len → Ok (El_R_ruleText e N nf 1 [(to : Int), lq G len q k, (k : Int)] [] R) (fun y R1 => y = lq G len q 7 ∧ frm [212] [129] [(129, 3)] R R1 ∧ (0 ≤ y → ∀ j, k ≤ j → j < 7 → R1.1 212 (to + j) = lv G len q j) ∧ ∀ j, j < to + k → R1.1 212 j = R.1 212 j)
  | _, _, 0, _, _, _, h, _, _, _ => by omega
  | 0, k, nf + 1, R, h1, h2, h3, hR, hq, hl => by
    have : k = 7 := by omega
    subst this
    rw [El_R_ruleText]
    refine ok_t (by omega) (ok_s ⟨rfl, frm.refl _ _ _ _, fun _ j a b => by omega, fun _ _ => rfl⟩)
  | m + 1, k, nf + 1, R, h1, h2, h3, hR, hq, hl => by
    have hn := x_numeral (e := e) (lo := lmn k) (hi := lmx k) hN hR hq hl
    have e1 : lq G len q (k + 1) = pB G (if k = 6 then 10 else 32) (pN G len (lmn k) (lmx k) (lq G len q k)) := by
      rw [lq, if_neg (by omega : ¬ k < 2)]
    have ev : lv G len q k = vl G (lq G len q k) (nd G (len - lq G len q k).toNat (lq G len q k)) := by
      rw [lv, if_neg (by omega : ¬ k < 2)]
    rw [← ev] at hn
    have ih := l_rt1 (e := e) (q := q) (len := len) (G := G) hN hto m (k + 1) nf
    have l2 : k = 2 → lmn k = 1 ∧ lmx k = 365 := fun z => by subst z; exact ⟨rfl, rfl⟩
    have l3 : k = 3 → lmn k = 0 ∧ lmx k = 9 := fun z => by subst z; exact ⟨rfl, rfl⟩
    have l4 : k = 4 → lmn k = 0 ∧ lmx k = 99 := fun z => by subst z; exact ⟨rfl, rfl⟩
    have l5 : k = 5 → lmn k = 0 ∧ lmx k = 999 := fun z => by subst z; exact ⟨rfl, rfl⟩
    have l6 : k = 6 → lmn k = 0 ∧ lmx k = 99999 := fun z => by subst z; exact ⟨rfl, rfl⟩
    generalize hp : pN G len (lmn k) (lmx k) (lq G len q k) = p at hn e1
    generalize hu : lq G len q k = u at hn hq hl hp ⊢
    generalize lmn k = lo at hn l2 l3 l4 l5 l6 hp
    generalize lmx k = hi at hn l2 l3 l4 l5 l6 hp
    have hv : ∃ v, v = lv G len q k := ⟨_, rfl⟩
    obtain ⟨v, hv⟩ := hv
    rw [← hv] at hn ev
    have hn2 : k = 2 → E_R_numeral e N u 1 365 R = some (p, if 0 ≤ p then w_put R 129 3 v else R) := fun z => by rw [(l2 z).1, (l2 z).2] at hn; exact hn
    have hn3 : k = 3 → E_R_numeral e N u 0 9 R = some (p, if 0 ≤ p then w_put R 129 3 v else R) := fun z => by rw [(l3 z).1, (l3 z).2] at hn; exact hn
    have hn4 : k = 4 → E_R_numeral e N u 0 99 R = some (p, if 0 ≤ p then w_put R 129 3 v else R) := fun z => by rw [(l4 z).1, (l4 z).2] at hn; exact hn
    have hn5 : k = 5 → E_R_numeral e N u 0 999 R = some (p, if 0 ≤ p then w_put R 129 3 v else R) := fun z => by rw [(l5 z).1, (l5 z).2] at hn; exact hn
    have hn6 : k = 6 → E_R_numeral e N u 0 99999 R = some (p, if 0 ≤ p then w_put R 129 3 v else R) := fun z => by rw [(l6 z).1, (l6 z).2] at hn; exact hn
    clear hn l2 l3 l4 l5 l6
    have pb : -2147483647 ≤ p ∧ p ≤ len := by
      have nb := nd_le G (len - u).toNat u
      have := hR.2.2.1
      rw [← hp]
      unfold pN
      rw [if_neg (by omega : ¬ u < 0)]
      split <;> omega
    have lb : len ≤ 2000 := hR.2.2.1
    clear hp ev
    rw [El_R_ruleText]
    by_cases c : 0 ≤ p
    · rw [if_pos c] at hn2 hn3 hn4 hn5 hn6
      have hR' : ∀ t x, TR (w_put (w_put R 129 3 v) 212 t x) len G := fun t x => (hR.put (Or.inr rfl) (by decide)).put (Or.inl (by decide)) (by decide)
      have hx : ∀ t x, E_R_at e N p (w_put (w_put R 129 3 v) 212 t x) = some (G p, w_put (w_put R 129 3 v) 212 t x) := fun t x => x_at (hR' t x) c
      have hlt := tr_lt hR c
      have tail1 : G p = (if k = 6 then 10 else 32) → Ok (El_R_ruleText e N nf 1 [(to : Int), p + 1, (k : Int) + 1] [] (w_put (w_put R 129 3 v) 212 ((to : Int) + (k : Int)).toNat ((w_put R 129 3 v).1 129 3))) (fun y R1 => y = lq G len q 7 ∧ frm [212] [129] [(129, 3)] R R1 ∧ (0 ≤ y → ∀ j, k ≤ j → j < 7 → R1.1 212 (to + j) = lv G len q j) ∧ ∀ j, j < to + k → R1.1 212 j = R.1 212 j) := by
        intro hg
        have hge : 0 ≤ G p := by
          rw [hg]
          split <;> omega
        have e2 : lq G len q (k + 1) = p + 1 := by
          rw [e1]
          unfold pB
          rw [if_neg (by omega), if_pos hg]
        rw [e2, show ((k + 1 : Nat) : Int) = (k : Int) + 1 from by omega] at ih
        refine (ih _ (by omega) (by omega) (by omega) (hR' _ _) (by omega) (by have := hlt hge; omega)).mono (fun y R1 z => ?_)
        obtain ⟨z1, z2, z3, z4⟩ := z
        refine ⟨z1, frm.trans (by repeat (first | exact frm.refl _ _ _ _ | refine frm.put ?_ rfl | refine frm.puto ?_ rfl rfl)) z2, fun hy j j1 j2 => ?_, fun j hj => ?_⟩
        · by_cases d : j = k
          · subst d
            rw [z4 (to + j) (by omega), ← hv]
            simp only [w_put_r, reduceIte, Nat.reduceEqDiff, pt_at]
            rw [if_pos (by omega)]
          · exact z3 hy j (by omega) j2
        · rw [z4 j (by omega)]
          simp only [w_put_r, reduceIte, Nat.reduceEqDiff, pt_at]
          rw [if_neg (by omega)]
      have tail2 : G p ≠ (if k = 6 then 10 else 32) → (-1 : Int) - p = lq G len q 7 := by
        intro hg
        have e2 : lq G len q (k + 1) = -1 - p := by
          rw [e1]
          unfold pB
          rw [if_neg (by omega), if_neg hg]
        have e3 := lq_stop (G := G) (len := len) (q := q) (k := k + 1) (by omega) m
        rw [show k + 1 + m = 7 by omega, e2] at e3
        exact e3.symm
      clear ih e1 hR
      repeat' (first | (with_reducible refine ok_of (hn2 (by omega)) ?_; dsimp only) | (with_reducible refine ok_of (hn3 (by omega)) ?_; dsimp only) | (with_reducible refine ok_of (hn4 (by omega)) ?_; dsimp only) | (with_reducible refine ok_of (hn5 (by omega)) ?_; dsimp only) | (with_reducible refine ok_of (hn6 (by omega)) ?_; dsimp only) | (with_reducible refine ok_of (hx _ _) ?_; dsimp only) | with_reducible refine ok_nb (by omega) ?_ | with_reducible refine ok_ib (by omega) ?_ | with_reducible refine ok_t (by omega) ?_ | with_reducible refine ok_e (by omega) ?_ | with_reducible refine ok_if (fun h => ?_) (fun h => ?_) | with_reducible refine ok_s ?_ | with_reducible refine ok_b ?_)
      all_goals first | (exfalso; omega) | exact tail1 (by rw [if_neg (by omega)]; assumption) | exact tail1 (by rw [if_pos (by omega)]; assumption) | skip
      all_goals refine ⟨tail2 (by first | (rw [if_neg (by omega)]; assumption) | (rw [if_pos (by omega)]; assumption)), by repeat (first | exact frm.refl _ _ _ _ | refine frm.put ?_ rfl | refine frm.puto ?_ rfl rfl), fun z => by omega, fun j hj => ?_⟩
      all_goals (simp only [w_put_r, reduceIte, Nat.reduceEqDiff, pt_at]; rw [if_neg (by omega)])
    · rw [if_neg c] at hn2 hn3 hn4 hn5 hn6
      have e2 : lq G len q (k + 1) = p := by
        rw [e1, pB_neg (by omega)]
      have e3 := lq_stop (G := G) (len := len) (q := q) (k := k + 1) (by omega) m
      rw [show k + 1 + m = 7 by omega, e2] at e3
      clear ih e1 hR
      repeat' (first | (with_reducible refine ok_of (hn2 (by omega)) ?_; dsimp only) | (with_reducible refine ok_of (hn3 (by omega)) ?_; dsimp only) | (with_reducible refine ok_of (hn4 (by omega)) ?_; dsimp only) | (with_reducible refine ok_of (hn5 (by omega)) ?_; dsimp only) | (with_reducible refine ok_of (hn6 (by omega)) ?_; dsimp only) | with_reducible refine ok_nb (by omega) ?_ | with_reducible refine ok_ib (by omega) ?_ | with_reducible refine ok_t (by omega) ?_ | with_reducible refine ok_e (by omega) ?_ | with_reducible refine ok_if (fun h => ?_) (fun h => ?_) | with_reducible refine ok_s ?_ | with_reducible refine ok_b ?_)
      all_goals first | (exfalso; omega) | exact ⟨e3.symm, frm.refl _ _ _ _, fun z => by omega, fun j hj => rfl⟩
theorem l_rt0 {e : w_E} {N to : Nat} {len q : Int} {G : Int → Int} (hN : 2001 ≤ N) (hto : to ≤ 133) (h0 : 0 ≤ q) : ∀ (m k nf : Nat) (R : w_S), k + m = 2 → m + 6 < nf → TR R len G → lq G len q k = q + 2 * k → q + 2 * k ≤ len → Ok (El_R_ruleText e N nf 0 [q, (to : Int), (k : Int)] [] R) (fun y R1 => y = lq G len q 7 ∧ frm [212] [129] [(129, 3)] R R1 ∧ (0 ≤ y → ∀ j, k ≤ j → j < 7 → R1.1 212 (to + j) = lv G len q j) ∧ ∀ j, j < to + k → R1.1 212 j = R.1 212 j)
  | _, _, 0, _, _, h, _, _, _ => by omega
  | 0, k, nf + 1, R, h1, h3, hR, hq, hl => by
    have : k = 2 := by omega
    subst this
    have lb : len ≤ 2000 := hR.2.2.1
    have := l_rt1 (e := e) (q := q) hN hto 5 2 nf R (by omega) (by omega) (by omega) hR (by omega) (by omega)
    rw [hq] at this
    rw [El_R_ruleText]
    refine ok_t (by omega) (ok_nb (by omega) ?_)
    exact this
  | m + 1, k, nf + 1, R, h1, h3, hR, hq, hl => by
    have lb : len ≤ 2000 := hR.2.2.1
    have e1 : lq G len q (k + 1) = pB G 32 (pP srt G (q + 2 * k)) := by
      rw [lq, if_pos (by omega : k < 2), if_neg (by omega : ¬ k = 6), hq]
    have ih := l_rt0 (e := e) (len := len) (G := G) hN hto h0 m (k + 1) nf
    have hv : lv G len q k = if G (q + 2 * k) = 42 then 5 else G (q + 2 * k) - 48 := by
      rw [lv, if_pos (by omega : k < 2), hq]
    have hx : E_R_at e N (q + 2 * k) R = some (G (q + 2 * k), R) := x_at hR (by omega)
    have hR' : ∀ t x, TR (w_put R 212 t x) len G := fun t x => hR.put (Or.inl (by decide)) (by decide)
    have hx' : ∀ t x, E_R_at e N (q + 2 * k + 1) (w_put R 212 t x) = some (G (q + 2 * k + 1), w_put R 212 t x) := fun t x => x_at (hR' t x) (by omega)
    have hlt := tr_lt hR (p := q + 2 * k + 1) (by omega)
    have hb := hR.b (p := q + 2 * k) (by omega)
    have st : lq G len q (k + 1) < 0 → lq G len q (k + 1) = lq G len q 7 := fun z => by
      have e3 := lq_stop (G := G) (len := len) (q := q) (k := k + 1) z (m + 5)
      rw [show k + 1 + (m + 5) = 7 + 1 - 1 by omega] at e3
      exact e3.symm
    generalize hu : q + 2 * (k : Int) = u at *
    have tail1 : ∀ x, x = lv G len q k → srt (G u) = true → G (u + 1) = 32 → Ok (El_R_ruleText e N nf 0 [q, (to : Int), (k : Int) + 1] [] (w_put R 212 ((to : Int) + (k : Int)).toNat x)) (fun y R1 => y = lq G len q 7 ∧ frm [212] [129] [(129, 3)] R R1 ∧ (0 ≤ y → ∀ j, k ≤ j → j < 7 → R1.1 212 (to + j) = lv G len q j) ∧ ∀ j, j < to + k → R1.1 212 j = R.1 212 j) := by
      intro x hx hs hg
      have e2 : lq G len q (k + 1) = u + 2 := by
        rw [e1]
        unfold pP
        rw [if_neg (by omega), if_pos hs]
        unfold pB
        rw [if_neg (by omega), if_pos hg]
        omega
      rw [e2, show ((k + 1 : Nat) : Int) = (k : Int) + 1 from by omega] at ih
      refine (ih _ (by omega) (by omega) (hR' _ _) (by omega) (by have := hlt (by omega); omega)).mono (fun y R1 z => ?_)
      obtain ⟨z1, z2, z3, z4⟩ := z
      refine ⟨z1, frm.trans (by repeat (first | exact frm.refl _ _ _ _ | refine frm.put ?_ rfl | refine frm.puto ?_ rfl rfl)) z2, fun hy j j1 j2 => ?_, fun j hj => ?_⟩
      · by_cases d : j = k
        · subst d
          rw [z4 (to + j) (by omega), ← hx]
          simp only [w_put_r, reduceIte, Nat.reduceEqDiff, pt_at]
          rw [if_pos (by omega)]
        · exact z3 hy j (by omega) j2
      · rw [z4 j (by omega)]
        simp only [w_put_r, reduceIte, Nat.reduceEqDiff, pt_at]
        rw [if_neg (by omega)]
    have tail2 : srt (G u) = true → G (u + 1) ≠ 32 → (-1 : Int) - (u + 1) = lq G len q 7 := fun hs hg => by
      have e2 : lq G len q (k + 1) = -1 - (u + 1) := by
        rw [e1]
        unfold pP
        rw [if_neg (by omega), if_pos hs]
        unfold pB
        rw [if_neg (by omega), if_neg hg]
      rw [← st (by omega), e2]
    have tail3 : ¬ srt (G u) = true → (-1 : Int) - u = lq G len q 7 := fun hs => by
      have e2 : lq G len q (k + 1) = -1 - u := by
        rw [e1]
        unfold pP
        rw [if_neg (by omega), if_neg hs, pB_neg (by omega)]
      rw [← st (by omega), e2]
    clear ih st hlt
    rw [El_R_ruleText]
    rw [hu]
    by_cases c : G u = 42
    · rw [if_pos c] at hv
      have hs := srt_iff.2 (Or.inl c)
      repeat' (first | (with_reducible refine ok_of hx ?_; dsimp only) | (with_reducible refine ok_of (hx' _ _) ?_; dsimp only) | with_reducible refine ok_nb (by omega) ?_ | with_reducible refine ok_ib (by omega) ?_ | with_reducible refine ok_t (by omega) ?_ | with_reducible refine ok_e (by omega) ?_ | with_reducible refine ok_if (fun h => ?_) (fun h => ?_) | with_reducible refine ok_s ?_ | with_reducible refine ok_b ?_)
      all_goals first | (exfalso; omega) | exact tail1 _ hv.symm hs (by assumption) | skip
      all_goals refine ⟨tail2 hs (by assumption), by repeat (first | exact frm.refl _ _ _ _ | refine frm.put ?_ rfl | refine frm.puto ?_ rfl rfl), fun z => by omega, fun j hj => ?_⟩
      all_goals (simp only [w_put_r, reduceIte, Nat.reduceEqDiff, pt_at]; rw [if_neg (by omega)])
    · rw [if_neg c] at hv
      by_cases d : 48 ≤ G u ∧ G u ≤ 52
      · have hs := srt_iff.2 (Or.inr d)
        repeat' (first | (with_reducible refine ok_of hx ?_; dsimp only) | (with_reducible refine ok_of (hx' _ _) ?_; dsimp only) | with_reducible refine ok_nb (by omega) ?_ | with_reducible refine ok_ib (by omega) ?_ | with_reducible refine ok_t (by omega) ?_ | with_reducible refine ok_e (by omega) ?_ | with_reducible refine ok_if (fun h => ?_) (fun h => ?_) | with_reducible refine ok_s ?_ | with_reducible refine ok_b ?_)
        all_goals first | (exfalso; omega) | exact tail1 _ hv.symm hs (by assumption) | skip
        all_goals refine ⟨tail2 hs (by assumption), by repeat (first | exact frm.refl _ _ _ _ | refine frm.put ?_ rfl | refine frm.puto ?_ rfl rfl), fun z => by omega, fun j hj => ?_⟩
        all_goals (simp only [w_put_r, reduceIte, Nat.reduceEqDiff, pt_at]; rw [if_neg (by omega)])
      · have hs : ¬ srt (G u) = true := by
          rw [srt_iff]
          omega
        have t3 := tail3 hs
        clear tail1 tail2 tail3
        repeat' (first | (with_reducible refine ok_of hx ?_; dsimp only) | (with_reducible refine ok_of (hx' _ _) ?_; dsimp only) | with_reducible refine ok_nb (by omega) ?_ | with_reducible refine ok_ib (by omega) ?_ | with_reducible refine ok_t (by omega) ?_ | with_reducible refine ok_e (by omega) ?_ | with_reducible refine ok_if (fun h => ?_) (fun h => ?_) | with_reducible refine ok_s ?_ | with_reducible refine ok_b ?_)
        all_goals first | (exfalso; omega) | exact ⟨t3, frm.refl _ _ _ _, fun z => by omega, fun j hj => rfl⟩
theorem x_ruleText {e : w_E} {N to : Nat} {len q : Int} {G : Int → Int} {R : w_S} (hN : 2001 ≤ N) (hto : to ≤ 133) (h0 : 0 ≤ q) (hl : q ≤ len) (hR : TR R len G) : Ok (E_R_ruleText e N q (to : Int) R) (fun y R1 => y = lq G len q 7 ∧ frm [212] [129] [(129, 3)] R R1 ∧ (0 ≤ y → ∀ j, j < 7 → R1.1 212 (to + j) = lv G len q j) ∧ ∀ j, j < to → R1.1 212 j = R.1 212 j) := by
  unfold E_R_ruleText
  refine (l_rt0 (e := e) hN hto h0 2 0 N R (by omega) (by omega) hR (by rw [lq]; omega) (by omega)).mono (fun y R1 z => ?_)
  obtain ⟨z1, z2, z3, z4⟩ := z
  exact ⟨z1, z2, fun hy j hj => z3 hy j (by omega) hj, fun j hj => z4 j (by omega)⟩
end
