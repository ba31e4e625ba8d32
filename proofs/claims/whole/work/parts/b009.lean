section
-- a4
def RelS (S R : w_S)  : Prop := R.1 129 148 = S.1 89 0 ∧ 0 ≤ S.1 89 0 ∧ S.1 89 0 ≤ 30 ∧ (∀ s : Nat, s < 6 → (S.1 91 s = 0 ∨ S.1 91 s = 1) ∧ R.1 229 s = 1 - S.1 91 s) ∧ ∀ p : Nat, 1 ≤ p → (p : Int) ≤ S.1 89 0 → R.1 228 p = S.1 90 p ∧ 1 ≤ S.1 90 p ∧ S.1 90 p ≤ 200 ∧ ∀ s : Nat, s < 6 → (S.1 92 (6 * p + s) = 0 ∨ S.1 92 (6 * p + s) = 1) ∧ R.1 230 (6 * p + s) = S.1 92 (6 * p + s) ∧ (S.1 92 (6 * p + s) = 1 → ∀ i : Nat, (i : Int) < S.1 90 p → R.1 231 (200 * (6 * p + s) + i) = S.1 93 (200 * (6 * p + s) + i) ∧ -128 ≤ S.1 93 (200 * (6 * p + s) + i) ∧ S.1 93 (200 * (6 * p + s) + i) ≤ 127)
theorem RelS.fr {S R S1 R1 : w_S}  {L O L' O' : List Nat} {J J' : List (Nat × Nat)} (h : RelS S R ) (hf : frm L O J S S1) (hg : frm L' O' J' R R1) (dd : (ckA L O [90, 91, 92, 93] && (ckS L J [(89, 0)] && (ckA L' O' [228, 229, 230, 231] && ckS L' J' [(129, 148)]))) = true) : RelS S1 R1  := by
  have d := ck4 dd
  have a0 : S1.1 90 = S.1 90 := hf.2.1 90 (d.1 90 (by decide)).1 (d.1 90 (by decide)).2
  have a1 : S1.1 91 = S.1 91 := hf.2.1 91 (d.1 91 (by decide)).1 (d.1 91 (by decide)).2
  have a2 : S1.1 92 = S.1 92 := hf.2.1 92 (d.1 92 (by decide)).1 (d.1 92 (by decide)).2
  have a3 : S1.1 93 = S.1 93 := hf.2.1 93 (d.1 93 (by decide)).1 (d.1 93 (by decide)).2
  have b0 : S1.1 89 0 = S.1 89 0 := hf.2.2 89 0 (d.2.1 (89, 0) (by decide)).1 (d.2.1 (89, 0) (by decide)).2
  have g0 : R1.1 228 = R.1 228 := hg.2.1 228 (d.2.2.1 228 (by decide)).1 (d.2.2.1 228 (by decide)).2
  have g1 : R1.1 229 = R.1 229 := hg.2.1 229 (d.2.2.1 229 (by decide)).1 (d.2.2.1 229 (by decide)).2
  have g2 : R1.1 230 = R.1 230 := hg.2.1 230 (d.2.2.1 230 (by decide)).1 (d.2.2.1 230 (by decide)).2
  have g3 : R1.1 231 = R.1 231 := hg.2.1 231 (d.2.2.1 231 (by decide)).1 (d.2.2.1 231 (by decide)).2
  have k0 : R1.1 129 148 = R.1 129 148 := hg.2.2 129 148 (d.2.2.2 (129, 148) (by decide)).1 (d.2.2.2 (129, 148) (by decide)).2
  unfold RelS at h ⊢
  simp only [a0, a1, a2, a3, b0, g0, g1, g2, g3, k0]
  exact h
abbrev SC : List Nat := [90, 91, 92, 93]
abbrev SJ : List (Nat × Nat) := [(89, 0)]
abbrev SCr : List Nat := [228, 229, 230, 231]
abbrev SJr : List (Nat × Nat) := [(129, 148)]
def Qs (S R : w_S) (S1 R1 : w_S) : Prop := frm SC [89] SJ S S1 ∧ frm SCr [129] SJr R R1 ∧ RelS S1 R1
theorem t_answers {e : w_E} {N : Nat} {S R : w_S} {x1 x2 : Int} (h : RelS S R) (hx : x2 = 0 ∨ x2 = 1) : Ok (E_Stores_setAnswering e N x1 x2 S) (fun y S1 => Ok (E_R_doAnswers e N x1 x2 R) (fun y' R1 => Pa S R (fun _ => Qs S R) y S1 y' R1)) := by
  obtain ⟨h1, h2, h3, h4, h5⟩ := h
  have a1 : 0 ≤ x1 → x1 < 6 → _ := fun a b => h4 x1.toNat (by omega)
  have fin : ∀ v w : Int, 0 ≤ x1 → x1 < 6 → (v = 0 ∨ v = 1) → w = 1 - v → Qs S R (w_put S 91 x1.toNat v) (w_put R 229 x1.toNat w) := by
    intro v w b1 b2 hv hw
    have hf : frm SC [89] SJ S (w_put S 91 x1.toNat v) := by repeat (first | exact frm.refl _ _ _ _ | refine frm.put ?_ rfl | refine frm.puto ?_ rfl rfl | refine frm.arr ?_ rfl)
    have hg : frm SCr [129] SJr R (w_put R 229 x1.toNat w) := by repeat (first | exact frm.refl _ _ _ _ | refine frm.put ?_ rfl | refine frm.puto ?_ rfl rfl | refine frm.arr ?_ rfl)
    refine ⟨hf, hg, ?_⟩
    simp only [RelS, w_put_r, w_arr_r, reduceIte, Nat.reduceEqDiff, pt_at]
    refine ⟨h1, h2, h3, fun s hs => ?_, h5⟩
    by_cases e : s = x1.toNat
    · simp only [if_pos e]
      exact ⟨hv, hw⟩
    · simp only [if_neg e]
      exact h4 s hs
  unfold E_Stores_setAnswering E_R_doAnswers
  repeat' (first | with_reducible refine ok_nb (by omega) ?_ | with_reducible refine ok_ib (by omega) ?_ | with_reducible refine ok_t (by omega) ?_ | with_reducible refine ok_e (by omega) ?_ | with_reducible refine ok_if (fun h => ?_) (fun h => ?_) | with_reducible refine ok_s ?_ | with_reducible refine ok_b ?_)
  any_goals exact ⟨rfl, Or.inl ⟨by omega, rfl, rfl⟩⟩
  all_goals exact ⟨rfl, Or.inr ⟨by omega, fin _ _ (by omega) (by omega) (by omega) (by omega)⟩⟩
theorem x_hasCopy {e : w_E} {N : Nat} {S R : w_S} {x1 x2 : Int} (h : RelS S R) : ∃ v : Int, E_Stores_hasCopy e N x1 x2 S = some (v, S) ∧ E_R_hasPack e N x1 x2 R = some (v, R) ∧ (v = 0 ∨ v = 1 ∧ 1 ≤ x1 ∧ x1 ≤ S.1 89 0 ∧ 0 ≤ x2 ∧ x2 < 6 ∧ S.1 92 (6 * x1.toNat + x2.toNat) = 1) := by
  obtain ⟨h1, h2, h3, h4, h5⟩ := h
  by_cases b : x1 < 1 ∨ S.1 89 0 < x1 ∨ x2 < 0 ∨ 6 ≤ x2
  · refine ⟨0, ok_eq ?_, ok_eq ?_, Or.inl rfl⟩
    · unfold E_Stores_hasCopy
      repeat' (first | with_reducible refine ok_nb (by omega) ?_ | with_reducible refine ok_ib (by omega) ?_ | with_reducible refine ok_t (by omega) ?_ | with_reducible refine ok_e (by omega) ?_ | with_reducible refine ok_if (fun h => ?_) (fun h => ?_) | with_reducible refine ok_s ?_ | with_reducible refine ok_b ?_)
      all_goals first | exact ⟨rfl, rfl⟩ | (exfalso; omega)
    · unfold E_R_hasPack
      repeat' (first | with_reducible refine ok_nb (by omega) ?_ | with_reducible refine ok_ib (by omega) ?_ | with_reducible refine ok_t (by omega) ?_ | with_reducible refine ok_e (by omega) ?_ | with_reducible refine ok_if (fun h => ?_) (fun h => ?_) | with_reducible refine ok_s ?_ | with_reducible refine ok_b ?_)
      all_goals first | exact ⟨rfl, rfl⟩ | (exfalso; omega)
  · obtain ⟨a1, a2, a3⟩ := (h5 x1.toNat (by omega) (by omega)).2.2.2 x2.toNat (by omega)
    have e1 : (x1 * 6 + x2).toNat = 6 * x1.toNat + x2.toNat := by omega
    have e2 : (6 * x1 + x2).toNat = 6 * x1.toNat + x2.toNat := by omega
    clear a3
    refine ⟨S.1 92 (6 * x1.toNat + x2.toNat), ok_eq ?_, ok_eq ?_, by omega⟩
    · unfold E_Stores_hasCopy
      rw [e1]
      repeat' (first | with_reducible refine ok_nb (by omega) ?_ | with_reducible refine ok_ib (by omega) ?_ | with_reducible refine ok_t (by omega) ?_ | with_reducible refine ok_e (by omega) ?_ | with_reducible refine ok_if (fun h => ?_) (fun h => ?_) | with_reducible refine ok_s ?_ | with_reducible refine ok_b ?_)
      all_goals exact ⟨by omega, rfl⟩
    · unfold E_R_hasPack
      rw [e2, a2]
      repeat' (first | with_reducible refine ok_nb (by omega) ?_ | with_reducible refine ok_ib (by omega) ?_ | with_reducible refine ok_t (by omega) ?_ | with_reducible refine ok_e (by omega) ?_ | with_reducible refine ok_if (fun h => ?_) (fun h => ?_) | with_reducible refine ok_s ?_ | with_reducible refine ok_b ?_)
      all_goals exact ⟨by omega, rfl⟩
theorem w_bb (x : Int) : w_b (w_b x) = w_b x ∧ -128 ≤ w_b x ∧ w_b x ≤ 127 := by
  unfold w_b
  omega
theorem t_alter {e : w_E} {N : Nat} {S R : w_S} {x1 x2 x3 x4 : Int} (h : RelS S R) : Ok (E_Stores_alterByte e N x1 x2 x3 x4 S) (fun y S1 => Ok (E_R_doAlter e N x1 x2 x3 x4 R) (fun y' R1 => Pa S R (fun _ => Qs S R) y S1 y' R1)) := by
  have h0 := h
  obtain ⟨h1, h2, h3, h4, h5⟩ := h
  obtain ⟨v, v1, v2, v3⟩ := x_hasCopy (e := e) (N := N) (x1 := x1) (x2 := x2) h0
  unfold E_Stores_alterByte E_R_doAlter
  rcases v3 with v3 | ⟨v3, b1, b2, b3, b4, b5⟩
  · subst v3
    repeat' (first | (with_reducible refine ok_of v1 ?_; dsimp only) | (with_reducible refine ok_of v2 ?_; dsimp only) | with_reducible refine ok_t trivial ?_ | with_reducible refine ok_nb (by omega) ?_ | with_reducible refine ok_ib (by omega) ?_ | with_reducible refine ok_t (by omega) ?_ | with_reducible refine ok_e (by omega) ?_ | with_reducible refine ok_if (fun h => ?_) (fun h => ?_) | with_reducible refine ok_s ?_ | with_reducible refine ok_b ?_)
    all_goals first | exact ⟨rfl, Or.inl ⟨by omega, rfl, rfl⟩⟩ | (exfalso; omega)
  · obtain ⟨c1, c2, c3, c4⟩ := h5 x1.toNat (by omega) (by omega)
    obtain ⟨a1, a2, a3⟩ := c4 x2.toNat (by omega)
    have a4 := a3 b5
    by_cases b6 : x3 < 0 ∨ S.1 90 x1.toNat ≤ x3
    · clear a3 a4
      repeat' (first | (with_reducible refine ok_of v1 ?_; dsimp only) | (with_reducible refine ok_of v2 ?_; dsimp only) | with_reducible refine ok_nb (by omega) ?_ | with_reducible refine ok_ib (by omega) ?_ | with_reducible refine ok_t (by omega) ?_ | with_reducible refine ok_e (by omega) ?_ | with_reducible refine ok_if (fun h => ?_) (fun h => ?_) | with_reducible refine ok_s ?_ | with_reducible refine ok_b ?_)
      all_goals first | exact ⟨rfl, Or.inl ⟨by omega, rfl, rfl⟩⟩ | (exfalso; omega)
    · obtain ⟨d1, d2, d3⟩ := a4 x3.toNat (by omega)
      have e1 : ((x1 * 6 + x2) * 200 + x3).toNat = 200 * (6 * x1.toNat + x2.toNat) + x3.toNat := by omega
      have e2 : (200 * (6 * x1 + x2) + x3).toNat = 200 * (6 * x1.toNat + x2.toNat) + x3.toNat := by omega
      have hw := b_and255 (S.1 93 (200 * (6 * x1.toNat + x2.toNat) + x3.toNat)) d2 d3
      have hb := w_bb x4
      have fin : Qs S R (w_put S 93 (200 * (6 * x1.toNat + x2.toNat) + x3.toNat) (w_b (w_b x4))) (w_put R 231 (200 * (6 * x1.toNat + x2.toNat) + x3.toNat) (w_b (w_b x4))) := by
        have hf : frm SC [89] SJ S (w_put S 93 (200 * (6 * x1.toNat + x2.toNat) + x3.toNat) (w_b (w_b x4))) := by repeat (first | exact frm.refl _ _ _ _ | refine frm.put ?_ rfl | refine frm.puto ?_ rfl rfl | refine frm.arr ?_ rfl)
        have hg : frm SCr [129] SJr R (w_put R 231 (200 * (6 * x1.toNat + x2.toNat) + x3.toNat) (w_b (w_b x4))) := by repeat (first | exact frm.refl _ _ _ _ | refine frm.put ?_ rfl | refine frm.puto ?_ rfl rfl | refine frm.arr ?_ rfl)
        refine ⟨hf, hg, ?_⟩
        simp only [RelS, w_put_r, w_arr_r, reduceIte, Nat.reduceEqDiff, pt_at]
        refine ⟨h1, h2, h3, h4, fun p p1 p2 => ?_⟩
        obtain ⟨y1, y2, y3, y4⟩ := h5 p p1 p2
        refine ⟨y1, y2, y3, fun s hs => ?_⟩
        obtain ⟨z1, z2, z3⟩ := y4 s hs
        refine ⟨z1, z2, fun q i hi => ?_⟩
        have := z3 q i hi
        split
        · exact ⟨rfl, by omega, by omega⟩
        · exact this
      clear a3 a4 c4
      repeat' (first | (with_reducible refine ok_of v1 ?_; dsimp only) | (with_reducible refine ok_of v2 ?_; dsimp only) | with_reducible refine ok_nb (by omega) ?_ | with_reducible refine ok_ib (by omega) ?_ | with_reducible refine ok_t (by omega) ?_ | with_reducible refine ok_e (by omega) ?_ | with_reducible refine ok_if (fun h => ?_) (fun h => ?_) | with_reducible refine ok_s ?_ | with_reducible refine ok_b ?_)
      rw [e1, e2, d1]
      refine ⟨rfl, Or.inr ⟨?_, fin⟩⟩
      rw [hw]
      split <;> omega
theorem t_lose {e : w_E} {N : Nat} {S R : w_S} {x1 x2 : Int} (h : RelS S R) : Ok (E_Stores_loseCopy e N x1 x2 S) (fun y S1 => Ok (E_R_doLose e N x1 x2 R) (fun y' R1 => Pa S R (fun _ => Qs S R) y S1 y' R1)) := by
  have h0 := h
  obtain ⟨h1, h2, h3, h4, h5⟩ := h
  obtain ⟨v, v1, v2, v3⟩ := x_hasCopy (e := e) (N := N) (x1 := x1) (x2 := x2) h0
  unfold E_Stores_loseCopy E_R_doLose
  rcases v3 with v3 | ⟨v3, b1, b2, b3, b4, b5⟩
  · repeat' (first | (with_reducible refine ok_of v1 ?_; dsimp only) | (with_reducible refine ok_of v2 ?_; dsimp only) | with_reducible refine ok_nb (by omega) ?_ | with_reducible refine ok_ib (by omega) ?_ | with_reducible refine ok_t (by omega) ?_ | with_reducible refine ok_e (by omega) ?_ | with_reducible refine ok_if (fun h => ?_) (fun h => ?_) | with_reducible refine ok_s ?_ | with_reducible refine ok_b ?_)
    all_goals exact ⟨rfl, Or.inl ⟨by omega, rfl, rfl⟩⟩
  · have e1 : (x1 * 6 + x2).toNat = 6 * x1.toNat + x2.toNat := by omega
    have e2 : (6 * x1 + x2).toNat = 6 * x1.toNat + x2.toNat := by omega
    have fin : Qs S R (w_put S 92 (6 * x1.toNat + x2.toNat) 0) (w_put R 230 (6 * x1.toNat + x2.toNat) 0) := by
      have hf : frm SC [89] SJ S (w_put S 92 (6 * x1.toNat + x2.toNat) 0) := by repeat (first | exact frm.refl _ _ _ _ | refine frm.put ?_ rfl | refine frm.puto ?_ rfl rfl | refine frm.arr ?_ rfl)
      have hg : frm SCr [129] SJr R (w_put R 230 (6 * x1.toNat + x2.toNat) 0) := by repeat (first | exact frm.refl _ _ _ _ | refine frm.put ?_ rfl | refine frm.puto ?_ rfl rfl | refine frm.arr ?_ rfl)
      refine ⟨hf, hg, ?_⟩
      simp only [RelS, w_put_r, w_arr_r, reduceIte, Nat.reduceEqDiff, pt_at]
      refine ⟨h1, h2, h3, h4, fun p p1 p2 => ?_⟩
      obtain ⟨y1, y2, y3, y4⟩ := h5 p p1 p2
      refine ⟨y1, y2, y3, fun s hs => ?_⟩
      have hq := y4 s hs
      by_cases e : 6 * p + s = 6 * x1.toNat + x2.toNat
      · simp only [if_pos e]
        exact ⟨Or.inl trivial, trivial, fun q => by omega⟩
      · simp only [if_neg e]
        exact hq
    repeat' (first | (with_reducible refine ok_of v1 ?_; dsimp only) | (with_reducible refine ok_of v2 ?_; dsimp only) | with_reducible refine ok_nb (by omega) ?_ | with_reducible refine ok_ib (by omega) ?_ | with_reducible refine ok_t (by omega) ?_ | with_reducible refine ok_e (by omega) ?_ | with_reducible refine ok_if (fun h => ?_) (fun h => ?_) | with_reducible refine ok_s ?_ | with_reducible refine ok_b ?_)
    rw [e1, e2]
    exact ⟨rfl, Or.inr ⟨by omega, fin⟩⟩
end
section
-- a5
theorem l_copiesOn {e : w_E} {N : Nat} {S : w_S} {x1 : Int} (h0 : 0 ≤ S.1 89 0 ∧ S.1 89 0 ≤ 30) (hx : 0 ≤ x1 ∧ x1 < 6) : ∀ (k n : Nat) (acc i : Int), k < n → 1 ≤ i → i + k = S.1 89 0 + 1 → 0 ≤ acc → acc + k ≤ 1000000 → Ok (El_Stores_copiesOn e N n 0 [x1, acc, i] [] S) (fun y S1 => y = acc + cnt (fun j => !decide (S.1 92 (6 * j + x1.toNat) = 0)) i.toNat k ∧ S1 = S)
  | 0, n + 1, acc, i, h1, h2, h3, h4, h5 => by
    rw [El_Stores_copiesOn, cnt]
    repeat' (first | (rw [show (i * 6 + x1).toNat = 6 * i.toNat + x1.toNat by omega]) | with_reducible refine ok_nb (by omega) ?_ | with_reducible refine ok_ib (by omega) ?_ | with_reducible refine ok_t (by omega) ?_ | with_reducible refine ok_e (by omega) ?_ | with_reducible refine ok_if (fun h => ?_) (fun h => ?_) | with_reducible refine ok_s ?_ | with_reducible refine ok_b ?_)
    all_goals exact ⟨by first | rfl | omega | (rcases h4 with rfl | rfl <;> rfl), rfl⟩
  | k + 1, n + 1, acc, i, h1, h2, h3, h4, h5 => by
    have e1 : (i + 1).toNat = i.toNat + 1 := by omega
    have e2 : ((i.toNat : Nat) : Int) = i := by omega
    rw [El_Stores_copiesOn, cnt]
    repeat' (first | (rw [show (i * 6 + x1).toNat = 6 * i.toNat + x1.toNat by omega]) | with_reducible refine ok_nb (by omega) ?_ | with_reducible refine ok_ib (by omega) ?_ | with_reducible refine ok_t (by omega) ?_ | with_reducible refine ok_e (by omega) ?_ | with_reducible refine ok_if (fun h => ?_) (fun h => ?_) | with_reducible refine ok_s ?_ | with_reducible refine ok_b ?_)
    all_goals first | (refine (l_copiesOn (h0 := h0) (hx := hx) k n _ _ (by omega) (by omega) (by omega) (by omega) (by omega)).mono (fun y S1 q => ⟨?_, q.2⟩); rw [q.1, e1]; (try rw [e2]); (try simp only [Bool.and_eq_true, Bool.or_eq_true, Bool.not_eq_true', decide_eq_true_eq, decide_eq_false_iff_not, if_true, if_false, reduceIte, o1_some, o1_none]); (first | rfl | omega | (repeat' split) <;> (try simp only [o1_some, o1_none]) <;> first | rfl | omega | (exfalso; omega))) | (refine ⟨?_, rfl⟩; (try simp only [Bool.and_eq_true, Bool.or_eq_true, Bool.not_eq_true', decide_eq_true_eq, decide_eq_false_iff_not, if_true, if_false, reduceIte, o1_some, o1_none]); (first | rfl | omega | (repeat' split) <;> (try simp only [o1_some, o1_none]) <;> first | rfl | omega | (exfalso; omega)))
theorem l_loadOf {e : w_E} {N : Nat} {S : w_S} {x1 : Int} (h0 : 0 ≤ S.1 129 148 ∧ S.1 129 148 ≤ 30) (hx : 0 ≤ x1 ∧ x1 < 6) : ∀ (k n : Nat) (acc i : Int), k < n → 1 ≤ i → i + k = S.1 129 148 + 1 → 0 ≤ acc → acc + k ≤ 1000000 → Ok (El_R_loadOf e N n 0 [x1, acc, i] [] S) (fun y S1 => y = acc + cnt (fun j => !decide (S.1 230 (6 * j + x1.toNat) = 0)) i.toNat k ∧ S1 = S)
  | 0, n + 1, acc, i, h1, h2, h3, h4, h5 => by
    rw [El_R_loadOf, cnt]
    repeat' (first | (rw [show (6 * i + x1).toNat = 6 * i.toNat + x1.toNat by omega]) | with_reducible refine ok_nb (by omega) ?_ | with_reducible refine ok_ib (by omega) ?_ | with_reducible refine ok_t (by omega) ?_ | with_reducible refine ok_e (by omega) ?_ | with_reducible refine ok_if (fun h => ?_) (fun h => ?_) | with_reducible refine ok_s ?_ | with_reducible refine ok_b ?_)
    all_goals exact ⟨by first | rfl | omega | (rcases h4 with rfl | rfl <;> rfl), rfl⟩
  | k + 1, n + 1, acc, i, h1, h2, h3, h4, h5 => by
    have e1 : (i + 1).toNat = i.toNat + 1 := by omega
    have e2 : ((i.toNat : Nat) : Int) = i := by omega
    rw [El_R_loadOf, cnt]
    repeat' (first | (rw [show (6 * i + x1).toNat = 6 * i.toNat + x1.toNat by omega]) | with_reducible refine ok_nb (by omega) ?_ | with_reducible refine ok_ib (by omega) ?_ | with_reducible refine ok_t (by omega) ?_ | with_reducible refine ok_e (by omega) ?_ | with_reducible refine ok_if (fun h => ?_) (fun h => ?_) | with_reducible refine ok_s ?_ | with_reducible refine ok_b ?_)
    all_goals first | (refine (l_loadOf (h0 := h0) (hx := hx) k n _ _ (by omega) (by omega) (by omega) (by omega) (by omega)).mono (fun y S1 q => ⟨?_, q.2⟩); rw [q.1, e1]; (try rw [e2]); (try simp only [Bool.and_eq_true, Bool.or_eq_true, Bool.not_eq_true', decide_eq_true_eq, decide_eq_false_iff_not, if_true, if_false, reduceIte, o1_some, o1_none]); (first | rfl | omega | (repeat' split) <;> (try simp only [o1_some, o1_none]) <;> first | rfl | omega | (exfalso; omega))) | (refine ⟨?_, rfl⟩; (try simp only [Bool.and_eq_true, Bool.or_eq_true, Bool.not_eq_true', decide_eq_true_eq, decide_eq_false_iff_not, if_true, if_false, reduceIte, o1_some, o1_none]); (first | rfl | omega | (repeat' split) <;> (try simp only [o1_some, o1_none]) <;> first | rfl | omega | (exfalso; omega)))
theorem l_copiesOf {e : w_E} {N : Nat} {S : w_S} {x1 : Int} (hx : 1 ≤ x1 ∧ x1 ≤ 30) : ∀ (k n : Nat) (acc i : Int), k < n → 0 ≤ i → i + k = 6 → 0 ≤ acc → acc + k ≤ 1000000 → Ok (El_Stores_copiesOf e N n 0 [x1, acc, i] [] S) (fun y S1 => y = acc + cnt (fun j => !decide (S.1 92 (6 * x1.toNat + j) = 0)) i.toNat k ∧ S1 = S)
  | 0, n + 1, acc, i, h1, h2, h3, h4, h5 => by
    rw [El_Stores_copiesOf, cnt]
    repeat' (first | (rw [show (x1 * 6 + i).toNat = 6 * x1.toNat + i.toNat by omega]) | with_reducible refine ok_nb (by omega) ?_ | with_reducible refine ok_ib (by omega) ?_ | with_reducible refine ok_t (by omega) ?_ | with_reducible refine ok_e (by omega) ?_ | with_reducible refine ok_if (fun h => ?_) (fun h => ?_) | with_reducible refine ok_s ?_ | with_reducible refine ok_b ?_)
    all_goals exact ⟨by first | rfl | omega | (rcases h4 with rfl | rfl <;> rfl), rfl⟩
  | k + 1, n + 1, acc, i, h1, h2, h3, h4, h5 => by
    have e1 : (i + 1).toNat = i.toNat + 1 := by omega
    have e2 : ((i.toNat : Nat) : Int) = i := by omega
    rw [El_Stores_copiesOf, cnt]
    repeat' (first | (rw [show (x1 * 6 + i).toNat = 6 * x1.toNat + i.toNat by omega]) | with_reducible refine ok_nb (by omega) ?_ | with_reducible refine ok_ib (by omega) ?_ | with_reducible refine ok_t (by omega) ?_ | with_reducible refine ok_e (by omega) ?_ | with_reducible refine ok_if (fun h => ?_) (fun h => ?_) | with_reducible refine ok_s ?_ | with_reducible refine ok_b ?_)
    all_goals first | (refine (l_copiesOf (hx := hx) k n _ _ (by omega) (by omega) (by omega) (by omega) (by omega)).mono (fun y S1 q => ⟨?_, q.2⟩); rw [q.1, e1]; (try rw [e2]); (try simp only [Bool.and_eq_true, Bool.or_eq_true, Bool.not_eq_true', decide_eq_true_eq, decide_eq_false_iff_not, if_true, if_false, reduceIte, o1_some, o1_none]); (first | rfl | omega | (repeat' split) <;> (try simp only [o1_some, o1_none]) <;> first | rfl | omega | (exfalso; omega))) | (refine ⟨?_, rfl⟩; (try simp only [Bool.and_eq_true, Bool.or_eq_true, Bool.not_eq_true', decide_eq_true_eq, decide_eq_false_iff_not, if_true, if_false, reduceIte, o1_some, o1_none]); (first | rfl | omega | (repeat' split) <;> (try simp only [o1_some, o1_none]) <;> first | rfl | omega | (exfalso; omega)))
theorem l_copiesOfR {e : w_E} {N : Nat} {S : w_S} {x1 : Int} (hx : 1 ≤ x1 ∧ x1 ≤ 30) : ∀ (k n : Nat) (acc i : Int), k < n → 0 ≤ i → i + k = 6 → 0 ≤ acc → acc + k ≤ 1000000 → Ok (El_R_copiesOf e N n 0 [x1, acc, i] [] S) (fun y S1 => y = acc + cnt (fun j => !decide (S.1 230 (6 * x1.toNat + j) = 0)) i.toNat k ∧ S1 = S)
  | 0, n + 1, acc, i, h1, h2, h3, h4, h5 => by
    rw [El_R_copiesOf, cnt]
    repeat' (first | (rw [show (6 * x1 + i).toNat = 6 * x1.toNat + i.toNat by omega]) | with_reducible refine ok_nb (by omega) ?_ | with_reducible refine ok_ib (by omega) ?_ | with_reducible refine ok_t (by omega) ?_ | with_reducible refine ok_e (by omega) ?_ | with_reducible refine ok_if (fun h => ?_) (fun h => ?_) | with_reducible refine ok_s ?_ | with_reducible refine ok_b ?_)
    all_goals exact ⟨by first | rfl | omega | (rcases h4 with rfl | rfl <;> rfl), rfl⟩
  | k + 1, n + 1, acc, i, h1, h2, h3, h4, h5 => by
    have e1 : (i + 1).toNat = i.toNat + 1 := by omega
    have e2 : ((i.toNat : Nat) : Int) = i := by omega
    rw [El_R_copiesOf, cnt]
    repeat' (first | (rw [show (6 * x1 + i).toNat = 6 * x1.toNat + i.toNat by omega]) | with_reducible refine ok_nb (by omega) ?_ | with_reducible refine ok_ib (by omega) ?_ | with_reducible refine ok_t (by omega) ?_ | with_reducible refine ok_e (by omega) ?_ | with_reducible refine ok_if (fun h => ?_) (fun h => ?_) | with_reducible refine ok_s ?_ | with_reducible refine ok_b ?_)
    all_goals first | (refine (l_copiesOfR (hx := hx) k n _ _ (by omega) (by omega) (by omega) (by omega) (by omega)).mono (fun y S1 q => ⟨?_, q.2⟩); rw [q.1, e1]; (try rw [e2]); (try simp only [Bool.and_eq_true, Bool.or_eq_true, Bool.not_eq_true', decide_eq_true_eq, decide_eq_false_iff_not, if_true, if_false, reduceIte, o1_some, o1_none]); (first | rfl | omega | (repeat' split) <;> (try simp only [o1_some, o1_none]) <;> first | rfl | omega | (exfalso; omega))) | (refine ⟨?_, rfl⟩; (try simp only [Bool.and_eq_true, Bool.or_eq_true, Bool.not_eq_true', decide_eq_true_eq, decide_eq_false_iff_not, if_true, if_false, reduceIte, o1_some, o1_none]); (first | rfl | omega | (repeat' split) <;> (try simp only [o1_some, o1_none]) <;> first | rfl | omega | (exfalso; omega)))
end
section
-- a6
theorem x_load {e : w_E} {N : Nat} {S R : w_S} {x : Int} (hN : 1000 ≤ N) (h : RelS S R) (hx : 0 ≤ x ∧ x < 6) : ∃ v : Int, E_Stores_copiesOn e N x S = some (v, S) ∧ E_R_loadOf e N x R = some (v, R) ∧ 0 ≤ v ∧ v ≤ 30 := by
  obtain ⟨h1, h2, h3, h4, h5⟩ := h
  have k1 := ok_eq (l_copiesOn (e := e) (N := N) (S := S) (x1 := x) ⟨h2, h3⟩ hx (S.1 89 0).toNat N 0 1 (by omega) (by omega) (by omega) (by omega) (by omega))
  have k2 := ok_eq (l_loadOf (e := e) (N := N) (S := R) (x1 := x) (by omega) hx (R.1 129 148).toNat N 0 1 (by omega) (by omega) (by omega) (by omega) (by omega))
  have e1 : (1 : Int).toNat = 1 := rfl
  rw [Int.zero_add, e1] at k1 k2
  have hle := cnt_le (fun j => !decide (S.1 92 (6 * j + x.toNat) = 0)) (S.1 89 0).toNat 1
  refine ⟨_, k1, ?_, hle.1, by omega⟩
  have hc : cnt (fun j => !decide (R.1 230 (6 * j + x.toNat) = 0)) 1 (R.1 129 148).toNat = cnt (fun j => !decide (S.1 92 (6 * j + x.toNat) = 0)) 1 (S.1 89 0).toNat := by
    rw [h1]
    refine cnt_congr _ _ (fun j a b => ?_)
    rw [((h5 j a (by omega)).2.2.2 x.toNat (by omega)).2.1]
  rw [hc] at k2
  exact k2
theorem q_load {e : w_E} {N : Nat} {S R : w_S} {x : Int} (hN : 1000 ≤ N) (h : RelS S R) : Ok (E_C_load e N x S) (fun y S1 => Ok (E_R_load e N x R) (fun y' R1 => y' = y ∧ S1 = S ∧ R1 = R)) := by
  unfold E_C_load E_R_load
  by_cases b : x < 0 ∨ 6 ≤ x
  · repeat' (first | with_reducible refine ok_nb (by omega) ?_ | with_reducible refine ok_ib (by omega) ?_ | with_reducible refine ok_t (by omega) ?_ | with_reducible refine ok_e (by omega) ?_ | with_reducible refine ok_if (fun h => ?_) (fun h => ?_) | with_reducible refine ok_s ?_ | with_reducible refine ok_b ?_)
    all_goals first | exact ⟨rfl, rfl, rfl⟩ | (exfalso; omega)
  · obtain ⟨v, v1, v2, _⟩ := x_load (e := e) (N := N) (x := x) hN h (by omega)
    repeat' (first | (with_reducible refine ok_of v1 ?_; dsimp only) | (with_reducible refine ok_of v2 ?_; dsimp only) | with_reducible refine ok_nb (by omega) ?_ | with_reducible refine ok_ib (by omega) ?_ | with_reducible refine ok_t (by omega) ?_ | with_reducible refine ok_e (by omega) ?_ | with_reducible refine ok_if (fun h => ?_) (fun h => ?_) | with_reducible refine ok_s ?_ | with_reducible refine ok_b ?_)
    exact ⟨rfl, rfl, rfl⟩
theorem x_store {e : w_E} {N : Nat} {S R : w_S} {p : Nat} (hN : 1000 ≤ N) (h : RelS S R) (hp : 1 ≤ p) (hp2 : (p : Int) ≤ S.1 89 0) : ∃ v : Int, E_Stores_nextStore e N p S = some (v, S) ∧ E_R_storeFor e N p R = some (v, R) ∧ (v = -1 ∧ (∀ s : Nat, s < 6 → ¬ (S.1 91 s = 0 ∧ S.1 92 (6 * p + s) = 0)) ∨ 0 ≤ v ∧ v < 6 ∧ S.1 91 v.toNat = 0 ∧ S.1 92 (6 * p + v.toNat) = 0) := by
  have h3 := h.2.2.1
  have h4 := h.2.2.2.1
  have h5 := (h.2.2.2.2 p hp hp2).2.2.2
  have key : ∀ (k n n' i : Nat) (b : Int), i + k = 6 → k < n → k < n' → (b = -1 ∧ (∀ s : Nat, s < i → ¬ (S.1 91 s = 0 ∧ S.1 92 (6 * p + s) = 0)) ∨ 0 ≤ b ∧ b < 6 ∧ S.1 91 b.toNat = 0 ∧ S.1 92 (6 * p + b.toNat) = 0) → ∃ v : Int, El_Stores_nextStore e N n 0 [p, b, i] [] S = some (v, S) ∧ El_R_storeFor e N n' 0 [p, b, i] [] R = some (v, R) ∧ (v = -1 ∧ (∀ s : Nat, s < 6 → ¬ (S.1 91 s = 0 ∧ S.1 92 (6 * p + s) = 0)) ∨ 0 ≤ v ∧ v < 6 ∧ S.1 91 v.toNat = 0 ∧ S.1 92 (6 * p + v.toNat) = 0) := by
    intro k
    induction k with
    | zero =>
      intro n n' i b hi hn hn' hb
      obtain ⟨n, rfl⟩ : ∃ q, n = q + 1 := ⟨n - 1, by omega⟩
      obtain ⟨n', rfl⟩ : ∃ q, n' = q + 1 := ⟨n' - 1, by omega⟩
      have : i = 6 := by omega
      subst this
      refine ⟨b, ?_, ?_, hb⟩
      · rw [El_Stores_nextStore, if_pos (by omega)]
      · rw [El_R_storeFor, if_pos (by omega)]
    | succ k ih =>
      intro n n' i b hi hn hn' hb
      obtain ⟨n, rfl⟩ : ∃ q, n = q + 1 := ⟨n - 1, by omega⟩
      obtain ⟨n', rfl⟩ : ∃ q, n' = q + 1 := ⟨n' - 1, by omega⟩
      have e1 : ((p : Int) * 6 + (i : Int)).toNat = 6 * p + i := by omega
      have e2 : (6 * (p : Int) + (i : Int)).toNat = 6 * p + i := by omega
      have e5 : (i : Int) + 1 = ((i + 1 : Nat) : Int) := by omega
      obtain ⟨a1, a2⟩ := h4 i (by omega)
      obtain ⟨a3, a4, _⟩ := h5 i (by omega)
      by_cases hm : S.1 91 i = 0 ∧ S.1 92 (6 * p + i) = 0
      · by_cases hb1 : b = -1
        · obtain ⟨v, v1, v2, v3⟩ := ih n n' (i + 1) i (by omega) (by omega) (by omega) (Or.inr ⟨by omega, by omega, by rw [Int.toNat_natCast]; exact hm.1, by rw [Int.toNat_natCast]; exact hm.2⟩)
          clear ih
          refine ⟨v, ok_eq ?_, ok_eq ?_, v3⟩
          · rw [El_Stores_nextStore, e1, Int.toNat_natCast]
            repeat' (first | with_reducible refine ok_nb (by omega) ?_ | with_reducible refine ok_ib (by omega) ?_ | with_reducible refine ok_t (by omega) ?_ | with_reducible refine ok_e (by omega) ?_ | with_reducible refine ok_if (fun h => ?_) (fun h => ?_) | with_reducible refine ok_s ?_ | with_reducible refine ok_b ?_)
            rw [e5]
            exact ok_of v1 ⟨rfl, rfl⟩
          · rw [El_R_storeFor, e2, Int.toNat_natCast, a2, a4]
            repeat' (first | with_reducible refine ok_nb (by omega) ?_ | with_reducible refine ok_ib (by omega) ?_ | with_reducible refine ok_t (by omega) ?_ | with_reducible refine ok_e (by omega) ?_ | with_reducible refine ok_if (fun h => ?_) (fun h => ?_) | with_reducible refine ok_s ?_ | with_reducible refine ok_b ?_)
            rw [e5]
            exact ok_of v2 ⟨rfl, rfl⟩
        · have hb2 := hb.resolve_left (fun q => hb1 q.1)
          obtain ⟨u, u1, u2, _⟩ := x_load (e := e) (N := N) (x := (i : Int)) hN h (by omega)
          obtain ⟨w, w1, w2, _⟩ := x_load (e := e) (N := N) (x := b) hN h (by omega)
          by_cases hl : w ≤ u
          · obtain ⟨v, v1, v2, v3⟩ := ih n n' (i + 1) b (by omega) (by omega) (by omega) (Or.inr hb2)
            clear ih hb
            refine ⟨v, ok_eq ?_, ok_eq ?_, v3⟩
            · rw [El_Stores_nextStore, e1, Int.toNat_natCast]
              repeat' (first | (with_reducible refine ok_of u1 ?_; dsimp only) | (with_reducible refine ok_of w1 ?_; dsimp only) | with_reducible refine ok_nb (by omega) ?_ | with_reducible refine ok_ib (by omega) ?_ | with_reducible refine ok_t (by omega) ?_ | with_reducible refine ok_e (by omega) ?_ | with_reducible refine ok_if (fun h => ?_) (fun h => ?_) | with_reducible refine ok_s ?_ | with_reducible refine ok_b ?_)
              rw [e5]
              exact ok_of v1 ⟨rfl, rfl⟩
            · rw [El_R_storeFor, e2, Int.toNat_natCast, a2, a4]
              repeat' (first | (with_reducible refine ok_of u2 ?_; dsimp only) | (with_reducible refine ok_of w2 ?_; dsimp only) | with_reducible refine ok_nb (by omega) ?_ | with_reducible refine ok_ib (by omega) ?_ | with_reducible refine ok_t (by omega) ?_ | with_reducible refine ok_e (by omega) ?_ | with_reducible refine ok_if (fun h => ?_) (fun h => ?_) | with_reducible refine ok_s ?_ | with_reducible refine ok_b ?_)
              rw [e5]
              exact ok_of v2 ⟨rfl, rfl⟩
          · obtain ⟨v, v1, v2, v3⟩ := ih n n' (i + 1) i (by omega) (by omega) (by omega) (Or.inr ⟨by omega, by omega, by rw [Int.toNat_natCast]; exact hm.1, by rw [Int.toNat_natCast]; exact hm.2⟩)
            clear ih hb
            refine ⟨v, ok_eq ?_, ok_eq ?_, v3⟩
            · rw [El_Stores_nextStore, e1, Int.toNat_natCast]
              repeat' (first | (with_reducible refine ok_of u1 ?_; dsimp only) | (with_reducible refine ok_of w1 ?_; dsimp only) | with_reducible refine ok_nb (by omega) ?_ | with_reducible refine ok_ib (by omega) ?_ | with_reducible refine ok_t (by omega) ?_ | with_reducible refine ok_e (by omega) ?_ | with_reducible refine ok_if (fun h => ?_) (fun h => ?_) | with_reducible refine ok_s ?_ | with_reducible refine ok_b ?_)
              rw [e5]
              exact ok_of v1 ⟨rfl, rfl⟩
            · rw [El_R_storeFor, e2, Int.toNat_natCast, a2, a4]
              repeat' (first | (with_reducible refine ok_of u2 ?_; dsimp only) | (with_reducible refine ok_of w2 ?_; dsimp only) | with_reducible refine ok_nb (by omega) ?_ | with_reducible refine ok_ib (by omega) ?_ | with_reducible refine ok_t (by omega) ?_ | with_reducible refine ok_e (by omega) ?_ | with_reducible refine ok_if (fun h => ?_) (fun h => ?_) | with_reducible refine ok_s ?_ | with_reducible refine ok_b ?_)
              rw [e5]
              exact ok_of v2 ⟨rfl, rfl⟩
      · obtain ⟨v, v1, v2, v3⟩ := ih n n' (i + 1) b (by omega) (by omega) (by omega) (by
          rcases hb with ⟨q1, q2⟩ | q
          · refine Or.inl ⟨q1, fun s hs => ?_⟩
            by_cases e : s = i
            · rw [e]; exact hm
            · exact q2 s (by omega)
          · exact Or.inr q)
        clear ih hb
        refine ⟨v, ok_eq ?_, ok_eq ?_, v3⟩
        · rw [El_Stores_nextStore, e1, Int.toNat_natCast]
          repeat' (first | with_reducible refine ok_nb (by omega) ?_ | with_reducible refine ok_ib (by omega) ?_ | with_reducible refine ok_t (by omega) ?_ | with_reducible refine ok_e (by omega) ?_ | with_reducible refine ok_if (fun h => ?_) (fun h => ?_) | with_reducible refine ok_s ?_ | with_reducible refine ok_b ?_)
          all_goals first | (rw [e5]; exact ok_of v1 ⟨rfl, rfl⟩) | (exfalso; omega)
        · rw [El_R_storeFor, e2, Int.toNat_natCast, a2, a4]
          repeat' (first | with_reducible refine ok_nb (by omega) ?_ | with_reducible refine ok_ib (by omega) ?_ | with_reducible refine ok_t (by omega) ?_ | with_reducible refine ok_e (by omega) ?_ | with_reducible refine ok_if (fun h => ?_) (fun h => ?_) | with_reducible refine ok_s ?_ | with_reducible refine ok_b ?_)
          all_goals first | (rw [e5]; exact ok_of v2 ⟨rfl, rfl⟩) | (exfalso; omega)
  exact key 6 N N 0 (-1) (by omega) (by omega) (by omega) (Or.inl ⟨rfl, fun s hs => by omega⟩)
/-- bytes of two copies differ -/
def nal (f : Nat → Int) (a b c n : Nat) : Bool := anyb (fun j => !decide (f (a + j) = f (b + j))) c n
theorem l_same {e : w_E} {N : Nat} {S : w_S} {x1 : Int} {a b : Nat} (hx : 1 ≤ x1 ∧ x1 ≤ 30) (hl : 0 ≤ S.1 90 x1.toNat ∧ S.1 90 x1.toNat ≤ 200) (ha : a + 200 ≤ 37200) (hb : b + 200 ≤ 37200) : ∀ (k n i : Nat), (i : Int) + k = S.1 90 x1.toNat → k < n → El_Stores_isSameOn e N n 0 [x1, a, b, i] [] S = some (1 - bi (nal (S.1 93) a b i k), S) := by
  intro k
  induction k with
  | zero =>
    intro n i hi hn
    obtain ⟨n, rfl⟩ : ∃ q, n = q + 1 := ⟨n - 1, by omega⟩
    refine ok_eq ?_
    rw [El_Stores_isSameOn]
    repeat' (first | with_reducible refine ok_nb (by omega) ?_ | with_reducible refine ok_ib (by omega) ?_ | with_reducible refine ok_t (by omega) ?_ | with_reducible refine ok_e (by omega) ?_ | with_reducible refine ok_if (fun h => ?_) (fun h => ?_) | with_reducible refine ok_s ?_ | with_reducible refine ok_b ?_)
    exact ⟨rfl, rfl⟩
  | succ k ih =>
    intro n i hi hn
    obtain ⟨n, rfl⟩ : ∃ q, n = q + 1 := ⟨n - 1, by omega⟩
    have e1 : ((a : Int) + (i : Int)).toNat = a + i := by omega
    have e2 : ((b : Int) + (i : Int)).toNat = b + i := by omega
    have e5 : (i : Int) + 1 = ((i + 1 : Nat) : Int) := by omega
    have ih2 := ih n (i + 1) (by omega) (by omega)
    refine ok_eq ?_
    unfold nal
    rw [El_Stores_isSameOn, anyb_it, e1, e2]
    by_cases hh : S.1 93 (a + i) = S.1 93 (b + i)
    · have hq : ¬ (!decide (S.1 93 (a + i) = S.1 93 (b + i))) = true := by simp [hh]
      rw [if_neg hq]
      repeat' (first | with_reducible refine ok_nb (by omega) ?_ | with_reducible refine ok_ib (by omega) ?_ | with_reducible refine ok_t (by omega) ?_ | with_reducible refine ok_e (by omega) ?_ | with_reducible refine ok_if (fun h => ?_) (fun h => ?_) | with_reducible refine ok_s ?_ | with_reducible refine ok_b ?_)
      rw [e5]
      exact ok_of ih2 ⟨rfl, rfl⟩
    · have hq : (!decide (S.1 93 (a + i) = S.1 93 (b + i))) = true := by simp [hh]
      rw [if_pos hq]
      repeat' (first | with_reducible refine ok_nb (by omega) ?_ | with_reducible refine ok_ib (by omega) ?_ | with_reducible refine ok_t (by omega) ?_ | with_reducible refine ok_e (by omega) ?_ | with_reducible refine ok_if (fun h => ?_) (fun h => ?_) | with_reducible refine ok_s ?_ | with_reducible refine ok_b ?_)
      exact ⟨rfl, rfl⟩
theorem l_alike {e : w_E} {N : Nat} {R : w_S} {p s u : Nat} (hp : 1 ≤ p ∧ p ≤ 30) (hs : s < 6) (hu : u < 6) (hl : 0 ≤ R.1 228 p ∧ R.1 228 p ≤ 200) : ∀ (k n i : Nat) (w : Int), (i : Int) + k = R.1 228 p → k < n → (w = 0 ∨ w = 1) → El_R_isAlike e N n 0 [p, s, u, w, i] [] R = some ((if w = 0 then 0 else 1 - bi (nal (R.1 231) (200 * (6 * p + s)) (200 * (6 * p + u)) i k)), R) := by
  intro k
  induction k with
  | zero =>
    intro n i w hi hn hw
    obtain ⟨n, rfl⟩ : ∃ q, n = q + 1 := ⟨n - 1, by omega⟩
    refine ok_eq ?_
    rw [El_R_isAlike, Int.toNat_natCast]
    repeat' (first | with_reducible refine ok_nb (by omega) ?_ | with_reducible refine ok_ib (by omega) ?_ | with_reducible refine ok_t (by omega) ?_ | with_reducible refine ok_e (by omega) ?_ | with_reducible refine ok_if (fun h => ?_) (fun h => ?_) | with_reducible refine ok_s ?_ | with_reducible refine ok_b ?_)
    refine ⟨?_, rfl⟩
    rcases hw with hw | hw <;> rw [hw] <;> rfl
  | succ k ih =>
    intro n i w hi hn hw
    obtain ⟨n, rfl⟩ : ∃ q, n = q + 1 := ⟨n - 1, by omega⟩
    have e1 : (200 * (6 * (p : Int) + (s : Int)) + (i : Int)).toNat = 200 * (6 * p + s) + i := by omega
    have e2 : (200 * (6 * (p : Int) + (u : Int)) + (i : Int)).toNat = 200 * (6 * p + u) + i := by omega
    have e5 : (i : Int) + 1 = ((i + 1 : Nat) : Int) := by omega
    refine ok_eq ?_
    rw [El_R_isAlike, Int.toNat_natCast]
    by_cases hw0 : w = 0
    · subst hw0
      repeat' (first | with_reducible refine ok_t trivial ?_ | with_reducible refine ok_nb (by omega) ?_ | with_reducible refine ok_ib (by omega) ?_ | with_reducible refine ok_t (by omega) ?_ | with_reducible refine ok_e (by omega) ?_ | with_reducible refine ok_if (fun h => ?_) (fun h => ?_) | with_reducible refine ok_s ?_ | with_reducible refine ok_b ?_)
      all_goals first | exact ⟨rfl, rfl⟩ | (exfalso; omega)
    · have hw1 : w = 1 := by omega
      subst hw1
      unfold nal
      rw [if_neg (by omega : ¬ (1 : Int) = 0), anyb_it, e1, e2]
      by_cases hh : R.1 231 (200 * (6 * p + s) + i) = R.1 231 (200 * (6 * p + u) + i)
      · have ih2 := ih n (i + 1) 1 (by omega) (by omega) (Or.inr rfl)
        rw [if_neg (by omega : ¬ (1 : Int) = 0)] at ih2
        have hq : ¬ (!decide (R.1 231 (200 * (6 * p + s) + i) = R.1 231 (200 * (6 * p + u) + i))) = true := by simp [hh]
        rw [if_neg hq]
        repeat' (first | with_reducible refine ok_nb (by omega) ?_ | with_reducible refine ok_ib (by omega) ?_ | with_reducible refine ok_t (by omega) ?_ | with_reducible refine ok_e (by omega) ?_ | with_reducible refine ok_if (fun h => ?_) (fun h => ?_) | with_reducible refine ok_s ?_ | with_reducible refine ok_b ?_)
        rw [e5]
        exact ok_of ih2 ⟨rfl, rfl⟩
      · have ih2 := ih n (i + 1) 0 (by omega) (by omega) (Or.inl rfl)
        have hq : (!decide (R.1 231 (200 * (6 * p + s) + i) = R.1 231 (200 * (6 * p + u) + i))) = true := by simp [hh]
        rw [if_pos hq]
        repeat' (first | with_reducible refine ok_nb (by omega) ?_ | with_reducible refine ok_ib (by omega) ?_ | with_reducible refine ok_t (by omega) ?_ | with_reducible refine ok_e (by omega) ?_ | with_reducible refine ok_if (fun h => ?_) (fun h => ?_) | with_reducible refine ok_s ?_ | with_reducible refine ok_b ?_)
        rw [e5]
        exact ok_of ih2 ⟨rfl, rfl⟩
/-- a store answers and has a copy -/
def hrd (S : w_S) (p s : Nat) : Bool := decide (S.1 91 s = 0) && decide (S.1 92 (6 * p + s) = 1)
theorem x_same {e : w_E} {N : Nat} {S R : w_S} {p s u : Nat} (hN : 1000 ≤ N) (h : RelS S R) (hp : 1 ≤ p) (hp2 : (p : Int) ≤ S.1 89 0) (hs : s < 6) (hu : u < 6) : E_Stores_isSameOn e N p s u S = some (1 - bi (nal (S.1 93) (200 * (6 * p + s)) (200 * (6 * p + u)) 0 (S.1 90 p).toNat), S) ∧ (S.1 92 (6 * p + s) = 1 → S.1 92 (6 * p + u) = 1 → E_R_isAlike e N p s u R = some (1 - bi (nal (S.1 93) (200 * (6 * p + s)) (200 * (6 * p + u)) 0 (S.1 90 p).toNat), R)) := by
  have h3 := h.2.2.1
  obtain ⟨c1, c2, c3, c4⟩ := h.2.2.2.2 p hp hp2
  constructor
  · refine ok_eq ?_
    unfold E_Stores_isSameOn
    have e1 : ((p : Int) * 6 + (s : Int)) * 200 = ((200 * (6 * p + s) : Nat) : Int) := by omega
    have e2 : ((p : Int) * 6 + (u : Int)) * 200 = ((200 * (6 * p + u) : Nat) : Int) := by omega
    rw [e1, e2]
    have k := l_same (e := e) (N := N) (S := S) (x1 := (p : Int)) (a := 200 * (6 * p + s)) (b := 200 * (6 * p + u)) (by omega) (by rw [Int.toNat_natCast]; omega) (by omega) (by omega) (S.1 90 p).toNat N 0 (by rw [Int.toNat_natCast]; omega) (by omega)
    repeat' (first | with_reducible refine ok_nb (by omega) ?_ | with_reducible refine ok_ib (by omega) ?_ | with_reducible refine ok_t (by omega) ?_ | with_reducible refine ok_e (by omega) ?_ | with_reducible refine ok_if (fun h => ?_) (fun h => ?_) | with_reducible refine ok_s ?_ | with_reducible refine ok_b ?_)
    exact ok_of k ⟨rfl, rfl⟩
  · intro a1 a2
    have k := l_alike (e := e) (N := N) (R := R) (p := p) (s := s) (u := u) (by omega) hs hu (by omega) (R.1 228 p).toNat N 0 1 (by omega) (by omega) (Or.inr rfl)
    rw [if_neg (by omega : ¬ (1 : Int) = 0)] at k
    have hc : nal (R.1 231) (200 * (6 * p + s)) (200 * (6 * p + u)) 0 (R.1 228 p).toNat = nal (S.1 93) (200 * (6 * p + s)) (200 * (6 * p + u)) 0 (S.1 90 p).toNat := by
      unfold nal
      rw [c1]
      refine anyb_congr _ _ (fun j b1 b2 => ?_)
      rw [((c4 s hs).2.2 a1 j (by omega)).1, ((c4 u hu).2.2 a2 j (by omega)).1]
    rw [hc] at k
    exact k
end
section
-- a7
/-- how many heard copies are as one's, and how many not -/
def sms (S : w_S) (p s c n : Nat) : Int := cnt (fun o => hrd S p o && !nal (S.1 93) (200 * (6 * p + s)) (200 * (6 * p + o)) 0 (S.1 90 p).toNat) c n
def oth (S : w_S) (p s c n : Nat) : Int := cnt (fun o => hrd S p o && nal (S.1 93) (200 * (6 * p + s)) (200 * (6 * p + o)) 0 (S.1 90 p).toNat) c n
theorem sms_oth (S : w_S) (p s c n : Nat) : cnt (hrd S p) c n = sms S p s c n + oth S p s c n := by
  unfold sms oth
  rw [← cnt_split]
  · refine cnt_congr _ _ (fun k _ _ => ?_)
    cases hrd S p k <;> cases nal (S.1 93) (200 * (6 * p + s)) (200 * (6 * p + k)) 0 (S.1 90 p).toNat <;> rfl
  · intro k hk
    cases h1 : hrd S p k <;> cases h2 : nal (S.1 93) (200 * (6 * p + s)) (200 * (6 * p + k)) 0 (S.1 90 p).toNat <;> simp_all
def maj (S : w_S) (p s : Nat) : Bool := hrd S p s && decide (oth S p s 0 6 < sms S p s 0 6)
theorem hrd_iff {S : w_S} {p s : Nat} : hrd S p s = true ↔ (S.1 91 s = 0 ∧ S.1 92 (6 * p + s) = 1) := by simp [hrd]
theorem x_major {e : w_E} {N : Nat} {S R : w_S} {p : Nat} (hN : 1000 ≤ N) (h : RelS S R) (hp : 1 ≤ p) (hp2 : (p : Int) ≤ S.1 89 0) : E_Stores_majorityStore e N p S = some (o1 (-1) (fst (maj S p) 0 6), S) ∧ E_R_majority e N p R = some (o1 (-1) (fst (maj S p) 0 6), R) := by
  have h3 := h.2.2.1
  have h4 := h.2.2.2.1
  have h5 := (h.2.2.2.2 p hp hp2).2.2.2
  constructor
  · have inn : ∀ (k n i s : Nat) (a b : Int) (P : Int → w_S → Prop) (m : Nat), m + k ≤ n → i + k = 6 → s < 6 → 0 ≤ a → a + k ≤ 100 → 0 ≤ b → b + k ≤ 100 → (∀ n', m ≤ n' → Ok (El_Stores_majorityStore e N n' 1 [p, s, a + sms S p s i k, b + oth S p s i k, 6] [] S) P) → Ok (El_Stores_majorityStore e N n 1 [p, s, a, b, i] [] S) P := by
      intro k
      induction k with
      | zero =>
        intro n i s a b P m hn hi hs ha ha2 hb hb2 hP
        have := hP n (by omega)
        have e6 : (6 : Int) = (i : Int) := by omega
        unfold sms oth at this
        rw [cnt, cnt, Int.add_zero, Int.add_zero, e6] at this
        exact this
      | succ k ih =>
        intro n i s a b P m hn hi hs ha ha2 hb hb2 hP
        obtain ⟨n, rfl⟩ : ∃ q, n = q + 1 := ⟨n - 1, by omega⟩
        have e1 : ((p : Int) * 6 + (i : Int)).toNat = 6 * p + i := by omega
        have e5 : (i : Int) + 1 = ((i + 1 : Nat) : Int) := by omega
        unfold sms oth at hP
        rw [cnt, cnt] at hP
        obtain ⟨a1, a2⟩ := h4 i (by omega)
        obtain ⟨a3, a4, _⟩ := h5 i (by omega)
        have hsm := (x_same (e := e) (N := N) (s := s) (u := i) hN h hp hp2 hs (by omega)).1
        have hi2 := hrd_iff (S := S) (p := p) (s := i)
        rw [El_Stores_majorityStore, e1]
        simp only [Int.toNat_natCast]
        cases hh : hrd S p i with
        | false =>
          rw [hh] at hP hi2
          simp only [Bool.false_and, Bool.false_eq_true, if_false, Int.zero_add] at hP
          have ih2 := ih n (i + 1) s a b P m (by omega) (by omega) hs ha (by omega) hb (by omega) hP
          have hno : ¬ (S.1 91 i = 0 ∧ S.1 92 (6 * p + i) = 1) := fun q => by
            have := hi2.mpr q
            cases this
          clear ih hP hi2
          repeat' (first | with_reducible refine ok_nb (by omega) ?_ | with_reducible refine ok_ib (by omega) ?_ | with_reducible refine ok_t (by omega) ?_ | with_reducible refine ok_e (by omega) ?_ | with_reducible refine ok_if (fun h => ?_) (fun h => ?_) | with_reducible refine ok_s ?_ | with_reducible refine ok_b ?_)
          all_goals first | (rw [e5]; exact ih2) | (exfalso; omega)
        | true =>
          rw [hh] at hP
          have hy := hi2.mp hh
          clear hi2
          cases hn2 : nal (S.1 93) (200 * (6 * p + s)) (200 * (6 * p + i)) 0 (S.1 90 p).toNat with
          | false =>
            rw [hn2] at hP hsm
            simp only [Bool.true_and, Bool.not_false, Bool.false_eq_true, if_true, if_false, Int.zero_add] at hP
            have ih2 := ih n (i + 1) s (a + 1) b P m (by omega) (by omega) hs (by omega) (by omega) hb (by omega) (fun n' hn' => by
              have := hP n' hn'
              rw [← Int.add_assoc] at this
              exact this)
            have hs1 : (1 : Int) - bi false = 1 := rfl
            rw [hs1] at hsm
            clear ih hP
            repeat' (first | (with_reducible refine ok_of hsm ?_; dsimp only) | with_reducible refine ok_nb (by omega) ?_ | with_reducible refine ok_ib (by omega) ?_ | with_reducible refine ok_t (by omega) ?_ | with_reducible refine ok_e (by omega) ?_ | with_reducible refine ok_if (fun h => ?_) (fun h => ?_) | with_reducible refine ok_s ?_ | with_reducible refine ok_b ?_)
            all_goals first | (rw [Int.add_zero, e5]; exact ih2) | (exfalso; omega)
          | true =>
            rw [hn2] at hP hsm
            simp only [Bool.true_and, Bool.not_true, Bool.false_eq_true, if_true, if_false, Int.zero_add] at hP
            have ih2 := ih n (i + 1) s a (b + 1) P m (by omega) (by omega) hs ha (by omega) (by omega) (by omega) (fun n' hn' => by
              have := hP n' hn'
              rw [← Int.add_assoc] at this
              exact this)
            have hs1 : (1 : Int) - bi true = 0 := rfl
            rw [hs1] at hsm
            clear ih hP
            repeat' (first | (with_reducible refine ok_of hsm ?_; dsimp only) | with_reducible refine ok_t trivial ?_ | with_reducible refine ok_nb (by omega) ?_ | with_reducible refine ok_ib (by omega) ?_ | with_reducible refine ok_t (by omega) ?_ | with_reducible refine ok_e (by omega) ?_ | with_reducible refine ok_if (fun h => ?_) (fun h => ?_) | with_reducible refine ok_s ?_ | with_reducible refine ok_b ?_)
            all_goals first | (rw [Int.add_zero, e5]; exact ih2) | (exfalso; omega)
    have key : ∀ (k n s : Nat), 20 * k + 5 ≤ n → s + k = 6 → El_Stores_majorityStore e N n 0 [p, s] [] S = some (o1 (-1) (fst (maj S p) s k), S) := by
      intro k
      induction k with
      | zero =>
        intro n s hn hs
        obtain ⟨n, rfl⟩ : ∃ q, n = q + 1 := ⟨n - 1, by omega⟩
        rw [El_Stores_majorityStore, if_pos (by omega)]
        rfl
      | succ k ih =>
        intro n s hn hs
        obtain ⟨n, rfl⟩ : ∃ q, n = q + 1 := ⟨n - 1, by omega⟩
        have e5 : (s : Int) + 1 = ((s + 1 : Nat) : Int) := by omega
        have e1 : ((p : Int) * 6 + (s : Int)).toNat = 6 * p + s := by omega
        refine ok_eq ?_
        rw [El_Stores_majorityStore, fst]
        repeat' (first | with_reducible refine ok_nb (by omega) ?_ | with_reducible refine ok_ib (by omega) ?_ | with_reducible refine ok_t (by omega) ?_ | with_reducible refine ok_e (by omega) ?_ | with_reducible refine ok_if (fun h => ?_) (fun h => ?_) | with_reducible refine ok_s ?_ | with_reducible refine ok_b ?_)
        have e0 : El_Stores_majorityStore e N n 1 [(p : Int), (s : Int), 0, 0, 0] [] S = El_Stores_majorityStore e N n 1 [(p : Int), (s : Int), 0, 0, ((0 : Nat) : Int)] [] S := rfl
        rw [e0]
        refine inn 6 n 0 s 0 0 _ (20 * k + 8) (by omega) (by omega) (by omega) (by omega) (by omega) (by omega) (by omega) (fun n' hn' => ?_)
        obtain ⟨n', rfl⟩ : ∃ q, n' = q + 1 := ⟨n' - 1, by omega⟩
        have ih2 := ih n' (s + 1) (by omega) (by omega)
        have hi2 := hrd_iff (S := S) (p := p) (s := s)
        obtain ⟨a3, a4, _⟩ := h5 s (by omega)
        rw [Int.zero_add, Int.zero_add, El_Stores_majorityStore, e1, Int.toNat_natCast]
        by_cases hm : maj S p s = true
        · have hm2 : (S.1 91 s = 0 ∧ S.1 92 (6 * p + s) = 1) ∧ oth S p s 0 6 < sms S p s 0 6 := by
            have := hm
            unfold maj at this
            simp only [Bool.and_eq_true, decide_eq_true_eq] at this
            exact ⟨hi2.mp this.1, this.2⟩
          rw [if_pos hm]
          clear hi2
          repeat' (first | with_reducible refine ok_nb (by omega) ?_ | with_reducible refine ok_ib (by omega) ?_ | with_reducible refine ok_t (by omega) ?_ | with_reducible refine ok_e (by omega) ?_ | with_reducible refine ok_if (fun h => ?_) (fun h => ?_) | with_reducible refine ok_s ?_ | with_reducible refine ok_b ?_)
          exact ⟨rfl, rfl⟩
        · have hm2 : ¬ ((S.1 91 s = 0 ∧ S.1 92 (6 * p + s) = 1) ∧ oth S p s 0 6 < sms S p s 0 6) := by
            intro q
            apply hm
            unfold maj
            simp only [Bool.and_eq_true, decide_eq_true_eq]
            exact ⟨hi2.mpr q.1, q.2⟩
          rw [if_neg hm]
          clear hi2
          repeat' (first | with_reducible refine ok_nb (by omega) ?_ | with_reducible refine ok_ib (by omega) ?_ | with_reducible refine ok_t (by omega) ?_ | with_reducible refine ok_e (by omega) ?_ | with_reducible refine ok_if (fun h => ?_) (fun h => ?_) | with_reducible refine ok_s ?_ | with_reducible refine ok_b ?_)
          all_goals first | (rw [e5]; exact ok_of ih2 ⟨rfl, rfl⟩) | (exfalso; omega)
    exact key 6 N 0 (by omega) (by omega)
  · have all : ∀ (k n i : Nat) (a : Int) (P : Int → w_S → Prop) (m : Nat), m + k ≤ n → i + k = 6 → 0 ≤ a → a + k ≤ 100 → (∀ n', m ≤ n' → Ok (El_R_majority e N n' 0 [p, a + cnt (hrd S p) i k, 6] [] R) P) → Ok (El_R_majority e N n 0 [p, a, i] [] R) P := by
      intro k
      induction k with
      | zero =>
        intro n i a P m hn hi ha ha2 hP
        have := hP n (by omega)
        have e6 : (6 : Int) = (i : Int) := by omega
        rw [cnt, Int.add_zero, e6] at this
        exact this
      | succ k ih =>
        intro n i a P m hn hi ha ha2 hP
        obtain ⟨n, rfl⟩ : ∃ q, n = q + 1 := ⟨n - 1, by omega⟩
        have e1 : (6 * (p : Int) + (i : Int)).toNat = 6 * p + i := by omega
        have e5 : (i : Int) + 1 = ((i + 1 : Nat) : Int) := by omega
        rw [cnt] at hP
        obtain ⟨a1, a2⟩ := h4 i (by omega)
        obtain ⟨a3, a4, _⟩ := h5 i (by omega)
        have hi2 := hrd_iff (S := S) (p := p) (s := i)
        rw [El_R_majority, e1, Int.toNat_natCast, a2, a4]
        by_cases hh : hrd S p i = true
        · rw [if_pos hh] at hP
          have hy := hi2.mp hh
          have ih2 := ih n (i + 1) (a + 1) P m (by omega) (by omega) (by omega) (by omega) (fun n' hn' => by
            have := hP n' hn'
            rw [← Int.add_assoc] at this
            exact this)
          clear ih hP hi2
          repeat' (first | with_reducible refine ok_nb (by omega) ?_ | with_reducible refine ok_ib (by omega) ?_ | with_reducible refine ok_t (by omega) ?_ | with_reducible refine ok_e (by omega) ?_ | with_reducible refine ok_if (fun h => ?_) (fun h => ?_) | with_reducible refine ok_s ?_ | with_reducible refine ok_b ?_)
          all_goals first | (rw [e5]; exact ih2) | (exfalso; omega)
        · rw [if_neg hh] at hP
          have hy : ¬ (S.1 91 i = 0 ∧ S.1 92 (6 * p + i) = 1) := fun q => hh (hi2.mpr q)
          have ih2 := ih n (i + 1) a P m (by omega) (by omega) (by omega) (by omega) (fun n' hn' => by
            have := hP n' hn'
            rw [Int.zero_add] at this
            exact this)
          clear ih hP hi2
          repeat' (first | with_reducible refine ok_nb (by omega) ?_ | with_reducible refine ok_ib (by omega) ?_ | with_reducible refine ok_t (by omega) ?_ | with_reducible refine ok_e (by omega) ?_ | with_reducible refine ok_if (fun h => ?_) (fun h => ?_) | with_reducible refine ok_s ?_ | with_reducible refine ok_b ?_)
          all_goals first | (rw [Int.add_zero, e5]; exact ih2) | (exfalso; omega)
    have inn : ∀ (k n i s : Nat) (g a : Int) (P : Int → w_S → Prop) (m : Nat), m + k ≤ n → i + k = 6 → s < 6 → S.1 92 (6 * p + s) = 1 → 0 ≤ a → a + k ≤ 100 → (∀ n', m ≤ n' → Ok (El_R_majority e N n' 2 [p, g, s, a + sms S p s i k, 6] [] R) P) → Ok (El_R_majority e N n 2 [p, g, s, a, i] [] R) P := by
      intro k
      induction k with
      | zero =>
        intro n i s g a P m hn hi hs hps ha ha2 hP
        have := hP n (by omega)
        have e6 : (6 : Int) = (i : Int) := by omega
        unfold sms at this
        rw [cnt, Int.add_zero, e6] at this
        exact this
      | succ k ih =>
        intro n i s g a P m hn hi hs hps ha ha2 hP
        obtain ⟨n, rfl⟩ : ∃ q, n = q + 1 := ⟨n - 1, by omega⟩
        have e1 : (6 * (p : Int) + (i : Int)).toNat = 6 * p + i := by omega
        have e5 : (i : Int) + 1 = ((i + 1 : Nat) : Int) := by omega
        unfold sms at hP
        rw [cnt] at hP
        obtain ⟨a1, a2⟩ := h4 i (by omega)
        obtain ⟨a3, a4, _⟩ := h5 i (by omega)
        have hi2 := hrd_iff (S := S) (p := p) (s := i)
        have hsm := (x_same (e := e) (N := N) (s := s) (u := i) hN h hp hp2 hs (by omega)).2 hps
        rw [El_R_majority, e1, Int.toNat_natCast, a2, a4]
        cases hh : hrd S p i with
        | false =>
          rw [hh] at hP hi2
          simp only [Bool.false_and, Bool.false_eq_true, if_false, Int.zero_add] at hP
          have ih2 := ih n (i + 1) s g a P m (by omega) (by omega) hs hps ha (by omega) hP
          have hno : ¬ (S.1 91 i = 0 ∧ S.1 92 (6 * p + i) = 1) := fun q => by
            have := hi2.mpr q
            cases this
          clear ih hP hi2 hsm
          repeat' (first | with_reducible refine ok_nb (by omega) ?_ | with_reducible refine ok_ib (by omega) ?_ | with_reducible refine ok_t (by omega) ?_ | with_reducible refine ok_e (by omega) ?_ | with_reducible refine ok_if (fun h => ?_) (fun h => ?_) | with_reducible refine ok_s ?_ | with_reducible refine ok_b ?_)
          all_goals first | (rw [Int.add_zero, e5]; exact ih2) | (exfalso; omega)
        | true =>
          rw [hh] at hP
          have hy := hi2.mp hh
          have hsm := hsm hy.2
          clear hi2
          cases hn2 : nal (S.1 93) (200 * (6 * p + s)) (200 * (6 * p + i)) 0 (S.1 90 p).toNat with
          | false =>
            rw [hn2] at hP hsm
            simp only [Bool.true_and, Bool.not_false, if_true] at hP
            have ih2 := ih n (i + 1) s g (a + 1) P m (by omega) (by omega) hs hps (by omega) (by omega) (fun n' hn' => by
              have := hP n' hn'
              rw [← Int.add_assoc] at this
              exact this)
            have hs1 : (1 : Int) - bi false = 1 := rfl
            rw [hs1] at hsm
            clear ih hP
            repeat' (first | (with_reducible refine ok_of hsm ?_; dsimp only) | with_reducible refine ok_nb (by omega) ?_ | with_reducible refine ok_ib (by omega) ?_ | with_reducible refine ok_t (by omega) ?_ | with_reducible refine ok_e (by omega) ?_ | with_reducible refine ok_if (fun h => ?_) (fun h => ?_) | with_reducible refine ok_s ?_ | with_reducible refine ok_b ?_)
            all_goals first | (rw [e5]; exact ih2) | (exfalso; omega)
          | true =>
            rw [hn2] at hP hsm
            simp only [Bool.true_and, Bool.not_true, Bool.false_eq_true, if_false, Int.zero_add] at hP
            have ih2 := ih n (i + 1) s g a P m (by omega) (by omega) hs hps ha (by omega) hP
            have hs1 : (1 : Int) - bi true = 0 := rfl
            rw [hs1] at hsm
            clear ih hP
            repeat' (first | (with_reducible refine ok_of hsm ?_; dsimp only) | with_reducible refine ok_t trivial ?_ | with_reducible refine ok_nb (by omega) ?_ | with_reducible refine ok_ib (by omega) ?_ | with_reducible refine ok_t (by omega) ?_ | with_reducible refine ok_e (by omega) ?_ | with_reducible refine ok_if (fun h => ?_) (fun h => ?_) | with_reducible refine ok_s ?_ | with_reducible refine ok_b ?_)
            all_goals first | (rw [Int.add_zero, e5]; exact ih2) | (exfalso; omega)
    have key : ∀ (k n s : Nat), 20 * k + 5 ≤ n → s + k = 6 → El_R_majority e N n 1 [p, cnt (hrd S p) 0 6, s] [] R = some (o1 (-1) (fst (maj S p) s k), R) := by
      intro k
      induction k with
      | zero =>
        intro n s hn hs
        obtain ⟨n, rfl⟩ : ∃ q, n = q + 1 := ⟨n - 1, by omega⟩
        rw [El_R_majority, if_pos (by omega)]
        rfl
      | succ k ih =>
        intro n s hn hs
        obtain ⟨n, rfl⟩ : ∃ q, n = q + 1 := ⟨n - 1, by omega⟩
        have e5 : (s : Int) + 1 = ((s + 1 : Nat) : Int) := by omega
        have e1 : (6 * (p : Int) + (s : Int)).toNat = 6 * p + s := by omega
        obtain ⟨a1, a2⟩ := h4 s (by omega)
        obtain ⟨a3, a4, _⟩ := h5 s (by omega)
        have hi2 := hrd_iff (S := S) (p := p) (s := s)
        have hall := sms_oth S p s 0 6
        have hc1 := cnt_le (hrd S p) 6 0
        refine ok_eq ?_
        rw [El_R_majority, fst, e1, Int.toNat_natCast, a2, a4]
        by_cases hh : hrd S p s = true
        · have hy := hi2.mp hh
          clear hi2
          repeat' (first | with_reducible refine ok_nb (by omega) ?_ | with_reducible refine ok_ib (by omega) ?_ | with_reducible refine ok_t (by omega) ?_ | with_reducible refine ok_e (by omega) ?_ | with_reducible refine ok_if (fun h => ?_) (fun h => ?_) | with_reducible refine ok_s ?_ | with_reducible refine ok_b ?_)
          all_goals first | (exfalso; omega) | skip
          have e0 : El_R_majority e N n 2 [(p : Int), cnt (hrd S p) 0 6, (s : Int), 0, 0] [] R = El_R_majority e N n 2 [(p : Int), cnt (hrd S p) 0 6, (s : Int), 0, ((0 : Nat) : Int)] [] R := rfl
          rw [e0]
          refine inn 6 n 0 s _ 0 _ (20 * k + 8) (by omega) (by omega) (by omega) hy.2 (by omega) (by omega) (fun n' hn' => ?_)
          obtain ⟨n', rfl⟩ : ∃ q, n' = q + 1 := ⟨n' - 1, by omega⟩
          have ih2 := ih n' (s + 1) (by omega) (by omega)
          have hc2 := cnt_le (fun o => hrd S p o && !nal (S.1 93) (200 * (6 * p + s)) (200 * (6 * p + o)) 0 (S.1 90 p).toNat) 6 0
          have hc3 : 0 ≤ sms S p s 0 6 ∧ sms S p s 0 6 ≤ 6 := hc2
          rw [Int.zero_add, El_R_majority]
          by_cases hm : maj S p s = true
          · have hm2 : oth S p s 0 6 < sms S p s 0 6 := by
              have := hm
              unfold maj at this
              simp only [Bool.and_eq_true, decide_eq_true_eq] at this
              exact this.2
            rw [if_pos hm]
            repeat' (first | with_reducible refine ok_nb (by omega) ?_ | with_reducible refine ok_ib (by omega) ?_ | with_reducible refine ok_t (by omega) ?_ | with_reducible refine ok_e (by omega) ?_ | with_reducible refine ok_if (fun h => ?_) (fun h => ?_) | with_reducible refine ok_s ?_ | with_reducible refine ok_b ?_)
            exact ⟨rfl, rfl⟩
          · have hm2 : ¬ (oth S p s 0 6 < sms S p s 0 6) := by
              intro q
              apply hm
              unfold maj
              simp only [Bool.and_eq_true, decide_eq_true_eq]
              exact ⟨hh, q⟩
            rw [if_neg hm]
            repeat' (first | with_reducible refine ok_nb (by omega) ?_ | with_reducible refine ok_ib (by omega) ?_ | with_reducible refine ok_t (by omega) ?_ | with_reducible refine ok_e (by omega) ?_ | with_reducible refine ok_if (fun h => ?_) (fun h => ?_) | with_reducible refine ok_s ?_ | with_reducible refine ok_b ?_)
            all_goals first | (rw [e5]; exact ok_of ih2 ⟨rfl, rfl⟩) | (exfalso; omega)
        · have hy : ¬ (S.1 91 s = 0 ∧ S.1 92 (6 * p + s) = 1) := fun q => hh (hi2.mpr q)
          have hm : ¬ maj S p s = true := by
            intro q
            apply hh
            unfold maj at q
            simp only [Bool.and_eq_true] at q
            exact q.1
          have ih2 := ih n (s + 1) (by omega) (by omega)
          rw [if_neg hm]
          clear hi2
          repeat' (first | with_reducible refine ok_nb (by omega) ?_ | with_reducible refine ok_ib (by omega) ?_ | with_reducible refine ok_t (by omega) ?_ | with_reducible refine ok_e (by omega) ?_ | with_reducible refine ok_if (fun h => ?_) (fun h => ?_) | with_reducible refine ok_s ?_ | with_reducible refine ok_b ?_)
          all_goals first | (rw [e5]; exact ok_of ih2 ⟨rfl, rfl⟩) | (exfalso; omega)
    refine ok_eq ?_
    unfold E_R_majority
    have e0 : El_R_majority e N N 0 [(p : Int), 0, 0] [] R = El_R_majority e N N 0 [(p : Int), 0, ((0 : Nat) : Int)] [] R := rfl
    rw [e0]
    refine all 6 N 0 0 _ 300 (by omega) (by omega) (by omega) (by omega) (fun n' hn' => ?_)
    obtain ⟨n', rfl⟩ : ∃ q, n' = q + 1 := ⟨n' - 1, by omega⟩
    rw [Int.zero_add, El_R_majority]
    repeat' (first | with_reducible refine ok_nb (by omega) ?_ | with_reducible refine ok_ib (by omega) ?_ | with_reducible refine ok_t (by omega) ?_ | with_reducible refine ok_e (by omega) ?_ | with_reducible refine ok_if (fun h => ?_) (fun h => ?_) | with_reducible refine ok_s ?_ | with_reducible refine ok_b ?_)
    exact ok_of (key 6 n' 0 (by omega) (by omega)) ⟨rfl, rfl⟩
end
