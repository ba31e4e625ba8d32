section
-- 74
theorem l_closedBetween {e : w_E} {N : Nat} {S : w_S} {x1 : Int} {x2 : Int} (h0 : 0 ≤ S.1 27 4 ∧ S.1 27 4 ≤ 60) : ∀ (k n : Nat) (acc i : Int), k < n → 0 ≤ i → i + k = S.1 27 4 → 0 ≤ acc → acc + k ≤ 1000000 → Ok (El_RuleBook_closedBetween e N n 0 [x1, x2, acc, i] [] S) (fun y S1 => y = acc + cnt (fun j => decide (x1 < S.1 28 j) && decide (S.1 28 j ≤ x2)) i.toNat k ∧ S1 = S)
  | 0, n + 1, acc, i, h1, h2, h3, h4, h5 => by
    rw [El_RuleBook_closedBetween, cnt]
    repeat' (first | with_reducible refine ok_nb (by omega) ?_ | with_reducible refine ok_ib (by omega) ?_ | with_reducible refine ok_t (by omega) ?_ | with_reducible refine ok_e (by omega) ?_ | with_reducible refine ok_if (fun h => ?_) (fun h => ?_) | with_reducible refine ok_s ?_ | with_reducible refine ok_b ?_)
    all_goals exact ⟨by first | rfl | omega | (rcases h4 with rfl | rfl <;> rfl), rfl⟩
  | k + 1, n + 1, acc, i, h1, h2, h3, h4, h5 => by
    have e1 : (i + 1).toNat = i.toNat + 1 := by omega
    have e2 : ((i.toNat : Nat) : Int) = i := by omega
    rw [El_RuleBook_closedBetween, cnt]
    repeat' (first | with_reducible refine ok_nb (by omega) ?_ | with_reducible refine ok_ib (by omega) ?_ | with_reducible refine ok_t (by omega) ?_ | with_reducible refine ok_e (by omega) ?_ | with_reducible refine ok_if (fun h => ?_) (fun h => ?_) | with_reducible refine ok_s ?_ | with_reducible refine ok_b ?_)
    all_goals first | (refine (l_closedBetween (h0 := h0) k n _ _ (by omega) (by omega) (by omega) (by omega) (by omega)).mono (fun y S1 q => ⟨?_, q.2⟩); rw [q.1, e1]; (try rw [e2]); (try simp only [Bool.and_eq_true, Bool.or_eq_true, Bool.not_eq_true', decide_eq_true_eq, decide_eq_false_iff_not, if_true, if_false, reduceIte, o1_some, o1_none]); (first | rfl | omega | (repeat' split) <;> (try simp only [o1_some, o1_none]) <;> first | rfl | omega | (exfalso; omega))) | (refine ⟨?_, rfl⟩; (try simp only [Bool.and_eq_true, Bool.or_eq_true, Bool.not_eq_true', decide_eq_true_eq, decide_eq_false_iff_not, if_true, if_false, reduceIte, o1_some, o1_none]); (first | rfl | omega | (repeat' split) <;> (try simp only [o1_some, o1_none]) <;> first | rfl | omega | (exfalso; omega)))
theorem l_isShut {e : w_E} {N : Nat} {S : w_S} {x1 : Int} (h0 : 0 ≤ S.1 129 125 ∧ S.1 129 125 ≤ 60) : ∀ (k n : Nat) (acc i : Int), k < n → 0 ≤ i → i + k = S.1 129 125 → (acc = 0 ∨ acc = 1) → Ok (El_R_isShut e N n 0 [x1, acc, i] [] S) (fun y S1 => y = (if acc = 1 then 1 else bi (anyb (fun j => decide (S.1 213 j = x1)) i.toNat k)) ∧ S1 = S)
  | 0, n + 1, acc, i, h1, h2, h3, h4 => by
    rw [El_R_isShut, anyb]
    repeat' (first | with_reducible refine ok_nb (by omega) ?_ | with_reducible refine ok_ib (by omega) ?_ | with_reducible refine ok_t (by omega) ?_ | with_reducible refine ok_e (by omega) ?_ | with_reducible refine ok_if (fun h => ?_) (fun h => ?_) | with_reducible refine ok_s ?_ | with_reducible refine ok_b ?_)
    all_goals exact ⟨by first | rfl | omega | (rcases h4 with rfl | rfl <;> rfl), rfl⟩
  | k + 1, n + 1, acc, i, h1, h2, h3, h4 => by
    have e1 : (i + 1).toNat = i.toNat + 1 := by omega
    have e2 : ((i.toNat : Nat) : Int) = i := by omega
    rw [El_R_isShut, anyb_it]
    repeat' (first | with_reducible refine ok_nb (by omega) ?_ | with_reducible refine ok_ib (by omega) ?_ | with_reducible refine ok_t (by omega) ?_ | with_reducible refine ok_e (by omega) ?_ | with_reducible refine ok_if (fun h => ?_) (fun h => ?_) | with_reducible refine ok_s ?_ | with_reducible refine ok_b ?_)
    all_goals first | (refine (l_isShut (h0 := h0) k n _ _ (by omega) (by omega) (by omega) (by omega)).mono (fun y S1 q => ⟨?_, q.2⟩); rw [q.1, e1]; (try rw [e2]); (try simp only [Bool.and_eq_true, Bool.or_eq_true, Bool.not_eq_true', decide_eq_true_eq, decide_eq_false_iff_not, if_true, if_false, reduceIte, o1_some, o1_none]); (first | rfl | omega | (repeat' split) <;> (try simp only [o1_some, o1_none]) <;> first | rfl | omega | (exfalso; omega))) | (refine ⟨?_, rfl⟩; (try simp only [Bool.and_eq_true, Bool.or_eq_true, Bool.not_eq_true', decide_eq_true_eq, decide_eq_false_iff_not, if_true, if_false, reduceIte, o1_some, o1_none]); (first | rfl | omega | (repeat' split) <;> (try simp only [o1_some, o1_none]) <;> first | rfl | omega | (exfalso; omega)))
theorem l_openLoans {e : w_E} {N : Nat} {S : w_S} {x1 : Int} (h0 : 0 ≤ S.1 46 4 ∧ S.1 46 4 ≤ 600) : ∀ (k n : Nat) (acc i : Int), k < n → 1 ≤ i → i + k = S.1 46 4 + 1 → 0 ≤ acc → acc + k ≤ 1000000 → Ok (El_Readers_openLoans e N n 0 [x1, acc, i] [] S) (fun y S1 => y = acc + cnt (fun j => decide (S.1 50 j = x1) && decide (S.1 56 j = 0)) i.toNat k ∧ S1 = S)
  | 0, n + 1, acc, i, h1, h2, h3, h4, h5 => by
    rw [El_Readers_openLoans, cnt]
    repeat' (first | with_reducible refine ok_nb (by omega) ?_ | with_reducible refine ok_ib (by omega) ?_ | with_reducible refine ok_t (by omega) ?_ | with_reducible refine ok_e (by omega) ?_ | with_reducible refine ok_if (fun h => ?_) (fun h => ?_) | with_reducible refine ok_s ?_ | with_reducible refine ok_b ?_)
    all_goals exact ⟨by first | rfl | omega | (rcases h4 with rfl | rfl <;> rfl), rfl⟩
  | k + 1, n + 1, acc, i, h1, h2, h3, h4, h5 => by
    have e1 : (i + 1).toNat = i.toNat + 1 := by omega
    have e2 : ((i.toNat : Nat) : Int) = i := by omega
    rw [El_Readers_openLoans, cnt]
    repeat' (first | with_reducible refine ok_nb (by omega) ?_ | with_reducible refine ok_ib (by omega) ?_ | with_reducible refine ok_t (by omega) ?_ | with_reducible refine ok_e (by omega) ?_ | with_reducible refine ok_if (fun h => ?_) (fun h => ?_) | with_reducible refine ok_s ?_ | with_reducible refine ok_b ?_)
    all_goals first | (refine (l_openLoans (h0 := h0) k n _ _ (by omega) (by omega) (by omega) (by omega) (by omega)).mono (fun y S1 q => ⟨?_, q.2⟩); rw [q.1, e1]; (try rw [e2]); (try simp only [Bool.and_eq_true, Bool.or_eq_true, Bool.not_eq_true', decide_eq_true_eq, decide_eq_false_iff_not, if_true, if_false, reduceIte, o1_some, o1_none]); (first | rfl | omega | (repeat' split) <;> (try simp only [o1_some, o1_none]) <;> first | rfl | omega | (exfalso; omega))) | (refine ⟨?_, rfl⟩; (try simp only [Bool.and_eq_true, Bool.or_eq_true, Bool.not_eq_true', decide_eq_true_eq, decide_eq_false_iff_not, if_true, if_false, reduceIte, o1_some, o1_none]); (first | rfl | omega | (repeat' split) <;> (try simp only [o1_some, o1_none]) <;> first | rfl | omega | (exfalso; omega)))
theorem l_lentTo {e : w_E} {N : Nat} {S : w_S} {x1 : Int} (h0 : 0 ≤ S.1 129 68 ∧ S.1 129 68 ≤ 200) : ∀ (k n : Nat) (acc i : Int), k < n → 1 ≤ i → i + k = S.1 129 68 + 1 → 0 ≤ acc → acc + k ≤ 1000000 → Ok (El_R_lentTo e N n 0 [x1, acc, i] [] S) (fun y S1 => y = acc + cnt (fun j => decide (S.1 171 j = 1) && decide (S.1 172 j = x1)) i.toNat k ∧ S1 = S)
  | 0, n + 1, acc, i, h1, h2, h3, h4, h5 => by
    rw [El_R_lentTo, cnt]
    repeat' (first | with_reducible refine ok_nb (by omega) ?_ | with_reducible refine ok_ib (by omega) ?_ | with_reducible refine ok_t (by omega) ?_ | with_reducible refine ok_e (by omega) ?_ | with_reducible refine ok_if (fun h => ?_) (fun h => ?_) | with_reducible refine ok_s ?_ | with_reducible refine ok_b ?_)
    all_goals exact ⟨by first | rfl | omega | (rcases h4 with rfl | rfl <;> rfl), rfl⟩
  | k + 1, n + 1, acc, i, h1, h2, h3, h4, h5 => by
    have e1 : (i + 1).toNat = i.toNat + 1 := by omega
    have e2 : ((i.toNat : Nat) : Int) = i := by omega
    rw [El_R_lentTo, cnt]
    repeat' (first | with_reducible refine ok_nb (by omega) ?_ | with_reducible refine ok_ib (by omega) ?_ | with_reducible refine ok_t (by omega) ?_ | with_reducible refine ok_e (by omega) ?_ | with_reducible refine ok_if (fun h => ?_) (fun h => ?_) | with_reducible refine ok_s ?_ | with_reducible refine ok_b ?_)
    all_goals first | (refine (l_lentTo (h0 := h0) k n _ _ (by omega) (by omega) (by omega) (by omega) (by omega)).mono (fun y S1 q => ⟨?_, q.2⟩); rw [q.1, e1]; (try rw [e2]); (try simp only [Bool.and_eq_true, Bool.or_eq_true, Bool.not_eq_true', decide_eq_true_eq, decide_eq_false_iff_not, if_true, if_false, reduceIte, o1_some, o1_none]); (first | rfl | omega | (repeat' split) <;> (try simp only [o1_some, o1_none]) <;> first | rfl | omega | (exfalso; omega))) | (refine ⟨?_, rfl⟩; (try simp only [Bool.and_eq_true, Bool.or_eq_true, Bool.not_eq_true', decide_eq_true_eq, decide_eq_false_iff_not, if_true, if_false, reduceIte, o1_some, o1_none]); (first | rfl | omega | (repeat' split) <;> (try simp only [o1_some, o1_none]) <;> first | rfl | omega | (exfalso; omega)))
theorem l_isBookedByOther {e : w_E} {N : Nat} {S : w_S} {x1 : Int} {x2 : Int} {x3 : Int} (h0 : 0 ≤ S.1 46 12 ∧ S.1 46 12 ≤ 100) : ∀ (k n : Nat) (i : Int), k < n → 1 ≤ i → i + k = S.1 46 12 + 1 → Ok (El_Readers_isBookedByOther e N n 0 [x1, x2, x3, i] [] S) (fun y S1 => y = bi (anyb (fun j => decide (S.1 58 j = x1) && !decide (S.1 57 j = x2) && decide (S.1 59 j ≤ x3) && decide (S.1 61 j = 0) && decide (x3 ≤ S.1 60 j)) i.toNat k) ∧ S1 = S)
  | 0, n + 1, i, h1, h2, h3 => by
    rw [El_Readers_isBookedByOther, anyb]
    repeat' (first | with_reducible refine ok_nb (by omega) ?_ | with_reducible refine ok_ib (by omega) ?_ | with_reducible refine ok_t (by omega) ?_ | with_reducible refine ok_e (by omega) ?_ | with_reducible refine ok_if (fun h => ?_) (fun h => ?_) | with_reducible refine ok_s ?_ | with_reducible refine ok_b ?_)
    all_goals exact ⟨by first | rfl | omega | (rcases h4 with rfl | rfl <;> rfl), rfl⟩
  | k + 1, n + 1, i, h1, h2, h3 => by
    have e1 : (i + 1).toNat = i.toNat + 1 := by omega
    have e2 : ((i.toNat : Nat) : Int) = i := by omega
    rw [El_Readers_isBookedByOther, anyb_it]
    repeat' (first | with_reducible refine ok_nb (by omega) ?_ | with_reducible refine ok_ib (by omega) ?_ | with_reducible refine ok_t (by omega) ?_ | with_reducible refine ok_e (by omega) ?_ | with_reducible refine ok_if (fun h => ?_) (fun h => ?_) | with_reducible refine ok_s ?_ | with_reducible refine ok_b ?_)
    all_goals first | (refine (l_isBookedByOther (h0 := h0) k n _ (by omega) (by omega) (by omega)).mono (fun y S1 q => ⟨?_, q.2⟩); rw [q.1, e1]; (try rw [e2]); (try simp only [Bool.and_eq_true, Bool.or_eq_true, Bool.not_eq_true', decide_eq_true_eq, decide_eq_false_iff_not, if_true, if_false, reduceIte, o1_some, o1_none]); (first | rfl | omega | (repeat' split) <;> (try simp only [o1_some, o1_none]) <;> first | rfl | omega | (exfalso; omega))) | (refine ⟨?_, rfl⟩; (try simp only [Bool.and_eq_true, Bool.or_eq_true, Bool.not_eq_true', decide_eq_true_eq, decide_eq_false_iff_not, if_true, if_false, reduceIte, o1_some, o1_none]); (first | rfl | omega | (repeat' split) <;> (try simp only [o1_some, o1_none]) <;> first | rfl | omega | (exfalso; omega)))
theorem l_isBookedNow {e : w_E} {N : Nat} {S : w_S} {x1 : Int} {x2 : Int} (h0 : 0 ≤ S.1 129 87 ∧ S.1 129 87 ≤ 100) : ∀ (k n : Nat) (acc i : Int), k < n → 1 ≤ i → i + k = S.1 129 87 + 1 → (acc = 0 ∨ acc = 1) → Ok (El_R_isBookedNow e N n 0 [x1, x2, acc, i] [] S) (fun y S1 => y = (if acc = 1 then 1 else bi (anyb (fun j => decide (S.1 187 j = x2) && !decide (S.1 186 j = x1) && decide (S.1 188 j ≤ S.1 129 12) && decide (S.1 190 j = 0) && decide (S.1 129 12 ≤ S.1 189 j)) i.toNat k)) ∧ S1 = S)
  | 0, n + 1, acc, i, h1, h2, h3, h4 => by
    rw [El_R_isBookedNow, anyb]
    repeat' (first | with_reducible refine ok_nb (by omega) ?_ | with_reducible refine ok_ib (by omega) ?_ | with_reducible refine ok_t (by omega) ?_ | with_reducible refine ok_e (by omega) ?_ | with_reducible refine ok_if (fun h => ?_) (fun h => ?_) | with_reducible refine ok_s ?_ | with_reducible refine ok_b ?_)
    all_goals exact ⟨by first | rfl | omega | (rcases h4 with rfl | rfl <;> rfl), rfl⟩
  | k + 1, n + 1, acc, i, h1, h2, h3, h4 => by
    have e1 : (i + 1).toNat = i.toNat + 1 := by omega
    have e2 : ((i.toNat : Nat) : Int) = i := by omega
    rw [El_R_isBookedNow, anyb_it]
    repeat' (first | with_reducible refine ok_nb (by omega) ?_ | with_reducible refine ok_ib (by omega) ?_ | with_reducible refine ok_t (by omega) ?_ | with_reducible refine ok_e (by omega) ?_ | with_reducible refine ok_if (fun h => ?_) (fun h => ?_) | with_reducible refine ok_s ?_ | with_reducible refine ok_b ?_)
    all_goals first | (refine (l_isBookedNow (h0 := h0) k n _ _ (by omega) (by omega) (by omega) (by omega)).mono (fun y S1 q => ⟨?_, q.2⟩); rw [q.1, e1]; (try rw [e2]); (try simp only [Bool.and_eq_true, Bool.or_eq_true, Bool.not_eq_true', decide_eq_true_eq, decide_eq_false_iff_not, if_true, if_false, reduceIte, o1_some, o1_none]); (first | rfl | omega | (repeat' split) <;> (try simp only [o1_some, o1_none]) <;> first | rfl | omega | (exfalso; omega))) | (refine ⟨?_, rfl⟩; (try simp only [Bool.and_eq_true, Bool.or_eq_true, Bool.not_eq_true', decide_eq_true_eq, decide_eq_false_iff_not, if_true, if_false, reduceIte, o1_some, o1_none]); (first | rfl | omega | (repeat' split) <;> (try simp only [o1_some, o1_none]) <;> first | rfl | omega | (exfalso; omega)))
theorem l_isBookedBetween {e : w_E} {N : Nat} {S : w_S} {x1 : Int} {x2 : Int} {x3 : Int} {x4 : Int} (h0 : 0 ≤ S.1 46 12 ∧ S.1 46 12 ≤ 100) : ∀ (k n : Nat) (i : Int), k < n → 1 ≤ i → i + k = S.1 46 12 + 1 → Ok (El_Readers_isBookedBetween e N n 0 [x1, x2, x3, x4, i] [] S) (fun y S1 => y = bi (anyb (fun j => decide (S.1 58 j = x1) && decide (S.1 61 j = 0) && decide (x4 ≤ S.1 60 j) && decide (S.1 59 j ≤ x3) && decide (x2 ≤ S.1 60 j)) i.toNat k) ∧ S1 = S)
  | 0, n + 1, i, h1, h2, h3 => by
    rw [El_Readers_isBookedBetween, anyb]
    repeat' (first | with_reducible refine ok_nb (by omega) ?_ | with_reducible refine ok_ib (by omega) ?_ | with_reducible refine ok_t (by omega) ?_ | with_reducible refine ok_e (by omega) ?_ | with_reducible refine ok_if (fun h => ?_) (fun h => ?_) | with_reducible refine ok_s ?_ | with_reducible refine ok_b ?_)
    all_goals exact ⟨by first | rfl | omega | (rcases h4 with rfl | rfl <;> rfl), rfl⟩
  | k + 1, n + 1, i, h1, h2, h3 => by
    have e1 : (i + 1).toNat = i.toNat + 1 := by omega
    have e2 : ((i.toNat : Nat) : Int) = i := by omega
    rw [El_Readers_isBookedBetween, anyb_it]
    repeat' (first | with_reducible refine ok_nb (by omega) ?_ | with_reducible refine ok_ib (by omega) ?_ | with_reducible refine ok_t (by omega) ?_ | with_reducible refine ok_e (by omega) ?_ | with_reducible refine ok_if (fun h => ?_) (fun h => ?_) | with_reducible refine ok_s ?_ | with_reducible refine ok_b ?_)
    all_goals first | (refine (l_isBookedBetween (h0 := h0) k n _ (by omega) (by omega) (by omega)).mono (fun y S1 q => ⟨?_, q.2⟩); rw [q.1, e1]; (try rw [e2]); (try simp only [Bool.and_eq_true, Bool.or_eq_true, Bool.not_eq_true', decide_eq_true_eq, decide_eq_false_iff_not, if_true, if_false, reduceIte, o1_some, o1_none]); (first | rfl | omega | (repeat' split) <;> (try simp only [o1_some, o1_none]) <;> first | rfl | omega | (exfalso; omega))) | (refine ⟨?_, rfl⟩; (try simp only [Bool.and_eq_true, Bool.or_eq_true, Bool.not_eq_true', decide_eq_true_eq, decide_eq_false_iff_not, if_true, if_false, reduceIte, o1_some, o1_none]); (first | rfl | omega | (repeat' split) <;> (try simp only [o1_some, o1_none]) <;> first | rfl | omega | (exfalso; omega)))
theorem l_hasCopyLeft {e : w_E} {N : Nat} {S : w_S} {x1 : Int} (h0 : 0 ≤ S.1 62 3 ∧ S.1 62 3 ≤ 200) : ∀ (k n : Nat) (i : Int), k < n → 1 ≤ i → i + k = S.1 62 3 + 1 → Ok (El_Lending_hasCopyLeft e N n 0 [x1, i] [] S) (fun y S1 => y = bi (anyb (fun j => decide (S.1 63 j = x1) && !decide (S.1 65 j = 3)) i.toNat k) ∧ S1 = S)
  | 0, n + 1, i, h1, h2, h3 => by
    rw [El_Lending_hasCopyLeft, anyb]
    repeat' (first | with_reducible refine ok_nb (by omega) ?_ | with_reducible refine ok_ib (by omega) ?_ | with_reducible refine ok_t (by omega) ?_ | with_reducible refine ok_e (by omega) ?_ | with_reducible refine ok_if (fun h => ?_) (fun h => ?_) | with_reducible refine ok_s ?_ | with_reducible refine ok_b ?_)
    all_goals exact ⟨by first | rfl | omega | (rcases h4 with rfl | rfl <;> rfl), rfl⟩
  | k + 1, n + 1, i, h1, h2, h3 => by
    have e1 : (i + 1).toNat = i.toNat + 1 := by omega
    have e2 : ((i.toNat : Nat) : Int) = i := by omega
    rw [El_Lending_hasCopyLeft, anyb_it]
    repeat' (first | with_reducible refine ok_nb (by omega) ?_ | with_reducible refine ok_ib (by omega) ?_ | with_reducible refine ok_t (by omega) ?_ | with_reducible refine ok_e (by omega) ?_ | with_reducible refine ok_if (fun h => ?_) (fun h => ?_) | with_reducible refine ok_s ?_ | with_reducible refine ok_b ?_)
    all_goals first | (refine (l_hasCopyLeft (h0 := h0) k n _ (by omega) (by omega) (by omega)).mono (fun y S1 q => ⟨?_, q.2⟩); rw [q.1, e1]; (try rw [e2]); (try simp only [Bool.and_eq_true, Bool.or_eq_true, Bool.not_eq_true', decide_eq_true_eq, decide_eq_false_iff_not, if_true, if_false, reduceIte, o1_some, o1_none]); (first | rfl | omega | (repeat' split) <;> (try simp only [o1_some, o1_none]) <;> first | rfl | omega | (exfalso; omega))) | (refine ⟨?_, rfl⟩; (try simp only [Bool.and_eq_true, Bool.or_eq_true, Bool.not_eq_true', decide_eq_true_eq, decide_eq_false_iff_not, if_true, if_false, reduceIte, o1_some, o1_none]); (first | rfl | omega | (repeat' split) <;> (try simp only [o1_some, o1_none]) <;> first | rfl | omega | (exfalso; omega)))
theorem l_queueLength {e : w_E} {N : Nat} {S : w_S} {x1 : Int} (h0 : 0 ≤ S.1 62 14 ∧ S.1 62 14 ≤ 200) : ∀ (k n : Nat) (acc i : Int), k < n → 0 ≤ i → i + k = S.1 62 14 → 0 ≤ acc → acc + k ≤ 1000000 → Ok (El_Lending_queueLength e N n 0 [x1, acc, i] [] S) (fun y S1 => y = acc + cnt (fun j => decide (S.1 73 j = x1)) i.toNat k ∧ S1 = S)
  | 0, n + 1, acc, i, h1, h2, h3, h4, h5 => by
    rw [El_Lending_queueLength, cnt]
    repeat' (first | with_reducible refine ok_nb (by omega) ?_ | with_reducible refine ok_ib (by omega) ?_ | with_reducible refine ok_t (by omega) ?_ | with_reducible refine ok_e (by omega) ?_ | with_reducible refine ok_if (fun h => ?_) (fun h => ?_) | with_reducible refine ok_s ?_ | with_reducible refine ok_b ?_)
    all_goals exact ⟨by first | rfl | omega | (rcases h4 with rfl | rfl <;> rfl), rfl⟩
  | k + 1, n + 1, acc, i, h1, h2, h3, h4, h5 => by
    have e1 : (i + 1).toNat = i.toNat + 1 := by omega
    have e2 : ((i.toNat : Nat) : Int) = i := by omega
    rw [El_Lending_queueLength, cnt]
    repeat' (first | with_reducible refine ok_nb (by omega) ?_ | with_reducible refine ok_ib (by omega) ?_ | with_reducible refine ok_t (by omega) ?_ | with_reducible refine ok_e (by omega) ?_ | with_reducible refine ok_if (fun h => ?_) (fun h => ?_) | with_reducible refine ok_s ?_ | with_reducible refine ok_b ?_)
    all_goals first | (refine (l_queueLength (h0 := h0) k n _ _ (by omega) (by omega) (by omega) (by omega) (by omega)).mono (fun y S1 q => ⟨?_, q.2⟩); rw [q.1, e1]; (try rw [e2]); (try simp only [Bool.and_eq_true, Bool.or_eq_true, Bool.not_eq_true', decide_eq_true_eq, decide_eq_false_iff_not, if_true, if_false, reduceIte, o1_some, o1_none]); (first | rfl | omega | (repeat' split) <;> (try simp only [o1_some, o1_none]) <;> first | rfl | omega | (exfalso; omega))) | (refine ⟨?_, rfl⟩; (try simp only [Bool.and_eq_true, Bool.or_eq_true, Bool.not_eq_true', decide_eq_true_eq, decide_eq_false_iff_not, if_true, if_false, reduceIte, o1_some, o1_none]); (first | rfl | omega | (repeat' split) <;> (try simp only [o1_some, o1_none]) <;> first | rfl | omega | (exfalso; omega)))
theorem l_copyFor {e : w_E} {N : Nat} {S : w_S} {x1 : Int} {x2 : Int} {x3 : Int} (h0 : 0 ≤ S.1 62 3 ∧ S.1 62 3 ≤ 200) : ∀ (k n : Nat) (i : Int), k < n → 1 ≤ i → i + k = S.1 62 3 + 1 → Ok (El_Lending_copyFor e N n 0 [x1, x2, x3, i] [] S) (fun y S1 => y = o1 0 (fst (fun j => decide (S.1 63 j = x2) && decide (S.1 66 j = x1) && (!decide (x3 = 0) || !decide (S.1 65 j = 1))) i.toNat k) ∧ S1 = S)
  | 0, n + 1, i, h1, h2, h3 => by
    rw [El_Lending_copyFor, fst]
    repeat' (first | with_reducible refine ok_nb (by omega) ?_ | with_reducible refine ok_ib (by omega) ?_ | with_reducible refine ok_t (by omega) ?_ | with_reducible refine ok_e (by omega) ?_ | with_reducible refine ok_if (fun h => ?_) (fun h => ?_) | with_reducible refine ok_s ?_ | with_reducible refine ok_b ?_)
    all_goals exact ⟨by first | rfl | omega | (rcases h4 with rfl | rfl <;> rfl), rfl⟩
  | k + 1, n + 1, i, h1, h2, h3 => by
    have e1 : (i + 1).toNat = i.toNat + 1 := by omega
    have e2 : ((i.toNat : Nat) : Int) = i := by omega
    rw [El_Lending_copyFor, fst]
    repeat' (first | with_reducible refine ok_nb (by omega) ?_ | with_reducible refine ok_ib (by omega) ?_ | with_reducible refine ok_t (by omega) ?_ | with_reducible refine ok_e (by omega) ?_ | with_reducible refine ok_if (fun h => ?_) (fun h => ?_) | with_reducible refine ok_s ?_ | with_reducible refine ok_b ?_)
    all_goals first | (refine (l_copyFor (h0 := h0) k n _ (by omega) (by omega) (by omega)).mono (fun y S1 q => ⟨?_, q.2⟩); rw [q.1, e1]; (try rw [e2]); (try simp only [Bool.and_eq_true, Bool.or_eq_true, Bool.not_eq_true', decide_eq_true_eq, decide_eq_false_iff_not, if_true, if_false, reduceIte, o1_some, o1_none]); (first | rfl | omega | (repeat' split) <;> (try simp only [o1_some, o1_none]) <;> first | rfl | omega | (exfalso; omega))) | (refine ⟨?_, rfl⟩; (try simp only [Bool.and_eq_true, Bool.or_eq_true, Bool.not_eq_true', decide_eq_true_eq, decide_eq_false_iff_not, if_true, if_false, reduceIte, o1_some, o1_none]); (first | rfl | omega | (repeat' split) <;> (try simp only [o1_some, o1_none]) <;> first | rfl | omega | (exfalso; omega)))
theorem l_hasCopy {e : w_E} {N : Nat} {S : w_S} {x1 : Int} {x2 : Int} (h0 : 0 ≤ S.1 129 68 ∧ S.1 129 68 ≤ 200) : ∀ (k n : Nat) (acc i : Int), k < n → 1 ≤ i → i + k = S.1 129 68 + 1 → (acc = 0 ∨ acc = 1) → Ok (El_R_hasCopy e N n 0 [x1, x2, acc, i] [] S) (fun y S1 => y = (if acc = 1 then 1 else bi (anyb (fun j => decide (S.1 169 j = x2) && (decide (S.1 171 j = 1) || decide (S.1 171 j = 2) || decide (S.1 171 j = 4)) && decide (S.1 172 j = x1)) i.toNat k)) ∧ S1 = S)
  | 0, n + 1, acc, i, h1, h2, h3, h4 => by
    rw [El_R_hasCopy, anyb]
    repeat' (first | with_reducible refine ok_nb (by omega) ?_ | with_reducible refine ok_ib (by omega) ?_ | with_reducible refine ok_t (by omega) ?_ | with_reducible refine ok_e (by omega) ?_ | with_reducible refine ok_if (fun h => ?_) (fun h => ?_) | with_reducible refine ok_s ?_ | with_reducible refine ok_b ?_)
    all_goals exact ⟨by first | rfl | omega | (rcases h4 with rfl | rfl <;> rfl), rfl⟩
  | k + 1, n + 1, acc, i, h1, h2, h3, h4 => by
    have e1 : (i + 1).toNat = i.toNat + 1 := by omega
    have e2 : ((i.toNat : Nat) : Int) = i := by omega
    rw [El_R_hasCopy, anyb_it]
    repeat' (first | with_reducible refine ok_nb (by omega) ?_ | with_reducible refine ok_ib (by omega) ?_ | with_reducible refine ok_t (by omega) ?_ | with_reducible refine ok_e (by omega) ?_ | with_reducible refine ok_if (fun h => ?_) (fun h => ?_) | with_reducible refine ok_s ?_ | with_reducible refine ok_b ?_)
    all_goals first | (refine (l_hasCopy (h0 := h0) k n _ _ (by omega) (by omega) (by omega) (by omega)).mono (fun y S1 q => ⟨?_, q.2⟩); rw [q.1, e1]; (try rw [e2]); (try simp only [Bool.and_eq_true, Bool.or_eq_true, Bool.not_eq_true', decide_eq_true_eq, decide_eq_false_iff_not, if_true, if_false, reduceIte, o1_some, o1_none]); (first | rfl | omega | (repeat' split) <;> (try simp only [o1_some, o1_none]) <;> first | rfl | omega | (exfalso; omega))) | (refine ⟨?_, rfl⟩; (try simp only [Bool.and_eq_true, Bool.or_eq_true, Bool.not_eq_true', decide_eq_true_eq, decide_eq_false_iff_not, if_true, if_false, reduceIte, o1_some, o1_none]); (first | rfl | omega | (repeat' split) <;> (try simp only [o1_some, o1_none]) <;> first | rfl | omega | (exfalso; omega)))
theorem l_copiesUnderWay {e : w_E} {N : Nat} {S : w_S} (h0 : 0 ≤ S.1 62 3 ∧ S.1 62 3 ≤ 200) : ∀ (k n : Nat) (acc i : Int), k < n → 1 ≤ i → i + k = S.1 62 3 + 1 → 0 ≤ acc → acc + k ≤ 1000000 → Ok (El_Lending_copiesUnderWay e N n 0 [acc, i] [] S) (fun y S1 => y = acc + cnt (fun j => decide (S.1 65 j = 4)) i.toNat k ∧ S1 = S)
  | 0, n + 1, acc, i, h1, h2, h3, h4, h5 => by
    rw [El_Lending_copiesUnderWay, cnt]
    repeat' (first | with_reducible refine ok_nb (by omega) ?_ | with_reducible refine ok_ib (by omega) ?_ | with_reducible refine ok_t (by omega) ?_ | with_reducible refine ok_e (by omega) ?_ | with_reducible refine ok_if (fun h => ?_) (fun h => ?_) | with_reducible refine ok_s ?_ | with_reducible refine ok_b ?_)
    all_goals exact ⟨by first | rfl | omega | (rcases h4 with rfl | rfl <;> rfl), rfl⟩
  | k + 1, n + 1, acc, i, h1, h2, h3, h4, h5 => by
    have e1 : (i + 1).toNat = i.toNat + 1 := by omega
    have e2 : ((i.toNat : Nat) : Int) = i := by omega
    rw [El_Lending_copiesUnderWay, cnt]
    repeat' (first | with_reducible refine ok_nb (by omega) ?_ | with_reducible refine ok_ib (by omega) ?_ | with_reducible refine ok_t (by omega) ?_ | with_reducible refine ok_e (by omega) ?_ | with_reducible refine ok_if (fun h => ?_) (fun h => ?_) | with_reducible refine ok_s ?_ | with_reducible refine ok_b ?_)
    all_goals first | (refine (l_copiesUnderWay (h0 := h0) k n _ _ (by omega) (by omega) (by omega) (by omega) (by omega)).mono (fun y S1 q => ⟨?_, q.2⟩); rw [q.1, e1]; (try rw [e2]); (try simp only [Bool.and_eq_true, Bool.or_eq_true, Bool.not_eq_true', decide_eq_true_eq, decide_eq_false_iff_not, if_true, if_false, reduceIte, o1_some, o1_none]); (first | rfl | omega | (repeat' split) <;> (try simp only [o1_some, o1_none]) <;> first | rfl | omega | (exfalso; omega))) | (refine ⟨?_, rfl⟩; (try simp only [Bool.and_eq_true, Bool.or_eq_true, Bool.not_eq_true', decide_eq_true_eq, decide_eq_false_iff_not, if_true, if_false, reduceIte, o1_some, o1_none]); (first | rfl | omega | (repeat' split) <;> (try simp only [o1_some, o1_none]) <;> first | rfl | omega | (exfalso; omega)))
theorem l_underWay {e : w_E} {N : Nat} {S : w_S} (h0 : 0 ≤ S.1 129 68 ∧ S.1 129 68 ≤ 200) : ∀ (k n : Nat) (acc i : Int), k < n → 1 ≤ i → i + k = S.1 129 68 + 1 → 0 ≤ acc → acc + k ≤ 1000000 → Ok (El_R_underWay e N n 0 [acc, i] [] S) (fun y S1 => y = acc + cnt (fun j => decide (S.1 171 j = 4)) i.toNat k ∧ S1 = S)
  | 0, n + 1, acc, i, h1, h2, h3, h4, h5 => by
    rw [El_R_underWay, cnt]
    repeat' (first | with_reducible refine ok_nb (by omega) ?_ | with_reducible refine ok_ib (by omega) ?_ | with_reducible refine ok_t (by omega) ?_ | with_reducible refine ok_e (by omega) ?_ | with_reducible refine ok_if (fun h => ?_) (fun h => ?_) | with_reducible refine ok_s ?_ | with_reducible refine ok_b ?_)
    all_goals exact ⟨by first | rfl | omega | (rcases h4 with rfl | rfl <;> rfl), rfl⟩
  | k + 1, n + 1, acc, i, h1, h2, h3, h4, h5 => by
    have e1 : (i + 1).toNat = i.toNat + 1 := by omega
    have e2 : ((i.toNat : Nat) : Int) = i := by omega
    rw [El_R_underWay, cnt]
    repeat' (first | with_reducible refine ok_nb (by omega) ?_ | with_reducible refine ok_ib (by omega) ?_ | with_reducible refine ok_t (by omega) ?_ | with_reducible refine ok_e (by omega) ?_ | with_reducible refine ok_if (fun h => ?_) (fun h => ?_) | with_reducible refine ok_s ?_ | with_reducible refine ok_b ?_)
    all_goals first | (refine (l_underWay (h0 := h0) k n _ _ (by omega) (by omega) (by omega) (by omega) (by omega)).mono (fun y S1 q => ⟨?_, q.2⟩); rw [q.1, e1]; (try rw [e2]); (try simp only [Bool.and_eq_true, Bool.or_eq_true, Bool.not_eq_true', decide_eq_true_eq, decide_eq_false_iff_not, if_true, if_false, reduceIte, o1_some, o1_none]); (first | rfl | omega | (repeat' split) <;> (try simp only [o1_some, o1_none]) <;> first | rfl | omega | (exfalso; omega))) | (refine ⟨?_, rfl⟩; (try simp only [Bool.and_eq_true, Bool.or_eq_true, Bool.not_eq_true', decide_eq_true_eq, decide_eq_false_iff_not, if_true, if_false, reduceIte, o1_some, o1_none]); (first | rfl | omega | (repeat' split) <;> (try simp only [o1_some, o1_none]) <;> first | rfl | omega | (exfalso; omega)))
theorem l_openLoansOf {e : w_E} {N : Nat} {S : w_S} {x1 : Int} (h0 : 0 ≤ S.1 46 4 ∧ S.1 46 4 ≤ 600) : ∀ (k n : Nat) (acc i : Int), k < n → 1 ≤ i → i + k = S.1 46 4 + 1 → 0 ≤ acc → acc + k ≤ 1000000 → Ok (El_Readers_openLoansOf e N n 0 [x1, acc, i] [] S) (fun y S1 => y = acc + cnt (fun j => decide (S.1 51 j = x1) && decide (S.1 56 j = 0)) i.toNat k ∧ S1 = S)
  | 0, n + 1, acc, i, h1, h2, h3, h4, h5 => by
    rw [El_Readers_openLoansOf, cnt]
    repeat' (first | with_reducible refine ok_nb (by omega) ?_ | with_reducible refine ok_ib (by omega) ?_ | with_reducible refine ok_t (by omega) ?_ | with_reducible refine ok_e (by omega) ?_ | with_reducible refine ok_if (fun h => ?_) (fun h => ?_) | with_reducible refine ok_s ?_ | with_reducible refine ok_b ?_)
    all_goals exact ⟨by first | rfl | omega | (rcases h4 with rfl | rfl <;> rfl), rfl⟩
  | k + 1, n + 1, acc, i, h1, h2, h3, h4, h5 => by
    have e1 : (i + 1).toNat = i.toNat + 1 := by omega
    have e2 : ((i.toNat : Nat) : Int) = i := by omega
    rw [El_Readers_openLoansOf, cnt]
    repeat' (first | with_reducible refine ok_nb (by omega) ?_ | with_reducible refine ok_ib (by omega) ?_ | with_reducible refine ok_t (by omega) ?_ | with_reducible refine ok_e (by omega) ?_ | with_reducible refine ok_if (fun h => ?_) (fun h => ?_) | with_reducible refine ok_s ?_ | with_reducible refine ok_b ?_)
    all_goals first | (refine (l_openLoansOf (h0 := h0) k n _ _ (by omega) (by omega) (by omega) (by omega) (by omega)).mono (fun y S1 q => ⟨?_, q.2⟩); rw [q.1, e1]; (try rw [e2]); (try simp only [Bool.and_eq_true, Bool.or_eq_true, Bool.not_eq_true', decide_eq_true_eq, decide_eq_false_iff_not, if_true, if_false, reduceIte, o1_some, o1_none]); (first | rfl | omega | (repeat' split) <;> (try simp only [o1_some, o1_none]) <;> first | rfl | omega | (exfalso; omega))) | (refine ⟨?_, rfl⟩; (try simp only [Bool.and_eq_true, Bool.or_eq_true, Bool.not_eq_true', decide_eq_true_eq, decide_eq_false_iff_not, if_true, if_false, reduceIte, o1_some, o1_none]); (first | rfl | omega | (repeat' split) <;> (try simp only [o1_some, o1_none]) <;> first | rfl | omega | (exfalso; omega)))
theorem l_queuedAt {e : w_E} {N : Nat} {S : w_S} {x1 : Int} {x2 : Int} (h0 : 0 ≤ S.1 62 14 ∧ S.1 62 14 ≤ 200) : ∀ (k n : Nat) (i : Int), k < n → 0 ≤ i → i + k = S.1 62 14 → Ok (El_Lending_queuedAt e N n 0 [x1, x2, i] [] S) (fun y S1 => y = o1 (-1) (fst (fun j => decide (S.1 73 j = x2) && decide (S.1 74 j = x1)) i.toNat k) ∧ S1 = S)
  | 0, n + 1, i, h1, h2, h3 => by
    rw [El_Lending_queuedAt, fst]
    repeat' (first | with_reducible refine ok_nb (by omega) ?_ | with_reducible refine ok_ib (by omega) ?_ | with_reducible refine ok_t (by omega) ?_ | with_reducible refine ok_e (by omega) ?_ | with_reducible refine ok_if (fun h => ?_) (fun h => ?_) | with_reducible refine ok_s ?_ | with_reducible refine ok_b ?_)
    all_goals exact ⟨by first | rfl | omega | (rcases h4 with rfl | rfl <;> rfl), rfl⟩
  | k + 1, n + 1, i, h1, h2, h3 => by
    have e1 : (i + 1).toNat = i.toNat + 1 := by omega
    have e2 : ((i.toNat : Nat) : Int) = i := by omega
    rw [El_Lending_queuedAt, fst]
    repeat' (first | with_reducible refine ok_nb (by omega) ?_ | with_reducible refine ok_ib (by omega) ?_ | with_reducible refine ok_t (by omega) ?_ | with_reducible refine ok_e (by omega) ?_ | with_reducible refine ok_if (fun h => ?_) (fun h => ?_) | with_reducible refine ok_s ?_ | with_reducible refine ok_b ?_)
    all_goals first | (refine (l_queuedAt (h0 := h0) k n _ (by omega) (by omega) (by omega)).mono (fun y S1 q => ⟨?_, q.2⟩); rw [q.1, e1]; (try rw [e2]); (try simp only [Bool.and_eq_true, Bool.or_eq_true, Bool.not_eq_true', decide_eq_true_eq, decide_eq_false_iff_not, if_true, if_false, reduceIte, o1_some, o1_none]); (first | rfl | omega | (repeat' split) <;> (try simp only [o1_some, o1_none]) <;> first | rfl | omega | (exfalso; omega))) | (refine ⟨?_, rfl⟩; (try simp only [Bool.and_eq_true, Bool.or_eq_true, Bool.not_eq_true', decide_eq_true_eq, decide_eq_false_iff_not, if_true, if_false, reduceIte, o1_some, o1_none]); (first | rfl | omega | (repeat' split) <;> (try simp only [o1_some, o1_none]) <;> first | rfl | omega | (exfalso; omega)))
theorem l_waitsFor {e : w_E} {N : Nat} {S : w_S} {x1 : Int} {x2 : Int} (h0 : 0 ≤ S.1 129 127 ∧ S.1 129 127 ≤ 200) : ∀ (k n : Nat) (acc i : Int), k < n → 0 ≤ i → i + k = S.1 129 127 → -1 ≤ acc → acc ≤ 1000000 → i + k ≤ 1000000 → Ok (El_R_waitsFor e N n 0 [x1, x2, acc, i] [] S) (fun y S1 => y = lst (fun j => decide (S.1 214 j = x2) && decide (S.1 215 j = x1)) i.toNat k acc ∧ S1 = S)
  | 0, n + 1, acc, i, h1, h2, h3, h4, h5, h6 => by
    rw [El_R_waitsFor, lst]
    repeat' (first | with_reducible refine ok_nb (by omega) ?_ | with_reducible refine ok_ib (by omega) ?_ | with_reducible refine ok_t (by omega) ?_ | with_reducible refine ok_e (by omega) ?_ | with_reducible refine ok_if (fun h => ?_) (fun h => ?_) | with_reducible refine ok_s ?_ | with_reducible refine ok_b ?_)
    all_goals exact ⟨by first | rfl | omega | (rcases h4 with rfl | rfl <;> rfl), rfl⟩
  | k + 1, n + 1, acc, i, h1, h2, h3, h4, h5, h6 => by
    have e1 : (i + 1).toNat = i.toNat + 1 := by omega
    have e2 : ((i.toNat : Nat) : Int) = i := by omega
    rw [El_R_waitsFor, lst]
    repeat' (first | with_reducible refine ok_nb (by omega) ?_ | with_reducible refine ok_ib (by omega) ?_ | with_reducible refine ok_t (by omega) ?_ | with_reducible refine ok_e (by omega) ?_ | with_reducible refine ok_if (fun h => ?_) (fun h => ?_) | with_reducible refine ok_s ?_ | with_reducible refine ok_b ?_)
    all_goals first | (refine (l_waitsFor (h0 := h0) k n _ _ (by omega) (by omega) (by omega) (by omega) (by omega) (by omega)).mono (fun y S1 q => ⟨?_, q.2⟩); rw [q.1, e1]; (try rw [e2]); (try simp only [Bool.and_eq_true, Bool.or_eq_true, Bool.not_eq_true', decide_eq_true_eq, decide_eq_false_iff_not, if_true, if_false, reduceIte, o1_some, o1_none]); (first | rfl | omega | (repeat' split) <;> (try simp only [o1_some, o1_none]) <;> first | rfl | omega | (exfalso; omega))) | (refine ⟨?_, rfl⟩; (try simp only [Bool.and_eq_true, Bool.or_eq_true, Bool.not_eq_true', decide_eq_true_eq, decide_eq_false_iff_not, if_true, if_false, reduceIte, o1_some, o1_none]); (first | rfl | omega | (repeat' split) <;> (try simp only [o1_some, o1_none]) <;> first | rfl | omega | (exfalso; omega)))
theorem l_hasSerial {e : w_E} {N : Nat} {S : w_S} {x1 : Int} (h0 : 0 ≤ S.1 76 0 ∧ S.1 76 0 ≤ 20) : ∀ (k n : Nat) (i : Int), k < n → 1 ≤ i → i + k = S.1 76 0 + 1 → Ok (El_Buying_hasSerial e N n 0 [x1, i] [] S) (fun y S1 => y = bi (anyb (fun j => decide (S.1 77 j = x1)) i.toNat k) ∧ S1 = S)
  | 0, n + 1, i, h1, h2, h3 => by
    rw [El_Buying_hasSerial, anyb]
    repeat' (first | with_reducible refine ok_nb (by omega) ?_ | with_reducible refine ok_ib (by omega) ?_ | with_reducible refine ok_t (by omega) ?_ | with_reducible refine ok_e (by omega) ?_ | with_reducible refine ok_if (fun h => ?_) (fun h => ?_) | with_reducible refine ok_s ?_ | with_reducible refine ok_b ?_)
    all_goals exact ⟨by first | rfl | omega | (rcases h4 with rfl | rfl <;> rfl), rfl⟩
  | k + 1, n + 1, i, h1, h2, h3 => by
    have e1 : (i + 1).toNat = i.toNat + 1 := by omega
    have e2 : ((i.toNat : Nat) : Int) = i := by omega
    rw [El_Buying_hasSerial, anyb_it]
    repeat' (first | with_reducible refine ok_nb (by omega) ?_ | with_reducible refine ok_ib (by omega) ?_ | with_reducible refine ok_t (by omega) ?_ | with_reducible refine ok_e (by omega) ?_ | with_reducible refine ok_if (fun h => ?_) (fun h => ?_) | with_reducible refine ok_s ?_ | with_reducible refine ok_b ?_)
    all_goals first | (refine (l_hasSerial (h0 := h0) k n _ (by omega) (by omega) (by omega)).mono (fun y S1 q => ⟨?_, q.2⟩); rw [q.1, e1]; (try rw [e2]); (try simp only [Bool.and_eq_true, Bool.or_eq_true, Bool.not_eq_true', decide_eq_true_eq, decide_eq_false_iff_not, if_true, if_false, reduceIte, o1_some, o1_none]); (first | rfl | omega | (repeat' split) <;> (try simp only [o1_some, o1_none]) <;> first | rfl | omega | (exfalso; omega))) | (refine ⟨?_, rfl⟩; (try simp only [Bool.and_eq_true, Bool.or_eq_true, Bool.not_eq_true', decide_eq_true_eq, decide_eq_false_iff_not, if_true, if_false, reduceIte, o1_some, o1_none]); (first | rfl | omega | (repeat' split) <;> (try simp only [o1_some, o1_none]) <;> first | rfl | omega | (exfalso; omega)))
end
section
-- 75
/-- what so many places from one on hold -/
def lf {α : Type} (g : Nat → α) : Nat → Nat → List α
  | _, 0 => []
  | c, n + 1 => g c :: lf g (c + 1) n
theorem lf_length {α : Type} (g : Nat → α) : ∀ (n c : Nat), (lf g c n).length = n
  | 0, _ => rfl
  | n + 1, c => by rw [lf, List.length_cons, lf_length g n (c + 1)]
theorem lf_get {α : Type} (g : Nat → α) : ∀ (n c i : Nat), (lf g c n)[i]? = if i < n then some (g (c + i)) else none
  | 0, c, i => by rw [lf, if_neg (by omega)]; rfl
  | n + 1, c, 0 => by rw [lf, if_pos (by omega)]; rfl
  | n + 1, c, i + 1 => by
    rw [lf, List.getElem?_cons_succ, lf_get g n (c + 1) i]
    have e : c + 1 + i = c + (i + 1) := by omega
    rw [e]
    by_cases h : i < n
    · rw [if_pos h, if_pos (by omega)]
    · rw [if_neg h, if_neg (by omega)]
theorem lf_congr {α : Type} {f g : Nat → α} : ∀ (n c : Nat), (∀ k, c ≤ k → k < c + n → f k = g k) → lf f c n = lf g c n
  | 0, _, _ => rfl
  | n + 1, c, h => by rw [lf, lf, h c (Nat.le_refl _) (by omega), lf_congr n (c + 1) (fun k h1 h2 => h k (by omega) (by omega))]
theorem lf_snoc {α : Type} (g : Nat → α) : ∀ (n c : Nat), lf g c (n + 1) = lf g c n ++ [g (c + n)]
  | 0, c => rfl
  | n + 1, c => by
    rw [lf, lf_snoc g n (c + 1), lf]
    have e : c + 1 + n = c + (n + 1) := by omega
    rw [e]
    rfl
theorem lf_append {α : Type} (g : Nat → α) : ∀ (m n c : Nat), lf g c (m + n) = lf g c m ++ lf g (c + m) n
  | 0, n, c => by rw [Nat.zero_add]; rfl
  | m + 1, n, c => by
    have e : m + 1 + n = (m + n) + 1 := by omega
    have e2 : c + 1 + m = c + (m + 1) := by omega
    rw [e, lf, lf, lf_append g m n (c + 1), e2]
    rfl
theorem lf_mem {α : Type} {g : Nat → α} {x : α} : ∀ {n c : Nat}, x ∈ lf g c n → ∃ k, c ≤ k ∧ k < c + n ∧ x = g k
  | 0, _, h => by cases h
  | n + 1, c, h => by
    rw [lf, List.mem_cons] at h
    rcases h with h | h
    · exact ⟨c, Nat.le_refl _, by omega, h⟩
    · obtain ⟨k, h1, h2, h3⟩ := lf_mem h
      exact ⟨k, by omega, by omega, h3⟩
theorem lf_mem_of {α : Type} (g : Nat → α) {n c k : Nat} (h1 : c ≤ k) (h2 : k < c + n) : g k ∈ lf g c n := by
  have h := lf_get g n c (k - c)
  rw [if_pos (by omega)] at h
  have e : c + (k - c) = k := by omega
  rw [e] at h
  exact List.mem_of_getElem? h
theorem cnt_snoc (P : Nat → Bool) : ∀ (n c : Nat), cnt P c (n + 1) = cnt P c n + (if P (c + n) = true then 1 else 0)
  | 0, c => by simp [cnt]
  | n + 1, c => by
    rw [cnt, cnt_snoc P n (c + 1), cnt]
    have e : c + 1 + n = c + (n + 1) := by omega
    rw [e]
    omega
theorem cnt_countP {α : Type} (g : Nat → α) (q : α → Bool) : ∀ (n c : Nat), cnt (fun j => q (g j)) c n = ((lf g c n).countP q : Nat)
  | 0, _ => rfl
  | n + 1, c => by
    rw [cnt, lf, List.countP_cons, cnt_countP g q n (c + 1)]
    split <;> omega
abbrev Q3 : Type := Int × Int × Int
def qin (x : Q3) : List Q3 → List Q3
  | [] => [x]
  | y :: ys => if x.2.2 < y.2.2 then x :: y :: ys else y :: qin x ys
def qst (l : List Q3) : List Q3 := l.foldl (fun a x => qin x a) []
theorem qst_snoc (l : List Q3) (x : Q3) : qst (l ++ [x]) = qin x (qst l) := by
  unfold qst
  rw [List.foldl_append]
  rfl
theorem qin_mem {x z : Q3} : ∀ {l : List Q3}, z ∈ qin x l ↔ z = x ∨ z ∈ l
  | [] => by simp [qin]
  | y :: ys => by
    rw [qin]
    split
    · simp
    · rw [List.mem_cons, qin_mem, List.mem_cons]
      exact ⟨fun h => by rcases h with h | h | h <;> simp [h], fun h => by rcases h with h | h | h <;> simp [h]⟩
theorem qin_count (x : Q3) (q : Q3 → Bool) : ∀ (l : List Q3), (qin x l).countP q = (x :: l).countP q
  | [] => rfl
  | y :: ys => by
    rw [qin]
    split
    · rfl
    · rw [List.countP_cons, qin_count x q ys, List.countP_cons, List.countP_cons, List.countP_cons]
      omega
theorem qin_length (x : Q3) : ∀ (l : List Q3), (qin x l).length = l.length + 1
  | [] => rfl
  | y :: ys => by
    rw [qin]
    split
    · rfl
    · rw [List.length_cons, qin_length x ys, List.length_cons]
abbrev qso (l : List Q3) : Prop := l.Pairwise (fun x y => x.2.2 ≤ y.2.2)
theorem qin_so {x : Q3} : ∀ {l : List Q3}, qso l → qso (qin x l)
  | [], _ => by simp [qso, qin]
  | y :: ys, h => by
    have h' := List.pairwise_cons.mp h
    rw [qin]
    split
    · next hx =>
      refine List.pairwise_cons.mpr ⟨fun z hz => ?_, h⟩
      rcases List.mem_cons.mp hz with e | hz
      · rw [e]; omega
      · have := h'.1 z hz
        omega
    · next hx =>
      refine List.pairwise_cons.mpr ⟨fun z hz => ?_, qin_so h'.2⟩
      rcases qin_mem.mp hz with e | hz
      · rw [e]; omega
      · exact h'.1 z hz
theorem qin_filter_neg {x : Q3} {p : Q3 → Bool} (hp : p x = false) : ∀ (l : List Q3), (qin x l).filter p = l.filter p
  | [] => by simp [qin, hp]
  | y :: ys => by
    rw [qin]
    split
    · rw [List.filter_cons_of_neg (by simp [hp])]
    · rw [List.filter_cons, List.filter_cons, qin_filter_neg hp ys]
theorem qin_front {x : Q3} : ∀ {l : List Q3}, (∀ z, z ∈ l → x.2.2 < z.2.2) → qin x l = x :: l
  | [], _ => rfl
  | y :: ys, h => by rw [qin, if_pos (h y (by simp))]
theorem qin_filter_pos {x : Q3} {p : Q3 → Bool} (hp : p x = true) : ∀ {l : List Q3}, qso l → (qin x l).filter p = qin x (l.filter p)
  | [], _ => by simp [qin, hp]
  | y :: ys, h => by
    have h' := List.pairwise_cons.mp h
    rw [qin]
    split
    · next hx =>
      rw [List.filter_cons_of_pos hp]
      refine (qin_front (fun z hz => ?_)).symm
      rcases List.mem_cons.mp (List.mem_filter.mp hz).1 with e | hz
      · rw [e]; exact hx
      · have := h'.1 z hz
        omega
    · next hx =>
      rw [List.filter_cons, List.filter_cons, qin_filter_pos hp h'.2]
      split
      · rw [qin, if_neg hx]
      · rfl
theorem qst_so : ∀ (l r : List Q3), qso r → qso (l.foldl (fun a x => qin x a) r)
  | [], _, h => h
  | x :: l, r, h => qst_so l (qin x r) (qin_so h)
theorem qst_sorted (l : List Q3) : qso (qst l) := qst_so l [] List.Pairwise.nil
theorem qst_filter' (p : Q3 → Bool) : ∀ (l r : List Q3), qso r → (l.foldl (fun a x => qin x a) r).filter p = (l.filter p).foldl (fun a x => qin x a) (r.filter p)
  | [], _, _ => rfl
  | x :: l, r, h => by
    rw [List.foldl_cons, qst_filter' p l (qin x r) (qin_so h)]
    by_cases hp : p x = true
    · rw [qin_filter_pos hp h, List.filter_cons_of_pos hp, List.foldl_cons]
    · rw [qin_filter_neg (by simpa using hp), List.filter_cons_of_neg (by simpa using hp)]
theorem qst_filter (p : Q3 → Bool) (l : List Q3) : (qst l).filter p = qst (l.filter p) := qst_filter' p l [] List.Pairwise.nil
theorem qst_count' (q : Q3 → Bool) : ∀ (l r : List Q3), (l.foldl (fun a x => qin x a) r).countP q = l.countP q + r.countP q
  | [], r => by simp
  | x :: l, r => by
    rw [List.foldl_cons, qst_count' q l (qin x r), qin_count, List.countP_cons, List.countP_cons]
    omega
theorem qst_count (q : Q3 → Bool) (l : List Q3) : (qst l).countP q = l.countP q := by
  have := qst_count' q l []
  simpa [qst] using this
theorem qst_length (l : List Q3) : (qst l).length = l.length := by
  have := qst_count (fun _ => true) l
  simpa using this
theorem qst_mem' {z : Q3} : ∀ (l r : List Q3), z ∈ l.foldl (fun a x => qin x a) r ↔ z ∈ l ∨ z ∈ r
  | [], r => by simp
  | x :: l, r => by
    rw [List.foldl_cons, qst_mem' l (qin x r), qin_mem, List.mem_cons]
    exact ⟨fun h => by rcases h with h | h | h <;> simp [h], fun h => by rcases h with (h | h) | h <;> simp [h]⟩
theorem qst_mem {z : Q3} (l : List Q3) : z ∈ qst l ↔ z ∈ l := by
  have := qst_mem' (z := z) l []
  simpa [qst] using this
theorem qin_hi {x y : Q3} (hxy : x.2.2 < y.2.2) : ∀ {l : List Q3} {i : Nat}, qso l → l[i]? = some y → (qin x l)[i + 1]? = some y
  | [], i, _, h => by simp at h
  | z :: zs, i, hs, h => by
    have h' := List.pairwise_cons.mp hs
    rw [qin]
    split
    · rw [List.getElem?_cons_succ]; exact h
    · next hz =>
      cases i with
      | zero =>
        rw [List.getElem?_cons_zero] at h
        cases h
        omega
      | succ i =>
        rw [List.getElem?_cons_succ] at h ⊢
        exact qin_hi hxy h'.2 h
theorem qin_lo {x y : Q3} (hxy : y.2.2 ≤ x.2.2) : ∀ {l : List Q3} {i : Nat}, qso l → l[i]? = some y → (qin x l)[i]? = some y
  | [], i, _, h => by simp at h
  | z :: zs, i, hs, h => by
    have h' := List.pairwise_cons.mp hs
    rw [qin]
    split
    · next hz =>
      cases i with
      | zero =>
        rw [List.getElem?_cons_zero] at h
        cases h
        omega
      | succ i =>
        rw [List.getElem?_cons_succ] at h
        have := h'.1 y (List.mem_of_getElem? h)
        omega
    · cases i with
      | zero => exact h
      | succ i =>
        rw [List.getElem?_cons_succ] at h ⊢
        exact qin_lo hxy h'.2 h
theorem qin_self {x : Q3} : ∀ {l : List Q3}, qso l → (qin x l)[l.countP (fun y => decide (y.2.2 ≤ x.2.2))]? = some x
  | [], _ => rfl
  | z :: zs, hs => by
    have h' := List.pairwise_cons.mp hs
    rw [qin]
    split
    · next hz =>
      have : (z :: zs).countP (fun y => decide (y.2.2 ≤ x.2.2)) = 0 := by
        rw [List.countP_eq_zero]
        intro y hy
        rcases List.mem_cons.mp hy with e | hy
        · rw [e]; simp; omega
        · have := h'.1 y hy
          simp; omega
      rw [this]
      rfl
    · next hz =>
      rw [List.countP_cons_of_pos (by simp; omega), List.getElem?_cons_succ]
      exact qin_self h'.2
/-- how many of a place's record are ahead of it -/
def qah (g : Nat → Q3) (n k : Nat) : Int := cnt (fun j => decide ((g j).1 = (g k).1) && (decide ((g j).2.2 < (g k).2.2) || decide ((g j).2.2 = (g k).2.2) && decide (j < k))) 0 n
theorem qah_at (g : Nat → Q3) (r : Int) : ∀ (n k : Nat), k < n → (g k).1 = r → ((qst (lf g 0 n)).filter (fun y => decide (y.1 = r)))[(qah g n k).toNat]? = some (g k)
  | 0, k, h, _ => by omega
  | n + 1, k, h, hk => by
    have hle := cnt_le (fun j => decide ((g j).1 = (g k).1) && (decide ((g j).2.2 < (g k).2.2) || decide ((g j).2.2 = (g k).2.2) && decide (j < k))) n 0
    rw [lf_snoc, Nat.zero_add, qst_snoc]
    have hso := qst_sorted (lf g 0 n)
    by_cases hp : (g n).1 = r
    · rw [qin_filter_pos (by simp [hp]) hso]
      have hsf : qso ((qst (lf g 0 n)).filter (fun y => decide (y.1 = r))) := hso.filter _
      by_cases e : k = n
      · subst e
        have e1 : (qah g (k + 1) k).toNat = ((qst (lf g 0 k)).filter (fun y => decide (y.1 = r))).countP (fun y => decide (y.2.2 ≤ (g k).2.2)) := by
          rw [List.countP_filter, qst_count]
          unfold qah
          rw [cnt_snoc, Nat.zero_add, if_neg (by simp), Int.add_zero, ← Int.toNat_natCast (List.countP _ _), ← cnt_countP]
          congr 1
          refine cnt_congr _ _ (fun j h1 h2 => ?_)
          have : j < k := by omega
          rw [Bool.eq_iff_iff]
          simp only [Bool.and_eq_true, Bool.or_eq_true, decide_eq_true_eq, hp]
          omega
        rw [e1]
        exact qin_self hsf
      · have ih := qah_at g r n k (by omega) hk
        unfold qah at ih ⊢
        rw [cnt_snoc, Nat.zero_add]
        by_cases hr : (g n).2.2 < (g k).2.2
        · rw [if_pos (by simp [hp, hk, hr]), Int.toNat_add hle.1 (by omega)]
          exact qin_hi hr hsf ih
        · rw [if_neg (by simp [hp, hk]; omega), Int.add_zero]
          exact qin_lo (by omega) hsf ih
    · rw [qin_filter_neg (by simp [hp])]
      have hkn : k ≠ n := by
        rintro rfl
        exact hp hk
      have ih := qah_at g r n k (by omega) hk
      unfold qah at ih ⊢
      rw [cnt_snoc, Nat.zero_add, if_neg (by simp [hk, hp]), Int.add_zero]
      exact ih
end
section
-- 76
theorem lf_erase {α : Type} {f g : Nat → α} {n x : Nat} (hx : x < n) (h : ∀ j, j < n - 1 → f j = if j < x then g j else g (j + 1)) : lf f 0 (n - 1) = (lf g 0 n).eraseIdx x := by
  refine List.ext_getElem? (fun j => ?_)
  rw [List.getElem?_eraseIdx, lf_get, lf_get, lf_get]
  simp only [Nat.zero_add]
  by_cases hj : j < n - 1
  · rw [if_pos hj, h j hj]
    (repeat' split) <;> first | rfl | omega
  · (repeat' split) <;> first | rfl | omega
theorem l_removeQueued {e : w_E} {N : Nat} : ∀ (k n : Nat) (i : Int) (S : w_S), k < n → 0 ≤ i → i + k = S.1 62 14 → S.1 62 14 ≤ 199 → Ok (El_Lending_removeQueued e N n 0 [i] [] S) (fun y S1 => y = 0 ∧ frm [73, 74, 75] [] [] S S1 ∧ (∀ j, S1.1 73 j = if i.toNat ≤ j ∧ j < i.toNat + k then S.1 73 (j + 1) else S.1 73 j) ∧ (∀ j, S1.1 74 j = if i.toNat ≤ j ∧ j < i.toNat + k then S.1 74 (j + 1) else S.1 74 j) ∧ (∀ j, S1.1 75 j = if i.toNat ≤ j ∧ j < i.toNat + k then S.1 75 (j + 1) else S.1 75 j))
  | 0, n + 1, i, S, h1, h2, h3, h4 => by
    rw [El_Lending_removeQueued]
    repeat' (first | with_reducible refine ok_nb (by omega) ?_ | with_reducible refine ok_ib (by omega) ?_ | with_reducible refine ok_t (by omega) ?_ | with_reducible refine ok_e (by omega) ?_ | with_reducible refine ok_if (fun h => ?_) (fun h => ?_) | with_reducible refine ok_s ?_ | with_reducible refine ok_b ?_)
    exact ⟨rfl, frm.refl _ _ _ _, fun j => (if_neg (by omega)).symm, fun j => (if_neg (by omega)).symm, fun j => (if_neg (by omega)).symm⟩
  | k + 1, n + 1, i, S, h1, h2, h3, h4 => by
    rw [El_Lending_removeQueued]
    repeat' (first | with_reducible refine ok_nb (by omega) ?_ | with_reducible refine ok_ib (by omega) ?_ | with_reducible refine ok_t (by omega) ?_ | with_reducible refine ok_e (by omega) ?_ | with_reducible refine ok_if (fun h => ?_) (fun h => ?_) | with_reducible refine ok_s ?_ | with_reducible refine ok_b ?_)
    refine (l_removeQueued k n (i + 1) _ (by omega) (by omega) (by simp only [w_put_r, reduceIte, Nat.reduceEqDiff, pt_at]; omega) (by simp only [w_put_r, reduceIte, Nat.reduceEqDiff, pt_at]; omega)).mono (fun y S1 q => ?_)
    obtain ⟨q1, q2, q3, q4, q5⟩ := q
    have e1 : (i + 1).toNat = i.toNat + 1 := by omega
    refine ⟨q1, frm.trans ?_ q2, fun j => ?_, fun j => ?_, fun j => ?_⟩
    · repeat (first | exact frm.refl _ _ _ _ | refine frm.put ?_ rfl | refine frm.puto ?_ rfl rfl)
    · rw [q3 j, e1]
      simp only [w_put_r, reduceIte, Nat.reduceEqDiff, pt_at]
      (repeat' split) <;> first | rfl | omega | exact congrArg (S.1 73) (by omega)
    · rw [q4 j, e1]
      simp only [w_put_r, reduceIte, Nat.reduceEqDiff, pt_at]
      (repeat' split) <;> first | rfl | omega | exact congrArg (S.1 74) (by omega)
    · rw [q5 j, e1]
      simp only [w_put_r, reduceIte, Nat.reduceEqDiff, pt_at]
      (repeat' split) <;> first | rfl | omega | exact congrArg (S.1 75) (by omega)
def qc (c : am) (i : Nat) : Q3 := (c 73 i, c 74 i, c 75 i)
def QC (c : am) : List Q3 := lf (qc c) 0 (c 62 14).toNat
theorem x_removeQueued {e : w_E} {N : Nat} {S : w_S} {x : Int} (hN : 1000 ≤ N) (h0 : 0 ≤ x) (h1 : x < S.1 62 14) (h2 : S.1 62 14 ≤ 200) : Ok (E_Lending_removeQueued e N x S) (fun y S1 => y = 0 ∧ frm [73, 74, 75] [62] [(62, 14)] S S1 ∧ S1.1 62 14 = S.1 62 14 - 1 ∧ QC S1.1 = (QC S.1).eraseIdx x.toNat) := by
  unfold E_Lending_removeQueued
  repeat' (first | with_reducible refine ok_nb (by omega) ?_ | with_reducible refine ok_ib (by omega) ?_ | with_reducible refine ok_t (by omega) ?_ | with_reducible refine ok_e (by omega) ?_ | with_reducible refine ok_if (fun h => ?_) (fun h => ?_) | with_reducible refine ok_s ?_ | with_reducible refine ok_b ?_)
  refine (l_removeQueued (S.1 62 14 - 1 - x).toNat N x _ (by omega) h0 (by simp only [w_put_r, reduceIte, Nat.reduceEqDiff, pt_at]; omega) (by simp only [w_put_r, reduceIte, Nat.reduceEqDiff, pt_at]; omega)).mono (fun y S1 q => ?_)
  obtain ⟨q1, q2, q3, q4, q5⟩ := q
  have f1 : S1.1 62 14 = S.1 62 14 - 1 := by
    rw [q2.2.2 62 14 rfl rfl]
    simp only [w_put_r, reduceIte, Nat.reduceEqDiff, pt_at]
  refine ⟨q1, ⟨by rw [q2.1]; rfl, fun b hb ho => ?_, fun b j hb ho => ?_⟩, f1, ?_⟩
  · rw [q2.2.1 b hb rfl, w_put_r, if_neg (by rintro rfl; simp at ho)]
  · rw [q2.2.2 b j hb rfl, w_put_r]
    split
    · next hh =>
      subst hh
      rw [pt_at, if_neg (by rintro rfl; simp at ho)]
    · rfl
  · unfold QC
    refine List.ext_getElem? (fun j => ?_)
    rw [List.getElem?_eraseIdx, lf_get, lf_get, lf_get, f1]
    unfold qc
    simp only [q3, q4, q5, w_put_r, reduceIte, Nat.reduceEqDiff, pt_at, Nat.zero_add]
    (repeat' split) <;> first | rfl | omega
theorem l_unqueue {e : w_E} {N : Nat} : ∀ (k n : Nat) (i : Int) (S : w_S), k < n → 0 ≤ i → i + k = S.1 129 127 → S.1 129 127 ≤ 199 → Ok (El_R_unqueue e N n 0 [i] [] S) (fun y S1 => y = 0 ∧ frm [214, 215, 216] [] [] S S1 ∧ (∀ j, S1.1 214 j = if i.toNat ≤ j ∧ j < i.toNat + k then S.1 214 (j + 1) else S.1 214 j) ∧ (∀ j, S1.1 215 j = if i.toNat ≤ j ∧ j < i.toNat + k then S.1 215 (j + 1) else S.1 215 j) ∧ (∀ j, S1.1 216 j = if i.toNat ≤ j ∧ j < i.toNat + k then S.1 216 (j + 1) else S.1 216 j))
  | 0, n + 1, i, S, h1, h2, h3, h4 => by
    rw [El_R_unqueue]
    repeat' (first | with_reducible refine ok_nb (by omega) ?_ | with_reducible refine ok_ib (by omega) ?_ | with_reducible refine ok_t (by omega) ?_ | with_reducible refine ok_e (by omega) ?_ | with_reducible refine ok_if (fun h => ?_) (fun h => ?_) | with_reducible refine ok_s ?_ | with_reducible refine ok_b ?_)
    exact ⟨rfl, frm.refl _ _ _ _, fun j => (if_neg (by omega)).symm, fun j => (if_neg (by omega)).symm, fun j => (if_neg (by omega)).symm⟩
  | k + 1, n + 1, i, S, h1, h2, h3, h4 => by
    rw [El_R_unqueue]
    repeat' (first | with_reducible refine ok_nb (by omega) ?_ | with_reducible refine ok_ib (by omega) ?_ | with_reducible refine ok_t (by omega) ?_ | with_reducible refine ok_e (by omega) ?_ | with_reducible refine ok_if (fun h => ?_) (fun h => ?_) | with_reducible refine ok_s ?_ | with_reducible refine ok_b ?_)
    refine (l_unqueue k n (i + 1) _ (by omega) (by omega) (by simp only [w_put_r, reduceIte, Nat.reduceEqDiff, pt_at]; omega) (by simp only [w_put_r, reduceIte, Nat.reduceEqDiff, pt_at]; omega)).mono (fun y S1 q => ?_)
    obtain ⟨q1, q2, q3, q4, q5⟩ := q
    have e1 : (i + 1).toNat = i.toNat + 1 := by omega
    refine ⟨q1, frm.trans ?_ q2, fun j => ?_, fun j => ?_, fun j => ?_⟩
    · repeat (first | exact frm.refl _ _ _ _ | refine frm.put ?_ rfl | refine frm.puto ?_ rfl rfl)
    · rw [q3 j, e1]
      simp only [w_put_r, reduceIte, Nat.reduceEqDiff, pt_at]
      (repeat' split) <;> first | rfl | omega | exact congrArg (S.1 214) (by omega)
    · rw [q4 j, e1]
      simp only [w_put_r, reduceIte, Nat.reduceEqDiff, pt_at]
      (repeat' split) <;> first | rfl | omega | exact congrArg (S.1 215) (by omega)
    · rw [q5 j, e1]
      simp only [w_put_r, reduceIte, Nat.reduceEqDiff, pt_at]
      (repeat' split) <;> first | rfl | omega | exact congrArg (S.1 216) (by omega)
def qr (c : am) (i : Nat) : Q3 := (c 214 i, c 215 i, c 216 i)
def QR (c : am) : List Q3 := lf (qr c) 0 (c 129 127).toNat
theorem x_unqueue {e : w_E} {N : Nat} {S : w_S} {x : Int} (hN : 1000 ≤ N) (h0 : 0 ≤ x) (h1 : x < S.1 129 127) (h2 : S.1 129 127 ≤ 200) : Ok (E_R_unqueue e N x S) (fun y S1 => y = 0 ∧ frm [214, 215, 216] [129] [(129, 127)] S S1 ∧ S1.1 129 127 = S.1 129 127 - 1 ∧ QR S1.1 = (QR S.1).eraseIdx x.toNat) := by
  unfold E_R_unqueue
  repeat' (first | with_reducible refine ok_nb (by omega) ?_ | with_reducible refine ok_ib (by omega) ?_ | with_reducible refine ok_t (by omega) ?_ | with_reducible refine ok_e (by omega) ?_ | with_reducible refine ok_if (fun h => ?_) (fun h => ?_) | with_reducible refine ok_s ?_ | with_reducible refine ok_b ?_)
  refine (l_unqueue (S.1 129 127 - 1 - x).toNat N x _ (by omega) h0 (by simp only [w_put_r, reduceIte, Nat.reduceEqDiff, pt_at]; omega) (by simp only [w_put_r, reduceIte, Nat.reduceEqDiff, pt_at]; omega)).mono (fun y S1 q => ?_)
  obtain ⟨q1, q2, q3, q4, q5⟩ := q
  have f1 : S1.1 129 127 = S.1 129 127 - 1 := by
    rw [q2.2.2 129 127 rfl rfl]
    simp only [w_put_r, reduceIte, Nat.reduceEqDiff, pt_at]
  refine ⟨q1, ⟨by rw [q2.1]; rfl, fun b hb ho => ?_, fun b j hb ho => ?_⟩, f1, ?_⟩
  · rw [q2.2.1 b hb rfl, w_put_r, if_neg (by rintro rfl; simp at ho)]
  · rw [q2.2.2 b j hb rfl, w_put_r]
    split
    · next hh =>
      subst hh
      rw [pt_at, if_neg (by rintro rfl; simp at ho)]
    · rfl
  · unfold QR
    refine List.ext_getElem? (fun j => ?_)
    rw [List.getElem?_eraseIdx, lf_get, lf_get, lf_get, f1]
    unfold qr
    simp only [q3, q4, q5, w_put_r, reduceIte, Nat.reduceEqDiff, pt_at, Nat.zero_add]
    (repeat' split) <;> first | rfl | omega
end
