section
-- 77
theorem l_ahead {e : w_E} {N : Nat} {S : w_S} {x1 : Int} (h0 : 0 ≤ S.1 129 127 ∧ S.1 129 127 ≤ 200) (hx : 0 ≤ x1 ∧ x1 < S.1 129 127) : ∀ (k n : Nat) (acc i : Int), k < n → 0 ≤ i → i + k = S.1 129 127 → 0 ≤ acc → acc + k ≤ 1000000 → Ok (El_R_ahead e N n 0 [x1, acc, i] [] S) (fun y S1 => y = acc + cnt (fun j => decide (S.1 214 j = S.1 214 x1.toNat) && (decide (S.1 216 j < S.1 216 x1.toNat) || decide (S.1 216 j = S.1 216 x1.toNat) && decide (j < x1.toNat))) i.toNat k ∧ S1 = S)
  | 0, n + 1, acc, i, h1, h2, h3, h4, h5 => by
    rw [El_R_ahead, cnt]
    repeat' (first | with_reducible refine ok_nb (by omega) ?_ | with_reducible refine ok_ib (by omega) ?_ | with_reducible refine ok_t (by omega) ?_ | with_reducible refine ok_e (by omega) ?_ | with_reducible refine ok_if (fun h => ?_) (fun h => ?_) | with_reducible refine ok_s ?_ | with_reducible refine ok_b ?_)
    all_goals exact ⟨by first | rfl | omega | (rcases h4 with rfl | rfl <;> rfl), rfl⟩
  | k + 1, n + 1, acc, i, h1, h2, h3, h4, h5 => by
    have e1 : (i + 1).toNat = i.toNat + 1 := by omega
    have e2 : ((i.toNat : Nat) : Int) = i := by omega
    rw [El_R_ahead, cnt]
    repeat' (first | with_reducible refine ok_nb (by omega) ?_ | with_reducible refine ok_ib (by omega) ?_ | with_reducible refine ok_t (by omega) ?_ | with_reducible refine ok_e (by omega) ?_ | with_reducible refine ok_if (fun h => ?_) (fun h => ?_) | with_reducible refine ok_s ?_ | with_reducible refine ok_b ?_)
    all_goals first | (refine (l_ahead (h0 := h0) (hx := hx) k n _ _ (by omega) (by omega) (by omega) (by omega) (by omega)).mono (fun y S1 q => ⟨?_, q.2⟩); rw [q.1, e1]; (try rw [e2]); (try simp only [Bool.and_eq_true, Bool.or_eq_true, Bool.not_eq_true', decide_eq_true_eq, decide_eq_false_iff_not, if_true, if_false, reduceIte, o1_some, o1_none]); (first | rfl | omega | (repeat' split) <;> (try simp only [o1_some, o1_none]) <;> first | rfl | omega | (exfalso; omega))) | (refine ⟨?_, rfl⟩; (try simp only [Bool.and_eq_true, Bool.or_eq_true, Bool.not_eq_true', decide_eq_true_eq, decide_eq_false_iff_not, if_true, if_false, reduceIte, o1_some, o1_none]); (first | rfl | omega | (repeat' split) <;> (try simp only [o1_some, o1_none]) <;> first | rfl | omega | (exfalso; omega)))
theorem x_ahead {e : w_E} {N : Nat} {S : w_S} {x1 : Int} (hN : 1000 ≤ N) (h0 : 0 ≤ S.1 129 127 ∧ S.1 129 127 ≤ 200) (hx : 0 ≤ x1 ∧ x1 < S.1 129 127) : E_R_ahead e N x1 S = some (qah (qr S.1) (S.1 129 127).toNat x1.toNat, S) := by
  have h := ok_eq (l_ahead (e := e) (N := N) h0 hx (S.1 129 127).toNat N 0 0 (by omega) (by omega) (by omega) (by omega) (by omega))
  rw [Int.zero_add] at h
  exact h
theorem l_inQueue {e : w_E} {N : Nat} {S : w_S} {x1 : Int} {x2 : Int} (hN : 1000 ≤ N) (h0 : 0 ≤ S.1 129 127 ∧ S.1 129 127 ≤ 200) : ∀ (k n : Nat) (acc i : Int), k < n → 0 ≤ i → i + k = S.1 129 127 → -1 ≤ acc → acc ≤ 1000000 → i + k ≤ 1000000 → Ok (El_R_inQueue e N n 0 [x1, x2, acc, i] [] S) (fun y S1 => y = lst (fun j => decide (S.1 214 j = x1) && decide (qah (qr S.1) (S.1 129 127).toNat j = x2)) i.toNat k acc ∧ S1 = S)
  | 0, n + 1, acc, i, h1, h2, h3, h4, h5, h6 => by
    rw [El_R_inQueue, lst]
    repeat' (first | with_reducible refine ok_of (x_ahead hN h0 (by omega)) ?_ | with_reducible refine ok_nb (by omega) ?_ | with_reducible refine ok_ib (by omega) ?_ | with_reducible refine ok_t (by omega) ?_ | with_reducible refine ok_e (by omega) ?_ | with_reducible refine ok_if (fun h => ?_) (fun h => ?_) | with_reducible refine ok_s ?_ | with_reducible refine ok_b ?_)
    all_goals exact ⟨by first | rfl | omega | (rcases h4 with rfl | rfl <;> rfl), rfl⟩
  | k + 1, n + 1, acc, i, h1, h2, h3, h4, h5, h6 => by
    have e1 : (i + 1).toNat = i.toNat + 1 := by omega
    have e2 : ((i.toNat : Nat) : Int) = i := by omega
    rw [El_R_inQueue, lst]
    repeat' (first | with_reducible refine ok_of (x_ahead hN h0 (by omega)) ?_ | with_reducible refine ok_nb (by omega) ?_ | with_reducible refine ok_ib (by omega) ?_ | with_reducible refine ok_t (by omega) ?_ | with_reducible refine ok_e (by omega) ?_ | with_reducible refine ok_if (fun h => ?_) (fun h => ?_) | with_reducible refine ok_s ?_ | with_reducible refine ok_b ?_)
    all_goals first | (refine (l_inQueue (hN := hN) (h0 := h0) k n _ _ (by omega) (by omega) (by omega) (by omega) (by omega) (by omega)).mono (fun y S1 q => ⟨?_, q.2⟩); rw [q.1, e1]; (try rw [e2]); (try simp only [Bool.and_eq_true, Bool.or_eq_true, Bool.not_eq_true', decide_eq_true_eq, decide_eq_false_iff_not, if_true, if_false, reduceIte, o1_some, o1_none]); (first | rfl | omega | (repeat' split) <;> (try simp only [o1_some, o1_none]) <;> first | rfl | omega | (exfalso; omega))) | (refine ⟨?_, rfl⟩; (try simp only [Bool.and_eq_true, Bool.or_eq_true, Bool.not_eq_true', decide_eq_true_eq, decide_eq_false_iff_not, if_true, if_false, reduceIte, o1_some, o1_none]); (first | rfl | omega | (repeat' split) <;> (try simp only [o1_some, o1_none]) <;> first | rfl | omega | (exfalso; omega)))
theorem lst_spec {P : Nat → Bool} : ∀ {n c : Nat} {d : Int}, ((∀ j, c ≤ j → j < c + n → P j = false) ∧ lst P c n d = d) ∨ ∃ k : Nat, c ≤ k ∧ k < c + n ∧ P k = true ∧ lst P c n d = k
  | 0, c, d => Or.inl ⟨fun j h1 h2 => by omega, rfl⟩
  | n + 1, c, d => by
    rw [lst]
    rcases lst_spec (P := P) (n := n) (c := c + 1) (d := if P c = true then c else d) with ⟨h1, h2⟩ | ⟨k, h1, h2, h3, h4⟩
    · by_cases hp : P c = true
      · refine Or.inr ⟨c, by omega, by omega, hp, ?_⟩
        rw [h2, if_pos hp]
      · refine Or.inl ⟨fun j h3 h4 => ?_, by rw [h2, if_neg hp]⟩
        by_cases e : j = c
        · rw [e]; simpa using hp
        · exact h1 j (by omega) (by omega)
    · exact Or.inr ⟨k, by omega, by omega, h3, h4⟩
/-- nobody is twice in one row -/
def qun (l : List Q3) : Prop := ∀ a b : Int, l.countP (fun y => decide (y.1 = a) && decide (y.2.1 = b)) ≤ 1
theorem count_two {α : Type} {p : α → Bool} : ∀ {l : List α} {i j : Nat} {x y : α}, l[i]? = some x → l[j]? = some y → i < j → p x = true → p y = true → 2 ≤ l.countP p
  | [], i, j, x, y, h, _, _, _, _ => by simp at h
  | z :: zs, 0, j + 1, x, y, h1, h2, _, hx, hy => by
    rw [List.getElem?_cons_zero] at h1
    cases h1
    rw [List.getElem?_cons_succ] at h2
    rw [List.countP_cons_of_pos hx]
    have : 0 < zs.countP p := List.countP_pos_iff.mpr ⟨y, List.mem_of_getElem? h2, hy⟩
    omega
  | z :: zs, i + 1, j + 1, x, y, h1, h2, h3, hx, hy => by
    rw [List.getElem?_cons_succ] at h1 h2
    have := count_two h1 h2 (by omega) hx hy
    rw [List.countP_cons]
    omega
theorem qun_at {l : List Q3} (h : qun l) {i j : Nat} {x y : Q3} (h1 : l[i]? = some x) (h2 : l[j]? = some y) (ha : x.1 = y.1) (hb : x.2.1 = y.2.1) : i = j := by
  rcases Nat.lt_trichotomy i j with k | k | k
  · have := count_two (p := fun z => decide (z.1 = x.1) && decide (z.2.1 = x.2.1)) h1 h2 k (by simp) (by simp [ha, hb])
    have := h x.1 x.2.1
    omega
  · exact k
  · have := count_two (p := fun z => decide (z.1 = x.1) && decide (z.2.1 = x.2.1)) h2 h1 k (by simp [ha, hb]) (by simp)
    have := h x.1 x.2.1
    omega
theorem countP_filter_le {α : Type} (p q : α → Bool) : ∀ l : List α, (l.filter q).countP p ≤ l.countP p
  | [] => Nat.le_refl _
  | x :: l => by
    have := countP_filter_le p q l
    rw [List.filter_cons]
    split
    · rw [List.countP_cons, List.countP_cons]; omega
    · rw [List.countP_cons]; omega
theorem qun_filter {l : List Q3} (h : qun l) (q : Q3 → Bool) : qun (l.filter q) := fun a b => Nat.le_trans (countP_filter_le _ q l) (h a b)
theorem qun_qst {l : List Q3} (h : qun l) : qun (qst l) := fun a b => by rw [qst_count]; exact h a b
/-- those of a record, in order -/
def qof (r : Int) (l : List Q3) : List Q3 := l.filter (fun y => decide (y.1 = r))
theorem x_inQueue {e : w_E} {N : Nat} {S : w_S} {x1 x2 : Int} (hN : 1000 ≤ N) (h0 : 0 ≤ S.1 129 127 ∧ S.1 129 127 ≤ 200) (hu : qun (QR S.1)) : ∃ v : Int, E_R_inQueue e N x1 x2 S = some (v, S) ∧ ((v = -1 ∧ (0 ≤ x2 → (qof x1 (qst (QR S.1)))[x2.toNat]? = none)) ∨ (0 ≤ v ∧ v < S.1 129 127 ∧ 0 ≤ x2 ∧ (qof x1 (qst (QR S.1)))[x2.toNat]? = some (qr S.1 v.toNat) ∧ (QR S.1)[v.toNat]? = some (qr S.1 v.toNat))) := by
  have h := ok_eq (l_inQueue (e := e) (N := N) (S := S) (x1 := x1) (x2 := x2) hN h0 (S.1 129 127).toNat N (-1) 0 (by omega) (by omega) (by omega) (by omega) (by omega) (by omega))
  refine ⟨_, h, ?_⟩
  have e0 : (0 : Int).toNat = 0 := rfl
  rw [e0]
  rcases lst_spec (P := fun j => decide (S.1 214 j = x1) && decide (qah (qr S.1) (S.1 129 127).toNat j = x2)) (n := (S.1 129 127).toNat) (c := 0) (d := -1) with ⟨h1, h2⟩ | ⟨k, h1, h2, h3, h4⟩
  · refine Or.inl ⟨h2, fun hx => ?_⟩
    cases hf : (qof x1 (qst (QR S.1)))[x2.toNat]? with
    | none => rfl
    | some y =>
      exfalso
      have hm := List.mem_filter.mp (List.mem_of_getElem? hf)
      have hm1 := (qst_mem _).mp hm.1
      obtain ⟨k, k1, k2, k3⟩ := lf_mem hm1
      have hr : (qr S.1 k).1 = x1 := by
        rw [← k3]
        simpa using hm.2
      have ha := qah_at (qr S.1) x1 (S.1 129 127).toNat k (by omega) hr
      have hi := qun_at (qun_filter (qun_qst hu) (fun y => decide (y.1 = x1))) ha hf (by rw [k3]) (by rw [k3])
      have hz := cnt_le (fun j => decide ((qr S.1 j).1 = (qr S.1 k).1) && (decide ((qr S.1 j).2.2 < (qr S.1 k).2.2) || decide ((qr S.1 j).2.2 = (qr S.1 k).2.2) && decide (j < k))) (S.1 129 127).toNat 0
      have hq := h1 k (by omega) (by omega)
      have hr' : S.1 214 k = x1 := hr
      have hz0 : 0 ≤ qah (qr S.1) (S.1 129 127).toNat k := hz.1
      simp only [hr', decide_true, Bool.true_and, decide_eq_false_iff_not] at hq
      omega
  · simp only [Bool.and_eq_true, decide_eq_true_eq] at h3
    have hz0 : 0 ≤ qah (qr S.1) (S.1 129 127).toNat k := (cnt_le _ _ _).1
    rw [h4]
    refine Or.inr ⟨by omega, by omega, by omega, ?_, ?_⟩
    · have ha := qah_at (qr S.1) x1 (S.1 129 127).toNat k (by omega) h3.1
      rw [h3.2] at ha
      rw [Int.toNat_natCast]
      exact ha
    · unfold QR
      rw [lf_get, if_pos (by omega), Int.toNat_natCast, Nat.zero_add]
theorem qer {x : Q3} : ∀ {l : List Q3} {k : Nat}, qun l → l[k]? = some x → l.eraseIdx k = l.filter (fun y => !(decide (y.1 = x.1) && decide (y.2.1 = x.2.1)))
  | [], k, _, h => by simp at h
  | z :: zs, 0, hu, h => by
    rw [List.getElem?_cons_zero] at h
    cases h
    rw [List.eraseIdx_cons_zero, List.filter_cons_of_neg (by simp)]
    refine (List.filter_eq_self.mpr (fun y hy => ?_)).symm
    have h2 := hu x.1 x.2.1
    rw [List.countP_cons_of_pos (by simp)] at h2
    have h3 : zs.countP (fun y => decide (y.1 = x.1) && decide (y.2.1 = x.2.1)) = 0 := by omega
    rw [List.countP_eq_zero] at h3
    have := h3 y hy
    simp only [Bool.not_eq_true] at this
    rw [this]
    rfl
  | z :: zs, k + 1, hu, h => by
    rw [List.getElem?_cons_succ] at h
    have hu' : qun zs := fun a b => by
      have := hu a b
      rw [List.countP_cons] at this
      omega
    have h2 := hu x.1 x.2.1
    have hp : 0 < zs.countP (fun y => decide (y.1 = x.1) && decide (y.2.1 = x.2.1)) := List.countP_pos_iff.mpr ⟨x, List.mem_of_getElem? h, by simp⟩
    rw [List.countP_cons] at h2
    have hz : (decide (z.1 = x.1) && decide (z.2.1 = x.2.1)) = false := by
      cases hb : (decide (z.1 = x.1) && decide (z.2.1 = x.2.1)) with
      | false => rfl
      | true =>
        rw [hb] at h2
        simp only [if_true] at h2
        omega
    rw [List.eraseIdx_cons_succ, qer hu' h, List.filter_cons_of_pos (by rw [hz]; rfl)]
/-- one taken out of both rows -/
theorem qst_erase {l : List Q3} {x : Q3} {i k : Nat} (hu : qun l) (hi : (qst l)[i]? = some x) (hk : l[k]? = some x) : (qst l).eraseIdx i = qst (l.eraseIdx k) := by
  rw [qer (qun_qst hu) hi, qer hu hk, qst_filter]
theorem fst_filter {g : Nat → Q3} {p : Q3 → Bool} : ∀ {n c : Nat}, (∀ j, fst (fun j => p (g j)) c n = some j → ((lf g c n).filter p)[0]? = some (g j)) ∧ (fst (fun j => p (g j)) c n = none → (lf g c n).filter p = [])
  | 0, c => ⟨fun j h => (by cases h), fun _ => rfl⟩
  | n + 1, c => by
    rw [fst, lf]
    by_cases h : p (g c) = true
    · rw [if_pos h, List.filter_cons_of_pos h]
      exact ⟨fun j hj => (by cases hj; rfl), fun hj => (by cases hj)⟩
    · rw [if_neg h, List.filter_cons_of_neg h]
      exact fst_filter
end
section
-- 78
theorem qin_get {x : Q3} : ∀ {l : List Q3} {m : Nat}, (∀ j y, j < m → l[j]? = some y → y.2.2 ≤ x.2.2) → m ≤ l.length → (∀ y, l[m]? = some y → x.2.2 < y.2.2) → ∀ j, (qin x l)[j]? = if j < m then l[j]? else if j = m then some x else l[j - 1]?
  | [], m, _, h2, _, j => by
    have : m = 0 := by simpa using h2
    subst this
    rw [qin]
    cases j with
    | zero => rfl
    | succ j => simp
  | z :: zs, 0, h1, h2, h3, j => by
    rw [qin, if_pos (h3 z rfl)]
    cases j with
    | zero => rfl
    | succ j => simp
  | z :: zs, m + 1, h1, h2, h3, j => by
    have hz := h1 0 z (by omega) rfl
    rw [qin, if_neg (by omega)]
    cases j with
    | zero => simp
    | succ j =>
      rw [List.getElem?_cons_succ, qin_get (m := m) (fun i y hi hy => h1 (i + 1) y (by omega) hy) (by simpa using h2) (fun y hy => h3 y hy) j]
      by_cases c1 : j < m
      · rw [if_pos c1, if_pos (by omega), List.getElem?_cons_succ]
      · rw [if_neg c1, if_neg (show ¬ (j + 1 < m + 1) by omega)]
        by_cases c2 : j = m
        · rw [if_pos c2, if_pos (show j + 1 = m + 1 by omega)]
        · rw [if_neg c2, if_neg (show ¬ (j + 1 = m + 1) by omega)]
          obtain ⟨i, rfl⟩ : ∃ i, j = i + 1 := ⟨j - 1, by omega⟩
          simp
theorem filter_at {α : Type} {p : α → Bool} : ∀ {l : List α} {i : Nat} {x : α}, l[i]? = some x → p x = true → (l.filter p)[(l.take i).countP p]? = some x
  | [], i, x, h, _ => by simp at h
  | z :: zs, 0, x, h, hp => by
    rw [List.getElem?_cons_zero] at h
    cases h
    rw [List.take_zero, List.filter_cons_of_pos hp]
    rfl
  | z :: zs, i + 1, x, h, hp => by
    rw [List.getElem?_cons_succ] at h
    have ih := filter_at h hp
    rw [List.take_succ_cons, List.countP_cons, List.filter_cons]
    split
    · rw [List.getElem?_cons_succ]; exact ih
    · exact ih
theorem lf_take {α : Type} (g : Nat → α) : ∀ (n c m : Nat), m ≤ n → (lf g c n).take m = lf g c m
  | _, c, 0, _ => rfl
  | 0, c, m + 1, h => by omega
  | n + 1, c, m + 1, h => by rw [lf, lf, List.take_succ_cons, lf_take g n (c + 1) m (by omega)]
theorem l_insert1 {e : w_E} {N : Nat} {S : w_S} {x2 x4 : Int} (h0 : 0 ≤ x4 ∧ x4 ≤ 199) : ∀ (k n : Nat) (acc i : Int), k < n → 0 ≤ i → i + k = x4 + 1 → 0 ≤ acc → acc + k ≤ 1000000 → Ok (El_Lending_insertQueued e N n 1 [x2, x4, acc, i] [] S) (fun y S1 => y = acc + cnt (fun j => decide (S.1 73 j = x2)) i.toNat k ∧ S1 = S)
  | 0, n + 1, acc, i, h1, h2, h3, h4, h5 => by
    rw [El_Lending_insertQueued, cnt]
    repeat' (first | with_reducible refine ok_nb (by omega) ?_ | with_reducible refine ok_ib (by omega) ?_ | with_reducible refine ok_t (by omega) ?_ | with_reducible refine ok_e (by omega) ?_ | with_reducible refine ok_if (fun h => ?_) (fun h => ?_) | with_reducible refine ok_s ?_ | with_reducible refine ok_b ?_)
    exact ⟨by omega, rfl⟩
  | k + 1, n + 1, acc, i, h1, h2, h3, h4, h5 => by
    have e1 : (i + 1).toNat = i.toNat + 1 := by omega
    rw [El_Lending_insertQueued, cnt]
    repeat' (first | with_reducible refine ok_nb (by omega) ?_ | with_reducible refine ok_ib (by omega) ?_ | with_reducible refine ok_t (by omega) ?_ | with_reducible refine ok_e (by omega) ?_ | with_reducible refine ok_if (fun h => ?_) (fun h => ?_) | with_reducible refine ok_s ?_ | with_reducible refine ok_b ?_)
    all_goals
      refine (l_insert1 h0 k n _ _ (by omega) (by omega) (by omega) (by omega) (by omega)).mono (fun y S1 q => ⟨?_, q.2⟩)
      rw [q.1, e1]
      simp only [decide_eq_true_eq]
      split <;> omega
theorem l_insert0 {e : w_E} {N : Nat} {x1 x2 x3 : Int} : ∀ (i n : Nat) (S : w_S), 300 + i < n → (i : Int) ≤ S.1 62 14 → S.1 62 14 ≤ 199 → Ok (El_Lending_insertQueued e N n 0 [x1, x2, x3, i] [] S) (fun y S1 => ∃ m : Nat, m ≤ i ∧ (∀ j, m ≤ j → j < i → x3 < S.1 75 j) ∧ (m = 0 ∨ S.1 75 (m - 1) ≤ x3) ∧ y = cnt (fun j => decide (S1.1 73 j = x2)) 0 (m + 1) ∧ frm [73, 74, 75] [62] [(62, 14)] S S1 ∧ S1.1 62 14 = S.1 62 14 + 1 ∧ (∀ j, S1.1 73 j = if j < m then S.1 73 j else if j = m then x2 else if j ≤ i then S.1 73 (j - 1) else S.1 73 j) ∧ (∀ j, S1.1 74 j = if j < m then S.1 74 j else if j = m then x1 else if j ≤ i then S.1 74 (j - 1) else S.1 74 j) ∧ (∀ j, S1.1 75 j = if j < m then S.1 75 j else if j = m then x3 else if j ≤ i then S.1 75 (j - 1) else S.1 75 j))
  | 0, n + 1, S, h1, h2, h3 => by
    rw [El_Lending_insertQueued]
    repeat' (first | with_reducible refine ok_nb (by omega) ?_ | with_reducible refine ok_ib (by omega) ?_ | with_reducible refine ok_t (by omega) ?_ | with_reducible refine ok_e (by omega) ?_ | with_reducible refine ok_if (fun h => ?_) (fun h => ?_) | with_reducible refine ok_s ?_ | with_reducible refine ok_b ?_)
    refine (l_insert1 (by omega) 1 n 0 0 (by omega) (by omega) (by omega) (by omega) (by omega)).mono (fun y S1 q => ?_)
    obtain ⟨q1, q2⟩ := q
    subst q2
    refine ⟨0, by omega, fun j a b => by omega, Or.inl rfl, by rw [q1, Int.zero_add]; rfl, ?_, ?_, fun j => ?_, fun j => ?_, fun j => ?_⟩
    · repeat (first | exact frm.refl _ _ _ _ | refine frm.put ?_ rfl | refine frm.puto ?_ rfl rfl)
    · simp only [w_put_r, reduceIte, Nat.reduceEqDiff, pt_at]
    all_goals
      simp only [w_put_r, reduceIte, Nat.reduceEqDiff, pt_at]
      (repeat' split) <;> first | rfl | omega
  | i + 1, n + 1, S, h1, h2, h3 => by
    have e1 : (((i + 1 : Nat) : Int) - 1).toNat = i := by omega
    have e2 : (((i + 1 : Nat) : Int)).toNat = i + 1 := by omega
    have e3 : ((i + 1 : Nat) : Int) + (-1) = (i : Int) := by omega
    rw [El_Lending_insertQueued, e1, e2, e3]
    repeat' (first | with_reducible refine ok_nb (by omega) ?_ | with_reducible refine ok_ib (by omega) ?_ | with_reducible refine ok_t (by omega) ?_ | with_reducible refine ok_e (by omega) ?_ | with_reducible refine ok_if (fun h => ?_) (fun h => ?_) | with_reducible refine ok_s ?_ | with_reducible refine ok_b ?_)
    · refine (l_insert1 (by omega) (i + 2) n 0 0 (by omega) (by omega) (by omega) (by omega) (by omega)).mono (fun y S1 q => ?_)
      obtain ⟨q1, q2⟩ := q
      subst q2
      refine ⟨i + 1, by omega, fun j a b => by omega, Or.inr h, by rw [q1, Int.zero_add]; rfl, ?_, ?_, fun j => ?_, fun j => ?_, fun j => ?_⟩
      · repeat (first | exact frm.refl _ _ _ _ | refine frm.put ?_ rfl | refine frm.puto ?_ rfl rfl)
      · simp only [w_put_r, reduceIte, Nat.reduceEqDiff, pt_at]
      all_goals
        simp only [w_put_r, reduceIte, Nat.reduceEqDiff, pt_at]
        (repeat' split) <;> first | rfl | omega
    · refine (l_insert0 i n _ (by omega) (by simp only [w_put_r, reduceIte, Nat.reduceEqDiff, pt_at]; omega) (by simp only [w_put_r, reduceIte, Nat.reduceEqDiff, pt_at]; omega)).mono (fun y S1 q => ?_)
      obtain ⟨m, q1, q2, q3, q4, q5, q6, q7, q8, q9⟩ := q
      refine ⟨m, by omega, fun j a b => ?_, ?_, q4, frm.trans ?_ q5, ?_, fun j => ?_, fun j => ?_, fun j => ?_⟩
      · by_cases hj : j < i
        · have := q2 j a hj
          simp only [w_put_r, reduceIte, Nat.reduceEqDiff, pt_at] at this
          rw [if_neg (by omega)] at this
          exact this
        · have : j = i := by omega
          subst this
          omega
      · rcases q3 with q3 | q3
        · exact Or.inl q3
        · simp only [w_put_r, reduceIte, Nat.reduceEqDiff, pt_at] at q3
          rw [if_neg (by omega)] at q3
          exact Or.inr q3
      · repeat (first | exact frm.refl _ _ _ _ | refine frm.put ?_ rfl | refine frm.puto ?_ rfl rfl)
      · rw [q6]
        simp only [w_put_r, reduceIte, Nat.reduceEqDiff, pt_at]
      · rw [q7 j]
        simp only [w_put_r, reduceIte, Nat.reduceEqDiff, pt_at]
        (repeat' split) <;> first | rfl | omega | exact congrArg (S.1 73) (by omega)
      · rw [q8 j]
        simp only [w_put_r, reduceIte, Nat.reduceEqDiff, pt_at]
        (repeat' split) <;> first | rfl | omega | exact congrArg (S.1 74) (by omega)
      · rw [q9 j]
        simp only [w_put_r, reduceIte, Nat.reduceEqDiff, pt_at]
        (repeat' split) <;> first | rfl | omega | exact congrArg (S.1 75) (by omega)
theorem x_insertQueued {e : w_E} {N : Nat} {S : w_S} {x1 x2 x3 : Int} (hN : 1000 ≤ N) (h0 : 0 ≤ S.1 62 14) (h1 : S.1 62 14 ≤ 199) (hs : qso (QC S.1)) : Ok (E_Lending_insertQueued e N x1 x2 x3 S) (fun y S1 => frm [73, 74, 75] [62] [(62, 14)] S S1 ∧ S1.1 62 14 = S.1 62 14 + 1 ∧ QC S1.1 = qin (x2, x1, x3) (QC S.1) ∧ 1 ≤ y ∧ (qof x2 (QC S1.1))[(y - 1).toNat]? = some (x2, x1, x3)) := by
  unfold E_Lending_insertQueued
  have e0 : S.1 62 14 = (((S.1 62 14).toNat : Nat) : Int) := by omega
  rw [e0]
  refine (l_insert0 (S.1 62 14).toNat N S (by omega) (by omega) (by omega)).mono (fun y S1 q => ?_)
  obtain ⟨m, q1, q2, q3, q4, q5, q6, q7, q8, q9⟩ := q
  have hQ : QC S1.1 = qin (x2, x1, x3) (QC S.1) := by
    refine List.ext_getElem? (fun j => ?_)
    rw [qin_get (m := m) ?_ ?_ ?_ j]
    · unfold QC
      rw [lf_get, lf_get, lf_get, q6]
      simp only [Nat.zero_add, qc, q7, q8, q9]
      (repeat' split) <;> first | rfl | omega
    · intro j y' hj hy
      unfold QC at hy
      rw [lf_get] at hy
      split at hy
      · next hjn =>
        cases hy
        rcases q3 with q3 | q3
        · omega
        · by_cases e : j = m - 1
          · subst e
            simpa [qc] using q3
          · have hp := List.pairwise_iff_getElem.mp hs
            have hl : (QC S.1).length = (S.1 62 14).toNat := lf_length _ _ _
            have := hp j (m - 1) (by omega) (by omega) (by omega)
            have g1 : (QC S.1)[j]? = some (qc S.1 j) := by
              unfold QC
              rw [lf_get, if_pos (by omega), Nat.zero_add]
            have g2 : (QC S.1)[m - 1]? = some (qc S.1 (m - 1)) := by
              unfold QC
              rw [lf_get, if_pos (by omega), Nat.zero_add]
            rw [List.getElem?_eq_getElem (by omega)] at g1 g2
            rw [Option.some.inj g1, Option.some.inj g2] at this
            simp only [Nat.zero_add]
            simp only [qc] at this ⊢
            omega
      · cases hy
    · unfold QC
      rw [lf_length]
      omega
    · intro y' hy
      unfold QC at hy
      rw [lf_get] at hy
      split at hy
      · cases hy
        have := q2 m (Nat.le_refl _) (by omega)
        simpa [qc] using this
      · cases hy
  refine ⟨q5, by omega, hQ, ?_, ?_⟩
  · rw [q4, cnt_snoc, if_pos (by simp [q7])]
    have := cnt_le (fun j => decide (S1.1 73 j = x2)) m 0
    omega
  · have hm : (QC S1.1)[m]? = some (x2, x1, x3) := by
      unfold QC
      rw [lf_get, if_pos (by omega)]
      simp only [Nat.zero_add, qc, q7, q8, q9]
      simp
    have hf := filter_at (p := fun y => decide (y.1 = x2)) hm (by simp)
    have hc : (y - 1).toNat = ((QC S1.1).take m).countP (fun y => decide (y.1 = x2)) := by
      unfold QC
      rw [lf_take _ _ _ _ (by omega), q4, cnt_snoc, if_pos (by simp [q7])]
      have := cnt_countP (qc S1.1) (fun y => decide (y.1 = x2)) m 0
      have e4 : cnt (fun j => decide ((qc S1.1 j).1 = x2)) 0 m = cnt (fun j => decide (S1.1 73 j = x2)) 0 m := rfl
      rw [e4] at this
      omega
    unfold qof
    rw [hc]
    exact hf
theorem l_takeFirst {e : w_E} {N : Nat} {S : w_S} {x1 : Int} (hN : 1000 ≤ N) (h0 : 0 ≤ S.1 62 14 ∧ S.1 62 14 ≤ 200) : ∀ (k n : Nat) (i : Int), k < n → 0 ≤ i → i + k = S.1 62 14 → Ok (El_Lending_takeFirstQueued e N n 0 [x1, i] [] S) (fun y S1 => (fst (fun j => decide ((qc S.1 j).1 = x1)) i.toNat k = none ∧ y = 0 ∧ S1 = S) ∨ ∃ j, fst (fun j => decide ((qc S.1 j).1 = x1)) i.toNat k = some j ∧ y = S.1 74 j ∧ frm [73, 74, 75] [62] [(62, 14)] S S1 ∧ S1.1 62 14 = S.1 62 14 - 1 ∧ QC S1.1 = (QC S.1).eraseIdx j)
  | 0, n + 1, i, h1, h2, h3 => by
    rw [El_Lending_takeFirstQueued, fst]
    repeat' (first | with_reducible refine ok_nb (by omega) ?_ | with_reducible refine ok_ib (by omega) ?_ | with_reducible refine ok_t (by omega) ?_ | with_reducible refine ok_e (by omega) ?_ | with_reducible refine ok_if (fun h => ?_) (fun h => ?_) | with_reducible refine ok_s ?_ | with_reducible refine ok_b ?_)
    exact Or.inl ⟨rfl, rfl, rfl⟩
  | k + 1, n + 1, i, h1, h2, h3 => by
    have e1 : (i + 1).toNat = i.toNat + 1 := by omega
    rw [El_Lending_takeFirstQueued, fst]
    repeat' (first | with_reducible refine ok_nb (by omega) ?_ | with_reducible refine ok_ib (by omega) ?_ | with_reducible refine ok_t (by omega) ?_ | with_reducible refine ok_e (by omega) ?_ | with_reducible refine ok_if (fun h => ?_) (fun h => ?_) | with_reducible refine ok_s ?_ | with_reducible refine ok_b ?_)
    · have hf : ¬ decide ((qc S.1 i.toNat).1 = x1) = true := by rw [decide_eq_true_eq]; exact h
      rw [if_neg hf, ← e1]
      exact l_takeFirst hN h0 k n (i + 1) (by omega) (by omega) (by omega)
    · have hf : decide ((qc S.1 i.toNat).1 = x1) = true := by rw [decide_eq_true_eq]; exact Decidable.not_not.mp h
      refine (x_removeQueued hN h2 (by omega) h0.2).mono (fun y S1 q => ?_)
      refine ok_s (Or.inr ⟨i.toNat, by rw [if_pos hf], rfl, q.2.1, q.2.2.1, q.2.2.2⟩)
theorem x_takeFirst {e : w_E} {N : Nat} {S : w_S} {x1 : Int} (hN : 1000 ≤ N) (h0 : 0 ≤ S.1 62 14 ∧ S.1 62 14 ≤ 200) : Ok (E_Lending_takeFirstQueued e N x1 S) (fun y S1 => (qof x1 (QC S.1) = [] ∧ y = 0 ∧ S1 = S) ∨ ∃ j x, (QC S.1)[j]? = some x ∧ (qof x1 (QC S.1))[0]? = some x ∧ y = x.2.1 ∧ frm [73, 74, 75] [62] [(62, 14)] S S1 ∧ S1.1 62 14 = S.1 62 14 - 1 ∧ QC S1.1 = (QC S.1).eraseIdx j) := by
  refine (l_takeFirst hN h0 (S.1 62 14).toNat N 0 (by omega) (by omega) (by omega)).mono (fun y S1 q => ?_)
  have ff := fst_filter (g := qc S.1) (p := fun y => decide (y.1 = x1)) (n := (S.1 62 14).toNat) (c := 0)
  rcases q with ⟨q1, q2, q3⟩ | ⟨j, q1, q2, q3, q4, q5⟩
  · exact Or.inl ⟨ff.2 q1, q2, q3⟩
  · have hb := fst_some q1
    refine Or.inr ⟨j, qc S.1 j, ?_, ff.1 j q1, q2, q3, q4, q5⟩
    unfold QC
    rw [lf_get, if_pos (by omega), Nat.zero_add]
end
section
-- 79
/-- a line of this mask goes on that day -/
def bt (m d : Int) : Prop := w_and (w_shr m (w_rem d 7)) 1 ≠ 0
def gon (m : Int) : Nat → Int → Int
  | 0, d => d
  | k + 1, d => if w_and (w_shr m (w_rem d 7)) 1 ≠ 0 then d else gon m k (d + 1)
theorem gon_spec {m : Int} : ∀ {k : Nat} {d : Int}, (∃ j, 0 ≤ j ∧ j < (k : Int) ∧ bt m (d + j)) → d ≤ gon m k d ∧ gon m k d < d + k ∧ bt m (gon m k d) ∧ ∀ x, d ≤ x → x < gon m k d → ¬ bt m x
  | 0, d, ⟨j, h1, h2, _⟩ => by omega
  | k + 1, d, ⟨j, h1, h2, h3⟩ => by
    rw [gon]
    by_cases h : w_and (w_shr m (w_rem d 7)) 1 ≠ 0
    · rw [if_pos h]
      exact ⟨Int.le_refl _, by omega, h, fun x a b => by omega⟩
    · rw [if_neg h]
      have hj : j ≠ 0 := by
        rintro rfl
        rw [Int.add_zero] at h3
        exact h h3
      have e : d + j = d + 1 + (j - 1) := by omega
      rw [e] at h3
      obtain ⟨g1, g2, g3, g4⟩ := gon_spec (k := k) (d := d + 1) ⟨j - 1, by omega, by omega, h3⟩
      refine ⟨by omega, by omega, g3, fun x a b => ?_⟩
      by_cases hx : x = d
      · rw [hx]; exact h
      · exact g4 x (by omega) b
theorem bt_ex {m d : Int} (h1 : 1 ≤ m) (h2 : m ≤ 127) (hd : 0 ≤ d) (hd2 : d < 1000000000) : ∃ j, 0 ≤ j ∧ j < ((7 : Nat) : Int) ∧ bt m (d + j) := by
  obtain ⟨r, hr, hb⟩ := b_bit m h1 h2
  by_cases c : d % 7 ≤ r
  · refine ⟨r - d % 7, by omega, by omega, ?_⟩
    unfold bt
    rw [b_rem (by omega) (by omega) (by omega) (by omega)]
    have e : (d + ((r : Int) - d % 7)) % 7 = r := by omega
    rw [e]
    exact hb
  · refine ⟨r + 7 - d % 7, by omega, by omega, ?_⟩
    unfold bt
    rw [b_rem (by omega) (by omega) (by omega) (by omega)]
    have e : (d + ((r : Int) + 7 - d % 7)) % 7 = r := by omega
    rw [e]
    exact hb
theorem go_spec {m d : Int} (h1 : 1 ≤ m) (h2 : m ≤ 127) (hd : 0 ≤ d) (hd2 : d < 1000000000) : d ≤ gon m 7 d ∧ gon m 7 d < d + 7 ∧ bt m (gon m 7 d) ∧ ∀ x, d ≤ x → x < gon m 7 d → ¬ bt m x := gon_spec (bt_ex h1 h2 hd hd2)
theorem go_mono {m d d' : Int} (h1 : 1 ≤ m) (h2 : m ≤ 127) (hd : 0 ≤ d) (hd2 : d' < 1000000000) (h : d ≤ d') : gon m 7 d ≤ gon m 7 d' := by
  obtain ⟨a1, a2, a3, a4⟩ := go_spec (d := d) h1 h2 hd (by omega)
  obtain ⟨b1, b2, b3, b4⟩ := go_spec (d := d') h1 h2 (by omega) hd2
  by_cases c : gon m 7 d ≤ gon m 7 d'
  · exact c
  · exact absurd b3 (a4 _ (by omega) (by omega))
/-- routes: lines of four numbers -/
def Rts (n : Nat) (f : Nat → Int) : Prop := n ≤ 12 ∧ ∀ l, l < n → 0 ≤ f (4 * l) ∧ f (4 * l) ≤ 3 ∧ 0 ≤ f (4 * l + 1) ∧ f (4 * l + 1) ≤ 3 ∧ 1 ≤ f (4 * l + 2) ∧ f (4 * l + 2) ≤ 127 ∧ 1 ≤ f (4 * l + 3) ∧ f (4 * l + 3) ≤ 9
/-- by when a line brings what is at its beginning on a day -/
def brg (f : Nat → Int) (l : Nat) (d : Int) : Int := gon (f (4 * l + 2)) 7 d + f (4 * l + 3)
def rlx (f : Nat → Int) (l : Nat) (D : Nat → Int) : Nat → Int := if D (f (4 * l)).toNat = 1000000000 then D else pt D (f (4 * l + 1)).toNat (min (D (f (4 * l + 1)).toNat) (brg f l (D (f (4 * l)).toNat)))
def psf (f : Nat → Int) : Nat → Nat → (Nat → Int) → (Nat → Int)
  | 0, _, D => D
  | k + 1, l, D => psf f k (l + 1) (rlx f l D)
def fin1 (x : Int) : Int := if x = 1000000000 then 0 else 1
def fin4 (D : Nat → Int) : Int := fin1 (D 0) + fin1 (D 1) + fin1 (D 2) + fin1 (D 3)
theorem fin1_le (x : Int) : 0 ≤ fin1 x ∧ fin1 x ≤ 1 := by unfold fin1; split <;> omega
theorem fin4_le (D : Nat → Int) : 0 ≤ fin4 D ∧ fin4 D ≤ 4 := by
  have := fin1_le (D 0)
  have := fin1_le (D 1)
  have := fin1_le (D 2)
  have := fin1_le (D 3)
  unfold fin4
  omega
/-- days that may be: far, or not before one and not too late -/
def Dys (t U : Int) (D : Nat → Int) : Prop := ∀ p, p < 4 → D p = 1000000000 ∨ (t ≤ D p ∧ D p ≤ U + 16 * fin4 D)
theorem fin4_pt {D : Nat → Int} {b : Nat} {x : Int} (hb : b < 4) (hx : x ≠ 1000000000) : fin4 (pt D b x) = fin4 D + (1 - fin1 (D b)) := by
  have h1 : fin1 x = 1 := by unfold fin1; rw [if_neg hx]
  unfold fin4
  simp only [pt_at]
  rcases (by omega : b = 0 ∨ b = 1 ∨ b = 2 ∨ b = 3) with rfl | rfl | rfl | rfl
  all_goals
    simp only [Nat.reduceEqDiff, reduceIte, h1]
    omega
theorem rlx_le {n : Nat} {f : Nat → Int} (hf : Rts n f) {l : Nat} (hl : l < n) (D : Nat → Int) (p : Nat) : rlx f l D p ≤ D p := by
  unfold rlx
  split
  · exact Int.le_refl _
  · rw [pt_at]
    split
    · next h => rw [h]; omega
    · exact Int.le_refl _
theorem rlx_dys {n : Nat} {f : Nat → Int} (hf : Rts n f) {l : Nat} (hl : l < n) {t U : Int} {D : Nat → Int} (h : Dys t U D) (ht : 0 ≤ t) (hU : U ≤ 100000) : Dys t U (rlx f l D) := by
  obtain ⟨_, hf⟩ := hf
  obtain ⟨f1, f2, f3, f4, f5, f6, f7, f8⟩ := hf l hl
  have h4 := fin4_le D
  unfold rlx
  split
  · exact h
  · next hfar =>
    have ha := h (f (4 * l)).toNat (by omega)
    have hb := h (f (4 * l + 1)).toNat (by omega)
    obtain ⟨g1, g2, _, _⟩ := go_spec (d := D (f (4 * l)).toNat) f5 f6 (by omega) (by omega)
    have hne : min (D (f (4 * l + 1)).toNat) (brg f l (D (f (4 * l)).toNat)) ≠ 1000000000 := by
      unfold brg
      omega
    intro p hp
    rw [fin4_pt (by omega) hne, pt_at]
    have hq : fin1 (D (f (4 * l + 1)).toNat) = if D (f (4 * l + 1)).toNat = 1000000000 then 0 else 1 := rfl
    have hp0 := h p hp
    split
    · unfold brg
      split at hq <;> omega
    · split at hq <;> omega
theorem psf_dys {n : Nat} {f : Nat → Int} (hf : Rts n f) {t U : Int} (ht : 0 ≤ t) (hU : U ≤ 100000) : ∀ (k l : Nat) (D : Nat → Int), l + k ≤ n → Dys t U D → Dys t U (psf f k l D)
  | 0, l, D, _, h => by rw [psf]; exact h
  | k + 1, l, D, h1, h => by
    rw [psf]
    exact psf_dys hf ht hU k (l + 1) (rlx f l D) (by omega) (rlx_dys hf (by omega) h ht hU)
theorem psf_le {n : Nat} {f : Nat → Int} (hf : Rts n f) (p : Nat) : ∀ (k l : Nat) (D : Nat → Int), l + k ≤ n → psf f k l D p ≤ D p
  | 0, l, D, _ => by rw [psf]; exact Int.le_refl _
  | k + 1, l, D, h => by
    rw [psf]
    exact Int.le_trans (psf_le hf p k (l + 1) (rlx f l D) (by omega)) (rlx_le hf (by omega) D p)
/-- what a pass does is at least what each of its lines does to days that stay -/
theorem psf_line {n : Nat} {f : Nat → Int} (hf : Rts n f) {t U : Int} (ht : 0 ≤ t) (hU : U ≤ 100000) : ∀ (k l : Nat) (D : Nat → Int) (j : Nat) (v : Int), l + k ≤ n → Dys t U D → l ≤ j → j < l + k → D (f (4 * j)).toNat ≤ v → v < 100000000 → psf f k l D (f (4 * j + 1)).toNat ≤ brg f j v
  | 0, l, D, j, v, _, _, h3, h4, _, _ => by omega
  | k + 1, l, D, j, v, h1, h2, h3, h4, h5, h6 => by
    rw [psf]
    by_cases e : j = l
    · subst e
      refine Int.le_trans (psf_le hf _ k (j + 1) _ (by omega)) ?_
      obtain ⟨_, hf⟩ := hf
      obtain ⟨f1, f2, f3, f4, f5, f6, f7, f8⟩ := hf j (by omega)
      have ha := h2 (f (4 * j)).toNat (by omega)
      unfold rlx
      rw [if_neg (by omega), pt_at, if_pos rfl]
      have := go_mono (d := D (f (4 * j)).toNat) (d' := v) f5 f6 (by omega) (by omega) h5
      unfold brg
      omega
    · refine psf_line hf ht hU k (l + 1) (rlx f l D) j v (by omega) (rlx_dys hf (by omega) h2 ht hU) (by omega) (by omega) ?_ h6
      exact Int.le_trans (rlx_le hf (by omega) D _) h5
/-- each day but the first ones was brought by a line -/
def Bro (n : Nat) (f : Nat → Int) (D0 D : Nat → Int) : Prop := ∀ p, p < 4 → D p = D0 p ∨ ∃ l, l < n ∧ (f (4 * l + 1)).toNat = p ∧ D (f (4 * l)).toNat ≠ 1000000000 ∧ brg f l (D (f (4 * l)).toNat) ≤ D p
theorem rlx_bro {n : Nat} {f : Nat → Int} (hf : Rts n f) {l : Nat} (hl : l < n) {t U : Int} {D0 D : Nat → Int} (h : Dys t U D) (ht : 0 ≤ t) (hU : U ≤ 100000) (hb : Bro n f D0 D) : Bro n f D0 (rlx f l D) := by
  intro p hp
  have hd' := rlx_dys hf hl h ht hU
  have h4 := fin4_le D
  have h4' := fin4_le (rlx f l D)
  have mono : ∀ j, j < n → D (f (4 * j)).toNat ≠ 1000000000 → rlx f l D (f (4 * j)).toNat ≠ 1000000000 ∧ brg f j (rlx f l D (f (4 * j)).toNat) ≤ brg f j (D (f (4 * j)).toNat) := by
    intro j hj hne
    obtain ⟨f1, f2, f3, f4, f5, f6, f7, f8⟩ := hf.2 j hj
    have a1 := h (f (4 * j)).toNat (by omega)
    have a2 := hd' (f (4 * j)).toNat (by omega)
    have a3 := rlx_le hf hl D (f (4 * j)).toNat
    refine ⟨by omega, ?_⟩
    have := go_mono (d := rlx f l D (f (4 * j)).toNat) (d' := D (f (4 * j)).toNat) f5 f6 (by omega) (by omega) a3
    unfold brg
    omega
  by_cases hfar : D (f (4 * l)).toNat = 1000000000
  · have e : rlx f l D = D := by unfold rlx; rw [if_pos hfar]
    rw [e]
    exact hb p hp
  · have hv : rlx f l D p = if p = (f (4 * l + 1)).toNat then min (D (f (4 * l + 1)).toNat) (brg f l (D (f (4 * l)).toNat)) else D p := by
      unfold rlx
      rw [if_neg hfar, pt_at]
    by_cases hpb : p = (f (4 * l + 1)).toNat ∧ brg f l (D (f (4 * l)).toNat) < D (f (4 * l + 1)).toNat
    · refine Or.inr ⟨l, hl, hpb.1.symm, (mono l hl hfar).1, ?_⟩
      rw [hv, if_pos hpb.1]
      have := (mono l hl hfar).2
      omega
    · have hv2 : rlx f l D p = D p := by
        rw [hv]
        split
        · next e => rw [← e] at hpb ⊢; omega
        · rfl
      rcases hb p hp with h1 | ⟨j, h1, h2, h3, h4⟩
      · exact Or.inl (by rw [hv2, h1])
      · refine Or.inr ⟨j, h1, h2, (mono j h1 h3).1, ?_⟩
        rw [hv2]
        have := (mono j h1 h3).2
        omega
theorem psf_bro {n : Nat} {f : Nat → Int} (hf : Rts n f) {t U : Int} (ht : 0 ≤ t) (hU : U ≤ 100000) {D0 : Nat → Int} : ∀ (k l : Nat) (D : Nat → Int), l + k ≤ n → Dys t U D → Bro n f D0 D → Bro n f D0 (psf f k l D)
  | 0, l, D, _, _, h => by rw [psf]; exact h
  | k + 1, l, D, h1, h2, h => by
    rw [psf]
    exact psf_bro hf ht hU k (l + 1) (rlx f l D) (by omega) (rlx_dys hf (by omega) h2 ht hU) (rlx_bro hf (by omega) h2 ht hU h)
/-- so many passes -/
def pss (n : Nat) (f : Nat → Int) : Nat → (Nat → Int) → (Nat → Int)
  | 0, D => D
  | j + 1, D => psf f n 0 (pss n f j D)
theorem dec_stable : ∀ (b : Nat) (g : Nat → Int), (∀ j, g (j + 1) ≤ g j) → (∀ j, 0 ≤ g j) → g 0 ≤ b → ∃ j, ∀ i, j ≤ i → g i = g j
  | 0, g, h1, h2, h3 => by
    have hz : ∀ i, g i = 0 := fun i => by
      induction i with
      | zero => have := h2 0; omega
      | succ i ih => have := h1 i; have := h2 (i + 1); omega
    exact ⟨0, fun i _ => by rw [hz i, hz 0]⟩
  | b + 1, g, h1, h2, h3 => by
    by_cases hc : ∃ j, g j < g 0
    · obtain ⟨j, hj⟩ := hc
      obtain ⟨q, hq⟩ := dec_stable b (fun i => g (j + i)) (fun i => h1 (j + i)) (fun i => h2 (j + i)) (by simp only [Nat.add_zero]; omega)
      refine ⟨j + q, fun i hi => ?_⟩
      have := hq (i - j) (by omega)
      have e : j + (i - j) = i := by omega
      simp only [e] at this
      exact this
    · refine ⟨0, fun i _ => ?_⟩
      have hle : g i ≤ g 0 := by
        induction i with
        | zero => exact Int.le_refl _
        | succ i ih => have := h1 i; omega
      have : ¬ g i < g 0 := fun h => hc ⟨i, h⟩
      omega
theorem pss_dys {n : Nat} {f : Nat → Int} (hf : Rts n f) {t U : Int} (ht : 0 ≤ t) (hU : U ≤ 100000) {D : Nat → Int} (h : Dys t U D) : ∀ j : Nat, Dys t U (pss n f j D)
  | 0 => h
  | j + 1 => psf_dys hf ht hU n 0 _ (by omega) (pss_dys hf ht hU h j)
theorem pss_bro {n : Nat} {f : Nat → Int} (hf : Rts n f) {t U : Int} (ht : 0 ≤ t) (hU : U ≤ 100000) {D : Nat → Int} (h : Dys t U D) : ∀ j : Nat, Bro n f D (pss n f j D)
  | 0 => fun p _ => Or.inl rfl
  | j + 1 => psf_bro hf ht hU n 0 _ (by omega) (pss_dys hf ht hU h j) (pss_bro hf ht hU h j)
theorem pss_step {n : Nat} {f : Nat → Int} (hf : Rts n f) (D : Nat → Int) (j p : Nat) : pss n f (j + 1) D p ≤ pss n f j D p := psf_le hf p n 0 _ (by omega)
theorem pss_mono {n : Nat} {f : Nat → Int} (hf : Rts n f) (D : Nat → Int) (p i : Nat) : ∀ j : Nat, pss n f (i + j) D p ≤ pss n f i D p
  | 0 => Int.le_refl _
  | j + 1 => Int.le_trans (pss_step hf D (i + j) p) (pss_mono hf D p i j)
theorem pss_lim {n : Nat} {f : Nat → Int} (hf : Rts n f) {t U : Int} (ht : 0 ≤ t) (hU : U ≤ 100000) {D : Nat → Int} (h : Dys t U D) : ∃ J, ∀ i p, J ≤ i → p < 4 → pss n f i D p = pss n f J D p := by
  have one : ∀ p, p < 4 → ∃ j, ∀ i, j ≤ i → pss n f i D p = pss n f j D p := fun p hp => dec_stable 1000000000 (fun i => pss n f i D p) (fun j => pss_step hf D j p) (fun j => by
    have := pss_dys hf ht hU h j p hp
    show 0 ≤ pss n f j D p
    omega) (by
    have := pss_dys hf ht hU h 0 p hp
    have := fin4_le (pss n f 0 D)
    show pss n f 0 D p ≤ _
    omega)
  obtain ⟨j0, h0⟩ := one 0 (by omega)
  obtain ⟨j1, h1⟩ := one 1 (by omega)
  obtain ⟨j2, h2⟩ := one 2 (by omega)
  obtain ⟨j3, h3⟩ := one 3 (by omega)
  refine ⟨j0 + j1 + j2 + j3, fun i p hi hp => ?_⟩
  rcases (by omega : p = 0 ∨ p = 1 ∨ p = 2 ∨ p = 3) with rfl | rfl | rfl | rfl
  · rw [h0 i (by omega), h0 (j0 + j1 + j2 + j3) (by omega)]
  · rw [h1 i (by omega), h1 (j0 + j1 + j2 + j3) (by omega)]
  · rw [h2 i (by omega), h2 (j0 + j1 + j2 + j3) (by omega)]
  · rw [h3 i (by omega), h3 (j0 + j1 + j2 + j3) (by omega)]
theorem least4 {P : Nat → Prop} {F : Nat → Int} (h : ∃ p, p < 4 ∧ P p) : ∃ b, b < 4 ∧ P b ∧ ∀ p, p < 4 → P p → F b ≤ F p := by
  have key : ∀ m, m ≤ 4 → (∃ p, p < m ∧ P p) → ∃ b, b < m ∧ P b ∧ ∀ p, p < m → P p → F b ≤ F p := by
    intro m
    induction m with
    | zero => exact fun _ ⟨p, hp, _⟩ => by omega
    | succ m ih =>
      intro hm ⟨p, hp, hP⟩
      by_cases hq : ∃ p, p < m ∧ P p
      · obtain ⟨b, b1, b2, b3⟩ := ih (by omega) hq
        by_cases hc : P m ∧ F m < F b
        · refine ⟨m, by omega, hc.1, fun q hq1 hq2 => ?_⟩
          by_cases e : q = m
          · rw [e]; exact Int.le_refl _
          · have := b3 q (by omega) hq2
            omega
        · refine ⟨b, by omega, b2, fun q hq1 hq2 => ?_⟩
          by_cases e : q = m
          · subst e
            have : ¬ F q < F b := fun k => hc ⟨hq2, k⟩
            omega
          · exact b3 q (by omega) hq2
      · have e : p = m := by
          by_cases e : p = m
          · exact e
          · exact absurd ⟨p, by omega, hP⟩ hq
        subst e
        refine ⟨p, by omega, hP, fun q hq1 hq2 => ?_⟩
        by_cases e : q = p
        · rw [e]; exact Int.le_refl _
        · exact absurd ⟨q, by omega, hq2⟩ hq
  exact key 4 (by omega) h
def eq1 (x y : Int) : Int := if x = y then 1 else 0
def eq4 (D E : Nat → Int) : Int := eq1 (D 0) (E 0) + eq1 (D 1) (E 1) + eq1 (D 2) (E 2) + eq1 (D 3) (E 3)
theorem eq1_le {x y z : Int} (h : x = z → y = z) : eq1 x z ≤ eq1 y z := by
  unfold eq1
  by_cases c : x = z
  · rw [if_pos c, if_pos (h c)]
    exact Int.le_refl _
  · rw [if_neg c]
    split <;> omega
theorem eq1_01 (x y : Int) : 0 ≤ eq1 x y ∧ eq1 x y ≤ 1 := by
  unfold eq1
  split <;> omega
theorem eq1_ne {x y : Int} (h : x ≠ y) : eq1 x y = 0 := if_neg h
theorem eq1_eq {x y : Int} (h : x = y) : eq1 x y = 1 := if_pos h
/-- three passes are as good as any more -/
theorem pss_three {n : Nat} {f : Nat → Int} (hf : Rts n f) {t U : Int} (ht : 0 ≤ t) (hU : U ≤ 100000) {D : Nat → Int} (h : Dys t U D) {s : Nat} (hs : s < 4) (hs1 : D s = t) (ht2 : t ≤ 100000) : ∀ p, p < 4 → ∀ i, pss n f (3 + i) D p = pss n f 3 D p := by
  obtain ⟨J, hJ⟩ := pss_lim hf ht hU h
  have hle : ∀ k p, p < 4 → pss n f J D p ≤ pss n f k D p := by
    intro k p hp
    by_cases c : k ≤ J
    · have := pss_mono hf D p k (J - k)
      have e : k + (J - k) = J := by omega
      rw [e] at this
      exact this
    · rw [hJ k p (by omega) hp]
      exact Int.le_refl _
  have up : ∀ k p, p < 4 → pss n f k D p = pss n f J D p → pss n f (k + 1) D p = pss n f J D p := by
    intro k p hp he
    have a := hle (k + 1) p hp
    have b := pss_step hf D k p
    omega
  have hb := pss_bro hf ht hU h J
  have hd := pss_dys hf ht hU h J
  have hF4 := fin4_le (pss n f J D)
  have grow : ∀ k, (∃ p, p < 4 ∧ pss n f k D p ≠ pss n f J D p) → ∃ b, b < 4 ∧ pss n f k D b ≠ pss n f J D b ∧ pss n f (k + 1) D b = pss n f J D b := by
    intro k hex
    obtain ⟨b, b1, b2, b3⟩ := least4 (F := pss n f J D) hex
    refine ⟨b, b1, b2, ?_⟩
    rcases hb b b1 with h1 | ⟨l, l1, l2, l3, l4⟩
    · have a := hle k b b1
      have c := pss_mono hf D b 0 k
      rw [Nat.zero_add] at c
      have : pss n f 0 D b = D b := rfl
      omega
    · obtain ⟨f1, f2, f3, f4, f5, f6, f7, f8⟩ := hf.2 l l1
      have ha := hd (f (4 * l)).toNat (by omega)
      obtain ⟨g1, g2, _, _⟩ := go_spec (d := pss n f J D (f (4 * l)).toNat) f5 f6 (by omega) (by omega)
      have hst : pss n f k D (f (4 * l)).toNat = pss n f J D (f (4 * l)).toNat := by
        by_cases c : pss n f k D (f (4 * l)).toNat = pss n f J D (f (4 * l)).toNat
        · exact c
        · have := b3 _ (by omega) c
          unfold brg at l4
          omega
      have hln := psf_line hf ht hU n 0 (pss n f k D) l (pss n f J D (f (4 * l)).toNat) (by omega) (pss_dys hf ht hU h k) (by omega) (by omega) (by omega) (by omega)
      rw [l2] at hln
      have a := hle (k + 1) b b1
      have e : pss n f (k + 1) D = psf f n 0 (pss n f k D) := rfl
      rw [e] at a ⊢
      omega
  have cnt4 : ∀ k : Nat, k ≤ 3 → (k : Int) + 1 ≤ eq4 (pss n f k D) (pss n f J D) := by
    intro k
    induction k with
    | zero =>
      intro _
      have hsJ : pss n f 0 D s = pss n f J D s := by
        have a := hle 0 s hs
        have c := hd s hs
        have : pss n f 0 D s = D s := rfl
        omega
      have z0 := eq1_01 (pss n f 0 D 0) (pss n f J D 0)
      have z1 := eq1_01 (pss n f 0 D 1) (pss n f J D 1)
      have z2 := eq1_01 (pss n f 0 D 2) (pss n f J D 2)
      have z3 := eq1_01 (pss n f 0 D 3) (pss n f J D 3)
      have := eq1_eq hsJ
      unfold eq4
      rcases (by omega : s = 0 ∨ s = 1 ∨ s = 2 ∨ s = 3) with rfl | rfl | rfl | rfl <;> omega
    | succ k ih =>
      intro hk
      have ih := ih (by omega)
      have u0 := eq1_le (up k 0 (by omega))
      have u1 := eq1_le (up k 1 (by omega))
      have u2 := eq1_le (up k 2 (by omega))
      have u3 := eq1_le (up k 3 (by omega))
      unfold eq4 at ih ⊢
      by_cases hex : ∃ p, p < 4 ∧ pss n f k D p ≠ pss n f J D p
      · obtain ⟨b, b1, b2, b3⟩ := grow k hex
        have w1 := eq1_ne b2
        have w2 := eq1_eq b3
        rcases (by omega : b = 0 ∨ b = 1 ∨ b = 2 ∨ b = 3) with rfl | rfl | rfl | rfl <;> omega
      · have all : ∀ p, p < 4 → eq1 (pss n f k D p) (pss n f J D p) = 1 := fun p hp => eq1_eq (Decidable.not_not.mp (fun c => hex ⟨p, hp, c⟩))
        have := all 0 (by omega)
        have := all 1 (by omega)
        have := all 2 (by omega)
        have := all 3 (by omega)
        omega
  have h3 := cnt4 3 (by omega)
  have all3 : ∀ p, p < 4 → pss n f 3 D p = pss n f J D p := by
    unfold eq4 at h3
    intro p hp
    by_cases c : pss n f 3 D p = pss n f J D p
    · exact c
    · have w := eq1_ne c
      have z0 := eq1_01 (pss n f 3 D 0) (pss n f J D 0)
      have z1 := eq1_01 (pss n f 3 D 1) (pss n f J D 1)
      have z2 := eq1_01 (pss n f 3 D 2) (pss n f J D 2)
      have z3 := eq1_01 (pss n f 3 D 3) (pss n f J D 3)
      rcases (by omega : p = 0 ∨ p = 1 ∨ p = 2 ∨ p = 3) with rfl | rfl | rfl | rfl <;> omega
  intro p hp i
  have a := hle (3 + i) p hp
  have c := pss_mono hf D p 3 i
  have d := all3 p hp
  omega
end
section
-- 80
theorem okl {o : Option Nat} {n : Nat} {f : Nat → e_R} {P : Int → w_S → Prop} (h : o = some n) (k : Ok (f n) P) : Ok (o.bind f) P := by rw [h]; exact k
theorem len31 (S : w_S) : e_len Tc S 31 0 = some 140 := rfl
theorem len45 (S : w_S) : e_len Tc S 45 0 = some 4 := rfl
theorem any45 (S : w_S) : e_any Tc S 45 = some 4 := rfl
theorem frb45 : w_frb Tc B_Arrays_fill_45 45 = false := by decide +kernel
theorem wid1 : ((pg_sv.getD 0 []).getD 1 0).toInt = 4 := by decide +kernel
theorem w_arr_arr (S : w_S) (a : Nat) (f g : Nat → Int) : w_arr (w_arr S a f) a g = w_arr S a g := by
  unfold w_arr
  congr
  funext b j
  split
  · rfl
  · next h => exact if_neg h
theorem w_arr_r (S : w_S) (a b : Nat) (f : Nat → Int) : (w_arr S a f).1 b = if b = a then f else S.1 b := by
  funext j
  unfold w_arr
  dsimp only
  split <;> rfl
theorem w_arr_put (S : w_S) (a k : Nat) (f : Nat → Int) (x : Int) : w_put (w_arr S a f) a k x = w_arr S a (pt f k x) := by
  rw [w_put_arr, w_arr_arr]
  congr
  funext j
  rw [w_arr_r, if_pos rfl, pt_at]
theorem w_put_pt (S : w_S) (a k : Nat) (x : Int) : w_put S a k x = w_arr S a (pt (S.1 a) k x) := w_put_arr S a k x
theorem w_arr_self (S : w_S) (a : Nat) : w_arr S a (S.1 a) = S := by
  have : (fun b j => if b = a then S.1 a j else S.1 b j) = S.1 := by
    funext b j
    split
    · next h => rw [h]
    · rfl
  unfold w_arr
  rw [this]
theorem frm.arr {L O : List Nat} {J : List (Nat × Nat)} {S S' : w_S} {a : Nat} {f : Nat → Int} (h : frm L O J S S') (ha : L.contains a = true) : frm L O J S (w_arr S' a f) := ⟨h.1, fun b h1 h2 => by
  rw [w_arr_r, if_neg (by rintro rfl; rw [ha] at h1; cases h1)]
  exact h.2.1 b h1 h2, fun b j h1 h2 => by
  rw [w_arr_r, if_neg (by rintro rfl; rw [ha] at h1; cases h1)]
  exact h.2.2 b j h1 h2⟩
theorem l_fill45 {e : w_E} {N : Nat} {x : Int} : ∀ (k n : Nat) (i : Int) (S : w_S), k < n → 0 ≤ i → i + k = 4 → El_Arrays_fill e N n 0 [x, i, 4] [45] S = some (0, w_arr S 45 (fun j => if i.toNat ≤ j ∧ j < 4 then x else S.1 45 j))
  | 0, n + 1, i, S, h1, h2, h3 => by
    rw [El_Arrays_fill, if_pos (by omega)]
    have : (fun j => if i.toNat ≤ j ∧ j < 4 then x else S.1 45 j) = S.1 45 := by
      funext j
      rw [if_neg (by omega)]
    rw [this, w_arr_self]
  | k + 1, n + 1, i, S, h1, h2, h3 => by
    refine ok_eq ?_
    rw [El_Arrays_fill]
    repeat' (first | with_reducible refine ok_t frb45 ?_ | with_reducible refine okl (len45 _) ?_ | with_reducible refine ok_nb (by omega) ?_ | with_reducible refine ok_ib (by omega) ?_ | with_reducible refine ok_t (by omega) ?_ | with_reducible refine ok_e (by omega) ?_ | with_reducible refine ok_if (fun h => ?_) (fun h => ?_) | with_reducible refine ok_s ?_ | with_reducible refine ok_b ?_)
    refine ok_of (l_fill45 k n (i + 1) _ (by omega) (by omega) (by omega)) ⟨rfl, ?_⟩
    rw [w_put_pt, w_arr_arr]
    congr
    funext j
    rw [w_arr_r, if_pos rfl, pt_at]
    (repeat' split) <;> first | rfl | omega
theorem x_fill45 {e : w_E} {N : Nat} {x : Int} {S : w_S} (hN : 1000 ≤ N) : E_Arrays_fill e N x 45 S = some (0, w_arr S 45 (fun j => if j < 4 then x else S.1 45 j)) := by
  refine ok_eq ?_
  unfold E_Arrays_fill
  repeat' (first | with_reducible refine okl (any45 _) ?_ | with_reducible refine ok_nb (by omega) ?_ | with_reducible refine ok_ib (by omega) ?_ | with_reducible refine ok_t (by omega) ?_ | with_reducible refine ok_e (by omega) ?_ | with_reducible refine ok_if (fun h => ?_) (fun h => ?_) | with_reducible refine ok_s ?_ | with_reducible refine ok_b ?_)
  have h := l_fill45 (e := e) (N := N) (x := x) 4 N 0 S (by omega) (by omega) (by omega)
  refine ok_of h ⟨rfl, ?_⟩
  congr
  funext j
  simp
theorem l_arr2 {e : w_E} {N : Nat} {x2 x3 x4 x5 x7 x8 : Int} {S : w_S} {P : Int → w_S → Prop} {m : Nat} (h4 : 0 ≤ x4 ∧ x4 ≤ 100) (h5 : 0 ≤ x5 ∧ x5 ≤ 100) (h7 : 0 ≤ x7 ∧ x7 ≤ 3) (hd : 0 ≤ S.1 31 (x5 + 3).toNat ∧ S.1 31 (x5 + 3).toNat ≤ 9) : ∀ (k n : Nat) (x6 x9 : Int), x9 + k = 7 → 0 ≤ x9 → 0 ≤ x6 → x6 + k ≤ 1000000000 → m + k + 1 ≤ n → (∀ n', m ≤ n' → Ok (El_RuleBook_arrivalDay e N n' 1 [x2, x3, x4 + 1] [] (w_put S 45 x7.toNat (min (S.1 45 x7.toNat) (gon x8 k x6 + S.1 31 (x5 + 3).toNat)))) P) → Ok (El_RuleBook_arrivalDay e N n 2 [x2, x3, x4, x5, x6, x7, x8, x9] [] S) P := by
  intro k
  induction k with
  | zero =>
    intro n x6 x9 h1 h2 h3 h6 hn hP
    obtain ⟨n, rfl⟩ : ∃ q, n = q + 1 := ⟨n - 1, by omega⟩
    rw [gon] at hP
    rw [El_RuleBook_arrivalDay]
    repeat' (first | with_reducible refine okl (len31 _) ?_ | with_reducible refine ok_nb (by omega) ?_ | with_reducible refine ok_ib (by omega) ?_ | with_reducible refine ok_t (by omega) ?_ | with_reducible refine ok_e (by omega) ?_ | with_reducible refine ok_if (fun h => ?_) (fun h => ?_) | with_reducible refine ok_s ?_ | with_reducible refine ok_b ?_)
    exact hP n (by omega)
  | succ k ih =>
    intro n x6 x9 h1 h2 h3 h6 hn hP
    obtain ⟨n, rfl⟩ : ∃ q, n = q + 1 := ⟨n - 1, by omega⟩
    rw [El_RuleBook_arrivalDay]
    rw [gon] at hP
    by_cases hb : w_and (w_shr x8 (w_rem x6 7)) 1 ≠ 0
    · rw [if_pos hb] at hP
      refine ok_e (by omega) (ok_t hb ?_)
      repeat' (first | with_reducible refine okl (len31 _) ?_ | with_reducible refine ok_nb (by omega) ?_ | with_reducible refine ok_ib (by omega) ?_ | with_reducible refine ok_t (by omega) ?_ | with_reducible refine ok_e (by omega) ?_ | with_reducible refine ok_if (fun h => ?_) (fun h => ?_) | with_reducible refine ok_s ?_ | with_reducible refine ok_b ?_)
      exact hP n (by omega)
    · rw [if_neg hb] at hP
      refine ok_e (by omega) (ok_e hb ?_)
      repeat' (first | with_reducible refine ok_nb (by omega) ?_ | with_reducible refine ok_ib (by omega) ?_ | with_reducible refine ok_t (by omega) ?_ | with_reducible refine ok_e (by omega) ?_ | with_reducible refine ok_if (fun h => ?_) (fun h => ?_) | with_reducible refine ok_s ?_ | with_reducible refine ok_b ?_)
      exact ih n (x6 + 1) (x9 + 1) (by omega) (by omega) (by omega) (by omega) (by omega) hP
theorem l_arr1 {e : w_E} {N : Nat} {x2 x3 : Int} {f : Nat → Int} {nl : Nat} {t U : Int} {P : Int → w_S → Prop} {m : Nat} (hf : Rts nl f) (ht : 0 ≤ t) (hU : U ≤ 100000) (hx : 0 ≤ x3 ∧ x3 ≤ 3) : ∀ (k n l : Nat) (S : w_S), l + k = nl → S.1 31 = f → S.1 35 1 = nl → Dys t U (S.1 45) → m + 10 * k + 5 ≤ n → (∀ n', m ≤ n' → Ok (El_RuleBook_arrivalDay e N n' 0 [x2, x3 + 1] [] (w_arr S 45 (psf f k l (S.1 45)))) P) → Ok (El_RuleBook_arrivalDay e N n 1 [x2, x3, l] [] S) P
  | 0, n + 1, l, S, h1, h2, h3, h4, hn, hP => by
    rw [El_RuleBook_arrivalDay]
    rw [psf, w_arr_self] at hP
    repeat' (first | with_reducible refine ok_nb (by omega) ?_ | with_reducible refine ok_ib (by omega) ?_ | with_reducible refine ok_t (by omega) ?_ | with_reducible refine ok_e (by omega) ?_ | with_reducible refine ok_if (fun h => ?_) (fun h => ?_) | with_reducible refine ok_s ?_ | with_reducible refine ok_b ?_)
    exact hP n (by omega)
  | k + 1, n + 1, l, S, h1, h2, h3, h4, hn, hP => by
    obtain ⟨f1, f2, f3, f4, f5, f6, f7, f8⟩ := hf.2 l (by omega)
    have hn12 := hf.1
    have e1 : ((l : Int) * 4).toNat = 4 * l := by omega
    have e2 : ((l : Int) * 4 + 1).toNat = 4 * l + 1 := by omega
    have e3 : ((l : Int) * 4 + 2).toNat = 4 * l + 2 := by omega
    have e4 : ((l : Int) * 4 + 3).toNat = 4 * l + 3 := by omega
    have e5 : (l : Int) + 1 = ((l + 1 : Nat) : Int) := by omega
    rw [psf] at hP
    rw [El_RuleBook_arrivalDay]
    simp only [wid1, h2, e1, e2, e3]
    have ha := h4 (f (4 * l)).toNat (by omega)
    have hb := h4 (f (4 * l + 1)).toNat (by omega)
    have h44 := fin4_le (S.1 45)
    repeat' (first | with_reducible refine okl (len31 _) ?_ | with_reducible refine ok_nb (by omega) ?_ | with_reducible refine ok_ib (by omega) ?_ | with_reducible refine ok_t (by omega) ?_ | with_reducible refine ok_e (by omega) ?_ | with_reducible refine ok_if (fun h => ?_) (fun h => ?_) | with_reducible refine ok_s ?_ | with_reducible refine ok_b ?_)
    · rw [e5]
      refine l_arr1 (m := m) hf ht hU hx k n (l + 1) S (by omega) h2 h3 h4 (by omega) ?_
      have : rlx f l (S.1 45) = S.1 45 := by unfold rlx; rw [if_pos h]
      rw [this] at hP
      exact hP
    · refine l_arr2 (m := m + 10 * k + 5) (by omega) (by omega) (by omega) (by rw [h2, e4]; omega) 7 n _ 0 (by omega) (by omega) (by omega) (by omega) (by omega) ?_
      intro n' hn'
      rw [h2, e4, e5, w_put_pt]
      have er : pt (S.1 45) (f (4 * l + 1)).toNat (min (S.1 45 (f (4 * l + 1)).toNat) (gon (f (4 * l + 2)) 7 (S.1 45 (f (4 * l)).toNat) + f (4 * l + 3))) = rlx f l (S.1 45) := by
        unfold rlx brg
        rw [if_neg h]
      rw [er]
      refine l_arr1 (m := m) hf ht hU hx k n' (l + 1) _ (by omega) (by rw [w_arr_r]; exact h2) (by rw [w_arr_r]; exact h3) (by rw [w_arr_r, if_pos rfl]; exact rlx_dys hf (by omega) h4 ht hU) (by omega) ?_
      intro n'' hn''
      rw [w_arr_arr, w_arr_r, if_pos rfl]
      exact hP n'' hn''
theorem l_arr0 {e : w_E} {N : Nat} {x2 : Int} {f : Nat → Int} {nl : Nat} {t U : Int} (hf : Rts nl f) (ht : 0 ≤ t) (hU : U ≤ 100000) (hx2 : 0 ≤ x2 ∧ x2 ≤ 3) : ∀ (k n : Nat) (x3 : Int) (S : w_S), x3 + k = 4 → 1 ≤ x3 → S.1 31 = f → S.1 35 1 = nl → Dys t U (S.1 45) → S.1 27 1 = t → t ≤ 100000 → 200 * k + 5 ≤ n → El_RuleBook_arrivalDay e N n 0 [x2, x3] [] S = some ((if pss nl f k (S.1 45) x2.toNat = 1000000000 then t + 14 else pss nl f k (S.1 45) x2.toNat), w_arr S 45 (pss nl f k (S.1 45)))
  | 0, n + 1, x3, S, h1, h2, h3, h4, h5, h6, h7, hn => by
    refine ok_eq ?_
    rw [El_RuleBook_arrivalDay, pss, w_arr_self, h6]
    repeat' (first | with_reducible refine ok_nb (by omega) ?_ | with_reducible refine ok_ib (by omega) ?_ | with_reducible refine ok_t (by omega) ?_ | with_reducible refine ok_e (by omega) ?_ | with_reducible refine ok_if (fun h => ?_) (fun h => ?_) | with_reducible refine ok_s ?_ | with_reducible refine ok_b ?_)
    · rw [if_neg h]
      exact ⟨rfl, rfl⟩
    · rw [if_pos (by omega)]
      exact ⟨rfl, rfl⟩
  | k + 1, n + 1, x3, S, h1, h2, h3, h4, h5, h6, h7, hn => by
    have hn12 := hf.1
    refine ok_eq ?_
    rw [El_RuleBook_arrivalDay]
    repeat' (first | with_reducible refine ok_nb (by omega) ?_ | with_reducible refine ok_ib (by omega) ?_ | with_reducible refine ok_t (by omega) ?_ | with_reducible refine ok_e (by omega) ?_ | with_reducible refine ok_if (fun h => ?_) (fun h => ?_) | with_reducible refine ok_s ?_ | with_reducible refine ok_b ?_)
    have e0 : (0 : Int) = ((0 : Nat) : Int) := rfl
    rw [e0]
    refine l_arr1 (m := 200 * k + 5) hf ht hU (by omega) nl n 0 S (by omega) h3 h4 h5 (by omega) ?_
    intro n' hn'
    have hsh : ∀ j, pss nl f j (psf f nl 0 (S.1 45)) = pss nl f (j + 1) (S.1 45) := by
      intro j
      induction j with
      | zero => rfl
      | succ j ih => rw [pss, ih]; rfl
    have := l_arr0 (e := e) (N := N) hf ht hU hx2 k n' (x3 + 1) (w_arr S 45 (psf f nl 0 (S.1 45))) (by omega) (by omega) (by rw [w_arr_r]; exact h3) (by rw [w_arr_r]; exact h4) (by rw [w_arr_r, if_pos rfl]; exact psf_dys hf ht hU nl 0 _ (by omega) h5) (by rw [w_arr_r]; exact h6) h7 (by omega)
    refine ok_of this ?_
    rw [w_arr_r, if_pos rfl, w_arr_arr, hsh k]
    exact ⟨rfl, rfl⟩
/-- the first days: today at one place -/
def D0 (t : Int) (s : Nat) (p : Nat) : Int := if p = s then t else 1000000000
theorem D0_dys {t U : Int} {s : Nat} (h : t ≤ U) : Dys t U (D0 t s) := fun p hp => by
  have := fin4_le (D0 t s)
  by_cases e : p = s
  · have hd : D0 t s p = t := if_pos e
    rw [hd]
    omega
  · exact Or.inl (if_neg e)
end
