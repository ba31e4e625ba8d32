section
-- 93
theorem cld_front {S R : w_S} (h : RelCl S R) (a : Int) (k : Nat) : cnt (fun j => decide (a < S.1 28 j) && decide (S.1 28 j ≤ a + (k + 1 : Nat))) 0 (S.1 27 4).toNat = bi (cld S (a + 1)) + cnt (fun j => decide (a + 1 < S.1 28 j) && decide (S.1 28 j ≤ a + 1 + (k : Nat))) 0 (S.1 27 4).toNat := by
  rw [← cld_cnt h, ← cnt_split]
  · refine cnt_congr _ _ (fun j _ _ => ?_)
    rw [Bool.eq_iff_iff]
    simp only [Bool.and_eq_true, Bool.or_eq_true, decide_eq_true_eq]
    omega
  · intro j hj
    simp only [decide_eq_true_eq] at hj
    rw [Bool.eq_false_iff]
    intro hc
    simp only [Bool.and_eq_true, decide_eq_true_eq] at hc
    omega
theorem cld_le {S R : w_S} (h : RelCl S R) : ∀ (k : Nat) (a : Int), 0 ≤ cnt (fun j => decide (a < S.1 28 j) && decide (S.1 28 j ≤ a + (k : Nat))) 0 (S.1 27 4).toNat ∧ cnt (fun j => decide (a < S.1 28 j) && decide (S.1 28 j ≤ a + (k : Nat))) 0 (S.1 27 4).toNat ≤ k
  | 0, a => by
    have hz : cnt (fun j => decide (a < S.1 28 j) && decide (S.1 28 j ≤ a + ((0 : Nat) : Int))) 0 (S.1 27 4).toNat = cnt (fun _ => false) 0 (S.1 27 4).toNat := cnt_congr _ _ (fun j _ _ => by
      rw [Bool.eq_false_iff]
      intro hc
      simp only [Bool.and_eq_true, decide_eq_true_eq] at hc
      omega)
    have z : ∀ (m d : Nat), cnt (fun _ => false) d m = 0 := by
      intro m
      induction m with
      | zero => intro d; rfl
      | succ m ih => intro d; rw [cnt, ih]; rfl
    rw [hz, z]
    omega
  | k + 1, a => by
    have ih := cld_le h k (a + 1)
    rw [cld_front h a k]
    have : 0 ≤ bi (cld S (a + 1)) ∧ bi (cld S (a + 1)) ≤ 1 := by
      unfold bi
      split <;> omega
    omega
theorem l_fine {e : w_E} {N : Nat} {S R R2 : w_S} {x l : Int} {P : Int → w_S → Prop} {m : Nat} (hN : 1000 ≤ N) (h : RelCl S R2) (ht : R2.1 129 12 = S.1 27 1) (ht1 : S.1 27 1 ≤ 50000) : ∀ (k n : Nat) (days a : Int), a + k = S.1 27 1 → 0 ≤ days → 0 ≤ a → days + k ≤ 100000 → m + k ≤ n → (∀ n', m ≤ n' → Ok (El_R_doBack e N n' 0 [x, l, days + k - cnt (fun j => decide (a < S.1 28 j) && decide (S.1 28 j ≤ a + (k : Nat))) 0 (S.1 27 4).toNat, S.1 27 1 + 1] [] R2) P) → Ok (El_R_doBack e N n 0 [x, l, days, a + 1] [] R2) P := by
  intro k
  have c1 := fun d => x_isShut (e := e) (N := N) (R := R2) (x1 := d) hN (by rw [h.1]; exact ⟨h.2.1, h.2.2.1⟩)
  induction k with
  | zero =>
    intro n days a hk hd ha hdk hn hP
    have hz := cld_le h 0 a
    have e1 : days + ((0 : Nat) : Int) - cnt (fun j => decide (a < S.1 28 j) && decide (S.1 28 j ≤ a + ((0 : Nat) : Int))) 0 (S.1 27 4).toNat = days := by omega
    have e2 : S.1 27 1 + 1 = a + 1 := by omega
    have := hP n (by omega)
    rw [e1, e2] at this
    exact this
  | succ k ih =>
    intro n days a hk hd ha hdk hn hP
    obtain ⟨n, rfl⟩ : ∃ q, n = q + 1 := ⟨n - 1, by omega⟩
    rw [cld_front h a k] at hP
    have hb := cld_R h (a + 1)
    rw [El_R_doBack]
    cases hc : cld S (a + 1) with
    | true =>
      rw [hc] at hb hP
      have b1 := bi_pos hb
      have e3 : days + ((k + 1 : Nat) : Int) - (bi true + cnt (fun j => decide (a + 1 < S.1 28 j) && decide (S.1 28 j ≤ a + 1 + (k : Nat))) 0 (S.1 27 4).toNat) = days + k - cnt (fun j => decide (a + 1 < S.1 28 j) && decide (S.1 28 j ≤ a + 1 + (k : Nat))) 0 (S.1 27 4).toNat := by
        have : bi true = 1 := rfl
        omega
      rw [e3] at hP
      repeat' (first | (with_reducible refine ok_of (c1 _) ?_; dsimp only) | with_reducible refine ok_nb (by omega) ?_ | with_reducible refine ok_ib (by omega) ?_ | with_reducible refine ok_t (by omega) ?_ | with_reducible refine ok_e (by omega) ?_ | with_reducible refine ok_if (fun h => ?_) (fun h => ?_) | with_reducible refine ok_s ?_ | with_reducible refine ok_b ?_)
      rw [Int.add_zero]
      exact ih n days (a + 1) (by omega) hd (by omega) (by omega) (by omega) hP
    | false =>
      rw [hc] at hb hP
      have b1 := bi_neg hb
      have e3 : days + ((k + 1 : Nat) : Int) - (bi false + cnt (fun j => decide (a + 1 < S.1 28 j) && decide (S.1 28 j ≤ a + 1 + (k : Nat))) 0 (S.1 27 4).toNat) = days + 1 + k - cnt (fun j => decide (a + 1 < S.1 28 j) && decide (S.1 28 j ≤ a + 1 + (k : Nat))) 0 (S.1 27 4).toNat := by
        have : bi false = 0 := rfl
        omega
      rw [e3] at hP
      repeat' (first | (with_reducible refine ok_of (c1 _) ?_; dsimp only) | with_reducible refine ok_nb (by omega) ?_ | with_reducible refine ok_ib (by omega) ?_ | with_reducible refine ok_t (by omega) ?_ | with_reducible refine ok_e (by omega) ?_ | with_reducible refine ok_if (fun h => ?_) (fun h => ?_) | with_reducible refine ok_s ?_ | with_reducible refine ok_b ?_)
      exact ih n (days + 1) (a + 1) (by omega) (by omega) (by omega) (by omega) (by omega) hP
/-- the copy's loan ends with a fine -/
theorem q_back {S R R2 : w_S} {x p t fi : Int} (h : RelL S R t) (ht : 0 ≤ t) (hx : 1 ≤ x ∧ x ≤ S.1 62 3) (hs : S.1 65 x.toNat = 1) (hf : 0 ≤ fi ∧ fi ≤ 99999) (hr : frm [175] [] [] R R2) (hr2 : ∀ k, k ≠ x.toNat → R2.1 175 k = R.1 175 k) : RelLx (w_put (w_put S 48 (S.1 66 x.toNat).toNat (S.1 48 (S.1 66 x.toNat).toNat + fi)) 56 (S.1 67 x.toNat).toNat 1) (w_put (w_put R2 168 (S.1 66 x.toNat).toNat (S.1 48 (S.1 66 x.toNat).toNat + fi)) 210 (S.1 67 x.toNat).toNat 1) (t + 1) x := by
  obtain ⟨hT, hP, hQ, hG, hRd, hLn, hBk, hCs, hCd, hLo, hCl, hRu⟩ := h
  have hk := hCd x.toNat (by omega) (by omega) (by omega)
  obtain ⟨z1, z2, z3, z4, z5, z6⟩ := hk.2.2.2.2.2.2.2.2.2.1 hs
  have hff : frm [48, 56] [] [] S (w_put (w_put S 48 (S.1 66 x.toNat).toNat (S.1 48 (S.1 66 x.toNat).toNat + fi)) 56 (S.1 67 x.toNat).toNat 1) := by repeat (first | exact frm.refl _ _ _ _ | refine frm.put ?_ rfl | refine frm.puto ?_ rfl rfl | refine frm.arr ?_ rfl)
  have hgg : frm [168, 175, 210] [] [] R (w_put (w_put R2 168 (S.1 66 x.toNat).toNat (S.1 48 (S.1 66 x.toNat).toNat + fi)) 210 (S.1 67 x.toNat).toNat 1) := by
    refine frm.put (frm.put (hr.weak rfl) rfl) rfl
  have e2 : ∀ b, b ≠ 175 → R2.1 b = R.1 b := fun b hb => hr.2.1 b (by simp [hb]) rfl
  refine ⟨hT.fr hff hgg rfl, hP.fr hff hgg rfl, hG.fr hff hgg rfl, ?_, ?_, hBk.fr hff hgg rfl, hCs.fr hff hgg rfl, ?_, ?_, hCl.fr hff hgg rfl, hRu.fr hff hgg rfl⟩
  · obtain ⟨r1, r2, r3, r4⟩ := hRd
    simp only [RelRd, w_put_r, w_arr_r, reduceIte, Nat.reduceEqDiff, pt_at, e2 129 (by decide), e2 167 (by decide), e2 168 (by decide)]
    refine ⟨r1, r2, r3, fun k a b => ?_⟩
    have := r4 k a b
    by_cases e : k = (S.1 66 x.toNat).toNat
    · rw [e] at this
      simp only [if_pos e]
      rw [e]
      (repeat' apply And.intro) <;> (try simp only [reduceIte]) <;> first | trivial | omega | (intro hh; omega)
    · simp only [if_neg e]
      omega
  · obtain ⟨l1, l2, l3, l4⟩ := hLn
    simp only [RelLn, w_put_r, w_arr_r, reduceIte, Nat.reduceEqDiff, pt_at, e2 129 (by decide), e2 204 (by decide), e2 205 (by decide), e2 206 (by decide), e2 207 (by decide), e2 208 (by decide), e2 209 (by decide), e2 210 (by decide)]
    refine ⟨l1, l2, l3, fun k a b => ?_⟩
    have hk2 := l4 k a b
    by_cases e : k = (S.1 67 x.toNat).toNat
    · simp only [if_pos e]
      obtain ⟨⟨m1, m2, m3, m4, m5, m6, m7⟩, n1, n2, n3, n4, n5, n6, n7, n8, n9, n10, n11, n12, n13⟩ := hk2
      exact ⟨⟨m1, m2, m3, m4, m5, m6, trivial⟩, n1, n2, n3, n4, n5, n6, n7, n8, n9, n10, n11, n12, Or.inr trivial⟩
    · simp only [if_neg e]
      exact hk2
  · simp only [RelCd, w_put_r, w_arr_r, reduceIte, Nat.reduceEqDiff, pt_at, e2 171 (by decide), e2 172 (by decide), e2 173 (by decide), e2 174 (by decide), e2 177 (by decide)]
    intro k a b c
    rw [hr2 k (by omega)]
    obtain ⟨m1, m7, m8, m9, m10, m11, m12, m13, m14, m15, m16⟩ := hCd k a b (by omega)
    refine ⟨m1, m7, m8, m9, m10, m11, m12, m13, m14, fun hh => ?_, m16⟩
    obtain ⟨y1, y2, y3, y4, y5, y6⟩ := m15 hh
    refine ⟨y1, y2, y3, y4, y5, ?_⟩
    rw [if_neg]
    · exact y6
    · intro q
      rw [q] at y4
      omega
  · simp only [RelLo, w_put_r, w_arr_r, reduceIte, Nat.reduceEqDiff, pt_at]
    intro l a b c
    have hne : l ≠ (S.1 67 x.toNat).toNat := by
      intro q
      rw [if_pos q] at c
      omega
    rw [if_neg hne] at c
    obtain ⟨y1, y2, y3⟩ := hLo l a b c
    refine ⟨fun q => ?_, y2, y3⟩
    rw [q] at y3
    omega
theorem t_backc {e : w_E} {N : Nat} {S R R2 : w_S} {x p t : Int} (hN : 100000 ≤ N) (h : RelL S R t) (ht : 0 ≤ t) (ht2 : t ≤ 512) (hx : 1 ≤ x ∧ x ≤ S.1 62 3) (hs : S.1 65 x.toNat = 1) (hp : 0 ≤ p ∧ p ≤ 3) (hr : frm [175] [] [] R R2) (hr2 : ∀ k, k ≠ x.toNat → R2.1 175 k = R.1 175 k) (hr3 : R2.1 175 x.toNat = p) : Ok (E_Lending_takeBack e N x p S) (fun y S1 => Ok (E_R_doBack e N x R2) (fun y' R1 => y' = y ∧ 0 ≤ y ∧ frm LC LO LJ S S1 ∧ frm LCr LOr LJr R R1 ∧ RelL S1 R1 (t + 1))) := by
  have h0 := h
  obtain ⟨hT, hP, hQ, hG, hRd, hLn, hBk, hCs, hCd, hLo, hCl, hRu⟩ := h
  have hk := hCd x.toNat (by omega) (by omega) (by omega)
  obtain ⟨⟨m1, m2, m3, _⟩, _⟩ := id hk
  obtain ⟨z1, z2, z3, z4, z5, z6⟩ := hk.2.2.2.2.2.2.2.2.2.1 hs
  have zh := hk.2.2.2.2.1
  clear hk
  obtain ⟨⟨n1, n2, n3, n4, n5, n6, n7⟩, o1, o2, o3, o4, o5, o6, o7, o8, o9, o10, o11, o12, o13⟩ := hLn.2.2.2 (S.1 67 x.toNat).toNat (by omega) (by omega)
  obtain ⟨u1, u2, u3, u4, u5, u6⟩ := hRd.2.2.2 (S.1 66 x.toNat).toNat (by omega) (by omega)
  obtain ⟨t1, t2, t3, _⟩ := id hT
  have hloans := hLn.2.2.1
  have hcop := hCs.2.2.1
  have hc1 := hCs.1
  have hrd := hRd.2.2.1
  have e2 : ∀ b, b ≠ 175 → R2.1 b = R.1 b := fun b hb => hr.2.1 b (by simp [hb]) rfl
  have hCl2 : RelCl S R2 := hCl.fr (frm.refl [] [] [] S) hr rfl
  have kc := x_closedBetween (e := e) (N := N) (S := S) (x1 := S.1 52 (S.1 67 x.toNat).toNat) (x2 := S.1 27 1) (by omega) ⟨hCl.2.1, hCl.2.2.1⟩
  -- the fine that both reckon
  have hpr : ∀ L : Int, 0 ≤ L → L ≤ 50000 → 0 ≤ L * S.1 54 (S.1 67 x.toNat).toNat ∧ L * S.1 54 (S.1 67 x.toNat).toNat ≤ 49950000 := by
    intro L a b
    refine ⟨Int.mul_nonneg a o9, ?_⟩
    have q1 := Int.mul_le_mul b o10 o9 (by omega : (0 : Int) ≤ 50000)
    omega
  have fineC : ∃ fi : Int, 0 ≤ fi ∧ fi ≤ 99999 ∧ E_Lending_fineOf e N (S.1 67 x.toNat) S = some (fi, S) ∧ ∀ P, Ok (E_R_settle e N x (w_put (w_put R2 168 (S.1 66 x.toNat).toNat (S.1 48 (S.1 66 x.toNat).toNat + fi)) 210 (S.1 67 x.toNat).toNat 1)) (fun _ R1 => P fi R1) → Ok (E_R_doBack e N x R2) P := by
    have ent : ∀ P, Ok (El_R_doBack e N N 0 [x, S.1 67 x.toNat, 0, S.1 52 (S.1 67 x.toNat).toNat + 1] [] R2) P → Ok (E_R_doBack e N x R2) P := by
      intro P hP
      unfold E_R_doBack
      rw [e2 129 (by decide), e2 171 (by decide), e2 173 (by decide), e2 206 (by decide), m1, m3, n3]
      repeat' (first | with_reducible refine ok_nb (by omega) ?_ | with_reducible refine ok_ib (by omega) ?_ | with_reducible refine ok_t (by omega) ?_ | with_reducible refine ok_e (by omega) ?_ | with_reducible refine ok_if (fun h => ?_) (fun h => ?_) | with_reducible refine ok_s ?_ | with_reducible refine ok_b ?_)
      exact hP
    have ext : ∀ (L : Int) (n : Nat) (P : Int → w_S → Prop), 1 ≤ n → 0 ≤ L → L ≤ 50000 → Ok (E_R_settle e N x (w_put (w_put R2 168 (S.1 66 x.toNat).toNat (S.1 48 (S.1 66 x.toNat).toNat + min (S.1 55 (S.1 67 x.toNat).toNat) (L * S.1 54 (S.1 67 x.toNat).toNat))) 210 (S.1 67 x.toNat).toNat 1)) (fun _ R1 => P (min (S.1 55 (S.1 67 x.toNat).toNat) (L * S.1 54 (S.1 67 x.toNat).toNat)) R1) → ∀ d, S.1 27 1 < d → Ok (El_R_doBack e N n 0 [x, S.1 67 x.toNat, L, d] [] R2) P := by
      intro L n P hn hL hL2 hP d hd
      obtain ⟨n, rfl⟩ : ∃ q, n = q + 1 := ⟨n - 1, by omega⟩
      have hb := hpr L hL hL2
      rw [El_R_doBack]
      rw [e2 129 (by decide), e2 168 (by decide), e2 205 (by decide), e2 208 (by decide), e2 209 (by decide), t3, n1, n5, n6, z5, u4]
      generalize hpd : L * S.1 54 (S.1 67 x.toNat).toNat = pd at *
      repeat' (first | with_reducible refine ok_nb (by omega) ?_ | with_reducible refine ok_ib (by omega) ?_ | with_reducible refine ok_t (by omega) ?_ | with_reducible refine ok_e (by omega) ?_ | with_reducible refine ok_if (fun h => ?_) (fun h => ?_) | with_reducible refine ok_s ?_ | with_reducible refine ok_b ?_)
      · have em : min (S.1 55 (S.1 67 x.toNat).toNat) pd = pd := by omega
        rw [em] at hP
        exact hP.mono (fun y R1 q => ok_s q)
      · have em : min (S.1 55 (S.1 67 x.toNat).toNat) pd = S.1 55 (S.1 67 x.toNat).toNat := by omega
        rw [em] at hP
        exact hP.mono (fun y R1 q => ok_s q)
    by_cases hl : S.1 52 (S.1 67 x.toNat).toNat < S.1 27 1
    · obtain ⟨k, hkk⟩ : ∃ k : Nat, S.1 52 (S.1 67 x.toNat).toNat + (k : Int) = S.1 27 1 := ⟨(S.1 27 1 - S.1 52 (S.1 67 x.toNat).toNat).toNat, by omega⟩
      have hle := cld_le hCl k (S.1 52 (S.1 67 x.toNat).toNat)
      rw [hkk] at hle
      have hb := hpr (S.1 27 1 - S.1 52 (S.1 67 x.toNat).toNat - cnt (fun j => decide (S.1 52 (S.1 67 x.toNat).toNat < S.1 28 j) && decide (S.1 28 j ≤ S.1 27 1)) 0 (S.1 27 4).toNat) (by omega) (by omega)
      refine ⟨min (S.1 55 (S.1 67 x.toNat).toNat) ((S.1 27 1 - S.1 52 (S.1 67 x.toNat).toNat - cnt (fun j => decide (S.1 52 (S.1 67 x.toNat).toNat < S.1 28 j) && decide (S.1 28 j ≤ S.1 27 1)) 0 (S.1 27 4).toNat) * S.1 54 (S.1 67 x.toNat).toNat), by omega, by omega, ?_, fun P hP => ?_⟩
      · refine ok_eq ?_
        unfold E_Lending_fineOf
        generalize hpd : (S.1 27 1 - S.1 52 (S.1 67 x.toNat).toNat - cnt (fun j => decide (S.1 52 (S.1 67 x.toNat).toNat < S.1 28 j) && decide (S.1 28 j ≤ S.1 27 1)) 0 (S.1 27 4).toNat) * S.1 54 (S.1 67 x.toNat).toNat = pd at *
        by_cases hz : S.1 27 1 - S.1 52 (S.1 67 x.toNat).toNat - cnt (fun j => decide (S.1 52 (S.1 67 x.toNat).toNat < S.1 28 j) && decide (S.1 28 j ≤ S.1 27 1)) 0 (S.1 27 4).toNat = 0
        · have hp0 : pd = 0 := by rw [← hpd, hz, Int.zero_mul]
          repeat' (first | (with_reducible refine ok_of kc ?_; dsimp only) | with_reducible refine ok_nb (by omega) ?_ | with_reducible refine ok_ib (by omega) ?_ | with_reducible refine ok_t (by omega) ?_ | with_reducible refine ok_e (by omega) ?_ | with_reducible refine ok_if (fun h => ?_) (fun h => ?_) | with_reducible refine ok_s ?_ | with_reducible refine ok_b ?_)
          exact ⟨by omega, rfl⟩
        · repeat' (first | (with_reducible refine ok_of kc ?_; dsimp only; rw [hpd]) | with_reducible refine ok_nb (by omega) ?_ | with_reducible refine ok_ib (by omega) ?_ | with_reducible refine ok_t (by omega) ?_ | with_reducible refine ok_e (by omega) ?_ | with_reducible refine ok_if (fun h => ?_) (fun h => ?_) | with_reducible refine ok_s ?_ | with_reducible refine ok_b ?_)
          exact ⟨rfl, rfl⟩
      · refine ent P ?_
        refine l_fine (R := R) (m := 1) (by omega) hCl2 (by rw [e2 129 (by decide)]; exact t3) t2 k N 0 (S.1 52 (S.1 67 x.toNat).toNat) hkk (by omega) (by omega) (by omega) (by omega) (fun n' hn' => ?_)
        rw [hkk]
        have el : 0 + (k : Int) - cnt (fun j => decide (S.1 52 (S.1 67 x.toNat).toNat < S.1 28 j) && decide (S.1 28 j ≤ S.1 27 1)) 0 (S.1 27 4).toNat = S.1 27 1 - S.1 52 (S.1 67 x.toNat).toNat - cnt (fun j => decide (S.1 52 (S.1 67 x.toNat).toNat < S.1 28 j) && decide (S.1 28 j ≤ S.1 27 1)) 0 (S.1 27 4).toNat := by omega
        rw [el]
        exact ext _ n' P (by omega) (by omega) (by omega) hP _ (by omega)
    · have hle := cnt_le (fun j => decide (S.1 52 (S.1 67 x.toNat).toNat < S.1 28 j) && decide (S.1 28 j ≤ S.1 27 1)) (S.1 27 4).toNat 0
      have hcl2 := hCl.2.2.1
      refine ⟨0, by omega, by omega, ?_, fun P hP => ?_⟩
      · refine ok_eq ?_
        unfold E_Lending_fineOf
        repeat' (first | (with_reducible refine ok_of kc ?_; dsimp only) | with_reducible refine ok_nb (by omega) ?_ | with_reducible refine ok_ib (by omega) ?_ | with_reducible refine ok_t (by omega) ?_ | with_reducible refine ok_e (by omega) ?_ | with_reducible refine ok_if (fun h => ?_) (fun h => ?_) | with_reducible refine ok_s ?_ | with_reducible refine ok_b ?_)
        exact ⟨rfl, rfl⟩
      · refine ent P ?_
        have ez : min (S.1 55 (S.1 67 x.toNat).toNat) (0 * S.1 54 (S.1 67 x.toNat).toNat) = 0 := by
          rw [Int.zero_mul]
          omega
        refine ext 0 N P (by omega) (by omega) (by omega) ?_ _ (by omega)
        rw [ez]
        exact hP
  obtain ⟨fi, f1, f2, f3, f4⟩ := fineC
  have hX := q_back (p := p) h0 ht hx hs ⟨f1, f2⟩ hr hr2
  have hff : frm [48, 56] [] [] S (w_put (w_put S 48 (S.1 66 x.toNat).toNat (S.1 48 (S.1 66 x.toNat).toNat + fi)) 56 (S.1 67 x.toNat).toNat 1) := by repeat (first | exact frm.refl _ _ _ _ | refine frm.put ?_ rfl | refine frm.puto ?_ rfl rfl | refine frm.arr ?_ rfl)
  have hgg : frm [168, 175, 210] [] [] R (w_put (w_put R2 168 (S.1 66 x.toNat).toNat (S.1 48 (S.1 66 x.toNat).toNat + fi)) 210 (S.1 67 x.toNat).toNat 1) := frm.put (frm.put (hr.weak rfl) rfl) rfl
  have hcx := hCs.2.2.2 x.toNat (by omega) (by omega)
  have ts := t_settle (e := e) (N := N) (x := x) (p := p) (by omega) hX.1 hX.2.1 (hQ.fr hff hgg rfl) (by omega) hp (by simp only [w_put_r, w_arr_r, reduceIte, Nat.reduceEqDiff, pt_at]; exact hr3) (by simp only [w_put_r, w_arr_r, reduceIte, Nat.reduceEqDiff, pt_at]; rw [e2 169 (by decide)]; exact hcx.1) (by simp only [w_put_r, w_arr_r, reduceIte, Nat.reduceEqDiff, pt_at]; rw [e2 176 (by decide)]; exact hcx.2.2.2.2.2.2.1) (by simp only [w_put_r, w_arr_r, reduceIte, Nat.reduceEqDiff, pt_at]; exact hcx.2.2.2.2.2.2.2)
  unfold E_Lending_takeBack
  clear hcx hpr u5 u6
  have hob : -2147483648 ≤ S.1 48 (S.1 66 x.toNat).toNat + fi ∧ S.1 48 (S.1 66 x.toNat).toNat + fi < 2147483648 := by
    have := hRd.2.2.2 (S.1 66 x.toNat).toNat (by omega) (by omega)
    omega
  repeat' (first | (with_reducible refine ok_of f3 ?_; dsimp only) | (with_reducible refine ts.mono (fun y S1 hs => ok_s ?_)) | with_reducible refine ok_nb (by omega) ?_ | with_reducible refine ok_ib (by omega) ?_ | with_reducible refine ok_t (by omega) ?_ | with_reducible refine ok_e (by omega) ?_ | with_reducible refine ok_if (fun h => ?_) (fun h => ?_) | with_reducible refine ok_s ?_ | with_reducible refine ok_b ?_)
  refine f4 _ ?_
  refine hs.mono (fun y' R1 hs => ?_)
  obtain ⟨g1, g2, g3⟩ := q_stl hX hs (by simp only [w_put_r, w_arr_r, reduceIte, Nat.reduceEqDiff, pt_at]; omega) hp (by simp only [w_put_r, w_arr_r, reduceIte, Nat.reduceEqDiff, pt_at]; exact hr3)
  exact ⟨rfl, f1, (hff.weak rfl).trans g1, (hgg.weak rfl).trans g2, g3⟩
end
section
-- 94
theorem t_bring {e : w_E} {N : Nat} {S R : w_S} {x p t : Int} (hN : 100000 ≤ N) (h : RelL S R t) (ht : 0 ≤ t) (ht2 : t ≤ 512) : Ok (E_Lending_takeBack e N x p S) (fun y S1 => Ok (E_R_doBring e N x p R) (fun y' R1 => Pa S R (fun _ => Ql S R t) y S1 y' R1)) := by
  have hc1 := h.2.2.2.2.2.2.2.1.1
  have hc3 := h.2.2.2.2.2.2.2.1.2.2.1
  by_cases b1 : x < 1 ∨ S.1 62 3 < x ∨ p < 0 ∨ 3 < p
  · unfold E_Lending_takeBack E_R_doBring
    repeat' (first | with_reducible refine ok_nb (by omega) ?_ | with_reducible refine ok_ib (by omega) ?_ | with_reducible refine ok_t (by omega) ?_ | with_reducible refine ok_e (by omega) ?_ | with_reducible refine ok_if (fun h => ?_) (fun h => ?_) | with_reducible refine ok_s ?_ | with_reducible refine ok_b ?_)
    all_goals first | exact ⟨rfl, Or.inl ⟨by omega, rfl, rfl⟩⟩ | (exfalso; omega)
  have m1 := (h.2.2.2.2.2.2.2.2.1 x.toNat (by omega) (by omega) (by omega)).1.1
  by_cases b2 : S.1 65 x.toNat = 1
  · have hr : frm [175] [] [] R (w_put R 175 x.toNat p) := by repeat (first | exact frm.refl _ _ _ _ | refine frm.put ?_ rfl | refine frm.puto ?_ rfl rfl | refine frm.arr ?_ rfl)
    have tb := t_backc (e := e) (p := p) (R2 := w_put R 175 x.toNat p) hN h ht ht2 (by omega) b2 (by omega) hr (fun k hk => by simp only [w_put_r, w_arr_r, reduceIte, Nat.reduceEqDiff, pt_at]; rw [if_neg hk]) (by simp only [w_put_r, w_arr_r, reduceIte, Nat.reduceEqDiff, pt_at])
    refine tb.mono (fun y S1 hb => ?_)
    unfold E_R_doBring
    repeat' (first | (with_reducible refine hb.mono (fun y' R1 hb => ok_s ?_)) | with_reducible refine ok_nb (by omega) ?_ | with_reducible refine ok_ib (by omega) ?_ | with_reducible refine ok_t (by omega) ?_ | with_reducible refine ok_e (by omega) ?_ | with_reducible refine ok_if (fun h => ?_) (fun h => ?_) | with_reducible refine ok_s ?_ | with_reducible refine ok_b ?_)
    exact ⟨hb.1, Or.inr ⟨hb.2.1, hb.2.2.1, hb.2.2.2.1, hb.2.2.2.2⟩⟩
  · unfold E_Lending_takeBack E_R_doBring
    repeat' (first | with_reducible refine ok_nb (by omega) ?_ | with_reducible refine ok_ib (by omega) ?_ | with_reducible refine ok_t (by omega) ?_ | with_reducible refine ok_e (by omega) ?_ | with_reducible refine ok_if (fun h => ?_) (fun h => ?_) | with_reducible refine ok_s ?_ | with_reducible refine ok_b ?_)
    all_goals exact ⟨rfl, Or.inl ⟨by omega, rfl, rfl⟩⟩
theorem t_back {e : w_E} {N : Nat} {S R : w_S} {x t : Int} (hN : 100000 ≤ N) (h : RelL S R t) (ht : 0 ≤ t) (ht2 : t ≤ 512) : Ok (E_Lending_tellPlace e N x 0 S) (fun y0 S0 => Ok (E_Lending_takeBack e N x y0 S0) (fun y S1 => Ok (E_R_doBack e N x R) (fun y' R1 => Pa S R (fun _ => Ql S R t) y S1 y' R1))) := by
  have hc1 := h.2.2.2.2.2.2.2.1.1
  have hc3 := h.2.2.2.2.2.2.2.1.2.2.1
  by_cases b1 : x < 1 ∨ S.1 62 3 < x
  · unfold E_Lending_tellPlace E_Lending_takeBack E_R_doBack
    simp only [e_sw_cons, e_sw_nil]
    repeat' (first | with_reducible refine ok_nb (by omega) ?_ | with_reducible refine ok_ib (by omega) ?_ | with_reducible refine ok_t (by omega) ?_ | with_reducible refine ok_e (by omega) ?_ | with_reducible refine ok_if (fun h => ?_) (fun h => ?_) | with_reducible refine ok_s ?_ | with_reducible refine ok_b ?_)
    all_goals first | exact ⟨rfl, Or.inl ⟨by omega, rfl, rfl⟩⟩ | (exfalso; omega)
  have hk := h.2.2.2.2.2.2.2.2.1 x.toNat (by omega) (by omega) (by omega)
  have m1 := hk.1.1
  have m5 := hk.1.2.2.2.2.1
  have m11 := hk.2.2.2.2.2.1
  have m12 := hk.2.2.2.2.2.2.1
  clear hk
  have tp : E_Lending_tellPlace e N x 0 S = some (S.1 69 x.toNat, S) := by
    refine ok_eq ?_
    unfold E_Lending_tellPlace
    simp only [e_sw_cons, e_sw_nil]
    repeat' (first | with_reducible refine ok_t trivial ?_ | with_reducible refine ok_nb (by omega) ?_ | with_reducible refine ok_ib (by omega) ?_ | with_reducible refine ok_t (by omega) ?_ | with_reducible refine ok_e (by omega) ?_ | with_reducible refine ok_if (fun h => ?_) (fun h => ?_) | with_reducible refine ok_s ?_ | with_reducible refine ok_b ?_)
    exact ⟨rfl, rfl⟩
  refine ok_of tp ?_
  by_cases b2 : S.1 65 x.toNat = 1
  · have tb := t_backc (e := e) (R2 := R) (p := S.1 69 x.toNat) hN h ht ht2 (by omega) b2 (by omega) (frm.refl _ _ _ _) (fun k hk => rfl) m5
    refine tb.mono (fun y S1 hb => hb.mono (fun y' R1 hb => ?_))
    exact ⟨hb.1, Or.inr ⟨hb.2.1, hb.2.2.1, hb.2.2.2.1, hb.2.2.2.2⟩⟩
  · unfold E_Lending_takeBack E_R_doBack
    repeat' (first | with_reducible refine ok_nb (by omega) ?_ | with_reducible refine ok_ib (by omega) ?_ | with_reducible refine ok_t (by omega) ?_ | with_reducible refine ok_e (by omega) ?_ | with_reducible refine ok_if (fun h => ?_) (fun h => ?_) | with_reducible refine ok_s ?_ | with_reducible refine ok_b ?_)
    all_goals exact ⟨rfl, Or.inl ⟨by omega, rfl, rfl⟩⟩
/-- the copies to which a QUEUE looks are alike -/
theorem x_has {e : w_E} {N : Nat} {S R : w_S} {x1 x2 t : Int} (hN : 1000 ≤ N) (h : RelL S R t) (hx : 1 ≤ x1) : ∃ v b : Int, E_Lending_copyFor e N x1 x2 1 S = some (v, S) ∧ E_R_hasCopy e N x1 x2 R = some (b, R) ∧ (v = 0 ↔ b = 0) := by
  obtain ⟨c1, c2, c3, c4⟩ := h.2.2.2.2.2.2.2.1
  have hCd := h.2.2.2.2.2.2.2.2.1
  have h1 := ok_eq (l_copyFor (e := e) (N := N) (S := S) (x1 := x1) (x2 := x2) (x3 := 1) ⟨c2, c3⟩ (S.1 62 3).toNat N 1 (by omega) (by omega) (by omega))
  have h2 := ok_eq (l_hasCopy (e := e) (N := N) (S := R) (x1 := x1) (x2 := x2) (by omega) (R.1 129 68).toNat N 0 1 (by omega) (by omega) (by omega) (Or.inl rfl))
  rw [if_neg (by omega)] at h2
  refine ⟨_, _, h1, h2, ?_⟩
  have e1 : (1 : Int).toNat = 1 := rfl
  rw [e1, bi_1, anyb_fst, c1]
  have ef : fst (fun j => decide (R.1 169 j = x2) && (decide (R.1 171 j = 1) || decide (R.1 171 j = 2) || decide (R.1 171 j = 4)) && decide (R.1 172 j = x1)) 1 (S.1 62 3).toNat = fst (fun j => decide (S.1 63 j = x2) && decide (S.1 66 j = x1) && (!decide ((1 : Int) = 0) || !decide (S.1 65 j = 1))) 1 (S.1 62 3).toNat := by
    refine fst_congr _ _ (fun k a b => ?_)
    have s1 := (c4 k a (by omega)).1
    obtain ⟨⟨m1, m2, _⟩, m7, m8, m9, m10, m11, m12, m13, m14, m15, m16, m17, m18⟩ := hCd k a (by omega) (by omega)
    rw [s1, m1, m2, Bool.eq_iff_iff]
    simp only [Bool.and_eq_true, Bool.or_eq_true, Bool.not_eq_true', decide_eq_true_eq, decide_eq_false_iff_not]
    omega
  rw [ef]
  cases hf : fst (fun j => decide (S.1 63 j = x2) && decide (S.1 66 j = x1) && (!decide ((1 : Int) = 0) || !decide (S.1 65 j = 1))) 1 (S.1 62 3).toNat with
  | none => simp [o1]
  | some k =>
    have := (fst_some hf).1
    simp only [o1_some, Option.isSome_some]
    simp
    omega
/-- whether a reader waits, and where -/
theorem x_inRow {e : w_E} {N : Nat} {S R : w_S} {x1 x2 : Int} (hN : 1000 ≤ N) (hQ : RelQ S R) : ∃ i k : Int, E_Lending_queuedAt e N x1 x2 S = some (i, S) ∧ E_R_waitsFor e N x1 x2 R = some (k, R) ∧ ((i = -1 ∧ k = -1 ∧ (∀ y, y ∈ QR R.1 → ¬ (y.1 = x2 ∧ y.2.1 = x1))) ∨ (0 ≤ i ∧ i < S.1 62 14 ∧ 0 ≤ k ∧ k < S.1 62 14 ∧ ∃ z, (QC S.1)[i.toNat]? = some z ∧ (QR R.1)[k.toNat]? = some z)) := by
  obtain ⟨q1, q2, q3, q4, q5, q6⟩ := hQ
  have h1 := ok_eq (l_queuedAt (e := e) (N := N) (S := S) (x1 := x1) (x2 := x2) ⟨q1, q2⟩ (S.1 62 14).toNat N 0 (by omega) (by omega) (by omega))
  have h2 := ok_eq (l_waitsFor (e := e) (N := N) (S := R) (x1 := x1) (x2 := x2) (by omega) (R.1 129 127).toNat N (-1) 0 (by omega) (by omega) (by omega) (by omega) (by omega) (by omega))
  refine ⟨_, _, h1, h2, ?_⟩
  have e0 : (0 : Int).toNat = 0 := rfl
  rw [e0]
  have hCR : ∀ i, i < (S.1 62 14).toNat → (QC S.1)[i]? = some (qc S.1 i) := fun i hi => by
    unfold QC
    rw [lf_get, if_pos hi, Nat.zero_add]
  have hRR : ∀ i, i < (R.1 129 127).toNat → (QR R.1)[i]? = some (qr R.1 i) := fun i hi => by
    unfold QR
    rw [lf_get, if_pos hi, Nat.zero_add]
  rcases lst_spec (P := fun j => decide (R.1 214 j = x2) && decide (R.1 215 j = x1)) (n := (R.1 129 127).toNat) (c := 0) (d := -1) with ⟨a, b⟩ | ⟨k, a, b, c, d⟩
  · have hno : ∀ y, y ∈ QR R.1 → ¬ (y.1 = x2 ∧ y.2.1 = x1) := by
      intro y hy hh
      obtain ⟨k, k1, k2, k3⟩ := lf_mem hy
      have := a k k1 k2
      subst k3
      have hh1 : R.1 214 k = x2 := hh.1
      have hh2 : R.1 215 k = x1 := hh.2
      simp only [hh1, hh2, decide_true, Bool.and_self] at this
      cases this
    have hn : fst (fun j => decide (S.1 73 j = x2) && decide (S.1 74 j = x1)) 0 (S.1 62 14).toNat = none := by
      refine fst_none_of (fun j j1 j2 => ?_)
      rw [Bool.eq_false_iff]
      intro hc
      simp only [Bool.and_eq_true, decide_eq_true_eq] at hc
      have hm := List.mem_of_getElem? (hCR j (by omega))
      rw [q4, qst_mem] at hm
      exact hno _ hm hc
    rw [b, hn, o1_none]
    exact Or.inl ⟨rfl, rfl, hno⟩
  · simp only [Bool.and_eq_true, decide_eq_true_eq] at c
    rw [d]
    cases hf : fst (fun j => decide (S.1 73 j = x2) && decide (S.1 74 j = x1)) 0 (S.1 62 14).toNat with
    | none =>
      exfalso
      have hm := List.mem_of_getElem? (hRR k (by omega))
      rw [← qst_mem, ← q4] at hm
      obtain ⟨j, j1, j2, j3⟩ := lf_mem hm
      have := fst_none hf j j1 j2
      have hj1 : S.1 73 j = x2 := by
        have := congrArg (fun z : Q3 => z.1) j3
        simp only [qr, qc] at this
        omega
      have hj2 : S.1 74 j = x1 := by
        have := congrArg (fun z : Q3 => z.2.1) j3
        simp only [qr, qc] at this
        omega
      simp only [hj1, hj2, decide_true, Bool.and_self] at this
      cases this
    | some i =>
      obtain ⟨i1, i2, i3, _⟩ := fst_some hf
      simp only [Bool.and_eq_true, decide_eq_true_eq] at i3
      rw [o1_some]
      refine Or.inr ⟨by omega, by omega, by omega, by omega, qc S.1 i, ?_, ?_⟩
      · rw [Int.toNat_natCast]
        exact hCR i (by omega)
      · rw [Int.toNat_natCast, hRR k (by omega)]
        have hm := List.mem_of_getElem? (hCR i (by omega))
        rw [q4, qst_mem] at hm
        obtain ⟨j, j1, j2, j3⟩ := lf_mem hm
        have hjk : j = k := by
          refine qun_at q5 (hRR j (by omega)) (hRR k (by omega)) ?_ ?_
          · rw [← j3]
            show S.1 73 i = R.1 214 k
            omega
          · rw [← j3]
            show S.1 74 i = R.1 215 k
            omega
        rw [j3, hjk]
end
section
-- 95
def fo (a b : Option Nat) : Option Nat := match a with
  | some k => some k
  | none => b
theorem fst_snoc (P : Nat → Bool) : ∀ (n c : Nat), fst P c (n + 1) = fo (fst P c n) (if P (c + n) = true then some (c + n) else none)
  | 0, c => by
    rw [fst, fst, fst]
    rfl
  | n + 1, c => by
    have ih := fst_snoc P n (c + 1)
    have e : c + 1 + n = c + (n + 1) := by omega
    rw [e] at ih
    rw [fst, ih, fst]
    by_cases h : P c = true
    · rw [if_pos h, if_pos h]
      rfl
    · rw [if_neg h, if_neg h]
theorem fo_none (a : Option Nat) : fo a none = a := by cases a <;> rfl
theorem o1_fo (d : Int) (a : Option Nat) (k : Nat) : o1 d (fo a (some k)) = o1 k a := by cases a <;> rfl
theorem l_hold {e : w_E} {N : Nat} {R : w_S} {x1 x2 x3 : Int} {P : Int → w_S → Prop} {m : Nat} : ∀ (c n : Nat) (th le : Int), c ≤ 200 → 0 ≤ th → th + c ≤ 1000 → m + c ≤ n → (∀ n', m ≤ n' → Ok (El_R_doHold e N n' 0 [x1, x2, x3, th + cnt (fun j => decide (R.1 169 j = x2) && !decide (R.1 171 j = 3)) 1 c, o1 le (fst (fun j => decide (R.1 169 j = x2) && decide (R.1 171 j = 0)) 1 c), 0] [] R) P) → Ok (El_R_doHold e N n 0 [x1, x2, x3, th, le, c] [] R) P := by
  intro c
  induction c with
  | zero =>
    intro n th le hc h1 h2 hn hP
    have := hP n (by omega)
    rw [cnt, fst, Int.add_zero, o1_none] at this
    exact this
  | succ c ih =>
    intro n th le hc h1 h2 hn hP
    obtain ⟨n, rfl⟩ : ∃ q, n = q + 1 := ⟨n - 1, by omega⟩
    have e1 : ((c + 1 : Nat) : Int) + (-1) = (c : Int) := by omega
    have e2 : ((c + 1 : Nat) : Int).toNat = c + 1 := by omega
    have e3 : 1 + c = c + 1 := by omega
    rw [cnt_snoc, fst_snoc, e3] at hP
    rw [El_R_doHold, e1, e2]
    refine ok_e (by omega) (ok_ib (by omega) ?_)
    by_cases b1 : R.1 169 (c + 1) = x2
    · by_cases b2 : R.1 171 (c + 1) = 3
      · have p1 : ¬ (decide (R.1 169 (c + 1) = x2) && !decide (R.1 171 (c + 1) = 3)) = true := by simp [b2]
        have p2 : ¬ (decide (R.1 169 (c + 1) = x2) && decide (R.1 171 (c + 1) = 0)) = true := by simp [b2]
        rw [if_neg p1, if_neg p2, fo_none] at hP
        repeat' (first | with_reducible refine ok_nb (by omega) ?_ | with_reducible refine ok_ib (by omega) ?_ | with_reducible refine ok_t (by omega) ?_ | with_reducible refine ok_e (by omega) ?_ | with_reducible refine ok_if (fun h => ?_) (fun h => ?_) | with_reducible refine ok_s ?_ | with_reducible refine ok_b ?_)
        refine ih n _ le (by omega) (by omega) (by omega) (by omega) (fun n' hn' => ?_)
        have := hP n' hn'
        rw [Int.add_zero] at this ⊢
        exact this
      · have p1 : (decide (R.1 169 (c + 1) = x2) && !decide (R.1 171 (c + 1) = 3)) = true := by simp [b1, b2]
        by_cases b3 : R.1 171 (c + 1) = 0
        · have p2 : (decide (R.1 169 (c + 1) = x2) && decide (R.1 171 (c + 1) = 0)) = true := by simp [b1, b3]
          rw [if_pos p1, if_pos p2, o1_fo] at hP
          repeat' (first | with_reducible refine ok_nb (by omega) ?_ | with_reducible refine ok_ib (by omega) ?_ | with_reducible refine ok_t (by omega) ?_ | with_reducible refine ok_e (by omega) ?_ | with_reducible refine ok_if (fun h => ?_) (fun h => ?_) | with_reducible refine ok_s ?_ | with_reducible refine ok_b ?_)
          refine ih n _ _ (by omega) (by omega) (by omega) (by omega) (fun n' hn' => ?_)
          have := hP n' hn'
          have e4 : th + 1 + cnt (fun j => decide (R.1 169 j = x2) && !decide (R.1 171 j = 3)) 1 c = th + (cnt (fun j => decide (R.1 169 j = x2) && !decide (R.1 171 j = 3)) 1 c + 1) := by omega
          rw [e4]
          exact this
        · have p2 : ¬ (decide (R.1 169 (c + 1) = x2) && decide (R.1 171 (c + 1) = 0)) = true := by simp [b3]
          rw [if_pos p1, if_neg p2, fo_none] at hP
          repeat' (first | with_reducible refine ok_nb (by omega) ?_ | with_reducible refine ok_ib (by omega) ?_ | with_reducible refine ok_t (by omega) ?_ | with_reducible refine ok_e (by omega) ?_ | with_reducible refine ok_if (fun h => ?_) (fun h => ?_) | with_reducible refine ok_s ?_ | with_reducible refine ok_b ?_)
          refine ih n _ le (by omega) (by omega) (by omega) (by omega) (fun n' hn' => ?_)
          have := hP n' hn'
          have e4 : th + 1 + cnt (fun j => decide (R.1 169 j = x2) && !decide (R.1 171 j = 3)) 1 c = th + (cnt (fun j => decide (R.1 169 j = x2) && !decide (R.1 171 j = 3)) 1 c + 1) := by omega
          rw [e4]
          exact this
    · have p1 : ¬ (decide (R.1 169 (c + 1) = x2) && !decide (R.1 171 (c + 1) = 3)) = true := by simp [b1]
      have p2 : ¬ (decide (R.1 169 (c + 1) = x2) && decide (R.1 171 (c + 1) = 0)) = true := by simp [b1]
      rw [if_neg p1, if_neg p2, fo_none] at hP
      repeat' (first | with_reducible refine ok_nb (by omega) ?_ | with_reducible refine ok_ib (by omega) ?_ | with_reducible refine ok_t (by omega) ?_ | with_reducible refine ok_e (by omega) ?_ | with_reducible refine ok_if (fun h => ?_) (fun h => ?_) | with_reducible refine ok_s ?_ | with_reducible refine ok_b ?_)
      refine ih n _ le (by omega) (by omega) (by omega) (by omega) (fun n' hn' => ?_)
      have := hP n' hn'
      rw [Int.add_zero] at this ⊢
      exact this
theorem l_enter {e : w_E} {N : Nat} {S : w_S} {x2 x4 : Int} {P : Int → w_S → Prop} (h0 : 0 ≤ S.1 62 3 ∧ S.1 62 3 ≤ 200) : ∀ (k n : Nat) (i : Int), k < n → 1 ≤ i → i + k = S.1 62 3 + 1 → (fst (fun j => decide (S.1 63 j = x2) && decide (S.1 65 j = 0)) i.toNat k = none → P x4 S) → (∀ j, fst (fun j => decide (S.1 63 j = x2) && decide (S.1 65 j = 0)) i.toNat k = some j → Ok (E_Lending_settle e N (j : Int) (S.1 69 j) S) (fun _ S1 => P 0 S1)) → Ok (El_Lending_enterQueue e N n 0 [x2, x4, i] [] S) P := by
  intro k
  induction k with
  | zero =>
    intro n i hn hi hk h1 h2
    obtain ⟨n, rfl⟩ : ∃ q, n = q + 1 := ⟨n - 1, by omega⟩
    rw [El_Lending_enterQueue]
    repeat' (first | with_reducible refine ok_nb (by omega) ?_ | with_reducible refine ok_ib (by omega) ?_ | with_reducible refine ok_t (by omega) ?_ | with_reducible refine ok_e (by omega) ?_ | with_reducible refine ok_if (fun h => ?_) (fun h => ?_) | with_reducible refine ok_s ?_ | with_reducible refine ok_b ?_)
    exact h1 rfl
  | succ k ih =>
    intro n i hn hi hk h1 h2
    obtain ⟨n, rfl⟩ : ∃ q, n = q + 1 := ⟨n - 1, by omega⟩
    have e1 : (i + 1).toNat = i.toNat + 1 := by omega
    rw [fst] at h1 h2
    rw [El_Lending_enterQueue]
    by_cases b : S.1 63 i.toNat = x2 ∧ S.1 65 i.toNat = 0
    · have p1 : (decide (S.1 63 i.toNat = x2) && decide (S.1 65 i.toNat = 0)) = true := by simp [b.1, b.2]
      rw [if_pos p1] at h2
      have e2 : ((i.toNat : Nat) : Int) = i := by omega
      have h3 := h2 i.toNat rfl
      rw [e2] at h3
      repeat' (first | (with_reducible refine h3.mono (fun y S1 q => ok_s q)) | with_reducible refine ok_nb (by omega) ?_ | with_reducible refine ok_ib (by omega) ?_ | with_reducible refine ok_t (by omega) ?_ | with_reducible refine ok_e (by omega) ?_ | with_reducible refine ok_if (fun h => ?_) (fun h => ?_) | with_reducible refine ok_s ?_ | with_reducible refine ok_b ?_)
    · have p1 : ¬ (decide (S.1 63 i.toNat = x2) && decide (S.1 65 i.toNat = 0)) = true := by simpa using b
      rw [if_neg p1, ← e1] at h1 h2
      repeat' (first | with_reducible refine ok_nb (by omega) ?_ | with_reducible refine ok_ib (by omega) ?_ | with_reducible refine ok_t (by omega) ?_ | with_reducible refine ok_e (by omega) ?_ | with_reducible refine ok_if (fun h => ?_) (fun h => ?_) | with_reducible refine ok_s ?_ | with_reducible refine ok_b ?_)
      all_goals exact ih n (i + 1) (by omega) (by omega) (by omega) h1 h2
theorem x_hasLeft {e : w_E} {N : Nat} {S : w_S} {x1 : Int} (hN : 1000 ≤ N) (h0 : 0 ≤ S.1 62 3 ∧ S.1 62 3 ≤ 200) : E_Lending_hasCopyLeft e N x1 S = some (bi (anyb (fun j => decide (S.1 63 j = x1) && !decide (S.1 65 j = 3)) 1 (S.1 62 3).toNat), S) := ok_eq (l_hasCopyLeft (e := e) (N := N) (x1 := x1) h0 (S.1 62 3).toNat N 1 (by omega) (by omega) (by omega))
end
section
-- 96
theorem QR_snoc {R : w_S} {x1 x2 x3 : Int} (h0 : 0 ≤ R.1 129 127) : QR (w_put (w_put (w_put (w_put R 214 (R.1 129 127).toNat x2) 215 (R.1 129 127).toNat x1) 216 (R.1 129 127).toNat x3) 129 127 (R.1 129 127 + 1)).1 = QR R.1 ++ [(x2, x1, x3)] := by
  unfold QR
  simp only [w_put_r, w_arr_r, reduceIte, Nat.reduceEqDiff, pt_at]
  have e : (R.1 129 127 + 1).toNat = (R.1 129 127).toNat + 1 := by omega
  rw [e, lf_snoc, Nat.zero_add]
  congr 1
  · refine lf_congr _ _ (fun k a b => ?_)
    unfold qr
    simp only [w_put_r, w_arr_r, reduceIte, Nat.reduceEqDiff, pt_at]
    have hk : k ≠ (R.1 129 127).toNat := by omega
    simp only [if_neg hk]
  · unfold qr
    simp only [w_put_r, w_arr_r, reduceIte, Nat.reduceEqDiff, pt_at]
theorem qun_snoc {l : List Q3} {z : Q3} (h : qun l) (hz : ∀ y, y ∈ l → ¬ (y.1 = z.1 ∧ y.2.1 = z.2.1)) : qun (l ++ [z]) := by
  intro a b
  rw [List.countP_append]
  by_cases hc : z.1 = a ∧ z.2.1 = b
  · have h0 : l.countP (fun y => decide (y.1 = a) && decide (y.2.1 = b)) = 0 := by
      rw [List.countP_eq_zero]
      intro y hy
      have := hz y hy
      simp only [Bool.and_eq_true, decide_eq_true_eq]
      rw [← hc.1, ← hc.2]
      exact this
    rw [h0]
    have : [z].countP (fun y => decide (y.1 = a) && decide (y.2.1 = b)) ≤ 1 := List.countP_le_length
    omega
  · have h1 : [z].countP (fun y => decide (y.1 = a) && decide (y.2.1 = b)) = 0 := by
      rw [List.countP_eq_zero]
      intro y hy
      have : y = z := by simpa using hy
      subst this
      simp only [Bool.and_eq_true, decide_eq_true_eq]
      exact hc
    have := h a b
    omega
theorem t_hold {e : w_E} {N : Nat} {S R : w_S} {x1 x2 x3 t : Int} (hN : 10000 ≤ N) (h : RelL S R t) (ht : 0 ≤ t) : Ok (E_Lending_enterQueue e N x1 x2 x3 S) (fun y S1 => Ok (E_R_doHold e N x1 x2 x3 R) (fun y' R1 => Pa S R (fun _ => Ql S R t) y S1 y' R1)) := by
  have h0 := h
  obtain ⟨hT, hP, hQ, hG, hRd, hLn, hBk, hCs, hCd, hLo, hCl, hRu⟩ := h
  obtain ⟨c1, c2, c3, c4⟩ := id hCs
  obtain ⟨r1, r2, r3, r4⟩ := id hRd
  obtain ⟨g1, g2, g3, g4⟩ := id hG
  obtain ⟨q1, q2, q3, q4, q5, q6⟩ := id hQ
  by_cases b1 : x1 < 1 ∨ S.1 46 0 < x1
  · unfold E_Lending_enterQueue E_R_doHold
    repeat' (first | with_reducible refine ok_nb (by omega) ?_ | with_reducible refine ok_ib (by omega) ?_ | with_reducible refine ok_t (by omega) ?_ | with_reducible refine ok_e (by omega) ?_ | with_reducible refine ok_if (fun h => ?_) (fun h => ?_) | with_reducible refine ok_s ?_ | with_reducible refine ok_b ?_)
    all_goals first | exact ⟨rfl, Or.inl ⟨by omega, rfl, rfl⟩⟩ | (exfalso; omega)
  by_cases b2 : 1 ≤ x2 ∧ x2 ≤ S.1 3 0 ∧ S.1 5 x2.toNat = -1
  · have kr := x_isRec1 (e := e) (N := N) hG b2
    by_cases b3 : x3 < 0 ∨ 9 < x3
    · unfold E_Lending_enterQueue E_R_doHold
      repeat' (first | (with_reducible refine ok_of kr ?_; dsimp only) | with_reducible refine ok_nb (by omega) ?_ | with_reducible refine ok_ib (by omega) ?_ | with_reducible refine ok_t (by omega) ?_ | with_reducible refine ok_e (by omega) ?_ | with_reducible refine ok_if (fun h => ?_) (fun h => ?_) | with_reducible refine ok_s ?_ | with_reducible refine ok_b ?_)
      all_goals first | exact ⟨rfl, Or.inl ⟨by omega, rfl, rfl⟩⟩ | (exfalso; omega)
    obtain ⟨i, k, i1, i2, i3⟩ := x_inRow (e := e) (N := N) (x1 := x1) (x2 := x2) (by omega) hQ
    obtain ⟨v, b, v1, v2, v3⟩ := x_has (e := e) (N := N) (x1 := x1) (x2 := x2) (by omega) h0 (by omega)
    have lf1 := x_hasLeft (e := e) (N := N) (S := S) (x1 := x2) (by omega) ⟨c2, c3⟩
    -- what the reference's loop leaves
    have ecnt : cnt (fun j => decide (R.1 169 j = x2) && !decide (R.1 171 j = 3)) 1 (S.1 62 3).toNat = cnt (fun j => decide (S.1 63 j = x2) && !decide (S.1 65 j = 3)) 1 (S.1 62 3).toNat := cnt_congr _ _ (fun j a c => by
      rw [(c4 j a (by omega)).1, (hCd j a (by omega) (by omega)).1.1])
    have efst : fst (fun j => decide (R.1 169 j = x2) && decide (R.1 171 j = 0)) 1 (S.1 62 3).toNat = fst (fun j => decide (S.1 63 j = x2) && decide (S.1 65 j = 0)) 1 (S.1 62 3).toNat := fst_congr _ _ (fun j a c => by
      rw [(c4 j a (by omega)).1, (hCd j a (by omega) (by omega)).1.1])
    have ent : ∀ P, (∀ n', 10 ≤ n' → Ok (El_R_doHold e N n' 0 [x1, x2, x3, cnt (fun j => decide (S.1 63 j = x2) && !decide (S.1 65 j = 3)) 1 (S.1 62 3).toNat, o1 0 (fst (fun j => decide (S.1 63 j = x2) && decide (S.1 65 j = 0)) 1 (S.1 62 3).toNat), 0] [] R) P) → Ok (E_R_doHold e N x1 x2 x3 R) P := by
      intro P hP
      unfold E_R_doHold
      repeat' (first | (with_reducible refine ok_of kr ?_; dsimp only; rw [c1]) | with_reducible refine ok_nb (by omega) ?_ | with_reducible refine ok_ib (by omega) ?_ | with_reducible refine ok_t (by omega) ?_ | with_reducible refine ok_e (by omega) ?_ | with_reducible refine ok_if (fun h => ?_) (fun h => ?_) | with_reducible refine ok_s ?_ | with_reducible refine ok_b ?_)
      have e5 : S.1 62 3 = (((S.1 62 3).toNat : Nat) : Int) := by omega
      rw [e5]
      refine l_hold (m := 10) (S.1 62 3).toNat N 0 0 (by omega) (by omega) (by omega) (by omega) (fun n' hn' => ?_)
      rw [ecnt, efst, Int.zero_add]
      exact hP n' hn'
    have hcp := cnt_pos (P := fun j => decide (S.1 63 j = x2) && !decide (S.1 65 j = 3)) (S.1 62 3).toNat 1
    have hcl := cnt_le (fun j => decide (S.1 63 j = x2) && !decide (S.1 65 j = 3)) (S.1 62 3).toNat 1
    generalize hth : cnt (fun j => decide (S.1 63 j = x2) && !decide (S.1 65 j = 3)) 1 (S.1 62 3).toNat = th at *
    have hbi : bi (anyb (fun j => decide (S.1 63 j = x2) && !decide (S.1 65 j = 3)) 1 (S.1 62 3).toNat) = 0 ↔ th = 0 := by
      rw [bi_1, ← Bool.not_eq_true, ← hcp]
      omega
    generalize hlb : bi (anyb (fun j => decide (S.1 63 j = x2) && !decide (S.1 65 j = 3)) 1 (S.1 62 3).toNat) = lb at *
    clear ecnt efst hcp hlb hth
    unfold E_Lending_enterQueue
    by_cases b4 : i = -1 ∧ v = 0 ∧ th ≠ 0 ∧ S.1 62 14 < 200
    · obtain ⟨b5, b6, b7, b8⟩ := b4
      have k1 : k = -1 ∧ (∀ y, y ∈ QR R.1 → ¬ (y.1 = x2 ∧ y.2.1 = x1)) := by
        rcases i3 with ⟨_, a, c⟩ | ⟨a, _⟩
        · exact ⟨a, c⟩
        · omega
      have hb0 := v3.mp b6
      clear i3 v3
      have hlb : lb ≠ 0 := fun q => b7 (hbi.mp q)
      clear hbi
      have ti := x_insertQueued (e := e) (N := N) (S := S) (x1 := x1) (x2 := x2) (x3 := x3) (by omega) q1 (by omega) (by rw [q4]; exact qst_sorted _)
      repeat' (first | (with_reducible refine ok_of i1 ?_; dsimp only) | (with_reducible refine ok_of v1 ?_; dsimp only) | (with_reducible refine ok_of lf1 ?_; dsimp only) | (with_reducible refine ti.mono (fun pos S2 hi => ?_)) | with_reducible refine ok_nb (by omega) ?_ | with_reducible refine ok_ib (by omega) ?_ | with_reducible refine ok_t (by omega) ?_ | with_reducible refine ok_e (by omega) ?_ | with_reducible refine ok_if (fun h => ?_) (fun h => ?_) | with_reducible refine ok_s ?_ | with_reducible refine ok_b ?_)
      dsimp only
      obtain ⟨j1, j2, j3, j4, j5⟩ := hi
      have hg : frm [214, 215, 216] [129] [(129, 127)] R (w_put (w_put (w_put (w_put R 214 (R.1 129 127).toNat x2) 215 (R.1 129 127).toNat x1) 216 (R.1 129 127).toNat x3) 129 127 (R.1 129 127 + 1)) := by repeat (first | exact frm.refl _ _ _ _ | refine frm.put ?_ rfl | refine frm.puto ?_ rfl rfl | refine frm.arr ?_ rfl)
      have hqr := QR_snoc (R := R) (x1 := x1) (x2 := x2) (x3 := x3) (by omega)
      have hQ2 : RelQ S2 (w_put (w_put (w_put (w_put R 214 (R.1 129 127).toNat x2) 215 (R.1 129 127).toNat x1) 216 (R.1 129 127).toNat x3) 129 127 (R.1 129 127 + 1)) := by
        refine ⟨by omega, by omega, by simp only [w_put_r, w_arr_r, reduceIte, Nat.reduceEqDiff, pt_at]; omega, ?_, ?_, ?_⟩
        · rw [j3, hqr, qst_snoc, q4]
        · rw [hqr]
          exact qun_snoc q5 k1.2
        · intro y hy
          rw [j3, qin_mem] at hy
          rw [j1.2.1 46 rfl rfl]
          rcases hy with hy | hy
          · rw [hy]
            show 1 ≤ x1 ∧ x1 ≤ S.1 46 0
            exact ⟨by omega, by omega⟩
          · exact q6 y hy
      have hL2 : RelL S2 (w_put (w_put (w_put (w_put R 214 (R.1 129 127).toNat x2) 215 (R.1 129 127).toNat x1) 216 (R.1 129 127).toNat x3) 129 127 (R.1 129 127 + 1)) t := ⟨hT.fr j1 hg rfl, hP.fr j1 hg rfl, hQ2, hG.fr j1 hg rfl, hRd.fr j1 hg rfl, hLn.fr j1 hg rfl, hBk.fr j1 hg rfl, hCs.fr j1 hg rfl, hCd.fr j1 hg rfl, hLo.fr j1 hg rfl, hCl.fr j1 hg rfl, hRu.fr j1 hg rfl⟩
      have e62 : S2.1 62 3 = S.1 62 3 := j1.2.2 62 3 rfl rfl
      have e63 : S2.1 63 = S.1 63 := j1.2.1 63 rfl rfl
      have e65 : S2.1 65 = S.1 65 := j1.2.1 65 rfl rfl
      refine l_enter (by omega) (S2.1 62 3).toNat N 1 (by omega) (by omega) (by omega) (fun hno => ?_) (fun j hj => ?_)
      · -- no copy is IN
        have e1 : (1 : Int).toNat = 1 := rfl
        rw [e62, e63, e65, e1] at hno
        refine ent _ (fun n' hn' => ?_)
        rw [hno, o1_none]
        obtain ⟨n', rfl⟩ : ∃ q, n' = q + 1 := ⟨n' - 1, by omega⟩
        have ka := x_ahead (e := e) (N := N) (S := w_put (w_put (w_put (w_put R 214 (R.1 129 127).toNat x2) 215 (R.1 129 127).toNat x1) 216 (R.1 129 127).toNat x3) 129 127 (R.1 129 127 + 1)) (x1 := R.1 129 127 + 1 - 1) (by omega) (by simp only [w_put_r, w_arr_r, reduceIte, Nat.reduceEqDiff, pt_at]; omega) (by simp only [w_put_r, w_arr_r, reduceIte, Nat.reduceEqDiff, pt_at]; omega)
        have hah := cnt_le (fun j => decide ((qr (w_put (w_put (w_put (w_put R 214 (R.1 129 127).toNat x2) 215 (R.1 129 127).toNat x1) 216 (R.1 129 127).toNat x3) 129 127 (R.1 129 127 + 1)).1 j).1 = (qr (w_put (w_put (w_put (w_put R 214 (R.1 129 127).toNat x2) 215 (R.1 129 127).toNat x1) 216 (R.1 129 127).toNat x3) 129 127 (R.1 129 127 + 1)).1 (R.1 129 127 + 1 - 1).toNat).1) && (decide ((qr (w_put (w_put (w_put (w_put R 214 (R.1 129 127).toNat x2) 215 (R.1 129 127).toNat x1) 216 (R.1 129 127).toNat x3) 129 127 (R.1 129 127 + 1)).1 j).2.2 < (qr (w_put (w_put (w_put (w_put R 214 (R.1 129 127).toNat x2) 215 (R.1 129 127).toNat x1) 216 (R.1 129 127).toNat x3) 129 127 (R.1 129 127 + 1)).1 (R.1 129 127 + 1 - 1).toNat).2.2) || decide ((qr (w_put (w_put (w_put (w_put R 214 (R.1 129 127).toNat x2) 215 (R.1 129 127).toNat x1) 216 (R.1 129 127).toNat x3) 129 127 (R.1 129 127 + 1)).1 j).2.2 = (qr (w_put (w_put (w_put (w_put R 214 (R.1 129 127).toNat x2) 215 (R.1 129 127).toNat x1) 216 (R.1 129 127).toNat x3) 129 127 (R.1 129 127 + 1)).1 (R.1 129 127 + 1 - 1).toNat).2.2) && decide (j < (R.1 129 127 + 1 - 1).toNat))) (R.1 129 127 + 1).toNat 0
        have hnew : qr (w_put (w_put (w_put (w_put R 214 (R.1 129 127).toNat x2) 215 (R.1 129 127).toNat x1) 216 (R.1 129 127).toNat x3) 129 127 (R.1 129 127 + 1)).1 (R.1 129 127 + 1 - 1).toNat = (x2, x1, x3) := by
          have e6 : (R.1 129 127 + 1 - 1).toNat = (R.1 129 127).toNat := by omega
          rw [e6]
          unfold qr
          simp only [w_put_r, w_arr_r, reduceIte, Nat.reduceEqDiff, pt_at]
        have hat := qah_at (qr (w_put (w_put (w_put (w_put R 214 (R.1 129 127).toNat x2) 215 (R.1 129 127).toNat x1) 216 (R.1 129 127).toNat x3) 129 127 (R.1 129 127 + 1)).1) x2 (R.1 129 127 + 1).toNat (R.1 129 127 + 1 - 1).toNat (by omega) (by rw [hnew])
        have hah0 : 0 ≤ qah (qr (w_put (w_put (w_put (w_put R 214 (R.1 129 127).toNat x2) 215 (R.1 129 127).toNat x1) 216 (R.1 129 127).toNat x3) 129 127 (R.1 129 127 + 1)).1) (R.1 129 127 + 1).toNat (R.1 129 127 + 1 - 1).toNat ∧ qah (qr (w_put (w_put (w_put (w_put R 214 (R.1 129 127).toNat x2) 215 (R.1 129 127).toNat x1) 216 (R.1 129 127).toNat x3) 129 127 (R.1 129 127 + 1)).1) (R.1 129 127 + 1).toNat (R.1 129 127 + 1 - 1).toNat ≤ ((R.1 129 127 + 1).toNat : Nat) := hah
        clear hah
        rw [hnew] at hat
        have hq7 : (w_put (w_put (w_put (w_put R 214 (R.1 129 127).toNat x2) 215 (R.1 129 127).toNat x1) 216 (R.1 129 127).toNat x3) 129 127 (R.1 129 127 + 1)).1 129 127 = R.1 129 127 + 1 := by simp only [w_put_r, w_arr_r, reduceIte, Nat.reduceEqDiff, pt_at]
        rw [hq7] at ka
        have hqR : QR (w_put (w_put (w_put (w_put R 214 (R.1 129 127).toNat x2) 215 (R.1 129 127).toNat x1) 216 (R.1 129 127).toNat x3) 129 127 (R.1 129 127 + 1)).1 = lf (qr (w_put (w_put (w_put (w_put R 214 (R.1 129 127).toNat x2) 215 (R.1 129 127).toNat x1) 216 (R.1 129 127).toNat x3) 129 127 (R.1 129 127 + 1)).1) 0 (R.1 129 127 + 1).toNat := by
          unfold QR
          rw [hq7]
        rw [hQ2.2.2.2.1, hqR] at j5
        have hqu := hQ2.2.2.2.2.1
        rw [hqR] at hqu
        have hidx := qun_at (qun_filter (qun_qst hqu) (fun y => decide (y.1 = x2))) hat j5 rfl rfl
        generalize hq : qah (qr (w_put (w_put (w_put (w_put R 214 (R.1 129 127).toNat x2) 215 (R.1 129 127).toNat x1) 216 (R.1 129 127).toNat x3) 129 127 (R.1 129 127 + 1)).1) (R.1 129 127 + 1).toNat (R.1 129 127 + 1 - 1).toNat = ah at *
        clear hat j5 hqu hqR hq7 hnew j3
        rw [El_R_doHold]
        repeat' (first | (with_reducible refine ok_of i2 ?_; dsimp only) | (with_reducible refine ok_of v2 ?_; dsimp only) | (with_reducible refine ok_of ka ?_; dsimp only) | with_reducible refine ok_nb (by omega) ?_ | with_reducible refine ok_ib (by omega) ?_ | with_reducible refine ok_t (by omega) ?_ | with_reducible refine ok_e (by omega) ?_ | with_reducible refine ok_if (fun h => ?_) (fun h => ?_) | with_reducible refine ok_s ?_ | with_reducible refine ok_b ?_)
        exact ⟨by omega, Or.inr ⟨by omega, j1.weak rfl, hg.weak rfl, hL2.up⟩⟩
      · -- the first that is IN
        have e1 : (1 : Int).toNat = 1 := rfl
        rw [e62, e63, e65, e1] at hj
        obtain ⟨f1, f2, f3, _⟩ := fst_some hj
        simp only [Bool.and_eq_true, decide_eq_true_eq] at f3
        have hk := hL2.2.2.2.2.2.2.2.2.1 j f1 (by omega) (by omega)
        have hks := hL2.2.2.2.2.2.2.2.1.2.2.2 j f1 (by omega)
        have m5 := hk.1.2.2.2.2.1
        have m11 := hk.2.2.2.2.2.1
        have m12 := hk.2.2.2.2.2.2.1
        clear hk
        have ejn : ((j : Nat) : Int).toNat = j := by omega
        have ts := t_settle (e := e) (N := N) (S := S2) (x := (j : Int)) (p := S2.1 69 j) hN hL2.1 hL2.2.1 hQ2 (by omega) (by omega) (by rw [ejn]; exact m5) (by rw [ejn]; exact hks.1) (by rw [ejn]; exact hks.2.2.2.2.2.2.1) (by rw [ejn]; exact hks.2.2.2.2.2.2.2)
        refine ts.mono (fun y S1 hs => ?_)
        refine ent _ (fun n' hn' => ?_)
        rw [hj, o1_some]
        obtain ⟨n', rfl⟩ : ∃ q, n' = q + 1 := ⟨n' - 1, by omega⟩
        clear hks
        rw [El_R_doHold]
        repeat' (first | (with_reducible refine ok_of i2 ?_; dsimp only) | (with_reducible refine ok_of v2 ?_; dsimp only) | (with_reducible refine hs.mono (fun y' R1 hs => ok_s ?_)) | with_reducible refine ok_nb (by omega) ?_ | with_reducible refine ok_ib (by omega) ?_ | with_reducible refine ok_t (by omega) ?_ | with_reducible refine ok_e (by omega) ?_ | with_reducible refine ok_if (fun h => ?_) (fun h => ?_) | with_reducible refine ok_s ?_ | with_reducible refine ok_b ?_)
        obtain ⟨g1, g2, g3⟩ := q_stl (RelL.x0 hL2 (x := (j : Int)) (by rw [ejn, e65, f3.2]; omega)) hs (by omega) ⟨m11, m12⟩ (by rw [ejn]; exact m5)
        exact ⟨rfl, Or.inr ⟨by omega, (j1.weak rfl).trans g1, (hg.weak rfl).trans g2, g3.up⟩⟩
    · have hres : ∀ y, (y = -3 ∧ ¬ (i = -1 ∧ v = 0 ∧ th ≠ 0) ∨ y = -4 ∧ i = -1 ∧ v = 0 ∧ th ≠ 0 ∧ S.1 62 14 = 200) → Ok (E_R_doHold e N x1 x2 x3 R) (fun y' R1 => Pa S R (fun _ => Ql S R t) y S y' R1) := by
        intro y hy
        refine ent _ (fun n' hn' => ?_)
        obtain ⟨n', rfl⟩ : ∃ q, n' = q + 1 := ⟨n' - 1, by omega⟩
        have hik : i = -1 ↔ k = -1 := by omega
        clear i3
        rw [El_R_doHold]
        repeat' (first | (with_reducible refine ok_of i2 ?_; dsimp only) | (with_reducible refine ok_of v2 ?_; dsimp only) | with_reducible refine ok_nb (by omega) ?_ | with_reducible refine ok_ib (by omega) ?_ | with_reducible refine ok_t (by omega) ?_ | with_reducible refine ok_e (by omega) ?_ | with_reducible refine ok_if (fun h => ?_) (fun h => ?_) | with_reducible refine ok_s ?_ | with_reducible refine ok_b ?_)
        all_goals first | exact ⟨by omega, Or.inl ⟨by omega, rfl, rfl⟩⟩ | (exfalso; omega)
      clear i3 v3
      repeat' (first | (with_reducible refine ok_of i1 ?_; dsimp only) | (with_reducible refine ok_of v1 ?_; dsimp only) | (with_reducible refine ok_of lf1 ?_; dsimp only) | with_reducible refine ok_nb (by omega) ?_ | with_reducible refine ok_ib (by omega) ?_ | with_reducible refine ok_t (by omega) ?_ | with_reducible refine ok_e (by omega) ?_ | with_reducible refine ok_if (fun h => ?_) (fun h => ?_) | with_reducible refine ok_s ?_ | with_reducible refine ok_b ?_)
      all_goals first | exact hres _ (by omega) | (exfalso; omega)
  · have kr := x_isRec0 (e := e) (N := N) hG b2
    have a1 : 1 ≤ x2 → x2 ≤ S.1 3 0 → _ := fun h1 h2 => g4 x2.toNat (by omega) (by omega)
    unfold E_Lending_enterQueue E_R_doHold
    repeat' (first | (with_reducible refine ok_of kr ?_; dsimp only) | with_reducible refine ok_nb (by omega) ?_ | with_reducible refine ok_ib (by omega) ?_ | with_reducible refine ok_t (by omega) ?_ | with_reducible refine ok_e (by omega) ?_ | with_reducible refine ok_if (fun h => ?_) (fun h => ?_) | with_reducible refine ok_s ?_ | with_reducible refine ok_b ?_)
    all_goals first | exact ⟨rfl, Or.inl ⟨by omega, rfl, rfl⟩⟩ | (exfalso; omega)
end
