section
-- a1
theorem l_book {e : w_E} {N : Nat} {R : w_S} {x1 x2 x3 x4 : Int} {P : Int → w_S → Prop} {m : Nat} (h0 : 0 ≤ R.1 129 87 ∧ R.1 129 87 ≤ 100) : ∀ (k n : Nat) (a i : Int), m + k ≤ n → 1 ≤ i → i + k = R.1 129 87 + 1 → (a = 0 ∨ a = 1) → (∀ n', m ≤ n' → Ok (El_R_doBook e N n' 0 [x1, x2, x3, x4, (if a = 1 then 1 else bi (anyb (fun j => decide (R.1 187 j = x2) && decide (R.1 190 j = 0) && decide (R.1 129 12 ≤ R.1 189 j) && decide (R.1 188 j ≤ x4) && decide (x3 ≤ R.1 189 j)) i.toNat k)), R.1 129 87 + 1] [] R) P) → Ok (El_R_doBook e N n 0 [x1, x2, x3, x4, a, i] [] R) P := by
  intro k
  induction k with
  | zero =>
    intro n a i hn hi hk ha hP
    have := hP n (by omega)
    have e1 : R.1 129 87 + 1 = i := by omega
    have e2 : (if a = 1 then (1 : Int) else bi (anyb (fun j => decide (R.1 187 j = x2) && decide (R.1 190 j = 0) && decide (R.1 129 12 ≤ R.1 189 j) && decide (R.1 188 j ≤ x4) && decide (x3 ≤ R.1 189 j)) i.toNat 0)) = a := by
      rcases ha with ha | ha
      · rw [ha]; rfl
      · rw [ha]; rfl
    rw [e1, e2] at this
    exact this
  | succ k ih =>
    intro n a i hn hi hk ha hP
    obtain ⟨n, rfl⟩ : ∃ q, n = q + 1 := ⟨n - 1, by omega⟩
    have e1 : (i + 1).toNat = i.toNat + 1 := by omega
    rw [anyb_it, ← e1] at hP
    have hd : (decide (R.1 187 i.toNat = x2) && decide (R.1 190 i.toNat = 0) && decide (R.1 129 12 ≤ R.1 189 i.toNat) && decide (R.1 188 i.toNat ≤ x4) && decide (x3 ≤ R.1 189 i.toNat)) = true ↔ (R.1 187 i.toNat = x2 ∧ R.1 190 i.toNat = 0 ∧ R.1 129 12 ≤ R.1 189 i.toNat ∧ R.1 188 i.toNat ≤ x4 ∧ x3 ≤ R.1 189 i.toNat) := by
      simp only [Bool.and_eq_true, decide_eq_true_eq]
      omega
    rw [El_R_doBook]
    by_cases hb : a = 1 ∨ (decide (R.1 187 i.toNat = x2) && decide (R.1 190 i.toNat = 0) && decide (R.1 129 12 ≤ R.1 189 i.toNat) && decide (R.1 188 i.toNat ≤ x4) && decide (x3 ≤ R.1 189 i.toNat)) = true
    · have ih2 := ih n 1 (i + 1) (by omega) (by omega) (by omega) (Or.inr rfl) (fun n' hn' => by
        have := hP n' hn'
        rw [if_pos rfl]
        rcases hb with hb | hb
        · rw [if_pos hb] at this
          exact this
        · rw [if_pos hb] at this
          have e3 : (if a = 1 then (1 : Int) else bi true) = 1 := by
            split
            · rfl
            · rfl
          rw [e3] at this
          exact this)
      rw [hd] at hb
      clear hP ih
      repeat' (first | with_reducible refine ok_nb (by omega) ?_ | with_reducible refine ok_ib (by omega) ?_ | with_reducible refine ok_t (by omega) ?_ | with_reducible refine ok_e (by omega) ?_ | with_reducible refine ok_if (fun h => ?_) (fun h => ?_) | with_reducible refine ok_s ?_ | with_reducible refine ok_b ?_)
      all_goals first | exact ih2 | (exfalso; omega)
    · have ha0 : a = 0 := by omega
      have ih2 := ih n 0 (i + 1) (by omega) (by omega) (by omega) (Or.inl rfl) (fun n' hn' => by
        have := hP n' hn'
        rw [if_neg (fun q => hb (Or.inl q)), if_neg (fun q => hb (Or.inr q))] at this
        rw [if_neg (by omega)]
        exact this)
      rw [hd] at hb
      subst ha0
      clear hP ih
      repeat' (first | with_reducible refine ok_nb (by omega) ?_ | with_reducible refine ok_ib (by omega) ?_ | with_reducible refine ok_t (by omega) ?_ | with_reducible refine ok_e (by omega) ?_ | with_reducible refine ok_if (fun h => ?_) (fun h => ?_) | with_reducible refine ok_s ?_ | with_reducible refine ok_b ?_)
      all_goals first | exact ih2 | (exfalso; omega)
theorem t_book {e : w_E} {N : Nat} {S R : w_S} {x1 x2 x3 x4 t : Int} (hN : 1000 ≤ N) (h : RelL S R t) (ht : 0 ≤ t) : Ok (E_Lending_bookCopy e N x1 x2 x3 x4 S) (fun y S1 => Ok (E_R_doBook e N x1 x2 x3 x4 R) (fun y' R1 => Pa S R (fun _ => Ql S R t) y S1 y' R1)) := by
  have h0 := h
  obtain ⟨hT, hP, hQ, hG, hRd, hLn, hBk, hCs, hCd, hLo, hCl, hRu⟩ := h
  have t1 := hT.1
  have t2 := hT.2.1
  have t3 := hT.2.2.1
  have r1 := hRd.1
  have r2 := hRd.2.1
  have r3 := hRd.2.2.1
  have c1 := hCs.1
  have c3 := hCs.2.2.1
  obtain ⟨b1, b2, b3, b4⟩ := id hBk
  by_cases z1 : x1 < 1 ∨ S.1 46 0 < x1 ∨ x2 < 1 ∨ S.1 62 3 < x2 ∨ x3 < S.1 27 1 ∨ x4 < x3 ∨ 50000 < x4 ∨ 30 < x4 - x3
  · unfold E_Lending_bookCopy E_R_doBook
    repeat' (first | with_reducible refine ok_nb (by omega) ?_ | with_reducible refine ok_ib (by omega) ?_ | with_reducible refine ok_t (by omega) ?_ | with_reducible refine ok_e (by omega) ?_ | with_reducible refine ok_if (fun h => ?_) (fun h => ?_) | with_reducible refine ok_s ?_ | with_reducible refine ok_b ?_)
    all_goals first | exact ⟨rfl, Or.inl ⟨by omega, rfl, rfl⟩⟩ | (exfalso; omega)
  have hk := hCd x2.toNat (by omega) (by omega) (by omega)
  have m1 := hk.1.1
  have m3 := hk.1.2.2.1
  have m7 := hk.2.1
  have m8 := hk.2.2.1
  have m15 := hk.2.2.2.2.2.2.2.2.2.1
  clear hk
  have kb := ok_eq (l_isBookedBetween (e := e) (N := N) (S := S) (x1 := x2) (x2 := x3) (x3 := x4) (x4 := S.1 27 1) ⟨b2, b3⟩ (S.1 46 12).toNat N 1 (by omega) (by omega) (by omega))
  have kb' : E_Readers_isBookedBetween e N x2 x3 x4 (S.1 27 1) S = some (bi (anyb (fun j => decide (S.1 58 j = x2) && decide (S.1 61 j = 0) && decide (S.1 27 1 ≤ S.1 60 j) && decide (S.1 59 j ≤ x4) && decide (x3 ≤ S.1 60 j)) 1 (S.1 46 12).toNat), S) := kb
  have eq1 : anyb (fun j => decide (R.1 187 j = x2) && decide (R.1 190 j = 0) && decide (R.1 129 12 ≤ R.1 189 j) && decide (R.1 188 j ≤ x4) && decide (x3 ≤ R.1 189 j)) 1 (R.1 129 87).toNat = anyb (fun j => decide (S.1 58 j = x2) && decide (S.1 61 j = 0) && decide (S.1 27 1 ≤ S.1 60 j) && decide (S.1 59 j ≤ x4) && decide (x3 ≤ S.1 60 j)) 1 (S.1 46 12).toNat := by
    rw [b1]
    refine anyb_congr _ _ (fun k a b => ?_)
    obtain ⟨⟨a1, a2, a3, a4, a5⟩, _⟩ := b4 k a (by omega)
    rw [a2, a3, a4, a5, t3]
  have hbb : ∀ b : Bool, bi b = 0 ∨ bi b = 1 := fun b => by
    unfold bi
    split <;> omega
  have hb01 := hbb (anyb (fun j => decide (S.1 58 j = x2) && decide (S.1 61 j = 0) && decide (S.1 27 1 ≤ S.1 60 j) && decide (S.1 59 j ≤ x4) && decide (x3 ≤ S.1 60 j)) 1 (S.1 46 12).toNat)
  have rl : ∀ (P : Int → w_S → Prop) (a : Int), (a = 0 ∨ a = 1) → (∀ n', 10 ≤ n' → Ok (El_R_doBook e N n' 0 [x1, x2, x3, x4, (if a = 1 then 1 else bi (anyb (fun j => decide (S.1 58 j = x2) && decide (S.1 61 j = 0) && decide (S.1 27 1 ≤ S.1 60 j) && decide (S.1 59 j ≤ x4) && decide (x3 ≤ S.1 60 j)) 1 (S.1 46 12).toNat)), S.1 46 12 + 1] [] R) P) → Ok (El_R_doBook e N N 0 [x1, x2, x3, x4, a, 1] [] R) P := by
    intro P a ha hP
    refine l_book (m := 10) (by omega) (R.1 129 87).toNat N a 1 (by omega) (by omega) (by omega) ha (fun n' hn' => ?_)
    have e1 : (1 : Int).toNat = 1 := rfl
    rw [e1, eq1, b1]
    exact hP n' hn'
  generalize hbk : bi (anyb (fun j => decide (S.1 58 j = x2) && decide (S.1 61 j = 0) && decide (S.1 27 1 ≤ S.1 60 j) && decide (S.1 59 j ≤ x4) && decide (x3 ≤ S.1 60 j)) 1 (S.1 46 12).toNat) = bk at *
  clear eq1 hbb kb hbk
  -- barred by the copy itself
  have ent : ∀ (P : Int → w_S → Prop) (a : Int), ((a = 1 ∧ (S.1 65 x2.toNat = 3 ∨ S.1 65 x2.toNat = 1 ∧ x3 ≤ S.1 52 (S.1 67 x2.toNat).toNat)) ∨ (a = 0 ∧ ¬ (S.1 65 x2.toNat = 3 ∨ S.1 65 x2.toNat = 1 ∧ x3 ≤ S.1 52 (S.1 67 x2.toNat).toNat))) → Ok (El_R_doBook e N N 0 [x1, x2, x3, x4, a, 1] [] R) P → Ok (E_R_doBook e N x1 x2 x3 x4 R) P := by
    intro P a ha hP
    unfold E_R_doBook
    rw [m1, m3]
    have hdu : S.1 65 x2.toNat = 1 → R.1 206 (S.1 67 x2.toNat).toNat = S.1 52 (S.1 67 x2.toNat).toNat := fun q => by
      obtain ⟨y1, y2, y3, _⟩ := m15 q
      exact (hLn.2.2.2 (S.1 67 x2.toNat).toNat (by omega) (by omega)).1.2.2.1
    have hlr : S.1 65 x2.toNat = 1 → 1 ≤ S.1 67 x2.toNat ∧ S.1 67 x2.toNat ≤ 600 := fun q => by
      obtain ⟨y1, y2, y3, _⟩ := m15 q
      have := hLn.2.2.1
      omega
    clear m15
    rcases ha with ⟨ha, hb⟩ | ⟨ha, hb⟩
    · subst ha
      repeat' (first | with_reducible refine ok_nb (by omega) ?_ | with_reducible refine ok_ib (by omega) ?_ | with_reducible refine ok_t (by omega) ?_ | with_reducible refine ok_e (by omega) ?_ | with_reducible refine ok_if (fun h => ?_) (fun h => ?_) | with_reducible refine ok_s ?_ | with_reducible refine ok_b ?_)
      all_goals first | exact hP | (exfalso; omega)
    · subst ha
      repeat' (first | with_reducible refine ok_nb (by omega) ?_ | with_reducible refine ok_ib (by omega) ?_ | with_reducible refine ok_t (by omega) ?_ | with_reducible refine ok_e (by omega) ?_ | with_reducible refine ok_if (fun h => ?_) (fun h => ?_) | with_reducible refine ok_s ?_ | with_reducible refine ok_b ?_)
      all_goals first | exact hP | (exfalso; omega)
  have hlr : S.1 65 x2.toNat = 1 → 1 ≤ S.1 67 x2.toNat ∧ S.1 67 x2.toNat ≤ 600 := fun q => by
    obtain ⟨y1, y2, y3, _⟩ := m15 q
    have := hLn.2.2.1
    omega
  clear m15
  by_cases z2 : S.1 65 x2.toNat = 3 ∨ S.1 65 x2.toNat = 1 ∧ x3 ≤ S.1 52 (S.1 67 x2.toNat).toNat
  · have hr : Ok (E_R_doBook e N x1 x2 x3 x4 R) (fun y' R1 => Pa S R (fun _ => Ql S R t) (-3) S y' R1) := by
      refine ent _ 1 (Or.inl ⟨rfl, z2⟩) (rl _ 1 (Or.inr rfl) (fun n' hn' => ?_))
      obtain ⟨n', rfl⟩ : ∃ q, n' = q + 1 := ⟨n' - 1, by omega⟩
      rw [if_pos rfl, El_R_doBook]
      repeat' (first | with_reducible refine ok_nb (by omega) ?_ | with_reducible refine ok_ib (by omega) ?_ | with_reducible refine ok_t (by omega) ?_ | with_reducible refine ok_e (by omega) ?_ | with_reducible refine ok_if (fun h => ?_) (fun h => ?_) | with_reducible refine ok_s ?_ | with_reducible refine ok_b ?_)
      exact ⟨rfl, Or.inl ⟨by omega, rfl, rfl⟩⟩
    unfold E_Lending_bookCopy
    repeat' (first | with_reducible refine ok_nb (by omega) ?_ | with_reducible refine ok_ib (by omega) ?_ | with_reducible refine ok_t (by omega) ?_ | with_reducible refine ok_e (by omega) ?_ | with_reducible refine ok_if (fun h => ?_) (fun h => ?_) | with_reducible refine ok_s ?_ | with_reducible refine ok_b ?_)
    all_goals first | exact hr | (exfalso; omega)
  · have hr : ∀ P, (bk ≠ 0 → P (-3) (w_put R 129 4 1)) → (bk = 0 → S.1 46 12 = 100 → P (-4) (w_put R 129 4 1)) → (bk = 0 → S.1 46 12 < 100 → P (S.1 46 12 + 1) (w_put (w_put (w_put (w_put (w_put (w_put R 129 87 (S.1 46 12 + 1)) 186 (S.1 46 12 + 1).toNat x1) 187 (S.1 46 12 + 1).toNat x2) 188 (S.1 46 12 + 1).toNat x3) 189 (S.1 46 12 + 1).toNat x4) 190 (S.1 46 12 + 1).toNat 0)) → Ok (E_R_doBook e N x1 x2 x3 x4 R) P := by
      intro P p1 p2 p3
      refine ent _ 0 (Or.inr ⟨rfl, z2⟩) (rl _ 0 (Or.inl rfl) (fun n' hn' => ?_))
      obtain ⟨n', rfl⟩ : ∃ q, n' = q + 1 := ⟨n' - 1, by omega⟩
      rw [if_neg (by omega), El_R_doBook, b1]
      repeat' (first | with_reducible refine ok_nb (by omega) ?_ | with_reducible refine ok_ib (by omega) ?_ | with_reducible refine ok_t (by omega) ?_ | with_reducible refine ok_e (by omega) ?_ | with_reducible refine ok_if (fun h => ?_) (fun h => ?_) | with_reducible refine ok_s ?_ | with_reducible refine ok_b ?_)
      all_goals first | exact p1 (by omega) | exact p2 (by omega) (by omega) | exact p3 (by omega) (by omega)
    clear ent rl
    have fin : S.1 46 12 < 100 → Ql S R t (w_put (w_put (w_put (w_put (w_put (w_put S 46 12 (S.1 46 12 + 1)) 57 (S.1 46 12 + 1).toNat x1) 58 (S.1 46 12 + 1).toNat x2) 59 (S.1 46 12 + 1).toNat x3) 60 (S.1 46 12 + 1).toNat x4) 61 (S.1 46 12 + 1).toNat 0) (w_put (w_put (w_put (w_put (w_put (w_put R 129 87 (S.1 46 12 + 1)) 186 (S.1 46 12 + 1).toNat x1) 187 (S.1 46 12 + 1).toNat x2) 188 (S.1 46 12 + 1).toNat x3) 189 (S.1 46 12 + 1).toNat x4) 190 (S.1 46 12 + 1).toNat 0) := by
      intro hlt
      have hf : frm [57, 58, 59, 60, 61] [46] [(46, 12)] S (w_put (w_put (w_put (w_put (w_put (w_put S 46 12 (S.1 46 12 + 1)) 57 (S.1 46 12 + 1).toNat x1) 58 (S.1 46 12 + 1).toNat x2) 59 (S.1 46 12 + 1).toNat x3) 60 (S.1 46 12 + 1).toNat x4) 61 (S.1 46 12 + 1).toNat 0) := by repeat (first | exact frm.refl _ _ _ _ | refine frm.put ?_ rfl | refine frm.puto ?_ rfl rfl | refine frm.arr ?_ rfl)
      have hg : frm [186, 187, 188, 189, 190] [129] [(129, 87)] R (w_put (w_put (w_put (w_put (w_put (w_put R 129 87 (S.1 46 12 + 1)) 186 (S.1 46 12 + 1).toNat x1) 187 (S.1 46 12 + 1).toNat x2) 188 (S.1 46 12 + 1).toNat x3) 189 (S.1 46 12 + 1).toNat x4) 190 (S.1 46 12 + 1).toNat 0) := by repeat (first | exact frm.refl _ _ _ _ | refine frm.put ?_ rfl | refine frm.puto ?_ rfl rfl | refine frm.arr ?_ rfl)
      refine ⟨hf.weak rfl, hg.weak rfl, hT.fr hf hg rfl, hP.fr hf hg rfl, hQ.fr hf hg rfl, hG.fr hf hg rfl, (hRd.fr hf hg rfl).up, hLn.fr hf hg rfl, ?_, hCs.fr hf hg rfl, hCd.fr hf hg rfl, hLo.fr hf hg rfl, hCl.fr hf hg rfl, hRu.fr hf hg rfl⟩
      simp only [RelBk, w_put_r, w_arr_r, reduceIte, Nat.reduceEqDiff, pt_at]
      refine ⟨trivial, by omega, by omega, fun k a b => ?_⟩
      by_cases e : k = (S.1 46 12 + 1).toNat
      · simp only [if_pos e]
        (repeat' apply And.intro) <;> (try simp only [reduceIte]) <;> first | trivial | omega | (intro hh; omega)
      · simp only [if_neg e]
        exact b4 k a (by omega)
    unfold E_Lending_bookCopy
    repeat' (first | (with_reducible refine ok_of kb' ?_; dsimp only) | with_reducible refine ok_nb (by omega) ?_ | with_reducible refine ok_ib (by omega) ?_ | with_reducible refine ok_t (by omega) ?_ | with_reducible refine ok_e (by omega) ?_ | with_reducible refine ok_if (fun h => ?_) (fun h => ?_) | with_reducible refine ok_s ?_ | with_reducible refine ok_b ?_)
    all_goals first | (exfalso; omega) | skip
    all_goals
      refine hr _ (fun q => ?_) (fun q q2 => ?_) (fun q q2 => ?_)
      all_goals first | (exfalso; omega) | exact ⟨rfl, Or.inl ⟨by omega, rfl, rfl⟩⟩ | exact ⟨rfl, Or.inr ⟨by omega, fin (by omega)⟩⟩
end
section
-- a2
theorem q_state {e : w_E} {N : Nat} {S R : w_S} {x1 x2 t : Int} (h : RelL S R t) : Ok (E_C_state e N x1 x2 S) (fun y S1 => Ok (E_R_state e N x1 x2 R) (fun y' R1 => y' = y ∧ S1 = S ∧ R1 = R)) := by
  have c1 := h.2.2.2.2.2.2.2.1.1
  have c3 := h.2.2.2.2.2.2.2.1.2.2.1
  have l3 := h.2.2.2.2.2.1.2.2.1
  unfold E_C_state E_Lending_tellState E_R_state
  simp only [e_sw_cons, e_sw_nil]
  by_cases b : x1 < 1 ∨ S.1 62 3 < x1
  · repeat' (first | with_reducible refine ok_nb (by omega) ?_ | with_reducible refine ok_ib (by omega) ?_ | with_reducible refine ok_t (by omega) ?_ | with_reducible refine ok_e (by omega) ?_ | with_reducible refine ok_if (fun h => ?_) (fun h => ?_) | with_reducible refine ok_s ?_ | with_reducible refine ok_b ?_)
    all_goals first | exact ⟨rfl, rfl, rfl⟩ | (exfalso; omega)
  obtain ⟨⟨m1, m2, m3, m4, m5, m6⟩, m7, m8, m9, m10, m11, m12, m13, m14, m15, m16, m17, m18⟩ := h.2.2.2.2.2.2.2.2.1 x1.toNat (by omega) (by omega) (by omega)
  have hdu : S.1 65 x1.toNat = 1 → R.1 206 (S.1 67 x1.toNat).toNat = S.1 52 (S.1 67 x1.toNat).toNat := fun q => by
    obtain ⟨y1, y2, y3, _⟩ := m15 q
    exact (h.2.2.2.2.2.1.2.2.2 (S.1 67 x1.toNat).toNat (by omega) (by omega)).1.2.2.1
  rw [m1, m2, m3, m4]
  repeat' (first | with_reducible refine ok_nb (by omega) ?_ | with_reducible refine ok_ib (by omega) ?_ | with_reducible refine ok_t (by omega) ?_ | with_reducible refine ok_e (by omega) ?_ | with_reducible refine ok_if (fun h => ?_) (fun h => ?_) | with_reducible refine ok_s ?_ | with_reducible refine ok_b ?_)
  all_goals exact ⟨by omega, rfl, rfl⟩
theorem q_where {e : w_E} {N : Nat} {S R : w_S} {x1 x2 t : Int} (h : RelL S R t) : Ok (E_C_where e N x1 x2 S) (fun y S1 => Ok (E_R_where e N x1 x2 R) (fun y' R1 => y' = y ∧ S1 = S ∧ R1 = R)) := by
  have c1 := h.2.2.2.2.2.2.2.1.1
  have c3 := h.2.2.2.2.2.2.2.1.2.2.1
  unfold E_C_where E_Lending_tellPlace E_R_where
  simp only [e_sw_cons, e_sw_nil]
  by_cases b : x1 < 1 ∨ S.1 62 3 < x1
  · repeat' (first | with_reducible refine ok_nb (by omega) ?_ | with_reducible refine ok_ib (by omega) ?_ | with_reducible refine ok_t (by omega) ?_ | with_reducible refine ok_e (by omega) ?_ | with_reducible refine ok_if (fun h => ?_) (fun h => ?_) | with_reducible refine ok_s ?_ | with_reducible refine ok_b ?_)
    all_goals first | exact ⟨rfl, rfl, rfl⟩ | (exfalso; omega)
  obtain ⟨⟨m1, m2, m3, m4, m5, m6⟩, _⟩ := h.2.2.2.2.2.2.2.2.1 x1.toNat (by omega) (by omega) (by omega)
  have hs := (h.2.2.2.2.2.2.2.1.2.2.2 x1.toNat (by omega) (by omega)).2.2.2.2.2.2.1
  rw [m1, m5, hs]
  repeat' (first | with_reducible refine ok_nb (by omega) ?_ | with_reducible refine ok_ib (by omega) ?_ | with_reducible refine ok_t (by omega) ?_ | with_reducible refine ok_e (by omega) ?_ | with_reducible refine ok_if (fun h => ?_) (fun h => ?_) | with_reducible refine ok_s ?_ | with_reducible refine ok_b ?_)
  all_goals first | exact ⟨rfl, rfl, rfl⟩ | exact ⟨by omega, rfl, rfl⟩
theorem q_owes {e : w_E} {N : Nat} {S R : w_S} {x1 t : Int} (h : RelL S R t) : Ok (E_C_owes e N x1 S) (fun y S1 => Ok (E_R_owes e N x1 R) (fun y' R1 => y' = y ∧ S1 = S ∧ R1 = R)) := by
  obtain ⟨r1, r2, r3, r4⟩ := h.2.2.2.2.1
  have a1 : 1 ≤ x1 → x1 ≤ S.1 46 0 → _ := fun h1 h2 => (r4 x1.toNat (by omega) (by omega)).2.2.2.1
  unfold E_C_owes E_R_owes
  repeat' (first | with_reducible refine ok_nb (by omega) ?_ | with_reducible refine ok_ib (by omega) ?_ | with_reducible refine ok_t (by omega) ?_ | with_reducible refine ok_e (by omega) ?_ | with_reducible refine ok_if (fun h => ?_) (fun h => ?_) | with_reducible refine ok_s ?_ | with_reducible refine ok_b ?_)
  all_goals exact ⟨by omega, rfl, rfl⟩
theorem l_queuedReader {e : w_E} {N : Nat} {S : w_S} {x1 x2 : Int} (h0 : 0 ≤ S.1 62 14 ∧ S.1 62 14 ≤ 200) : ∀ (k n : Nat) (x3 i : Int), k < n → 0 ≤ i → i + k = S.1 62 14 → 0 ≤ x3 → x3 + k ≤ 1000 → El_Lending_queuedReader e N n 0 [x1, x2, x3, i] [] S = some ((match (if x3 ≤ x2 then (qof x1 (lf (qc S.1) i.toNat k))[(x2 - x3).toNat]? else none) with | some z => z.2.1 | none => -1), S) := by
  intro k
  induction k with
  | zero =>
    intro n x3 i hn hi hk h3 h4
    obtain ⟨n, rfl⟩ : ∃ q, n = q + 1 := ⟨n - 1, by omega⟩
    refine ok_eq ?_
    rw [El_Lending_queuedReader]
    repeat' (first | with_reducible refine ok_nb (by omega) ?_ | with_reducible refine ok_ib (by omega) ?_ | with_reducible refine ok_t (by omega) ?_ | with_reducible refine ok_e (by omega) ?_ | with_reducible refine ok_if (fun h => ?_) (fun h => ?_) | with_reducible refine ok_s ?_ | with_reducible refine ok_b ?_)
    refine ⟨?_, rfl⟩
    have : qof x1 (lf (qc S.1) i.toNat 0) = [] := rfl
    rw [this]
    split
    · next z hz =>
      split at hz
      · simp at hz
      · cases hz
    · rfl
  | succ k ih =>
    intro n x3 i hn hi hk h3 h4
    obtain ⟨n, rfl⟩ : ∃ q, n = q + 1 := ⟨n - 1, by omega⟩
    have e1 : (i + 1).toNat = i.toNat + 1 := by omega
    refine ok_eq ?_
    rw [El_Lending_queuedReader, lf]
    by_cases b : S.1 73 i.toNat = x1
    · have hq : qof x1 (qc S.1 i.toNat :: lf (qc S.1) (i.toNat + 1) k) = qc S.1 i.toNat :: qof x1 (lf (qc S.1) (i.toNat + 1) k) := by
        unfold qof
        rw [List.filter_cons_of_pos]
        rw [decide_eq_true_eq]
        exact b
      rw [hq]
      by_cases b2 : x3 = x2
      · have e2 : (x2 - x3).toNat = 0 := by omega
        have hx : x3 ≤ x2 := by omega
        rw [if_pos hx, e2, List.getElem?_cons_zero]
        repeat' (first | with_reducible refine ok_nb (by omega) ?_ | with_reducible refine ok_ib (by omega) ?_ | with_reducible refine ok_t (by omega) ?_ | with_reducible refine ok_e (by omega) ?_ | with_reducible refine ok_if (fun h => ?_) (fun h => ?_) | with_reducible refine ok_s ?_ | with_reducible refine ok_b ?_)
        exact ⟨rfl, rfl⟩
      · have ih2 := ih n (x3 + 1) (i + 1) (by omega) (by omega) (by omega) (by omega) (by omega)
        rw [e1] at ih2
        have e3 : (if x3 + 1 ≤ x2 then (qof x1 (lf (qc S.1) (i.toNat + 1) k))[(x2 - (x3 + 1)).toNat]? else none) = (if x3 ≤ x2 then (qc S.1 i.toNat :: qof x1 (lf (qc S.1) (i.toNat + 1) k))[(x2 - x3).toNat]? else none) := by
          by_cases c : x3 ≤ x2
          · have e4 : (x2 - x3).toNat = (x2 - (x3 + 1)).toNat + 1 := by omega
            rw [if_pos c, if_pos (by omega), e4, List.getElem?_cons_succ]
          · rw [if_neg c, if_neg (by omega)]
        rw [e3] at ih2
        repeat' (first | with_reducible refine ok_nb (by omega) ?_ | with_reducible refine ok_ib (by omega) ?_ | with_reducible refine ok_t (by omega) ?_ | with_reducible refine ok_e (by omega) ?_ | with_reducible refine ok_if (fun h => ?_) (fun h => ?_) | with_reducible refine ok_s ?_ | with_reducible refine ok_b ?_)
        exact ok_of ih2 ⟨rfl, rfl⟩
    · have hq : qof x1 (qc S.1 i.toNat :: lf (qc S.1) (i.toNat + 1) k) = qof x1 (lf (qc S.1) (i.toNat + 1) k) := by
        unfold qof
        rw [List.filter_cons_of_neg]
        rw [decide_eq_true_eq]
        exact b
      rw [hq]
      have ih2 := ih n x3 (i + 1) (by omega) (by omega) (by omega) (by omega) (by omega)
      rw [e1] at ih2
      repeat' (first | with_reducible refine ok_nb (by omega) ?_ | with_reducible refine ok_ib (by omega) ?_ | with_reducible refine ok_t (by omega) ?_ | with_reducible refine ok_e (by omega) ?_ | with_reducible refine ok_if (fun h => ?_) (fun h => ?_) | with_reducible refine ok_s ?_ | with_reducible refine ok_b ?_)
      exact ok_of ih2 ⟨rfl, rfl⟩
theorem q_queue {e : w_E} {N : Nat} {S R : w_S} {x1 x2 t : Int} (hN : 1000 ≤ N) (h : RelL S R t) : Ok (E_C_queue e N x1 x2 S) (fun y S1 => Ok (E_R_queue e N x1 x2 R) (fun y' R1 => y' = y ∧ S1 = S ∧ R1 = R)) := by
  obtain ⟨q1, q2, q3, q4, q5, q6⟩ := h.2.2.1
  obtain ⟨v, v1, v2⟩ := x_inQueue (e := e) (N := N) (S := R) (x1 := x1) (x2 := x2) (by omega) (by omega) q5
  have k1 := l_queuedReader (e := e) (N := N) (x1 := x1) (x2 := x2) ⟨q1, q2⟩ (S.1 62 14).toNat N 0 0 (by omega) (by omega) (by omega) (by omega) (by omega)
  have k2 : E_Lending_queuedReader e N x1 x2 S = some ((match (if 0 ≤ x2 then (qof x1 (QC S.1))[(x2 - 0).toNat]? else none) with | some z => z.2.1 | none => -1), S) := k1
  rw [Int.sub_zero] at k2
  rw [← q4] at v2
  unfold E_C_queue E_R_queue
  rcases v2 with ⟨a, b⟩ | ⟨a, b, c, d, _⟩
  · have k3 : E_Lending_queuedReader e N x1 x2 S = some (-1, S) := by
      rw [k2]
      by_cases c : 0 ≤ x2
      · rw [if_pos c, b c]
      · rw [if_neg c]
    repeat' (first | (with_reducible refine ok_of k3 ?_; dsimp only) | (with_reducible refine ok_of v1 ?_; dsimp only) | with_reducible refine ok_nb (by omega) ?_ | with_reducible refine ok_ib (by omega) ?_ | with_reducible refine ok_t (by omega) ?_ | with_reducible refine ok_e (by omega) ?_ | with_reducible refine ok_if (fun h => ?_) (fun h => ?_) | with_reducible refine ok_s ?_ | with_reducible refine ok_b ?_)
    exact ⟨rfl, rfl, rfl⟩
  · have k3 : E_Lending_queuedReader e N x1 x2 S = some (R.1 215 v.toNat, S) := by
      rw [k2, if_pos c, d]
      rfl
    repeat' (first | (with_reducible refine ok_of k3 ?_; dsimp only) | (with_reducible refine ok_of v1 ?_; dsimp only) | with_reducible refine ok_nb (by omega) ?_ | with_reducible refine ok_ib (by omega) ?_ | with_reducible refine ok_t (by omega) ?_ | with_reducible refine ok_e (by omega) ?_ | with_reducible refine ok_if (fun h => ?_) (fun h => ?_) | with_reducible refine ok_s ?_ | with_reducible refine ok_b ?_)
    exact ⟨rfl, rfl, rfl⟩
theorem x_open1 {e : w_E} {N : Nat} {S R : w_S} {t : Int} {c : Nat} (hN : 1000 ≤ N) (h : RelL S R t) (hc : 1 ≤ c) (hc2 : (c : Int) ≤ S.1 62 3) (hs : S.1 65 c = 1) : E_Readers_openLoansOf e N c S = some (1, S) ∧ cnt (fun j => decide (R.1 204 j = (c : Int)) && decide (R.1 210 j = 0)) 1 (R.1 129 114).toNat = 1 := by
  obtain ⟨l1, l2, l3, l4⟩ := h.2.2.2.2.2.1
  have hLo := h.2.2.2.2.2.2.2.2.2.1
  obtain ⟨z1, z2, z3, z4, z5, z6⟩ := (h.2.2.2.2.2.2.2.2.1 c hc hc2 (by omega)).2.2.2.2.2.2.2.2.2.1 hs
  have k := ok_eq (l_openLoansOf (e := e) (N := N) (S := S) (x1 := c) ⟨l2, l3⟩ (S.1 46 4).toNat N 0 1 (by omega) (by omega) (by omega) (by omega) (by omega))
  have e1 : (1 : Int).toNat = 1 := rfl
  rw [Int.zero_add, e1] at k
  have hu : cnt (fun j => decide (S.1 51 j = (c : Int)) && decide (S.1 56 j = 0)) 1 (S.1 46 4).toNat = 1 := by
    rw [cnt_uniq]
    · have : anyb (fun j => decide (S.1 51 j = (c : Int)) && decide (S.1 56 j = 0)) 1 (S.1 46 4).toNat = true := by
        rw [anyb_true]
        exact ⟨(S.1 67 c).toNat, by omega, by omega, by simp [z4, z6]⟩
      rw [this]
      rfl
    · intro i j a b d f
      simp only [Bool.and_eq_true, decide_eq_true_eq] at f
      rw [Bool.eq_false_iff]
      intro q
      simp only [Bool.and_eq_true, decide_eq_true_eq] at q
      have o1 := (hLo i a (by omega) f.2).2.2
      have o2 := (hLo j (by omega) (by omega) q.2).2.2
      rw [f.1] at o1
      rw [q.1] at o2
      omega
  rw [hu] at k
  refine ⟨k, ?_⟩
  rw [← hu, l1]
  refine cnt_congr _ _ (fun j a b => ?_)
  obtain ⟨⟨m1, m2, m3, m4, m5, m6, m7⟩, _⟩ := l4 j a (by omega)
  rw [m2, m7]
theorem q_broken0 {e : w_E} {N : Nat} {S R : w_S} {t : Int} (hN : 1000000 ≤ N) (h : RelL S R t) : E_Lending_wronglyLent e N S = some (0, S) ∧ E_R_badlyLent e N R = some (0, R) := by
  obtain ⟨c1, c2, c3, c4⟩ := h.2.2.2.2.2.2.2.1
  obtain ⟨l1, l2, l3, _⟩ := h.2.2.2.2.2.1
  constructor
  · have key : ∀ (k n c : Nat), k < n → (c : Int) + k = S.1 62 3 + 1 → 1 ≤ c → El_Lending_wronglyLent e N n 0 [0, c] [] S = some (0, S) := by
      intro k
      induction k with
      | zero =>
        intro n c hn hk hc
        obtain ⟨n, rfl⟩ : ∃ q, n = q + 1 := ⟨n - 1, by omega⟩
        rw [El_Lending_wronglyLent, if_pos (by omega)]
      | succ k ih =>
        intro n c hn hk hc
        obtain ⟨n, rfl⟩ : ∃ q, n = q + 1 := ⟨n - 1, by omega⟩
        have e5 : (c : Int) + 1 = ((c + 1 : Nat) : Int) := by omega
        have ih2 := ih n (c + 1) (by omega) (by omega) (by omega)
        refine ok_eq ?_
        rw [El_Lending_wronglyLent, Int.toNat_natCast]
        by_cases b : S.1 65 c = 1
        · have o := (x_open1 (e := e) (N := N) (by omega) h hc (by omega) b).1
          repeat' (first | (with_reducible refine ok_of o ?_; dsimp only) | with_reducible refine ok_t trivial ?_ | with_reducible refine ok_nb (by omega) ?_ | with_reducible refine ok_ib (by omega) ?_ | with_reducible refine ok_t (by omega) ?_ | with_reducible refine ok_e (by omega) ?_ | with_reducible refine ok_if (fun h => ?_) (fun h => ?_) | with_reducible refine ok_s ?_ | with_reducible refine ok_b ?_)
          all_goals first | (rw [Int.add_zero, e5]; exact ok_of ih2 ⟨rfl, rfl⟩) | (exfalso; omega)
        · repeat' (first | with_reducible refine ok_nb (by omega) ?_ | with_reducible refine ok_ib (by omega) ?_ | with_reducible refine ok_t (by omega) ?_ | with_reducible refine ok_e (by omega) ?_ | with_reducible refine ok_if (fun h => ?_) (fun h => ?_) | with_reducible refine ok_s ?_ | with_reducible refine ok_b ?_)
          rw [Int.add_zero, e5]
          exact ok_of ih2 ⟨rfl, rfl⟩
    exact key (S.1 62 3).toNat N 1 (by omega) (by omega) (by omega)
  · have inner : ∀ (k n l c : Nat) (by' : Int) (P : Int → w_S → Prop) (m : Nat), m + k ≤ n → (l : Int) + k = S.1 46 4 + 1 → 1 ≤ l → 0 ≤ by' → by' + k ≤ 10000 → (∀ n', m ≤ n' → Ok (El_R_badlyLent e N n' 1 [0, c, by' + cnt (fun j => decide (R.1 204 j = (c : Int)) && decide (R.1 210 j = 0)) l k, S.1 46 4 + 1] [] R) P) → Ok (El_R_badlyLent e N n 1 [0, c, by', l] [] R) P := by
      intro k
      induction k with
      | zero =>
        intro n l c by' P m hn hk hl hb hb2 hP
        have := hP n (by omega)
        have e1 : S.1 46 4 + 1 = (l : Int) := by omega
        rw [cnt, Int.add_zero, e1] at this
        exact this
      | succ k ih =>
        intro n l c by' P m hn hk hl hb hb2 hP
        obtain ⟨n, rfl⟩ : ∃ q, n = q + 1 := ⟨n - 1, by omega⟩
        have e5 : (l : Int) + 1 = ((l + 1 : Nat) : Int) := by omega
        rw [cnt] at hP
        have hd : (decide (R.1 204 l = (c : Int)) && decide (R.1 210 l = 0)) = true ↔ (R.1 204 l = (c : Int) ∧ R.1 210 l = 0) := by simp
        rw [El_R_badlyLent]
        simp only [Int.toNat_natCast]
        by_cases b : R.1 204 l = (c : Int) ∧ R.1 210 l = 0
        · rw [if_pos (hd.mpr b)] at hP
          have ih2 := ih n (l + 1) c (by' + 1) P m (by omega) (by omega) (by omega) (by omega) (by omega) (fun n' hn' => by
            have := hP n' hn'
            rw [← Int.add_assoc] at this
            exact this)
          clear ih hP
          repeat' (first | with_reducible refine ok_nb (by omega) ?_ | with_reducible refine ok_ib (by omega) ?_ | with_reducible refine ok_t (by omega) ?_ | with_reducible refine ok_e (by omega) ?_ | with_reducible refine ok_if (fun h => ?_) (fun h => ?_) | with_reducible refine ok_s ?_ | with_reducible refine ok_b ?_)
          all_goals first | (rw [e5]; exact ih2) | (exfalso; omega)
        · rw [if_neg (fun q => b (hd.mp q))] at hP
          have ih2 := ih n (l + 1) c by' P m (by omega) (by omega) (by omega) (by omega) (by omega) (fun n' hn' => by
            have := hP n' hn'
            rw [Int.zero_add] at this
            exact this)
          clear ih hP
          repeat' (first | with_reducible refine ok_nb (by omega) ?_ | with_reducible refine ok_ib (by omega) ?_ | with_reducible refine ok_t (by omega) ?_ | with_reducible refine ok_e (by omega) ?_ | with_reducible refine ok_if (fun h => ?_) (fun h => ?_) | with_reducible refine ok_s ?_ | with_reducible refine ok_b ?_)
          all_goals first | (rw [Int.add_zero, e5]; exact ih2) | (exfalso; omega)
    have key : ∀ (k n c : Nat), 1000 * k + 5 ≤ n → (c : Int) + k = S.1 62 3 + 1 → 1 ≤ c → El_R_badlyLent e N n 0 [0, c] [] R = some (0, R) := by
      intro k
      induction k with
      | zero =>
        intro n c hn hk hc
        obtain ⟨n, rfl⟩ : ∃ q, n = q + 1 := ⟨n - 1, by omega⟩
        rw [El_R_badlyLent, if_pos (by omega)]
      | succ k ih =>
        intro n c hn hk hc
        obtain ⟨n, rfl⟩ : ∃ q, n = q + 1 := ⟨n - 1, by omega⟩
        have e5 : (c : Int) + 1 = ((c + 1 : Nat) : Int) := by omega
        have m1 := (h.2.2.2.2.2.2.2.2.1 c hc (by omega) (by omega)).1.1
        refine ok_eq ?_
        rw [El_R_badlyLent]
        repeat' (first | with_reducible refine ok_nb (by omega) ?_ | with_reducible refine ok_ib (by omega) ?_ | with_reducible refine ok_t (by omega) ?_ | with_reducible refine ok_e (by omega) ?_ | with_reducible refine ok_if (fun h => ?_) (fun h => ?_) | with_reducible refine ok_s ?_ | with_reducible refine ok_b ?_)
        have e0 : El_R_badlyLent e N n 1 [0, (c : Int), 0, 1] [] R = El_R_badlyLent e N n 1 [0, (c : Int), 0, ((1 : Nat) : Int)] [] R := rfl
        rw [e0]
        refine inner (S.1 46 4).toNat n 1 c 0 _ (1000 * k + 10) (by omega) (by omega) (by omega) (by omega) (by omega) (fun n' hn' => ?_)
        obtain ⟨n', rfl⟩ : ∃ q, n' = q + 1 := ⟨n' - 1, by omega⟩
        have ih2 := ih n' (c + 1) (by omega) (by omega) (by omega)
        rw [Int.zero_add, El_R_badlyLent, Int.toNat_natCast, m1]
        by_cases b : S.1 65 c = 1
        · have o := (x_open1 (e := e) (N := N) (by omega) h hc (by omega) b).2
          rw [l1] at o
          rw [o]
          repeat' (first | with_reducible refine ok_t trivial ?_ | with_reducible refine ok_nb (by omega) ?_ | with_reducible refine ok_ib (by omega) ?_ | with_reducible refine ok_t (by omega) ?_ | with_reducible refine ok_e (by omega) ?_ | with_reducible refine ok_if (fun h => ?_) (fun h => ?_) | with_reducible refine ok_s ?_ | with_reducible refine ok_b ?_)
          all_goals first | (rw [Int.add_zero, e5]; exact ok_of ih2 ⟨rfl, rfl⟩) | (exfalso; omega)
        · repeat' (first | with_reducible refine ok_nb (by omega) ?_ | with_reducible refine ok_ib (by omega) ?_ | with_reducible refine ok_t (by omega) ?_ | with_reducible refine ok_e (by omega) ?_ | with_reducible refine ok_if (fun h => ?_) (fun h => ?_) | with_reducible refine ok_s ?_ | with_reducible refine ok_b ?_)
          all_goals first | (rw [Int.add_zero, e5]; exact ok_of ih2 ⟨rfl, rfl⟩) | (exfalso; omega)
    exact key (S.1 62 3).toNat N 1 (by omega) (by omega) (by omega)
theorem q_broken1 {e : w_E} {N : Nat} {S R : w_S} {t : Int} (hN : 1000 ≤ N) (h : RelL S R t) : ∃ v : Int, E_Lending_wronglyIn e N S = some (v, S) ∧ E_R_idle e N R = some (v, R) := by
  obtain ⟨c1, c2, c3, c4⟩ := h.2.2.2.2.2.2.2.1
  have key : ∀ (k n n' c : Nat) (a : Int), k < n → k < n' → (c : Int) + k = S.1 62 3 + 1 → 1 ≤ c → 0 ≤ a → a + k ≤ 1000 → ∃ v : Int, El_Lending_wronglyIn e N n 0 [a, c] [] S = some (v, S) ∧ El_R_idle e N n' 0 [a, c] [] R = some (v, R) := by
    intro k
    induction k with
    | zero =>
      intro n n' c a hn hn' hk hc ha ha2
      obtain ⟨n, rfl⟩ : ∃ q, n = q + 1 := ⟨n - 1, by omega⟩
      obtain ⟨n', rfl⟩ : ∃ q, n' = q + 1 := ⟨n' - 1, by omega⟩
      refine ⟨a, ?_, ?_⟩
      · rw [El_Lending_wronglyIn, if_pos (by omega)]
      · rw [El_R_idle, if_pos (by omega)]
    | succ k ih =>
      intro n n' c a hn hn' hk hc ha ha2
      obtain ⟨n, rfl⟩ : ∃ q, n = q + 1 := ⟨n - 1, by omega⟩
      obtain ⟨n', rfl⟩ : ∃ q, n' = q + 1 := ⟨n' - 1, by omega⟩
      have e5 : (c : Int) + 1 = ((c + 1 : Nat) : Int) := by omega
      have m1 := (h.2.2.2.2.2.2.2.2.1 c hc (by omega) (by omega)).1.1
      have s1 := (c4 c hc (by omega)).1
      obtain ⟨w, v, w1, w2, w3, w4, w5⟩ := x_waits (e := e) (N := N) (x1 := S.1 63 c) hN h.2.2.1
      rw [← s1] at w2
      by_cases b : S.1 65 c = 0 ∧ 0 < w
      · obtain ⟨u, u1, u2⟩ := ih n n' (c + 1) (a + 1) (by omega) (by omega) (by omega) (by omega) (by omega) (by omega)
        have hv : v ≠ -1 := fun q => by
          have := w5.mp q
          omega
        clear w5 ih
        refine ⟨u, ok_eq ?_, ok_eq ?_⟩
        · rw [El_Lending_wronglyIn, Int.toNat_natCast]
          repeat' (first | (with_reducible refine ok_of w1 ?_; dsimp only) | with_reducible refine ok_nb (by omega) ?_ | with_reducible refine ok_ib (by omega) ?_ | with_reducible refine ok_t (by omega) ?_ | with_reducible refine ok_e (by omega) ?_ | with_reducible refine ok_if (fun h => ?_) (fun h => ?_) | with_reducible refine ok_s ?_ | with_reducible refine ok_b ?_)
          rw [e5]
          exact ok_of u1 ⟨rfl, rfl⟩
        · rw [El_R_idle, Int.toNat_natCast]
          repeat' (first | (with_reducible refine ok_of w2 ?_; dsimp only) | with_reducible refine ok_nb (by omega) ?_ | with_reducible refine ok_ib (by omega) ?_ | with_reducible refine ok_t (by omega) ?_ | with_reducible refine ok_e (by omega) ?_ | with_reducible refine ok_if (fun h => ?_) (fun h => ?_) | with_reducible refine ok_s ?_ | with_reducible refine ok_b ?_)
          rw [e5]
          exact ok_of u2 ⟨rfl, rfl⟩
      · obtain ⟨u, u1, u2⟩ := ih n n' (c + 1) a (by omega) (by omega) (by omega) (by omega) (by omega) (by omega)
        have hv : S.1 65 c = 0 → v = -1 := fun q => w5.mpr (by omega)
        clear w5 ih
        refine ⟨u, ok_eq ?_, ok_eq ?_⟩
        · rw [El_Lending_wronglyIn, Int.toNat_natCast]
          repeat' (first | (with_reducible refine ok_of w1 ?_; dsimp only) | with_reducible refine ok_nb (by omega) ?_ | with_reducible refine ok_ib (by omega) ?_ | with_reducible refine ok_t (by omega) ?_ | with_reducible refine ok_e (by omega) ?_ | with_reducible refine ok_if (fun h => ?_) (fun h => ?_) | with_reducible refine ok_s ?_ | with_reducible refine ok_b ?_)
          all_goals (rw [Int.add_zero, e5]; exact ok_of u1 ⟨rfl, rfl⟩)
        · rw [El_R_idle, Int.toNat_natCast]
          repeat' (first | (with_reducible refine ok_of w2 ?_; dsimp only) | with_reducible refine ok_nb (by omega) ?_ | with_reducible refine ok_ib (by omega) ?_ | with_reducible refine ok_t (by omega) ?_ | with_reducible refine ok_e (by omega) ?_ | with_reducible refine ok_if (fun h => ?_) (fun h => ?_) | with_reducible refine ok_s ?_ | with_reducible refine ok_b ?_)
          all_goals (rw [Int.add_zero, e5]; exact ok_of u2 ⟨rfl, rfl⟩)
  exact key (S.1 62 3).toNat N N 1 0 (by omega) (by omega) (by omega) (by omega) (by omega) (by omega)
end
section
-- a3
/-- a copy of a record is with a reader, or for it -/
def hb (S : w_S) (r c : Int) : Bool := (fst (fun j => decide (S.1 63 j = c) && decide (S.1 66 j = r) && (!decide ((1 : Int) = 0) || !decide (S.1 65 j = 1))) 1 (S.1 62 3).toNat).isSome
theorem x_has2 {e : w_E} {N : Nat} {S R : w_S} {x1 x2 t : Int} (hN : 1000 ≤ N) (h : RelL S R t) (hx : 1 ≤ x1) : (∃ v : Int, E_Lending_copyFor e N x1 x2 1 S = some (v, S) ∧ (v = 0 ↔ hb S x1 x2 = false)) ∧ E_R_hasCopy e N x1 x2 R = some (bi (hb S x1 x2), R) := by
  obtain ⟨c1, c2, c3, c4⟩ := h.2.2.2.2.2.2.2.1
  have hCd := h.2.2.2.2.2.2.2.2.1
  have h1 := ok_eq (l_copyFor (e := e) (N := N) (S := S) (x1 := x1) (x2 := x2) (x3 := 1) ⟨c2, c3⟩ (S.1 62 3).toNat N 1 (by omega) (by omega) (by omega))
  have h2 := ok_eq (l_hasCopy (e := e) (N := N) (S := R) (x1 := x1) (x2 := x2) (by omega) (R.1 129 68).toNat N 0 1 (by omega) (by omega) (by omega) (Or.inl rfl))
  rw [if_neg (by omega)] at h2
  have e1 : (1 : Int).toNat = 1 := rfl
  have ef : fst (fun j => decide (R.1 169 j = x2) && (decide (R.1 171 j = 1) || decide (R.1 171 j = 2) || decide (R.1 171 j = 4)) && decide (R.1 172 j = x1)) 1 (S.1 62 3).toNat = fst (fun j => decide (S.1 63 j = x2) && decide (S.1 66 j = x1) && (!decide ((1 : Int) = 0) || !decide (S.1 65 j = 1))) 1 (S.1 62 3).toNat := by
    refine fst_congr _ _ (fun k a b => ?_)
    have s1 := (c4 k a (by omega)).1
    obtain ⟨⟨m1, m2, _⟩, m7, m8, m9, m10, m11, m12, m13, m14, m15, m16, m17, m18⟩ := hCd k a (by omega) (by omega)
    rw [s1, m1, m2, Bool.eq_iff_iff]
    simp only [Bool.and_eq_true, Bool.or_eq_true, Bool.not_eq_true', decide_eq_true_eq, decide_eq_false_iff_not]
    omega
  rw [e1, anyb_fst, c1, ef] at h2
  refine ⟨⟨_, h1, ?_⟩, h2⟩
  unfold hb
  rw [e1]
  cases hf : fst (fun j => decide (S.1 63 j = x2) && decide (S.1 66 j = x1) && (!decide ((1 : Int) = 0) || !decide (S.1 65 j = 1))) 1 (S.1 62 3).toNat with
  | none => simp [o1]
  | some k =>
    have := (fst_some hf).1
    simp only [o1_some, Option.isSome_some]
    simp
    omega
theorem anyb_list {α : Type} (g : Nat → α) (p : α → Bool) : ∀ (n c : Nat), anyb (fun j => p (g j)) c n = (lf g c n).any p
  | 0, _ => rfl
  | n + 1, c => by rw [anyb, lf, List.any_cons, anyb_list g p n (c + 1)]
theorem any_mem {α : Type} {l l' : List α} {p : α → Bool} (h : ∀ x, x ∈ l ↔ x ∈ l') : l.any p = l'.any p := by
  rw [Bool.eq_iff_iff, List.any_eq_true, List.any_eq_true]
  exact ⟨fun ⟨x, a, b⟩ => ⟨x, (h x).mp a, b⟩, fun ⟨x, a, b⟩ => ⟨x, (h x).mpr a, b⟩⟩
theorem QC_get {S : w_S} {i : Nat} (h : (i : Int) < S.1 62 14) : (QC S.1)[i]? = some (qc S.1 i) := by
  unfold QC
  rw [lf_get, if_pos (by omega), Nat.zero_add]
theorem QR_get {R : w_S} {i : Nat} (h : (i : Int) < R.1 129 127) : (QR R.1)[i]? = some (qr R.1 i) := by
  unfold QR
  rw [lf_get, if_pos (by omega), Nat.zero_add]
theorem x_self {e : w_E} {N : Nat} {S R : w_S} {t : Int} (hN : 1000 ≤ N) (h : RelL S R t) : (∀ i : Nat, (i : Int) < S.1 62 14 → E_Lending_queuedAt e N (S.1 74 i) (S.1 73 i) S = some ((i : Int), S)) ∧ (∀ i : Nat, (i : Int) < S.1 62 14 → E_R_waitsFor e N (R.1 215 i) (R.1 214 i) R = some ((i : Int), R)) := by
  obtain ⟨q1, q2, q3, q4, q5, q6⟩ := h.2.2.1
  constructor
  · intro i hi
    obtain ⟨j, k, j1, j2, j3⟩ := x_inRow (e := e) (N := N) (x1 := S.1 74 i) (x2 := S.1 73 i) hN h.2.2.1
    rw [j1]
    have h1 := ok_eq (l_queuedAt (e := e) (N := N) (S := S) (x1 := S.1 74 i) (x2 := S.1 73 i) ⟨q1, q2⟩ (S.1 62 14).toNat N 0 (by omega) (by omega) (by omega))
    have h2 : E_Lending_queuedAt e N (S.1 74 i) (S.1 73 i) S = El_Lending_queuedAt e N N 0 [S.1 74 i, S.1 73 i, 0] [] S := rfl
    rw [h2, h1] at j1
    have e0 : (0 : Int).toNat = 0 := rfl
    rw [e0] at j1
    cases hf : fst (fun j => decide (S.1 73 j = S.1 73 i) && decide (S.1 74 j = S.1 74 i)) 0 (S.1 62 14).toNat with
    | none =>
      have := fst_none hf i (by omega) (by omega)
      simp at this
    | some m =>
      obtain ⟨f1, f2, f3, _⟩ := fst_some hf
      simp only [Bool.and_eq_true, decide_eq_true_eq] at f3
      have := qun_at (by rw [q4]; exact qun_qst q5) (QC_get (S := S) (i := m) (by omega)) (QC_get (S := S) (i := i) hi) f3.1 f3.2
      rw [hf, o1_some] at j1
      injection j1 with j1
      injection j1 with j1 _
      rw [← j1, this]
  · intro i hi
    have h1 := ok_eq (l_waitsFor (e := e) (N := N) (S := R) (x1 := R.1 215 i) (x2 := R.1 214 i) (by omega) (R.1 129 127).toNat N (-1) 0 (by omega) (by omega) (by omega) (by omega) (by omega) (by omega))
    have h2 : E_R_waitsFor e N (R.1 215 i) (R.1 214 i) R = El_R_waitsFor e N N 0 [R.1 215 i, R.1 214 i, -1, 0] [] R := rfl
    rw [h2, h1]
    have e0 : (0 : Int).toNat = 0 := rfl
    rw [e0]
    rcases lst_spec (P := fun j => decide (R.1 214 j = R.1 214 i) && decide (R.1 215 j = R.1 215 i)) (n := (R.1 129 127).toNat) (c := 0) (d := -1) with ⟨a, b⟩ | ⟨k, a, b, c, d⟩
    · have := a i (by omega) (by omega)
      simp at this
    · simp only [Bool.and_eq_true, decide_eq_true_eq] at c
      have := qun_at q5 (QR_get (R := R) (i := k) (by omega)) (QR_get (R := R) (i := i) (by omega)) c.1 c.2
      rw [d, this]
theorem q_broken4 {e : w_E} {N : Nat} {S R : w_S} {t : Int} (hN : 1000000 ≤ N) (h : RelL S R t) : ∃ v : Int, E_Lending_wronglyQueued e N S = some (v, S) ∧ E_R_doubled e N R = some (v, R) := by
  have q := h.2.2.1
  have q1 := q.1
  have q2 := q.2.1
  have q3 := q.2.2.1
  have q4 := q.2.2.2.1
  have r1 := h.2.2.2.2.1.1
  have r2 := h.2.2.2.2.1.2.1
  have r3 := h.2.2.2.2.1.2.2.1
  obtain ⟨sf1, sf2⟩ := x_self (e := e) (N := N) (by omega) h
  -- within one reader
  have innC : ∀ (k n i r : Nat) (a w : Int) (P : Int → w_S → Prop) (m : Nat), m + k ≤ n → (i : Int) + k = S.1 62 14 → 1 ≤ r → (w = 0 ∨ w = 1) → (∀ n', m ≤ n' → Ok (El_Lending_wronglyQueued e N n' 1 [a, r, (if w = 1 then 1 else bi (anyb (fun j => decide (S.1 74 j = (r : Int)) && hb S r (S.1 73 j)) i k)), S.1 62 14] [] S) P) → Ok (El_Lending_wronglyQueued e N n 1 [a, r, w, i] [] S) P := by
    intro k
    induction k with
    | zero =>
      intro n i r a w P m hn hk hr hw hP
      have := hP n (by omega)
      have e1 : S.1 62 14 = (i : Int) := by omega
      have e2 : (if w = 1 then (1 : Int) else bi (anyb (fun j => decide (S.1 74 j = (r : Int)) && hb S r (S.1 73 j)) i 0)) = w := by
        rcases hw with hw | hw <;> rw [hw] <;> rfl
      rw [e1, e2] at this
      exact this
    | succ k ih =>
      intro n i r a w P m hn hk hr hw hP
      obtain ⟨n, rfl⟩ : ∃ q, n = q + 1 := ⟨n - 1, by omega⟩
      have e5 : (i : Int) + 1 = ((i + 1 : Nat) : Int) := by omega
      rw [anyb_it] at hP
      obtain ⟨⟨v, v1, v2⟩, _⟩ := x_has2 (e := e) (N := N) (x1 := (r : Int)) (x2 := S.1 73 i) (by omega) h (by omega)
      have sf := sf1 i (by omega)
      rw [El_Lending_wronglyQueued]
      simp only [Int.toNat_natCast]
      by_cases b : w = 1 ∨ (decide (S.1 74 i = (r : Int)) && hb S r (S.1 73 i)) = true
      · have ih2 := ih n (i + 1) r a 1 P m (by omega) (by omega) hr (Or.inr rfl) (fun n' hn' => by
          have := hP n' hn'
          rw [if_pos rfl]
          rcases b with b | b
          · rw [if_pos b] at this
            exact this
          · rw [if_pos b] at this
            have e3 : (if w = 1 then (1 : Int) else bi true) = 1 := by
              split <;> rfl
            rw [e3] at this
            exact this)
        rw [← e5] at ih2
        clear ih hP
        by_cases bw : w = 1
        · repeat' (first | with_reducible refine ok_nb (by omega) ?_ | with_reducible refine ok_ib (by omega) ?_ | with_reducible refine ok_t (by omega) ?_ | with_reducible refine ok_e (by omega) ?_ | with_reducible refine ok_if (fun h => ?_) (fun h => ?_) | with_reducible refine ok_s ?_ | with_reducible refine ok_b ?_)
          exact ih2
        · have b2 : S.1 74 i = (r : Int) ∧ hb S r (S.1 73 i) = true := by
            have := b.resolve_left bw
            simpa using this
          have hv : v ≠ 0 := fun q => by
            have := v2.mp q
            rw [b2.2] at this
            cases this
          rw [b2.1] at sf
          clear v2
          repeat' (first | (with_reducible refine ok_of sf ?_; dsimp only) | (with_reducible refine ok_of v1 ?_; dsimp only) | with_reducible refine ok_nb (by omega) ?_ | with_reducible refine ok_ib (by omega) ?_ | with_reducible refine ok_t (by omega) ?_ | with_reducible refine ok_e (by omega) ?_ | with_reducible refine ok_if (fun h => ?_) (fun h => ?_) | with_reducible refine ok_s ?_ | with_reducible refine ok_b ?_)
          all_goals first | exact ih2 | (exfalso; omega)
      · have hw0 : w = 0 := by omega
        have ih2 := ih n (i + 1) r a 0 P m (by omega) (by omega) hr (Or.inl rfl) (fun n' hn' => by
          have := hP n' hn'
          rw [if_neg (fun q => b (Or.inl q)), if_neg (fun q => b (Or.inr q))] at this
          rw [if_neg (by omega)]
          exact this)
        rw [← e5] at ih2
        clear ih hP
        subst hw0
        by_cases br : S.1 74 i = (r : Int)
        · have hv : v = 0 := v2.mpr (by
            cases hq : hb S r (S.1 73 i) with
            | false => rfl
            | true => exact absurd (Or.inr (by simp [br, hq])) b)
          rw [br] at sf
          clear v2
          repeat' (first | (with_reducible refine ok_of sf ?_; dsimp only) | (with_reducible refine ok_of v1 ?_; dsimp only) | with_reducible refine ok_nb (by omega) ?_ | with_reducible refine ok_ib (by omega) ?_ | with_reducible refine ok_t (by omega) ?_ | with_reducible refine ok_e (by omega) ?_ | with_reducible refine ok_if (fun h => ?_) (fun h => ?_) | with_reducible refine ok_s ?_ | with_reducible refine ok_b ?_)
          all_goals first | exact ih2 | (exfalso; omega)
        · clear v2
          repeat' (first | with_reducible refine ok_nb (by omega) ?_ | with_reducible refine ok_ib (by omega) ?_ | with_reducible refine ok_t (by omega) ?_ | with_reducible refine ok_e (by omega) ?_ | with_reducible refine ok_if (fun h => ?_) (fun h => ?_) | with_reducible refine ok_s ?_ | with_reducible refine ok_b ?_)
          all_goals first | exact ih2 | (exfalso; omega)
  have innR : ∀ (k n i r : Nat) (a w : Int) (P : Int → w_S → Prop) (m : Nat), m + k ≤ n → (i : Int) + k = S.1 62 14 → 1 ≤ r → (w = 0 ∨ w = 1) → (∀ n', m ≤ n' → Ok (El_R_doubled e N n' 1 [a, r, (if w = 1 then 1 else bi (anyb (fun j => decide (R.1 215 j = (r : Int)) && hb S r (R.1 214 j)) i k)), S.1 62 14] [] R) P) → Ok (El_R_doubled e N n 1 [a, r, w, i] [] R) P := by
    intro k
    induction k with
    | zero =>
      intro n i r a w P m hn hk hr hw hP
      have := hP n (by omega)
      have e1 : S.1 62 14 = (i : Int) := by omega
      have e2 : (if w = 1 then (1 : Int) else bi (anyb (fun j => decide (R.1 215 j = (r : Int)) && hb S r (R.1 214 j)) i 0)) = w := by
        rcases hw with hw | hw <;> rw [hw] <;> rfl
      rw [e1, e2] at this
      exact this
    | succ k ih =>
      intro n i r a w P m hn hk hr hw hP
      obtain ⟨n, rfl⟩ : ∃ q, n = q + 1 := ⟨n - 1, by omega⟩
      have e5 : (i : Int) + 1 = ((i + 1 : Nat) : Int) := by omega
      rw [anyb_it] at hP
      obtain ⟨_, v1⟩ := x_has2 (e := e) (N := N) (x1 := (r : Int)) (x2 := R.1 214 i) (by omega) h (by omega)
      have sf := sf2 i (by omega)
      rw [El_R_doubled]
      simp only [Int.toNat_natCast]
      by_cases b : w = 1 ∨ (decide (R.1 215 i = (r : Int)) && hb S r (R.1 214 i)) = true
      · have ih2 := ih n (i + 1) r a 1 P m (by omega) (by omega) hr (Or.inr rfl) (fun n' hn' => by
          have := hP n' hn'
          rw [if_pos rfl]
          rcases b with b | b
          · rw [if_pos b] at this
            exact this
          · rw [if_pos b] at this
            have e3 : (if w = 1 then (1 : Int) else bi true) = 1 := by
              split <;> rfl
            rw [e3] at this
            exact this)
        rw [← e5] at ih2
        clear ih hP
        by_cases bw : w = 1
        · repeat' (first | with_reducible refine ok_nb (by omega) ?_ | with_reducible refine ok_ib (by omega) ?_ | with_reducible refine ok_t (by omega) ?_ | with_reducible refine ok_e (by omega) ?_ | with_reducible refine ok_if (fun h => ?_) (fun h => ?_) | with_reducible refine ok_s ?_ | with_reducible refine ok_b ?_)
          exact ih2
        · have b2 : R.1 215 i = (r : Int) ∧ hb S r (R.1 214 i) = true := by
            have := b.resolve_left bw
            simpa using this
          have hv := bi_pos b2.2
          repeat' (first | (with_reducible refine ok_of v1 ?_; dsimp only) | with_reducible refine ok_nb (by omega) ?_ | with_reducible refine ok_ib (by omega) ?_ | with_reducible refine ok_t (by omega) ?_ | with_reducible refine ok_e (by omega) ?_ | with_reducible refine ok_if (fun h => ?_) (fun h => ?_) | with_reducible refine ok_s ?_ | with_reducible refine ok_b ?_)
          all_goals first | exact ih2 | (exfalso; omega)
      · have hw0 : w = 0 := by omega
        have ih2 := ih n (i + 1) r a 0 P m (by omega) (by omega) hr (Or.inl rfl) (fun n' hn' => by
          have := hP n' hn'
          rw [if_neg (fun q => b (Or.inl q)), if_neg (fun q => b (Or.inr q))] at this
          rw [if_neg (by omega)]
          exact this)
        rw [← e5] at ih2
        clear ih hP
        subst hw0
        by_cases br : R.1 215 i = (r : Int)
        · have hv : bi (hb S r (R.1 214 i)) = 0 := bi_neg (by
            cases hq : hb S r (R.1 214 i) with
            | false => rfl
            | true => exact absurd (Or.inr (by simp [br, hq])) b)
          rw [br] at sf
          repeat' (first | (with_reducible refine ok_of sf ?_; dsimp only) | (with_reducible refine ok_of v1 ?_; dsimp only) | with_reducible refine ok_nb (by omega) ?_ | with_reducible refine ok_ib (by omega) ?_ | with_reducible refine ok_t (by omega) ?_ | with_reducible refine ok_e (by omega) ?_ | with_reducible refine ok_if (fun h => ?_) (fun h => ?_) | with_reducible refine ok_s ?_ | with_reducible refine ok_b ?_)
          all_goals first | exact ih2 | (exfalso; omega)
        · repeat' (first | with_reducible refine ok_nb (by omega) ?_ | with_reducible refine ok_ib (by omega) ?_ | with_reducible refine ok_t (by omega) ?_ | with_reducible refine ok_e (by omega) ?_ | with_reducible refine ok_if (fun h => ?_) (fun h => ?_) | with_reducible refine ok_s ?_ | with_reducible refine ok_b ?_)
          all_goals first | exact ih2 | (exfalso; omega)
  have same : ∀ r : Nat, anyb (fun j => decide (R.1 215 j = (r : Int)) && hb S r (R.1 214 j)) 0 (S.1 62 14).toNat = anyb (fun j => decide (S.1 74 j = (r : Int)) && hb S r (S.1 73 j)) 0 (S.1 62 14).toNat := by
    intro r
    have a1 := anyb_list (qr R.1) (fun z => decide (z.2.1 = (r : Int)) && hb S r z.1) (S.1 62 14).toNat 0
    have a2 := anyb_list (qc S.1) (fun z => decide (z.2.1 = (r : Int)) && hb S r z.1) (S.1 62 14).toNat 0
    have b1 : lf (qr R.1) 0 (S.1 62 14).toNat = QR R.1 := by
      unfold QR
      rw [q3]
    have b2 : lf (qc S.1) 0 (S.1 62 14).toNat = QC S.1 := rfl
    rw [b1] at a1
    rw [b2, q4] at a2
    have e1 : anyb (fun j => decide (R.1 215 j = (r : Int)) && hb S r (R.1 214 j)) 0 (S.1 62 14).toNat = anyb (fun j => decide ((qr R.1 j).2.1 = (r : Int)) && hb S r (qr R.1 j).1) 0 (S.1 62 14).toNat := rfl
    have e2 : anyb (fun j => decide (S.1 74 j = (r : Int)) && hb S r (S.1 73 j)) 0 (S.1 62 14).toNat = anyb (fun j => decide ((qc S.1 j).2.1 = (r : Int)) && hb S r (qc S.1 j).1) 0 (S.1 62 14).toNat := rfl
    rw [e1, e2, a1, a2]
    exact any_mem (fun x => (qst_mem _).symm)
  have key : ∀ (k n n' r : Nat) (a : Int), 300 * k + 5 ≤ n → 300 * k + 5 ≤ n' → (r : Int) + k = S.1 46 0 + 1 → 1 ≤ r → 0 ≤ a → a + k ≤ 1000 → ∃ v : Int, (∀ n, 300 * k + 5 ≤ n → El_Lending_wronglyQueued e N n 0 [a, r] [] S = some (v, S)) ∧ (∀ n', 300 * k + 5 ≤ n' → El_R_doubled e N n' 0 [a, r] [] R = some (v, R)) := by
    intro k
    induction k with
    | zero =>
      intro n n' r a hn hn' hk hr ha ha2
      refine ⟨a, fun n hn => ?_, fun n' hn' => ?_⟩
      · obtain ⟨n, rfl⟩ : ∃ q, n = q + 1 := ⟨n - 1, by omega⟩
        rw [El_Lending_wronglyQueued, if_pos (by omega)]
      · obtain ⟨n', rfl⟩ : ∃ q, n' = q + 1 := ⟨n' - 1, by omega⟩
        rw [El_R_doubled, if_pos (by omega)]
    | succ k ih =>
      intro n n' r a hn hn' hk hr ha ha2
      have e5 : (r : Int) + 1 = ((r + 1 : Nat) : Int) := by omega
      have hbi : bi (anyb (fun j => decide (S.1 74 j = (r : Int)) && hb S r (S.1 73 j)) 0 (S.1 62 14).toNat) = 0 ∨ bi (anyb (fun j => decide (S.1 74 j = (r : Int)) && hb S r (S.1 73 j)) 0 (S.1 62 14).toNat) = 1 := by
        unfold bi
        split <;> omega
      obtain ⟨v, v1, v2⟩ := ih n n' (r + 1) (a + bi (anyb (fun j => decide (S.1 74 j = (r : Int)) && hb S r (S.1 73 j)) 0 (S.1 62 14).toNat)) (by omega) (by omega) (by omega) (by omega) (by omega) (by omega)
      refine ⟨v, fun n hn => ?_, fun n' hn' => ?_⟩
      · obtain ⟨n, rfl⟩ : ∃ q, n = q + 1 := ⟨n - 1, by omega⟩
        refine ok_eq ?_
        rw [El_Lending_wronglyQueued]
        repeat' (first | with_reducible refine ok_nb (by omega) ?_ | with_reducible refine ok_ib (by omega) ?_ | with_reducible refine ok_t (by omega) ?_ | with_reducible refine ok_e (by omega) ?_ | with_reducible refine ok_if (fun h => ?_) (fun h => ?_) | with_reducible refine ok_s ?_ | with_reducible refine ok_b ?_)
        have e0 : El_Lending_wronglyQueued e N n 1 [a, (r : Int), 0, 0] [] S = El_Lending_wronglyQueued e N n 1 [a, (r : Int), 0, ((0 : Nat) : Int)] [] S := rfl
        rw [e0]
        refine innC (S.1 62 14).toNat n 0 r a 0 _ (300 * k + 20) (by omega) (by omega) hr (Or.inl rfl) (fun m hm => ?_)
        obtain ⟨m, rfl⟩ : ∃ q, m = q + 1 := ⟨m - 1, by omega⟩
        have v1' := v1 m (by omega)
        rw [if_neg (by omega), El_Lending_wronglyQueued]
        generalize bi (anyb (fun j => decide (S.1 74 j = (r : Int)) && hb S r (S.1 73 j)) 0 (S.1 62 14).toNat) = w at *
        rcases hbi with hw | hw
        · subst hw
          repeat' (first | with_reducible refine ok_t trivial ?_ | with_reducible refine ok_nb (by omega) ?_ | with_reducible refine ok_ib (by omega) ?_ | with_reducible refine ok_t (by omega) ?_ | with_reducible refine ok_e (by omega) ?_ | with_reducible refine ok_if (fun h => ?_) (fun h => ?_) | with_reducible refine ok_s ?_ | with_reducible refine ok_b ?_)
          all_goals first | (rw [e5]; exact ok_of v1' ⟨rfl, rfl⟩) | (exfalso; omega)
        · subst hw
          repeat' (first | with_reducible refine ok_t trivial ?_ | with_reducible refine ok_nb (by omega) ?_ | with_reducible refine ok_ib (by omega) ?_ | with_reducible refine ok_t (by omega) ?_ | with_reducible refine ok_e (by omega) ?_ | with_reducible refine ok_if (fun h => ?_) (fun h => ?_) | with_reducible refine ok_s ?_ | with_reducible refine ok_b ?_)
          all_goals first | (rw [e5]; exact ok_of v1' ⟨rfl, rfl⟩) | (exfalso; omega)
      · obtain ⟨n', rfl⟩ : ∃ q, n' = q + 1 := ⟨n' - 1, by omega⟩
        refine ok_eq ?_
        rw [El_R_doubled]
        repeat' (first | with_reducible refine ok_nb (by omega) ?_ | with_reducible refine ok_ib (by omega) ?_ | with_reducible refine ok_t (by omega) ?_ | with_reducible refine ok_e (by omega) ?_ | with_reducible refine ok_if (fun h => ?_) (fun h => ?_) | with_reducible refine ok_s ?_ | with_reducible refine ok_b ?_)
        have e0 : El_R_doubled e N n' 1 [a, (r : Int), 0, 0] [] R = El_R_doubled e N n' 1 [a, (r : Int), 0, ((0 : Nat) : Int)] [] R := rfl
        rw [e0]
        refine innR (S.1 62 14).toNat n' 0 r a 0 _ (300 * k + 20) (by omega) (by omega) hr (Or.inl rfl) (fun m hm => ?_)
        obtain ⟨m, rfl⟩ : ∃ q, m = q + 1 := ⟨m - 1, by omega⟩
        have v2' := v2 m (by omega)
        rw [if_neg (by omega), same r, El_R_doubled]
        generalize bi (anyb (fun j => decide (S.1 74 j = (r : Int)) && hb S r (S.1 73 j)) 0 (S.1 62 14).toNat) = w at *
        rcases hbi with hw | hw
        · subst hw
          repeat' (first | with_reducible refine ok_t trivial ?_ | with_reducible refine ok_nb (by omega) ?_ | with_reducible refine ok_ib (by omega) ?_ | with_reducible refine ok_t (by omega) ?_ | with_reducible refine ok_e (by omega) ?_ | with_reducible refine ok_if (fun h => ?_) (fun h => ?_) | with_reducible refine ok_s ?_ | with_reducible refine ok_b ?_)
          all_goals first | (rw [e5]; exact ok_of v2' ⟨rfl, rfl⟩) | (exfalso; omega)
        · subst hw
          repeat' (first | with_reducible refine ok_t trivial ?_ | with_reducible refine ok_nb (by omega) ?_ | with_reducible refine ok_ib (by omega) ?_ | with_reducible refine ok_t (by omega) ?_ | with_reducible refine ok_e (by omega) ?_ | with_reducible refine ok_if (fun h => ?_) (fun h => ?_) | with_reducible refine ok_s ?_ | with_reducible refine ok_b ?_)
          all_goals first | (rw [e5]; exact ok_of v2' ⟨rfl, rfl⟩) | (exfalso; omega)
  obtain ⟨v, v1, v2⟩ := key (S.1 46 0).toNat N N 1 0 (by omega) (by omega) (by omega) (by omega) (by omega) (by omega)
  exact ⟨v, v1 N (by omega), v2 N (by omega)⟩
end
