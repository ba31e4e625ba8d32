section
-- 97
theorem t_unhold {e : w_E} {N : Nat} {S R : w_S} {x1 x2 t : Int} (hN : 10000 ≤ N) (h : RelL S R t) (ht : 0 ≤ t) : Ok (E_Lending_leaveQueue e N x1 x2 S) (fun y S1 => Ok (E_R_doUnhold e N x1 x2 R) (fun y' R1 => Pa S R (fun _ => Ql S R t) y S1 y' R1)) := by
  have h0 := h
  obtain ⟨hT, hP, hQ, hG, hRd, hLn, hBk, hCs, hCd, hLo, hCl, hRu⟩ := h
  obtain ⟨c1, c2, c3, c4⟩ := id hCs
  obtain ⟨r1, r2, r3, r4⟩ := id hRd
  obtain ⟨q1, q2, q3, q4, q5, q6⟩ := id hQ
  by_cases b1 : x1 < 1 ∨ S.1 46 0 < x1
  · unfold E_Lending_leaveQueue E_R_doUnhold
    repeat' (first | with_reducible refine ok_nb (by omega) ?_ | with_reducible refine ok_ib (by omega) ?_ | with_reducible refine ok_t (by omega) ?_ | with_reducible refine ok_e (by omega) ?_ | with_reducible refine ok_if (fun h => ?_) (fun h => ?_) | with_reducible refine ok_s ?_ | with_reducible refine ok_b ?_)
    all_goals first | exact ⟨rfl, Or.inl ⟨by omega, rfl, rfl⟩⟩ | (exfalso; omega)
  obtain ⟨i, k, i1, i2, i3⟩ := x_inRow (e := e) (N := N) (x1 := x1) (x2 := x2) (by omega) hQ
  have cf := ok_eq (l_copyFor (e := e) (N := N) (S := S) (x1 := x1) (x2 := x2) (x3 := 0) ⟨c2, c3⟩ (S.1 62 3).toNat N 1 (by omega) (by omega) (by omega))
  have cf' : E_Lending_copyFor e N x1 x2 0 S = some (o1 0 (fst (fun j => decide (S.1 63 j = x2) && decide (S.1 66 j = x1) && (!decide ((0 : Int) = 0) || !decide (S.1 65 j = 1))) 1 (S.1 62 3).toNat), S) := cf
  clear cf
  rcases i3 with ⟨j1, j2, j3⟩ | ⟨j1, j2, j3, j4, z, j5, j6⟩
  · subst j1
    subst j2
    -- the first copy that is for the reader
    have lp : ∀ (m n c : Nat) (P : Int → w_S → Prop), 1 ≤ c → (c : Int) + m = S.1 62 3 + 1 → m < n → (fst (fun j => decide (S.1 63 j = x2) && decide (S.1 66 j = x1) && (!decide ((0 : Int) = 0) || !decide (S.1 65 j = 1))) c m = none → P (-1) (w_put R 129 4 1)) → (∀ j, fst (fun j => decide (S.1 63 j = x2) && decide (S.1 66 j = x1) && (!decide ((0 : Int) = 0) || !decide (S.1 65 j = 1))) c m = some j → (S.1 65 j = 2 → Ok (E_R_settle e N (j : Int) R) (fun _ R1 => P 1 R1)) ∧ (S.1 65 j = 4 → P 1 (w_put R 172 j 0))) → Ok (El_R_doUnhold e N n 0 [x1, x2, c] [] R) P := by
      intro m
      induction m with
      | zero =>
        intro n c P hc hm hn h1 h2
        obtain ⟨n, rfl⟩ : ∃ q, n = q + 1 := ⟨n - 1, by omega⟩
        rw [El_R_doUnhold]
        repeat' (first | with_reducible refine ok_nb (by omega) ?_ | with_reducible refine ok_ib (by omega) ?_ | with_reducible refine ok_t (by omega) ?_ | with_reducible refine ok_e (by omega) ?_ | with_reducible refine ok_if (fun h => ?_) (fun h => ?_) | with_reducible refine ok_s ?_ | with_reducible refine ok_b ?_)
        exact h1 rfl
      | succ m ih =>
        intro n c P hc hm hn h1 h2
        obtain ⟨n, rfl⟩ : ∃ q, n = q + 1 := ⟨n - 1, by omega⟩
        have s1 := (c4 c hc (by omega)).1
        obtain ⟨⟨m1, m2, _⟩, m7, m8, m9, m10, m11, m12, m13, m14, m15, m16, m17, m18⟩ := hCd c hc (by omega) (by omega)
        have e5 : (c : Int) + 1 = ((c + 1 : Nat) : Int) := by omega
        rw [fst] at h1 h2
        rw [El_R_doUnhold]
        simp only [Int.toNat_natCast, s1, m1, m2]
        by_cases b : S.1 63 c = x2 ∧ S.1 66 c = x1 ∧ S.1 65 c ≠ 1
        · have p1 : (decide (S.1 63 c = x2) && decide (S.1 66 c = x1) && (!decide ((0 : Int) = 0) || !decide (S.1 65 c = 1))) = true := by simp [b.1, b.2.1, b.2.2]
          rw [if_pos p1] at h2
          have h3 := h2 c rfl
          have hst : S.1 65 c = 2 ∨ S.1 65 c = 4 := by omega
          clear h1 h2 m15 m16 m17 m18
          rcases hst with hst | hst
          · have h4 := h3.1 hst
            repeat' (first | (with_reducible refine h4.mono (fun y R1 q => ok_s q)) | with_reducible refine ok_nb (by omega) ?_ | with_reducible refine ok_ib (by omega) ?_ | with_reducible refine ok_t (by omega) ?_ | with_reducible refine ok_e (by omega) ?_ | with_reducible refine ok_if (fun h => ?_) (fun h => ?_) | with_reducible refine ok_s ?_ | with_reducible refine ok_b ?_)
          · have h4 := h3.2 hst
            repeat' (first | with_reducible refine ok_nb (by omega) ?_ | with_reducible refine ok_ib (by omega) ?_ | with_reducible refine ok_t (by omega) ?_ | with_reducible refine ok_e (by omega) ?_ | with_reducible refine ok_if (fun h => ?_) (fun h => ?_) | with_reducible refine ok_s ?_ | with_reducible refine ok_b ?_)
            exact h4
        · have p1 : ¬ (decide (S.1 63 c = x2) && decide (S.1 66 c = x1) && (!decide ((0 : Int) = 0) || !decide (S.1 65 c = 1))) = true := by
            simp only [Bool.and_eq_true, Bool.or_eq_true, Bool.not_eq_true', decide_eq_true_eq, decide_eq_false_iff_not, not_true_eq_false, false_or]
            omega
          rw [if_neg p1] at h1 h2
          have := ih n (c + 1) P (by omega) (by omega) (by omega) h1 h2
          clear h1 h2 m15 m16 m17 m18
          repeat' (first | with_reducible refine ok_nb (by omega) ?_ | with_reducible refine ok_ib (by omega) ?_ | with_reducible refine ok_t (by omega) ?_ | with_reducible refine ok_e (by omega) ?_ | with_reducible refine ok_if (fun h => ?_) (fun h => ?_) | with_reducible refine ok_s ?_ | with_reducible refine ok_b ?_)
          all_goals first | (rw [e5]; exact this) | (exfalso; omega)
    have ent : ∀ P, Ok (El_R_doUnhold e N N 0 [x1, x2, ((1 : Nat) : Int)] [] R) P → Ok (E_R_doUnhold e N x1 x2 R) P := by
      intro P hP'
      unfold E_R_doUnhold
      repeat' (first | (with_reducible refine ok_of i2 ?_; dsimp only) | with_reducible refine ok_t trivial ?_ | with_reducible refine ok_nb (by omega) ?_ | with_reducible refine ok_ib (by omega) ?_ | with_reducible refine ok_t (by omega) ?_ | with_reducible refine ok_e (by omega) ?_ | with_reducible refine ok_if (fun h => ?_) (fun h => ?_) | with_reducible refine ok_s ?_ | with_reducible refine ok_b ?_)
      all_goals first | exact hP' | (exfalso; omega)
    unfold E_Lending_leaveQueue
    cases hf : fst (fun j => decide (S.1 63 j = x2) && decide (S.1 66 j = x1) && (!decide ((0 : Int) = 0) || !decide (S.1 65 j = 1))) 1 (S.1 62 3).toNat with
    | none =>
      rw [hf, o1_none] at cf'
      repeat' (first | (with_reducible refine ok_of i1 ?_; dsimp only) | (with_reducible refine ok_of cf' ?_; dsimp only) | with_reducible refine ok_t trivial ?_ | with_reducible refine ok_nb (by omega) ?_ | with_reducible refine ok_ib (by omega) ?_ | with_reducible refine ok_t (by omega) ?_ | with_reducible refine ok_e (by omega) ?_ | with_reducible refine ok_if (fun h => ?_) (fun h => ?_) | with_reducible refine ok_s ?_ | with_reducible refine ok_b ?_)
      all_goals first | (exfalso; omega) | skip
      refine ent _ (lp (S.1 62 3).toNat N 1 _ (by omega) (by omega) (by omega) (fun _ => ?_) (fun j hj => by rw [hf] at hj; cases hj))
      exact ⟨rfl, Or.inl ⟨by omega, rfl, rfl⟩⟩
    | some j =>
      rw [hf, o1_some] at cf'
      obtain ⟨f1, f2, f3, _⟩ := fst_some hf
      simp only [Bool.and_eq_true, Bool.or_eq_true, Bool.not_eq_true', decide_eq_true_eq, decide_eq_false_iff_not, not_true_eq_false, false_or] at f3
      have ejn : ((j : Nat) : Int).toNat = j := by omega
      have hk := hCd j f1 (by omega) (by omega)
      have hks := c4 j f1 (by omega)
      have m5 := hk.1.2.2.2.2.1
      have m11 := hk.2.2.2.2.2.1
      have m12 := hk.2.2.2.2.2.2.1
      have hst : S.1 65 j = 2 ∨ S.1 65 j = 4 := by omega
      rcases hst with hst | hst
      · have ts := t_settle (e := e) (N := N) (S := S) (R := R) (x := (j : Int)) (p := S.1 69 j) hN hT hP hQ (by omega) ⟨m11, m12⟩ (by rw [ejn]; exact m5) (by rw [ejn]; exact hks.1) (by rw [ejn]; exact hks.2.2.2.2.2.2.1) (by rw [ejn]; exact hks.2.2.2.2.2.2.2)
        clear hk hks
        rw [← ejn] at ts
        rw [Int.toNat_natCast] at ts
        repeat' (first | (with_reducible refine ok_of i1 ?_; dsimp only) | (with_reducible refine ok_of cf' ?_; dsimp only; simp only [Int.toNat_natCast]) | with_reducible refine ok_t trivial ?_ | (with_reducible refine ts.mono (fun y S1 hs => ok_s ?_)) | with_reducible refine ok_nb (by omega) ?_ | with_reducible refine ok_ib (by omega) ?_ | with_reducible refine ok_t (by omega) ?_ | with_reducible refine ok_e (by omega) ?_ | with_reducible refine ok_if (fun h => ?_) (fun h => ?_) | with_reducible refine ok_s ?_ | with_reducible refine ok_b ?_)
        all_goals first | (exfalso; omega) | skip
        refine ent _ (lp (S.1 62 3).toNat N 1 _ (by omega) (by omega) (by omega) (fun hh => by rw [hf] at hh; cases hh) (fun j' hj => ?_))
        rw [hf] at hj
        cases hj
        refine ⟨fun _ => hs.mono (fun y' R1 hs => ?_), fun q => by omega⟩
        obtain ⟨g1, g2, g3⟩ := q_stl (RelL.x0 h0 (x := (j : Int)) (by rw [ejn, hst]; omega)) hs (by omega) ⟨m11, m12⟩ (by rw [ejn]; exact m5)
        exact ⟨rfl, Or.inr ⟨by omega, g1, g2, g3.up⟩⟩
      · clear hk hks
        repeat' (first | (with_reducible refine ok_of i1 ?_; dsimp only) | (with_reducible refine ok_of cf' ?_; dsimp only; simp only [Int.toNat_natCast]) | with_reducible refine ok_t trivial ?_ | with_reducible refine ok_nb (by omega) ?_ | with_reducible refine ok_ib (by omega) ?_ | with_reducible refine ok_t (by omega) ?_ | with_reducible refine ok_e (by omega) ?_ | with_reducible refine ok_if (fun h => ?_) (fun h => ?_) | with_reducible refine ok_s ?_ | with_reducible refine ok_b ?_)
        all_goals first | (exfalso; omega) | skip
        refine ent _ (lp (S.1 62 3).toNat N 1 _ (by omega) (by omega) (by omega) (fun hh => by rw [hf] at hh; cases hh) (fun j' hj => ?_))
        rw [hf] at hj
        cases hj
        refine ⟨fun q => by omega, fun _ => ?_⟩
        have hff : frm [66] [] [] S (w_put S 66 j 0) := by repeat (first | exact frm.refl _ _ _ _ | refine frm.put ?_ rfl | refine frm.puto ?_ rfl rfl | refine frm.arr ?_ rfl)
        have hgg : frm [172] [] [] R (w_put R 172 j 0) := by repeat (first | exact frm.refl _ _ _ _ | refine frm.put ?_ rfl | refine frm.puto ?_ rfl rfl | refine frm.arr ?_ rfl)
        refine ⟨rfl, Or.inr ⟨by omega, hff.weak rfl, hgg.weak rfl, hT.fr hff hgg rfl, hP.fr hff hgg rfl, hQ.fr hff hgg rfl, hG.fr hff hgg rfl, (hRd.fr hff hgg rfl).up, hLn.fr hff hgg rfl, hBk.fr hff hgg rfl, hCs.fr hff hgg rfl, ?_, hLo.fr hff hgg rfl, hCl.fr hff hgg rfl, hRu.fr hff hgg rfl⟩⟩
        simp only [RelCd, w_put_r, w_arr_r, reduceIte, Nat.reduceEqDiff, pt_at]
        intro l a b c
        have hk := hCd l a b c
        by_cases el : l = j
        · subst el
          obtain ⟨⟨m1, m2, m3, m4, m5, m6⟩, m7, m8, m9, m10, m11, m12, m13, m14, m15, m16, m17, m18⟩ := hk
          simp only [if_true]
          exact ⟨⟨m1, trivial, m3, m4, m5, m6⟩, m7, m8, by omega, by omega, m11, m12, m13, m14, fun q => by omega, fun q => by omega, fun q => by omega, m18⟩
        · simp only [if_neg el]
          exact hk
  · have tr := x_removeQueued (e := e) (N := N) (S := S) (x := i) (by omega) j1 j2 q2
    have tu := x_unqueue (e := e) (N := N) (S := R) (x := k) (by omega) j3 (by omega) (by omega)
    unfold E_Lending_leaveQueue E_R_doUnhold
    repeat' (first | (with_reducible refine ok_of i1 ?_; dsimp only) | (with_reducible refine tr.mono (fun y S1 hs => ok_s ?_)) | with_reducible refine ok_nb (by omega) ?_ | with_reducible refine ok_ib (by omega) ?_ | with_reducible refine ok_t (by omega) ?_ | with_reducible refine ok_e (by omega) ?_ | with_reducible refine ok_if (fun h => ?_) (fun h => ?_) | with_reducible refine ok_s ?_ | with_reducible refine ok_b ?_)
    repeat' (first | (with_reducible refine ok_of i2 ?_; dsimp only) | (with_reducible refine tu.mono (fun y' R1 hu => ok_s ?_)) | with_reducible refine ok_nb (by omega) ?_ | with_reducible refine ok_ib (by omega) ?_ | with_reducible refine ok_t (by omega) ?_ | with_reducible refine ok_e (by omega) ?_ | with_reducible refine ok_if (fun h => ?_) (fun h => ?_) | with_reducible refine ok_s ?_ | with_reducible refine ok_b ?_)
    obtain ⟨s1, s2, s3, s4⟩ := hs
    obtain ⟨u1, u2, u3, u4⟩ := hu
    refine ⟨rfl, Or.inr ⟨by omega, s2.weak rfl, u2.weak rfl, hT.fr s2 u2 rfl, hP.fr s2 u2 rfl, ?_, hG.fr s2 u2 rfl, (hRd.fr s2 u2 rfl).up, hLn.fr s2 u2 rfl, hBk.fr s2 u2 rfl, hCs.fr s2 u2 rfl, hCd.fr s2 u2 rfl, hLo.fr s2 u2 rfl, hCl.fr s2 u2 rfl, hRu.fr s2 u2 rfl⟩⟩
    refine ⟨?_, ?_, ?_, ?_, ?_, ?_⟩
    · show 0 ≤ S1.1 62 14
      omega
    · show S1.1 62 14 ≤ 200
      omega
    · show R1.1 129 127 = S1.1 62 14
      omega
    · show QC S1.1 = qst (QR R1.1)
      rw [s4, u4, q4]
      rw [q4] at j5
      exact qst_erase q5 j5 j6
    · show qun (QR R1.1)
      rw [u4, qer q5 j6]
      exact qun_filter q5 _
    · intro y' hy'
      have hy2 : y' ∈ (QC S.1).eraseIdx i.toNat := by
        rw [← s4]
        exact hy'
      show 1 ≤ y'.2.1 ∧ y'.2.1 ≤ S1.1 46 0
      rw [s2.2.1 46 rfl rfl]
      exact q6 y' (List.mem_of_mem_eraseIdx hy2)
end
section
-- 98
/-- the first with the least number, of those that may be; 0 is none -/
def amn (P : Nat → Bool) (f : Nat → Int) : Nat → Nat → Int → Int
  | _, 0, a => a
  | c, n + 1, a => amn P f (c + 1) n (if P c = true ∧ (a = 0 ∨ f c < f a.toNat) then c else a)
theorem amn_congr {P Q : Nat → Bool} {f g : Nat → Int} {m : Nat} (h : ∀ k, 1 ≤ k → k ≤ m → P k = Q k ∧ (P k = true → f k = g k)) : ∀ (n c : Nat) (a : Int), 1 ≤ c → c + n = m + 1 → (a = 0 ∨ (1 ≤ a ∧ a ≤ m ∧ P a.toNat = true)) → amn P f c n a = amn Q g c n a
  | 0, _, _, _, _, _ => rfl
  | n + 1, c, a, hc, hn, ha => by
    have hk := h c hc (by omega)
    have hfa : a ≠ 0 → f a.toNat = g a.toNat := fun q => (h a.toNat (by omega) (by omega)).2 (by rcases ha with ha | ha; exact absurd ha q; exact ha.2.2)
    have e : (if P c = true ∧ (a = 0 ∨ f c < f a.toNat) then (c : Int) else a) = (if Q c = true ∧ (a = 0 ∨ g c < g a.toNat) then (c : Int) else a) := by
      rw [← hk.1]
      by_cases hp : P c = true
      · rw [hk.2 hp]
        by_cases h0 : a = 0
        · rw [if_pos ⟨hp, Or.inl h0⟩, if_pos ⟨hp, Or.inl h0⟩]
        · rw [hfa h0]
      · rw [if_neg (fun q => hp q.1), if_neg (fun q => hp q.1)]
    rw [amn, amn, ← e]
    refine amn_congr h n (c + 1) _ (by omega) (by omega) ?_
    split
    · next q => exact Or.inr ⟨by omega, by omega, by rw [Int.toNat_natCast]; exact q.1⟩
    · exact ha
theorem amn_spec {P : Nat → Bool} {f : Nat → Int} {m : Nat} : ∀ (n c : Nat) (a : Int), 1 ≤ c → c + n = m + 1 → (a = 0 ∨ (1 ≤ a ∧ a ≤ m ∧ P a.toNat = true)) → (amn P f c n a = 0 ∧ a = 0 ∧ (∀ k, c ≤ k → k < c + n → P k = false)) ∨ (1 ≤ amn P f c n a ∧ amn P f c n a ≤ m ∧ P (amn P f c n a).toNat = true)
  | 0, c, a, _, _, ha => by
    rw [amn]
    rcases ha with ha | ha
    · exact Or.inl ⟨ha, ha, fun k h1 h2 => by omega⟩
    · exact Or.inr ha
  | n + 1, c, a, hc, hn, ha => by
    rw [amn]
    by_cases hp : P c = true ∧ (a = 0 ∨ f c < f a.toNat)
    · rw [if_pos hp]
      have ih := amn_spec (P := P) (f := f) (m := m) n (c + 1) c (by omega) (by omega) (Or.inr ⟨by omega, by omega, by rw [Int.toNat_natCast]; exact hp.1⟩)
      rcases ih with ih | ih
      · omega
      · exact Or.inr ih
    · rw [if_neg hp]
      have ih := amn_spec (P := P) (f := f) (m := m) n (c + 1) a (by omega) (by omega) ha
      rcases ih with ⟨i1, i2, i3⟩ | ih
      · refine Or.inl ⟨i1, i2, fun k h1 h2 => ?_⟩
        by_cases e : k = c
        · rw [e, Bool.eq_false_iff]
          exact fun q => hp ⟨q, Or.inl i2⟩
        · exact i3 k (by omega) (by omega)
      · exact Or.inr ih
def due4 (c : am) (k : Nat) : Bool := decide (c 65 k = 4) && decide (c 68 k ≤ c 27 1)
theorem l_firstArrival {e : w_E} {N : Nat} {S : w_S} (h0 : 0 ≤ S.1 62 3 ∧ S.1 62 3 ≤ 200) : ∀ (k n : Nat) (a i : Int), k < n → 1 ≤ i → i + k = S.1 62 3 + 1 → 0 ≤ a → a ≤ 200 → El_Lending_firstArrival e N n 0 [a, i] [] S = some (amn (due4 S.1) (S.1 68) i.toNat k a, S)
  | 0, n + 1, a, i, h1, h2, h3, h4, h5 => by
    refine ok_eq ?_
    rw [El_Lending_firstArrival, amn]
    repeat' (first | with_reducible refine ok_nb (by omega) ?_ | with_reducible refine ok_ib (by omega) ?_ | with_reducible refine ok_t (by omega) ?_ | with_reducible refine ok_e (by omega) ?_ | with_reducible refine ok_if (fun h => ?_) (fun h => ?_) | with_reducible refine ok_s ?_ | with_reducible refine ok_b ?_)
    exact ⟨rfl, rfl⟩
  | k + 1, n + 1, a, i, h1, h2, h3, h4, h5 => by
    have e1 : (i + 1).toNat = i.toNat + 1 := by omega
    have e2 : ((i.toNat : Nat) : Int) = i := by omega
    refine ok_eq ?_
    rw [El_Lending_firstArrival, amn, e2]
    have hd : due4 S.1 i.toNat = true ↔ (S.1 65 i.toNat = 4 ∧ S.1 68 i.toNat ≤ S.1 27 1) := by simp [due4]
    by_cases hp : due4 S.1 i.toNat = true ∧ (a = 0 ∨ S.1 68 i.toNat < S.1 68 a.toNat)
    · rw [if_pos hp, ← e1]
      have ih := l_firstArrival (e := e) (N := N) h0 k n i (i + 1) (by omega) (by omega) (by omega) (by omega) (by omega)
      have hq := hd.mp hp.1
      repeat' (first | with_reducible refine ok_nb (by omega) ?_ | with_reducible refine ok_ib (by omega) ?_ | with_reducible refine ok_t (by omega) ?_ | with_reducible refine ok_e (by omega) ?_ | with_reducible refine ok_if (fun h => ?_) (fun h => ?_) | with_reducible refine ok_s ?_ | with_reducible refine ok_b ?_)
      all_goals first | exact ok_of ih ⟨rfl, rfl⟩ | (exfalso; omega)
    · rw [if_neg hp, ← e1]
      have ih := l_firstArrival (e := e) (N := N) h0 k n a (i + 1) (by omega) (by omega) (by omega) (by omega) (by omega)
      rw [hd] at hp
      repeat' (first | with_reducible refine ok_nb (by omega) ?_ | with_reducible refine ok_ib (by omega) ?_ | with_reducible refine ok_t (by omega) ?_ | with_reducible refine ok_e (by omega) ?_ | with_reducible refine ok_if (fun h => ?_) (fun h => ?_) | with_reducible refine ok_s ?_ | with_reducible refine ok_b ?_)
      all_goals first | exact ok_of ih ⟨rfl, rfl⟩ | (exfalso; omega)
/-- the reference's own look at what is due -/
theorem l_arrnext {e : w_E} {N : Nat} {R : w_S} {x1 : Int} {P : Int → w_S → Prop} {m : Nat} (h0 : 0 ≤ R.1 129 68 ∧ R.1 129 68 ≤ 200) : ∀ (k n : Nat) (a i : Int), m + k ≤ n → 1 ≤ i → i + k = R.1 129 68 + 1 → 0 ≤ a → a ≤ 200 → (∀ n', m ≤ n' → Ok (El_R_arrivals e N n' 2 [x1, amn (fun j => !decide (R.1 179 j = 0)) (R.1 174) i.toNat k a, R.1 129 68 + 1] [] R) P) → Ok (El_R_arrivals e N n 2 [x1, a, i] [] R) P := by
  intro k
  induction k with
  | zero =>
    intro n a i hn hi hk h4 h5 hP
    have := hP n (by omega)
    have e1 : R.1 129 68 + 1 = i := by omega
    rw [amn, e1] at this
    exact this
  | succ k ih =>
    intro n a i hn hi hk h4 h5 hP
    obtain ⟨n, rfl⟩ : ∃ q, n = q + 1 := ⟨n - 1, by omega⟩
    have e1 : (i + 1).toNat = i.toNat + 1 := by omega
    have e2 : ((i.toNat : Nat) : Int) = i := by omega
    rw [amn, e2, ← e1] at hP
    rw [El_R_arrivals]
    have hd : (!decide (R.1 179 i.toNat = 0)) = true ↔ R.1 179 i.toNat ≠ 0 := by simp
    by_cases hp : (!decide (R.1 179 i.toNat = 0)) = true ∧ (a = 0 ∨ R.1 174 i.toNat < R.1 174 a.toNat)
    · rw [if_pos hp] at hP
      have hq := hd.mp hp.1
      have ih2 := ih n i (i + 1) (by omega) (by omega) (by omega) (by omega) (by omega) hP
      clear hP ih
      repeat' (first | with_reducible refine ok_nb (by omega) ?_ | with_reducible refine ok_ib (by omega) ?_ | with_reducible refine ok_t (by omega) ?_ | with_reducible refine ok_e (by omega) ?_ | with_reducible refine ok_if (fun h => ?_) (fun h => ?_) | with_reducible refine ok_s ?_ | with_reducible refine ok_b ?_)
      all_goals first | exact ih2 | (exfalso; omega)
    · rw [if_neg hp] at hP
      have ih2 := ih n a (i + 1) (by omega) (by omega) (by omega) (by omega) (by omega) hP
      clear hP ih
      rw [hd] at hp
      repeat' (first | with_reducible refine ok_nb (by omega) ?_ | with_reducible refine ok_ib (by omega) ?_ | with_reducible refine ok_t (by omega) ?_ | with_reducible refine ok_e (by omega) ?_ | with_reducible refine ok_if (fun h => ?_) (fun h => ?_) | with_reducible refine ok_s ?_ | with_reducible refine ok_b ?_)
      all_goals first | exact ih2 | (exfalso; omega)
theorem q_dsc {S R S1 R1 : w_S} {t x p st ho da : Int} (h : RelLx S R t x) (hQ : RelQ S R) (hs : Dsc S R x S1 R1 st ho da) (hx : 1 ≤ x ∧ x ≤ S.1 62 3) (hp : 0 ≤ p ∧ p ≤ 3) (hr : R.1 175 x.toNat = p) (hc : S.1 69 x.toNat = p) (hl : S.1 67 x.toNat = 0) (hl2 : R.1 173 x.toNat = 0) (hh : 1 ≤ ho ∧ ho ≤ S.1 46 0) (hr2 : R.1 172 x.toNat = ho) (hst : st = 2 ∧ da = S.1 27 1 + 7 ∨ st = 4 ∧ S.1 27 1 < da ∧ da ≤ 50100) : frm LC LO LJ S S1 ∧ frm LCr LOr LJr R R1 ∧ RelL S1 R1 t := by
  obtain ⟨hT, hP, hG, hRd, hLn, hBk, hCs, hCd, hLo, hCl, hRu⟩ := h
  obtain ⟨hf, hg, a65, a66, a68, b171, b174, d1, d2, d3⟩ := hs
  have e62 : S1.1 62 3 = S.1 62 3 := hf.2.2 62 3 rfl rfl
  have e46 : S1.1 46 = S.1 46 := hf.2.1 46 rfl rfl
  have e50 : S1.1 50 = S.1 50 := hf.2.1 50 rfl rfl
  have e51 : S1.1 51 = S.1 51 := hf.2.1 51 rfl rfl
  have e56 : S1.1 56 = S.1 56 := hf.2.1 56 rfl rfl
  have e67 : S1.1 67 = S.1 67 := hf.2.1 67 rfl rfl
  have e69 : S1.1 69 = S.1 69 := hf.2.1 69 rfl rfl
  have e172 : R1.1 172 = R.1 172 := hg.2.1 172 rfl rfl
  have e173 : R1.1 173 = R.1 173 := hg.2.1 173 rfl rfl
  have e175 : R1.1 175 = R.1 175 := hg.2.1 175 rfl rfl
  refine ⟨hf.weak rfl, hg.weak rfl, hT.fr hf hg rfl, hP.fr hf hg rfl, hQ.fr hf hg rfl, hG.fr hf hg rfl, hRd.fr hf hg rfl, hLn.fr hf hg rfl, hBk.fr hf hg rfl, hCs.fr hf hg rfl, ?_, ?_, hCl.fr hf hg rfl, hRu.fr hf hg rfl⟩
  · intro k a b c
    rw [e62] at b
    simp only [a65, a66, a68, b171, b174, e46, e50, e51, e56, e67, e69, e172, e173, e175, pt_at]
    by_cases e : k = x.toNat
    · have t1 := hT.1
      have t2 := hT.2.1
      subst e
      simp only [if_true]
      refine ⟨⟨trivial, hr2, by omega, trivial, by omega, d3⟩, by omega, by omega, by omega, hh.2, by omega, by omega, by omega, by omega, fun hh => by omega, fun hh => by omega, fun hh => by omega, fun _ => hl⟩
    · simp only [if_neg e]
      rw [d1 k e, d2 k e]
      exact hCd k a b (by omega)
  · intro l a b c
    rw [e46] at b
    rw [e56] at c
    obtain ⟨z1, z2, z3⟩ := hLo l a b c
    obtain ⟨_, _, _, l4⟩ := hLn
    have hll := (l4 l a b).2.2.2
    have hne : (S.1 51 l).toNat ≠ x.toNat := by omega
    simp only [a65, e67, e51, pt_at, if_neg hne]
    exact ⟨by omega, z2, z3⟩
end
section
-- 99
theorem cnt_drop {P Q : Nat → Bool} {c n a : Nat} (h1 : c ≤ a) (h2 : a < c + n) (hp : P a = true) (hq : Q a = false) (h : ∀ k, k ≠ a → P k = Q k) : cnt P c n = cnt Q c n + 1 := by
  have e1 : cnt P c n = cnt (fun k => Q k || decide (k = a)) c n := cnt_congr _ _ (fun k _ _ => by
    by_cases e : k = a
    · rw [e, hp, hq]
      simp
    · rw [h k e]
      simp [e])
  rw [e1, cnt_split (fun k hk => by
    by_cases e : k = a
    · rw [e, hq] at hk
      cases hk
    · simp [e])]
  congr 1
  rw [sm_cnt]
  have e2 : sm (fun k => if decide (k = a) = true then (1 : Int) else 0) c n = sm (fun k => if k = a then (1 : Int) else 0) c n := sm_congr _ _ (fun k _ _ => by simp)
  rw [e2, sm_one, if_pos ⟨h1, h2⟩]
def DueRel (S R : w_S) : Prop := ∀ k : Nat, 1 ≤ k → (k : Int) ≤ S.1 62 3 → (due4 S.1 k = true ↔ R.1 179 k ≠ 0)
theorem t_arrived {e : w_E} {N : Nat} {S R : w_S} {t a : Int} (hN : 10000 ≤ N) (h : RelL S R t) (hD : DueRel S R) (ha : 1 ≤ a ∧ a ≤ S.1 62 3) (hd : due4 S.1 a.toNat = true) : ∃ S3 R3 : w_S, (S.1 66 a.toNat = 0 → (∃ z, E_Lending_settle e N a (S.1 71 a.toNat) (w_put S 69 a.toNat (S.1 71 a.toNat)) = some (z, S3)) ∧ ∃ z, E_R_settle e N a (w_put (w_put R 179 a.toNat 0) 175 a.toNat (R.1 177 a.toNat)) = some (z, R3)) ∧ (S.1 66 a.toNat ≠ 0 → (∃ z, E_Lending_direct e N a (S.1 66 a.toNat) (w_put S 69 a.toNat (S.1 71 a.toNat)) = some (z, S3)) ∧ ∃ z, E_R_shelve e N a (w_put (w_put R 179 a.toNat 0) 175 a.toNat (R.1 177 a.toNat)) = some (z, R3)) ∧ frm LC LO LJ S S3 ∧ frm LCr LOr LJr R R3 ∧ RelL S3 R3 t ∧ DueRel S3 R3 ∧ cnt (due4 S.1) 1 (S.1 62 3).toNat = cnt (due4 S3.1) 1 (S.1 62 3).toNat + 1 := by
  have hd2 : S.1 65 a.toNat = 4 ∧ S.1 68 a.toNat ≤ S.1 27 1 := by simpa [due4] using hd
  have hk := h.2.2.2.2.2.2.2.2.1 a.toNat (by omega) (by omega) (by omega)
  have hks := h.2.2.2.2.2.2.2.1.2.2.2 a.toNat (by omega) (by omega)
  obtain ⟨⟨m1, m2, m3, m4, m5, m6⟩, m7, m8, m9, m10, m11, m12, m13, m14, m15, m16, m17, m18⟩ := hk
  have m6' := m6 hd2.1
  have m18' := m18 (by omega)
  have hcop := h.2.2.2.2.2.2.2.1.2.2.1
  clear m15 m16 m17 m18 m6
  have hX0 := RelL.x0 h (x := a) (by omega)
  have hf : frm [69] [] [] S (w_put S 69 a.toNat (S.1 71 a.toNat)) := by repeat (first | exact frm.refl _ _ _ _ | refine frm.put ?_ rfl | refine frm.puto ?_ rfl rfl | refine frm.arr ?_ rfl)
  have hg : frm [175, 179] [] [] R (w_put (w_put R 179 a.toNat 0) 175 a.toNat (R.1 177 a.toNat)) := by repeat (first | exact frm.refl _ _ _ _ | refine frm.put ?_ rfl | refine frm.puto ?_ rfl rfl | refine frm.arr ?_ rfl)
  have hX : RelLx (w_put S 69 a.toNat (S.1 71 a.toNat)) (w_put (w_put R 179 a.toNat 0) 175 a.toNat (R.1 177 a.toNat)) t a := by
    obtain ⟨hT, hP, hG, hRd, hLn, hBk, hCs, hCd, hLo, hCl, hRu⟩ := hX0
    refine ⟨hT.fr hf hg rfl, hP.fr hf hg rfl, hG.fr hf hg rfl, hRd.fr hf hg rfl, hLn.fr hf hg rfl, hBk.fr hf hg rfl, hCs.fr hf hg rfl, ?_, hLo.fr hf hg rfl, hCl.fr hf hg rfl, hRu.fr hf hg rfl⟩
    simp only [RelCd, w_put_r, w_arr_r, reduceIte, Nat.reduceEqDiff, pt_at]
    intro k b c d
    have e : k ≠ a.toNat := by omega
    simp only [if_neg e]
    exact hCd k b c d
  have hQ' : RelQ (w_put S 69 a.toNat (S.1 71 a.toNat)) (w_put (w_put R 179 a.toNat 0) 175 a.toNat (R.1 177 a.toNat)) := h.2.2.1.fr hf hg rfl
  have fin : ∀ (S3 R3 : w_S) (st da : Int), frm LC LO LJ (w_put S 69 a.toNat (S.1 71 a.toNat)) S3 → frm LCr LOr LJr (w_put (w_put R 179 a.toNat 0) 175 a.toNat (R.1 177 a.toNat)) R3 → RelL S3 R3 t → S3.1 65 = pt (S.1 65) a.toNat st → S3.1 68 = pt (S.1 68) a.toNat da → ¬ (st = 4 ∧ da ≤ S.1 27 1) → R3.1 179 = pt (R.1 179) a.toNat 0 → frm LC LO LJ S S3 ∧ frm LCr LOr LJr R R3 ∧ RelL S3 R3 t ∧ DueRel S3 R3 ∧ cnt (due4 S.1) 1 (S.1 62 3).toNat = cnt (due4 S3.1) 1 (S.1 62 3).toNat + 1 := by
    intro S3 R3 st da f1 f2 f3 f4 f5 f6 f7
    have e27 : S3.1 27 1 = S.1 27 1 := by
      rw [f1.2.2 27 1 rfl rfl]
      simp only [w_put_r, w_arr_r, reduceIte, Nat.reduceEqDiff, pt_at]
    have e62 : S3.1 62 3 = S.1 62 3 := by
      rw [f1.2.2 62 3 rfl rfl]
      simp only [w_put_r, w_arr_r, reduceIte, Nat.reduceEqDiff, pt_at]
    have hne : ∀ k, k ≠ a.toNat → due4 S.1 k = due4 S3.1 k := by
      intro k hkk
      unfold due4
      rw [f4, f5, e27, pt_at, pt_at, if_neg hkk, if_neg hkk]
    have hno : due4 S3.1 a.toNat = false := by
      unfold due4
      rw [f4, f5, e27, pt_at, pt_at, if_pos rfl, if_pos rfl, Bool.eq_false_iff]
      intro q
      apply f6
      simpa using q
    refine ⟨(hf.weak rfl).trans f1, (hg.weak rfl).trans f2, f3, fun k b c => ?_, cnt_drop (by omega) (by omega) hd hno hne⟩
    rw [e62] at c
    rw [f7, pt_at]
    by_cases e : k = a.toNat
    · rw [e, hno, if_pos rfl]
      simp
    · rw [← hne k e, if_neg e]
      exact hD k b c
  by_cases hh : S.1 66 a.toNat = 0
  · have ts := t_settle (e := e) (N := N) (x := a) (p := S.1 71 a.toNat) hN hX.1 hX.2.1 hQ' (by omega) (by omega) (by simp only [w_put_r, w_arr_r, reduceIte, Nat.reduceEqDiff, pt_at]; omega) (by simp only [w_put_r, w_arr_r, reduceIte, Nat.reduceEqDiff, pt_at]; exact hks.1) (by simp only [w_put_r, w_arr_r, reduceIte, Nat.reduceEqDiff, pt_at]; exact hks.2.2.2.2.2.2.1) (by simp only [w_put_r, w_arr_r, reduceIte, Nat.reduceEqDiff, pt_at]; exact hks.2.2.2.2.2.2.2)
    obtain ⟨z1, S3, y1, z2, R3, y2, hs⟩ := ts
    obtain ⟨g1, g2, g3⟩ := q_stl hX hs (by simp only [w_put_r, w_arr_r, reduceIte, Nat.reduceEqDiff, pt_at]; omega) (by omega) (by simp only [w_put_r, w_arr_r, reduceIte, Nat.reduceEqDiff, pt_at]; omega)
    obtain ⟨hf3, hg3, st, ho, da, a65, a66, a67, a68, a69, b171, b172, b173, b174, d1, d2, d3, d4, d5, d6, _⟩ := hs
    simp only [w_put_r, w_arr_r, reduceIte, Nat.reduceEqDiff, pt_at] at d6
    refine ⟨S3, R3, fun _ => ⟨⟨z1, y1⟩, z2, y2⟩, fun q => absurd hh q, fin S3 R3 st da g1 g2 g3 ?_ ?_ (by omega) ?_⟩
    · rw [a65]
      simp only [w_put_r, reduceIte, Nat.reduceEqDiff]
    · rw [a68]
      simp only [w_put_r, reduceIte, Nat.reduceEqDiff]
    · rw [hg3.2.1 179 rfl rfl]
      simp only [w_put_r, reduceIte, Nat.reduceEqDiff]
  · have ts := t_shelve (e := e) (N := N) (x := a) (ho := S.1 66 a.toNat) (p := S.1 71 a.toNat) hN hX.1 hX.2.1 (by omega) (by omega) (by simp only [w_put_r, w_arr_r, reduceIte, Nat.reduceEqDiff, pt_at]; exact m10) (by omega) (by simp only [w_put_r, w_arr_r, reduceIte, Nat.reduceEqDiff, pt_at]) (by simp only [w_put_r, w_arr_r, reduceIte, Nat.reduceEqDiff, pt_at]; omega) (by simp only [w_put_r, w_arr_r, reduceIte, Nat.reduceEqDiff, pt_at]; exact m2)
    obtain ⟨z1, S3, y1, z2, R3, y2, st, da, hs, hst⟩ := ts
    simp only [w_put_r, w_arr_r, reduceIte, Nat.reduceEqDiff, pt_at] at hst
    obtain ⟨g1, g2, g3⟩ := q_dsc hX hQ' hs (by simp only [w_put_r, w_arr_r, reduceIte, Nat.reduceEqDiff, pt_at]; omega) (p := S.1 71 a.toNat) (by omega) (by simp only [w_put_r, w_arr_r, reduceIte, Nat.reduceEqDiff, pt_at]; omega) (by simp only [w_put_r, w_arr_r, reduceIte, Nat.reduceEqDiff, pt_at]) (by simp only [w_put_r, w_arr_r, reduceIte, Nat.reduceEqDiff, pt_at]; exact m18') (by simp only [w_put_r, w_arr_r, reduceIte, Nat.reduceEqDiff, pt_at]; omega) (by simp only [w_put_r, w_arr_r, reduceIte, Nat.reduceEqDiff, pt_at]; omega) (by simp only [w_put_r, w_arr_r, reduceIte, Nat.reduceEqDiff, pt_at]; exact m2) (by simp only [w_put_r, w_arr_r, reduceIte, Nat.reduceEqDiff, pt_at]; exact hst)
    obtain ⟨hf3, hg3, a65, a66, a68, b171, b174, d1, d2, d3⟩ := hs
    refine ⟨S3, R3, fun q => absurd q hh, fun _ => ⟨⟨z1, y1⟩, z2, y2⟩, fin S3 R3 st da g1 g2 g3 ?_ ?_ (by omega) ?_⟩
    · rw [a65]
      simp only [w_put_r, reduceIte, Nat.reduceEqDiff]
    · rw [a68]
      simp only [w_put_r, reduceIte, Nat.reduceEqDiff]
    · rw [hg3.2.1 179 rfl rfl]
      simp only [w_put_r, reduceIte, Nat.reduceEqDiff]
theorem t_arrivals {e : w_E} {N : Nat} {t x1 : Int} (hN : 10000 ≤ N) : ∀ (d : Nat) (mv : Int) (S R : w_S), RelL S R t → DueRel S R → cnt (due4 S.1) 1 (S.1 62 3).toNat = d → mv + d ≤ 200 → 0 ≤ mv → ∃ (S2 R2 : w_S) (mv2 : Int), (∀ (P : Int → w_S → Prop) (m nc : Nat), m + d + 2 ≤ nc → (∀ n', m ≤ n' → Ok (El_Lending_passTo e N n' 1 [x1, mv2, 1] [] S2) P) → Ok (El_Lending_passTo e N nc 0 [x1, mv, amn (due4 S.1) (S.1 68) 1 (S.1 62 3).toNat 0] [] S) P) ∧ (∀ nr, 300 * d + 300 ≤ nr → El_R_arrivals e N nr 1 [mv, 1] [] R = some (mv2, R2)) ∧ 0 ≤ mv2 ∧ mv2 ≤ 200 ∧ frm LC LO LJ S S2 ∧ frm LCr LOr LJr R R2 ∧ RelL S2 R2 t := by
  intro d
  induction d with
  | zero =>
    intro mv S R h hD hc hmv hmv0
    have hC := h.2.2.2.2.2.2.2.1
    have hC1 := hC.1
    have hC2 := hC.2.1
    have hC3 := hC.2.2.1
    have sp := amn_spec (P := due4 S.1) (f := S.1 68) (m := (S.1 62 3).toNat) (S.1 62 3).toNat 1 0 (by omega) (by omega) (Or.inl rfl)
    have hno : amn (due4 S.1) (S.1 68) 1 (S.1 62 3).toNat 0 = 0 := by
      rcases sp with sp | ⟨s1, s2, s3⟩
      · exact sp.1
      · exfalso
        have := cnt_pos (P := due4 S.1) (S.1 62 3).toNat 1
        have hp : 0 < cnt (due4 S.1) 1 (S.1 62 3).toNat := by
          rw [this, anyb_true]
          exact ⟨_, by omega, by omega, s3⟩
        omega
    have hcg : amn (fun j => !decide (R.1 179 j = 0)) (R.1 174) 1 (S.1 62 3).toNat 0 = amn (due4 S.1) (S.1 68) 1 (S.1 62 3).toNat 0 := by
      refine (amn_congr (m := (S.1 62 3).toNat) (fun k a b => ⟨?_, fun _ => ?_⟩) _ _ _ (by omega) (by omega) (Or.inl rfl)).symm
      · have := hD k a (by omega)
        rw [Bool.eq_iff_iff, this]
        simp
      · exact ((h.2.2.2.2.2.2.2.2.1 k a (by omega) (by omega)).1.2.2.2.1).symm
    rw [hno]
    rw [hno] at hcg
    refine ⟨S, R, mv, fun P m nc hnc hP => ?_, fun nr hnr => ?_, hmv0, by omega, frm.refl _ _ _ _, frm.refl _ _ _ _, h⟩
    · obtain ⟨nc, rfl⟩ : ∃ q, nc = q + 1 := ⟨nc - 1, by omega⟩
      rw [El_Lending_passTo]
      repeat' (first | with_reducible refine ok_t trivial ?_ | with_reducible refine ok_nb (by omega) ?_ | with_reducible refine ok_ib (by omega) ?_ | with_reducible refine ok_t (by omega) ?_ | with_reducible refine ok_e (by omega) ?_ | with_reducible refine ok_if (fun h => ?_) (fun h => ?_) | with_reducible refine ok_s ?_ | with_reducible refine ok_b ?_)
      exact hP nc (by omega)
    · obtain ⟨nr, rfl⟩ : ∃ q, nr = q + 1 := ⟨nr - 1, by omega⟩
      refine ok_eq ?_
      rw [El_R_arrivals]
      repeat' (first | with_reducible refine ok_nb (by omega) ?_ | with_reducible refine ok_ib (by omega) ?_ | with_reducible refine ok_t (by omega) ?_ | with_reducible refine ok_e (by omega) ?_ | with_reducible refine ok_if (fun h => ?_) (fun h => ?_) | with_reducible refine ok_s ?_ | with_reducible refine ok_b ?_)
      refine l_arrnext (m := 10) (by omega) (R.1 129 68).toNat nr 0 1 (by omega) (by omega) (by omega) (by omega) (by omega) (fun n' hn' => ?_)
      have e1 : (1 : Int).toNat = 1 := rfl
      rw [e1, hC1, hcg]
      obtain ⟨n', rfl⟩ : ∃ q, n' = q + 1 + 1 := ⟨n' - 2, by omega⟩
      rw [El_R_arrivals]
      repeat' (first | with_reducible refine ok_nb (by omega) ?_ | with_reducible refine ok_ib (by omega) ?_ | with_reducible refine ok_t (by omega) ?_ | with_reducible refine ok_e (by omega) ?_ | with_reducible refine ok_if (fun h => ?_) (fun h => ?_) | with_reducible refine ok_s ?_ | with_reducible refine ok_b ?_)
      rw [El_R_arrivals]
      repeat' (first | with_reducible refine ok_t trivial ?_ | with_reducible refine ok_nb (by omega) ?_ | with_reducible refine ok_ib (by omega) ?_ | with_reducible refine ok_t (by omega) ?_ | with_reducible refine ok_e (by omega) ?_ | with_reducible refine ok_if (fun h => ?_) (fun h => ?_) | with_reducible refine ok_s ?_ | with_reducible refine ok_b ?_)
      exact ⟨rfl, rfl⟩
  | succ d ih =>
    intro mv S R h hD hc hmv hmv0
    have hC := h.2.2.2.2.2.2.2.1
    have hC1 := hC.1
    have hC2 := hC.2.1
    have hC3 := hC.2.2.1
    have sp := amn_spec (P := due4 S.1) (f := S.1 68) (m := (S.1 62 3).toNat) (S.1 62 3).toNat 1 0 (by omega) (by omega) (Or.inl rfl)
    have hcg : amn (fun j => !decide (R.1 179 j = 0)) (R.1 174) 1 (S.1 62 3).toNat 0 = amn (due4 S.1) (S.1 68) 1 (S.1 62 3).toNat 0 := by
      refine (amn_congr (m := (S.1 62 3).toNat) (fun k a b => ⟨?_, fun _ => ?_⟩) _ _ _ (by omega) (by omega) (Or.inl rfl)).symm
      · have := hD k a (by omega)
        rw [Bool.eq_iff_iff, this]
        simp
      · exact ((h.2.2.2.2.2.2.2.2.1 k a (by omega) (by omega)).1.2.2.2.1).symm
    rcases sp with ⟨s1, s2, s3⟩ | ⟨s1, s2, s3⟩
    · exfalso
      have := cnt_pos (P := due4 S.1) (S.1 62 3).toNat 1
      have hp : anyb (due4 S.1) 1 (S.1 62 3).toNat = true := by
        rw [← this]
        omega
      rw [anyb_true] at hp
      obtain ⟨k, k1, k2, k3⟩ := hp
      rw [s3 k k1 k2] at k3
      cases k3
    · generalize hav : amn (due4 S.1) (S.1 68) 1 (S.1 62 3).toNat 0 = a at *
      obtain ⟨S3, R3, w1, w2, w3, w4, w5, w6, w7⟩ := t_arrived (e := e) (N := N) (a := a) hN h hD (by omega) s3
      have e62 : S3.1 62 3 = S.1 62 3 := w3.2.2 62 3 rfl rfl
      have fa := l_firstArrival (e := e) (N := N) (S := S3) (by rw [e62]; exact ⟨hC2, hC3⟩) (S3.1 62 3).toNat N 0 1 (by rw [e62]; omega) (by omega) (by rw [e62]; omega) (by omega) (by omega)
      have fa' : E_Lending_firstArrival e N S3 = some (amn (due4 S3.1) (S3.1 68) 1 (S3.1 62 3).toNat 0, S3) := fa
      have m2 := (h.2.2.2.2.2.2.2.2.1 a.toNat (by omega) (by omega) (by omega)).1.2.1
      have m9 := (h.2.2.2.2.2.2.2.2.1 a.toNat (by omega) (by omega) (by omega)).2.2.2.1
      obtain ⟨S2, R2, mv2, v1, v2, v3, v4, v5, v6, v7⟩ := ih (mv + 1) S3 R3 w5 w6 (by rw [e62]; omega) (by omega) (by omega)
      refine ⟨S2, R2, mv2, fun P m nc hnc hP => ?_, fun nr hnr => ?_, v3, v4, w3.trans v5, w4.trans v6, v7⟩
      · obtain ⟨nc, rfl⟩ : ∃ q, nc = q + 1 := ⟨nc - 1, by omega⟩
        have v1' := v1 P m nc (by omega) hP
        rw [El_Lending_passTo]
        have er : (w_put S 69 a.toNat (S.1 71 a.toNat)).1 69 a.toNat = S.1 71 a.toNat := by simp only [w_put_r, w_arr_r, reduceIte, Nat.reduceEqDiff, pt_at]
        rw [er]
        by_cases hh : S.1 66 a.toNat = 0
        · obtain ⟨⟨z, y1⟩, _⟩ := w1 hh
          clear w1 w2 v1 v2 ih
          repeat' (first | (with_reducible refine ok_of y1 ?_; dsimp only) | (with_reducible refine ok_of fa' ?_; dsimp only) | with_reducible refine ok_nb (by omega) ?_ | with_reducible refine ok_ib (by omega) ?_ | with_reducible refine ok_t (by omega) ?_ | with_reducible refine ok_e (by omega) ?_ | with_reducible refine ok_if (fun h => ?_) (fun h => ?_) | with_reducible refine ok_s ?_ | with_reducible refine ok_b ?_)
          exact v1'
        · obtain ⟨⟨z, y1⟩, _⟩ := w2 hh
          clear w1 w2 v1 v2 ih
          repeat' (first | (with_reducible refine ok_of y1 ?_; dsimp only) | (with_reducible refine ok_of fa' ?_; dsimp only) | with_reducible refine ok_nb (by omega) ?_ | with_reducible refine ok_ib (by omega) ?_ | with_reducible refine ok_t (by omega) ?_ | with_reducible refine ok_e (by omega) ?_ | with_reducible refine ok_if (fun h => ?_) (fun h => ?_) | with_reducible refine ok_s ?_ | with_reducible refine ok_b ?_)
          exact v1'
      · obtain ⟨nr, rfl⟩ : ∃ q, nr = q + 1 := ⟨nr - 1, by omega⟩
        refine ok_eq ?_
        rw [El_R_arrivals]
        repeat' (first | with_reducible refine ok_nb (by omega) ?_ | with_reducible refine ok_ib (by omega) ?_ | with_reducible refine ok_t (by omega) ?_ | with_reducible refine ok_e (by omega) ?_ | with_reducible refine ok_if (fun h => ?_) (fun h => ?_) | with_reducible refine ok_s ?_ | with_reducible refine ok_b ?_)
        refine l_arrnext (m := 300 * d + 310) (by omega) (R.1 129 68).toNat nr 0 1 (by omega) (by omega) (by omega) (by omega) (by omega) (fun n' hn' => ?_)
        have e1 : (1 : Int).toNat = 1 := rfl
        rw [e1, hC1, hcg]
        obtain ⟨n', rfl⟩ : ∃ q, n' = q + 1 := ⟨n' - 1, by omega⟩
        have v2' := v2 n' (by omega)
        rw [El_R_arrivals]
        by_cases hh : S.1 66 a.toNat = 0
        · obtain ⟨_, z, y1⟩ := w1 hh
          clear w1 w2 v1 v2 ih
          repeat' (first | (with_reducible refine ok_of y1 ?_; dsimp only) | with_reducible refine ok_nb (by omega) ?_ | with_reducible refine ok_ib (by omega) ?_ | with_reducible refine ok_t (by omega) ?_ | with_reducible refine ok_e (by omega) ?_ | with_reducible refine ok_if (fun h => ?_) (fun h => ?_) | with_reducible refine ok_s ?_ | with_reducible refine ok_b ?_)
          exact ok_of v2' ⟨rfl, rfl⟩
        · obtain ⟨_, z, y1⟩ := w2 hh
          clear w1 w2 v1 v2 ih
          repeat' (first | (with_reducible refine ok_of y1 ?_; dsimp only) | with_reducible refine ok_nb (by omega) ?_ | with_reducible refine ok_ib (by omega) ?_ | with_reducible refine ok_t (by omega) ?_ | with_reducible refine ok_e (by omega) ?_ | with_reducible refine ok_if (fun h => ?_) (fun h => ?_) | with_reducible refine ok_s ?_ | with_reducible refine ok_b ?_)
          exact ok_of v2' ⟨rfl, rfl⟩
end
section
-- a0
theorem t_shelves {e : w_E} {N : Nat} {t x1 : Int} (hN : 10000 ≤ N) : ∀ (k n n' c : Nat) (mv : Int) (S R : w_S), RelL S R t → S.1 27 1 = x1 → (c : Int) + k = S.1 62 3 + 1 → 1 ≤ c → k < n → k < n' → 0 ≤ mv → mv + k ≤ 1000 → Ok (El_Lending_passTo e N n 1 [x1, mv, c] [] S) (fun y S1 => Ok (El_R_doTick e N n' 0 [mv, c] [] R) (fun y' R1 => y' = y ∧ 0 ≤ y ∧ frm LC LO LJ S S1 ∧ frm LCr LOr LJr R R1 ∧ RelL S1 R1 t)) := by
  intro k
  induction k with
  | zero =>
    intro n n' c mv S R h hx hk hc hn hn' hmv hmv2
    have hC1 := h.2.2.2.2.2.2.2.1.1
    obtain ⟨n, rfl⟩ : ∃ q, n = q + 1 := ⟨n - 1, by omega⟩
    obtain ⟨n', rfl⟩ : ∃ q, n' = q + 1 := ⟨n' - 1, by omega⟩
    rw [El_Lending_passTo, El_R_doTick]
    repeat' (first | with_reducible refine ok_nb (by omega) ?_ | with_reducible refine ok_ib (by omega) ?_ | with_reducible refine ok_t (by omega) ?_ | with_reducible refine ok_e (by omega) ?_ | with_reducible refine ok_if (fun h => ?_) (fun h => ?_) | with_reducible refine ok_s ?_ | with_reducible refine ok_b ?_)
    exact ⟨rfl, hmv, frm.refl _ _ _ _, frm.refl _ _ _ _, h⟩
  | succ k ih =>
    intro n n' c mv S R h hx hk hc hn hn' hmv hmv2
    have hC1 := h.2.2.2.2.2.2.2.1.1
    have hC3 := h.2.2.2.2.2.2.2.1.2.2.1
    have hT3 := h.1.2.2.1
    obtain ⟨n, rfl⟩ : ∃ q, n = q + 1 := ⟨n - 1, by omega⟩
    obtain ⟨n', rfl⟩ : ∃ q, n' = q + 1 := ⟨n' - 1, by omega⟩
    have hkk := h.2.2.2.2.2.2.2.2.1 c hc (by omega) (by omega)
    have hks := h.2.2.2.2.2.2.2.1.2.2.2 c hc (by omega)
    have m1 := hkk.1.1
    have m4 := hkk.1.2.2.2.1
    have m5 := hkk.1.2.2.2.2.1
    have m11 := hkk.2.2.2.2.2.1
    have m12 := hkk.2.2.2.2.2.2.1
    clear hkk
    have ec : ((c : Nat) : Int).toNat = c := by omega
    have e5 : (c : Int) + 1 = ((c + 1 : Nat) : Int) := by omega
    rw [El_Lending_passTo, El_R_doTick, ec]
    by_cases b : S.1 65 c = 2 ∧ S.1 68 c < x1
    · have ts := t_settle (e := e) (N := N) (S := S) (R := R) (x := (c : Int)) (p := S.1 69 c) hN h.1 h.2.1 h.2.2.1 (by omega) ⟨m11, m12⟩ (by rw [ec]; exact m5) (by rw [ec]; exact hks.1) (by rw [ec]; exact hks.2.2.2.2.2.2.1) (by rw [ec]; exact hks.2.2.2.2.2.2.2)
      clear hks
      repeat' (first | (with_reducible refine ts.mono (fun y S3 hs => ?_)) | with_reducible refine ok_nb (by omega) ?_ | with_reducible refine ok_ib (by omega) ?_ | with_reducible refine ok_t (by omega) ?_ | with_reducible refine ok_e (by omega) ?_ | with_reducible refine ok_if (fun h => ?_) (fun h => ?_) | with_reducible refine ok_s ?_ | with_reducible refine ok_b ?_)
      dsimp only
      have hs0 := hs
      obtain ⟨z, R3, y1, hs⟩ := hs0
      obtain ⟨g1, g2, g3⟩ := q_stl (RelL.x0 h (x := (c : Int)) (by rw [ec, b.1]; omega)) hs (by omega) ⟨m11, m12⟩ (by rw [ec]; exact m5)
      have e27 : S3.1 27 1 = S.1 27 1 := g1.2.2 27 1 rfl rfl
      have e62 : S3.1 62 3 = S.1 62 3 := g1.2.2 62 3 rfl rfl
      have ih2 := ih n n' (c + 1) (mv + 1) S3 R3 g3 (by omega) (by omega) (by omega) (by omega) (by omega) (by omega) (by omega)
      rw [← e5] at ih2
      repeat' (first | with_reducible refine ok_nb (by omega) ?_ | with_reducible refine ok_ib (by omega) ?_ | with_reducible refine ok_t (by omega) ?_ | with_reducible refine ok_e (by omega) ?_ | with_reducible refine ok_if (fun h => ?_) (fun h => ?_) | with_reducible refine ok_s ?_ | with_reducible refine ok_b ?_)
      refine ih2.mono (fun y S1 q => ?_)
      repeat' (first | (with_reducible refine ok_of y1 ?_; dsimp only) | with_reducible refine ok_nb (by omega) ?_ | with_reducible refine ok_ib (by omega) ?_ | with_reducible refine ok_t (by omega) ?_ | with_reducible refine ok_e (by omega) ?_ | with_reducible refine ok_if (fun h => ?_) (fun h => ?_) | with_reducible refine ok_s ?_ | with_reducible refine ok_b ?_)
      refine q.mono (fun y' R1 q => ?_)
      exact ⟨q.1, q.2.1, g1.trans q.2.2.1, g2.trans q.2.2.2.1, q.2.2.2.2⟩
    · have ih2 := ih n n' (c + 1) mv S R h hx (by omega) (by omega) (by omega) (by omega) (by omega) (by omega)
      rw [← e5] at ih2
      clear hks
      repeat' (first | with_reducible refine ok_nb (by omega) ?_ | with_reducible refine ok_ib (by omega) ?_ | with_reducible refine ok_t (by omega) ?_ | with_reducible refine ok_e (by omega) ?_ | with_reducible refine ok_if (fun h => ?_) (fun h => ?_) | with_reducible refine ok_s ?_ | with_reducible refine ok_b ?_)
      all_goals first | (exfalso; omega) | skip
      all_goals
        refine ih2.mono (fun y S1 q => ?_)
        repeat' (first | with_reducible refine ok_nb (by omega) ?_ | with_reducible refine ok_ib (by omega) ?_ | with_reducible refine ok_t (by omega) ?_ | with_reducible refine ok_e (by omega) ?_ | with_reducible refine ok_if (fun h => ?_) (fun h => ?_) | with_reducible refine ok_s ?_ | with_reducible refine ok_b ?_)
        all_goals first | exact q | (exfalso; omega)
theorem l_isDue {e : w_E} {N : Nat} {R : w_S} : ∀ (k n : Nat) (i : Int) (R1 : w_S), k < n → 1 ≤ i → i + k = R.1 129 68 + 1 → R.1 129 68 ≤ 200 → R1.1 129 = R.1 129 → R1.1 171 = R.1 171 → R1.1 174 = R.1 174 → ∃ E : Nat → Int, (∀ P, (∀ n', n - k - 1 ≤ n' → Ok (El_R_arrivals e N n' 1 [0, 1] [] (w_arr R1 179 E)) P) → Ok (El_R_arrivals e N n 0 [0, 1, i] [] R1) P) ∧ (∀ j, j < i.toNat → E j = R1.1 179 j) ∧ ∀ j : Nat, i.toNat ≤ j → (j : Int) ≤ R.1 129 68 → E j = if R.1 171 j = 4 ∧ R.1 174 j ≤ R.1 129 12 then 1 else 0 := by
  intro k
  induction k with
  | zero =>
    intro n i R1 hn hi hk h2 e1 e2 e3
    obtain ⟨n, rfl⟩ : ∃ q, n = q + 1 := ⟨n - 1, by omega⟩
    refine ⟨R1.1 179, fun P hP => ?_, fun j hj => rfl, fun j h1 h2 => by omega⟩
    rw [w_arr_self] at hP
    rw [El_R_arrivals, e1]
    repeat' (first | with_reducible refine ok_nb (by omega) ?_ | with_reducible refine ok_ib (by omega) ?_ | with_reducible refine ok_t (by omega) ?_ | with_reducible refine ok_e (by omega) ?_ | with_reducible refine ok_if (fun h => ?_) (fun h => ?_) | with_reducible refine ok_s ?_ | with_reducible refine ok_b ?_)
    exact hP n (by omega)
  | succ k ih =>
    intro n i R1 hn hi hk h2 e1 e2 e3
    obtain ⟨n, rfl⟩ : ∃ q, n = q + 1 := ⟨n - 1, by omega⟩
    have ex : ∀ v : Int, (v = if R.1 171 i.toNat = 4 ∧ R.1 174 i.toNat ≤ R.1 129 12 then 1 else 0) → ∃ E : Nat → Int, (∀ P, (∀ n', n + 1 - (k + 1) - 1 ≤ n' → Ok (El_R_arrivals e N n' 1 [0, 1] [] (w_arr R1 179 E)) P) → Ok (El_R_arrivals e N n 0 [0, 1, i + 1] [] (w_put R1 179 i.toNat v)) P) ∧ (∀ j, j < i.toNat → E j = R1.1 179 j) ∧ ∀ j : Nat, i.toNat ≤ j → (j : Int) ≤ R.1 129 68 → E j = if R.1 171 j = 4 ∧ R.1 174 j ≤ R.1 129 12 then 1 else 0 := by
      intro v hv
      obtain ⟨E, a1, a2, a3⟩ := ih n (i + 1) (w_put R1 179 i.toNat v) (by omega) (by omega) (by omega) h2 (by simp only [w_put_r, reduceIte, Nat.reduceEqDiff]; exact e1) (by simp only [w_put_r, reduceIte, Nat.reduceEqDiff]; exact e2) (by simp only [w_put_r, reduceIte, Nat.reduceEqDiff]; exact e3)
      refine ⟨E, fun P hP => a1 P (fun n' hn' => ?_), fun j hj => ?_, fun j h3 h4 => ?_⟩
      · rw [w_put_pt, w_arr_arr]
        exact hP n' (by omega)
      · rw [a2 j (by omega)]
        simp only [w_put_r, w_arr_r, reduceIte, Nat.reduceEqDiff, pt_at]
        rw [if_neg (by omega)]
      · by_cases e : j = i.toNat
        · rw [a2 j (by omega)]
          simp only [w_put_r, w_arr_r, reduceIte, Nat.reduceEqDiff, pt_at]
          rw [if_pos e, hv, e]
        · exact a3 j (by omega) h4
    by_cases b : R.1 171 i.toNat = 4 ∧ R.1 174 i.toNat ≤ R.1 129 12
    · obtain ⟨E, a1, a2, a3⟩ := ex 1 (by rw [if_pos b])
      refine ⟨E, fun P hP => ?_, a2, a3⟩
      have := a1 P hP
      rw [El_R_arrivals, e1, e2, e3]
      repeat' (first | with_reducible refine ok_nb (by omega) ?_ | with_reducible refine ok_ib (by omega) ?_ | with_reducible refine ok_t (by omega) ?_ | with_reducible refine ok_e (by omega) ?_ | with_reducible refine ok_if (fun h => ?_) (fun h => ?_) | with_reducible refine ok_s ?_ | with_reducible refine ok_b ?_)
      exact this
    · obtain ⟨E, a1, a2, a3⟩ := ex 0 (by rw [if_neg b])
      refine ⟨E, fun P hP => ?_, a2, a3⟩
      have := a1 P hP
      rw [El_R_arrivals, e1, e2, e3]
      repeat' (first | with_reducible refine ok_nb (by omega) ?_ | with_reducible refine ok_ib (by omega) ?_ | with_reducible refine ok_t (by omega) ?_ | with_reducible refine ok_e (by omega) ?_ | with_reducible refine ok_if (fun h => ?_) (fun h => ?_) | with_reducible refine ok_s ?_ | with_reducible refine ok_b ?_)
      all_goals first | exact this | (exfalso; omega)
theorem t_tick {e : w_E} {N : Nat} {S R : w_S} {x1 t : Int} (hN : 100000 ≤ N) (h : RelL S R t) (ht : 0 ≤ t) : Ok (E_Lending_passTo e N x1 S) (fun y S1 => Ok (E_R_doTick e N x1 R) (fun y' R1 => Pa S R (fun _ S1 R1 => frm LC LO ((27, 1) :: LJ) S S1 ∧ frm LCr LOr ((129, 12) :: LJr) R R1 ∧ RelL S1 R1 (t + 1) ∧ S1.1 27 1 = x1 ∧ S.1 27 1 < x1 ∧ x1 ≤ 50000) y S1 y' R1)) := by
  obtain ⟨hT, hP, hQ, hG, hRd, hLn, hBk, hCs, hCd, hLo, hCl, hRu⟩ := h
  have t1 := hT.1
  have t3 := hT.2.2.1
  by_cases b : x1 < 0 ∨ 50000 < x1 ∨ x1 ≤ S.1 27 1
  · unfold E_Lending_passTo E_R_doTick
    repeat' (first | with_reducible refine ok_nb (by omega) ?_ | with_reducible refine ok_ib (by omega) ?_ | with_reducible refine ok_t (by omega) ?_ | with_reducible refine ok_e (by omega) ?_ | with_reducible refine ok_if (fun h => ?_) (fun h => ?_) | with_reducible refine ok_s ?_ | with_reducible refine ok_b ?_)
    all_goals first | exact ⟨rfl, Or.inl ⟨by omega, rfl, rfl⟩⟩ | (exfalso; omega)
  have hf : frm [] [27] [(27, 1)] S (w_put S 27 1 x1) := by repeat (first | exact frm.refl _ _ _ _ | refine frm.put ?_ rfl | refine frm.puto ?_ rfl rfl | refine frm.arr ?_ rfl)
  have hg : frm [] [129] [(129, 12)] R (w_put R 129 12 x1) := by repeat (first | exact frm.refl _ _ _ _ | refine frm.put ?_ rfl | refine frm.puto ?_ rfl rfl | refine frm.arr ?_ rfl)
  have hL0 : RelL (w_put S 27 1 x1) (w_put R 129 12 x1) t := by
    refine ⟨?_, hP.fr hf hg rfl, hQ.fr hf hg rfl, hG.fr hf hg rfl, hRd.fr hf hg rfl, hLn.fr hf hg rfl, hBk.fr hf hg rfl, hCs.fr hf hg rfl, hCd.fr hf hg rfl, hLo.fr hf hg rfl, hCl.fr hf hg rfl, hRu.fr hf hg rfl⟩
    obtain ⟨_, _, _, nl, q1, q2, q3, q4⟩ := hT
    refine ⟨by simp only [w_put_r, w_arr_r, reduceIte, Nat.reduceEqDiff, pt_at]; omega, by simp only [w_put_r, w_arr_r, reduceIte, Nat.reduceEqDiff, pt_at]; omega, by simp only [w_put_r, w_arr_r, reduceIte, Nat.reduceEqDiff, pt_at], nl, ?_, ?_, ?_, ?_⟩
    all_goals simp only [w_put_r, w_arr_r, reduceIte, Nat.reduceEqDiff, pt_at]
    · exact q1
    · exact q2
    · exact q3
    · exact q4
  have c1 : (w_put R 129 12 x1).1 129 68 = S.1 62 3 := by
    simp only [w_put_r, w_arr_r, reduceIte, Nat.reduceEqDiff, pt_at]
    exact hCs.1
  have c0 : (w_put S 27 1 x1).1 62 3 = S.1 62 3 := by simp only [w_put_r, w_arr_r, reduceIte, Nat.reduceEqDiff, pt_at]
  have c2 := hCs.2.1
  have c3 := hCs.2.2.1
  obtain ⟨E, E1, E2, E3⟩ := l_isDue (e := e) (N := N) (R := w_put R 129 12 x1) (S.1 62 3).toNat N 1 (w_put R 129 12 x1) (by omega) (by omega) (by omega) (by omega) rfl rfl rfl
  have hgE : frm [179] [] [] (w_put R 129 12 x1) (w_arr (w_put R 129 12 x1) 179 E) := by repeat (first | exact frm.refl _ _ _ _ | refine frm.put ?_ rfl | refine frm.puto ?_ rfl rfl | refine frm.arr ?_ rfl)
  have hLE : RelL (w_put S 27 1 x1) (w_arr (w_put R 129 12 x1) 179 E) t := by
    obtain ⟨hT, hP, hQ, hG, hRd, hLn, hBk, hCs, hCd, hLo, hCl, hRu⟩ := hL0
    have hfr := frm.refl [] [] [] (w_put S 27 1 x1)
    exact ⟨hT.fr hfr hgE rfl, hP.fr hfr hgE rfl, hQ.fr hfr hgE rfl, hG.fr hfr hgE rfl, hRd.fr hfr hgE rfl, hLn.fr hfr hgE rfl, hBk.fr hfr hgE rfl, hCs.fr hfr hgE rfl, hCd.fr hfr hgE rfl, hLo.fr hfr hgE rfl, hCl.fr hfr hgE rfl, hRu.fr hfr hgE rfl⟩
  have hDE : DueRel (w_put S 27 1 x1) (w_arr (w_put R 129 12 x1) 179 E) := by
    intro k a b'
    rw [c0] at b'
    have e1 : (1 : Int).toNat = 1 := rfl
    have hk := hCd k a (by omega) (by omega)
    have := E3 k (by omega) (by omega)
    simp only [w_put_r, w_arr_r, reduceIte, Nat.reduceEqDiff, pt_at] at this ⊢
    rw [this, hk.1.1, hk.1.2.2.2.1]
    unfold due4
    simp only [w_put_r, w_arr_r, reduceIte, Nat.reduceEqDiff, pt_at, Bool.and_eq_true, decide_eq_true_eq]
    split
    · next q => simp [q]
    · next q =>
      constructor
      · intro q'
        exact absurd q' q
      · intro q'
        exact absurd rfl q'
  have hcl := cnt_le (due4 (w_put S 27 1 x1).1) (S.1 62 3).toNat 1
  obtain ⟨S2, R2, mv2, v1, v2, v3, v4, v5, v6, v7⟩ := t_arrivals (e := e) (N := N) (x1 := x1) (by omega) (cnt (due4 (w_put S 27 1 x1).1) 1 (S.1 62 3).toNat).toNat 0 (w_put S 27 1 x1) (w_arr (w_put R 129 12 x1) 179 E) hLE hDE (by rw [c0]; omega) (by omega) (by omega)
  have fa := l_firstArrival (e := e) (N := N) (S := w_put S 27 1 x1) (by rw [c0]; omega) (S.1 62 3).toNat N 0 1 (by omega) (by omega) (by rw [c0]; omega) (by omega) (by omega)
  have fa' : E_Lending_firstArrival e N (w_put S 27 1 x1) = some (amn (due4 (w_put S 27 1 x1).1) ((w_put S 27 1 x1).1 68) 1 (S.1 62 3).toNat 0, w_put S 27 1 x1) := fa
  have ra : E_R_arrivals e N (w_put R 129 12 x1) = some (mv2, R2) := by
    refine ok_eq (E1 _ (fun n' hn' => ?_))
    exact ok_of (v2 n' (by omega)) ⟨rfl, rfl⟩
  have e27 : S2.1 27 1 = x1 := by
    rw [v5.2.2 27 1 rfl rfl]
    simp only [w_put_r, w_arr_r, reduceIte, Nat.reduceEqDiff, pt_at]
  have e62 : S2.1 62 3 = S.1 62 3 := by
    rw [v5.2.2 62 3 rfl rfl]
    simp only [w_put_r, w_arr_r, reduceIte, Nat.reduceEqDiff, pt_at]
  unfold E_Lending_passTo E_R_doTick
  rw [c0] at v1
  clear hP hQ hG hRd hLn hBk hCs hCd hLo hCl hRu
  repeat' (first | (with_reducible refine ok_of fa' ?_; dsimp only) | with_reducible refine ok_nb (by omega) ?_ | with_reducible refine ok_ib (by omega) ?_ | with_reducible refine ok_t (by omega) ?_ | with_reducible refine ok_e (by omega) ?_ | with_reducible refine ok_if (fun h => ?_) (fun h => ?_) | with_reducible refine ok_s ?_ | with_reducible refine ok_b ?_)
  refine v1 _ 1000 N (by omega) (fun n' hn' => ?_)
  have sh := t_shelves (e := e) (N := N) (x1 := x1) (by omega) (S2.1 62 3).toNat n' N 1 mv2 S2 R2 v7 e27 (by omega) (by omega) (by omega) (by omega) v3 (by omega)
  refine sh.mono (fun y S1 q => ?_)
  repeat' (first | (with_reducible refine ok_of ra ?_; dsimp only) | with_reducible refine ok_nb (by omega) ?_ | with_reducible refine ok_ib (by omega) ?_ | with_reducible refine ok_t (by omega) ?_ | with_reducible refine ok_e (by omega) ?_ | with_reducible refine ok_if (fun h => ?_) (fun h => ?_) | with_reducible refine ok_s ?_ | with_reducible refine ok_b ?_)
  refine q.mono (fun y' R1 q => ?_)
  refine ⟨q.1, Or.inr ⟨q.2.1, (hf.weak rfl).trans ((v5.trans q.2.2.1).weak rfl), (hg.weak rfl).trans ((hgE.weak rfl).trans ((v6.trans q.2.2.2.1).weak rfl)), q.2.2.2.2.up, ?_, by omega, by omega⟩⟩
  rw [q.2.2.1.2.2 27 1 rfl rfl]
  exact e27
end
