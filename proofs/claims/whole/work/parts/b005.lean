section
-- 87
/-- closed, by the class's days -/
def cld (S : w_S) (d : Int) : Bool := anyb (fun j => decide (S.1 28 j = d)) 0 (S.1 27 4).toNat
theorem cld_R {S R : w_S} (h : RelCl S R) (d : Int) : anyb (fun j => decide (R.1 213 j = d)) 0 (R.1 129 125).toNat = cld S d := by
  obtain ⟨h1, h2, h3, h4, h5⟩ := h
  unfold cld
  rw [h1]
  refine anyb_congr _ _ (fun k a b => ?_)
  rw [(h4 k (by omega)).1]
theorem cnt_split {P Q : Nat → Bool} (hd : ∀ k, P k = true → Q k = false) : ∀ (n c : Nat), cnt (fun k => P k || Q k) c n = cnt P c n + cnt Q c n
  | 0, _ => rfl
  | n + 1, c => by
    rw [cnt, cnt, cnt, cnt_split hd n (c + 1)]
    have := hd c
    cases hp : P c <;> cases hq : Q c <;> simp_all <;> omega
theorem cnt_uniq {P : Nat → Bool} : ∀ (n c : Nat), (∀ i j, c ≤ i → i < j → j < c + n → P i = true → P j = false) → cnt P c n = bi (anyb P c n)
  | 0, _, _ => rfl
  | n + 1, c, h => by
    rw [cnt, anyb_it]
    by_cases hp : P c = true
    · rw [if_pos hp, if_pos hp]
      have : cnt P (c + 1) n = 0 := by
        have e : cnt P (c + 1) n = cnt (fun _ => false) (c + 1) n := cnt_congr _ _ (fun k a b => h c k (by omega) (by omega) (by omega) hp)
        rw [e]
        have z : ∀ (m d : Nat), cnt (fun _ => false) d m = 0 := by
          intro m
          induction m with
          | zero => intro d; rfl
          | succ m ih => intro d; rw [cnt, ih]; rfl
        exact z n (c + 1)
      rw [this]
      rfl
    · rw [if_neg hp, if_neg hp, cnt_uniq n (c + 1) (fun i j a b d e => h i j (by omega) b (by omega) e)]
      omega
theorem cld_cnt {S R : w_S} (h : RelCl S R) (d : Int) : cnt (fun j => decide (S.1 28 j = d)) 0 (S.1 27 4).toNat = bi (cld S d) := by
  obtain ⟨h1, h2, h3, h4, h5⟩ := h
  refine cnt_uniq _ _ (fun i j a b c e => ?_)
  have := h5 i j b (by omega)
  simp only [decide_eq_true_eq] at e
  simp only [decide_eq_false_iff_not]
  omega
/-- closed days of a row of days -/
theorem cld_range {S R : w_S} (h : RelCl S R) (a : Int) : ∀ k : Nat, cnt (fun j => decide (a < S.1 28 j) && decide (S.1 28 j ≤ a + (k + 1 : Nat))) 0 (S.1 27 4).toNat = cnt (fun j => decide (a < S.1 28 j) && decide (S.1 28 j ≤ a + (k : Nat))) 0 (S.1 27 4).toNat + bi (cld S (a + (k + 1 : Nat))) := by
  intro k
  rw [← cld_cnt h, ← cnt_split]
  · refine cnt_congr _ _ (fun j _ _ => ?_)
    rw [Bool.eq_iff_iff]
    simp only [Bool.and_eq_true, Bool.or_eq_true, decide_eq_true_eq]
    omega
  · intro j hj
    simp only [Bool.and_eq_true, decide_eq_true_eq] at hj
    simp only [decide_eq_false_iff_not]
    omega
/-- a row of closed days is no longer than there are -/
theorem cld_row {S R : w_S} (h : RelCl S R) (d : Int) : ∀ k : Nat, (∀ j : Nat, j < k → cld S (d + j) = true) → (k : Int) ≤ cnt (fun j => decide (d - 1 < S.1 28 j) && decide (S.1 28 j ≤ d - 1 + (k : Nat))) 0 (S.1 27 4).toNat
  | 0, _ => (cnt_le _ _ _).1
  | k + 1, hk => by
    have ih := cld_row h d k (fun j hj => hk j (by omega))
    have := cld_range h (d - 1) k
    have e : d - 1 + ((k + 1 : Nat) : Int) = d + (k : Nat) := by omega
    rw [this, e, hk k (by omega)]
    have : bi true = 1 := rfl
    omega
theorem cld_open {S R : w_S} (h : RelCl S R) (d : Int) : ∃ k : Nat, k ≤ 60 ∧ cld S (d + k) = false ∧ ∀ j : Nat, j < k → cld S (d + j) = true := by
  have key : ∀ m : Nat, (∃ k : Nat, k ≤ m ∧ cld S (d + k) = false ∧ ∀ j : Nat, j < k → cld S (d + j) = true) ∨ ∀ j : Nat, j ≤ m → cld S (d + j) = true := by
    intro m
    induction m with
    | zero =>
      cases hc : cld S (d + ((0 : Nat) : Int)) with
      | false => exact Or.inl ⟨0, by omega, hc, fun j hj => by omega⟩
      | true =>
        refine Or.inr (fun j hj => ?_)
        have e0 : j = 0 := by omega
        rw [e0]
        exact hc
    | succ m ih =>
      rcases ih with ⟨k, a, b, c⟩ | ih
      · exact Or.inl ⟨k, by omega, b, c⟩
      · cases hc : cld S (d + ((m + 1 : Nat) : Int)) with
        | false => exact Or.inl ⟨m + 1, by omega, hc, fun j hj => ih j (by omega)⟩
        | true =>
          refine Or.inr (fun j hj => ?_)
          by_cases e : j = m + 1
          · rw [e]; exact hc
          · exact ih j (by omega)
  rcases key 60 with k | k
  · exact k
  · exfalso
    have a := cld_row h d 61 (fun j hj => k j (by omega))
    have b := cnt_le (fun j => decide (d - 1 < S.1 28 j) && decide (S.1 28 j ≤ d - 1 + ((61 : Nat) : Int))) (S.1 27 4).toNat 0
    have := h.2.2.1
    omega
theorem bi_pos {b : Bool} (h : b = true) : bi b = 1 := by rw [h]; rfl
theorem bi_neg {b : Bool} (h : b = false) : bi b = 0 := by rw [h]; rfl
theorem l_openDay {e : w_E} {N : Nat} {S R : w_S} (hN : 1000 ≤ N) (h : RelCl S R) : ∀ (k n : Nat) (d i : Int), k < n → 0 ≤ i → i + k ≤ 60 → 0 ≤ d → d + k ≤ 1000000 → (i + k < 60 → cld S (d + k) = false) → (∀ j : Nat, j < k → cld S (d + j) = true) → El_RuleBook_openDay e N n 0 [d, i] [] S = some (d + k, S) := by
  intro k
  have c1 := fun d => x_closedBetween (e := e) (N := N) (S := S) (x1 := d - 1) (x2 := d) hN ⟨h.2.1, h.2.2.1⟩
  have c2 : ∀ d, cnt (fun j => decide (d - 1 < S.1 28 j) && decide (S.1 28 j ≤ d)) 0 (S.1 27 4).toNat = bi (cld S d) := by
    intro d
    rw [← cld_cnt h]
    refine cnt_congr _ _ (fun j _ _ => ?_)
    rw [Bool.eq_iff_iff]
    simp only [Bool.and_eq_true, decide_eq_true_eq]
    omega
  induction k with
  | zero =>
    intro n d i hn hi hik hd hdk h1 h2
    obtain ⟨n, rfl⟩ : ∃ q, n = q + 1 := ⟨n - 1, by omega⟩
    refine ok_eq ?_
    have e0 : d + ((0 : Nat) : Int) = d := by omega
    rw [El_RuleBook_openDay, e0]
    by_cases hi60 : i = 60
    · repeat' (first | with_reducible refine ok_nb (by omega) ?_ | with_reducible refine ok_ib (by omega) ?_ | with_reducible refine ok_t (by omega) ?_ | with_reducible refine ok_e (by omega) ?_ | with_reducible refine ok_if (fun h => ?_) (fun h => ?_) | with_reducible refine ok_s ?_ | with_reducible refine ok_b ?_)
      exact ⟨rfl, rfl⟩
    · have b1 := bi_neg (h1 (by omega))
      rw [e0, ← c2] at b1
      repeat' (first | (with_reducible refine ok_of (c1 _) ?_; dsimp only) | with_reducible refine ok_nb (by omega) ?_ | with_reducible refine ok_ib (by omega) ?_ | with_reducible refine ok_t (by omega) ?_ | with_reducible refine ok_e (by omega) ?_ | with_reducible refine ok_if (fun h => ?_) (fun h => ?_) | with_reducible refine ok_s ?_ | with_reducible refine ok_b ?_)
      exact ⟨rfl, rfl⟩
  | succ k ih =>
    intro n d i hn hi hik hd hdk h1 h2
    obtain ⟨n, rfl⟩ : ∃ q, n = q + 1 := ⟨n - 1, by omega⟩
    refine ok_eq ?_
    have e0 : d + ((0 : Nat) : Int) = d := by omega
    have b1 := bi_pos (h2 0 (by omega))
    rw [e0, ← c2] at b1
    rw [El_RuleBook_openDay]
    have e1 : d + ((k + 1 : Nat) : Int) = d + 1 + k := by omega
    have := ih n (d + 1) (i + 1) (by omega) (by omega) (by omega) (by omega) (by omega) (fun q => by rw [← e1]; exact h1 (by omega)) (fun j hj => by
      have := h2 (j + 1) (by omega)
      have e2 : d + ((j + 1 : Nat) : Int) = d + 1 + j := by omega
      rw [e2] at this
      exact this)
    repeat' (first | (with_reducible refine ok_of (c1 _) ?_; dsimp only) | with_reducible refine ok_nb (by omega) ?_ | with_reducible refine ok_ib (by omega) ?_ | with_reducible refine ok_t (by omega) ?_ | with_reducible refine ok_e (by omega) ?_ | with_reducible refine ok_if (fun h => ?_) (fun h => ?_) | with_reducible refine ok_s ?_ | with_reducible refine ok_b ?_)
    rw [e1]
    exact ok_of this ⟨rfl, rfl⟩
theorem l_open {e : w_E} {N : Nat} {S R : w_S} (hN : 1000 ≤ N) (h : RelCl S R) : ∀ (k n : Nat) (d : Int), k < n → 0 ≤ d → d + k ≤ 1000000 → cld S (d + k) = false → (∀ j : Nat, j < k → cld S (d + j) = true) → El_R_open e N n 0 [d] [] R = some (d + k, R) := by
  intro k
  have c1 := fun d => x_isShut (e := e) (N := N) (R := R) (x1 := d) hN (by rw [h.1]; exact ⟨h.2.1, h.2.2.1⟩)
  induction k with
  | zero =>
    intro n d hn hd hdk h1 h2
    obtain ⟨n, rfl⟩ : ∃ q, n = q + 1 := ⟨n - 1, by omega⟩
    refine ok_eq ?_
    have e0 : d + ((0 : Nat) : Int) = d := by omega
    rw [e0] at h1
    have b1 := bi_neg h1
    rw [← cld_R h] at b1
    rw [El_R_open, e0]
    repeat' (first | (with_reducible refine ok_of (c1 _) ?_; dsimp only) | with_reducible refine ok_nb (by omega) ?_ | with_reducible refine ok_ib (by omega) ?_ | with_reducible refine ok_t (by omega) ?_ | with_reducible refine ok_e (by omega) ?_ | with_reducible refine ok_if (fun h => ?_) (fun h => ?_) | with_reducible refine ok_s ?_ | with_reducible refine ok_b ?_)
    exact ⟨rfl, rfl⟩
  | succ k ih =>
    intro n d hn hd hdk h1 h2
    obtain ⟨n, rfl⟩ : ∃ q, n = q + 1 := ⟨n - 1, by omega⟩
    refine ok_eq ?_
    have e0 : d + ((0 : Nat) : Int) = d := by omega
    have b0 := h2 0 (by omega)
    rw [e0] at b0
    have b1 := bi_pos b0
    rw [← cld_R h] at b1
    rw [El_R_open]
    have e1 : d + ((k + 1 : Nat) : Int) = d + 1 + k := by omega
    have := ih n (d + 1) (by omega) (by omega) (by omega) (by rw [← e1]; exact h1) (fun j hj => by
      have := h2 (j + 1) (by omega)
      have e2 : d + ((j + 1 : Nat) : Int) = d + 1 + j := by omega
      rw [e2] at this
      exact this)
    repeat' (first | (with_reducible refine ok_of (c1 _) ?_; dsimp only) | with_reducible refine ok_nb (by omega) ?_ | with_reducible refine ok_ib (by omega) ?_ | with_reducible refine ok_t (by omega) ?_ | with_reducible refine ok_e (by omega) ?_ | with_reducible refine ok_if (fun h => ?_) (fun h => ?_) | with_reducible refine ok_s ?_ | with_reducible refine ok_b ?_)
    rw [e1]
    exact ok_of this ⟨rfl, rfl⟩
/-- OPEN of a day -/
theorem x_open {e : w_E} {N : Nat} {S R : w_S} {d : Int} (hN : 1000 ≤ N) (h : RelCl S R) (hd : 0 ≤ d ∧ d ≤ 900000) : ∃ v : Int, E_RuleBook_openDay e N d S = some (v, S) ∧ E_R_open e N d R = some (v, R) ∧ d ≤ v ∧ v ≤ d + 60 := by
  obtain ⟨k, k1, k2, k3⟩ := cld_open h d
  exact ⟨d + k, l_openDay hN h k N d 0 (by omega) (by omega) (by omega) hd.1 (by omega) (fun _ => k2) k3, l_open hN h k N d (by omega) hd.1 (by omega) k2 k3, by omega, by omega⟩
/-- at the latest: the day ahead of another's booking -/
theorem l_due {e : w_E} {N : Nat} {S R : w_S} {r c : Int} (hB : RelBk S R) (ht : R.1 129 12 = S.1 27 1) : ∀ (k i m m' : Nat) (f d : Int), (i : Int) + k = S.1 46 12 + 1 → 1 ≤ i → k < m → k < m' → d ≤ 1000000 → 0 ≤ d → S.1 27 1 < f → 0 ≤ S.1 27 1 → f ≤ 1000000000 → S.1 27 1 ≤ d → ∃ v : Int, El_Readers_firstBookedByOther e N m 0 [c, r, S.1 27 1, f, i] [] S = some (v, S) ∧ El_R_dueBy e N m' 0 [r, c, min d (f - 1), i] [] R = some (min d (v - 1), R) ∧ S.1 27 1 < v ∧ v ≤ 1000000000 := by
  obtain ⟨b1, b2, b3, b4⟩ := hB
  intro k
  induction k with
  | zero =>
    intro i m m' f d hi hi1 hm hm' hd hd0 hf ht0 hf2 htd
    obtain ⟨m, rfl⟩ : ∃ q, m = q + 1 := ⟨m - 1, by omega⟩
    obtain ⟨m', rfl⟩ : ∃ q, m' = q + 1 := ⟨m' - 1, by omega⟩
    refine ⟨f, ?_, ?_, hf, hf2⟩
    · rw [El_Readers_firstBookedByOther, if_pos (by omega)]
    · rw [El_R_dueBy, if_pos (by omega)]
  | succ k ih =>
    intro i m m' f d hi hi1 hm hm' hd hd0 hf ht0 hf2 htd
    obtain ⟨m, rfl⟩ : ∃ q, m = q + 1 := ⟨m - 1, by omega⟩
    obtain ⟨m', rfl⟩ : ∃ q, m' = q + 1 := ⟨m' - 1, by omega⟩
    obtain ⟨⟨a1, a2, a3, a4, a5⟩, a6, a7, a8, a9, a10, a11, a12, a13⟩ := b4 i hi1 (by omega)
    have e5 : (i : Int) + 1 = ((i + 1 : Nat) : Int) := by omega
    by_cases hc : S.1 58 i = c ∧ S.1 57 i ≠ r ∧ S.1 27 1 < S.1 59 i ∧ S.1 61 i = 0
    · obtain ⟨v, v1, v2, v3, v4⟩ := ih (i + 1) m m' (min f (S.1 59 i)) d (by omega) (by omega) (by omega) (by omega) hd hd0 (by omega) ht0 (by omega) htd
      refine ⟨v, ok_eq ?_, ok_eq ?_, v3, v4⟩
      · rw [El_Readers_firstBookedByOther]
        simp only [Int.toNat_natCast]
        repeat' (first | with_reducible refine ok_nb (by omega) ?_ | with_reducible refine ok_ib (by omega) ?_ | with_reducible refine ok_t (by omega) ?_ | with_reducible refine ok_e (by omega) ?_ | with_reducible refine ok_if (fun h => ?_) (fun h => ?_) | with_reducible refine ok_s ?_ | with_reducible refine ok_b ?_)
        all_goals first | (exfalso; omega) | (rw [e5]; exact ok_of v1 ⟨rfl, rfl⟩)
      · rw [El_R_dueBy]
        simp only [Int.toNat_natCast]
        repeat' (first | with_reducible refine ok_nb (by omega) ?_ | with_reducible refine ok_ib (by omega) ?_ | with_reducible refine ok_t (by omega) ?_ | with_reducible refine ok_e (by omega) ?_ | with_reducible refine ok_if (fun h => ?_) (fun h => ?_) | with_reducible refine ok_s ?_ | with_reducible refine ok_b ?_)
        all_goals first | (exfalso; omega) | (rw [e5]; have em : min d (f - 1) = min d (min f (S.1 59 i) - 1) := (by omega); rw [em]; exact ok_of v2 ⟨rfl, rfl⟩) | (rw [e5]; have em : R.1 188 i - 1 = min d (min f (S.1 59 i) - 1) := (by omega); rw [em]; exact ok_of v2 ⟨rfl, rfl⟩)
    · obtain ⟨v, v1, v2, v3, v4⟩ := ih (i + 1) m m' f d (by omega) (by omega) (by omega) (by omega) hd hd0 hf ht0 hf2 htd
      refine ⟨v, ok_eq ?_, ok_eq ?_, v3, v4⟩
      · rw [El_Readers_firstBookedByOther]
        simp only [Int.toNat_natCast]
        repeat' (first | with_reducible refine ok_nb (by omega) ?_ | with_reducible refine ok_ib (by omega) ?_ | with_reducible refine ok_t (by omega) ?_ | with_reducible refine ok_e (by omega) ?_ | with_reducible refine ok_if (fun h => ?_) (fun h => ?_) | with_reducible refine ok_s ?_ | with_reducible refine ok_b ?_)
        all_goals first | (exfalso; omega) | (rw [e5]; exact ok_of v1 ⟨rfl, rfl⟩)
      · rw [El_R_dueBy]
        simp only [Int.toNat_natCast]
        repeat' (first | with_reducible refine ok_nb (by omega) ?_ | with_reducible refine ok_ib (by omega) ?_ | with_reducible refine ok_t (by omega) ?_ | with_reducible refine ok_e (by omega) ?_ | with_reducible refine ok_if (fun h => ?_) (fun h => ?_) | with_reducible refine ok_s ?_ | with_reducible refine ok_b ?_)
        all_goals first | (exfalso; omega) | (rw [e5]; exact ok_of v2 ⟨rfl, rfl⟩)
end
section
-- 88
theorem x_dueDay {e : w_E} {N : Nat} {S R : w_S} {r c p : Int} (hN : 1000 ≤ N) (hCl : RelCl S R) (hB : RelBk S R) (ht : R.1 129 12 = S.1 27 1) (ht0 : 0 ≤ S.1 27 1) (ht1 : S.1 27 1 ≤ 50000) (hp : 0 ≤ p ∧ p ≤ 133) (hd : 1 ≤ S.1 30 (p + 2).toNat ∧ S.1 30 (p + 2).toNat ≤ 365) : ∃ o v : Int, E_Lending_dueDay e N r c p S = some (v, S) ∧ E_R_open e N (S.1 27 1 + S.1 30 (p + 2).toNat) R = some (o, R) ∧ E_R_dueBy e N r c o R = some (v, R) ∧ S.1 27 1 ≤ v ∧ v ≤ 51000 := by
  obtain ⟨o, o1, o2, o3, o4⟩ := x_open (e := e) (N := N) (d := S.1 27 1 + S.1 30 (p + 2).toNat) hN hCl (by omega)
  have hb := hB.2.1
  have hb2 := hB.2.2.1
  obtain ⟨f, f1, f2, f3, f4⟩ := l_due (e := e) (N := N) (r := r) (c := c) hB ht (S.1 46 12).toNat 1 N N 1000000000 o (by omega) (by omega) (by omega) (by omega) (by omega) (by omega) (by omega) ht0 (by omega) (by omega)
  have em : min o (1000000000 - 1) = o := by omega
  rw [em] at f2
  refine ⟨o, min o (f - 1), ok_eq ?_, o2, f2, by omega, by omega⟩
  unfold E_Lending_dueDay
  have f1' : E_Readers_firstBookedByOther e N c r (S.1 27 1) S = some (f, S) := f1
  repeat' (first | with_reducible refine okl (len30 _) ?_ | (with_reducible refine ok_of f1' ?_; dsimp only) | (with_reducible refine ok_of o1 ?_; dsimp only) | with_reducible refine ok_nb (by omega) ?_ | with_reducible refine ok_ib (by omega) ?_ | with_reducible refine ok_t (by omega) ?_ | with_reducible refine ok_e (by omega) ?_ | with_reducible refine ok_if (fun h => ?_) (fun h => ?_) | with_reducible refine ok_s ?_ | with_reducible refine ok_b ?_)
  exact ⟨rfl, rfl⟩
theorem x_booked {e : w_E} {N : Nat} {S R : w_S} {r c : Int} (hN : 1000 ≤ N) (hB : RelBk S R) (ht : R.1 129 12 = S.1 27 1) : ∃ b : Int, (b = 0 ∨ b = 1) ∧ E_Readers_isBookedByOther e N c r (S.1 27 1) S = some (b, S) ∧ E_R_isBookedNow e N r c R = some (b, R) := by
  obtain ⟨b1, b2, b3, b4⟩ := hB
  have h1 := ok_eq (l_isBookedByOther (e := e) (N := N) (S := S) (x1 := c) (x2 := r) (x3 := S.1 27 1) (by omega) (S.1 46 12).toNat N 1 (by omega) (by omega) (by omega))
  have h2 := ok_eq (l_isBookedNow (e := e) (N := N) (S := R) (x1 := r) (x2 := c) (by omega) (R.1 129 87).toNat N 0 1 (by omega) (by omega) (by omega) (Or.inl rfl))
  refine ⟨_, ?_, h1, ?_⟩
  · unfold bi
    split <;> omega
  · have e0 : (if (0 : Int) = 1 then (1 : Int) else bi (anyb (fun j => decide (R.1 187 j = c) && !decide (R.1 186 j = r) && decide (R.1 188 j ≤ R.1 129 12) && decide (R.1 190 j = 0) && decide (R.1 129 12 ≤ R.1 189 j)) (1 : Int).toNat (R.1 129 87).toNat)) = bi (anyb (fun j => decide (S.1 58 j = c) && !decide (S.1 57 j = r) && decide (S.1 59 j ≤ S.1 27 1) && decide (S.1 61 j = 0) && decide (S.1 27 1 ≤ S.1 60 j)) (1 : Int).toNat (S.1 46 12).toNat) := by
      rw [if_neg (by omega), b1]
      congr 1
      refine anyb_congr _ _ (fun k a b => ?_)
      have e1 : (1 : Int).toNat = 1 := rfl
      rw [e1] at a b
      obtain ⟨⟨a1, a2, a3, a4, a5⟩, _⟩ := b4 k a (by omega)
      rw [a1, a2, a3, a4, a5, ht]
    rw [e0] at h2
    exact h2
theorem x_lent {e : w_E} {N : Nat} {S R : w_S} {r : Int} (hN : 1000 ≤ N) (hLn : RelLn S R) (hCs : RelCs S R) (hCd : RelCd S R 0) (hLo : RelLo S R 0) : ∃ v : Int, 0 ≤ v ∧ v ≤ 600 ∧ E_Readers_openLoans e N r S = some (v, S) ∧ E_R_lentTo e N r R = some (v, R) := by
  obtain ⟨l1, l2, l3, l4⟩ := hLn
  obtain ⟨c1, c2, c3, c4⟩ := hCs
  have h1 := ok_eq (l_openLoans (e := e) (N := N) (S := S) (x1 := r) (by omega) (S.1 46 4).toNat N 0 1 (by omega) (by omega) (by omega) (by omega) (by omega))
  have h2 := ok_eq (l_lentTo (e := e) (N := N) (S := R) (x1 := r) (by omega) (R.1 129 68).toNat N 0 1 (by omega) (by omega) (by omega) (by omega) (by omega))
  have e1 : (1 : Int).toNat = 1 := rfl
  rw [Int.zero_add, e1] at h1 h2
  have hle := cnt_le (fun j => decide (S.1 50 j = r) && decide (S.1 56 j = 0)) (S.1 46 4).toNat 1
  refine ⟨_, hle.1, by omega, h1, ?_⟩
  have hb : cnt (fun j => decide (S.1 50 j = r) && decide (S.1 56 j = 0)) 1 (S.1 46 4).toNat = cnt (fun j => decide (R.1 171 j = 1) && decide (R.1 172 j = r)) 1 (R.1 129 68).toNat := by
    refine cnt_bij (f := fun l => (S.1 51 l).toNat) (g := fun k => (S.1 67 k).toNat) (fun i a b hp => ?_) (fun j a b hq => ?_)
    · simp only [Bool.and_eq_true, decide_eq_true_eq] at hp
      obtain ⟨m1, m2, m3, m4, m5, m6⟩ := l4 i a (by omega)
      obtain ⟨o1, o2, o3⟩ := hLo i a (by omega) hp.2
      have hk := hCd (S.1 51 i).toNat (by omega) (by omega) (by omega)
      obtain ⟨⟨n1, n2, n3, n4, n5, n6⟩, n7, n8, n9, n10, n11, n12, n13, n14, n15, _⟩ := hk
      have hz := n15 o2
      refine ⟨by omega, by omega, ?_, ?_⟩
      · simp only [Bool.and_eq_true, decide_eq_true_eq]
        refine ⟨by omega, ?_⟩
        have q := hz.2.2.2.2.1
        rw [o3, Int.toNat_natCast] at q
        omega
      · show (S.1 67 (S.1 51 i).toNat).toNat = i
        rw [o3, Int.toNat_natCast]
    · simp only [Bool.and_eq_true, decide_eq_true_eq] at hq
      have hk := hCd j a (by omega) (by omega)
      obtain ⟨⟨n1, n2, n3, n4, n5, n6⟩, n7, n8, n9, n10, n11, n12, n13, n14, n15, _⟩ := hk
      have hz := n15 (by omega)
      refine ⟨by omega, by omega, ?_, ?_⟩
      · simp only [Bool.and_eq_true, decide_eq_true_eq]
        omega
      · show (S.1 51 (S.1 67 j).toNat).toNat = j
        omega
  rw [hb]
  exact h2
end
section
-- 89
theorem q_lend {S R : w_S} {x1 x2 t v ce ca : Int} (h : RelL S R t) (ht : 0 ≤ t) (b1 : 1 ≤ x1 ∧ x1 ≤ S.1 46 0) (b2 : 1 ≤ x2 ∧ x2 ≤ S.1 62 3) (b3 : S.1 46 4 < 600) (b4 : S.1 65 x2.toNat ≠ 1) (hv : 0 ≤ v ∧ v ≤ 51000) (hce : 0 ≤ ce ∧ ce ≤ 999) (hca : 0 ≤ ca ∧ ca ≤ 99999) : Ql S R t (w_put (w_put (w_put (w_put (w_put (w_put (w_put (w_put (w_put (w_put (w_put (w_put S 46 4 (S.1 46 4 + 1)) 50 (S.1 46 4 + 1).toNat x1) 51 (S.1 46 4 + 1).toNat x2) 52 (S.1 46 4 + 1).toNat v) 53 (S.1 46 4 + 1).toNat 0) 56 (S.1 46 4 + 1).toNat 0) 67 x2.toNat (S.1 46 4 + 1)) 54 (S.1 46 4 + 1).toNat ce) 55 (S.1 46 4 + 1).toNat ca) 65 x2.toNat 1) 66 x2.toNat x1) 68 x2.toNat (-1)) (w_put (w_put (w_put (w_put (w_put (w_put (w_put (w_put (w_put (w_put (w_put (w_put R 129 114 (S.1 46 4 + 1)) 204 (S.1 46 4 + 1).toNat x2) 205 (S.1 46 4 + 1).toNat x1) 206 (S.1 46 4 + 1).toNat v) 207 (S.1 46 4 + 1).toNat 0) 208 (S.1 46 4 + 1).toNat ce) 209 (S.1 46 4 + 1).toNat ca) 210 (S.1 46 4 + 1).toNat 0) 171 x2.toNat 1) 172 x2.toNat x1) 173 x2.toNat (S.1 46 4 + 1)) 174 x2.toNat (-1)) := by
  obtain ⟨hT, hP, hQ, hG, hRd, hLn, hBk, hCs, hCd, hLo, hCl, hRu⟩ := h
  have hf : frm [50, 51, 52, 53, 54, 55, 56, 65, 66, 67, 68] [46] [(46, 4)] S (w_put (w_put (w_put (w_put (w_put (w_put (w_put (w_put (w_put (w_put (w_put (w_put S 46 4 (S.1 46 4 + 1)) 50 (S.1 46 4 + 1).toNat x1) 51 (S.1 46 4 + 1).toNat x2) 52 (S.1 46 4 + 1).toNat v) 53 (S.1 46 4 + 1).toNat 0) 56 (S.1 46 4 + 1).toNat 0) 67 x2.toNat (S.1 46 4 + 1)) 54 (S.1 46 4 + 1).toNat ce) 55 (S.1 46 4 + 1).toNat ca) 65 x2.toNat 1) 66 x2.toNat x1) 68 x2.toNat (-1)) := by repeat (first | exact frm.refl _ _ _ _ | refine frm.put ?_ rfl | refine frm.puto ?_ rfl rfl | refine frm.arr ?_ rfl)
  have hg : frm [171, 172, 173, 174, 204, 205, 206, 207, 208, 209, 210] [129] [(129, 114)] R (w_put (w_put (w_put (w_put (w_put (w_put (w_put (w_put (w_put (w_put (w_put (w_put R 129 114 (S.1 46 4 + 1)) 204 (S.1 46 4 + 1).toNat x2) 205 (S.1 46 4 + 1).toNat x1) 206 (S.1 46 4 + 1).toNat v) 207 (S.1 46 4 + 1).toNat 0) 208 (S.1 46 4 + 1).toNat ce) 209 (S.1 46 4 + 1).toNat ca) 210 (S.1 46 4 + 1).toNat 0) 171 x2.toNat 1) 172 x2.toNat x1) 173 x2.toNat (S.1 46 4 + 1)) 174 x2.toNat (-1)) := by repeat (first | exact frm.refl _ _ _ _ | refine frm.put ?_ rfl | refine frm.puto ?_ rfl rfl | refine frm.arr ?_ rfl)
  refine ⟨hf.weak rfl, hg.weak rfl, hT.fr hf hg rfl, hP.fr hf hg rfl, hQ.fr hf hg rfl, hG.fr hf hg rfl, (hRd.fr hf hg rfl).up, ?_, hBk.fr hf hg rfl, hCs.fr hf hg rfl, ?_, ?_, hCl.fr hf hg rfl, hRu.fr hf hg rfl⟩
  · obtain ⟨l1, l2, l3, l4⟩ := hLn
    simp only [RelLn, w_put_r, w_arr_r, reduceIte, Nat.reduceEqDiff, pt_at]
    refine ⟨trivial, by omega, by omega, fun k a b => ?_⟩
    by_cases e : k = (S.1 46 4 + 1).toNat
    · simp only [if_pos e]
      (repeat' apply And.intro) <;> (try simp only [reduceIte]) <;> first | trivial | omega | (intro hh; omega)
    · simp only [if_neg e]
      exact l4 k a (by omega)
  · obtain ⟨l1, l2, l3, l4⟩ := hLn
    simp only [RelCd, w_put_r, w_arr_r, reduceIte, Nat.reduceEqDiff, pt_at]
    intro k a b c
    have hk := hCd k a b c
    by_cases e : k = x2.toNat
    · subst e
      obtain ⟨⟨m1, m2, m3, m4, m5, m6⟩, m7, m8, m9, m10, m11, m12, m13⟩ := hk
      simp only [if_true]
      refine ⟨⟨trivial, trivial, trivial, trivial, m5, fun hh => by omega⟩, by omega, by omega, by omega, by omega, m11, m12, by omega, by omega, fun _ => ⟨by omega, by omega, by omega, by omega, trivial, trivial⟩, fun hh => by omega, fun hh => by omega, fun hh => absurd rfl hh⟩
    · simp only [if_neg e]
      obtain ⟨m1, m7, m8, m9, m10, m11, m12, m13, m14, m15, m16⟩ := hk
      refine ⟨m1, m7, m8, m9, m10, m11, m12, m13, m14, fun hh => ?_, m16⟩
      obtain ⟨z1, z2, z3, z4, z5, z6⟩ := m15 hh
      have hne : (S.1 67 k).toNat ≠ (S.1 46 4 + 1).toNat := by omega
      simp only [if_neg hne]
      exact ⟨z1, z2, by omega, z4, z5, z6⟩
  · simp only [RelLo, w_put_r, w_arr_r, reduceIte, Nat.reduceEqDiff, pt_at]
    intro l a b c
    by_cases e : l = (S.1 46 4 + 1).toNat
    · simp only [if_pos e]
      (repeat' apply And.intro) <;> (try simp only [reduceIte]) <;> first | trivial | omega | (intro hh; omega)
    · simp only [if_neg e] at c ⊢
      obtain ⟨z1, z2, z3⟩ := hLo l a (by omega) c
      have hne : (S.1 51 l).toNat ≠ x2.toNat := by
        intro q
        rw [q] at z2
        exact b4 z2
      simp only [if_neg hne]
      exact ⟨z1, z2, z3⟩
theorem t_lend {e : w_E} {N : Nat} {S R : w_S} {x1 x2 t : Int} (hN : 1000 ≤ N) (h : RelL S R t) (ht : 0 ≤ t) (ht2 : t ≤ 512) : Ok (E_Lending_lendTo e N x1 x2 S) (fun y S1 => Ok (E_R_doLend e N x1 x2 R) (fun y' R1 => Pa S R (fun _ => Ql S R t) y S1 y' R1)) := by
  have h0 := h
  obtain ⟨hT, hP, hQ, hG, hRd, hLn, hBk, hCs, hCd, hLo, hCl, hRu⟩ := h
  obtain ⟨t1, t2, t3, _⟩ := id hT
  obtain ⟨r1, r2, r3, r4⟩ := id hRd
  obtain ⟨c1, c2, c3, c4⟩ := id hCs
  obtain ⟨l1, l2, l3, l4⟩ := id hLn
  by_cases b1 : x1 < 1
  · unfold E_Lending_lendTo E_R_doLend
    repeat' (first | with_reducible refine ok_nb (by omega) ?_ | with_reducible refine ok_ib (by omega) ?_ | with_reducible refine ok_t (by omega) ?_ | with_reducible refine ok_e (by omega) ?_ | with_reducible refine ok_if (fun h => ?_) (fun h => ?_) | with_reducible refine ok_s ?_ | with_reducible refine ok_b ?_)
    exact ⟨rfl, Or.inl ⟨by omega, rfl, rfl⟩⟩
  by_cases b2 : S.1 46 0 < x1
  · unfold E_Lending_lendTo E_R_doLend
    repeat' (first | with_reducible refine ok_nb (by omega) ?_ | with_reducible refine ok_ib (by omega) ?_ | with_reducible refine ok_t (by omega) ?_ | with_reducible refine ok_e (by omega) ?_ | with_reducible refine ok_if (fun h => ?_) (fun h => ?_) | with_reducible refine ok_s ?_ | with_reducible refine ok_b ?_)
    exact ⟨rfl, Or.inl ⟨by omega, rfl, rfl⟩⟩
  by_cases b3 : x2 < 1
  · unfold E_Lending_lendTo E_R_doLend
    repeat' (first | with_reducible refine ok_nb (by omega) ?_ | with_reducible refine ok_ib (by omega) ?_ | with_reducible refine ok_t (by omega) ?_ | with_reducible refine ok_e (by omega) ?_ | with_reducible refine ok_if (fun h => ?_) (fun h => ?_) | with_reducible refine ok_s ?_ | with_reducible refine ok_b ?_)
    exact ⟨rfl, Or.inl ⟨by omega, rfl, rfl⟩⟩
  by_cases b4 : S.1 62 3 < x2
  · unfold E_Lending_lendTo E_R_doLend
    repeat' (first | with_reducible refine ok_nb (by omega) ?_ | with_reducible refine ok_ib (by omega) ?_ | with_reducible refine ok_t (by omega) ?_ | with_reducible refine ok_e (by omega) ?_ | with_reducible refine ok_if (fun h => ?_) (fun h => ?_) | with_reducible refine ok_s ?_ | with_reducible refine ok_b ?_)
    exact ⟨rfl, Or.inl ⟨by omega, rfl, rfl⟩⟩
  have s4 := (c4 x2.toNat (by omega) (by omega)).2.2.2.1
  have m1 := (hCd x2.toNat (by omega) (by omega) (by omega)).1.1
  have m2 := (hCd x2.toNat (by omega) (by omega) (by omega)).1.2.1
  have m7 := (hCd x2.toNat (by omega) (by omega) (by omega)).2.1
  have m8 := (hCd x2.toNat (by omega) (by omega) (by omega)).2.2.1
  obtain ⟨u1, u2, u3, u4, u5, u6⟩ := r4 x1.toNat (by omega) (by omega)
  obtain ⟨bk, bk0, bk1, bk2⟩ := x_booked (e := e) (N := N) (r := x1) (c := x2) hN hBk t3
  obtain ⟨p, p1, p2, p3⟩ := x_rule (e := e) (N := N) (r := x1) (c := x2) hN hRu (by omega) (by omega) u1 s4
  obtain ⟨n, n0, n1, n2, n3⟩ := x_lent (e := e) (N := N) (r := x1) hN hLn hCs hCd hLo
  unfold E_Lending_lendTo E_R_doLend
  rw [m1, m2, r1, c1]
  clear m1 m2 u2 u3 u5 u6
  refine ok_e b1 (ok_e b2 (ok_e b3 (ok_e b4 (ok_ib (by omega) ?_))))
  by_cases hbk : bk = 0
  · subst hbk
    clear bk0
    by_cases hp : p = -1
    · subst hp
      clear p3
      repeat' (first | with_reducible refine okl (len30 _) ?_ | (with_reducible refine ok_of bk1 ?_; dsimp only) | (with_reducible refine ok_of bk2 ?_; dsimp only) | (with_reducible refine ok_of p1 ?_; dsimp only) | (with_reducible refine ok_of p2 ?_; dsimp only) | with_reducible refine ok_nb (by omega) ?_ | with_reducible refine ok_ib (by omega) ?_ | with_reducible refine ok_t (by omega) ?_ | with_reducible refine ok_e (by omega) ?_ | with_reducible refine ok_if (fun h => ?_) (fun h => ?_) | with_reducible refine ok_s ?_ | with_reducible refine ok_b ?_)
      all_goals exact ⟨rfl, Or.inl ⟨by omega, rfl, rfl⟩⟩
    · obtain ⟨q1, q2, q3, q4, q5, q6, q7, q8, q9, q10, q11, q12, q13⟩ : _ := p3.resolve_left hp
      clear p3
      have g2 := q3 2 (by omega) (by omega)
      have g4 := q3 4 (by omega) (by omega)
      have g5 := q3 5 (by omega) (by omega)
      have g6 := q3 6 (by omega) (by omega)
      have hfR : frm [204, 205] [129] [(129, 114)] R (w_put (w_put (w_put R 129 114 (R.1 129 114 + 1)) 204 (R.1 129 114 + 1).toNat x2) 205 (R.1 129 114 + 1).toNat x1) := by repeat (first | exact frm.refl _ _ _ _ | refine frm.put ?_ rfl | refine frm.puto ?_ rfl rfl | refine frm.arr ?_ rfl)
      have hfS : frm [] [] [] S S := frm.refl _ _ _ _
      obtain ⟨o, v, v1, v2, v3, v4, v5⟩ := x_dueDay (e := e) (N := N) (r := x1) (c := x2) (p := p) hN (hCl.fr hfS hfR rfl) (hBk.fr hfS hfR rfl) (by simp only [w_put_r, w_arr_r, reduceIte, Nat.reduceEqDiff, pt_at]; exact t3) t1 t2 (by omega) ⟨q4, q5⟩
      rw [← t3, ← g2] at v2
      have fin : S.1 46 4 < 600 → S.1 65 x2.toNat ≠ 1 → _ := fun a b => q_lend (x1 := x1) (x2 := x2) (v := v) (ce := S.1 30 (p + 5).toNat) (ca := S.1 30 (p + 6).toNat) h0 ht ⟨by omega, by omega⟩ ⟨by omega, by omega⟩ a b ⟨by omega, by omega⟩ ⟨q10, q11⟩ ⟨q12, q13⟩
      clear q6 q7 q8 q9 q10 q11 q12 q13 s4 hfR hfS n0 r4 c4 l4 q3 ht ht2
      repeat' (first | with_reducible refine okl (len30 _) ?_ | (with_reducible refine ok_of bk1 ?_; dsimp only) | (with_reducible refine ok_of bk2 ?_; dsimp only) | (with_reducible refine ok_of p1 ?_; dsimp only) | (with_reducible refine ok_of p2 ?_; dsimp only) | (with_reducible refine ok_of n2 ?_; dsimp only) | (with_reducible refine ok_of n3 ?_; dsimp only) | (with_reducible refine ok_of v1 ?_; dsimp only; simp only [w_put_r, w_arr_r, reduceIte, Nat.reduceEqDiff, pt_at]) | (with_reducible refine ok_of v2 ?_; dsimp only) | (with_reducible refine ok_of v3 ?_; dsimp only; simp only [w_put_r, w_arr_r, reduceIte, Nat.reduceEqDiff, pt_at]) | with_reducible refine ok_nb (by omega) ?_ | with_reducible refine ok_ib (by omega) ?_ | with_reducible refine ok_t (by omega) ?_ | with_reducible refine ok_e (by omega) ?_ | with_reducible refine ok_if (fun h => ?_) (fun h => ?_) | with_reducible refine ok_s ?_ | with_reducible refine ok_b ?_)
      all_goals first | exact ⟨rfl, Or.inl ⟨by omega, rfl, rfl⟩⟩ | skip
      all_goals
        rw [l1, g5, g6]
        exact ⟨rfl, Or.inr ⟨by omega, fin (by omega) (by omega)⟩⟩
  · clear p3
    repeat' (first | with_reducible refine okl (len30 _) ?_ | (with_reducible refine ok_of bk1 ?_; dsimp only) | (with_reducible refine ok_of bk2 ?_; dsimp only) | with_reducible refine ok_nb (by omega) ?_ | with_reducible refine ok_ib (by omega) ?_ | with_reducible refine ok_t (by omega) ?_ | with_reducible refine ok_e (by omega) ?_ | with_reducible refine ok_if (fun h => ?_) (fun h => ?_) | with_reducible refine ok_s ?_ | with_reducible refine ok_b ?_)
    all_goals exact ⟨rfl, Or.inl ⟨by omega, rfl, rfl⟩⟩
end
section
-- 90
theorem x_qlen {e : w_E} {N : Nat} {S : w_S} {x1 : Int} (hN : 1000 ≤ N) (h0 : 0 ≤ S.1 62 14 ∧ S.1 62 14 ≤ 200) : E_Lending_queueLength e N x1 S = some (((qof x1 (QC S.1)).length : Int), S) := by
  have h := ok_eq (l_queueLength (e := e) (N := N) (x1 := x1) h0 (S.1 62 14).toNat N 0 0 (by omega) (by omega) (by omega) (by omega) (by omega))
  have e1 : cnt (fun j => decide (S.1 73 j = x1)) 0 (S.1 62 14).toNat = cnt (fun j => decide ((qc S.1 j).1 = x1)) 0 (S.1 62 14).toNat := rfl
  have e0 : (0 : Int).toNat = 0 := rfl
  rw [Int.zero_add, e0, e1, cnt_countP (qc S.1) (fun y => decide (y.1 = x1)), List.countP_eq_length_filter] at h
  exact h
/-- somebody waits, to both or to none -/
theorem x_waits {e : w_E} {N : Nat} {S R : w_S} {x1 : Int} (hN : 1000 ≤ N) (hQ : RelQ S R) : ∃ (n v : Int), E_Lending_queueLength e N x1 S = some (n, S) ∧ E_R_inQueue e N x1 0 R = some (v, R) ∧ 0 ≤ n ∧ (v = -1 ∨ 0 ≤ v) ∧ (v = -1 ↔ n ≤ 0) := by
  obtain ⟨q1, q2, q3, q4, q5, q6⟩ := hQ
  obtain ⟨v, v1, v2⟩ := x_inQueue (e := e) (N := N) (S := R) (x1 := x1) (x2 := 0) hN (by omega) q5
  have e0 : (0 : Int).toNat = 0 := rfl
  rw [← q4, e0] at v2
  refine ⟨_, v, x_qlen hN ⟨q1, q2⟩, v1, by omega, by omega, ?_⟩
  rcases v2 with ⟨a, b⟩ | ⟨a, b, c, d, _⟩
  · have hb := b (by omega)
    have : (qof x1 (QC S.1)).length = 0 := by
      rw [List.getElem?_eq_none_iff] at hb
      omega
    omega
  · have : 0 < (qof x1 (QC S.1)).length := by
      have := (List.getElem?_eq_some_iff.mp d).1
      omega
    omega
theorem q_renew {S R : w_S} {x1 t v ce ca : Int} (h : RelL S R t) (ht : 0 ≤ t) (b1 : 1 ≤ x1 ∧ x1 ≤ S.1 46 4) (hv : 0 ≤ v ∧ v ≤ 51000) (hn : S.1 53 x1.toNat ≤ 8) (hce : 0 ≤ ce ∧ ce ≤ 999) (hca : 0 ≤ ca ∧ ca ≤ 99999) : Ql S R t (w_put (w_put (w_put (w_put S 53 x1.toNat (S.1 53 x1.toNat + 1)) 52 x1.toNat v) 54 x1.toNat ce) 55 x1.toNat ca) (w_put (w_put (w_put (w_put R 206 x1.toNat v) 207 x1.toNat (S.1 53 x1.toNat + 1)) 208 x1.toNat ce) 209 x1.toNat ca) := by
  obtain ⟨hT, hP, hQ, hG, hRd, hLn, hBk, hCs, hCd, hLo, hCl, hRu⟩ := h
  have hf : frm [52, 53, 54, 55] [] [] S (w_put (w_put (w_put (w_put S 53 x1.toNat (S.1 53 x1.toNat + 1)) 52 x1.toNat v) 54 x1.toNat ce) 55 x1.toNat ca) := by repeat (first | exact frm.refl _ _ _ _ | refine frm.put ?_ rfl | refine frm.puto ?_ rfl rfl | refine frm.arr ?_ rfl)
  have hg : frm [206, 207, 208, 209] [] [] R (w_put (w_put (w_put (w_put R 206 x1.toNat v) 207 x1.toNat (S.1 53 x1.toNat + 1)) 208 x1.toNat ce) 209 x1.toNat ca) := by repeat (first | exact frm.refl _ _ _ _ | refine frm.put ?_ rfl | refine frm.puto ?_ rfl rfl | refine frm.arr ?_ rfl)
  refine ⟨hf.weak rfl, hg.weak rfl, hT.fr hf hg rfl, hP.fr hf hg rfl, hQ.fr hf hg rfl, hG.fr hf hg rfl, (hRd.fr hf hg rfl).up, ?_, hBk.fr hf hg rfl, hCs.fr hf hg rfl, hCd.fr hf hg rfl, hLo.fr hf hg rfl, hCl.fr hf hg rfl, hRu.fr hf hg rfl⟩
  obtain ⟨l1, l2, l3, l4⟩ := hLn
  simp only [RelLn, w_put_r, w_arr_r, reduceIte, Nat.reduceEqDiff, pt_at]
  refine ⟨l1, l2, l3, fun k a b => ?_⟩
  have hk := l4 k a b
  by_cases e : k = x1.toNat
  · subst e
    simp only [if_true]
    obtain ⟨⟨m1, m2, m3, m4, m5, m6, m7⟩, n1, n2, n3, n4, n5, n6, n7, n8, n9, n10, n11, n12, n13⟩ := hk
    exact ⟨⟨m1, m2, trivial, trivial, trivial, trivial, m7⟩, n1, n2, n3, n4, hv.1, hv.2, by omega, by omega, hce.1, hce.2, hca.1, hca.2, n13⟩
  · simp only [if_neg e]
    exact hk
theorem t_renew {e : w_E} {N : Nat} {S R : w_S} {x1 t : Int} (hN : 1000 ≤ N) (h : RelL S R t) (ht : 0 ≤ t) (ht2 : t ≤ 512) : Ok (E_Lending_renewLoan e N x1 S) (fun y S1 => Ok (E_R_doRenew e N x1 R) (fun y' R1 => Pa S R (fun _ => Ql S R t) y S1 y' R1)) := by
  have h0 := h
  obtain ⟨hT, hP, hQ, hG, hRd, hLn, hBk, hCs, hCd, hLo, hCl, hRu⟩ := h
  obtain ⟨t1, t2, t3, _⟩ := id hT
  obtain ⟨r1, r2, r3, r4⟩ := id hRd
  obtain ⟨c1, c2, c3, c4⟩ := id hCs
  obtain ⟨l1, l2, l3, l4⟩ := id hLn
  by_cases b1 : x1 < 1
  · unfold E_Lending_renewLoan E_R_doRenew
    repeat' (first | with_reducible refine ok_nb (by omega) ?_ | with_reducible refine ok_ib (by omega) ?_ | with_reducible refine ok_t (by omega) ?_ | with_reducible refine ok_e (by omega) ?_ | with_reducible refine ok_if (fun h => ?_) (fun h => ?_) | with_reducible refine ok_s ?_ | with_reducible refine ok_b ?_)
    exact ⟨rfl, Or.inl ⟨by omega, rfl, rfl⟩⟩
  by_cases b2 : S.1 46 4 < x1
  · unfold E_Lending_renewLoan E_R_doRenew
    repeat' (first | with_reducible refine ok_nb (by omega) ?_ | with_reducible refine ok_ib (by omega) ?_ | with_reducible refine ok_t (by omega) ?_ | with_reducible refine ok_e (by omega) ?_ | with_reducible refine ok_if (fun h => ?_) (fun h => ?_) | with_reducible refine ok_s ?_ | with_reducible refine ok_b ?_)
    exact ⟨rfl, Or.inl ⟨by omega, rfl, rfl⟩⟩
  obtain ⟨⟨m1, m2, m3, m4, m5, m6, m7⟩, n1, n2, n3, n4, n5, n6, n7, n8, n9, n10, n11, n12, n13⟩ := l4 x1.toNat (by omega) (by omega)
  by_cases b3 : S.1 56 x1.toNat = 0
  · have s1 := (c4 (S.1 51 x1.toNat).toNat (by omega) (by omega)).1
    have s4 := (c4 (S.1 51 x1.toNat).toNat (by omega) (by omega)).2.2.2.1
    obtain ⟨u1, u2, u3, u4, u5, u6⟩ := r4 (S.1 50 x1.toNat).toNat (by omega) (by omega)
    obtain ⟨p, p1, p2, p3⟩ := x_rule (e := e) (N := N) (r := S.1 50 x1.toNat) (c := S.1 51 x1.toNat) hN hRu (by omega) (by omega) u1 s4
    obtain ⟨w, v, w1, w2, w3, w4, w5⟩ := x_waits (e := e) (N := N) (x1 := S.1 63 (S.1 51 x1.toNat).toNat) hN hQ
    unfold E_Lending_renewLoan E_R_doRenew
    rw [m7, m1, m2]
    rw [← s1] at w2
    clear hRd hCs hLn r4 c4 l4 u2 u3 u5 u6 n13
    by_cases hp : p = -1
    · subst hp
      clear p3 w5
      repeat' (first | (with_reducible refine ok_of p1 ?_; dsimp only) | (with_reducible refine ok_of p2 ?_; dsimp only) | with_reducible refine ok_nb (by omega) ?_ | with_reducible refine ok_ib (by omega) ?_ | with_reducible refine ok_t (by omega) ?_ | with_reducible refine ok_e (by omega) ?_ | with_reducible refine ok_if (fun h => ?_) (fun h => ?_) | with_reducible refine ok_s ?_ | with_reducible refine ok_b ?_)
      all_goals exact ⟨rfl, Or.inl ⟨by omega, rfl, rfl⟩⟩
    · obtain ⟨q1, q2, q3, q4, q5, q6, q7, q8, q9, q10, q11, q12, q13⟩ : _ := p3.resolve_left hp
      clear p3
      have g2 := q3 2 (by omega) (by omega)
      have g3 := q3 3 (by omega) (by omega)
      have g5 := q3 5 (by omega) (by omega)
      have g6 := q3 6 (by omega) (by omega)
      by_cases hw : w ≤ 0
      · have hv := w5.mpr hw
        clear w5 w4
        subst hv
        have hfS : frm [53] [] [] S (w_put S 53 x1.toNat (S.1 53 x1.toNat + 1)) := by repeat (first | exact frm.refl _ _ _ _ | refine frm.put ?_ rfl | refine frm.puto ?_ rfl rfl | refine frm.arr ?_ rfl)
        have hfR : frm [] [] [] R R := frm.refl _ _ _ _
        obtain ⟨o, v, v1, v2, v3, v4, v5⟩ := x_dueDay (e := e) (N := N) (S := w_put S 53 x1.toNat (S.1 53 x1.toNat + 1)) (R := R) (r := S.1 50 x1.toNat) (c := S.1 51 x1.toNat) (p := p) hN (hCl.fr hfS hfR rfl) (hBk.fr hfS hfR rfl) (by simp only [w_put_r, w_arr_r, reduceIte, Nat.reduceEqDiff, pt_at]; exact t3) (by simp only [w_put_r, w_arr_r, reduceIte, Nat.reduceEqDiff, pt_at]; exact t1) (by simp only [w_put_r, w_arr_r, reduceIte, Nat.reduceEqDiff, pt_at]; exact t2) (by omega) (by simp only [w_put_r, w_arr_r, reduceIte, Nat.reduceEqDiff, pt_at]; exact ⟨q4, q5⟩)
        simp only [w_put_r, w_arr_r, reduceIte, Nat.reduceEqDiff, pt_at] at v2 v4
        rw [← t3, ← g2] at v2
        have fin1 : S.1 53 x1.toNat ≤ 8 → _ := fun a => q_renew (x1 := x1) (v := v) (ce := S.1 30 (p + 5).toNat) (ca := S.1 30 (p + 6).toNat) h0 ht ⟨by omega, by omega⟩ ⟨by omega, by omega⟩ a ⟨q10, q11⟩ ⟨q12, q13⟩
        have fin2 : S.1 53 x1.toNat ≤ 8 → _ := fun a => q_renew (x1 := x1) (v := S.1 52 x1.toNat) (ce := S.1 30 (p + 5).toNat) (ca := S.1 30 (p + 6).toNat) h0 ht ⟨by omega, by omega⟩ ⟨by omega, by omega⟩ a ⟨q10, q11⟩ ⟨q12, q13⟩
        clear q10 q11 q12 q13 s1 s4 hfR hfS q3 ht ht2
        repeat' (first | with_reducible refine okl (len30 _) ?_ | (with_reducible refine ok_of p1 ?_; dsimp only) | (with_reducible refine ok_of p2 ?_; dsimp only; simp only [m1, m2]) | (with_reducible refine ok_of w1 ?_; dsimp only) | (with_reducible refine ok_of w2 ?_; dsimp only; simp only [m1, m2]) | (with_reducible refine ok_of v1 ?_; dsimp only; simp only [w_put_r, w_arr_r, reduceIte, Nat.reduceEqDiff, pt_at]) | (with_reducible refine ok_of v2 ?_; dsimp only) | (with_reducible refine ok_of v3 ?_; dsimp only; (try simp only [w_put_r, w_arr_r, reduceIte, Nat.reduceEqDiff, pt_at])) | with_reducible refine ok_nb (by omega) ?_ | with_reducible refine ok_ib (by omega) ?_ | with_reducible refine ok_t (by omega) ?_ | with_reducible refine ok_e (by omega) ?_ | with_reducible refine ok_if (fun h => ?_) (fun h => ?_) | with_reducible refine ok_s ?_ | with_reducible refine ok_b ?_)
        all_goals first | exact ⟨rfl, Or.inl ⟨by omega, rfl, rfl⟩⟩ | exact absurd trivial h | skip
        · have em : max (S.1 52 x1.toNat) v = S.1 52 x1.toNat := by omega
          rw [g5, g6, m3, m4, em]
          exact ⟨rfl, Or.inr ⟨by omega, fin2 (by omega)⟩⟩
        · have em : max (S.1 52 x1.toNat) v = v := by omega
          rw [g5, g6, m4, em]
          exact ⟨rfl, Or.inr ⟨by omega, fin1 (by omega)⟩⟩
      · have hv : v ≠ -1 := fun q => hw (w5.mp q)
        clear w5
        repeat' (first | (with_reducible refine ok_of p1 ?_; dsimp only) | (with_reducible refine ok_of p2 ?_; dsimp only; simp only [m1, m2]) | (with_reducible refine ok_of w1 ?_; dsimp only) | (with_reducible refine ok_of w2 ?_; dsimp only) | with_reducible refine ok_nb (by omega) ?_ | with_reducible refine ok_ib (by omega) ?_ | with_reducible refine ok_t (by omega) ?_ | with_reducible refine ok_e (by omega) ?_ | with_reducible refine ok_if (fun h => ?_) (fun h => ?_) | with_reducible refine ok_s ?_ | with_reducible refine ok_b ?_)
        all_goals exact ⟨rfl, Or.inl ⟨by omega, rfl, rfl⟩⟩
  · unfold E_Lending_renewLoan E_R_doRenew
    repeat' (first | with_reducible refine ok_nb (by omega) ?_ | with_reducible refine ok_ib (by omega) ?_ | with_reducible refine ok_t (by omega) ?_ | with_reducible refine ok_e (by omega) ?_ | with_reducible refine ok_if (fun h => ?_) (fun h => ?_) | with_reducible refine ok_s ?_ | with_reducible refine ok_b ?_)
    exact ⟨rfl, Or.inl ⟨by omega, rfl, rfl⟩⟩
end
section
-- 91
/-- lending while one copy is on its way -/
def RelLx (S R : w_S) (t x : Int) : Prop := RelT S R ∧ RelP S R ∧ RelG S R ∧ RelRd S R t ∧ RelLn S R ∧ RelBk S R ∧ RelCs S R ∧ RelCd S R x ∧ RelLo S R x ∧ RelCl S R ∧ RelRu S R
theorem q_stl {S R S1 R1 : w_S} {t x p : Int} (h : RelLx S R t x) (hs : Stl S R x p S1 R1) (hx : 1 ≤ x ∧ x ≤ S.1 62 3) (hp : 0 ≤ p ∧ p ≤ 3) (hr : R.1 175 x.toNat = p) : frm LC LO LJ S S1 ∧ frm LCr LOr LJr R R1 ∧ RelL S1 R1 t := by
  obtain ⟨hT, hP, hG, hRd, hLn, hBk, hCs, hCd, hLo, hCl, hRu⟩ := h
  obtain ⟨hf, hg, st, ho, da, a65, a66, a67, a68, a69, b171, b172, b173, b174, d1, d2, d3, d4, d5, d6, hQ⟩ := hs
  have e62 : S1.1 62 3 = S.1 62 3 := hf.2.2 62 3 rfl rfl
  have e46 : S1.1 46 = S.1 46 := hf.2.1 46 rfl rfl
  have e50 : S1.1 50 = S.1 50 := hf.2.1 50 rfl rfl
  have e51 : S1.1 51 = S.1 51 := hf.2.1 51 rfl rfl
  have e56 : S1.1 56 = S.1 56 := hf.2.1 56 rfl rfl
  have e175 : R1.1 175 = R.1 175 := hg.2.1 175 rfl rfl
  refine ⟨hf.weak rfl, hg.weak rfl, hT.fr hf hg rfl, hP.fr hf hg rfl, hQ, hG.fr hf hg rfl, hRd.fr hf hg rfl, hLn.fr hf hg rfl, hBk.fr hf hg rfl, hCs.fr hf hg rfl, ?_, ?_, hCl.fr hf hg rfl, hRu.fr hf hg rfl⟩
  · intro k a b c
    rw [e62] at b
    simp only [a65, a66, a67, a68, a69, b171, b172, b173, b174, e46, e50, e51, e56, e175, pt_at]
    by_cases e : k = x.toNat
    · have t1 := hT.1
      have t2 := hT.2.1
      subst e
      simp only [if_true]
      refine ⟨⟨trivial, trivial, trivial, trivial, hr, d3⟩, by omega, by omega, d4, d5, hp.1, hp.2, by omega, by omega, fun hh => by omega, fun hh => by omega, fun hh => by omega, fun _ => trivial⟩
    · simp only [if_neg e]
      rw [d1 k e, d2 k e]
      exact hCd k a b (by omega)
  · intro l a b c
    rw [e46] at b
    rw [e56] at c
    obtain ⟨z1, z2, z3⟩ := hLo l a b c
    obtain ⟨_, _, _, l4⟩ := hLn
    have hl := (l4 l a b).2.2.2
    have hne : (S.1 51 l).toNat ≠ x.toNat := by omega
    simp only [a65, a67, e51, pt_at, if_neg hne]
    exact ⟨by omega, z2, z3⟩
theorem RelL.x0 {S R : w_S} {t : Int} (h : RelL S R t) {x : Int} (hx : S.1 65 x.toNat ≠ 1) : RelLx S R t x := by
  obtain ⟨hT, hP, hQ, hG, hRd, hLn, hBk, hCs, hCd, hLo, hCl, hRu⟩ := h
  refine ⟨hT, hP, hG, hRd, hLn, hBk, hCs, fun k a b c => hCd k a b (by omega), fun l a b c => ?_, hCl, hRu⟩
  obtain ⟨z1, z2, z3⟩ := hLo l a b c
  refine ⟨fun q => ?_, z2, z3⟩
  rw [q] at z2
  exact hx z2
theorem RelL.up {S R : w_S} {t : Int} (h : RelL S R t) : RelL S R (t + 1) := by
  obtain ⟨hT, hP, hQ, hG, hRd, hLn, hBk, hCs, hCd, hLo, hCl, hRu⟩ := h
  exact ⟨hT, hP, hQ, hG, hRd.up, hLn, hBk, hCs, hCd, hLo, hCl, hRu⟩
theorem t_home {e : w_E} {N : Nat} {S R : w_S} {x1 x2 t : Int} (hN : 10000 ≤ N) (h : RelL S R t) (ht : 0 ≤ t) : Ok (E_Lending_setHome e N x1 x2 S) (fun y S1 => Ok (E_R_doHome e N x1 x2 R) (fun y' R1 => Pa S R (fun _ => Ql S R t) y S1 y' R1)) := by
  have h0 := h
  obtain ⟨hT, hP, hQ, hG, hRd, hLn, hBk, hCs, hCd, hLo, hCl, hRu⟩ := h
  obtain ⟨c1, c2, c3, c4⟩ := id hCs
  by_cases b1 : x1 < 1 ∨ S.1 62 3 < x1 ∨ x2 < 0 ∨ 3 < x2
  · unfold E_Lending_setHome E_R_doHome
    repeat' (first | with_reducible refine ok_nb (by omega) ?_ | with_reducible refine ok_ib (by omega) ?_ | with_reducible refine ok_t (by omega) ?_ | with_reducible refine ok_e (by omega) ?_ | with_reducible refine ok_if (fun h => ?_) (fun h => ?_) | with_reducible refine ok_s ?_ | with_reducible refine ok_b ?_)
    all_goals first | exact ⟨rfl, Or.inl ⟨by omega, rfl, rfl⟩⟩ | (exfalso; omega)
  have hk := hCd x1.toNat (by omega) (by omega) (by omega)
  have m1 := hk.1.1
  have m5 := hk.1.2.2.2.2.1
  have m11 := hk.2.2.2.2.2.1
  have m12 := hk.2.2.2.2.2.2.1
  clear hk
  have hf : frm [70] [] [] S (w_put S 70 x1.toNat x2) := by repeat (first | exact frm.refl _ _ _ _ | refine frm.put ?_ rfl | refine frm.puto ?_ rfl rfl | refine frm.arr ?_ rfl)
  have hg : frm [176] [] [] R (w_put R 176 x1.toNat x2) := by repeat (first | exact frm.refl _ _ _ _ | refine frm.put ?_ rfl | refine frm.puto ?_ rfl rfl | refine frm.arr ?_ rfl)
  have hCs' : RelCs (w_put S 70 x1.toNat x2) (w_put R 176 x1.toNat x2) := by
    simp only [RelCs, w_put_r, w_arr_r, reduceIte, Nat.reduceEqDiff, pt_at]
    refine ⟨c1, c2, c3, fun k a b => ?_⟩
    have hk := c4 k a b
    by_cases e : k = x1.toNat
    · subst e
      (repeat' apply And.intro) <;> (try simp only [reduceIte]) <;> first | trivial | omega | (intro hh; omega)
    · simp only [if_neg e]
      exact hk
  have hL' : RelL (w_put S 70 x1.toNat x2) (w_put R 176 x1.toNat x2) t := ⟨hT.fr hf hg rfl, hP.fr hf hg rfl, hQ.fr hf hg rfl, hG.fr hf hg rfl, hRd.fr hf hg rfl, hLn.fr hf hg rfl, hBk.fr hf hg rfl, hCs', hCd.fr hf hg rfl, hLo.fr hf hg rfl, hCl.fr hf hg rfl, hRu.fr hf hg rfl⟩
  unfold E_Lending_setHome E_R_doHome
  rw [m1]
  by_cases hin : S.1 65 x1.toNat = 0
  · have ts := t_settle (e := e) (N := N) (S := w_put S 70 x1.toNat x2) (R := w_put R 176 x1.toNat x2) (x := x1) (p := S.1 69 x1.toNat) hN hL'.1 hL'.2.1 hL'.2.2.1 (by omega) (by omega) (by simp only [w_put_r, w_arr_r, reduceIte, Nat.reduceEqDiff, pt_at]; exact m5) (by simp only [w_put_r, w_arr_r, reduceIte, Nat.reduceEqDiff, pt_at]; exact (c4 x1.toNat (by omega) (by omega)).1) (by simp only [w_put_r, w_arr_r, reduceIte, Nat.reduceEqDiff, pt_at]) (by simp only [w_put_r, w_arr_r, reduceIte, Nat.reduceEqDiff, pt_at]; omega)
    repeat' (first | (with_reducible refine ts.mono (fun y S1 hs => ok_s ?_)) | with_reducible refine ok_nb (by omega) ?_ | with_reducible refine ok_ib (by omega) ?_ | with_reducible refine ok_t (by omega) ?_ | with_reducible refine ok_e (by omega) ?_ | with_reducible refine ok_if (fun h => ?_) (fun h => ?_) | with_reducible refine ok_s ?_ | with_reducible refine ok_b ?_)
    repeat' (first | (with_reducible refine hs.mono (fun y' R1 hs => ok_s ?_)) | with_reducible refine ok_nb (by omega) ?_ | with_reducible refine ok_ib (by omega) ?_ | with_reducible refine ok_t (by omega) ?_ | with_reducible refine ok_e (by omega) ?_ | with_reducible refine ok_if (fun h => ?_) (fun h => ?_) | with_reducible refine ok_s ?_ | with_reducible refine ok_b ?_)
    obtain ⟨f1, f2, f3⟩ := q_stl (RelL.x0 hL' (x := x1) (by simp only [w_put_r, w_arr_r, reduceIte, Nat.reduceEqDiff, pt_at]; omega)) hs (by simp only [w_put_r, w_arr_r, reduceIte, Nat.reduceEqDiff, pt_at]; omega) (by omega) (by simp only [w_put_r, w_arr_r, reduceIte, Nat.reduceEqDiff, pt_at]; exact m5)
    exact ⟨rfl, Or.inr ⟨by omega, (hf.weak rfl).trans f1, (hg.weak rfl).trans f2, f3.up⟩⟩
  · repeat' (first | with_reducible refine ok_nb (by omega) ?_ | with_reducible refine ok_ib (by omega) ?_ | with_reducible refine ok_t (by omega) ?_ | with_reducible refine ok_e (by omega) ?_ | with_reducible refine ok_if (fun h => ?_) (fun h => ?_) | with_reducible refine ok_s ?_ | with_reducible refine ok_b ?_)
    · exact ⟨rfl, Or.inr ⟨by omega, hf.weak rfl, hg.weak rfl, hL'.up⟩⟩
    · exact ⟨rfl, Or.inl ⟨by omega, rfl, rfl⟩⟩
end
section
-- 92
theorem x_isRec1 {e : w_E} {N : Nat} {S R : w_S} {x : Int} (hG : RelG S R) (h : 1 ≤ x ∧ x ≤ S.1 3 0 ∧ S.1 5 x.toNat = -1) : E_R_isRecord e N x R = some (1, R) := by
  obtain ⟨g1, g2, g3, g4⟩ := hG
  have := g4 x.toNat (by omega) (by omega)
  refine ok_eq ?_
  unfold E_R_isRecord
  repeat' (first | with_reducible refine ok_nb (by omega) ?_ | with_reducible refine ok_ib (by omega) ?_ | with_reducible refine ok_t (by omega) ?_ | with_reducible refine ok_e (by omega) ?_ | with_reducible refine ok_if (fun h => ?_) (fun h => ?_) | with_reducible refine ok_s ?_ | with_reducible refine ok_b ?_)
  exact ⟨rfl, rfl⟩
theorem x_isRec0 {e : w_E} {N : Nat} {S R : w_S} {x : Int} (hG : RelG S R) (h : ¬ (1 ≤ x ∧ x ≤ S.1 3 0 ∧ S.1 5 x.toNat = -1)) : E_R_isRecord e N x R = some (0, R) := by
  obtain ⟨g1, g2, g3, g4⟩ := hG
  have : 1 ≤ x → x ≤ S.1 3 0 → _ := fun a b => g4 x.toNat (by omega) (by omega)
  refine ok_eq ?_
  unfold E_R_isRecord
  repeat' (first | with_reducible refine ok_nb (by omega) ?_ | with_reducible refine ok_ib (by omega) ?_ | with_reducible refine ok_t (by omega) ?_ | with_reducible refine ok_e (by omega) ?_ | with_reducible refine ok_if (fun h => ?_) (fun h => ?_) | with_reducible refine ok_s ?_ | with_reducible refine ok_b ?_)
  all_goals first | exact ⟨rfl, rfl⟩ | (exfalso; omega)
theorem t_copy {e : w_E} {N : Nat} {S R : w_S} {x1 x2 t : Int} (hN : 10000 ≤ N) (h : RelL S R t) (ht : 0 ≤ t) : Ok (E_Lending_addCopy e N x1 x2 S) (fun y S1 => Ok (E_R_doCopy e N x1 x2 R) (fun y' R1 => Pa S R (fun _ S1 R1 => frm (72 :: LC) LO ((62, 3) :: LJ) S S1 ∧ frm (180 :: LCr) LOr ((129, 68) :: LJr) R R1 ∧ RelL S1 R1 (t + 1) ∧ S1.1 62 3 = S.1 62 3 + 1 ∧ S1.1 72 = pt (S.1 72) (S.1 62 3 + 1).toNat 1000000000000 ∧ R1.1 180 = pt (R.1 180) (S.1 62 3 + 1).toNat (-1)) y S1 y' R1)) := by
  have h0 := h
  obtain ⟨hT, hP, hQ, hG, hRd, hLn, hBk, hCs, hCd, hLo, hCl, hRu⟩ := h
  obtain ⟨c1, c2, c3, c4⟩ := id hCs
  obtain ⟨g1, g2, g3, g4⟩ := id hG
  by_cases b2 : 1 ≤ x1 ∧ x1 ≤ S.1 3 0 ∧ S.1 5 x1.toNat = -1
  · have kr := x_isRec1 (e := e) (N := N) hG b2
    by_cases b1 : x2 < 0 ∨ 4 < x2 ∨ S.1 62 3 = 200
    · unfold E_Lending_addCopy E_R_doCopy
      repeat' (first | (with_reducible refine ok_of kr ?_; dsimp only) | with_reducible refine ok_nb (by omega) ?_ | with_reducible refine ok_ib (by omega) ?_ | with_reducible refine ok_t (by omega) ?_ | with_reducible refine ok_e (by omega) ?_ | with_reducible refine ok_if (fun h => ?_) (fun h => ?_) | with_reducible refine ok_s ?_ | with_reducible refine ok_b ?_)
      all_goals first | exact ⟨rfl, Or.inl ⟨by omega, rfl, rfl⟩⟩ | (exfalso; omega)
    have hf : frm [63, 64, 70, 72] [62] [(62, 3)] S (w_put (w_put (w_put (w_put (w_put S 62 3 (S.1 62 3 + 1)) 63 (S.1 62 3 + 1).toNat x1) 64 (S.1 62 3 + 1).toNat x2) 70 (S.1 62 3 + 1).toNat 0) 72 (S.1 62 3 + 1).toNat 1000000000000) := by repeat (first | exact frm.refl _ _ _ _ | refine frm.put ?_ rfl | refine frm.puto ?_ rfl rfl | refine frm.arr ?_ rfl)
    have hg : frm [169, 170, 175, 176, 180] [129] [(129, 68)] R (w_put (w_put (w_put (w_put (w_put (w_put R 129 68 (S.1 62 3 + 1)) 169 (S.1 62 3 + 1).toNat x1) 170 (S.1 62 3 + 1).toNat x2) 175 (S.1 62 3 + 1).toNat 0) 176 (S.1 62 3 + 1).toNat 0) 180 (S.1 62 3 + 1).toNat (-1)) := by repeat (first | exact frm.refl _ _ _ _ | refine frm.put ?_ rfl | refine frm.puto ?_ rfl rfl | refine frm.arr ?_ rfl)
    have hX : RelLx (w_put (w_put (w_put (w_put (w_put S 62 3 (S.1 62 3 + 1)) 63 (S.1 62 3 + 1).toNat x1) 64 (S.1 62 3 + 1).toNat x2) 70 (S.1 62 3 + 1).toNat 0) 72 (S.1 62 3 + 1).toNat 1000000000000) (w_put (w_put (w_put (w_put (w_put (w_put R 129 68 (S.1 62 3 + 1)) 169 (S.1 62 3 + 1).toNat x1) 170 (S.1 62 3 + 1).toNat x2) 175 (S.1 62 3 + 1).toNat 0) 176 (S.1 62 3 + 1).toNat 0) 180 (S.1 62 3 + 1).toNat (-1)) t (S.1 62 3 + 1) := by
      refine ⟨hT.fr hf hg rfl, hP.fr hf hg rfl, hG.fr hf hg rfl, hRd.fr hf hg rfl, ?_, ?_, ?_, ?_, ?_, hCl.fr hf hg rfl, hRu.fr hf hg rfl⟩
      · obtain ⟨l1, l2, l3, l4⟩ := hLn
        simp only [RelLn, w_put_r, w_arr_r, reduceIte, Nat.reduceEqDiff, pt_at]
        refine ⟨l1, l2, l3, fun k a b => ?_⟩
        obtain ⟨m1, m2, m3, m4, m5, m6⟩ := l4 k a b
        exact ⟨m1, m2, m3, m4, by omega, m6⟩
      · obtain ⟨l1, l2, l3, l4⟩ := hBk
        simp only [RelBk, w_put_r, w_arr_r, reduceIte, Nat.reduceEqDiff, pt_at]
        refine ⟨l1, l2, l3, fun k a b => ?_⟩
        obtain ⟨m1, m2, m3, m4, m5, m6⟩ := l4 k a b
        exact ⟨m1, m2, m3, m4, by omega, m6⟩
      · simp only [RelCs, w_put_r, w_arr_r, reduceIte, Nat.reduceEqDiff, pt_at]
        refine ⟨trivial, by omega, by omega, fun k a b => ?_⟩
        by_cases e : k = (S.1 62 3 + 1).toNat
        · simp only [if_pos e]
          (repeat' apply And.intro) <;> (try simp only [reduceIte]) <;> first | trivial | omega | (intro hh; omega)
        · simp only [if_neg e]
          exact c4 k a (by omega)
      · simp only [RelCd, w_put_r, w_arr_r, reduceIte, Nat.reduceEqDiff, pt_at]
        intro k a b c
        have e : k ≠ (S.1 62 3 + 1).toNat := by omega
        simp only [if_neg e]
        exact hCd k a (by omega) (by omega)
      · simp only [RelLo, w_put_r, w_arr_r, reduceIte, Nat.reduceEqDiff, pt_at]
        intro l a b c
        obtain ⟨z1, z2, z3⟩ := hLo l a b c
        obtain ⟨_, _, _, l4⟩ := hLn
        have := l4 l a b
        exact ⟨by omega, z2, z3⟩
    have ts := t_settle (e := e) (N := N) (x := S.1 62 3 + 1) (p := 0) hN hX.1 hX.2.1 (hQ.fr hf hg rfl) (by omega) (by omega) (by simp only [w_put_r, w_arr_r, reduceIte, Nat.reduceEqDiff, pt_at]) (by simp only [w_put_r, w_arr_r, reduceIte, Nat.reduceEqDiff, pt_at]) (by simp only [w_put_r, w_arr_r, reduceIte, Nat.reduceEqDiff, pt_at]) (by simp only [w_put_r, w_arr_r, reduceIte, Nat.reduceEqDiff, pt_at]; omega)
    unfold E_Lending_addCopy E_R_doCopy
    repeat' (first | (with_reducible refine ts.mono (fun y S1 hs => ok_s ?_)) | with_reducible refine ok_nb (by omega) ?_ | with_reducible refine ok_ib (by omega) ?_ | with_reducible refine ok_t (by omega) ?_ | with_reducible refine ok_e (by omega) ?_ | with_reducible refine ok_if (fun h => ?_) (fun h => ?_) | with_reducible refine ok_s ?_ | with_reducible refine ok_b ?_)
    repeat' (first | (with_reducible refine ok_of kr ?_; dsimp only; rw [c1]) | (with_reducible refine hs.mono (fun y' R1 hs => ok_s ?_)) | with_reducible refine ok_nb (by omega) ?_ | with_reducible refine ok_ib (by omega) ?_ | with_reducible refine ok_t (by omega) ?_ | with_reducible refine ok_e (by omega) ?_ | with_reducible refine ok_if (fun h => ?_) (fun h => ?_) | with_reducible refine ok_s ?_ | with_reducible refine ok_b ?_)
    dsimp only
    obtain ⟨f1, f2, f3⟩ := q_stl hX hs (by simp only [w_put_r, w_arr_r, reduceIte, Nat.reduceEqDiff, pt_at]; omega) (by omega) (by simp only [w_put_r, w_arr_r, reduceIte, Nat.reduceEqDiff, pt_at])
    obtain ⟨hf2, hg2, _⟩ := hs
    have e1 : S1.1 62 3 = S.1 62 3 + 1 := by
      rw [hf2.2.2 62 3 rfl rfl]
      simp only [w_put_r, w_arr_r, reduceIte, Nat.reduceEqDiff, pt_at]
    have e2 : R1.1 129 68 = S.1 62 3 + 1 := by
      rw [hg2.2.2 129 68 rfl rfl]
      simp only [w_put_r, w_arr_r, reduceIte, Nat.reduceEqDiff, pt_at]
    refine ⟨by rw [e1, e2], Or.inr ⟨by omega, (hf.weak rfl).trans (f1.weak rfl), (hg.weak rfl).trans (f2.weak rfl), f3.up, e1, ?_, ?_⟩⟩
    · rw [hf2.2.1 72 rfl rfl]
      simp only [w_put_r, reduceIte, Nat.reduceEqDiff]
    · rw [hg2.2.1 180 rfl rfl]
      simp only [w_put_r, reduceIte, Nat.reduceEqDiff]
  · have kr := x_isRec0 (e := e) (N := N) hG b2
    have a1 : 1 ≤ x1 → x1 ≤ S.1 3 0 → _ := fun h1 h2 => g4 x1.toNat (by omega) (by omega)
    unfold E_Lending_addCopy E_R_doCopy
    repeat' (first | (with_reducible refine ok_of kr ?_; dsimp only) | with_reducible refine ok_nb (by omega) ?_ | with_reducible refine ok_ib (by omega) ?_ | with_reducible refine ok_t (by omega) ?_ | with_reducible refine ok_e (by omega) ?_ | with_reducible refine ok_if (fun h => ?_) (fun h => ?_) | with_reducible refine ok_s ?_ | with_reducible refine ok_b ?_)
    all_goals first | exact ⟨rfl, Or.inl ⟨by omega, rfl, rfl⟩⟩ | (exfalso; omega)
end
