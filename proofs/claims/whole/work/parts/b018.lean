section
-- cb
/-- bytes of a range -/
def rng (lo hi c : Int) : Bool := decide (lo ≤ c) && decide (c ≤ hi)
theorem rng_iff {lo hi c : Int} : rng lo hi c = true ↔ lo ≤ c ∧ c ≤ hi := by
  unfold rng
  simp only [Bool.and_eq_true, decide_eq_true_eq]
/-- a tail's bytes as a number -/
def tlv (G : Int → Int) (lo base q : Int) (m : Nat) : Nat → Int
  | 0 => 0
  | i + 1 => tlv G lo base q m i * base + (if i < m then G (q + i) - lo + 1 else 0)
def pF (lo hi : Int) (M : Nat) (G : Int → Int) (q : Int) : Int := if q < 0 then q else if nw (rng lo hi) G M q = 0 then -1 - q else q + (nw (rng lo hi) G M q : Nat)
theorem nw_at {P : Int → Bool} {G : Int → Int} : ∀ (k : Nat) (p : Int), nw P G k p < k → P (G (p + (nw P G k p : Nat))) = false
  | 0, p, h => by
    omega
  | k + 1, p, h => by
    rw [nw] at h ⊢
    by_cases c : P (G p) = true
    · rw [if_pos c] at h ⊢
      have := nw_at (P := P) (G := G) k (p + 1) (by omega)
      rw [show p + ((nw P G k (p + 1) + 1 : Nat) : Int) = p + 1 + (nw P G k (p + 1) : Nat) by omega]
      exact this
    · rw [if_neg c, show p + ((0 : Nat) : Int) = p by omega]
      exact Bool.not_eq_true _ ▸ c
theorem l_tailDw {e : w_E} {N : Nat} {S : w_S} {f len a w q : Int} {G : Int → Int} (h : TX S f len G) (ha : At f len a w q) (hq : q < 0) : ∀ (k i nf : Nat) (acc x6 : Int), i + k = 4 → 1 ≤ i → k < nf → 0 ≤ acc → acc ≤ (if i = 1 then 11 else if i = 2 then 121 else if i = 3 then 1331 else 14641) → Ok (El_Lending_readTail e N nf 0 [48, 57, 4, acc, x6, (i : Int)] [] (tp S a w)) (fun y S1 => S1 = tp S a w ∧ 0 ≤ y ∧ y ≤ 14641)
  | _, _, 0, _, _, _, _, h, _, _ => by omega
  | 0, i, nf + 1, acc, x6, h1, h2, h3, h4, h5 => by
    rw [El_Lending_readTail]
    refine ok_t (by omega) (ok_s ⟨rfl, h4, ?_⟩)
    have : i = 4 := by omega
    subst this
    exact h5
  | k + 1, i, nf + 1, acc, x6, h1, h2, h3, h4, h5 => by
    have hp := x_peek (e := e) (N := N) h ha
    rw [if_pos hq] at hp
    have hb : 0 ≤ acc * 11 ∧ acc * 11 ≤ 14641 ∧ acc * 11 ≤ (if i + 1 = 1 then 11 else if i + 1 = 2 then 121 else if i + 1 = 3 then 1331 else 14641) := by
      have ii : i = 1 ∨ i = 2 ∨ i = 3 := by omega
      rcases ii with rfl | rfl | rfl
      · simp only [reduceIte, Nat.reduceEqDiff, Nat.reduceAdd] at h5 ⊢
        omega
      · simp only [reduceIte, Nat.reduceEqDiff, Nat.reduceAdd] at h5 ⊢
        omega
      · simp only [reduceIte, Nat.reduceEqDiff, Nat.reduceAdd] at h5 ⊢
        omega
    have ih := fun x => l_tailDw (e := e) (N := N) h ha hq k (i + 1) nf (acc * ((57 : Int) - 48 + 2) + 0) x (by omega) (by omega) (by omega) (by omega) (by have := hb.2.2; rw [show acc * ((57 : Int) - 48 + 2) + 0 = acc * 11 by omega]; exact this)
    rw [show ((i + 1 : Nat) : Int) = (i : Int) + 1 by omega] at ih
    have i1 := ih 0
    clear ih h5
    rw [El_Lending_readTail]
    refine ok_e (by omega) (ok_b (ok_of hp ?_))
    dsimp only
    refine ok_e (by omega) ?_
    by_cases c : x6 = 0
    · refine ok_t c (ok_nb (by omega) (ok_nb (by omega) (ok_t (by omega) (ok_t (by omega) (ok_nb (by omega) i1)))))
    · refine ok_e c (ok_t (by omega) (ok_nb (by omega) (ok_nb (by omega) (ok_t (by omega) (ok_t (by omega) (ok_nb (by omega) i1))))))
theorem tlvD_bd {G : Int → Int} {q : Int} {m : Nat} (hm : ∀ j : Nat, j < m → rng 48 57 (G (q + j)) = true) : ∀ i, i ≤ 4 → 0 ≤ tlv G 48 11 q m i ∧ tlv G 48 11 q m i ≤ (if i = 0 then 0 else if i = 1 then 10 else if i = 2 then 120 else if i = 3 then 1330 else 14640)
  | 0, _ => by
    rw [tlv]
    decide
  | i + 1, hi => by
    have ih := tlvD_bd hm i (by omega)
    have t : 0 ≤ (if i < m then G (q + i) - 48 + 1 else 0) ∧ (if i < m then G (q + i) - 48 + 1 else 0) ≤ 10 := by
      split
      · rename_i c
        have := rng_iff.1 (hm i c)
        omega
      · omega
    rw [tlv]
    have ii : i = 0 ∨ i = 1 ∨ i = 2 ∨ i = 3 := by omega
    rcases ii with rfl | rfl | rfl | rfl
    all_goals
      simp only [reduceIte, Nat.reduceEqDiff, Nat.reduceAdd] at ih ⊢
      omega
theorem l_tailD {e : w_E} {N : Nat} {S : w_S} {f len q : Int} {G : Int → Int} (h : TX S f len G) (h0 : 0 ≤ q) : ∀ (k i nf : Nat) (a : Int), i + k = 4 → 1 ≤ i → k < nf → 1 ≤ nw (rng 48 57) G 4 q → At f len a (-1) (q + (min i (nw (rng 48 57) G 4 q) : Nat)) → Ok (El_Lending_readTail e N nf 0 [48, 57, 4, tlv G 48 11 q (nw (rng 48 57) G 4 q) i, (if i ≤ nw (rng 48 57) G 4 q then 1 else 0), (i : Int)] [] (tp S a (-1))) (Tk S f len (q + (nw (rng 48 57) G 4 q : Nat)) (fun y => y = tlv G 48 11 q (nw (rng 48 57) G 4 q) 4))
  | _, _, 0, _, _, _, h, _, _ => by omega
  | 0, i, nf + 1, a, h1, h2, h3, h4, ha => by
    have : i = 4 := by omega
    subst this
    have nl := nw_le (rng 48 57) G 4 q
    rw [El_Lending_readTail]
    refine ok_t (by omega) (ok_s ⟨a, -1, rfl, ?_, fun _ => rfl⟩)
    rw [show min 4 (nw (rng 48 57) G 4 q) = nw (rng 48 57) G 4 q by omega] at ha
    exact ha
  | k + 1, i, nf + 1, a, h1, h2, h3, h4, ha => by
    have nl := nw_le (rng 48 57) G 4 q
    have na := nw_all (P := rng 48 57) (G := G) 4 q
    have nat := nw_at (P := rng 48 57) (G := G) 4 q
    have tb := tlvD_bd (G := G) (q := q) (m := nw (rng 48 57) G 4 q) na
    have ih := l_tailD (e := e) (N := N) h h0 k (i + 1) nf
    generalize hm : nw (rng 48 57) G 4 q = m at *
    have hp := x_peek (e := e) (N := N) h ha
    rw [if_neg (by omega : ¬ q + ((min i m : Nat) : Int) < 0)] at hp
    have t1 := tb i (by omega)
    have t2 := tb (i + 1) (by omega)
    have t3 : 0 ≤ tlv G 48 11 q m i ∧ tlv G 48 11 q m i ≤ 1331 := by
      have ii : i = 1 ∨ i = 2 ∨ i = 3 := by omega
      rcases ii with rfl | rfl | rfl
      all_goals
        simp only [reduceIte, Nat.reduceEqDiff] at t1
        omega
    have ts : tlv G 48 11 q m (i + 1) = tlv G 48 11 q m i * 11 + (if i < m then G (q + i) - 48 + 1 else 0) := by
      rw [tlv]
    clear tb t1 t2
    generalize tlv G 48 11 q m i = acc at *
    rw [El_Lending_readTail]
    refine ok_e (by omega) (ok_b (ok_of hp ?_))
    dsimp only
    refine ok_e (by omega) ?_
    by_cases c : i ≤ m
    · rw [if_pos c]
      refine ok_e (by omega) ?_
      rw [show min i m = i by omega] at ha hp ⊢
      by_cases c1 : i < m
      · have r1 := rng_iff.1 (na i c1)
        rw [if_pos c1] at ts
        refine ok_e (by omega) (ok_e (by omega) (ok_nb (by omega) (ok_nb (by omega) (ok_t (by omega) ?_))))
        refine tk_b (x_takeBetween h ha (by decide)) (fun y a1 w1 ha1 hy => ?_)
        unfold pR at ha1
        rw [if_neg (by omega), if_pos (by omega)] at ha1
        have w1e := ha1.wm (by omega)
        obtain ⟨y1, y2, y3⟩ := hy w1e
        subst w1e
        subst y1
        refine ok_nb (by omega) (ok_t (by omega) (ok_nb (by omega) ?_))
        have i1 := ih a1 (by omega) (by omega) (by omega) h4 (by rw [show min (i + 1) m = i + 1 by omega, show q + ((i + 1 : Nat) : Int) = q + i + 1 by omega]; exact ha1)
        rw [if_pos (by omega), show ((i + 1 : Nat) : Int) = (i : Int) + 1 by omega, ts] at i1
        rw [show acc * ((57 : Int) - 48 + 2) + (G (q + i) - 48 + 1) = acc * 11 + (G (q + i) - 48 + 1) by omega]
        exact i1
      · have im : i = m := by omega
        have nat' : rng 48 57 (G (q + i)) = false := by
          rw [im]
          exact nat (by omega)
        have r1 : ¬ (48 ≤ G (q + i) ∧ G (q + i) ≤ 57) := fun z => by
          rw [rng_iff.2 z] at nat'
          cases nat'
        rw [if_neg c1] at ts
        have i1 := ih a (by omega) (by omega) (by omega) h4 (by rw [show min (i + 1) m = i by omega]; exact ha)
        rw [if_neg (by omega), show ((i + 1 : Nat) : Int) = (i : Int) + 1 by omega, ts] at i1
        rw [show acc * ((57 : Int) - 48 + 2) + 0 = acc * 11 + 0 by omega]
        by_cases c2 : G (q + i) < 48
        · exact ok_t c2 (ok_nb (by omega) (ok_nb (by omega) (ok_t (by omega) (ok_t (by omega) (ok_nb (by omega) i1)))))
        · exact ok_e c2 (ok_t (by omega) (ok_nb (by omega) (ok_nb (by omega) (ok_t (by omega) (ok_t (by omega) (ok_nb (by omega) i1))))))
    · rw [if_neg c]
      rw [if_neg (by omega)] at ts
      have i1 := ih a (by omega) (by omega) (by omega) h4 (by rw [show min (i + 1) m = min i m by omega]; exact ha)
      rw [if_neg (by omega), show ((i + 1 : Nat) : Int) = (i : Int) + 1 by omega, ts] at i1
      rw [show acc * ((57 : Int) - 48 + 2) + 0 = acc * 11 + 0 by omega]
      exact ok_t rfl (ok_nb (by omega) (ok_nb (by omega) (ok_t (by omega) (ok_t (by omega) (ok_nb (by omega) i1)))))
theorem x_tailD {e : w_E} {N : Nat} {S : w_S} {f len a w q : Int} {G : Int → Int} (hN : 2001 ≤ N) (h : TX S f len G) (ha : At f len a w q) : Ok (E_Lending_readTail e N 48 57 4 (tp S a w)) (fun y S1 => Tk S f len (pF 48 57 4 G q) (fun y => y = tlv G 48 11 q (nw (rng 48 57) G 4 q) 4) y S1 ∧ 0 ≤ y ∧ y ≤ 14641) := by
  have hp := x_peek (e := e) (N := N) h ha
  obtain ⟨n, hn⟩ : ∃ n, N = n + 1 := ⟨N - 1, by omega⟩
  unfold E_Lending_readTail
  rw [show El_Lending_readTail e N N = El_Lending_readTail e N (n + 1) by rw [← hn], El_Lending_readTail]
  refine ok_e (by omega) (ok_b (ok_of hp ?_))
  dsimp only
  refine ok_t rfl (ok_nb (by omega) (ok_nb (by omega) (ok_t (by omega) ?_)))
  refine ok_b ((x_between (e := e) (N := N) (lo := 48) (hi := 57) h ha (by decide)).mono (fun y S1 z => ?_))
  obtain ⟨⟨a1, w1, z1, z2, z3⟩, z4, z5⟩ := z
  subst z1
  refine ok_nb (by omega) (ok_t (by omega) (ok_nb (by omega) ?_))
  rw [show ((0 : Int) * ((57 : Int) - 48 + 2) + (y + 1)) = y + 1 by omega, show ((0 : Int) + 1) = ((1 : Nat) : Int) by omega]
  have wr : pR G 48 57 q < 0 → pF 48 57 4 G q = pR G 48 57 q → Ok (El_Lending_readTail e N n 0 [48, 57, 4, y + 1, 1, ((1 : Nat) : Int)] [] (tp S a1 w1)) (fun y S1 => Tk S f len (pF 48 57 4 G q) (fun y => y = tlv G 48 11 q (nw (rng 48 57) G 4 q) 4) y S1 ∧ 0 ≤ y ∧ y ≤ 14641) := fun k1 k2 => by
    refine (l_tailDw (e := e) (N := N) h z2 k1 3 1 n (y + 1) 1 (by omega) (by omega) (by omega) (by omega) (by simp only [reduceIte]; omega)).mono (fun y2 S2 r => ?_)
    obtain ⟨r1, r2, r3⟩ := r
    refine ⟨⟨a1, w1, r1, by rw [k2]; exact z2, fun z => ?_⟩, r2, by omega⟩
    have := z2.right.2 k1
    omega
  by_cases c : q < 0
  · have e1 : pR G 48 57 q = q := by
      unfold pR
      rw [if_pos c]
    have e2 : pF 48 57 4 G q = q := by
      unfold pF
      rw [if_pos c]
    exact wr (by omega) (by rw [e1, e2])
  · have hs : nw (rng 48 57) G 4 q = if rng 48 57 (G q) = true then nw (rng 48 57) G 3 (q + 1) + 1 else 0 := by
      rw [nw]
    by_cases d : rng 48 57 (G q) = true
    · have d1 := rng_iff.1 d
      have e1 : pR G 48 57 q = q + 1 := by
        unfold pR
        rw [if_neg c, if_pos d1]
      rw [if_pos d] at hs
      rw [e1] at z2
      have w1e := z2.wm (by omega)
      have ye := z3 w1e
      subst w1e
      have nl := nw_le (rng 48 57) G 4 q
      have na := nw_all (P := rng 48 57) (G := G) 4 q
      have tb := tlvD_bd (G := G) (q := q) (m := nw (rng 48 57) G 4 q) na 4 (by omega)
      have key := l_tailD (e := e) (N := N) h (show 0 ≤ q by omega) 3 1 n a1 (by omega) (by omega) (by omega) (by omega) (by rw [show min 1 (nw (rng 48 57) G 4 q) = 1 by omega]; exact z2)
      have t1 : tlv G 48 11 q (nw (rng 48 57) G 4 q) 1 = y + 1 := by
        rw [tlv, tlv, if_pos (by omega), ye, show q + ((0 : Nat) : Int) = q by omega]
        omega
      rw [t1, if_pos (by omega)] at key
      have e2 : pF 48 57 4 G q = q + (nw (rng 48 57) G 4 q : Nat) := by
        unfold pF
        rw [if_neg c, if_neg (by omega)]
      rw [e2]
      refine key.mono (fun y2 S2 r => ?_)
      obtain ⟨a2, w2, r1, r2, r3⟩ := r
      have y2e := r3 (r2.wm (by omega))
      simp only [reduceIte, Nat.reduceEqDiff] at tb
      exact ⟨⟨a2, w2, r1, r2, r3⟩, by omega, by omega⟩
    · have d1 : ¬ (48 ≤ G q ∧ G q ≤ 57) := fun z => d (rng_iff.2 z)
      have e1 : pR G 48 57 q = -1 - q := by
        unfold pR
        rw [if_neg c, if_neg d1]
      rw [if_neg d] at hs
      have e2 : pF 48 57 4 G q = -1 - q := by
        unfold pF
        rw [if_neg c, if_pos hs]
      exact wr (by omega) (by rw [e1, e2])
theorem l_tailLw {e : w_E} {N : Nat} {S : w_S} {f len a w q : Int} {G : Int → Int} (h : TX S f len G) (ha : At f len a w q) (hq : q < 0) : ∀ (k i nf : Nat) (acc x6 : Int), i + k = 3 → 1 ≤ i → k < nf → 0 ≤ acc → acc ≤ (if i = 1 then 27 else if i = 2 then 729 else if i = 3 then 19683 else 531441) → Ok (El_Lending_readTail e N nf 0 [65, 90, 3, acc, x6, (i : Int)] [] (tp S a w)) (fun y S1 => S1 = tp S a w ∧ 0 ≤ y ∧ y ≤ 19683)
  | _, _, 0, _, _, _, _, h, _, _ => by omega
  | 0, i, nf + 1, acc, x6, h1, h2, h3, h4, h5 => by
    rw [El_Lending_readTail]
    refine ok_t (by omega) (ok_s ⟨rfl, h4, ?_⟩)
    have : i = 3 := by omega
    subst this
    exact h5
  | k + 1, i, nf + 1, acc, x6, h1, h2, h3, h4, h5 => by
    have hp := x_peek (e := e) (N := N) h ha
    rw [if_pos hq] at hp
    have hb : 0 ≤ acc * 27 ∧ acc * 27 ≤ 19683 ∧ acc * 27 ≤ (if i + 1 = 1 then 27 else if i + 1 = 2 then 729 else if i + 1 = 3 then 19683 else 531441) := by
      have ii : i = 1 ∨ i = 2 ∨ i = 3 := by omega
      rcases ii with rfl | rfl | rfl
      · simp only [reduceIte, Nat.reduceEqDiff, Nat.reduceAdd] at h5 ⊢
        omega
      · simp only [reduceIte, Nat.reduceEqDiff, Nat.reduceAdd] at h5 ⊢
        omega
      · simp only [reduceIte, Nat.reduceEqDiff, Nat.reduceAdd] at h5 ⊢
        omega
    have ih := fun x => l_tailLw (e := e) (N := N) h ha hq k (i + 1) nf (acc * ((90 : Int) - 65 + 2) + 0) x (by omega) (by omega) (by omega) (by omega) (by have := hb.2.2; rw [show acc * ((90 : Int) - 65 + 2) + 0 = acc * 27 by omega]; exact this)
    rw [show ((i + 1 : Nat) : Int) = (i : Int) + 1 by omega] at ih
    have i1 := ih 0
    clear ih h5
    rw [El_Lending_readTail]
    refine ok_e (by omega) (ok_b (ok_of hp ?_))
    dsimp only
    refine ok_e (by omega) ?_
    by_cases c : x6 = 0
    · refine ok_t c (ok_nb (by omega) (ok_nb (by omega) (ok_t (by omega) (ok_t (by omega) (ok_nb (by omega) i1)))))
    · refine ok_e c (ok_t (by omega) (ok_nb (by omega) (ok_nb (by omega) (ok_t (by omega) (ok_t (by omega) (ok_nb (by omega) i1))))))
theorem tlvL_bd {G : Int → Int} {q : Int} {m : Nat} (hm : ∀ j : Nat, j < m → rng 65 90 (G (q + j)) = true) : ∀ i, i ≤ 4 → 0 ≤ tlv G 65 27 q m i ∧ tlv G 65 27 q m i ≤ (if i = 0 then 0 else if i = 1 then 26 else if i = 2 then 728 else if i = 3 then 19682 else 531440)
  | 0, _ => by
    rw [tlv]
    decide
  | i + 1, hi => by
    have ih := tlvL_bd hm i (by omega)
    have t : 0 ≤ (if i < m then G (q + i) - 65 + 1 else 0) ∧ (if i < m then G (q + i) - 65 + 1 else 0) ≤ 26 := by
      split
      · rename_i c
        have := rng_iff.1 (hm i c)
        omega
      · omega
    rw [tlv]
    have ii : i = 0 ∨ i = 1 ∨ i = 2 ∨ i = 3 := by omega
    rcases ii with rfl | rfl | rfl | rfl
    all_goals
      simp only [reduceIte, Nat.reduceEqDiff, Nat.reduceAdd] at ih ⊢
      omega
theorem l_tailL {e : w_E} {N : Nat} {S : w_S} {f len q : Int} {G : Int → Int} (h : TX S f len G) (h0 : 0 ≤ q) : ∀ (k i nf : Nat) (a : Int), i + k = 3 → 1 ≤ i → k < nf → 1 ≤ nw (rng 65 90) G 3 q → At f len a (-1) (q + (min i (nw (rng 65 90) G 3 q) : Nat)) → Ok (El_Lending_readTail e N nf 0 [65, 90, 3, tlv G 65 27 q (nw (rng 65 90) G 3 q) i, (if i ≤ nw (rng 65 90) G 3 q then 1 else 0), (i : Int)] [] (tp S a (-1))) (Tk S f len (q + (nw (rng 65 90) G 3 q : Nat)) (fun y => y = tlv G 65 27 q (nw (rng 65 90) G 3 q) 3))
  | _, _, 0, _, _, _, h, _, _ => by omega
  | 0, i, nf + 1, a, h1, h2, h3, h4, ha => by
    have : i = 3 := by omega
    subst this
    have nl := nw_le (rng 65 90) G 3 q
    rw [El_Lending_readTail]
    refine ok_t (by omega) (ok_s ⟨a, -1, rfl, ?_, fun _ => rfl⟩)
    rw [show min 3 (nw (rng 65 90) G 3 q) = nw (rng 65 90) G 3 q by omega] at ha
    exact ha
  | k + 1, i, nf + 1, a, h1, h2, h3, h4, ha => by
    have nl := nw_le (rng 65 90) G 3 q
    have na := nw_all (P := rng 65 90) (G := G) 3 q
    have nat := nw_at (P := rng 65 90) (G := G) 3 q
    have tb := tlvL_bd (G := G) (q := q) (m := nw (rng 65 90) G 3 q) na
    have ih := l_tailL (e := e) (N := N) h h0 k (i + 1) nf
    generalize hm : nw (rng 65 90) G 3 q = m at *
    have hp := x_peek (e := e) (N := N) h ha
    rw [if_neg (by omega : ¬ q + ((min i m : Nat) : Int) < 0)] at hp
    have t1 := tb i (by omega)
    have t2 := tb (i + 1) (by omega)
    have t3 : 0 ≤ tlv G 65 27 q m i ∧ tlv G 65 27 q m i ≤ 19683 := by
      have ii : i = 1 ∨ i = 2 ∨ i = 3 := by omega
      rcases ii with rfl | rfl | rfl
      all_goals
        simp only [reduceIte, Nat.reduceEqDiff] at t1
        omega
    have ts : tlv G 65 27 q m (i + 1) = tlv G 65 27 q m i * 27 + (if i < m then G (q + i) - 65 + 1 else 0) := by
      rw [tlv]
    clear tb t1 t2
    generalize tlv G 65 27 q m i = acc at *
    rw [El_Lending_readTail]
    refine ok_e (by omega) (ok_b (ok_of hp ?_))
    dsimp only
    refine ok_e (by omega) ?_
    by_cases c : i ≤ m
    · rw [if_pos c]
      refine ok_e (by omega) ?_
      rw [show min i m = i by omega] at ha hp ⊢
      by_cases c1 : i < m
      · have r1 := rng_iff.1 (na i c1)
        rw [if_pos c1] at ts
        refine ok_e (by omega) (ok_e (by omega) (ok_nb (by omega) (ok_nb (by omega) (ok_t (by omega) ?_))))
        refine tk_b (x_takeBetween h ha (by decide)) (fun y a1 w1 ha1 hy => ?_)
        unfold pR at ha1
        rw [if_neg (by omega), if_pos (by omega)] at ha1
        have w1e := ha1.wm (by omega)
        obtain ⟨y1, y2, y3⟩ := hy w1e
        subst w1e
        subst y1
        refine ok_nb (by omega) (ok_t (by omega) (ok_nb (by omega) ?_))
        have i1 := ih a1 (by omega) (by omega) (by omega) h4 (by rw [show min (i + 1) m = i + 1 by omega, show q + ((i + 1 : Nat) : Int) = q + i + 1 by omega]; exact ha1)
        rw [if_pos (by omega), show ((i + 1 : Nat) : Int) = (i : Int) + 1 by omega, ts] at i1
        rw [show acc * ((90 : Int) - 65 + 2) + (G (q + i) - 65 + 1) = acc * 27 + (G (q + i) - 65 + 1) by omega]
        exact i1
      · have im : i = m := by omega
        have nat' : rng 65 90 (G (q + i)) = false := by
          rw [im]
          exact nat (by omega)
        have r1 : ¬ (65 ≤ G (q + i) ∧ G (q + i) ≤ 90) := fun z => by
          rw [rng_iff.2 z] at nat'
          cases nat'
        rw [if_neg c1] at ts
        have i1 := ih a (by omega) (by omega) (by omega) h4 (by rw [show min (i + 1) m = i by omega]; exact ha)
        rw [if_neg (by omega), show ((i + 1 : Nat) : Int) = (i : Int) + 1 by omega, ts] at i1
        rw [show acc * ((90 : Int) - 65 + 2) + 0 = acc * 27 + 0 by omega]
        by_cases c2 : G (q + i) < 65
        · exact ok_t c2 (ok_nb (by omega) (ok_nb (by omega) (ok_t (by omega) (ok_t (by omega) (ok_nb (by omega) i1)))))
        · exact ok_e c2 (ok_t (by omega) (ok_nb (by omega) (ok_nb (by omega) (ok_t (by omega) (ok_t (by omega) (ok_nb (by omega) i1))))))
    · rw [if_neg c]
      rw [if_neg (by omega)] at ts
      have i1 := ih a (by omega) (by omega) (by omega) h4 (by rw [show min (i + 1) m = min i m by omega]; exact ha)
      rw [if_neg (by omega), show ((i + 1 : Nat) : Int) = (i : Int) + 1 by omega, ts] at i1
      rw [show acc * ((90 : Int) - 65 + 2) + 0 = acc * 27 + 0 by omega]
      exact ok_t rfl (ok_nb (by omega) (ok_nb (by omega) (ok_t (by omega) (ok_t (by omega) (ok_nb (by omega) i1)))))
theorem x_tailL {e : w_E} {N : Nat} {S : w_S} {f len a w q : Int} {G : Int → Int} (hN : 2001 ≤ N) (h : TX S f len G) (ha : At f len a w q) : Ok (E_Lending_readTail e N 65 90 3 (tp S a w)) (fun y S1 => Tk S f len (pF 65 90 3 G q) (fun y => y = tlv G 65 27 q (nw (rng 65 90) G 3 q) 3) y S1 ∧ 0 ≤ y ∧ y ≤ 531441) := by
  have hp := x_peek (e := e) (N := N) h ha
  obtain ⟨n, hn⟩ : ∃ n, N = n + 1 := ⟨N - 1, by omega⟩
  unfold E_Lending_readTail
  rw [show El_Lending_readTail e N N = El_Lending_readTail e N (n + 1) by rw [← hn], El_Lending_readTail]
  refine ok_e (by omega) (ok_b (ok_of hp ?_))
  dsimp only
  refine ok_t rfl (ok_nb (by omega) (ok_nb (by omega) (ok_t (by omega) ?_)))
  refine ok_b ((x_between (e := e) (N := N) (lo := 65) (hi := 90) h ha (by decide)).mono (fun y S1 z => ?_))
  obtain ⟨⟨a1, w1, z1, z2, z3⟩, z4, z5⟩ := z
  subst z1
  refine ok_nb (by omega) (ok_t (by omega) (ok_nb (by omega) ?_))
  rw [show ((0 : Int) * ((90 : Int) - 65 + 2) + (y + 1)) = y + 1 by omega, show ((0 : Int) + 1) = ((1 : Nat) : Int) by omega]
  have wr : pR G 65 90 q < 0 → pF 65 90 3 G q = pR G 65 90 q → Ok (El_Lending_readTail e N n 0 [65, 90, 3, y + 1, 1, ((1 : Nat) : Int)] [] (tp S a1 w1)) (fun y S1 => Tk S f len (pF 65 90 3 G q) (fun y => y = tlv G 65 27 q (nw (rng 65 90) G 3 q) 3) y S1 ∧ 0 ≤ y ∧ y ≤ 531441) := fun k1 k2 => by
    refine (l_tailLw (e := e) (N := N) h z2 k1 2 1 n (y + 1) 1 (by omega) (by omega) (by omega) (by omega) (by simp only [reduceIte]; omega)).mono (fun y2 S2 r => ?_)
    obtain ⟨r1, r2, r3⟩ := r
    refine ⟨⟨a1, w1, r1, by rw [k2]; exact z2, fun z => ?_⟩, r2, by omega⟩
    have := z2.right.2 k1
    omega
  by_cases c : q < 0
  · have e1 : pR G 65 90 q = q := by
      unfold pR
      rw [if_pos c]
    have e2 : pF 65 90 3 G q = q := by
      unfold pF
      rw [if_pos c]
    exact wr (by omega) (by rw [e1, e2])
  · have hs : nw (rng 65 90) G 3 q = if rng 65 90 (G q) = true then nw (rng 65 90) G 2 (q + 1) + 1 else 0 := by
      rw [nw]
    by_cases d : rng 65 90 (G q) = true
    · have d1 := rng_iff.1 d
      have e1 : pR G 65 90 q = q + 1 := by
        unfold pR
        rw [if_neg c, if_pos d1]
      rw [if_pos d] at hs
      rw [e1] at z2
      have w1e := z2.wm (by omega)
      have ye := z3 w1e
      subst w1e
      have nl := nw_le (rng 65 90) G 3 q
      have na := nw_all (P := rng 65 90) (G := G) 3 q
      have tb := tlvL_bd (G := G) (q := q) (m := nw (rng 65 90) G 3 q) na 3 (by omega)
      have key := l_tailL (e := e) (N := N) h (show 0 ≤ q by omega) 2 1 n a1 (by omega) (by omega) (by omega) (by omega) (by rw [show min 1 (nw (rng 65 90) G 3 q) = 1 by omega]; exact z2)
      have t1 : tlv G 65 27 q (nw (rng 65 90) G 3 q) 1 = y + 1 := by
        rw [tlv, tlv, if_pos (by omega), ye, show q + ((0 : Nat) : Int) = q by omega]
        omega
      rw [t1, if_pos (by omega)] at key
      have e2 : pF 65 90 3 G q = q + (nw (rng 65 90) G 3 q : Nat) := by
        unfold pF
        rw [if_neg c, if_neg (by omega)]
      rw [e2]
      refine key.mono (fun y2 S2 r => ?_)
      obtain ⟨a2, w2, r1, r2, r3⟩ := r
      have y2e := r3 (r2.wm (by omega))
      simp only [reduceIte, Nat.reduceEqDiff] at tb
      exact ⟨⟨a2, w2, r1, r2, r3⟩, by omega, by omega⟩
    · have d1 : ¬ (65 ≤ G q ∧ G q ≤ 90) := fun z => d (rng_iff.2 z)
      have e1 : pR G 65 90 q = -1 - q := by
        unfold pR
        rw [if_neg c, if_neg d1]
      rw [if_neg d] at hs
      have e2 : pF 65 90 3 G q = -1 - q := by
        unfold pF
        rw [if_neg c, if_pos hs]
      exact wr (by omega) (by rw [e1, e2])
end
section
-- cc
theorem nd_all {G : Int → Int} : ∀ (k : Nat) (p : Int) (j : Nat), j < nd G k p → dgt (G (p + j)) = true := fun k p j h => by
  rw [nd_nw] at h
  exact nw_all k p j h
theorem b_number {e : w_E} {N : Nat} {S : w_S} {f len a w q lo hi : Int} {G : Int → Int} (hN : 2001 ≤ N) (h : TX S f len G) (ha : At f len a w q) : Ok (E_Tape_takeNumber e N lo hi (tp S a w)) (fun y S1 => Tk S f len (pN G len lo hi q) (fun y => y = vl G q (nd G (len - q).toNat q) ∧ lo ≤ y ∧ y ≤ hi) y S1 ∧ 0 ≤ y ∧ y ≤ 99999) := by
  refine ((x_takeNumber (e := e) (N := N) (lo := lo) (hi := hi) hN h ha).and ?_).mono (fun y S1 z => z)
  obtain ⟨a1, a2, a3⟩ := ha
  have hh := h
  obtain ⟨g1, g2, g3, g4, g5, g6, g7⟩ := hh
  clear g7
  have z := l_num (e := e) (N := N) (lo := lo) (hi := hi) (w := w) h (p := a - f) (by omega) (by omega) (len - (a - f)).toNat 0 N (by omega) (by omega) (fun j hj => by omega)
  have n1 := nd_le G (len - (a - f)).toNat (a - f)
  rw [vl, show ((0 : Nat) : Int) = 0 from rfl, show f + (a - f) + 0 = a by omega, show f + (a - f) = a by omega, show a - f + 0 = a - f by omega, show 0 + nd G (len - (a - f)).toNat (a - f) = nd G (len - (a - f)).toNat (a - f) by omega] at z
  unfold E_Tape_takeNumber
  rw [tp4]
  refine ok_of z ?_
  have vb := vl_b (G := G) (p := a - f) (nd G (len - (a - f)).toNat (a - f)) (nd_all _ _)
  exact ⟨vb.1, vb.2.2.2.2.2.2⟩
/-- the parts of a call number's text -/
def mk0 (G : Int → Int) (len : Int) : Int := pN G len 0 999 0
def mk1 (G : Int → Int) (len : Int) : Int := if 0 ≤ mk0 G len ∧ G (mk0 G len) = 46 then pF 48 57 4 G (mk0 G len + 1) else mk0 G len
def mk2 (G : Int → Int) (len : Int) : Int := if 0 ≤ mk1 G len ∧ G (mk1 G len) = 32 then pF 65 90 3 G (mk1 G len + 1) else mk1 G len
def mk3 (G : Int → Int) (len : Int) : Int := pE G (mk2 G len)
def mkn (G : Int → Int) (len : Int) : Int := vl G 0 (nd G len.toNat 0)
def mkd (G : Int → Int) (len : Int) : Int := if 0 ≤ mk0 G len ∧ G (mk0 G len) = 46 then tlv G 48 11 (mk0 G len + 1) (nw (rng 48 57) G 4 (mk0 G len + 1)) 4 else 0
def mkl (G : Int → Int) (len : Int) : Int := if 0 ≤ mk1 G len ∧ G (mk1 G len) = 32 then tlv G 65 27 (mk1 G len + 1) (nw (rng 65 90) G 3 (mk1 G len + 1)) 3 else 0
def mkv (G : Int → Int) (len : Int) : Int := (mkn G len * 14641 + mkd G len) * 19683 + mkl G len
theorem pF_neg {lo hi q : Int} {M : Nat} {G : Int → Int} (h : q < 0) : pF lo hi M G q = q := by
  unfold pF
  rw [if_pos h]
theorem pF_ge {lo hi q : Int} {M : Nat} {G : Int → Int} (h : 0 ≤ pF lo hi M G q) : 0 ≤ q ∧ 1 ≤ nw (rng lo hi) G M q ∧ pF lo hi M G q = q + (nw (rng lo hi) G M q : Nat) := by
  unfold pF at h ⊢
  split at h
  · omega
  · rename_i c
    rw [if_neg c]
    split at h
    · omega
    · rename_i d
      rw [if_neg d]
      exact ⟨by omega, by omega, rfl⟩
theorem pF_bd {lo hi q len : Int} {M : Nat} {G : Int → Int} (hG : ∀ p, len ≤ p → G p = -1) (hlo : 0 ≤ lo) (h : Bd len q) : Bd len (pF lo hi M G q) := by
  unfold Bd at h ⊢
  unfold pF
  by_cases c : q < 0
  · rw [if_pos c]
    exact h
  · rw [if_neg c]
    have k := nw_len (P := rng lo hi) (G := G) (len := len) (fun p hp => by
      rw [hG p hp]
      unfold rng
      rw [decide_eq_false (by omega), Bool.false_and]) M q (by omega)
    split <;> omega
theorem pE_neg {G : Int → Int} {q : Int} (h : q < 0) : pE G q = q := by
  unfold pE
  rw [if_pos h]
theorem pE_ge {G : Int → Int} {q : Int} (h : 0 ≤ pE G q) : 0 ≤ q ∧ G q = -1 ∧ pE G q = q := by
  unfold pE at h ⊢
  split at h
  · omega
  · rename_i c
    rw [if_neg c]
    split at h
    · rename_i d
      rw [if_pos d]
      exact ⟨by omega, d, rfl⟩
    · omega
/-- what the class does at a tail's mark: it steps over the mark, or stays -/
theorem x_setMark {e : w_E} {N c : Nat} {S : w_S} {f len a w : Int} {G : Int → Int} (hN : 2001 ≤ N) (h : TX S f len G) (ha : At f len a w 0) (hc1 : 1 ≤ c) (hc : (c : Int) ≤ S.1 62 3) (hc2 : S.1 62 3 ≤ 200) : Ok (E_Lending_setMark e N (c : Int) (tp S a w)) (fun y S1 => if 0 ≤ mk3 G len then y = 1 ∧ ∃ a', S1 = w_put (tp S a' (-1)) 72 c (mkv G len) else y = -999 + mk3 G len ∧ ∃ a' w', S1 = tp S a' w') := by
  have lb := h.2.2.2.2.1
  have l0 := h.2.2.2.1
  have hG := h.e
  have b0 : Bd len (mk0 G len) := pN_bd ⟨by omega, by omega⟩
  have b1 : Bd len (mk1 G len) := by
    unfold mk1
    split
    · rename_i z
      refine pF_bd hG (by decide) ?_
      have := hG (mk0 G len)
      unfold Bd at b0 ⊢
      omega
    · exact b0
  have b2 : Bd len (mk2 G len) := by
    unfold mk2
    split
    · rename_i z
      refine pF_bd hG (by decide) ?_
      have := hG (mk1 G len)
      unfold Bd at b1 ⊢
      omega
    · exact b1
  have fin : ∀ (a2 w2 v : Int), At f len a2 w2 (mk2 G len) → (0 ≤ mk2 G len → v = mkv G len) → Ok ((E_Tape_takeEnd e N (tp S a2 w2)).bind (fun q440 => (if (q440.2.1 1 6) ≠ (-1) then (if w_nb ((-1000) - (q440.2.1 1 6)) = true then some ((-1000) - (q440.2.1 1 6), q440.2) else none) else (if w_ib (c : Int) 201 = true then some (1, (w_put q440.2 72 ((c : Int)).toNat v)) else none)))) (fun y S1 => if 0 ≤ mk3 G len then y = 1 ∧ ∃ a', S1 = w_put (tp S a' (-1)) 72 c (mkv G len) else y = -999 + mk3 G len ∧ ∃ a' w', S1 = tp S a' w') := by
    intro a2 w2 v ha2 hv
    refine tk_b (x_takeEnd h ha2) (fun y a3 w3 ha3 _ => ?_)
    dsimp only
    rw [tp6]
    have e3 : pE G (mk2 G len) = mk3 G len := rfl
    rw [e3] at ha3
    by_cases d : 0 ≤ mk3 G len
    · have w3e := ha3.wm d
      subst w3e
      refine ok_e (fun z => z rfl) (ok_ib (by omega) (ok_s ?_))
      rw [if_pos d]
      refine ⟨rfl, a3, ?_⟩
      rw [hv (pE_ge d).1, show ((c : Int)).toNat = c by omega]
    · obtain ⟨r1, r2⟩ := ha3.right.2 (by omega)
      have m3b : -2001 ≤ mk3 G len := by
        unfold Bd at b2
        rw [← e3]
        unfold pE
        split
        · omega
        · split <;> omega
      refine ok_t (by omega) (ok_nb (by omega) (ok_s ?_))
      rw [if_neg d]
      exact ⟨by omega, _, _, rfl⟩
  unfold E_Lending_setMark
  rw [show (tp S a w).1 62 3 = S.1 62 3 from congrFun (tpo S a w (by decide)) 3]
  refine ok_e (by omega) (ok_e (by omega) ?_)
  refine ok_b ((b_number (e := e) (N := N) (lo := 0) (hi := 999) hN h ha).mono (fun n S1 z => ?_))
  obtain ⟨⟨a0, w0, z1, z2, z3⟩, z4, z5⟩ := z
  subst z1
  have e0 : pN G len 0 999 0 = mk0 G len := rfl
  rw [e0] at z2
  have hnv : 0 ≤ mk0 G len → n = mkn G len := fun z => by
    have := (z3 (z2.wm z)).1
    rw [show len - 0 = len by omega] at this
    exact this
  dsimp only
  refine ok_b (ok_of (x_peek h z2) ?_)
  dsimp only
  rw [tp4, tp_p4, tp_p4, show a0 + 0 = a0 by omega]
  have tail : ∀ (a1 w1 d : Int), At f len a1 w1 (mk1 G len) → 0 ≤ d → d ≤ 14641 → (0 ≤ mk1 G len → n = mkn G len ∧ d = mkd G len) → Ok ((E_Tape_peek e N (tp S a1 w1)).bind (fun q439 => (if q439.1 ≠ 32 then (if w_nb ((q439.2.1 1 4) + 0) = true then (if -9223372036854775808 ≤ ((n * 14641 + d) * 19683) ∧ ((n * 14641 + d) * 19683) < 9223372036854775808 then (if -9223372036854775808 ≤ (((n * 14641 + d) * 19683) + 0) ∧ (((n * 14641 + d) * 19683) + 0) < 9223372036854775808 then ((E_Tape_takeEnd e N (w_put q439.2 1 4 ((q439.2.1 1 4) + 0))).bind (fun q440 => (if (q440.2.1 1 6) ≠ (-1) then (if w_nb ((-1000) - (q440.2.1 1 6)) = true then some ((-1000) - (q440.2.1 1 6), q440.2) else none) else (if w_ib (c : Int) 201 = true then some (1, (w_put q440.2 72 ((c : Int)).toNat (((n * 14641 + d) * 19683) + 0))) else none)))) else none) else none) else none) else (if w_nb ((q439.2.1 1 4) + 1) = true then (if -9223372036854775808 ≤ ((n * 14641 + d) * 19683) ∧ ((n * 14641 + d) * 19683) < 9223372036854775808 then ((E_Lending_readTail e N 65 90 3 (w_put q439.2 1 4 ((q439.2.1 1 4) + 1))).bind (fun q441 => (if -9223372036854775808 ≤ (((n * 14641 + d) * 19683) + q441.1) ∧ (((n * 14641 + d) * 19683) + q441.1) < 9223372036854775808 then ((E_Tape_takeEnd e N q441.2).bind (fun q445 => (if (q445.2.1 1 6) ≠ (-1) then (if w_nb ((-1000) - (q445.2.1 1 6)) = true then some ((-1000) - (q445.2.1 1 6), q445.2) else none) else (if w_ib (c : Int) 201 = true then some (1, (w_put q445.2 72 ((c : Int)).toNat (((n * 14641 + d) * 19683) + q441.1))) else none)))) else none))) else none) else none)))) (fun y S1 => if 0 ≤ mk3 G len then y = 1 ∧ ∃ a', S1 = w_put (tp S a' (-1)) 72 c (mkv G len) else y = -999 + mk3 G len ∧ ∃ a' w', S1 = tp S a' w') := by
    intro a1 w1 d ha1 d0 d1 hd
    have f0 := h.2.2.1
    have f1 := h.2.2.2.2.2.1
    have g1 := ha1.1
    have g2 := ha1.2.1
    refine ok_b (ok_of (x_peek h ha1) ?_)
    dsimp only
    rw [tp4, tp_p4, tp_p4, show a1 + 0 = a1 by omega]
    by_cases c1 : 0 ≤ mk1 G len ∧ G (mk1 G len) = 32
    · have hlt := tx_at h c1.1
      have r1 := ha1.right.1 c1.1
      rw [if_neg (by omega : ¬ mk1 G len < 0)]
      refine ok_e (by omega) (ok_nb (by omega) (ok_t (by omega) ?_))
      have m2 : mk2 G len = pF 65 90 3 G (mk1 G len + 1) := by
        unfold mk2
        rw [if_pos c1]
      refine ok_b ((x_tailL (e := e) (N := N) hN h (show At f len (a1 + 1) w1 (mk1 G len + 1) from ⟨by omega, by omega, Or.inl ⟨by omega, by omega⟩⟩)).mono (fun y S1 z => ?_))
      obtain ⟨⟨a2, w2, t1, t2, t3⟩, t4, t5⟩ := z
      subst t1
      rw [← m2] at t2
      refine ok_t (by omega) (fin a2 w2 _ t2 (fun z => ?_))
      have k1 := t3 (t2.wm z)
      unfold mkv mkl
      rw [if_pos c1, ← k1, (hd c1.1).1, (hd c1.1).2]
    · have m2 : mk2 G len = mk1 G len := by
        unfold mk2
        rw [if_neg c1]
      have pk : (if mk1 G len < 0 then (-1 : Int) else G (mk1 G len)) ≠ 32 := by
        split
        · decide
        · omega
      refine ok_t pk (ok_nb (by omega) (ok_t (by omega) (ok_t (by omega) ?_)))
      rw [← m2] at ha1
      refine fin a1 w1 _ ha1 (fun z => ?_)
      rw [m2] at z
      unfold mkv mkl
      rw [if_neg c1, (hd z).1, (hd z).2]
  have f0 := h.2.2.1
  have f1 := h.2.2.2.2.2.1
  have g1 := z2.1
  have g2 := z2.2.1
  by_cases c1 : 0 ≤ mk0 G len ∧ G (mk0 G len) = 46
  · have hlt := tx_at h c1.1
    have r1 := z2.right.1 c1.1
    rw [if_neg (by omega : ¬ mk0 G len < 0)]
    refine ok_e (by omega) (ok_nb (by omega) (ok_t (by omega) ?_))
    have m1 : mk1 G len = pF 48 57 4 G (mk0 G len + 1) := by
      unfold mk1
      rw [if_pos c1]
    refine ok_b ((x_tailD (e := e) (N := N) hN h (show At f len (a0 + 1) w0 (mk0 G len + 1) from ⟨by omega, by omega, Or.inl ⟨by omega, by omega⟩⟩)).mono (fun y S1 z => ?_))
    obtain ⟨⟨a1, w1, t1, t2, t3⟩, t4, t5⟩ := z
    subst t1
    rw [← m1] at t2
    refine ok_t (by omega) ?_
    refine tail a1 w1 y t2 t4 t5 (fun z => ⟨hnv c1.1, ?_⟩)
    have k1 := t3 (t2.wm z)
    unfold mkd
    rw [if_pos c1, ← k1]
  · have m1 : mk1 G len = mk0 G len := by
      unfold mk1
      rw [if_neg c1]
    have pk : (if mk0 G len < 0 then (-1 : Int) else G (mk0 G len)) ≠ 46 := by
      split
      · decide
      · omega
    refine ok_t pk (ok_nb (by omega) (ok_t (by omega) (ok_t (by omega) ?_)))
    rw [← m1] at z2
    refine tail a0 w0 0 z2 (by omega) (by omega) (fun z => ?_)
    rw [m1] at z
    refine ⟨hnv z, ?_⟩
    unfold mkd
    rw [if_neg c1]
end
section
-- cd
/-- the reference's copying of letters, then of digits -/
theorem l_c3 {e : w_E} {N c : Nat} {E Lp : Int} (hc : c ≤ 200) (hE : E ≤ 2000) (hL : 0 ≤ Lp) (hL2 : Lp ≤ E) : ∀ (k j nf : Nat) (R : w_S), j + k = 4 → k < nf → Ok (El_R_callText e N nf 3 [(c : Int), E, Lp, (j : Int)] [] R) (fun y R1 => y = E ∧ frm [182] [] [] R R1 ∧ (∀ u, j ≤ u → u < 4 → R1.1 182 (4 * c + u) = if Lp + 1 + u < E then w_b (R.1 130 (Lp + 1 + u).toNat) else 0) ∧ ∀ u, (u < 4 * c + j ∨ 4 * c + 4 ≤ u) → R1.1 182 u = R.1 182 u)
  | _, _, 0, _, _, h => by omega
  | 0, j, nf + 1, R, h1, h2 => by
    rw [El_R_callText]
    exact ok_t (by omega) (ok_s ⟨rfl, frm.refl _ _ _ _, fun u a b => by omega, fun _ _ => rfl⟩)
  | k + 1, j, nf + 1, R, h1, h2 => by
    have ih := fun v => l_c3 (e := e) (N := N) (c := c) hc hE hL hL2 k (j + 1) nf (w_put R 182 (4 * c + j) v) (by omega) (by omega)
    have nx : ∀ v, v = (if Lp + 1 + j < E then w_b (R.1 130 (Lp + 1 + j).toNat) else 0) → Ok (El_R_callText e N nf 3 [(c : Int), E, Lp, (j : Int) + 1] [] (w_put R 182 (4 * (c : Int) + j).toNat v)) (fun y R1 => y = E ∧ frm [182] [] [] R R1 ∧ (∀ u, j ≤ u → u < 4 → R1.1 182 (4 * c + u) = if Lp + 1 + u < E then w_b (R.1 130 (Lp + 1 + u).toNat) else 0) ∧ ∀ u, (u < 4 * c + j ∨ 4 * c + 4 ≤ u) → R1.1 182 u = R.1 182 u) := by
      intro v hv
      have i1 := ih v
      rw [show ((j + 1 : Nat) : Int) = (j : Int) + 1 by omega] at i1
      rw [show (4 * (c : Int) + j).toNat = 4 * c + j by omega]
      refine i1.mono (fun y R1 z => ?_)
      obtain ⟨z1, z2, z3, z4⟩ := z
      refine ⟨z1, frm.trans (by repeat (first | exact frm.refl _ _ _ _ | refine frm.put ?_ rfl | refine frm.puto ?_ rfl rfl)) z2, fun u a b => ?_, fun u hu => ?_⟩
      · by_cases d : u = j
        · subst d
          rw [z4 _ (by omega)]
          simp only [w_put_r, reduceIte, Nat.reduceEqDiff, pt_at]
          exact hv
        · rw [z3 u (by omega) b]
          simp only [w_put_r, reduceIte, Nat.reduceEqDiff, pt_at]
      · rw [z4 u (by omega)]
        simp only [w_put_r, reduceIte, Nat.reduceEqDiff, pt_at]
        rw [if_neg (by omega)]
    rw [El_R_callText]
    refine ok_e (by omega) (ok_nb (by omega) (ok_nb (by omega) (ok_nb (by omega) (ok_nb (by omega) ?_))))
    by_cases d : E ≤ Lp + 1 + j
    · exact ok_t d (ok_ib (by omega) (ok_nb (by omega) (nx _ (by rw [if_neg (by omega)]; decide))))
    · exact ok_e d (ok_ib (by omega) (ok_ib (by omega) (ok_nb (by omega) (nx _ (by rw [if_pos (by omega)])))))
theorem l_c0 {e : w_E} {N c : Nat} {E D Lp : Int} (hc : c ≤ 200) (hE : E ≤ 2000) (hD : 0 ≤ D) (hD2 : D ≤ Lp) (hL2 : Lp ≤ E) : ∀ (k j nf : Nat) (R : w_S), j + k = 5 → k + 5 < nf → Ok (El_R_callText e N nf 0 [(c : Int), E, D, Lp, (j : Int)] [] R) (fun y R1 => y = E ∧ frm [181, 182] [] [] R R1 ∧ (∀ u, j ≤ u → u < 5 → R1.1 181 (5 * c + u) = if D + 1 + u < Lp then w_b (R.1 130 (D + 1 + u).toNat) else 0) ∧ (∀ u, (u < 5 * c + j ∨ 5 * c + 5 ≤ u) → R1.1 181 u = R.1 181 u) ∧ (∀ u, u < 4 → R1.1 182 (4 * c + u) = if Lp + 1 + u < E then w_b (R.1 130 (Lp + 1 + u).toNat) else 0) ∧ ∀ u, (u < 4 * c ∨ 4 * c + 4 ≤ u) → R1.1 182 u = R.1 182 u)
  | _, _, 0, _, _, h => by omega
  | 0, j, nf + 1, R, h1, h2 => by
    rw [El_R_callText]
    refine ok_t (by omega) ?_
    refine (l_c3 (e := e) (N := N) (c := c) (E := E) (Lp := Lp) hc hE (by omega) hL2 4 0 nf R (by omega) (by omega)).mono (fun y R1 z => ?_)
    obtain ⟨z1, z2, z3, z4⟩ := z
    have k1 := z2.2.1 181 rfl rfl
    exact ⟨z1, z2.weak (by decide), fun u a b => by omega, fun u _ => by rw [k1], fun u hu => z3 u (by omega) hu, fun u hu => z4 u (by omega)⟩
  | k + 1, j, nf + 1, R, h1, h2 => by
    have ih := fun v => l_c0 (e := e) (N := N) (c := c) hc hE hD hD2 hL2 k (j + 1) nf (w_put R 181 (5 * c + j) v) (by omega) (by omega)
    have nx : ∀ v, v = (if D + 1 + j < Lp then w_b (R.1 130 (D + 1 + j).toNat) else 0) → Ok (El_R_callText e N nf 0 [(c : Int), E, D, Lp, (j : Int) + 1] [] (w_put R 181 (5 * (c : Int) + j).toNat v)) (fun y R1 => y = E ∧ frm [181, 182] [] [] R R1 ∧ (∀ u, j ≤ u → u < 5 → R1.1 181 (5 * c + u) = if D + 1 + u < Lp then w_b (R.1 130 (D + 1 + u).toNat) else 0) ∧ (∀ u, (u < 5 * c + j ∨ 5 * c + 5 ≤ u) → R1.1 181 u = R.1 181 u) ∧ (∀ u, u < 4 → R1.1 182 (4 * c + u) = if Lp + 1 + u < E then w_b (R.1 130 (Lp + 1 + u).toNat) else 0) ∧ ∀ u, (u < 4 * c ∨ 4 * c + 4 ≤ u) → R1.1 182 u = R.1 182 u) := by
      intro v hv
      have i1 := ih v
      rw [show ((j + 1 : Nat) : Int) = (j : Int) + 1 by omega] at i1
      rw [show (5 * (c : Int) + j).toNat = 5 * c + j by omega]
      refine i1.mono (fun y R1 z => ?_)
      obtain ⟨z1, z2, z3, z4, z5, z6⟩ := z
      refine ⟨z1, frm.trans (by repeat (first | exact frm.refl _ _ _ _ | refine frm.put ?_ rfl | refine frm.puto ?_ rfl rfl)) z2, fun u a b => ?_, fun u hu => ?_, fun u hu => ?_, fun u hu => ?_⟩
      · by_cases d : u = j
        · subst d
          rw [z4 _ (by omega)]
          simp only [w_put_r, reduceIte, Nat.reduceEqDiff, pt_at]
          exact hv
        · rw [z3 u (by omega) b]
          simp only [w_put_r, reduceIte, Nat.reduceEqDiff, pt_at]
      · rw [z4 u (by omega)]
        simp only [w_put_r, reduceIte, Nat.reduceEqDiff, pt_at]
        rw [if_neg (by omega)]
      · rw [z5 u hu]
        simp only [w_put_r, reduceIte, Nat.reduceEqDiff, pt_at]
      · rw [z6 u hu]
        simp only [w_put_r, reduceIte, Nat.reduceEqDiff, pt_at]
    rw [El_R_callText]
    refine ok_e (by omega) (ok_nb (by omega) (ok_nb (by omega) (ok_nb (by omega) (ok_nb (by omega) ?_))))
    by_cases d : Lp ≤ D + 1 + j
    · exact ok_t d (ok_ib (by omega) (ok_nb (by omega) (nx _ (by rw [if_neg (by omega)]; decide))))
    · exact ok_e d (ok_ib (by omega) (ok_ib (by omega) (ok_nb (by omega) (nx _ (by rw [if_pos (by omega)])))))
/-- what a call number's text leaves in the reference -/
def Cm (R : w_S) (c : Nat) (v D Lp E : Int) (R1 : w_S) : Prop := frm [180, 181, 182] [] [] R R1 ∧ R1.1 180 c = v ∧ (∀ u, u ≠ c → R1.1 180 u = R.1 180 u) ∧ (∀ u, u < 5 → R1.1 181 (5 * c + u) = if D + 1 + u < Lp then w_b (R.1 130 (D + 1 + u).toNat) else 0) ∧ (∀ u, (u < 5 * c ∨ 5 * c + 5 ≤ u) → R1.1 181 u = R.1 181 u) ∧ (∀ u, u < 4 → R1.1 182 (4 * c + u) = if Lp + 1 + u < E then w_b (R.1 130 (Lp + 1 + u).toNat) else 0) ∧ ∀ u, (u < 4 * c ∨ 4 * c + 4 ≤ u) → R1.1 182 u = R.1 182 u
theorem l_cE {e : w_E} {N c nf : Nat} {len v E D Lp : Int} {G : Int → Int} {R : w_S} (hR : TR R len G) (hf : 12 ≤ nf) (hc : c ≤ 200) (hD : 0 ≤ D) (hD2 : D ≤ Lp) (hL2 : Lp ≤ E) (hE : E ≤ len) : Ok (if E = R.1 129 2 then (if w_ib (c : Int) 201 = true then El_R_callText e N nf 0 [(c : Int), E, D, Lp, 0] [] (w_put R 180 ((c : Int)).toNat v) else none) else (if w_nb (-1 - E) = true then some (-1 - E, R) else none)) (fun y R1 => y = pE G E ∧ (y < 0 → R1 = R) ∧ (0 ≤ y → Cm R c v D Lp E R1)) := by
  have lb := hR.2.2.1
  rw [hR.1]
  have ge := (hR.2.2.2 E (by omega))
  by_cases d : E = len
  · have pe : pE G E = E := by
      unfold pE
      rw [if_neg (by omega), if_pos (ge.2 (by omega))]
    refine ok_t d (ok_ib (by omega) ?_)
    rw [show ((c : Int)).toNat = c by omega]
    refine (l_c0 (e := e) (N := N) (c := c) (E := E) (D := D) (Lp := Lp) hc (by omega) hD hD2 hL2 5 0 nf (w_put R 180 c v) (by omega) (by omega)).mono (fun y R1 z => ?_)
    obtain ⟨z1, z2, z3, z4, z5, z6⟩ := z
    have k1 := z2.2.1 180 rfl rfl
    refine ⟨by rw [pe, z1], fun z => by omega, fun _ => ⟨frm.trans (by repeat (first | exact frm.refl _ _ _ _ | refine frm.put ?_ rfl | refine frm.puto ?_ rfl rfl)) (z2.weak (by decide)), ?_, fun u hu => ?_, fun u hu => ?_, fun u hu => ?_, fun u hu => ?_, fun u hu => ?_⟩⟩
    · rw [k1]
      simp only [w_put_r, reduceIte, Nat.reduceEqDiff, pt_at]
    · rw [k1]
      simp only [w_put_r, reduceIte, Nat.reduceEqDiff, pt_at]
      rw [if_neg hu]
    · rw [z3 u (by omega) hu]
      simp only [w_put_r, reduceIte, Nat.reduceEqDiff, pt_at]
    · rw [z4 u (by omega)]
      simp only [w_put_r, reduceIte, Nat.reduceEqDiff, pt_at]
    · rw [z5 u hu]
      simp only [w_put_r, reduceIte, Nat.reduceEqDiff, pt_at]
    · rw [z6 u hu]
      simp only [w_put_r, reduceIte, Nat.reduceEqDiff, pt_at]
  · have pe : pE G E = -1 - E := by
      unfold pE
      have := ge.1 (by omega)
      rw [if_neg (by omega), if_neg (by omega)]
    exact ok_e d (ok_nb (by omega) (ok_s ⟨pe.symm, fun _ => rfl, fun z => by omega⟩))
theorem l_c1 {e : w_E} {N c : Nat} {len v D Lp : Int} {G : Int → Int} {R : w_S} (hR : TR R len G) (hc : c ≤ 200) (hD : 0 ≤ D) (hD2 : D ≤ Lp) : ∀ (k j nf : Nat), j + k = 3 → k + 14 ≤ nf → Lp + 1 + j ≤ len → (∀ i : Nat, i < j → rng 65 90 (G (Lp + 1 + i)) = true) → Ok (El_R_callText e N nf 1 [(c : Int), Lp + 1 + j, v, D, Lp] [] R) (fun y R1 => y = (if j + nw (rng 65 90) G k (Lp + 1 + j) = 0 then -1 - (Lp + 1) else pE G (Lp + 1 + (j + nw (rng 65 90) G k (Lp + 1 + j) : Nat))) ∧ (y < 0 → R1 = R) ∧ (0 ≤ y → Cm R c v D Lp (Lp + 1 + (j + nw (rng 65 90) G k (Lp + 1 + j) : Nat)) R1))
  | k, j, 0, _, h, _, _ => by omega
  | k, j, nf + 1, hk, hf, hl, hj => by
    have lb := hR.2.2.1
    have hx := x_at (e := e) (N := N) hR (show 0 ≤ Lp + 1 + j by omega)
    have hb := hR.b (show 0 ≤ Lp + 1 + j by omega)
    by_cases d : rng 65 90 (G (Lp + 1 + j)) = true
    · have d1 := rng_iff.1 d
      have hlt := tr_lt hR (show 0 ≤ Lp + 1 + j by omega) (by omega)
      rw [El_R_callText]
      refine ok_b (ok_of hx ?_)
      dsimp only
      refine ok_e (by omega) (ok_b (ok_of hx ?_))
      dsimp only
      refine ok_e (by omega) (ok_nb (by omega) ?_)
      cases k with
      | zero =>
        have : j = 3 := by omega
        subst this
        have pe : pE G (Lp + 1 + ((3 : Nat) : Int)) = -1 - (Lp + 1 + ((3 : Nat) : Int)) := by
          unfold pE
          rw [if_neg (by omega), if_neg (by omega)]
        rw [nw, show 3 + 0 = 3 from rfl, if_neg (by omega : ¬ (3 : Nat) = 0), pe]
        exact ok_e (by omega) (ok_nb (by omega) (ok_s ⟨rfl, fun _ => rfl, fun z => by omega⟩))
      | succ k =>
        have ih := l_c1 (e := e) (N := N) (c := c) (v := v) hR hc hD hD2 k (j + 1) nf (by omega) (by omega) (by omega) (fun i hi => by
          rcases Nat.lt_or_ge i j with g | g
          · exact hj i g
          · rw [show i = j by omega]
            exact d)
        have e1 : j + nw (rng 65 90) G (k + 1) (Lp + 1 + j) = j + 1 + nw (rng 65 90) G k (Lp + 1 + ((j + 1 : Nat) : Int)) := by
          rw [nw, if_pos d, show Lp + 1 + ((j + 1 : Nat) : Int) = Lp + 1 + j + 1 by omega]
          omega
        rw [e1, show Lp + 1 + (j : Int) + 1 = Lp + 1 + ((j + 1 : Nat) : Int) by omega]
        exact ok_t (by omega) (ok_nb (by omega) ih)
    · have d1 : ¬ (65 ≤ G (Lp + 1 + j) ∧ G (Lp + 1 + j) ≤ 90) := fun z => d (rng_iff.2 z)
      have e1 : nw (rng 65 90) G k (Lp + 1 + j) = 0 := by
        cases k with
        | zero => rfl
        | succ k => rw [nw, if_neg d]
      rw [e1, show j + 0 = j from rfl]
      have bot : Ok (if w_nb (Lp + 1 + (j : Int) - Lp) = true then (if Lp + 1 + (j : Int) - Lp ≠ 1 then (if Lp + 1 + (j : Int) = R.1 129 2 then (if w_ib (c : Int) 201 = true then El_R_callText e N nf 0 [(c : Int), Lp + 1 + (j : Int), D, Lp, 0] [] (w_put R 180 ((c : Int)).toNat v) else none) else (if w_nb (-1 - (Lp + 1 + (j : Int))) = true then some (-1 - (Lp + 1 + (j : Int)), R) else none)) else (if w_nb (-1 - (Lp + 1 + (j : Int))) = true then some (-1 - (Lp + 1 + (j : Int)), R) else none)) else none) (fun y R1 => y = (if j = 0 then -1 - (Lp + 1) else pE G (Lp + 1 + (j : Nat))) ∧ (y < 0 → R1 = R) ∧ (0 ≤ y → Cm R c v D Lp (Lp + 1 + (j : Nat)) R1)) := by
        refine ok_nb (by omega) ?_
        by_cases j0 : j = 0
        · subst j0
          exact ok_e (by omega) (ok_nb (by omega) (ok_s ⟨by rw [if_pos rfl]; omega, fun _ => rfl, fun z => by omega⟩))
        · refine ok_t (by omega) ?_
          have key := l_cE (e := e) (N := N) (c := c) (nf := nf) (v := v) (E := Lp + 1 + (j : Int)) (D := D) (Lp := Lp) hR (by omega) hc hD hD2 (by omega) (by omega)
          refine key.mono (fun y R1 z => ⟨?_, z.2.1, z.2.2⟩)
          rw [if_neg j0]
          exact z.1
      rw [El_R_callText]
      refine ok_b (ok_of hx ?_)
      dsimp only
      by_cases d2 : G (Lp + 1 + j) < 65
      · exact ok_t d2 bot
      · refine ok_e d2 (ok_b (ok_of hx ?_))
        dsimp only
        exact ok_t (by omega) bot
end
section
-- ce
/-- the letters behind a place -/
def L2 (G : Int → Int) (p : Int) : Int := if G p = 32 then pF 65 90 3 G (p + 1) else p
theorem l_cA {e : w_E} {N c nf : Nat} {len v D p : Int} {G : Int → Int} {R : w_S} (hR : TR R len G) (hc : c ≤ 200) (hD : 0 ≤ D) (hD2 : D ≤ p) (hf : 17 ≤ nf) (hl : p ≤ len) : Ok ((E_R_at e N p R).bind (fun q890 => (if q890.1 ≠ 32 then (if p = (q890.2.1 129 2) then (if w_ib (c : Int) 201 = true then El_R_callText e N nf 0 [(c : Int), p, D, p, 0] [] (w_put q890.2 180 ((c : Int)).toNat v) else none) else (if w_nb (-1 - p) = true then some (-1 - p, q890.2) else none)) else (if w_nb (p + 1) = true then El_R_callText e N nf 1 [(c : Int), p + 1, v, D, p] [] q890.2 else none)))) (fun y R1 => y = pE G (L2 G p) ∧ (y < 0 → R1 = R) ∧ (0 ≤ y → Cm R c v D p (L2 G p) R1)) := by
  have lb := hR.2.2.1
  refine ok_b (ok_of (x_at hR (by omega)) ?_)
  dsimp only
  unfold L2
  by_cases d : G p = 32
  · have hlt := tr_lt hR (show 0 ≤ p by omega) (by omega)
    rw [if_pos d]
    refine ok_e (by omega) (ok_nb (by omega) ?_)
    have key := l_c1 (e := e) (N := N) (c := c) (v := v) (D := D) (Lp := p) hR hc hD hD2 3 0 nf (by omega) (by omega) (by omega) (fun i hi => by omega)
    rw [show p + 1 + ((0 : Nat) : Int) = p + 1 by omega, Nat.zero_add] at key
    refine key.mono (fun y R1 z => ?_)
    obtain ⟨z1, z2, z3⟩ := z
    unfold pF
    rw [if_neg (by omega)]
    by_cases m0 : nw (rng 65 90) G 3 (p + 1) = 0
    · rw [if_pos m0] at z1 ⊢
      refine ⟨by rw [pE_neg (by omega), z1], z2, fun z => by omega⟩
    · rw [if_neg m0] at z1 ⊢
      exact ⟨z1, z2, z3⟩
  · rw [if_neg d]
    refine ok_t d ?_
    exact l_cE hR (by omega) hc hD hD2 (by omega) hl
theorem l_c2 {e : w_E} {N c : Nat} {len v D : Int} {G : Int → Int} {R : w_S} (hR : TR R len G) (hc : c ≤ 200) (hD : 0 ≤ D) : ∀ (k j nf : Nat), j + k = 4 → k + 18 ≤ nf → D + 1 + j ≤ len → (∀ i : Nat, i < j → rng 48 57 (G (D + 1 + i)) = true) → Ok (El_R_callText e N nf 2 [(c : Int), D + 1 + j, v, D] [] R) (fun y R1 => y = (if j + nw (rng 48 57) G k (D + 1 + j) = 0 then -1 - (D + 1) else pE G (L2 G (D + 1 + (j + nw (rng 48 57) G k (D + 1 + j) : Nat)))) ∧ (y < 0 → R1 = R) ∧ (0 ≤ y → Cm R c v D (D + 1 + (j + nw (rng 48 57) G k (D + 1 + j) : Nat)) (L2 G (D + 1 + (j + nw (rng 48 57) G k (D + 1 + j) : Nat))) R1))
  | k, j, 0, _, h, _, _ => by omega
  | k, j, nf + 1, hk, hf, hl, hj => by
    have lb := hR.2.2.1
    have hx := x_at (e := e) (N := N) hR (show 0 ≤ D + 1 + j by omega)
    have hb := hR.b (show 0 ≤ D + 1 + j by omega)
    by_cases d : rng 48 57 (G (D + 1 + j)) = true
    · have d1 := rng_iff.1 d
      have hlt := tr_lt hR (show 0 ≤ D + 1 + j by omega) (by omega)
      rw [El_R_callText]
      refine ok_b (ok_of hx ?_)
      dsimp only
      refine ok_e (by omega) (ok_e (by omega) (ok_nb (by omega) ?_))
      cases k with
      | zero =>
        have : j = 4 := by omega
        subst this
        have pe : pE G (L2 G (D + 1 + ((4 : Nat) : Int))) = -1 - (D + 1 + ((4 : Nat) : Int)) := by
          unfold L2
          rw [if_neg (by omega)]
          unfold pE
          rw [if_neg (by omega), if_neg (by omega)]
        rw [nw, show 4 + 0 = 4 from rfl, if_neg (by omega : ¬ (4 : Nat) = 0), pe]
        exact ok_e (by omega) (ok_nb (by omega) (ok_s ⟨rfl, fun _ => rfl, fun z => by omega⟩))
      | succ k =>
        have ih := l_c2 (e := e) (N := N) (c := c) (v := v) hR hc hD k (j + 1) nf (by omega) (by omega) (by omega) (fun i hi => by
          rcases Nat.lt_or_ge i j with g | g
          · exact hj i g
          · rw [show i = j by omega]
            exact d)
        have e1 : j + nw (rng 48 57) G (k + 1) (D + 1 + j) = j + 1 + nw (rng 48 57) G k (D + 1 + ((j + 1 : Nat) : Int)) := by
          rw [nw, if_pos d, show D + 1 + ((j + 1 : Nat) : Int) = D + 1 + j + 1 by omega]
          omega
        rw [e1, show D + 1 + (j : Int) + 1 = D + 1 + ((j + 1 : Nat) : Int) by omega]
        exact ok_t (by omega) (ok_nb (by omega) ih)
    · have d1 : ¬ (48 ≤ G (D + 1 + j) ∧ G (D + 1 + j) ≤ 57) := fun z => d (rng_iff.2 z)
      have e1 : nw (rng 48 57) G k (D + 1 + j) = 0 := by
        cases k with
        | zero => rfl
        | succ k => rw [nw, if_neg d]
      rw [e1, show j + 0 = j from rfl]
      have key := l_cA (e := e) (N := N) (c := c) (nf := nf) (v := v) (D := D) (p := D + 1 + (j : Int)) hR hc hD (by omega) (by omega) (by omega)
      rw [El_R_callText]
      refine ok_b (ok_of hx ?_)
      dsimp only
      by_cases j0 : j = 0
      · subst j0
        have fin : (fun y R1 => y = (if (0 : Nat) = 0 then -1 - (D + 1) else pE G (L2 G (D + 1 + ((0 : Nat) : Int)))) ∧ (y < 0 → R1 = R) ∧ (0 ≤ y → Cm R c v D (D + 1 + ((0 : Nat) : Int)) (L2 G (D + 1 + ((0 : Nat) : Int))) R1)) (-1 - (D + 1 + ((0 : Nat) : Int))) R := ⟨by rw [if_pos rfl]; omega, fun _ => rfl, fun z => by omega⟩
        by_cases d2 : G (D + 1 + ((0 : Nat) : Int)) < 48
        · exact ok_t d2 (ok_nb (by omega) (ok_e (by omega) (ok_nb (by omega) (ok_s fin))))
        · exact ok_e d2 (ok_t (by omega) (ok_nb (by omega) (ok_e (by omega) (ok_nb (by omega) (ok_s fin)))))
      · have key2 := key.mono (Q := fun y R1 => y = (if j = 0 then -1 - (D + 1) else pE G (L2 G (D + 1 + (j : Int)))) ∧ (y < 0 → R1 = R) ∧ (0 ≤ y → Cm R c v D (D + 1 + (j : Int)) (L2 G (D + 1 + (j : Int))) R1)) (fun y R1 z => ⟨by rw [if_neg j0]; exact z.1, z.2.1, z.2.2⟩)
        by_cases d2 : G (D + 1 + j) < 48
        · exact ok_t d2 (ok_nb (by omega) (ok_t (by omega) key2))
        · exact ok_e d2 (ok_t (by omega) (ok_nb (by omega) (ok_t (by omega) key2)))
theorem x_callText {e : w_E} {N c : Nat} {len : Int} {G : Int → Int} {R : w_S} (hN : 2001 ≤ N) (hR : TR R len G) (hc : c ≤ 200) : Ok (E_R_callText e N (c : Int) R) (fun y R1 => y = mk3 G len ∧ frm [180, 181, 182] [129] [(129, 3)] R R1 ∧ (y < 0 → frm [] [129] [(129, 3)] R R1) ∧ (0 ≤ y → ∃ R0, R0.1 130 = R.1 130 ∧ R0.1 180 = R.1 180 ∧ R0.1 181 = R.1 181 ∧ R0.1 182 = R.1 182 ∧ Cm R0 c (mkn G len) (mk0 G len) (mk1 G len) (mk2 G len) R1)) := by
  have lb := hR.2.2.1
  have l0 := hR.2.1
  have hn := x_numeral (e := e) (N := N) (lo := 0) (hi := 999) hN hR (show (0 : Int) ≤ 0 by omega) l0
  have pb : Bd len (mk0 G len) := pN_bd ⟨by omega, by omega⟩
  have e0 : pN G len 0 999 0 = mk0 G len := rfl
  have v0 : vl G 0 (nd G (len - 0).toNat 0) = mkn G len := by
    rw [show len - 0 = len by omega]
    rfl
  rw [e0, v0] at hn
  unfold Bd at pb
  unfold E_R_callText
  by_cases d : 0 ≤ mk0 G len
  · rw [if_pos d] at hn
    refine ok_b (ok_of hn ?_)
    dsimp only
    refine ok_t d ?_
    have hR1 : TR (w_put R 129 3 (mkn G len)) len G := hR.put (Or.inr rfl) (by decide)
    rw [show (w_put R 129 3 (mkn G len)).1 129 3 = mkn G len by simp only [w_put_r, reduceIte, Nat.reduceEqDiff, pt_at]]
    refine ok_b (ok_of (x_at hR1 d) ?_)
    dsimp only
    have wrap : ∀ y R1, y = mk3 G len → (y < 0 → R1 = w_put R 129 3 (mkn G len)) → (0 ≤ y → Cm (w_put R 129 3 (mkn G len)) c (mkn G len) (mk0 G len) (mk1 G len) (mk2 G len) R1) → (fun y R1 => y = mk3 G len ∧ frm [180, 181, 182] [129] [(129, 3)] R R1 ∧ (y < 0 → frm [] [129] [(129, 3)] R R1) ∧ (0 ≤ y → ∃ R0, R0.1 130 = R.1 130 ∧ R0.1 180 = R.1 180 ∧ R0.1 181 = R.1 181 ∧ R0.1 182 = R.1 182 ∧ Cm R0 c (mkn G len) (mk0 G len) (mk1 G len) (mk2 G len) R1)) y R1 := by
      intro y R1 h1 h2 h3
      have fr : frm [] [129] [(129, 3)] R (w_put R 129 3 (mkn G len)) := by repeat (first | exact frm.refl _ _ _ _ | refine frm.put ?_ rfl | refine frm.puto ?_ rfl rfl)
      refine ⟨h1, ?_, fun z => by rw [h2 z]; exact fr, fun z => ⟨w_put R 129 3 (mkn G len), by simp only [w_put_r, reduceIte, Nat.reduceEqDiff, pt_at], by simp only [w_put_r, reduceIte, Nat.reduceEqDiff, pt_at], by simp only [w_put_r, reduceIte, Nat.reduceEqDiff, pt_at], by simp only [w_put_r, reduceIte, Nat.reduceEqDiff, pt_at], h3 z⟩⟩
      rcases Int.lt_or_le y 0 with z | z
      · rw [h2 z]
        exact fr.weak (by decide)
      · exact (fr.weak (by decide)).trans ((h3 z).1.weak (by decide))
    by_cases c1 : G (mk0 G len) = 46
    · have hlt := tr_lt hR d (by omega)
      have key := l_c2 (e := e) (N := N) (c := c) (v := mkn G len) (D := mk0 G len) hR1 hc d 4 0 N (by omega) (by omega) (by omega) (fun i hi => by omega)
      rw [show mk0 G len + 1 + ((0 : Nat) : Int) = mk0 G len + 1 by omega, Nat.zero_add] at key
      have m1 : mk1 G len = pF 48 57 4 G (mk0 G len + 1) := by
        unfold mk1
        rw [if_pos ⟨d, c1⟩]
      have m2 : 0 ≤ mk1 G len → mk2 G len = L2 G (mk1 G len) := fun z => by
        unfold mk2 L2
        by_cases g : G (mk1 G len) = 32
        · rw [if_pos ⟨z, g⟩, if_pos g]
        · rw [if_neg (fun k => g k.2), if_neg g]
      have m2n : mk1 G len < 0 → mk3 G len = mk1 G len := fun z => by
        have : mk2 G len = mk1 G len := by
          unfold mk2
          rw [if_neg (by omega)]
        unfold mk3
        rw [this, pE_neg z]
      refine ok_e (by omega) (ok_nb (by omega) (key.mono (fun y R1 z => ?_)))
      obtain ⟨z1, z2, z3⟩ := z
      by_cases m0 : nw (rng 48 57) G 4 (mk0 G len + 1) = 0
      · have m1e : mk1 G len = -1 - (mk0 G len + 1) := by
          rw [m1]
          unfold pF
          rw [if_neg (by omega), if_pos m0]
        rw [if_pos m0] at z1
        exact wrap y R1 (by rw [m2n (by omega), m1e, z1]) z2 (fun z => by omega)
      · have m1e : mk1 G len = mk0 G len + 1 + (nw (rng 48 57) G 4 (mk0 G len + 1) : Nat) := by
          rw [m1]
          unfold pF
          rw [if_neg (by omega), if_neg m0]
        rw [if_neg m0, ← m1e, ← m2 (by omega)] at z1
        rw [← m1e, ← m2 (by omega)] at z3
        exact wrap y R1 z1 z2 z3
    · have m1 : mk1 G len = mk0 G len := by
        unfold mk1
        rw [if_neg (fun k => c1 k.2)]
      have m2 : mk2 G len = L2 G (mk0 G len) := by
        unfold mk2 L2
        rw [m1]
        by_cases g : G (mk0 G len) = 32
        · rw [if_pos ⟨d, g⟩, if_pos g]
        · rw [if_neg (fun k => g k.2), if_neg g]
      refine ok_t c1 ?_
      refine (l_cA (e := e) (N := N) (c := c) (nf := N) (v := mkn G len) (D := mk0 G len) (p := mk0 G len) hR1 hc d (by omega) (by omega) (by omega)).mono (fun y R1 z => ?_)
      obtain ⟨z1, z2, z3⟩ := z
      rw [← m2] at z1 z3
      exact wrap y R1 z1 z2 (fun z => by rw [m1]; exact z3 z)
  · rw [if_neg d] at hn
    have m1 : mk1 G len = mk0 G len := by
      unfold mk1
      rw [if_neg (by omega)]
    have m2 : mk2 G len = mk0 G len := by
      unfold mk2
      rw [m1, if_neg (by omega)]
    have m3 : mk3 G len = mk0 G len := by
      unfold mk3
      rw [m2, pE_neg (by omega)]
    refine ok_b (ok_of hn ?_)
    dsimp only
    exact ok_e d (ok_s ⟨m3.symm, frm.refl _ _ _ _, fun _ => frm.refl _ _ _ _, fun z => by omega⟩)
end
