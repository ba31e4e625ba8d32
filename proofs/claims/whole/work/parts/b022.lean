section
-- cn
theorem x_nameOn {e : w_E} {N a : Nat} {S R : w_S} {top : Int} (hN : 1000 ≤ N) (h : RelNm S R top) (ht : R.1 129 12 = S.1 27 1) (ha : 1 ≤ a) (ha2 : (a : Int) ≤ S.1 17 0) : E_R_nameOn e N (a : Int) (R.1 129 12) R = some (S.1 19 a, R) := by
  obtain ⟨k1, k2, k3, k4, k5, k6, k7, k8⟩ := h
  have key := l_nameOn (e := e) (N := N) (R := R) (h := (a : Int)) (d := R.1 129 12) (S.1 17 3).toNat N (by omega) (by omega)
  have e1 : gk (fun j => decide (R.1 142 j = (a : Int)) && decide (R.1 143 j ≤ R.1 129 12)) (S.1 17 3).toNat = S.1 19 a := by
    rw [(k7 a ha ha2).1]
    refine gk_congr _ (fun k hk => ?_)
    have := (k8 k (by omega)).2.2.2.1
    rw [decide_eq_true (show R.1 143 k ≤ R.1 129 12 by omega), Bool.and_true]
  rw [e1, show (((S.1 17 3).toNat : Nat) : Int) = S.1 17 3 by omega, ← k4] at key
  refine ok_eq ?_
  unfold E_R_nameOn
  exact ok_nb (by omega) (ok_of key ⟨rfl, rfl⟩)
theorem l_isName {e : w_E} {N : Nat} {S R : w_S} {len top : Int} (hN : 10000 ≤ N) (h : RelNm S R top) (ht : R.1 129 12 = S.1 27 1) (h2 : R.1 129 2 = len) (hl : 1 ≤ len) (hl2 : len ≤ 40) : ∀ (m a nf : Nat) (x1 : Int), 1 ≤ a → (a : Int) + m = S.1 17 0 + 1 → 50 * m < nf → (x1 = 0 ∨ x1 = 1) → Ok (El_R_isName e N nf 0 [x1, (a : Int)] [] R) (fun y R1 => R1 = R ∧ ((y = 1 ∧ (x1 = 1 ∨ ∃ b : Nat, a ≤ b ∧ (b : Int) ≤ S.1 17 0 ∧ snm R len (S.1 19 b).toNat)) ∨ (y = 0 ∧ x1 = 0 ∧ ∀ b : Nat, a ≤ b → (b : Int) ≤ S.1 17 0 → ¬ snm R len (S.1 19 b).toNat)))
  | _, _, 0, _, _, _, h, _ => by omega
  | 0, a, nf + 1, x1, g1, g2, g3, g4 => by
    rw [El_R_isName, h.1]
    refine ok_t (by omega) (ok_t g4 (ok_s ⟨rfl, ?_⟩))
    rcases g4 with g4 | g4
    · exact Or.inr ⟨g4, g4, fun b b1 b2 => by omega⟩
    · exact Or.inl ⟨g4, Or.inl g4⟩
  | m + 1, a, nf + 1, x1, g1, g2, g3, g4 => by
    have hh := h
    obtain ⟨k1, k2, k3, k4, k5, k6, k7, k8⟩ := hh
    obtain ⟨n1, n2⟩ := k7 a g1 (by omega)
    have gb := gk_b (fun k => decide (R.1 142 k = a)) (S.1 17 3).toNat
    rw [← n1] at gb
    obtain ⟨_, _, _, _, _, _, mm, m1, m2, m3, _⟩ := k8 (S.1 19 a).toNat (by omega)
    have xn := x_nameOn (e := e) (N := N) (by omega) h ht g1 (by omega)
    clear k7 k8 n1
    obtain ⟨k, hk⟩ : ∃ k : Nat, S.1 19 a = k := ⟨(S.1 19 a).toNat, by omega⟩
    rw [hk, show ((k : Int)).toNat = k by omega] at m3
    rw [hk] at xn
    rw [El_R_isName, k1]
    refine ok_e (by omega) (ok_b (ok_of xn ?_))
    dsimp only
    rw [show ((k : Int)).toNat = k by omega, h2]
    have rest : ∀ x4 : Int, (x4 = 0 ∨ (x4 = 1 ∧ R.1 144 k = len ∧ ∀ i : Nat, i < 0 → R.1 145 (40 * k + i) = R.1 130 i)) → (x4 = 0 → ¬ snm R len k) → Ok (El_R_isName e N nf 1 [x1, (a : Int), (k : Int), x4, 0] [] R) (fun y R1 => R1 = R ∧ ((y = 1 ∧ (x1 = 1 ∨ ∃ b : Nat, a ≤ b ∧ (b : Int) ≤ S.1 17 0 ∧ snm R len (S.1 19 b).toNat)) ∨ (y = 0 ∧ x1 = 0 ∧ ∀ b : Nat, a ≤ b → (b : Int) ≤ S.1 17 0 → ¬ snm R len (S.1 19 b).toNat))) := fun x4 q1 q2 => by
      refine l_isName1 (e := e) (N := N) (k := k) (by omega) h2 (by omega) (by omega) g4 (by omega) (by omega) len.toNat 0 nf x4 (by omega) (by omega) q1 q2 (fun n' v a1 a2 => ?_)
      have ih := l_isName (e := e) (N := N) hN h ht h2 hl hl2 m (a + 1) n' v (by omega) (by omega) (by omega) (by omega)
      rw [show ((a + 1 : Nat) : Int) = (a : Int) + 1 by omega] at ih
      refine ih.mono (fun y R1 z => ⟨z.1, ?_⟩)
      have ek : (S.1 19 a).toNat = k := by omega
      rcases z.2 with ⟨z1, z2⟩ | ⟨z1, z2, z3⟩
      · refine Or.inl ⟨z1, ?_⟩
        rcases z2 with z2 | ⟨b, b1, b2, b3⟩
        · rcases a2 with ⟨a2 | a2, _⟩ | ⟨_, a3⟩
          · exact Or.inl a2
          · exact Or.inr ⟨a, by omega, by omega, by rw [ek]; exact a2⟩
          · omega
        · exact Or.inr ⟨b, by omega, b2, b3⟩
      · rcases a2 with ⟨_, a3⟩ | ⟨⟨a2, a4⟩, a3⟩
        · omega
        · refine Or.inr ⟨z1, a2, fun b b1 b2 => ?_⟩
          by_cases d : b = a
          · rw [d, ek]
            exact a4
          · exact z3 b (by omega) b2
    refine ok_ib (by omega) ?_
    by_cases c : R.1 144 k = len
    · exact ok_e (by omega) (rest 1 (Or.inr ⟨rfl, c, fun i hi => by omega⟩) (fun z => by omega))
    · exact ok_t c (rest 0 (Or.inl rfl) (fun _ z => c z.1))
theorem l_addName {e : w_E} {N n : Nat} {len : Int} (hn : n < 240) (hl2 : len ≤ 40) : ∀ (m j nf : Nat) (R : w_S), (j : Int) + m = len → m < nf → R.1 129 2 = len → R.1 129 26 = n → Ok (El_R_addName e N nf 0 [(j : Int)] [] R) (fun _ R1 => frm [145] [129] [(129, 26)] R R1 ∧ R1.1 129 26 = (n : Int) + 1 ∧ (∀ i : Nat, j ≤ i → (i : Int) < len → R1.1 145 (40 * n + i) = w_b (R.1 130 i)) ∧ ∀ u, u < 40 * n + j → R1.1 145 u = R.1 145 u)
  | _, _, 0, _, _, h, _, _ => by omega
  | 0, j, nf + 1, R, g1, g2, g3, g4 => by
    rw [El_R_addName, g3, g4]
    exact ok_t (by omega) (ok_nb (by omega) (ok_s ⟨by repeat (first | exact frm.refl _ _ _ _ | refine frm.put ?_ rfl | refine frm.puto ?_ rfl rfl), by simp only [w_put_r, reduceIte, Nat.reduceEqDiff, pt_at], fun i a b => by omega, fun u hu => by simp only [w_put_r, reduceIte, Nat.reduceEqDiff, pt_at]⟩))
  | m + 1, j, nf + 1, R, g1, g2, g3, g4 => by
    have ih := l_addName (e := e) (N := N) (n := n) (len := len) hn hl2 m (j + 1) nf (w_put R 145 (40 * n + j) (w_b (R.1 130 j))) (by omega) (by omega) (by simp only [w_put_r, reduceIte, Nat.reduceEqDiff, pt_at]; exact g3) (by simp only [w_put_r, reduceIte, Nat.reduceEqDiff, pt_at]; exact g4)
    rw [show ((j + 1 : Nat) : Int) = (j : Int) + 1 by omega] at ih
    rw [El_R_addName, g3, g4]
    refine ok_e (by omega) (ok_nb (by omega) (ok_nb (by omega) (ok_ib (by omega) (ok_ib (by omega) (ok_nb (by omega) ?_)))))
    rw [show (40 * (n : Int) + (j : Int)).toNat = 40 * n + j by omega, show ((j : Int)).toNat = j by omega]
    refine ih.mono (fun y R1 z => ?_)
    obtain ⟨z1, z2, z3, z4⟩ := z
    refine ⟨frm.trans (by repeat (first | exact frm.refl _ _ _ _ | refine frm.put ?_ rfl | refine frm.puto ?_ rfl rfl)) z1, z2, fun i a b => ?_, fun u hu => ?_⟩
    · by_cases d : i = j
      · subst d
        rw [z4 _ (by omega)]
        simp only [w_put_r, reduceIte, Nat.reduceEqDiff, pt_at]
      · rw [z3 i (by omega) b]
        simp only [w_put_r, reduceIte, Nat.reduceEqDiff, pt_at]
    · rw [z4 u (by omega)]
      simp only [w_put_r, reduceIte, Nat.reduceEqDiff, pt_at]
      rw [if_neg (by omega)]
theorem pE_row (G : Int → Int) (q : Int) : pE G (pW G q) = pE G (pV G q) := by
  by_cases c : q < 0
  · rw [pW_neg c, pV_neg c]
  · unfold pW pV
    rw [if_neg c, if_neg c, nw_succ rwb G 40 q]
    by_cases d : nw rwb G 40 q = 40 ∧ rwb (G (q + (40 : Nat))) = true
    · rw [if_pos d]
      rw [if_neg (by omega : ¬ (40 + 1 = 0)), if_pos rfl, if_neg (by omega : ¬ nw rwb G 40 q = 0), d.1]
      have e1 : rwb (-1) = false := by decide
      have e2 : G (q + 40) ≠ -1 := fun z => by
        have := d.2
        rw [show q + ((40 : Nat) : Int) = q + 40 by omega, z, e1] at this
        cases this
      rw [pE_neg (q := -1 - (q + 40)) (by omega)]
      unfold pE
      rw [if_neg (by omega), show q + ((40 : Nat) : Int) = q + 40 by omega, if_neg e2]
    · rw [if_neg d]
      have nl := nw_le rwb G 40 q
      by_cases g : nw rwb G 40 q = 0
      · rw [if_pos g, if_pos g]
      · rw [if_neg g, if_neg g, if_neg (by omega : ¬ nw rwb G 40 q = 41)]
/-- the class's reading of a name -/
theorem x_nameC {e : w_E} {N : Nat} {S : w_S} {f len : Int} {G : Int → Int} {K : Int → w_S → e_R} {Q : Int → w_S → Prop} (hN : 2001 ≤ N) (h : TX S f len G) (hw : pE G (pV G 0) < 0 → ∀ a' w', Q (-999 + pE G (pV G 0)) (tp S a' w')) (hr : 0 ≤ pE G (pV G 0) → ∀ a', Ok (K (f * 64 + len) (tp S a' (-1))) Q) : Ok ((E_Tape_takeRow e N (tp S f (-1))).bind (fun q165 => ((E_Tape_takeEnd e N q165.2).bind (fun q166 => (if (q166.2.1 1 6) ≠ (-1) then (if w_nb ((-1000) - (q166.2.1 1 6)) = true then some ((-1000) - (q166.2.1 1 6), q166.2) else none) else K q165.1 q166.2))))) Q := by
  have lb := h.2.2.2.2.1
  have l0 := h.2.2.2.1
  have bv := (pV_bd h.e (show Bd len 0 from ⟨by omega, by omega⟩)).1
  unfold Bd at bv
  refine tk_b (x_takeRow hN h (show At f len f (-1) 0 from ⟨by omega, by omega, Or.inl ⟨rfl, by omega⟩⟩)) (fun y0 a0 w0 ha0 hy0 => ?_)
  dsimp only
  refine tk_b (x_takeEnd h ha0) (fun _ a1 w1 ha1 _ => ?_)
  dsimp only
  rw [tp6]
  rw [pE_row] at ha1
  by_cases d : 0 ≤ pE G (pV G 0)
  · have w1e := ha1.wm d
    subst w1e
    refine ok_e (fun z => z rfl) ?_
    have d' := d
    rw [← pE_row] at d'
    obtain ⟨p1, p2, p3⟩ := pE_ge d'
    obtain ⟨y1, y2⟩ := hy0 (ha0.wm p1)
    have hp : pW G 0 = (nw rwb G 40 0 : Nat) := by
      have : nw rwb G 40 0 ≠ 0 := by omega
      unfold pW
      rw [if_neg (by omega), if_neg this]
      omega
    have hlen : pW G 0 = len := by
      have k1 := (ha0.right.1 p1).2.2
      rcases Int.lt_or_le (pW G 0) len with c | c
      · have := (tx_at h p1).1 c
        omega
      · omega
    rw [y1, show (f + 0) * 64 + ((nw rwb G 40 0 : Nat) : Int) = f * 64 + len by omega]
    exact hr d a1
  · obtain ⟨r1, r2⟩ := ha1.right.2 (by omega)
    have pb : -3000 ≤ pE G (pV G 0) := by
      unfold pE
      split
      · omega
      · split <;> omega
    refine ok_t (by omega) (ok_nb (by omega) (ok_s ?_))
    rw [show -1000 - w1 = -999 + pE G (pV G 0) by omega]
    exact hw (by omega) a1 w1
end
section
-- co
theorem gk_none {P : Nat → Bool} : ∀ n, (∀ k, k < n → P k = false) → gk P n = -1
  | 0, _ => rfl
  | n + 1, h => by
    rw [gk, if_neg (by rw [h n (by omega)]; decide)]
    exact gk_none n (fun k hk => h k (by omega))
theorem Rw.up {t : Nat → Int} {top top' x : Int} {m : Nat} {b b' : Nat → Int} (h : Rw t top x m b) (ht : top ≤ top') (hb : ∀ k, k < m → b' k = b k) : Rw t top' x m b' := by
  obtain ⟨a, h1, h2, h3⟩ := h
  exact ⟨a, h1, by omega, fun k hk => by rw [hb k hk]; exact h3 k hk⟩
theorem nm_add {S R S1 R1 : w_S} {top top' row hd : Int} {a n m : Nat} (h : RelNm S R top) (hn : S.1 17 3 = n) (hn2 : n < 240) (ht : top ≤ top') (ha : 1 ≤ a) (ha2 : (a : Int) ≤ hd) (hh : (hd = S.1 17 0) ∨ (hd = S.1 17 0 + 1 ∧ (a : Int) = hd)) (hh2 : hd ≤ 80) (c0 : S1.1 17 0 = hd) (c3 : S1.1 17 3 = (n : Int) + 1) (d24 : R1.1 129 24 = hd) (d26 : R1.1 129 26 = (n : Int) + 1) (c27 : S1.1 27 1 = S.1 27 1) (t0 : 0 ≤ S.1 27 1) (c2 : S1.1 2 = S.1 2) (c19 : ∀ b : Nat, 1 ≤ b → (b : Int) ≤ hd → S1.1 19 b = if b = a then (n : Int) else S.1 19 b) (c20 : S1.1 20 = pt (S.1 20) n (gk (fun j => decide (R.1 142 j = (a : Int))) n)) (c21 : S1.1 21 = pt (S.1 21) n (S.1 27 1)) (c22 : S1.1 22 = pt (S.1 22) n row) (d142 : R1.1 142 = pt (R.1 142) n (a : Int)) (d143 : R1.1 143 = pt (R.1 143) n (S.1 27 1)) (d144 : R1.1 144 = pt (R.1 144) n (m : Int)) (d145 : ∀ u, u < 40 * n → R1.1 145 u = R.1 145 u) (m1 : 1 ≤ m) (m2 : m ≤ 40) (hr : Rw (S.1 2) top' row m (fun j => R1.1 145 (40 * n + j))) (hrb : ∀ j, j < m → rwb (R1.1 145 (40 * n + j)) = true) : RelNm S1 R1 top' := by
  obtain ⟨k1, k2, k3, k4, k5, k6, k7, k8⟩ := h
  have n1 : (S.1 17 3).toNat = n := by omega
  rw [n1] at k7
  refine ⟨by rw [c0, d24], by omega, by omega, by rw [c3, d26], by omega, by omega, fun b b1 b2 => ?_, fun k hk => ?_⟩
  · rw [c0] at b2
    have p1 : pt (R.1 142) n (a : Int) n = a := if_pos rfl
    have p2 : ∀ k, k ≠ n → pt (R.1 142) n (a : Int) k = R.1 142 k := fun k hk => if_neg hk
    rw [c19 b b1 b2, c3, show ((n : Int) + 1).toNat = n + 1 by omega, gk, d142, p1]
    by_cases g : b = a
    · rw [if_pos g, if_pos (decide_eq_true (show (a : Int) = b by omega))]
      exact ⟨rfl, by omega⟩
    · rw [if_neg g, if_neg (by rw [decide_eq_true_eq]; omega)]
      obtain ⟨q1, q2⟩ := k7 b b1 (by omega)
      refine ⟨?_, q2⟩
      rw [q1]
      refine gk_congr _ (fun k hk => ?_)
      rw [p2 k (by omega)]
  · rw [c3] at hk
    rw [c20, c21, c22, d142, d143, d144, c2, c27, c0]
    simp only [pt_at]
    by_cases g : k = n
    · subst g
      simp only [reduceIte]
      refine ⟨gk_congr _ (fun j hj => by rw [if_neg (by omega)]), trivial, t0, by omega, by omega, ha2, m, m1, m2, rfl, hr, hrb⟩
    · simp only [if_neg g]
      obtain ⟨q1, q2, q3, q4, q5, q6, mm, q7, q8, q9, q10, q11⟩ := k8 k (by omega)
      refine ⟨?_, q2, q3, q4, q5, by omega, mm, q7, q8, q9, q10.up ht (fun j hj => d145 _ (by omega)), fun j hj => by rw [d145 _ (by omega)]; exact q11 j hj⟩
      rw [q1]
      refine gk_congr _ (fun j hj => ?_)
      rw [if_neg (by omega)]
/-- both sides' search for a name that the tape says -/
theorem x_named {e : w_E} {N : Nat} {S R : w_S} {f len top : Int} (hN : 10000 ≤ N) (h : RelNm S R top) (hto : top ≤ 10240) (ht : R.1 129 12 = S.1 27 1) (hs : ∀ j, -128 ≤ S.1 2 j ∧ S.1 2 j ≤ 127) (hf : 0 ≤ f) (hfl : f + len ≤ 10240) (hl : 1 ≤ len) (hl2 : len ≤ 40) (hB : ∀ j : Nat, (j : Int) < len → R.1 130 j = S.1 2 (f.toNat + j)) (h2 : R.1 129 2 = len) : ∃ y, (y = 0 ∨ y = 1) ∧ E_Authority_isNamed e N (f * 64 + len) S = some (y, S) ∧ E_R_isName e N R = some (y, R) := by
  have a0 := h.2.1
  have a1 := h.2.2.1
  obtain ⟨y, S1, e1, e2, e3⟩ := l_isNamed (e := e) (N := N) (by omega) h hto hs hf hfl hl hl2 hB (S.1 17 0).toNat 1 N (by omega) (by omega) (by omega)
  obtain ⟨y', R1, r1, r2, r3⟩ := l_isName (e := e) (N := N) hN h ht h2 hl hl2 (S.1 17 0).toNat 1 N 0 (by omega) (by omega) (by omega) (Or.inl rfl)
  subst e2
  subst r2
  unfold E_Authority_isNamed E_R_isName
  have y01 : y = 0 ∨ y = 1 := by
    rcases e3 with ⟨q, _⟩ | ⟨q, _⟩
    · exact Or.inr q
    · exact Or.inl q
  refine ⟨y, y01, e1, ?_⟩
  have : y' = y := by
    rcases e3 with ⟨q1, b, q2, q3, q4⟩ | ⟨q1, q2⟩
    · rcases r3 with ⟨w1, _⟩ | ⟨_, _, w3⟩
      · omega
      · exact absurd q4 (w3 b q2 q3)
    · rcases r3 with ⟨_, w2⟩ | ⟨w1, _, _⟩
      · rcases w2 with w2 | ⟨b, w3, w4, w5⟩
        · omega
        · exact absurd w5 (q2 b w3 w4)
      · omega
  rw [← this]
  exact r1
/-- a text that is a name: its length, its bytes -/
theorem row_all {R : w_S} {len : Int} {G : Int → Int} (hR : TR R len G) (h : 0 ≤ pE G (pV G 0)) : pV G 0 = len ∧ 1 ≤ len ∧ len ≤ 40 ∧ ∀ j : Nat, (j : Int) < len → rwb (G j) = true := by
  have l0 := hR.2.1
  obtain ⟨p1, p2, p3⟩ := pE_ge h
  have bv := pV_bd hR.e (show Bd len 0 from ⟨by omega, by omega⟩)
  unfold Bd at bv
  have hlen : pV G 0 = len := by
    rcases Int.lt_or_le (pV G 0) len with c | c
    · have := ((hR.2.2.2 _ p1).1 c).2.1
      omega
    · omega
  have hv : pV G 0 = (nw rwb G 41 0 : Nat) ∧ 1 ≤ nw rwb G 41 0 := by
    unfold pV at p1 ⊢
    rw [if_neg (by omega)] at p1 ⊢
    by_cases d : nw rwb G 41 0 = 0
    · rw [if_pos d] at p1
      omega
    · rw [if_neg d] at p1 ⊢
      by_cases d2 : nw rwb G 41 0 = 41
      · rw [if_pos d2] at p1
        omega
      · rw [if_neg d2]
        omega
  refine ⟨hlen, by omega, by omega, fun j hj => ?_⟩
  have := nw_all 41 0 j (show j < nw rwb G 41 0 by omega)
  rw [show (0 : Int) + (j : Int) = j by omega] at this
  exact this
theorem t_rename {e : w_E} {N : Nat} {S R : w_S} {x1 f len top : Int} {G : Int → Int} (hN : 10000 ≤ N) (h : TX S f len G) (hr : TR R len G) (h4 : S.1 1 4 = f) (h6 : S.1 1 6 = -1) (hB : TB S R f len) (hM : RelNm S R top) (htop : top ≤ f + len) (ht : R.1 129 12 = S.1 27 1) (ht0 : 0 ≤ S.1 27 1) (hs : ∀ j, -128 ≤ S.1 2 j ∧ S.1 2 j ≤ 127) : Ok (E_Authority_renameHeading e N x1 (S.1 27 1) S) (fun y S1 => Ok (E_R_doRename e N x1 R) (fun y' R1 => Pt R (fun S1 R1 => frm [] [1] [(1, 4), (1, 6)] S S1 ∧ frm [] [129] [(129, 4)] R R1) (fun S1 R1 => frm [19, 20, 21, 22] [1, 17] [(1, 4), (1, 6), (17, 3)] S S1 ∧ frm [142, 143, 144, 145] [129] [(129, 26)] R R1 ∧ RelNm S1 R1 (f + len)) y S1 y' R1)) := by
  have hfl := h.2.2.2.2.2.1
  have hf0 := h.2.2.1
  have l0 := hr.2.1
  have lb := hr.2.2.1
  have hh := hM
  obtain ⟨k1, k2, k3, k4, k5, k6, k7, k8⟩ := hh
  have ts := tp_self S
  rw [h4, h6] at ts
  have bv := (pV_bd hr.e (show Bd len 0 from ⟨by omega, by omega⟩)).1
  have pb : -3000 ≤ pE G (pV G 0) := by
    unfold Bd at bv
    unfold pE
    split
    · omega
    · split <;> omega
  have ref : ∀ v : Int, v < 0 → ∀ a' w' T, frm [] [129] [(129, 4)] R T → Pt R (fun S1 R1 => frm [] [1] [(1, 4), (1, 6)] S S1 ∧ frm [] [129] [(129, 4)] R R1) (fun S1 R1 => frm [19, 20, 21, 22] [1, 17] [(1, 4), (1, 6), (17, 3)] S S1 ∧ frm [142, 143, 144, 145] [129] [(129, 26)] R R1 ∧ RelNm S1 R1 (f + len)) v (tp S a' w') v (w_put T 129 4 1) := fun v hv a' w' T hT => by
    refine ⟨rfl, Or.inl ⟨hv, ⟨?_, frm.puto hT rfl rfl⟩, rfl⟩⟩
    unfold tp
    repeat (first | exact frm.refl _ _ _ _ | refine frm.put ?_ rfl | refine frm.puto ?_ rfl rfl)
  by_cases c : 1 ≤ x1 ∧ x1 ≤ S.1 17 0
  · unfold E_Authority_renameHeading
    refine ok_e (by omega) (ok_e (by omega) ?_)
    have key := x_nameC (e := e) (N := N) (S := S) (f := f) (len := len) (G := G) (K := fun r T => ((E_Authority_isNamed e N r T).bind (fun q172 => (if q172.1 = 0 then (if (q172.2.1 17 3) < 240 then (if w_ib x1 81 = true then (if w_ib (q172.2.1 17 3) 240 = true then (if w_nb ((q172.2.1 17 3) + 1) = true then some (1, (w_put (w_put (w_put (w_put (w_put q172.2 20 ((q172.2.1 17 3).toNat) (q172.2.1 19 x1.toNat)) 21 ((q172.2.1 17 3).toNat) (S.1 27 1)) 22 ((q172.2.1 17 3).toNat) r) 19 x1.toNat (q172.2.1 17 3)) 17 3 ((q172.2.1 17 3) + 1))) else none) else none) else none) else some ((-4), q172.2)) else some ((-3), q172.2))))) (Q := fun y S1 => Ok (E_R_doRename e N x1 R) (fun y' R1 => Pt R (fun S1 R1 => frm [] [1] [(1, 4), (1, 6)] S S1 ∧ frm [] [129] [(129, 4)] R R1) (fun S1 R1 => frm [19, 20, 21, 22] [1, 17] [(1, 4), (1, 6), (17, 3)] S S1 ∧ frm [142, 143, 144, 145] [129] [(129, 26)] R R1 ∧ RelNm S1 R1 (f + len)) y S1 y' R1)) (by omega) h (fun hn a' w' => ?_) (fun hp a' => ?_)
    · rw [ts] at key
      exact key
    · unfold E_R_doRename
      rw [k1]
      refine ok_e (by omega) (ok_e (by omega) (ok_b (ok_of (x_rowR (by omega) hr (by omega) l0) ?_)))
      dsimp only
      rw [hr.1]
      by_cases d : pV G 0 < 0
      · rw [pE_neg d]
        exact ok_t d (ok_nb (by rw [pE_neg d] at pb; omega) (ok_s (ref _ (by omega) a' w' R (frm.refl _ _ _ _))))
      · have hv : pE G (pV G 0) = -1 - pV G 0 ∧ pV G 0 ≠ len := by
          unfold pE at hn ⊢
          rw [if_neg d] at hn ⊢
          by_cases g : G (pV G 0) = -1
          · rw [if_pos g] at hn
            omega
          · rw [if_neg g]
            exact ⟨rfl, fun z => g (hr.e _ (by omega))⟩
        rw [hv.1]
        refine ok_e d (ok_t hv.2 (ok_nb (by omega) (ok_e (by omega) (ok_nb (by omega) (ok_s (ref _ (by omega) a' w' R (frm.refl _ _ _ _)))))))
    · obtain ⟨w1, w2, w3, w4⟩ := row_all hr hp
      have frT : frm [] [1] [(1, 4), (1, 6)] S (tp S a' (-1)) := by
        unfold tp
        repeat (first | exact frm.refl _ _ _ _ | refine frm.put ?_ rfl | refine frm.puto ?_ rfl rfl)
      have hMT : RelNm (tp S a' (-1)) R top := hM.fr frT (frm.refl [] [] [] R) (by decide)
      have t2 : (tp S a' (-1)).1 2 = S.1 2 := tp_2 S a' (-1)
      have t17 : (tp S a' (-1)).1 17 = S.1 17 := tpo S a' (-1) (by decide)
      have t19 : (tp S a' (-1)).1 19 = S.1 19 := tpo S a' (-1) (by decide)
      have t27 : (tp S a' (-1)).1 27 = S.1 27 := tpo S a' (-1) (by decide)
      obtain ⟨y, y1, y2, y3⟩ := x_named (e := e) (N := N) (S := tp S a' (-1)) (f := f) (len := len) hN hMT (by omega) (by rw [t27]; exact ht) (fun j => by rw [t2]; exact hs j) hf0 hfl w2 w3 (fun j hj => by rw [t2]; exact (hB j hj).1) hr.1
      refine ok_b (ok_of y2 ?_)
      dsimp only
      rw [t17, t19]
      have rs : ∀ (Q : Int → w_S → Prop), Ok ((E_R_isName e N R).bind (fun q736 => (if q736.1 = 0 then (if (q736.2.1 129 26) ≠ 240 then ((E_R_addName e N x1 q736.2).bind (fun q737 => some (1, q737.2))) else some ((-4), (w_put q736.2 129 4 1))) else some ((-3), (w_put q736.2 129 4 1))))) Q → Ok (E_R_doRename e N x1 R) Q := fun Q hq => by
        unfold E_R_doRename
        rw [k1]
        refine ok_e (by omega) (ok_e (by omega) (ok_b (ok_of (x_rowR (by omega) hr (by omega) l0) ?_)))
        dsimp only
        rw [hr.1]
        exact ok_e (by omega) (ok_e (by omega) hq)
      by_cases d : y = 0
      · refine ok_t d ?_
        by_cases g : S.1 17 3 < 240
        · obtain ⟨n, hn⟩ : ∃ n : Nat, S.1 17 3 = n := ⟨(S.1 17 3).toNat, by omega⟩
          obtain ⟨a, hae⟩ : ∃ a : Nat, x1 = a := ⟨x1.toNat, by omega⟩
          subst hae
          rw [hn, show ((n : Int)).toNat = n by omega, show ((a : Int)).toNat = a by omega]
          refine ok_t (by omega) (ok_ib (by omega) (ok_ib (by omega) (ok_nb (by omega) (ok_s (rs _ ?_)))))
          refine ok_b (ok_of y3 ?_)
          dsimp only
          rw [k4, hn]
          refine ok_t d (ok_t (by omega) ?_)
          unfold E_R_addName
          rw [k4, hn, show ((n : Int)).toNat = n by omega, hr.1, ht]
          refine ok_b (ok_ib (by omega) ?_)
          have la := l_addName (e := e) (N := N) (n := n) (len := len) (by omega) w3 len.toNat 0 N (w_put (w_put (w_put R 142 n (a : Int)) 143 n (S.1 27 1)) 144 n len) (by omega) (by omega) (by simp only [w_put_r, reduceIte, Nat.reduceEqDiff, pt_at]; exact hr.1) (by simp only [w_put_r, reduceIte, Nat.reduceEqDiff, pt_at]; rw [k4, hn])
          refine Ok.mono la (fun _ R1 z => ok_s ?_)
          obtain ⟨z1, z2, z3, z4⟩ := z
          have fR : frm [142, 143, 144, 145] [129] [(129, 26)] R R1 := frm.trans (by repeat (first | exact frm.refl _ _ _ _ | refine frm.put ?_ rfl | refine frm.puto ?_ rfl rfl)) (z1.weak (by decide))
          refine ⟨rfl, Or.inr ⟨by omega, ⟨?_, fR, ?_⟩, fR.2.2 129 4 rfl rfl⟩⟩
          · refine frm.trans (frT.weak (by decide)) ?_
            repeat (first | exact frm.refl _ _ _ _ | refine frm.put ?_ rfl | refine frm.puto ?_ rfl rfl)
          · refine nm_add (S := S) (R := R) (top := top) (row := f * 64 + len) (hd := S.1 17 0) (a := a) (n := n) (m := len.toNat) hM hn (by omega) htop (by omega) (by omega) (Or.inl rfl) (by omega) ?_ ?_ ?_ (by rw [z2]) ?_ ht0 ?_ (fun b b1 b2 => ?_) ?_ ?_ ?_ ?_ ?_ ?_ (fun u hu => ?_) (by omega) (by omega) ?_ (fun j hj => ?_)
            · simp only [w_put_r, reduceIte, Nat.reduceEqDiff, pt_at]
              rw [t17]
            · simp only [w_put_r, reduceIte, Nat.reduceEqDiff, pt_at]
            · rw [fR.2.2 129 24 rfl rfl, k1]
            · simp only [w_put_r, reduceIte, Nat.reduceEqDiff, pt_at]
              rw [t27]
            · simp only [w_put_r, reduceIte, Nat.reduceEqDiff, pt_at]
              exact t2
            · simp only [w_put_r, reduceIte, Nat.reduceEqDiff, pt_at]
              rw [t19]
            · simp only [w_put_r, reduceIte, Nat.reduceEqDiff, pt_at]
              rw [tpo S a' (-1) (by decide)]
              have := (k7 a (by omega) (by omega)).1
              rw [hn, show ((n : Int)).toNat = n by omega] at this
              rw [this]
            · simp only [w_put_r, reduceIte, Nat.reduceEqDiff, pt_at]
              rw [tpo S a' (-1) (by decide)]
            · simp only [w_put_r, reduceIte, Nat.reduceEqDiff, pt_at]
              rw [tpo S a' (-1) (by decide)]
            · rw [z1.2.1 142 rfl rfl]
              simp only [w_put_r, reduceIte, Nat.reduceEqDiff, pt_at]
            · rw [z1.2.1 143 rfl rfl]
              simp only [w_put_r, reduceIte, Nat.reduceEqDiff, pt_at]
            · rw [z1.2.1 144 rfl rfl]
              simp only [w_put_r, reduceIte, Nat.reduceEqDiff, pt_at]
              rw [show ((len.toNat : Nat) : Int) = len by omega]
            · rw [z4 u (by omega)]
              simp only [w_put_r, reduceIte, Nat.reduceEqDiff, pt_at]
            · refine ⟨f.toNat, by omega, by omega, fun k hk => ?_⟩
              have hb := hB k (by omega)
              have := z3 k (by omega) (by omega)
              simp only [w_put_r, reduceIte, Nat.reduceEqDiff, pt_at] at this
              show S.1 2 (f.toNat + k) = R1.1 145 (40 * n + k)
              rw [this, w_b_id hb.2.1 hb.2.2]
              exact hb.1.symm
            · have hb := hB j (by omega)
              have := z3 j (by omega) (by omega)
              simp only [w_put_r, reduceIte, Nat.reduceEqDiff, pt_at] at this
              rw [this, w_b_id hb.2.1 hb.2.2]
              have w4j := w4 j (by omega)
              have hg := (h.2.2.2.2.2.2 (j : Int) (by omega)).1 (by omega)
              have e9 : (f + (j : Int)).toNat = f.toNat + j := by omega
              rw [e9, ← hb.1] at hg
              have h4' := hg.2.2.2
              have ra : 32 ≤ G j ∧ G j ≤ 126 := by
                have w5 := w4j
                unfold rwb at w5
                simp only [Bool.and_eq_true, decide_eq_true_eq] at w5
                exact w5.1
              have : R.1 130 j = G j := by
                split at h4' <;> omega
              rw [this]
              exact w4j
        · refine ok_e g (ok_s (rs _ ?_))
          refine ok_b (ok_of y3 ?_)
          dsimp only
          rw [k4]
          exact ok_t d (ok_e (by omega) (ok_s (ref _ (by omega) a' (-1) R (frm.refl _ _ _ _))))
      · refine ok_e d (ok_s (rs _ ?_))
        refine ok_b (ok_of y3 ?_)
        dsimp only
        exact ok_e d (ok_s (ref _ (by omega) a' (-1) R (frm.refl _ _ _ _)))
  · have p : Pt R (fun S1 R1 => frm [] [1] [(1, 4), (1, 6)] S S1 ∧ frm [] [129] [(129, 4)] R R1) (fun S1 R1 => frm [19, 20, 21, 22] [1, 17] [(1, 4), (1, 6), (17, 3)] S S1 ∧ frm [142, 143, 144, 145] [129] [(129, 26)] R R1 ∧ RelNm S1 R1 (f + len)) (-1) S (-1) (w_put R 129 4 1) := ⟨rfl, Or.inl ⟨by omega, ⟨frm.refl _ _ _ _, by repeat (first | exact frm.refl _ _ _ _ | refine frm.put ?_ rfl | refine frm.puto ?_ rfl rfl)⟩, rfl⟩⟩
    have rs : Ok (E_R_doRename e N x1 R) (fun y' R1 => Pt R (fun S1 R1 => frm [] [1] [(1, 4), (1, 6)] S S1 ∧ frm [] [129] [(129, 4)] R R1) (fun S1 R1 => frm [19, 20, 21, 22] [1, 17] [(1, 4), (1, 6), (17, 3)] S S1 ∧ frm [142, 143, 144, 145] [129] [(129, 26)] R R1 ∧ RelNm S1 R1 (f + len)) (-1) S y' R1) := by
      unfold E_R_doRename
      rw [k1]
      by_cases d : x1 < 1
      · exact ok_t d (ok_s p)
      · exact ok_e d (ok_t (by omega) (ok_s p))
    unfold E_Authority_renameHeading
    by_cases d : x1 < 1
    · exact ok_t d (ok_s rs)
    · exact ok_e d (ok_t (by omega) (ok_s rs))
end
section
-- cp
theorem t_heading {e : w_E} {N : Nat} {S R : w_S} {f len top : Int} {G : Int → Int} (hN : 10000 ≤ N) (h : TX S f len G) (hr : TR R len G) (h4 : S.1 1 4 = f) (h6 : S.1 1 6 = -1) (hB : TB S R f len) (hM : RelNm S R top) (htop : top ≤ f + len) (ht : R.1 129 12 = S.1 27 1) (ht0 : 0 ≤ S.1 27 1) (hs : ∀ j, -128 ≤ S.1 2 j ∧ S.1 2 j ≤ 127) : Ok (E_Authority_addHeading e N (S.1 27 1) S) (fun y S1 => Ok (E_R_doHeading e N R) (fun y' R1 => Pt R (fun S1 R1 => frm [] [1] [(1, 4), (1, 6)] S S1 ∧ frm [] [129] [(129, 4)] R R1) (fun S1 R1 => frm [18, 19, 20, 21, 22] [1, 17] [(1, 4), (1, 6), (17, 0), (17, 3)] S S1 ∧ frm [141, 142, 143, 144, 145] [129] [(129, 24), (129, 26)] R R1 ∧ RelNm S1 R1 (f + len) ∧ S1.1 18 = pt (S.1 18) (S.1 17 0 + 1).toNat 0 ∧ R1.1 141 = pt (R.1 141) (S.1 17 0 + 1).toNat 0 ∧ S1.1 17 0 = S.1 17 0 + 1) y S1 y' R1)) := by
  have hfl := h.2.2.2.2.2.1
  have hf0 := h.2.2.1
  have l0 := hr.2.1
  have lb := hr.2.2.1
  have hh := hM
  obtain ⟨k1, k2, k3, k4, k5, k6, k7, k8⟩ := hh
  have ts := tp_self S
  rw [h4, h6] at ts
  have bv := (pV_bd hr.e (show Bd len 0 from ⟨by omega, by omega⟩)).1
  have pb : -3000 ≤ pE G (pV G 0) := by
    unfold Bd at bv
    unfold pE
    split
    · omega
    · split <;> omega
  have ref : ∀ v : Int, v < 0 → ∀ a' w' T, frm [] [129] [(129, 4)] R T → Pt R (fun S1 R1 => frm [] [1] [(1, 4), (1, 6)] S S1 ∧ frm [] [129] [(129, 4)] R R1) (fun S1 R1 => frm [18, 19, 20, 21, 22] [1, 17] [(1, 4), (1, 6), (17, 0), (17, 3)] S S1 ∧ frm [141, 142, 143, 144, 145] [129] [(129, 24), (129, 26)] R R1 ∧ RelNm S1 R1 (f + len) ∧ S1.1 18 = pt (S.1 18) (S.1 17 0 + 1).toNat 0 ∧ R1.1 141 = pt (R.1 141) (S.1 17 0 + 1).toNat 0 ∧ S1.1 17 0 = S.1 17 0 + 1) v (tp S a' w') v (w_put T 129 4 1) := fun v hv a' w' T hT => by
    refine ⟨rfl, Or.inl ⟨hv, ⟨?_, frm.puto hT rfl rfl⟩, rfl⟩⟩
    unfold tp
    repeat (first | exact frm.refl _ _ _ _ | refine frm.put ?_ rfl | refine frm.puto ?_ rfl rfl)
  unfold E_Authority_addHeading
  have key := x_nameC (e := e) (N := N) (S := S) (f := f) (len := len) (G := G) (K := fun r T => ((E_Authority_isNamed e N r T).bind (fun q167 => (if q167.1 = 0 then (if 80 ≤ (q167.2.1 17 0) then some ((-4), q167.2) else (if (q167.2.1 17 3) < 240 then (if w_nb ((q167.2.1 17 0) + 1) = true then (if w_ib ((q167.2.1 17 0) + 1) 81 = true then (if w_ib (q167.2.1 17 3) 240 = true then (if w_nb ((q167.2.1 17 3) + 1) = true then some ((q167.2.1 17 0) + 1, (w_put (w_put (w_put (w_put (w_put (w_put (w_put (w_put q167.2 17 0 ((q167.2.1 17 0) + 1)) 18 (((q167.2.1 17 0) + 1).toNat) 0) 19 (((q167.2.1 17 0) + 1).toNat) (-1)) 20 ((q167.2.1 17 3).toNat) ((w_put (w_put (w_put q167.2 17 0 ((q167.2.1 17 0) + 1)) 18 (((q167.2.1 17 0) + 1).toNat) 0) 19 (((q167.2.1 17 0) + 1).toNat) (-1)).1 19 (((q167.2.1 17 0) + 1).toNat))) 21 ((q167.2.1 17 3).toNat) (S.1 27 1)) 22 ((q167.2.1 17 3).toNat) r) 19 (((q167.2.1 17 0) + 1).toNat) (q167.2.1 17 3)) 17 3 ((q167.2.1 17 3) + 1))) else none) else none) else none) else none) else some ((-4), q167.2))) else some ((-3), q167.2))))) (Q := fun y S1 => Ok (E_R_doHeading e N R) (fun y' R1 => Pt R (fun S1 R1 => frm [] [1] [(1, 4), (1, 6)] S S1 ∧ frm [] [129] [(129, 4)] R R1) (fun S1 R1 => frm [18, 19, 20, 21, 22] [1, 17] [(1, 4), (1, 6), (17, 0), (17, 3)] S S1 ∧ frm [141, 142, 143, 144, 145] [129] [(129, 24), (129, 26)] R R1 ∧ RelNm S1 R1 (f + len) ∧ S1.1 18 = pt (S.1 18) (S.1 17 0 + 1).toNat 0 ∧ R1.1 141 = pt (R.1 141) (S.1 17 0 + 1).toNat 0 ∧ S1.1 17 0 = S.1 17 0 + 1) y S1 y' R1)) (by omega) h (fun hn a' w' => ?_) (fun hp a' => ?_)
  · rw [ts] at key
    exact key
  · unfold E_R_doHeading
    refine ok_b (ok_of (x_rowR (by omega) hr (by omega) l0) ?_)
    dsimp only
    rw [hr.1]
    by_cases d : pV G 0 < 0
    · rw [pE_neg d]
      exact ok_t d (ok_nb (by rw [pE_neg d] at pb; omega) (ok_s (ref _ (by omega) a' w' R (frm.refl _ _ _ _))))
    · have hv : pE G (pV G 0) = -1 - pV G 0 ∧ pV G 0 ≠ len := by
        unfold pE at hn ⊢
        rw [if_neg d] at hn ⊢
        by_cases g : G (pV G 0) = -1
        · rw [if_pos g] at hn
          omega
        · rw [if_neg g]
          exact ⟨rfl, fun z => g (hr.e _ (by omega))⟩
      rw [hv.1]
      refine ok_e d (ok_t hv.2 (ok_nb (by omega) (ok_e (by omega) (ok_nb (by omega) (ok_s (ref _ (by omega) a' w' R (frm.refl _ _ _ _)))))))
  · obtain ⟨w1, w2, w3, w4⟩ := row_all hr hp
    have frT : frm [] [1] [(1, 4), (1, 6)] S (tp S a' (-1)) := by
      unfold tp
      repeat (first | exact frm.refl _ _ _ _ | refine frm.put ?_ rfl | refine frm.puto ?_ rfl rfl)
    have hMT : RelNm (tp S a' (-1)) R top := hM.fr frT (frm.refl [] [] [] R) (by decide)
    have t2 : (tp S a' (-1)).1 2 = S.1 2 := tp_2 S a' (-1)
    have t17 : (tp S a' (-1)).1 17 = S.1 17 := tpo S a' (-1) (by decide)
    have t19 : (tp S a' (-1)).1 19 = S.1 19 := tpo S a' (-1) (by decide)
    have t27 : (tp S a' (-1)).1 27 = S.1 27 := tpo S a' (-1) (by decide)
    obtain ⟨y, y1, y2, y3⟩ := x_named (e := e) (N := N) (S := tp S a' (-1)) (f := f) (len := len) hN hMT (by omega) (by rw [t27]; exact ht) (fun j => by rw [t2]; exact hs j) hf0 hfl w2 w3 (fun j hj => by rw [t2]; exact (hB j hj).1) hr.1
    refine ok_b (ok_of y2 ?_)
    dsimp only
    rw [t17]
    have rs : ∀ (Q : Int → w_S → Prop), Ok ((E_R_isName e N  R).bind (fun q730 => (if q730.1 = 0 then (if (q730.2.1 129 24) = 80 then some ((-4), (w_put q730.2 129 4 1)) else (if (q730.2.1 129 26) ≠ 240 then (if w_nb ((q730.2.1 129 24) + 1) = true then (if w_ib ((q730.2.1 129 24) + 1) 81 = true then ((E_R_addName e N ((q730.2.1 129 24) + 1) (w_put (w_put q730.2 129 24 ((q730.2.1 129 24) + 1)) 141 (((q730.2.1 129 24) + 1).toNat) 0)).bind (fun q731 => some (q731.2.1 129 24, q731.2))) else none) else none) else some ((-4), (w_put q730.2 129 4 1)))) else some ((-3), (w_put q730.2 129 4 1))))) Q → Ok (E_R_doHeading e N R) Q := fun Q hq => by
      unfold E_R_doHeading
      refine ok_b (ok_of (x_rowR (by omega) hr (by omega) l0) ?_)
      dsimp only
      rw [hr.1]
      exact ok_e (by omega) (ok_e (by omega) hq)
    by_cases d : y = 0
    · refine ok_t d ?_
      by_cases g0 : 80 ≤ S.1 17 0
      · refine ok_t g0 (ok_s (rs _ ?_))
        refine ok_b (ok_of y3 ?_)
        dsimp only
        rw [k1]
        exact ok_t d (ok_t (by omega) (ok_s (ref _ (by omega) a' (-1) R (frm.refl _ _ _ _))))
      refine ok_e g0 ?_
      by_cases g : S.1 17 3 < 240
      · obtain ⟨n, hn⟩ : ∃ n : Nat, S.1 17 3 = n := ⟨(S.1 17 3).toNat, by omega⟩
        obtain ⟨a, hae⟩ : ∃ a : Nat, S.1 17 0 + 1 = a := ⟨(S.1 17 0 + 1).toNat, by omega⟩
        rw [hn, hae, show ((n : Int)).toNat = n by omega, show ((a : Int)).toNat = a by omega]
        refine ok_t (by omega) (ok_nb (by omega) (ok_ib (by omega) (ok_ib (by omega) (ok_nb (by omega) (ok_s (rs _ ?_))))))
        refine ok_b (ok_of y3 ?_)
        dsimp only
        rw [k4, k1, hn, hae, show ((a : Int)).toNat = a by omega]
        refine ok_t d (ok_e (by omega) (ok_t (by omega) (ok_nb (by omega) (ok_ib (by omega) ?_))))
        unfold E_R_addName
        have u26 : (w_put (w_put R 129 24 (a : Int)) 141 a 0).1 129 26 = n := by
          simp only [w_put_r, reduceIte, Nat.reduceEqDiff, pt_at]
          rw [k4, hn]
        have u2 : (w_put (w_put R 129 24 (a : Int)) 141 a 0).1 129 2 = len := by
          simp only [w_put_r, reduceIte, Nat.reduceEqDiff, pt_at]
          exact hr.1
        have u12 : (w_put (w_put R 129 24 (a : Int)) 141 a 0).1 129 12 = S.1 27 1 := by
          simp only [w_put_r, reduceIte, Nat.reduceEqDiff, pt_at]
          exact ht
        rw [u26, u2, u12, show ((n : Int)).toNat = n by omega]
        refine ok_b (ok_ib (by omega) ?_)
        have la := l_addName (e := e) (N := N) (n := n) (len := len) (by omega) w3 len.toNat 0 N (w_put (w_put (w_put (w_put (w_put R 129 24 (a : Int)) 141 a 0) 142 n (a : Int)) 143 n (S.1 27 1)) 144 n len) (by omega) (by omega) (by simp only [w_put_r, reduceIte, Nat.reduceEqDiff, pt_at]; exact hr.1) (by simp only [w_put_r, reduceIte, Nat.reduceEqDiff, pt_at]; rw [k4, hn])
        refine Ok.mono la (fun _ R1 z => ok_s ?_)
        obtain ⟨z1, z2, z3, z4⟩ := z
        have fR : frm [141, 142, 143, 144, 145] [129] [(129, 24), (129, 26)] R R1 := frm.trans (by repeat (first | exact frm.refl _ _ _ _ | refine frm.put ?_ rfl | refine frm.puto ?_ rfl rfl)) (z1.weak (by decide))
        have r24 : R1.1 129 24 = (a : Int) := by
          rw [z1.2.2 129 24 rfl rfl]
          simp only [w_put_r, reduceIte, Nat.reduceEqDiff, pt_at]
        refine ⟨by rw [r24], Or.inr ⟨by omega, ⟨?_, fR, ?_, ?_, ?_, ?_⟩, fR.2.2 129 4 rfl rfl⟩⟩
        · refine frm.trans (frT.weak (by decide)) ?_
          repeat (first | exact frm.refl _ _ _ _ | refine frm.put ?_ rfl | refine frm.puto ?_ rfl rfl)
        · refine nm_add (S := S) (R := R) (top := top) (row := f * 64 + len) (hd := (a : Int)) (a := a) (n := n) (m := len.toNat) hM hn (by omega) htop (by omega) (by omega) (Or.inr ⟨by omega, rfl⟩) (by omega) ?_ ?_ ?_ (by rw [z2]) ?_ ht0 ?_ (fun b b1 b2 => ?_) ?_ ?_ ?_ ?_ ?_ ?_ (fun u hu => ?_) (by omega) (by omega) ?_ (fun j hj => ?_)
          · simp only [w_put_r, reduceIte, Nat.reduceEqDiff, pt_at]
          · simp only [w_put_r, reduceIte, Nat.reduceEqDiff, pt_at]
          · exact r24
          · simp only [w_put_r, reduceIte, Nat.reduceEqDiff, pt_at]
            rw [t27]
          · simp only [w_put_r, reduceIte, Nat.reduceEqDiff, pt_at]
            exact t2
          · simp only [w_put_r, reduceIte, Nat.reduceEqDiff, pt_at]
            rw [t19]
            by_cases q : b = a
            · rw [if_pos q, if_pos q]
            · rw [if_neg q, if_neg q, if_neg q]
          · simp only [w_put_r, reduceIte, Nat.reduceEqDiff, pt_at]
            rw [tpo S a' (-1) (by decide), gk_none]
            intro k hk
            have := (k8 k (by omega)).2.2.2.2.2.1
            exact decide_eq_false (by omega)
          · simp only [w_put_r, reduceIte, Nat.reduceEqDiff, pt_at]
            rw [tpo S a' (-1) (by decide)]
          · simp only [w_put_r, reduceIte, Nat.reduceEqDiff, pt_at]
            rw [tpo S a' (-1) (by decide)]
          · rw [z1.2.1 142 rfl rfl]
            simp only [w_put_r, reduceIte, Nat.reduceEqDiff, pt_at]
          · rw [z1.2.1 143 rfl rfl]
            simp only [w_put_r, reduceIte, Nat.reduceEqDiff, pt_at]
          · rw [z1.2.1 144 rfl rfl]
            simp only [w_put_r, reduceIte, Nat.reduceEqDiff, pt_at]
            rw [show ((len.toNat : Nat) : Int) = len by omega]
          · rw [z4 u (by omega)]
            simp only [w_put_r, reduceIte, Nat.reduceEqDiff, pt_at]
          · refine ⟨f.toNat, by omega, by omega, fun k hk => ?_⟩
            have hb := hB k (by omega)
            have := z3 k (by omega) (by omega)
            simp only [w_put_r, reduceIte, Nat.reduceEqDiff, pt_at] at this
            show S.1 2 (f.toNat + k) = R1.1 145 (40 * n + k)
            rw [this, w_b_id hb.2.1 hb.2.2]
            exact hb.1.symm
          · have hb := hB j (by omega)
            have := z3 j (by omega) (by omega)
            simp only [w_put_r, reduceIte, Nat.reduceEqDiff, pt_at] at this
            rw [this, w_b_id hb.2.1 hb.2.2]
            have w4j := w4 j (by omega)
            have hg := (h.2.2.2.2.2.2 (j : Int) (by omega)).1 (by omega)
            have e9 : (f + (j : Int)).toNat = f.toNat + j := by omega
            rw [e9, ← hb.1] at hg
            have h4' := hg.2.2.2
            have ra : 32 ≤ G j ∧ G j ≤ 126 := by
              have w5 := w4j
              unfold rwb at w5
              simp only [Bool.and_eq_true, decide_eq_true_eq] at w5
              exact w5.1
            have : R.1 130 j = G j := by
              split at h4' <;> omega
            rw [this]
            exact w4j
        · simp only [w_put_r, reduceIte, Nat.reduceEqDiff, pt_at]
          rw [tpo S a' (-1) (by decide)]
        · show R1.1 141 = _
          rw [z1.2.1 141 rfl rfl]
          simp only [w_put_r, reduceIte, Nat.reduceEqDiff, pt_at]
        · simp only [w_put_r, reduceIte, Nat.reduceEqDiff, pt_at]
      · refine ok_e g (ok_s (rs _ ?_))
        refine ok_b (ok_of y3 ?_)
        dsimp only
        rw [k4, k1]
        exact ok_t d (ok_e (by omega) (ok_e (by omega) (ok_s (ref _ (by omega) a' (-1) R (frm.refl _ _ _ _)))))
    · refine ok_e d (ok_s (rs _ ?_))
      refine ok_b (ok_of y3 ?_)
      dsimp only
      exact ok_e d (ok_s (ref _ (by omega) a' (-1) R (frm.refl _ _ _ _)))
end
section
-- cq
/-- so many steps up -/
def wk (g : Nat → Int) : Nat → Int → Int
  | 0, x => x
  | k + 1, x => if x = 0 then 0 else wk g k (g x.toNat)
theorem wk_0 (g : Nat → Int) : ∀ k, wk g k 0 = 0
  | 0 => rfl
  | k + 1 => by
    rw [wk, if_pos rfl]
theorem wk_add (g : Nat → Int) : ∀ (j k : Nat) (x : Int), wk g (j + k) x = wk g k (wk g j x)
  | 0, k, x => by
    rw [Nat.zero_add, wk]
  | j + 1, k, x => by
    rw [show j + 1 + k = (j + k) + 1 by omega, wk, wk]
    by_cases c : x = 0
    · rw [if_pos c, if_pos c, wk_0]
    · rw [if_neg c, if_neg c, wk_add g j k]
/-- nobody is above himself -/
theorem wk_ring {g : Nat → Int} {a : Int} {k : Nat} (ha : a ≠ 0) (hk : 1 ≤ k) (h : wk g k a = a) : ∀ m, wk g m a ≠ 0 := by
  intro m
  induction m using Nat.strongRecOn with
  | ind m ih =>
    intro z
    rcases Nat.lt_or_ge m k with c | c
    · have := wk_add g m (k - m) a
      rw [show m + (k - m) = k by omega, z, wk_0, h] at this
      exact ha this
    · have := wk_add g k (m - k) a
      rw [show k + (m - k) = m by omega, z, h] at this
      exact ih (m - k) (by omega) this.symm
theorem cnt_lt {P Q : Nat → Bool} : ∀ (n c : Nat), (∀ k, c ≤ k → k < c + n → P k = true → Q k = true) → (∃ k, c ≤ k ∧ k < c + n ∧ P k = false ∧ Q k = true) → cnt P c n < cnt Q c n
  | 0, c, _, h => by
    obtain ⟨k, h1, h2, _⟩ := h
    omega
  | n + 1, c, hm, h => by
    rw [cnt, cnt]
    have le : cnt P (c + 1) n ≤ cnt Q (c + 1) n := by
      by_cases d : ∃ k, c + 1 ≤ k ∧ k < c + 1 + n ∧ P k = false ∧ Q k = true
      · exact Int.le_of_lt (cnt_lt n (c + 1) (fun k a b => hm k (by omega) (by omega)) d)
      · have : cnt P (c + 1) n = cnt Q (c + 1) n := cnt_congr n (c + 1) (fun k a b => by
          cases hp : P k with
          | true => rw [hm k (by omega) (by omega) hp]
          | false =>
            cases hq : Q k with
            | false => rfl
            | true => exact absurd ⟨k, a, b, hp, hq⟩ d)
        omega
    obtain ⟨k, h1, h2, h3, h4⟩ := h
    by_cases d : k = c
    · subst d
      rw [h3, h4, if_neg (by decide), if_pos rfl]
      omega
    · have lt := cnt_lt n (c + 1) (fun k a b => hm k (by omega) (by omega)) ⟨k, by omega, by omega, h3, h4⟩
      have : (if P c = true then (1 : Int) else 0) ≤ (if Q c = true then 1 else 0) := by
        cases hp : P c with
        | true => rw [hm c (by omega) (by omega) hp]; decide
        | false => rw [if_neg (by decide)]; split <;> decide
      omega
/-- who comes to 0 at all comes there within the number of all -/
theorem wk_h {g : Nat → Int} {h : Nat} (hg : ∀ a : Nat, 1 ≤ a → a ≤ h → 0 ≤ g a ∧ g a ≤ h) : ∀ (m : Nat) (a : Int), 0 ≤ a → a ≤ h → wk g m a = 0 → wk g h a = 0 := by
  have st : ∀ (k : Nat) (a : Int), 0 ≤ a → a ≤ h → 0 ≤ wk g k a ∧ wk g k a ≤ h := by
    intro k
    induction k with
    | zero => intro a h1 h2; exact ⟨h1, h2⟩
    | succ k ih =>
      intro a h1 h2
      rw [wk]
      split
      · omega
      · have := hg a.toNat (by omega) (by omega)
        exact ih _ this.1 this.2
  have mono : ∀ (j k : Nat) (a : Int), wk g j a = 0 → wk g (j + k) a = 0 := fun j k a z => by
    rw [wk_add, z, wk_0]
  intro m
  induction m using Nat.strongRecOn with
  | ind m ih =>
    intro a h1 h2 hz
    by_cases c : m ≤ h
    · have := mono m (h - m) a hz
      rw [show m + (h - m) = h by omega] at this
      exact this
    · by_cases d : wk g (m - 1) a = 0
      · exact ih (m - 1) (by omega) a h1 h2 d
      · exfalso
        have key : ∀ j : Nat, j ≤ m → (j : Int) ≤ cnt (fun b => decide (wk g j (b : Int) = 0)) 1 h := by
          intro j
          induction j with
          | zero => intro _; have := cnt_le (fun b => decide (wk g 0 (b : Int) = 0)) h 1; omega
          | succ j ihj =>
            intro hj
            have i1 := ihj (by omega)
            have lt : cnt (fun b => decide (wk g j (b : Int) = 0)) 1 h < cnt (fun b => decide (wk g (j + 1) (b : Int) = 0)) 1 h := by
              refine cnt_lt h 1 (fun k a1 a2 hp => ?_) ?_
              · rw [decide_eq_true_eq] at hp ⊢
                exact mono j 1 _ hp
              · have s1 := st (m - (j + 1)) a h1 h2
                have e1 := wk_add g (m - (j + 1)) (j + 1) a
                rw [show m - (j + 1) + (j + 1) = m by omega, hz] at e1
                have e2 := wk_add g (m - (j + 1)) j a
                rw [show m - (j + 1) + j = m - 1 by omega] at e2
                have ne : wk g (m - (j + 1)) a ≠ 0 := fun z => by
                  rw [z, wk_0] at e2
                  exact d e2
                refine ⟨(wk g (m - (j + 1)) a).toNat, by omega, by omega, ?_, ?_⟩
                · rw [show (((wk g (m - (j + 1)) a).toNat : Nat) : Int) = wk g (m - (j + 1)) a by omega, decide_eq_false_iff_not, ← e2]
                  exact d
                · rw [show (((wk g (m - (j + 1)) a).toNat : Nat) : Int) = wk g (m - (j + 1)) a by omega, decide_eq_true_eq, ← e1]
            omega
        have k1 := key m (by omega)
        have k2 := cnt_le (fun b => decide (wk g m (b : Int) = 0)) h 1
        omega
def hit (g : Nat → Int) (t : Int) : Nat → Int → Bool
  | 0, _ => false
  | k + 1, x => if x = 0 then false else if x = t then true else hit g t k (g x.toNat)
theorem hit_wk {g : Nat → Int} {t : Int} : ∀ (m : Nat) (x : Int), hit g t m x = true → ∃ k, k < m ∧ wk g k x = t ∧ t ≠ 0
  | 0, x, h => by
    rw [hit] at h
    cases h
  | m + 1, x, h => by
    rw [hit] at h
    by_cases c : x = 0
    · rw [if_pos c] at h
      cases h
    · rw [if_neg c] at h
      by_cases d : x = t
      · exact ⟨0, by omega, d, by omega⟩
      · rw [if_neg d] at h
        obtain ⟨k, k1, k2, k3⟩ := hit_wk m _ h
        exact ⟨k + 1, by omega, by rw [wk, if_neg c]; exact k2, k3⟩
/-- what is above what, in both; no rings -/
def RelAb (S R : w_S)  : Prop := R.1 129 24 = S.1 17 0 ∧ 0 ≤ S.1 17 0 ∧ S.1 17 0 ≤ 80 ∧ (∀ a : Nat, 1 ≤ a → (a : Int) ≤ S.1 17 0 → R.1 141 a = S.1 18 a ∧ 0 ≤ S.1 18 a ∧ S.1 18 a ≤ S.1 17 0) ∧ ∀ a : Nat, 1 ≤ a → (a : Int) ≤ S.1 17 0 → ∃ m, wk (S.1 18) m a = 0
theorem RelAb.fr {S R S1 R1 : w_S}  {L O L' O' : List Nat} {J J' : List (Nat × Nat)} (h : RelAb S R ) (hf : frm L O J S S1) (hg : frm L' O' J' R R1) (dd : (ckA L O [18] && (ckS L J [(17, 0)] && (ckA L' O' [141] && ckS L' J' [(129, 24)]))) = true) : RelAb S1 R1  := by
  have d := ck4 dd
  have a0 : S1.1 18 = S.1 18 := hf.2.1 18 (d.1 18 (by decide)).1 (d.1 18 (by decide)).2
  have b0 : S1.1 17 0 = S.1 17 0 := hf.2.2 17 0 (d.2.1 (17, 0) (by decide)).1 (d.2.1 (17, 0) (by decide)).2
  have g0 : R1.1 141 = R.1 141 := hg.2.1 141 (d.2.2.1 141 (by decide)).1 (d.2.2.1 141 (by decide)).2
  have k0 : R1.1 129 24 = R.1 129 24 := hg.2.2 129 24 (d.2.2.2 (129, 24) (by decide)).1 (d.2.2.2 (129, 24) (by decide)).2
  unfold RelAb at h ⊢
  simp only [a0, b0, g0, k0]
  exact h
theorem l_under {e : w_E} {N : Nat} {S R : w_S} {t : Int} (h : RelAb S R) (ht : t ≠ 0) : ∀ (m i nf : Nat) (x : Int), i + m = 81 → m < nf → 0 ≤ x → x ≤ S.1 17 0 → wk (S.1 18) (m - 1) x = 0 → 1 ≤ m → El_Authority_isUnder e N nf 0 [t, x, (i : Int)] [] S = some (if hit (S.1 18) t m x = true then 1 else 0, S)
  | _, _, 0, _, _, h, _, _, _, _ => by omega
  | 0, _, _ + 1, _, _, _, _, _, _, h => by omega
  | m + 1, i, nf + 1, x, g1, g2, g3, g4, g5, g6 => by
    obtain ⟨k1, k2, k3, k4, k5⟩ := h
    refine ok_eq ?_
    rw [El_Authority_isUnder, hit]
    refine ok_e (by omega) ?_
    by_cases c : x = 0
    · rw [show (if (if x = 0 then false else if x = t then true else hit (S.1 18) t m ((S.1 18) x.toNat)) = true then (1 : Int) else 0) = 0 by rw [if_pos c]; rfl]
      exact ok_t c (ok_s ⟨rfl, rfl⟩)
    · refine ok_e c ?_
      by_cases d : x = t
      · rw [show (if (if x = 0 then false else if x = t then true else hit (S.1 18) t m ((S.1 18) x.toNat)) = true then (1 : Int) else 0) = 1 by rw [if_neg c, if_pos d]; rfl]
        exact ok_t d (ok_s ⟨rfl, rfl⟩)
      · rw [show (if (if x = 0 then false else if x = t then true else hit (S.1 18) t m ((S.1 18) x.toNat)) = true then (1 : Int) else 0) = if hit (S.1 18) t m ((S.1 18) x.toNat) = true then 1 else 0 by rw [if_neg c, if_neg d]]
        have q := (k4 x.toNat (by omega) (by omega)).2
        rw [show m + 1 - 1 = m by omega] at g5
        cases m with
        | zero => exact absurd g5 c
        | succ m =>
          rw [wk, if_neg c] at g5
          have ih := l_under (e := e) (N := N) (t := t) ⟨k1, k2, k3, k4, k5⟩ ht (m + 1) (i + 1) nf (S.1 18 x.toNat) (by omega) (by omega) q.1 q.2 (by rw [show m + 1 - 1 = m by omega]; exact g5) (by omega)
          rw [show ((i + 1 : Nat) : Int) = (i : Int) + 1 by omega] at ih
          exact ok_e d (ok_ib (by omega) (ok_nb (by omega) (ok_of ih ⟨rfl, rfl⟩)))
theorem RelAb.w80 {S R : w_S} (h : RelAb S R) {x : Int} (h0 : 0 ≤ x) (h1 : x ≤ S.1 17 0) : wk (S.1 18) 80 x = 0 := by
  obtain ⟨k1, k2, k3, k4, k5⟩ := h
  by_cases c : x = 0
  · rw [c, wk_0]
  · obtain ⟨m, hm⟩ := k5 x.toNat (by omega) (by omega)
    rw [show ((x.toNat : Nat) : Int) = x by omega] at hm
    have := wk_h (g := S.1 18) (h := (S.1 17 0).toNat) (fun a a1 a2 => by
      have := (k4 a a1 (by omega)).2
      omega) m x h0 (by omega) hm
    have w := wk_add (S.1 18) (S.1 17 0).toNat (80 - (S.1 17 0).toNat) x
    rw [this, wk_0, show (S.1 17 0).toNat + (80 - (S.1 17 0).toNat) = 80 by omega] at w
    exact w
theorem x_under {e : w_E} {N : Nat} {S R : w_S} {x t : Int} (hN : 1000 ≤ N) (h : RelAb S R) (ht : t ≠ 0) (h0 : 0 ≤ x) (h1 : x ≤ S.1 17 0) : E_Authority_isUnder e N x t S = some (if hit (S.1 18) t 81 x = true then 1 else 0, S) := by
  unfold E_Authority_isUnder
  exact l_under h ht 81 0 N x (by omega) (by omega) h0 h1 (h.w80 h0 h1) (by omega)
theorem l_broadR {e : w_E} {N : Nat} {S R : w_S} {t o : Int} (h : RelAb S R) (ht : 1 ≤ t) (ht2 : t ≤ S.1 17 0) : ∀ (m nf : Nat) (x : Int), m < nf → 0 ≤ x → x ≤ S.1 17 0 → wk (S.1 18) m x = 0 → El_R_doBroader e N nf 0 [t, o, x] [] R = if hit (S.1 18) t (m + 1) x = true then some (-3, w_put R 129 4 1) else some (1, w_put R 141 t.toNat o)
  | _, 0, _, h, _, _, _ => by omega
  | m, nf + 1, x, g2, g3, g4, g5 => by
    have hh := h
    obtain ⟨k1, k2, k3, k4, k5⟩ := hh
    rw [El_R_doBroader, hit]
    by_cases c : x = 0
    · rw [if_pos (show x ≤ 0 by omega), if_pos (by rw [w_ibE]; omega), if_pos c, if_neg (by decide)]
    · rw [if_neg (show ¬ x ≤ 0 by omega), if_neg c]
      by_cases d : x = t
      · rw [if_neg (show ¬ x ≠ t by omega), if_pos d, if_pos rfl]
      · rw [if_pos d, if_neg d, if_pos (by rw [w_ibE]; omega)]
        obtain ⟨q1, q2, q3⟩ := k4 x.toNat (by omega) (by omega)
        rw [q1]
        cases m with
        | zero => exact absurd g5 c
        | succ m =>
          rw [wk, if_neg c] at g5
          exact l_broadR (e := e) (N := N) (t := t) (o := o) h ht ht2 m nf (S.1 18 x.toNat) (by omega) q2 q3 g5
/-- a step put anew leaves no ring -/
theorem wk_new {g : Nat → Int} {t o : Int} {h : Nat} (ht : 1 ≤ t) (hg : ∀ a : Nat, 1 ≤ a → a ≤ h → 0 ≤ g a ∧ g a ≤ h) (ho : hit g t 81 o = false) (hz : wk g 80 o = 0) (ho0 : 0 ≤ o) (ho1 : o ≤ h) : ∀ (m : Nat) (b : Int), 0 ≤ b → b ≤ h → wk g m b = 0 → ∃ m', wk (pt g t.toNat o) m' b = 0 := by
  have away : ∀ (m : Nat) (x : Int), 0 ≤ x → x ≤ h → hit g t (m + 1) x = false → wk g m x = 0 → ∃ m', wk (pt g t.toNat o) m' x = 0 := by
    intro m
    induction m with
    | zero => intro x _ _ _ z; exact ⟨0, z⟩
    | succ m ih =>
      intro x x0 x1 hx z
      by_cases c : x = 0
      · exact ⟨0, c⟩
      · rw [hit, if_neg c] at hx
        by_cases d : x = t
        · rw [if_pos d] at hx
          cases hx
        · rw [if_neg d] at hx
          rw [wk, if_neg c] at z
          have q := hg x.toNat (by omega) (by omega)
          obtain ⟨m', hm⟩ := ih _ q.1 q.2 hx z
          refine ⟨m' + 1, ?_⟩
          rw [wk, if_neg c, pt_at, if_neg (by omega)]
          exact hm
  intro m
  induction m with
  | zero => intro b _ _ z; exact ⟨0, z⟩
  | succ m ih =>
    intro b b0 b1 z
    by_cases c : b = 0
    · exact ⟨0, c⟩
    · by_cases d : b = t
      · obtain ⟨m', hm⟩ := away 80 o ho0 ho1 ho hz
        refine ⟨m' + 1, ?_⟩
        rw [wk, if_neg c, pt_at, if_pos (by omega)]
        exact hm
      · rw [wk, if_neg c] at z
        have q := hg b.toNat (by omega) (by omega)
        obtain ⟨m', hm⟩ := ih _ q.1 q.2 z
        refine ⟨m' + 1, ?_⟩
        rw [wk, if_neg c, pt_at, if_neg (by omega)]
        exact hm
theorem t_broader {e : w_E} {N : Nat} {S R : w_S} {x1 x2 : Int} (hN : 1000 ≤ N) (h : RelAb S R) : Ok (E_Authority_setBroader e N x1 x2 S) (fun y S1 => Ok (E_R_doBroader e N x1 x2 R) (fun y' R1 => Pa S R (fun _ S1 R1 => frm [18] [] [] S S1 ∧ frm [141] [] [] R R1 ∧ RelAb S1 R1) y S1 y' R1)) := by
  have hh := h
  obtain ⟨k1, k2, k3, k4, k5⟩ := hh
  by_cases c : 1 ≤ x1 ∧ x1 ≤ S.1 17 0 ∧ 0 ≤ x2 ∧ x2 ≤ S.1 17 0
  · have xu := x_under (e := e) (N := N) (x := x2) (t := x1) hN h (by omega) c.2.2.1 c.2.2.2
    have w80 := h.w80 c.2.2.1 c.2.2.2
    have xr := l_broadR (e := e) (N := N) (o := x2) h c.1 c.2.1 80 N x2 (by omega) c.2.2.1 c.2.2.2 w80
    have rr : E_R_doBroader e N x1 x2 R = El_R_doBroader e N N 0 [x1, x2, x2] [] R := by
      unfold E_R_doBroader
      rw [k1, if_neg (by omega), if_neg (by omega), if_neg (by omega), if_neg (by omega)]
    have cont : ∀ r, r = (if hit (S.1 18) x1 81 x2 = true then (1 : Int) else 0) → Ok (if r = 0 then (if w_ib x1 81 = true then some (1, (w_put S 18 x1.toNat x2)) else none) else some ((-3), S)) (fun y S1 => Ok (E_R_doBroader e N x1 x2 R) (fun y' R1 => Pa S R (fun _ S1 R1 => frm [18] [] [] S S1 ∧ frm [141] [] [] R R1 ∧ RelAb S1 R1) y S1 y' R1)) := by
      intro r hr
      rw [rr, xr]
      by_cases d : hit (S.1 18) x1 81 x2 = true
      · rw [if_pos d] at hr
        rw [if_pos d]
        exact ok_e (by omega) (ok_s (ok_s ⟨rfl, Or.inl ⟨by omega, rfl, rfl⟩⟩))
      · rw [if_neg d] at hr
        rw [if_neg d]
        have d' : hit (S.1 18) x1 81 x2 = false := by
          cases q : hit (S.1 18) x1 81 x2 with
          | true => exact absurd q d
          | false => rfl
        refine ok_t (by omega) (ok_ib (by omega) (ok_s (ok_s ⟨rfl, Or.inr ⟨by omega, by repeat (first | exact frm.refl _ _ _ _ | refine frm.put ?_ rfl | refine frm.puto ?_ rfl rfl), by repeat (first | exact frm.refl _ _ _ _ | refine frm.put ?_ rfl | refine frm.puto ?_ rfl rfl), ?_, ?_, ?_, fun a a1 a2 => ?_, fun a a1 a2 => ?_⟩⟩)))
        · simp only [w_put_r, reduceIte, Nat.reduceEqDiff, pt_at]
          exact k1
        · simp only [w_put_r, reduceIte, Nat.reduceEqDiff, pt_at]
          exact k2
        · simp only [w_put_r, reduceIte, Nat.reduceEqDiff, pt_at]
          exact k3
        · simp only [w_put_r, reduceIte, Nat.reduceEqDiff, pt_at] at a2 ⊢
          by_cases q : a = x1.toNat
          · rw [if_pos q, if_pos q]
            omega
          · rw [if_neg q, if_neg q]
            exact k4 a a1 a2
        · simp only [w_put_r, reduceIte, Nat.reduceEqDiff, pt_at] at a2 ⊢
          obtain ⟨m, hm⟩ := k5 a a1 a2
          exact wk_new (g := S.1 18) (t := x1) (o := x2) (h := (S.1 17 0).toNat) (by omega) (fun b b1 b2 => by
            have := (k4 b b1 (by omega)).2
            omega) d' w80 (by omega) (by omega) m (a : Int) (by omega) (by omega) hm
    unfold E_Authority_setBroader
    refine ok_e (by omega) (ok_e (by omega) ?_)
    by_cases d : x2 = 0
    · exact ok_t d (ok_b (ok_of xu (cont _ rfl)))
    · exact ok_e d (ok_e (by omega) (ok_e (by omega) (ok_b (ok_of xu (cont _ rfl)))))
  · unfold E_Authority_setBroader E_R_doBroader
    rw [k1]
    clear k4 k5 h
    have h : True := trivial
    repeat' (first | with_reducible refine ok_nb (by omega) ?_ | with_reducible refine ok_ib (by omega) ?_ | with_reducible refine ok_t (by omega) ?_ | with_reducible refine ok_e (by omega) ?_ | with_reducible refine ok_if (fun h => ?_) (fun h => ?_) | with_reducible refine ok_s ?_ | with_reducible refine ok_b ?_)
    all_goals first | exact ⟨rfl, Or.inl ⟨by omega, rfl, rfl⟩⟩ | (exfalso; omega)
theorem no_ring {S R : w_S} (h : RelAb S R) {a : Nat} (h1 : 1 ≤ a) (h2 : (a : Int) ≤ S.1 17 0) : ∀ m, hit (S.1 18) (a : Int) m (S.1 18 a) = false := by
  intro m
  cases q : hit (S.1 18) (a : Int) m (S.1 18 a) with
  | false => rfl
  | true =>
    obtain ⟨k, _, k2, k3⟩ := hit_wk m _ q
    obtain ⟨m', hm⟩ := h.2.2.2.2 a h1 h2
    have w : wk (S.1 18) (k + 1) (a : Int) = a := by
      rw [wk, if_neg k3, show ((a : Int)).toNat = a by omega]
      exact k2
    exact absurd hm (wk_ring k3 (by omega) w m')
theorem l_ringsC {e : w_E} {N : Nat} {S R : w_S} (hN : 1000 ≤ N) (h : RelAb S R) : ∀ (k i nf : Nat), 1 ≤ i → (i : Int) + k = S.1 17 0 + 1 → k < nf → El_Authority_ringedHeadings e N nf 0 [0, (i : Int)] [] S = some (0, S)
  | _, _, 0, _, _, h => by omega
  | 0, i, nf + 1, g1, g2, g3 => by
    refine ok_eq ?_
    rw [El_Authority_ringedHeadings]
    exact ok_t (by omega) (ok_s ⟨rfl, rfl⟩)
  | k + 1, i, nf + 1, g1, g2, g3 => by
    have k4 := h.2.2.2.1 i g1 (by omega)
    have k3 := h.2.2.1
    have xu := x_under (e := e) (N := N) (x := S.1 18 i) (t := (i : Int)) hN h (by omega) k4.2.1 k4.2.2
    rw [no_ring h g1 (by omega), if_neg (by decide)] at xu
    have ih := l_ringsC (e := e) (N := N) hN h k (i + 1) nf (by omega) (by omega) (by omega)
    rw [show ((i + 1 : Nat) : Int) = (i : Int) + 1 by omega] at ih
    refine ok_eq ?_
    rw [El_Authority_ringedHeadings]
    refine ok_e (by omega) (ok_ib (by omega) ?_)
    rw [show ((i : Int)).toNat = i by omega]
    refine ok_b (ok_of xu ?_)
    dsimp only
    exact ok_t rfl (ok_nb (by omega) (ok_nb (by omega) (ok_of ih ⟨rfl, rfl⟩)))
theorem l_ringsR1 {e : w_E} {N i : Nat} {S R : w_S} {Q : Int → w_S → Prop} (h : RelAb S R) (hi : 1 ≤ i) (hi2 : (i : Int) ≤ S.1 17 0) : ∀ (m j nf : Nat) (x : Int), m < nf → (j : Int) + m = S.1 17 0 → 0 ≤ x → x ≤ S.1 17 0 → hit (S.1 18) (i : Int) (m + 1) x = false → (∀ n', nf ≤ n' + m + 1 → Ok (El_R_rings e N n' 0 [0 + 0, (i : Int) + 1] [] R) Q) → Ok (El_R_rings e N nf 1 [0, (i : Int), x, (j : Int)] [] R) Q
  | _, _, 0, _, h, _, _, _, _, _ => by omega
  | m, j, nf + 1, x, g1, g2, g3, g4, g5, hq => by
    obtain ⟨k1, k2, k3, k4, k5⟩ := h
    rw [hit] at g5
    have xne : x ≠ (i : Int) := fun z => by
      rw [if_neg (by omega), if_pos z] at g5
      cases g5
    have q := hq nf (by omega)
    rw [El_R_rings, k1]
    by_cases c : S.1 17 0 ≤ (j : Int)
    · exact ok_t c (ok_t xne (ok_nb (by omega) (ok_nb (by omega) q)))
    · refine ok_e c (ok_e xne ?_)
      by_cases d : x ≤ 0
      · exact ok_t d (ok_nb (by omega) (ok_nb (by omega) q))
      · rw [if_neg (by omega), if_neg xne] at g5
        obtain ⟨q1, q2, q3⟩ := k4 x.toNat (by omega) (by omega)
        cases m with
        | zero => omega
        | succ m =>
          have ih := l_ringsR1 (e := e) (N := N) (i := i) (Q := Q) ⟨k1, k2, k3, k4, k5⟩ hi hi2 m (j + 1) nf (S.1 18 x.toNat) (by omega) (by omega) q2 q3 g5 (fun n' hn => hq n' (by omega))
          rw [show ((j + 1 : Nat) : Int) = (j : Int) + 1 by omega] at ih
          rw [q1]
          exact ok_e d (ok_ib (by omega) (ok_nb (by omega) ih))
theorem l_ringsR {e : w_E} {N : Nat} {S R : w_S} (h : RelAb S R) : ∀ (k i nf : Nat), 1 ≤ i → (i : Int) + k = S.1 17 0 + 1 → 100 * k < nf → Ok (El_R_rings e N nf 0 [0, (i : Int)] [] R) (fun y R1 => y = 0 ∧ R1 = R)
  | _, _, 0, _, _, h => by omega
  | 0, i, nf + 1, g1, g2, g3 => by
    rw [El_R_rings, h.1]
    exact ok_t (by omega) (ok_s ⟨rfl, rfl⟩)
  | k + 1, i, nf + 1, g1, g2, g3 => by
    have k4 := h.2.2.2.1 i g1 (by omega)
    have k3 := h.2.2.1
    rw [El_R_rings, h.1]
    refine ok_e (by omega) (ok_ib (by omega) ?_)
    rw [show ((i : Int)).toNat = i by omega, k4.1]
    refine l_ringsR1 (e := e) (N := N) h g1 (by omega) (S.1 17 0).toNat 0 nf (S.1 18 i) (by omega) (by omega) k4.2.1 k4.2.2 (no_ring h g1 (by omega) _) (fun n' hn => ?_)
    have ih := l_ringsR (e := e) (N := N) h k (i + 1) n' (by omega) (by omega) (by omega)
    rw [show ((i + 1 : Nat) : Int) = (i : Int) + 1 by omega] at ih
    exact ih
theorem q_broken3 {e : w_E} {N : Nat} {S R : w_S} (hN : 10000 ≤ N) (h : RelAb S R) : E_Authority_ringedHeadings e N S = some (0, S) ∧ E_R_rings e N R = some (0, R) := by
  have a0 := h.2.1
  have a1 := h.2.2.1
  unfold E_Authority_ringedHeadings E_R_rings
  exact ⟨l_ringsC (by omega) h (S.1 17 0).toNat 1 N (by omega) (by omega) (by omega), ok_eq (l_ringsR h (S.1 17 0).toNat 1 N (by omega) (by omega) (by omega))⟩
end
