section
-- g4
/-- the lines' places in the text, from a place on -/
def qf (P : Int → Int) (q0 : Int) : Nat → Int
  | 0 => q0
  | j + 1 => P (qf P q0 j)
theorem h_step4 {e : w_E} {N : Nat} (n i : Nat) (T : w_S) (hi : i ≤ 8) : El_RuleBook_readLines e N (n + 1) 0 [((4 : Nat) : Int), ((4 : Nat) : Int), (i : Int)] [] T = if 8 ≤ i then LnE e N ((4 : Nat) : Int) ((4 : Nat) : Int) (i : Int) T else if i = 0 then Ln4 e N 4 (i : Int) T (fun U => El_RuleBook_readLines e N n 0 [((4 : Nat) : Int), ((4 : Nat) : Int), (i : Int) + 1] [] U) else (E_Tape_peek e N T).bind (fun q => if q.1 = -1 then LnE e N ((4 : Nat) : Int) ((4 : Nat) : Int) (i : Int) q.2 else Ln4 e N 4 (i : Int) q.2 (fun U => El_RuleBook_readLines e N n 0 [((4 : Nat) : Int), ((4 : Nat) : Int), (i : Int) + 1] [] U)) := by
  rw [ln_step, if_pos (show w_ib ((4 : Nat) : Int) 5 = true from rfl)]
  have e1 : ((pg_sv.getD 1 []).getD (((4 : Nat) : Int)).toNat 0).toInt = 8 := rfl
  have e2 : w_nb ((i : Int) * ((4 : Nat) : Int)) = true := by
    rw [w_nbE]
    omega
  rw [e1, if_pos e2]
  by_cases c : 8 ≤ i
  · rw [if_pos c, if_pos (by omega)]
  · rw [if_neg c, if_neg (by omega)]
    by_cases c0 : i = 0
    · rw [if_pos c0, if_pos (by omega)]
      rfl
    · rw [if_neg c0, if_neg (by omega)]
      refine congrArg _ (funext (fun q => ?_))
      by_cases c1 : q.1 = -1
      · rw [if_pos c1, if_pos c1]
      · rw [if_neg c1, if_neg c1, if_pos e2]
        rfl
abbrev LSa : List Nat := [36, 38, 39, 40, 42, 43, 44]
abbrev LSj : List (Nat × Nat) := [(37, 0)]
/-- what the reading of steps leaves: as many as it says, or where it is wrong -/
def FinL (T0 : w_S) (G : Int → Int) (top d q0 y : Int) (S1 : w_S) : Prop := ∃ (T' : w_S) (a' w' : Int), frm LSa [37] LSj T0 T' ∧ if 0 ≤ d then y = d ∧ 1 ≤ d ∧ d ≤ 8 ∧ S1 = w_put (w_cpy (tp T' a' (-1)) 36 34 0 0 (4 * d.toNat)) 35 4 d ∧ T'.1 37 0 ≤ 8 ∧ ∀ j : Nat, (j : Int) < d → BsC (T'.1 36) T' (T0.1 2) top j (bsp G (qf (stq G) q0 j)) else y = -999 + d ∧ S1 = tp T' a' w'
theorem BsC.up {g g' : Nat → Int} {T T' : w_S} {t2 : Nat → Int} {top : Int} {i F F' : Nat} {s : Bst} (h : BsC g T t2 top i s) (hF : T.1 37 0 = (F : Int)) (hF' : T'.1 37 0 = (F' : Int)) (hl : F ≤ F') (hg : ∀ u, u < 4 * i + 4 → g' u = g u) (h1 : ∀ u, u < F → T'.1 38 u = T.1 38 u ∧ T'.1 39 u = T.1 39 u ∧ T'.1 40 u = T.1 40 u ∧ T'.1 42 u = T.1 42 u) (h2 : ∀ u, u < 13 * F → T'.1 43 u = T.1 43 u ∧ T'.1 44 u = T.1 44 u) (hs : s.2.2.2.2.2.2.2.length ≤ 13) : BsC g' T' t2 top i s := by
  obtain ⟨a1, a2, a3, a4⟩ := h
  refine ⟨by rw [hg _ (by omega)]; exact a1, fun z => by rw [hg _ (by omega)]; exact a2 z, fun z => by rw [hg _ (by omega), hg _ (by omega), hg _ (by omega)]; exact a3 z, fun z => ?_⟩
  obtain ⟨P, b1, b2, b3, b4⟩ := a4 z
  rw [hF] at b2
  obtain ⟨c1, c2, c3, c4⟩ := h1 P (by omega)
  refine ⟨P, by rw [hg _ (by omega)]; exact b1, by rw [hF']; omega, b3, ?_⟩
  obtain ⟨d1, d2, d3, d4, d5⟩ := b4
  refine ⟨by rw [c1]; exact d1, by rw [c2]; exact d2, by rw [c3]; exact d3, by rw [c4]; exact d4, fun j hj => ?_⟩
  obtain ⟨e1, e2⟩ := h2 (13 * P + j) (by omega)
  rw [e1, e2]
  exact d5 j hj
theorem bsp_subs (G : Int → Int) (q : Int) : (bsp G q).2.2.2.2.2.2.2.length ≤ 5 := by
  unfold bsp
  split
  · show (fd0.2.2.2).length ≤ 5
    decide
  · split
    · show (fd0.2.2.2).length ≤ 5
      decide
    · exact Fld_subs G (q + 4)
theorem stq_bd {G : Int → Int} {len q : Int} (hG : ∀ p, len ≤ p → G p = -1) (h : Bd len q) : Bd len (stq G q) := by
  have hw : ∀ c, c ∈ skw (skd G q) → 0 ≤ c := by
    unfold skw
    intro c hc
    split at hc
    · revert c; decide
    · split at hc
      · revert c; decide
      · revert c; decide
  have hs : Bd len (sts G q) := by
    unfold sts
    exact pB_bd hG (by decide) (pL_bd hG _ hw h)
  unfold stq
  split
  · exact hs
  · split
    · exact pB_bd hG (by decide) (pT_bd hG hs)
    · split
      · have h1 : Bd len (pB G 32 (pP cdb G (pB G 32 (pT G 10 (sts G q))))) := pB_bd hG (by decide) (pP_bd hG rfl (pB_bd hG (by decide) (pT_bd hG hs)))
        rw [pB_row G rfl]
        exact pB_bd hG (by decide) (pV_bd hG h1).1
      · rw [fq_eq]
        exact fqR_bd hG hs
theorem l_ln4n {e : w_E} {N i nf : Nat} {T : w_S} {f len a w q : Int} {G : Int → Int} (hT : TX T f len G) (ha : At f len a w q) (hi : 1 ≤ i) (hi2 : i ≤ 8) (hq : q < 0) (hb : -3000 ≤ q) : Ok (El_RuleBook_readLines e N (nf + 1) 0 [((4 : Nat) : Int), ((4 : Nat) : Int), (i : Int)] [] (tp T a w)) (fun y S1 => y = -999 + q ∧ ∃ a' w', S1 = tp T a' w') := by
  have key : Ok (LnE e N ((4 : Nat) : Int) ((4 : Nat) : Int) (i : Int) (tp T a w)) (fun y S1 => y = -999 + q ∧ ∃ a' w', S1 = tp T a' w') := by
    refine (x_lnE (e := e) (N := N) (c := 4) (i := i) (W := ((4 : Nat) : Int)) hT ha (by decide) ⟨by omega, by omega⟩ hb).mono ?_
    intro y S1 z
    rw [if_neg (by omega), if_pos hq] at z
    exact z
  rw [h_step4 _ _ _ hi2]
  by_cases c : 8 ≤ i
  · exact ok_t c key
  · refine ok_e c (ok_e (by omega) (ok_b (ok_of (x_peek hT ha) ?_)))
    refine ok_t ?_ key
    rw [if_pos hq]
/-- the class's loop over the lines of a batch -/
theorem l_ln4 {e : w_E} {N : Nat} {T0 : w_S} {f len q0 : Int} {G : Int → Int} (hN : 2001 ≤ N) (hl2 : len ≤ 2000) : ∀ (k i nf F : Nat) (T : w_S) (a w q : Int), i + k = 8 → k + 1 < nf → TX T f len G → At f len a w q → 0 ≤ q → frm LSa [37] LSj T0 T → T.1 37 0 = (F : Int) → F ≤ i → q = qf (stq G) q0 i → (∀ j, j < i → BsC (T.1 36) T (T0.1 2) (f + len) j (bsp G (qf (stq G) q0 j))) → Ok (El_RuleBook_readLines e N nf 0 [((4 : Nat) : Int), ((4 : Nat) : Int), (i : Int)] [] (tp T a w)) (fun y S1 => FinL T0 G (f + len) (rdl (stq G) len k i q) q0 y S1)
  | _, _, 0, _, _, _, _, _, _, h, _, _, _, _, _, _, _, _ => by omega
  | k, i, nf + 1, F, T, a, w, q, g1, g2, hT, ha, h0, hf, h37, hF, hq, hv => by
    have hl := ha.pos h0
    have t2 : T.1 2 = T0.1 2 := hf.2.1 2 rfl rfl
    have lend : (8 ≤ i ∨ 1 ≤ i ∧ len ≤ q) → Ok (LnE e N ((4 : Nat) : Int) ((4 : Nat) : Int) (i : Int) (tp T a w)) (fun y S1 => FinL T0 G (f + len) (rdl (stq G) len k i q) q0 y S1) := by
      intro hh
      refine (x_lnE (e := e) (N := N) (c := 4) (i := i) (W := ((4 : Nat) : Int)) hT ha (by decide) ⟨by omega, by omega⟩ (by omega)).mono ?_
      intro y S1 z
      by_cases d : len ≤ q
      · have er : rdl (stq G) len k i q = i := by
          cases k with
          | zero => rw [rdl, if_pos ⟨by omega, d⟩]
          | succ k => rw [rdl, if_pos ⟨by omega, d⟩]
        rw [if_pos ⟨h0, d⟩] at z
        obtain ⟨z1, a', z2⟩ := z
        refine ⟨T, a', -1, hf, ?_⟩
        rw [er, if_pos (by omega)]
        refine ⟨z1, by omega, by omega, ?_, by omega, fun j hj => hv j (by omega)⟩
        rw [z2, show ((i : Int) * ((4 : Nat) : Int)).toNat = 4 * ((i : Int)).toNat by omega]
      · have er : rdl (stq G) len k i q = -1 - q := by
          have : k = 0 := by omega
          subst this
          rw [rdl, if_neg (by omega)]
        rw [if_neg (by omega), if_neg (by omega)] at z
        obtain ⟨z1, a', w', z2⟩ := z
        refine ⟨T, a', w', hf, ?_⟩
        rw [er, if_neg (by omega)]
        exact ⟨z1, z2⟩
    have lrest : ∀ k', k = k' + 1 → ¬ (1 ≤ i ∧ len ≤ q) → Ok (Ln4 e N 4 (i : Int) (tp T a w) (fun U => El_RuleBook_readLines e N nf 0 [((4 : Nat) : Int), ((4 : Nat) : Int), (i : Int) + 1] [] U)) (fun y S1 => FinL T0 G (f + len) (rdl (stq G) len k i q) q0 y S1) := by
      intro k' hk' hn
      subst hk'
      refine x_ln4 (F := F) hN hT ha (by omega) hF h37 (fun T' F' a' w' r1 r2 r3 r4 r5 r6 r7 r8 r9 => ?_)
      rw [if_neg (by omega)] at r1
      have pq : Bd len (stq G q) := stq_bd hT.e ⟨by omega, hl⟩
      unfold Bd at pq
      rw [rdl, if_neg hn, show (i : Int) + 1 = ((i + 1 : Nat) : Int) by omega]
      have fT' : frm LSa [37] LSj T0 T' := hf.trans r2
      have hT' : TX T' f len G := hT.cg (r2.2.1 1 rfl rfl) (r2.2.1 2 rfl rfl)
      by_cases d : stq G q < 0
      · rw [if_pos d]
        cases nf with
        | zero => omega
        | succ nf =>
          refine (l_ln4n (e := e) (N := N) (nf := nf) hT' r1 (by omega) (by omega) d (by omega)).mono ?_
          intro y S1 ⟨z1, a2, w2, z2⟩
          refine ⟨T', a2, w2, fT', ?_⟩
          rw [if_neg (by omega)]
          exact ⟨z1, z2⟩
      · rw [if_neg d]
        refine l_ln4 hN hl2 k' (i + 1) nf F' T' a' w' (stq G q) (by omega) (by omega) hT' r1 (by omega) fT' r3 (by omega) (by rw [hq]; rfl) (fun j hj => ?_)
        by_cases ej : j = i
        · subst ej
          have := r9 h0 (by omega)
          rw [t2, hq] at this
          exact this
        · exact (hv j (by omega)).up h37 r3 r4 (fun u hu => r6 u (by omega)) r7 r8 (Nat.le_trans (bsp_subs G _) (by decide))
    rw [h_step4 _ _ _ (by omega)]
    by_cases c : 8 ≤ i
    · exact ok_t c (lend (Or.inl c))
    refine ok_e c ?_
    by_cases c0 : i = 0
    · exact ok_t c0 (lrest (k - 1) (by omega) (by omega))
    refine ok_e c0 (ok_b (ok_of (x_peek hT ha) ?_))
    rw [if_neg (show ¬ q < 0 by omega)]
    have tx := hT.2.2.2.2.2.2 q h0
    by_cases d : len ≤ q
    · exact ok_t (tx.2 d) (lend (Or.inr ⟨by omega, d⟩))
    · refine ok_e (fun z => ?_) (lrest (k - 1) (by omega) (by omega))
      have k4 := (tx.1 (by omega)).2.2.2
      have k1 := (tx.1 (by omega)).1
      have k2 := (tx.1 (by omega)).2.1
      have z' : G q = -1 := z
      rw [z'] at k4
      split at k4 <;> omega
/-- the class reads the steps of a batch -/
theorem x_steps {e : w_E} {N : Nat} {T : w_S} {f len a w q : Int} {G : Int → Int} (hN : 2001 ≤ N) (hT : TX T f len G) (ha : At f len a w q) (hb : Bd len q) : Ok (E_RuleBook_readLines e N 4 (tp T a w)) (fun y S1 => FinL T G (f + len) (if q < 0 then q else rdl (stq G) len 8 0 q) q y S1) := by
  have hl2 : len ≤ 2000 := hT.2.2.2.2.1
  unfold Bd at hb
  have hE : E_RuleBook_readLines e N 4 (tp T a w) = El_RuleBook_readLines e N N 0 [((4 : Nat) : Int), ((4 : Nat) : Int), ((0 : Nat) : Int)] [] (tp (w_put T 37 0 0) a w) := by
    unfold E_RuleBook_readLines
    rw [if_pos (show w_ib (4 : Int) 5 = true from rfl), show ((pg_sv.getD 0 []).getD (4 : Int).toNat 0).toInt = 4 from rfl, tp_put _ _ _ _ (by decide)]
    rfl
  rw [hE]
  have f0 : frm LSa [37] LSj T (w_put T 37 0 0) := by repeat (first | exact frm.refl _ _ _ _ | refine frm.put ?_ rfl | refine frm.puto ?_ rfl rfl)
  have hT0 : TX (w_put T 37 0 0) f len G := hT.put (by decide) (by decide)
  by_cases c : q < 0
  · rw [if_pos c]
    obtain ⟨nf, hnf⟩ : ∃ n, N = n + 1 + 1 := ⟨N - 2, by omega⟩
    rw [show El_RuleBook_readLines e N N = El_RuleBook_readLines e N (nf + 1 + 1) by rw [← hnf], h_step4 _ _ _ (by omega)]
    refine ok_e (by omega) (ok_t rfl ?_)
    refine x_ln4 (F := 0) hN hT0 ha (by omega) (by omega) (by simp only [w_put_r, reduceIte, Nat.reduceEqDiff, pt_at]; rfl) (fun T' F' a' w' r1 r2 r3 r4 r5 r6 r7 r8 r9 => ?_)
    rw [if_pos c] at r1
    refine (l_ln4n (e := e) (N := N) (nf := nf) (i := 1) (hT0.cg (r2.2.1 1 rfl rfl) (r2.2.1 2 rfl rfl)) r1 (by omega) (by omega) c (by omega)).mono ?_
    intro y S1 ⟨z1, a2, w2, z2⟩
    refine ⟨T', a2, w2, f0.trans r2, ?_⟩
    rw [if_neg (by omega)]
    exact ⟨z1, z2⟩
  · rw [if_neg c]
    exact l_ln4 hN hl2 8 0 N 0 (w_put T 37 0 0) a w q (by omega) (by omega) hT0 ha (by omega) f0 (by simp only [w_put_r, reduceIte, Nat.reduceEqDiff, pt_at]; rfl) (by omega) rfl (fun j hj => by omega)
end
section
-- g5
/-- the tail of a step that sets -/
def stT (e : w_E) (N : Nat) (x2 q1 : Int) (S : w_S) : e_R := (if w_nb (x2 + 2) = true then ((E_R_at e N (q1 + 1) S).bind (fun q1036 => (if w_ib (x2 + 2) 40 = true then (if w_nb (q1 + 2) = true then ((E_R_at e N (q1 + 2) (w_put q1036.2 193 ((x2 + 2).toNat) q1036.1)).bind (fun q1037 => (if q1037.1 = 32 then (if w_nb (x2 + 3) = true then (if w_nb (q1 + 3) = true then (if w_ib (x2 + 3) 40 = true then ((E_R_row e N (q1 + 3) (w_put q1037.2 193 ((x2 + 3).toNat) (q1 + 3))).bind (fun q1038 => (if 0 ≤ q1038.1 then (if w_nb (x2 + 4) = true then (if w_ib (x2 + 4) 40 = true then ((E_R_at e N q1038.1 (w_put q1038.2 193 ((x2 + 4).toNat) q1038.1)).bind (fun q1039 => (if q1039.1 ≠ 10 then (if w_nb ((-1) - q1038.1) = true then some ((-1) - q1038.1, q1039.2) else none) else (if w_nb (q1038.1 + 1) = true then some (q1038.1 + 1, q1039.2) else none)))) else none) else none) else some (q1038.1, q1038.2)))) else none) else none) else none) else (if w_nb ((-1) - (q1 + 2)) = true then some ((-1) - (q1 + 2), q1037.2) else none)))) else none) else none))) else none)
theorem x_stT {e : w_E} {N m : Nat} {S : w_S} {len q1 : Int} {G : Int → Int} (hN : 2001 ≤ N) (hm : m < 8) (h : TR S len G) (h0 : 0 ≤ q1) (hl : q1 ≤ len) : Ok (stT e N (5 * (m : Int)) q1 S) (fun y S1 => y = pB G 10 (pV G (pB G 32 (q1 + 2))) ∧ frm [193] [] [] S S1 ∧ (∀ u, (u < 5 * m + 2 ∨ 5 * m + 5 ≤ u) → S1.1 193 u = S.1 193 u) ∧ (0 ≤ y → S1.1 193 (5 * m + 2) = G (q1 + 1) ∧ S1.1 193 (5 * m + 3) = q1 + 3 ∧ S1.1 193 (5 * m + 4) = pV G (q1 + 3))) := by
  have lb : len ≤ 2000 := h.2.2.1
  unfold stT
  rw [show (5 * (m : Int) + 2).toNat = 5 * m + 2 by omega, show (5 * (m : Int) + 3).toNat = 5 * m + 3 by omega, show (5 * (m : Int) + 4).toNat = 5 * m + 4 by omega]
  refine ok_nb (by omega) (ok_b (ok_of (x_at h (by omega)) (ok_ib (by omega) (ok_nb (by omega) (ok_b ?_)))))
  have h1 : TR (w_put S 193 (5 * m + 2) (G (q1 + 1))) len G := h.put (Or.inl (by decide)) (by decide)
  refine ok_of (x_at h1 (by omega)) ?_
  dsimp only
  by_cases c : G (q1 + 2) = 32
  rotate_left
  · have e1 : pB G 32 (q1 + 2) = -1 - (q1 + 2) := by
      unfold pB
      rw [if_neg (by omega), if_neg c]
    have e2 : pV G (-1 - (q1 + 2)) = -1 - (q1 + 2) := pV_neg (by omega)
    have e3 : pB G 10 (-1 - (q1 + 2)) = -1 - (q1 + 2) := pB_neg (by omega)
    rw [e1, e2, e3]
    refine ok_e c (ok_nb (by omega) (ok_s ⟨rfl, by repeat (first | exact frm.refl _ _ _ _ | refine frm.put ?_ rfl | refine frm.puto ?_ rfl rfl), fun u hu => ?_, fun z => by omega⟩))
    simp only [w_put_r, reduceIte, Nat.reduceEqDiff, pt_at]
    rw [if_neg (by omega)]
  have e1 : pB G 32 (q1 + 2) = q1 + 3 := by
    unfold pB
    rw [if_neg (by omega), if_pos c]
    omega
  rw [e1]
  have ql : q1 + 3 ≤ len := by
    rcases Int.lt_or_le (q1 + 2) len with d | d
    · omega
    · have := h.e (q1 + 2) d
      omega
  refine ok_t c (ok_nb (by omega) (ok_nb (by omega) (ok_ib (by omega) (ok_b ?_))))
  have h2 : TR (w_put (w_put S 193 (5 * m + 2) (G (q1 + 1))) 193 (5 * m + 3) (q1 + 3)) len G := h1.put (Or.inl (by decide)) (by decide)
  refine ok_of (x_rowR hN h2 (by omega) ql) ?_
  dsimp only
  have vb := pV_bd h.e (show Bd len (q1 + 3) from ⟨by omega, ql⟩)
  have vb1 := vb.1
  unfold Bd at vb1
  by_cases d : 0 ≤ pV G (q1 + 3)
  rotate_left
  · rw [pB_neg (by omega)]
    refine ok_e d (ok_s ⟨rfl, by repeat (first | exact frm.refl _ _ _ _ | refine frm.put ?_ rfl | refine frm.puto ?_ rfl rfl), fun u hu => ?_, fun z => absurd z d⟩)
    simp only [w_put_r, reduceIte, Nat.reduceEqDiff, pt_at]
    rw [if_neg (by omega), if_neg (by omega)]
  refine ok_t d (ok_nb (by omega) (ok_ib (by omega) (ok_b ?_)))
  have h3 : TR (w_put (w_put (w_put S 193 (5 * m + 2) (G (q1 + 1))) 193 (5 * m + 3) (q1 + 3)) 193 (5 * m + 4) (pV G (q1 + 3))) len G := h2.put (Or.inl (by decide)) (by decide)
  refine ok_of (x_at h3 d) ?_
  dsimp only
  by_cases c2 : G (pV G (q1 + 3)) = 10
  · refine ok_e (fun z => z c2) (ok_nb (by omega) (ok_s ⟨?_, by repeat (first | exact frm.refl _ _ _ _ | refine frm.put ?_ rfl | refine frm.puto ?_ rfl rfl), fun u hu => ?_, fun _ => ⟨?_, ?_, ?_⟩⟩))
    · unfold pB
      rw [if_neg (by omega), if_pos c2]
    · simp only [w_put_r, reduceIte, Nat.reduceEqDiff, pt_at]
      rw [if_neg (by omega), if_neg (by omega), if_neg (by omega)]
    · simp only [w_put_r, reduceIte, Nat.reduceEqDiff, pt_at]
      rw [if_neg (by omega), if_neg (by omega)]
    · simp only [w_put_r, reduceIte, Nat.reduceEqDiff, pt_at]
      rw [if_neg (by omega)]
    · simp only [w_put_r, reduceIte, Nat.reduceEqDiff, pt_at]
  · refine ok_t c2 (ok_nb (by omega) (ok_s ⟨?_, by repeat (first | exact frm.refl _ _ _ _ | refine frm.put ?_ rfl | refine frm.puto ?_ rfl rfl), fun u hu => ?_, fun z => by omega⟩))
    · unfold pB
      rw [if_neg (by omega), if_neg c2]
    · simp only [w_put_r, reduceIte, Nat.reduceEqDiff, pt_at]
      rw [if_neg (by omega), if_neg (by omega), if_neg (by omega)]
theorem neg3 {G : Int → Int} {x : Int} (h : x < 0) : pB G 10 (pV G (pB G 32 x)) = x := by rw [pB_neg h, pV_neg h, pB_neg h]
theorem neg4 {G : Int → Int} {x : Int} (h : x < 0) : pB G 10 (pV G (pB G 32 (pP cdb G x))) = x := by rw [pP_neg h, neg3 h]
theorem neg5 {G : Int → Int} {x : Int} (h : x < 0) : pB G 10 (pV G (pB G 32 (pP cdb G (pB G 32 x)))) = x := by rw [pB_neg (b := 32) h, neg4 h]
/-- a step as the reference holds it -/
def BrC (g : Nat → Int) (G : Int → Int) (m : Nat) (q : Int) : Prop := g (5 * m) = skd G q ∧ (skd G q = 0 → g (5 * m + 1) = vl G (q + 4) 3) ∧ (skd G q = 1 → g (5 * m + 1) = vl G (q + 4) 3 ∧ g (5 * m + 2) = G (q + 8) ∧ g (5 * m + 3) = q + 10 ∧ g (5 * m + 4) = q + 10 + (nw rwb G 40 (q + 10) : Nat)) ∧ (skd G q = 2 → g (5 * m + 3) = q + 4 ∧ g (5 * m + 4) = stq G q)
theorem sts_lit {G : Int → Int} {q : Int} {L : List Int} (h : L = skw (skd G q) ++ [32]) : pL G L q = sts G q := by
  rw [h, pL_snoc]
  rfl
theorem x_stepR {e : w_E} {N m : Nat} {R : w_S} {len q : Int} {G : Int → Int} (hN : 2001 ≤ N) (hm : m < 8) (h : TR R len G) (h0 : 0 ≤ q) (hl : q ≤ len) : Ok (E_R_stepText e N q (5 * (m : Int)) R) (fun y R1 => y = stq G q ∧ frm [193] [129] [(129, 3)] R R1 ∧ (∀ u, (u < 5 * m ∨ 5 * m + 5 ≤ u) → R1.1 193 u = R.1 193 u) ∧ (0 ≤ y → BrC (R1.1 193) G m q)) := by
  have lb : len ≤ 2000 := h.2.2.1
  have sb : Bd len (stq G q) := stq_bd h.e ⟨by omega, hl⟩
  unfold E_R_stepText
  rw [show (5 * (m : Int)).toNat = 5 * m by omega, show (5 * (m : Int) + 1).toNat = 5 * m + 1 by omega, show (5 * (m : Int) + 3).toNat = 5 * m + 3 by omega, show (5 * (m : Int) + 4).toNat = 5 * m + 4 by omega]
  refine ok_b (ok_of (x_at h h0) ?_)
  dsimp only
  have hs : 0 ≤ sts G q → sts G q = q + 4 ∧ q + 4 ≤ len := fun z => by
    have k := (sts_ge z).2
    refine ⟨k, ?_⟩
    unfold sts at z k
    obtain ⟨a1, a2, a3⟩ := pB_ge z
    rcases Int.lt_or_le (pL G (skw (skd G q)) q) len with d | d
    · omega
    · have := h.e _ d
      omega
  have neg : ∀ R1 : w_S, sts G q < 0 → R1 = R → (sts G q = stq G q ∧ frm [193] [129] [(129, 3)] R R1 ∧ (∀ u, (u < 5 * m ∨ 5 * m + 5 ≤ u) → R1.1 193 u = R.1 193 u) ∧ (0 ≤ sts G q → BrC (R1.1 193) G m q)) := fun R1 z e1 => by
    subst e1
    refine ⟨?_, frm.refl _ _ _ _, fun _ _ => rfl, fun z2 => by omega⟩
    unfold stq
    rw [if_pos z]
  by_cases c1 : G q = 100
  · -- del
    have sk : skd G q = 0 := by
      unfold skd
      rw [if_pos c1]
    refine ok_e (fun z => z c1) (ok_b (ok_of (x_lit12 hN h h0 (by omega)) ?_))
    rw [sts_lit (show wl 12 = skw (skd G q) ++ [32] by rw [sk]; decide)]
    dsimp only
    by_cases d : 0 ≤ sts G q
    rotate_left
    · exact ok_e d (ok_s (neg _ (by omega) rfl))
    obtain ⟨s1, s2⟩ := hs d
    have se : stq G q = pB G 10 (pT G 1 (q + 4)) := by
      unfold stq
      rw [if_neg (by omega), if_pos sk, s1]
    rw [s1]
    refine ok_t (by omega) (ok_ib (by omega) (ok_b ?_))
    have h1 : TR (w_put R 193 (5 * m) 0) len G := h.put (Or.inl (by decide)) (by decide)
    obtain ⟨X, x1, x2, x3⟩ := x_tagText (e := e) (N := N) (lo := 1) hN h1 (show 0 ≤ q + 4 by omega) s2
    refine ok_of x1 ?_
    dsimp only
    by_cases d2 : 0 ≤ pT G 1 (q + 4)
    rotate_left
    · refine ok_e d2 (ok_s ⟨by rw [se, pB_neg (by omega)], ?_, ?_, fun z => absurd z d2⟩)
      · rcases x3 with x3 | x3
        · rw [x3]
          repeat (first | exact frm.refl _ _ _ _ | refine frm.put ?_ rfl | refine frm.puto ?_ rfl rfl)
        · rw [x3]
          repeat (first | exact frm.refl _ _ _ _ | refine frm.put ?_ rfl | refine frm.puto ?_ rfl rfl)
      · intro u hu
        rcases x3 with x3 | x3
        · rw [x3]
          simp only [w_put_r, reduceIte, Nat.reduceEqDiff, pt_at]
          rw [if_neg (by omega)]
        · rw [x3]
          simp only [w_put_r, reduceIte, Nat.reduceEqDiff, pt_at]
          rw [if_neg (by omega)]
    rw [x2 d2]
    have pt := (pT_ge2 d2).2
    rw [pt]
    refine ok_t (by omega) (ok_nb (by omega) (ok_ib (by omega) (ok_t (by omega) (ok_b ?_))))
    have h2 : TR (w_put (w_put (w_put R 193 (5 * m) 0) 129 3 (vl G (q + 4) 3)) 193 (5 * m + 1) ((w_put (w_put R 193 (5 * m) 0) 129 3 (vl G (q + 4) 3)).1 129 3)) len G := (h1.put (Or.inr rfl) (by decide)).put (Or.inl (by decide)) (by decide)
    refine ok_of (x_at h2 (by omega)) ?_
    dsimp only
    have fin : ∀ y : Int, y = stq G q → (y = stq G q ∧ frm [193] [129] [(129, 3)] R (w_put (w_put (w_put R 193 (5 * m) 0) 129 3 (vl G (q + 4) 3)) 193 (5 * m + 1) ((w_put (w_put R 193 (5 * m) 0) 129 3 (vl G (q + 4) 3)).1 129 3)) ∧ (∀ u, (u < 5 * m ∨ 5 * m + 5 ≤ u) → (w_put (w_put (w_put R 193 (5 * m) 0) 129 3 (vl G (q + 4) 3)) 193 (5 * m + 1) ((w_put (w_put R 193 (5 * m) 0) 129 3 (vl G (q + 4) 3)).1 129 3)).1 193 u = R.1 193 u) ∧ (0 ≤ y → BrC ((w_put (w_put (w_put R 193 (5 * m) 0) 129 3 (vl G (q + 4) 3)) 193 (5 * m + 1) ((w_put (w_put R 193 (5 * m) 0) 129 3 (vl G (q + 4) 3)).1 129 3)).1 193) G m q)) := fun y hy => by
      refine ⟨hy, by repeat (first | exact frm.refl _ _ _ _ | refine frm.put ?_ rfl | refine frm.puto ?_ rfl rfl), fun u hu => ?_, fun _ => ⟨?_, fun _ => ?_, fun z => by omega, fun z => by omega⟩⟩
      · simp only [w_put_r, reduceIte, Nat.reduceEqDiff, pt_at]
        rw [if_neg (by omega), if_neg (by omega)]
      · simp only [w_put_r, reduceIte, Nat.reduceEqDiff, pt_at]
        rw [if_neg (by omega), sk]
      · simp only [w_put_r, reduceIte, Nat.reduceEqDiff, pt_at]
    rw [pt] at se
    by_cases d3 : G (q + 4 + 3) = 10
    · refine ok_e (fun z => z d3) (ok_nb (by omega) (ok_s (fin _ ?_)))
      rw [se]
      unfold pB
      rw [if_neg (by omega), if_pos d3]
    · refine ok_t d3 (ok_nb (by omega) (ok_s (fin _ ?_)))
      rw [se]
      unfold pB
      rw [if_neg (by omega), if_neg d3]
  refine ok_t c1 ?_
  by_cases c2 : G q = 115
  · -- set
    have sk : skd G q = 1 := by
      unfold skd
      rw [if_neg c1, if_pos c2]
    refine ok_e (fun z => z c2) (ok_b (ok_of (x_lit11 hN h h0 (by omega)) ?_))
    rw [sts_lit (show wl 13 = skw (skd G q) ++ [32] by rw [sk]; decide)]
    dsimp only
    by_cases d : 0 ≤ sts G q
    rotate_left
    · exact ok_e d (ok_s (neg _ (by omega) rfl))
    obtain ⟨s1, s2⟩ := hs d
    have se : stq G q = pB G 10 (pV G (pB G 32 (pP cdb G (pB G 32 (pT G 10 (q + 4)))))) := by
      unfold stq
      rw [if_neg (by omega), if_neg (by omega), if_pos sk, s1, pB_row G rfl]
    rw [s1]
    refine ok_t (by omega) (ok_ib (by omega) (ok_b ?_))
    have h1 : TR (w_put R 193 (5 * m) 1) len G := h.put (Or.inl (by decide)) (by decide)
    obtain ⟨X, x1, x2, x3⟩ := x_tagText (e := e) (N := N) (lo := 10) hN h1 (show 0 ≤ q + 4 by omega) s2
    refine ok_of x1 ?_
    dsimp only
    by_cases d2 : 0 ≤ pT G 10 (q + 4)
    rotate_left
    · refine ok_e d2 (ok_s ⟨by rw [se, neg5 (by omega)], ?_, ?_, fun z => absurd z d2⟩)
      · rcases x3 with x3 | x3
        · rw [x3]
          repeat (first | exact frm.refl _ _ _ _ | refine frm.put ?_ rfl | refine frm.puto ?_ rfl rfl)
        · rw [x3]
          repeat (first | exact frm.refl _ _ _ _ | refine frm.put ?_ rfl | refine frm.puto ?_ rfl rfl)
      · intro u hu
        rcases x3 with x3 | x3
        · rw [x3]
          simp only [w_put_r, reduceIte, Nat.reduceEqDiff, pt_at]
          rw [if_neg (by omega)]
        · rw [x3]
          simp only [w_put_r, reduceIte, Nat.reduceEqDiff, pt_at]
          rw [if_neg (by omega)]
    rw [x2 d2]
    have pt := (pT_ge2 d2).2
    have pl : q + 4 + 3 ≤ len := by
      have := pT_bd (lo := 10) h.e (show Bd len (q + 4) from ⟨by omega, s2⟩)
      unfold Bd at this
      omega
    rw [pt] at se ⊢
    refine ok_t (by omega) (ok_nb (by omega) (ok_ib (by omega) (ok_b ?_)))
    generalize hR2 : w_put (w_put (w_put R 193 (5 * m) 1) 129 3 (vl G (q + 4) 3)) 193 (5 * m + 1) ((w_put (w_put R 193 (5 * m) 1) 129 3 (vl G (q + 4) 3)).1 129 3) = R2
    have h2 : TR R2 len G := by
      rw [← hR2]
      exact (h1.put (Or.inr rfl) (by decide)).put (Or.inl (by decide)) (by decide)
    have f2 : frm [193] [129] [(129, 3)] R R2 := by
      rw [← hR2]
      repeat (first | exact frm.refl _ _ _ _ | refine frm.put ?_ rfl | refine frm.puto ?_ rfl rfl)
    have u2 : ∀ u, (u < 5 * m ∨ 5 * m + 5 ≤ u) → R2.1 193 u = R.1 193 u := fun u hu => by
      rw [← hR2]
      simp only [w_put_r, reduceIte, Nat.reduceEqDiff, pt_at]
      rw [if_neg (by omega), if_neg (by omega)]
    have k0 : R2.1 193 (5 * m) = 1 := by
      rw [← hR2]
      simp only [w_put_r, reduceIte, Nat.reduceEqDiff, pt_at]
      rw [if_neg (by omega)]
    have k1 : R2.1 193 (5 * m + 1) = vl G (q + 4) 3 := by
      rw [← hR2]
      simp only [w_put_r, reduceIte, Nat.reduceEqDiff, pt_at]
    refine ok_of (x_at h2 (by omega)) ?_
    dsimp only
    by_cases d3 : G (q + 4 + 3) = 32
    rotate_left
    · have e1 : pB G 32 (q + 4 + 3) = -1 - (q + 4 + 3) := by
        unfold pB
        rw [if_neg (by omega), if_neg d3]
      refine ok_e d3 (ok_nb (by omega) (ok_s ⟨?_, f2, u2, fun z => by omega⟩))
      rw [se, e1, neg4 (by omega)]
    have e1 : pB G 32 (q + 4 + 3) = q + 4 + 3 + 1 := by
      unfold pB
      rw [if_neg (by omega), if_pos d3]
    rw [e1] at se
    have tail : cdb (G (q + 4 + 3 + 1)) = true → Ok (stT e N (5 * (m : Int)) (q + 4 + 3) R2) (fun y R1 => y = stq G q ∧ frm [193] [129] [(129, 3)] R R1 ∧ (∀ u, (u < 5 * m ∨ 5 * m + 5 ≤ u) → R1.1 193 u = R.1 193 u) ∧ (0 ≤ y → BrC (R1.1 193) G m q)) := fun cb => by
      refine (x_stT (e := e) hN hm h2 (show 0 ≤ q + 4 + 3 by omega) pl).mono ?_
      intro y R1 ⟨y1, y2, y3, y4⟩
      have e2 : pP cdb G (q + 4 + 3 + 1) = q + 4 + 3 + 2 := by
        unfold pP
        rw [if_neg (by omega), if_pos cb]
        omega
      rw [e2] at se
      refine ⟨by rw [y1, se], f2.trans (y2.weak (by decide)), fun u hu => by rw [y3 u (by omega), u2 u hu], fun z => ?_⟩
      obtain ⟨a1, a2, a3⟩ := y4 z
      rw [y1] at z
      refine ⟨?_, fun z2 => by omega, fun _ => ⟨?_, ?_, ?_, ?_⟩, fun z2 => by omega⟩
      · rw [y3 _ (by omega), k0, sk]
      · rw [y3 _ (by omega), k1]
      · rw [a1, show q + 4 + 3 + 1 = q + 8 by omega]
      · rw [a2]
        omega
      · rw [a3]
        have e3 : pB G 32 (q + 4 + 3 + 2) = q + 10 := by
          obtain ⟨b1, _, _⟩ := pB_ge z
          have b2 : 0 ≤ pB G 32 (q + 4 + 3 + 2) := by
            rcases Int.lt_or_le (pB G 32 (q + 4 + 3 + 2)) 0 with dd | dd
            · rw [pV_neg dd] at b1
              exact b1
            · exact dd
          rw [(pB_ge b2).2.2]
          omega
        rw [e3, ← pB_row G rfl] at z
        rw [show q + 4 + 3 + 3 = q + 10 by omega]
        have z2 := (pB_ge z).1
        have z3 := (pW_ge2 z2).2.1
        have z4 := (pB_ge z).2
        rcases row2 (G := G) (show 0 ≤ q + 10 by omega) with rr | ⟨rr1, rr2, rr3⟩
        · rw [rr]
          exact z3
        · rw [rr1] at z4
          rw [z4.1] at rr3
          cases rr3
    have wrg : ¬ cdb (G (q + 4 + 3 + 1)) = true → (-1) - (q + 4 + 3 + 1) = stq G q := fun cb => by
      have e2 : pP cdb G (q + 4 + 3 + 1) = -1 - (q + 4 + 3 + 1) := by
        unfold pP
        rw [if_neg (by omega), if_neg cb]
      rw [se, e2, neg3 (by omega)]
    have bad : ¬ cdb (G (q + 4 + 3 + 1)) = true → Ok (if w_nb ((-1) - (q + 4 + 3 + 1)) = true then some ((-1) - (q + 4 + 3 + 1), R2) else none) (fun y R1 => y = stq G q ∧ frm [193] [129] [(129, 3)] R R1 ∧ (∀ u, (u < 5 * m ∨ 5 * m + 5 ≤ u) → R1.1 193 u = R.1 193 u) ∧ (0 ≤ y → BrC (R1.1 193) G m q)) := fun cb => ok_nb (by omega) (ok_s ⟨wrg cb, f2, u2, fun z => by omega⟩)
    have cdE : cdb (G (q + 4 + 3 + 1)) = true ↔ (97 ≤ G (q + 4 + 3 + 1) ∧ G (q + 4 + 3 + 1) ≤ 122) ∨ (48 ≤ G (q + 4 + 3 + 1) ∧ G (q + 4 + 3 + 1) ≤ 57) := by
      unfold cdb
      simp only [Bool.or_eq_true, Bool.and_eq_true, decide_eq_true_eq]
    refine ok_t d3 (ok_nb (by omega) (ok_b (ok_of (x_at h2 (by omega)) ?_)))
    dsimp only
    by_cases k97 : G (q + 4 + 3 + 1) < 97
    · refine ok_t k97 (ok_b (ok_of (x_at h2 (by omega)) ?_))
      dsimp only
      by_cases k48 : G (q + 4 + 3 + 1) < 48
      · exact ok_t k48 (bad (fun z => by rw [cdE] at z; omega))
      refine ok_e k48 ?_
      by_cases k57 : 57 < G (q + 4 + 3 + 1)
      · exact ok_t k57 (bad (fun z => by rw [cdE] at z; omega))
      refine ok_e k57 ?_
      exact tail (cdE.2 (by omega))
    refine ok_e k97 ?_
    by_cases k122 : 122 < G (q + 4 + 3 + 1)
    · refine ok_t k122 (ok_b (ok_of (x_at h2 (by omega)) ?_))
      dsimp only
      refine ok_e (by omega) (ok_t (by omega) (bad (fun z => by rw [cdE] at z; omega)))
    · refine ok_e k122 ?_
      exact tail (cdE.2 (by omega))
  -- add
  have sk : skd G q = 2 := by
    unfold skd
    rw [if_neg c1, if_neg c2]
  refine ok_t c2 (ok_b (ok_of (x_lit10 hN h h0 (by omega)) ?_))
  rw [sts_lit (show wl 14 = skw (skd G q) ++ [32] by rw [sk]; decide)]
  dsimp only
  by_cases d : 0 ≤ sts G q
  rotate_left
  · exact ok_e d (ok_s (neg _ (by omega) rfl))
  obtain ⟨s1, s2⟩ := hs d
  have se : stq G q = fqC G (q + 4) := by
    unfold stq
    rw [if_neg (by omega), if_neg (by omega), if_neg (by omega), s1]
  rw [s1]
  refine ok_t (by omega) (ok_ib (by omega) (ok_nb (by omega) (ok_ib (by omega) (ok_b ?_))))
  have h1 : TR (w_put (w_put R 193 (5 * m) 2) 193 (5 * m + 3) (q + 4)) len G := (h.put (Or.inl (by decide)) (by decide)).put (Or.inl (by decide)) (by decide)
  refine ok_of (x_fieldText hN h1 (by omega) s2) ?_
  dsimp only
  rw [← fq_eq, ← se]
  refine ok_nb (by omega) (ok_ib (by omega) (ok_s ⟨rfl, by repeat (first | exact frm.refl _ _ _ _ | refine frm.put ?_ rfl | refine frm.puto ?_ rfl rfl), fun u hu => ?_, fun _ => ⟨?_, fun z => by omega, fun z => by omega, fun _ => ⟨?_, ?_⟩⟩⟩))
  · simp only [w_put_r, reduceIte, Nat.reduceEqDiff, pt_at]
    rw [if_neg (by omega), if_neg (by omega), if_neg (by omega)]
  · simp only [w_put_r, reduceIte, Nat.reduceEqDiff, pt_at]
    rw [if_neg (by omega), if_neg (by omega), sk]
  · simp only [w_put_r, reduceIte, Nat.reduceEqDiff, pt_at]
    rw [if_neg (by omega)]
  · simp only [w_put_r, reduceIte, Nat.reduceEqDiff, pt_at]
end
section
-- g6
/-- the reference's loop over the lines of a batch -/
theorem l_btx {e : w_E} {N : Nat} {len q0 : Int} {G : Int → Int} (hN : 2001 ≤ N) : ∀ (k i nf : Nat) (R : w_S) (q : Int), i + k = 8 → k + 1 < nf → TR R len G → 0 ≤ q → q ≤ len → R.1 129 97 = (i : Int) → q = qf (stq G) q0 i → (∀ j, j < i → BrC (R.1 193) G j (qf (stq G) q0 j)) → Ok (El_R_batchText e N nf 0 [q] [] R) (fun y R1 => frm [193] [129] [(129, 3), (129, 97)] R R1 ∧ (rdl (stq G) len k i q < 0 → y = rdl (stq G) len k i q) ∧ (0 ≤ rdl (stq G) len k i q → 0 ≤ y ∧ R1.1 129 97 = rdl (stq G) len k i q ∧ ∀ j : Nat, (j : Int) < rdl (stq G) len k i q → BrC (R1.1 193) G j (qf (stq G) q0 j)))
  | _, _, 0, _, _, _, h, _, _, _, _, _, _ => by omega
  | k, i, nf + 1, R, q, g1, g2, hR, h0, hl, h97, hq, hv => by
    have lb : len ≤ 2000 := hR.2.2.1
    have r2 : R.1 129 2 = len := hR.1
    have fin : 1 ≤ i → len ≤ q → Ok (some (q, R) : e_R) (fun y R1 => frm [193] [129] [(129, 3), (129, 97)] R R1 ∧ (rdl (stq G) len k i q < 0 → y = rdl (stq G) len k i q) ∧ (0 ≤ rdl (stq G) len k i q → 0 ≤ y ∧ R1.1 129 97 = rdl (stq G) len k i q ∧ ∀ j : Nat, (j : Int) < rdl (stq G) len k i q → BrC (R1.1 193) G j (qf (stq G) q0 j))) := fun i1 d => by
      have er : rdl (stq G) len k i q = i := by
        cases k with
        | zero => rw [rdl, if_pos ⟨i1, d⟩]
        | succ k => rw [rdl, if_pos ⟨i1, d⟩]
      rw [er]
      exact ok_s ⟨frm.refl _ _ _ _, fun z => by omega, fun _ => ⟨h0, h97, fun j hj => hv j (by omega)⟩⟩
    have full : i = 8 → ¬ len ≤ q → Ok (if w_nb ((-1) - q) = true then some ((-1) - q, R) else none) (fun y R1 => frm [193] [129] [(129, 3), (129, 97)] R R1 ∧ (rdl (stq G) len k i q < 0 → y = rdl (stq G) len k i q) ∧ (0 ≤ rdl (stq G) len k i q → 0 ≤ y ∧ R1.1 129 97 = rdl (stq G) len k i q ∧ ∀ j : Nat, (j : Int) < rdl (stq G) len k i q → BrC (R1.1 193) G j (qf (stq G) q0 j))) := fun i8 d => by
      have er : rdl (stq G) len k i q = -1 - q := by
        have : k = 0 := by omega
        subst this
        rw [rdl, if_neg (by omega)]
      rw [er]
      exact ok_nb (by omega) (ok_s ⟨frm.refl _ _ _ _, fun _ => rfl, fun z => by omega⟩)
    have rest : ¬ (1 ≤ i ∧ len ≤ q) → i < 8 → Ok (if w_nb (5 * (i : Int)) = true then ((E_R_stepText e N q (5 * (i : Int)) R).bind (fun q1019 => (if 0 ≤ q1019.1 then (if w_nb ((q1019.2.1 129 97) + 1) = true then El_R_batchText e N nf 0 [q1019.1] [] (w_put q1019.2 129 97 ((q1019.2.1 129 97) + 1)) else none) else some (q1019.1, q1019.2)))) else none) (fun y R1 => frm [193] [129] [(129, 3), (129, 97)] R R1 ∧ (rdl (stq G) len k i q < 0 → y = rdl (stq G) len k i q) ∧ (0 ≤ rdl (stq G) len k i q → 0 ≤ y ∧ R1.1 129 97 = rdl (stq G) len k i q ∧ ∀ j : Nat, (j : Int) < rdl (stq G) len k i q → BrC (R1.1 193) G j (qf (stq G) q0 j))) := fun hn i8 => by
      obtain ⟨k', hk'⟩ : ∃ k', k = k' + 1 := ⟨k - 1, by omega⟩
      subst hk'
      have pq : Bd len (stq G q) := stq_bd hR.e ⟨by omega, hl⟩
      unfold Bd at pq
      rw [rdl, if_neg hn]
      refine ok_nb (by omega) (ok_b ((x_stepR (e := e) (m := i) hN i8 hR h0 hl).mono ?_))
      intro y R1 ⟨y1, y2, y3, y4⟩
      dsimp only
      subst y1
      by_cases d : 0 ≤ stq G q
      rotate_left
      · rw [if_pos (show stq G q < 0 by omega)]
        exact ok_e d (ok_s ⟨y2.weak (by decide), fun _ => rfl, fun z => absurd z d⟩)
      rw [if_neg (show ¬ stq G q < 0 by omega)]
      have e97 : R1.1 129 97 = (i : Int) := by
        rw [y2.2.2 129 97 rfl rfl]
        exact h97
      rw [e97]
      refine ok_t d (ok_nb (by omega) ?_)
      generalize hR2 : w_put R1 129 97 ((i : Int) + 1) = R2
      have f2 : frm [193] [129] [(129, 3), (129, 97)] R R2 := (y2.weak (by decide)).trans (by rw [← hR2]; repeat (first | exact frm.refl _ _ _ _ | refine frm.put ?_ rfl | refine frm.puto ?_ rfl rfl))
      have e193 : R2.1 193 = R1.1 193 := by rw [← hR2]; rfl
      refine (l_btx hN k' (i + 1) nf R2 (stq G q) (by omega) (by omega) (hR.cg (f2.2.2 129 2 rfl rfl) (f2.2.1 130 rfl rfl)) d (by omega) (by rw [← hR2]; simp only [w_put_r, reduceIte, Nat.reduceEqDiff, pt_at]; omega) (by rw [hq]; rfl) (fun j hj => ?_)).mono ?_
      · rw [e193]
        by_cases ej : j = i
        · subst ej
          rw [← hq]
          exact y4 d
        · have a := hv j (by omega)
          unfold BrC at a ⊢
          rw [y3 _ (by omega), y3 _ (by omega), y3 _ (by omega), y3 _ (by omega), y3 _ (by omega)]
          exact a
      · intro y R3 ⟨z1, z2, z3⟩
        exact ⟨f2.trans z1, z2, z3⟩
    rw [El_R_batchText, h97, r2]
    by_cases c0 : i = 0
    · subst c0
      exact ok_t rfl (ok_t (by decide) (rest (by omega) (by omega)))
    refine ok_e (by omega) ?_
    by_cases d : len ≤ q
    · exact ok_t d (fin (by omega) d)
    refine ok_e d ?_
    by_cases c8 : i = 8
    · exact ok_e (by omega) (full c8 d)
    · exact ok_t (by omega) (rest (by omega) (by omega))
end
section
-- g7
/-- a row set in a field -/
def rps (c : Int) (r : List Int) : List Sfl → List Sfl
  | [] => [(c, r)]
  | s :: ss => if s.1 = c then (c, r) :: ss else s :: rps c r ss
def stf (c : Int) (r : List Int) (f : Fdl) : Fdl := (f.1, f.2.1, f.2.2.1, rps c r f.2.2.2)
def stm (t c : Int) (r : List Int) (f : Fdl) : Fdl := if f.1 = t then stf c r f else f
/-- fields of a tag taken out -/
def rmt (t : Int) : List Fdl → List Fdl
  | [] => []
  | f :: l => if f.1 = t then rmt t l else f :: rmt t l
/-- a step done to a document -/
def apb (s : Bst) (D : List Fdl) : List Fdl := if s.1 = 0 then rmt s.2.1 D else if s.1 = 1 then D.map (stm s.2.1 s.2.2.1 s.2.2.2.1) else D ++ [s.2.2.2.2]
theorem rps_some {c : Int} {r : List Int} : ∀ {ss : List Sfl} {k : Nat}, fsi c ss = some k → (rps c r ss).length = ss.length ∧ ∀ j, (rps c r ss).getD j (0, []) = if j = k then (c, r) else ss.getD j (0, [])
  | [], _, h => by cases h
  | s :: ss, k, h => by
    rw [fsi] at h
    rw [rps]
    by_cases c1 : s.1 = c
    · rw [if_pos c1] at h ⊢
      cases h
      refine ⟨rfl, fun j => ?_⟩
      cases j with
      | zero => rfl
      | succ j => rfl
    · rw [if_neg c1] at h ⊢
      cases hh : fsi c ss with
      | none => rw [hh] at h; cases h
      | some i =>
        rw [hh] at h
        have hk : i + 1 = k := Option.some.inj h
        subst hk
        obtain ⟨a, b⟩ := rps_some (r := r) hh
        refine ⟨by rw [List.length_cons, List.length_cons, a], fun j => ?_⟩
        cases j with
        | zero =>
          rw [if_neg (by omega)]
          rfl
        | succ j =>
          have := b j
          by_cases e1 : j = i
          · rw [if_pos (by omega)]
            rw [if_pos e1] at this
            exact this
          · rw [if_neg (by omega)]
            rw [if_neg e1] at this
            exact this
theorem rps_none {c : Int} {r : List Int} : ∀ {ss : List Sfl}, fsi c ss = none → rps c r ss = ss ++ [(c, r)]
  | [], _ => rfl
  | s :: ss, h => by
    rw [fsi] at h
    rw [rps]
    by_cases c1 : s.1 = c
    · rw [if_pos c1] at h
      cases h
    · rw [if_neg c1] at h ⊢
      cases hh : fsi c ss with
      | none => rw [rps_none hh]; rfl
      | some i => rw [hh] at h; cases h
/-- one field of the draft laid anew -/
def CpD (T T' : w_S) (x : Nat) (s1 s2 s3 s5 : Int) (g6 g7 : Nat → Int) : Prop := (∀ u, T'.1 121 u = if u = x then s1 else T.1 121 u) ∧ (∀ u, T'.1 122 u = if u = x then s2 else T.1 122 u) ∧ (∀ u, T'.1 123 u = if u = x then s3 else T.1 123 u) ∧ (∀ u, T'.1 125 u = if u = x then s5 else T.1 125 u) ∧ (∀ j, T'.1 126 j = if 13 * x ≤ j ∧ j < 13 * x + 13 then g6 (j - 13 * x) else T.1 126 j) ∧ ∀ j, T'.1 127 j = if 13 * x ≤ j ∧ j < 13 * x + 13 then g7 (j - 13 * x) else T.1 127 j
theorem CpD.ne {T T' : w_S} {x F : Nat} {s1 s2 s3 s5 top : Int} {g6 g7 t2 : Nat → Int} {f : Fdl} (h : CpD T T' x s1 s2 s3 s5 g6 g7) (hF : F ≠ x) (hs : f.2.2.2.length ≤ 13) (hd : DrF T t2 top F f) : DrF T' t2 top F f := by
  obtain ⟨h1, h2, h3, h4, h5, h6⟩ := h
  refine hd.congr (by rw [h1, if_neg hF]) (by rw [h2, if_neg hF]) (by rw [h3, if_neg hF]) (by rw [h4, if_neg hF]) (fun j hj => ⟨?_, ?_⟩)
  · rw [h5, if_neg (by omega)]
  · rw [h6, if_neg (by omega)]
theorem CpD.eq {T T' : w_S} {x : Nat} {s1 s2 s3 s5 top : Int} {g6 g7 t2 : Nat → Int} {f : Fdl} (h : CpD T T' x s1 s2 s3 s5 g6 g7) (hs : f.2.2.2.length ≤ 13) (e1 : s1 = f.1) (e2 : s2 = f.2.1) (e3 : s3 = f.2.2.1) (e5 : s5 = (f.2.2.2.length : Nat)) (e6 : ∀ j, j < f.2.2.2.length → g6 j = (f.2.2.2.getD j (0, [])).1 ∧ Rw t2 top (g7 j) (f.2.2.2.getD j (0, [])).2.length (fun u => (f.2.2.2.getD j (0, [])).2.getD u 0)) : DrF T' t2 top x f := by
  obtain ⟨h1, h2, h3, h4, h5, h6⟩ := h
  refine ⟨by rw [h1, if_pos rfl, e1], by rw [h2, if_pos rfl, e2], by rw [h3, if_pos rfl, e3], by rw [h4, if_pos rfl, e5], fun j hj => ?_⟩
  rw [h5, if_pos (by omega), h6, if_pos (by omega), show 13 * x + j - 13 * x = j by omega]
  exact e6 j hj
abbrev DRa : List Nat := [121, 122, 123, 125, 126, 127]
abbrev DRj : List (Nat × Nat) := [(120, 0)]
theorem twd126 (S : w_S) : e_two Tc S 126 126 = some (260, 260) := rfl
theorem twd127 (S : w_S) : e_two Tc S 127 127 = some (260, 260) := rfl
theorem getD_app1 {l m : List Fdl} {k : Nat} (h : k < l.length) : (l ++ m).getD k (0, 0, 0, []) = l.getD k (0, 0, 0, []) := by
  rw [List.getD_eq_getElem?_getD, List.getD_eq_getElem?_getD, List.getElem?_append_left h]
theorem getD_app2 {l m : List Fdl} {k : Nat} (h : l.length ≤ k) : (l ++ m).getD k (0, 0, 0, []) = m.getD (k - l.length) (0, 0, 0, []) := by
  rw [List.getD_eq_getElem?_getD, List.getD_eq_getElem?_getD, List.getElem?_append_right h]
/-- the class takes fields out of the draft -/
theorem l_rmf {e : w_E} {N : Nat} {t top : Int} {t2 : Nat → Int} : ∀ (l K : List Fdl) (x nf : Nat) (T : w_S), K.length ≤ x → x + l.length ≤ 20 → T.1 120 0 = ((x + l.length : Nat) : Int) → (∀ f, f ∈ K → f.2.2.2.length ≤ 13) → (∀ f, f ∈ l → f.2.2.2.length ≤ 13) → (∀ F, F < K.length → DrF T t2 top F (K.getD F (0, 0, 0, []))) → (∀ i, i < l.length → DrF T t2 top (x + i) (l.getD i (0, 0, 0, []))) → l.length < nf → Ok (El_Draft_removeFields e N nf 0 [t, (K.length : Int), (x : Int)] [] T) (fun _ S1 => frm DRa [120] DRj T S1 ∧ Dr S1 t2 top (K ++ rmt t l))
  | _, _, _, 0, _, _, _, _, _, _, _, _, h => by omega
  | [], K, x, nf + 1, T, g1, g2, g3, g4, g5, g6, g7, g8 => by
    rw [List.length_nil] at g3
    rw [El_Draft_removeFields, g3, rmt, List.append_nil]
    refine ok_t (by omega) (ok_s ⟨by repeat (first | exact frm.refl _ _ _ _ | refine frm.put ?_ rfl | refine frm.puto ?_ rfl rfl), by simp only [w_put_r, reduceIte, Nat.reduceEqDiff, pt_at], fun F hF => ?_⟩)
    exact (g6 F hF).congr rfl rfl rfl rfl (fun j _ => ⟨rfl, rfl⟩)
  | f :: l, K, x, nf + 1, T, g1, g2, g3, g4, g5, g6, g7, g8 => by
    rw [List.length_cons] at g2 g3 g7 g8
    have d0 := g7 0 (by omega)
    rw [Nat.add_zero] at d0
    have d0' : DrF T t2 top x f := d0
    have fs := g5 f List.mem_cons_self
    have tl : ∀ i, i < l.length → DrF T t2 top (x + 1 + i) (l.getD i (0, 0, 0, [])) := fun i hi => by
      have := g7 (i + 1) (by omega)
      rw [show x + (i + 1) = x + 1 + i by omega] at this
      exact this
    obtain ⟨b1, b2, b3, b4, b5⟩ := d0'
    rw [El_Draft_removeFields, g3, show ((x : Int)).toNat = x by omega, show ((K.length : Int)).toNat = K.length by omega, b1]
    refine ok_e (by omega) (ok_ib (by omega) ?_)
    by_cases c : f.1 = t
    · have e1 : rmt t (f :: l) = rmt t l := by rw [rmt, if_pos c]
      rw [e1]
      refine ok_t c (ok_nb (by omega) ?_)
      rw [show (x : Int) + 1 = ((x + 1 : Nat) : Int) by omega]
      exact l_rmf l K (x + 1) nf T (by omega) (by omega) (by rw [g3]; omega) g4 (fun g hg => g5 g (List.mem_cons_of_mem _ hg)) g6 tl (by omega)
    have e1 : rmt t (f :: l) = f :: rmt t l := by rw [rmt, if_neg c]
    rw [e1]
    refine ok_e c (ok_ib (by omega) (ok_nb (by omega) (ok_nb (by omega) (ok_t rfl (ok_two (twd126 _) ?_)))))
    refine ok_t (by omega) (ok_t (by omega) (ok_t (by omega) ?_))
    refine ok_t (by show (x : Int) * 13 + 13 ≤ ((260 : Nat) : Int); omega) (ok_t (by show (K.length : Int) * 13 + 13 ≤ ((260 : Nat) : Int); omega) ?_)
    refine ok_t rfl (ok_two (twd127 _) ?_)
    refine ok_t (by omega) (ok_t (by omega) (ok_t (by omega) ?_))
    refine ok_t (by show (x : Int) * 13 + 13 ≤ ((260 : Nat) : Int); omega) (ok_t (by show (K.length : Int) * 13 + 13 ≤ ((260 : Nat) : Int); omega) ?_)
    refine ok_nb (by omega) (ok_nb (by omega) ?_)
    rw [show ((x : Int) * 13).toNat = 13 * x by omega, show ((K.length : Int) * 13).toNat = 13 * K.length by omega, w_cpy_arr, w_cpy_arr]
    generalize hT : w_arr (w_arr (w_put (w_put (w_put (w_put T 121 K.length f.1) 122 K.length (T.1 122 x)) 123 K.length (T.1 123 x)) 125 K.length (T.1 125 x)) 126 _) 127 _ = T1
    have fT : frm DRa [120] DRj T T1 := by
      rw [← hT]
      repeat (first | exact frm.refl _ _ _ _ | refine frm.put ?_ rfl | refine frm.puto ?_ rfl rfl | refine frm.arr ?_ rfl)
    have cp : CpD T T1 K.length f.1 (T.1 122 x) (T.1 123 x) (T.1 125 x) (fun j => T.1 126 (13 * x + j)) (fun j => T.1 127 (13 * x + j)) := by
      refine ⟨fun u => ?_, fun u => ?_, fun u => ?_, fun u => ?_, fun j => ?_, fun j => ?_⟩
      all_goals
        rw [← hT]
        simp only [w_put_r, w_arr_r, reduceIte, Nat.reduceEqDiff, pt_at]
    have c120 : T1.1 120 0 = ((x + 1 + l.length : Nat) : Int) := by
      rw [← hT]
      show T.1 120 0 = _
      rw [g3]
      omega
    have key := l_rmf (e := e) (N := N) (t := t) (top := top) (t2 := t2) l (K ++ [f]) (x + 1) nf T1 (by rw [List.length_append, List.length_singleton]; omega) (by omega) c120 (fun g hg => by
      rcases List.mem_append.1 hg with z | z
      · exact g4 g z
      · rw [List.mem_singleton] at z
        rw [z]
        exact fs) (fun g hg => g5 g (List.mem_cons_of_mem _ hg)) (fun F hF => by
      rw [List.length_append, List.length_singleton] at hF
      by_cases e1 : F < K.length
      · rw [getD_app1 e1]
        exact cp.ne (by omega) (g4 _ (memD e1)) (g6 F e1)
      · have e2 : F = K.length := by omega
        subst e2
        rw [getD_app2 (Nat.le_refl _), Nat.sub_self]
        exact cp.eq fs rfl b2 b3 b4 b5) (fun i hi => cp.ne (by omega) (g5 _ (List.mem_cons_of_mem _ (memD hi))) (tl i hi)) (by omega)
    rw [List.length_append, List.length_singleton, List.append_assoc] at key
    rw [show (x : Int) + 1 = ((x + 1 : Nat) : Int) by omega, show (K.length : Int) + 1 = ((K.length + 1 : Nat) : Int) by omega]
    refine key.mono ?_
    intro _ S1 ⟨q1, q2⟩
    exact ⟨fT.trans q1, q2⟩
end
section
-- g8
theorem fsi_code {c : Int} : ∀ {l : List Sfl} {k : Nat}, fsi c l = some k → (l.getD k (0, [])).1 = c
  | [], _, h => by cases h
  | s :: ss, k, h => by
    rw [fsi] at h
    by_cases c1 : s.1 = c
    · rw [if_pos c1] at h
      cases h
      exact c1
    · rw [if_neg c1] at h
      cases hh : fsi c ss with
      | none => rw [hh] at h; cases h
      | some i =>
        rw [hh] at h
        have hk : i + 1 = k := Option.some.inj h
        subst hk
        have := fsi_code hh
        exact this
theorem stf_subs (c : Int) (r : List Int) : ∀ ss : List Sfl, (rps c r ss).length ≤ ss.length + 1
  | [] => Nat.le_refl _
  | s :: ss => by
    rw [rps]
    split
    · rw [List.length_cons, List.length_cons]
      omega
    · rw [List.length_cons, List.length_cons]
      have := stf_subs c r ss
      omega
theorem getD_sfl {ss : List Sfl} {s : Sfl} {j : Nat} (h : j < ss.length + 1) : (ss ++ [s]).getD j (0, []) = if j = ss.length then s else ss.getD j (0, []) := by
  rw [List.getD_eq_getElem?_getD, List.getD_eq_getElem?_getD]
  by_cases c : j = ss.length
  · rw [if_pos c, List.getElem?_append_right (by omega), c, Nat.sub_self]
    rfl
  · rw [if_neg c, List.getElem?_append_left (by omega)]
/-- the class sets rows in the draft -/
theorem l_str {e : w_E} {N : Nat} {t c x3 top : Int} {t2 : Nat → Int} {r : List Int} (hN : 1000 ≤ N) (hx : Rw t2 top x3 r.length (fun u => r.getD u 0)) : ∀ (l K : List Fdl) (nf : Nat) (T : w_S), K.length + l.length ≤ 20 → T.1 120 0 = ((K.length + l.length : Nat) : Int) → (∀ f, f ∈ K → f.2.2.2.length ≤ 13) → (∀ f, f ∈ l → f.2.2.2.length ≤ 12) → (∀ F, F < K.length → DrF T t2 top F (K.getD F (0, 0, 0, []))) → (∀ i, i < l.length → DrF T t2 top (K.length + i) (l.getD i (0, 0, 0, []))) → l.length < nf → Ok (El_Draft_setRows e N nf 0 [t, c, x3, (K.length : Int)] [] T) (fun _ S1 => frm DRa [120] DRj T S1 ∧ Dr S1 t2 top (K ++ l.map (stm t c r)))
  | _, _, 0, _, _, _, _, _, _, _, h => by omega
  | [], K, nf + 1, T, g2, g3, g4, g5, g6, g7, g8 => by
    rw [List.length_nil, Nat.add_zero] at g3
    rw [El_Draft_setRows, g3, List.map_nil, List.append_nil]
    exact ok_t (by omega) (ok_s ⟨frm.refl _ _ _ _, g3, g6⟩)
  | f :: l, K, nf + 1, T, g2, g3, g4, g5, g6, g7, g8 => by
    rw [List.length_cons] at g2 g3 g7 g8
    have d0 := g7 0 (by omega)
    rw [Nat.add_zero] at d0
    have d0' : DrF T t2 top K.length f := d0
    have fs := g5 f List.mem_cons_self
    have tl : ∀ i, i < l.length → DrF T t2 top (K.length + 1 + i) (l.getD i (0, 0, 0, [])) := fun i hi => by
      have := g7 (i + 1) (by omega)
      rw [show K.length + (i + 1) = K.length + 1 + i by omega] at this
      exact this
    obtain ⟨z, z1, z2⟩ := x_slot2 (e := e) (N := N) (c := c) hN (show K.length < 20 by omega) (by omega) d0'
    have dd := d0'
    obtain ⟨b1, b2, b3, b4, b5⟩ := dd
    -- what comes behind this field
    have go : ∀ (T1 : w_S) (f' : Fdl), stm t c r f = f' → f'.2.2.2.length ≤ 13 → frm DRa [120] DRj T T1 → T1.1 120 0 = T.1 120 0 → DrF T1 t2 top K.length f' → (∀ F g, F ≠ K.length → g.2.2.2.length ≤ 13 → DrF T t2 top F g → DrF T1 t2 top F g) → Ok (El_Draft_setRows e N nf 0 [t, c, x3, (K.length : Int) + 1] [] T1) (fun _ S1 => frm DRa [120] DRj T S1 ∧ Dr S1 t2 top (K ++ (f :: l).map (stm t c r))) := fun T1 f' h1 h2 h3 h4 h5 h6 => by
      have key := l_str (e := e) (N := N) (t := t) (c := c) hN hx l (K ++ [f']) nf T1 (by rw [List.length_append, List.length_singleton]; omega) (by rw [h4, g3, List.length_append, List.length_singleton]; omega) (fun g hg => by
        rcases List.mem_append.1 hg with w | w
        · exact g4 g w
        · rw [List.mem_singleton] at w
          rw [w]
          exact h2) (fun g hg => g5 g (List.mem_cons_of_mem _ hg)) (fun F hF => by
        rw [List.length_append, List.length_singleton] at hF
        by_cases e1 : F < K.length
        · rw [getD_app1 e1]
          exact h6 F _ (by omega) (g4 _ (memD e1)) (g6 F e1)
        · have e2 : F = K.length := by omega
          subst e2
          rw [getD_app2 (Nat.le_refl _), Nat.sub_self]
          exact h5) (fun i hi => by
        rw [List.length_append, List.length_singleton]
        exact h6 _ _ (by omega) (by have := g5 _ (List.mem_cons_of_mem f (memD (d := (0, 0, 0, [])) hi)); omega) (tl i hi)) (by omega)
      rw [List.length_append, List.length_singleton, List.append_assoc] at key
      rw [show (K.length : Int) + 1 = ((K.length + 1 : Nat) : Int) by omega, List.map_cons, h1]
      refine key.mono ?_
      intro _ S1 ⟨q1, q2⟩
      exact ⟨h3.trans q1, q2⟩
    rw [El_Draft_setRows, g3, show ((K.length : Int)).toNat = K.length by omega, b1]
    refine ok_e (by omega) (ok_ib (by omega) ?_)
    by_cases c1 : f.1 = t
    rotate_left
    · refine ok_t c1 (ok_nb (by omega) (go T f (by unfold stm; rw [if_neg c1]) (by omega) (frm.refl _ _ _ _) rfl d0' (fun F g _ _ h => h)))
    have sm : stm t c r f = stf c r f := by
      unfold stm
      rw [if_pos c1]
    have sl := stf_subs c r f.2.2.2
    refine ok_e (fun w => w c1) (ok_b (ok_of z1 ?_))
    dsimp only
    rcases z2 with ⟨w1, w2⟩ | ⟨k, w1, w2⟩
    · -- a subfield more
      have rn := rps_none (r := r) w1
      refine ok_e (fun w => w w2) (ok_b ?_)
      have ad : E_Draft_addSubfield e N (K.length : Int) c x3 T = some (0, w_put (w_put (w_put T 126 (13 * K.length + f.2.2.2.length) c) 127 (13 * K.length + f.2.2.2.length) x3) 125 K.length ((f.2.2.2.length : Int) + 1)) := by
        refine ok_eq ?_
        unfold E_Draft_addSubfield
        rw [g3, show ((K.length : Int)).toNat = K.length by omega, b4, show ((K.length : Int) * 13 + ((f.2.2.2.length : Nat) : Int)).toNat = 13 * K.length + f.2.2.2.length by omega]
        exact ok_e (by omega) (ok_e (by omega) (ok_ib (by omega) (ok_e (by omega) (ok_nb (by omega) (ok_nb (by omega) (ok_ib (by omega) (ok_nb (by omega) (ok_s ⟨rfl, rfl⟩))))))))
      refine ok_of ad (ok_nb (by omega) (go _ (stf c r f) sm (by unfold stf; show (rps c r f.2.2.2).length ≤ 13; omega) (by repeat (first | exact frm.refl _ _ _ _ | refine frm.put ?_ rfl | refine frm.puto ?_ rfl rfl)) (by simp only [w_put_r, reduceIte, Nat.reduceEqDiff, pt_at]) ?_ (fun F g hF hg hd => ?_)))
      · refine ⟨?_, ?_, ?_, ?_, fun j hj => ?_⟩
        · simp only [w_put_r, reduceIte, Nat.reduceEqDiff, pt_at]
          exact b1
        · simp only [w_put_r, reduceIte, Nat.reduceEqDiff, pt_at]
          exact b2
        · simp only [w_put_r, reduceIte, Nat.reduceEqDiff, pt_at]
          exact b3
        · simp only [w_put_r, reduceIte, Nat.reduceEqDiff, pt_at]
          show _ = (((rps c r f.2.2.2).length : Nat) : Int)
          rw [rn, List.length_append, List.length_singleton]
          omega
        · have hj' : j < (rps c r f.2.2.2).length := hj
          show _ = ((rps c r f.2.2.2).getD j (0, [])).1 ∧ Rw t2 top _ ((rps c r f.2.2.2).getD j (0, [])).2.length (fun u => ((rps c r f.2.2.2).getD j (0, [])).2.getD u 0)
          rw [rn] at hj' ⊢
          rw [List.length_append, List.length_singleton] at hj'
          rw [getD_sfl hj']
          simp only [w_put_r, reduceIte, Nat.reduceEqDiff, pt_at]
          by_cases e1 : j = f.2.2.2.length
          · rw [if_pos e1, if_pos (by omega), if_pos (by omega)]
            exact ⟨rfl, hx⟩
          · rw [if_neg e1, if_neg (by omega), if_neg (by omega)]
            exact b5 j (by omega)
      · refine hd.congr (by simp only [w_put_r, reduceIte, Nat.reduceEqDiff, pt_at]) (by simp only [w_put_r, reduceIte, Nat.reduceEqDiff, pt_at]) (by simp only [w_put_r, reduceIte, Nat.reduceEqDiff, pt_at]) (by simp only [w_put_r, reduceIte, Nat.reduceEqDiff, pt_at]; rw [if_neg hF]) (fun j hj => ?_)
        simp only [w_put_r, reduceIte, Nat.reduceEqDiff, pt_at]
        rw [if_neg (by omega), if_neg (by omega)]
        exact ⟨rfl, rfl⟩
    · -- a row anew
      obtain ⟨ra, rb⟩ := rps_some (r := r) w1
      have kl := fsi_lt w1
      have cd := fsi_code w1
      refine ok_t (by omega) ?_
      subst w2
      rw [show (((13 * K.length + k : Nat) : Int)).toNat = 13 * K.length + k by omega]
      refine ok_ib (by omega) (ok_nb (by omega) (go _ (stf c r f) sm (by unfold stf; show (rps c r f.2.2.2).length ≤ 13; omega) (by repeat (first | exact frm.refl _ _ _ _ | refine frm.put ?_ rfl | refine frm.puto ?_ rfl rfl)) (by simp only [w_put_r, reduceIte, Nat.reduceEqDiff, pt_at]) ?_ (fun F g hF hg hd => ?_)))
      · refine ⟨?_, ?_, ?_, ?_, fun j hj => ?_⟩
        · simp only [w_put_r, reduceIte, Nat.reduceEqDiff, pt_at]
          exact b1
        · simp only [w_put_r, reduceIte, Nat.reduceEqDiff, pt_at]
          exact b2
        · simp only [w_put_r, reduceIte, Nat.reduceEqDiff, pt_at]
          exact b3
        · simp only [w_put_r, reduceIte, Nat.reduceEqDiff, pt_at]
          show _ = (((rps c r f.2.2.2).length : Nat) : Int)
          rw [ra]
          exact b4
        · have hj' : j < (rps c r f.2.2.2).length := hj
          show _ = ((rps c r f.2.2.2).getD j (0, [])).1 ∧ Rw t2 top _ ((rps c r f.2.2.2).getD j (0, [])).2.length (fun u => ((rps c r f.2.2.2).getD j (0, [])).2.getD u 0)
          rw [ra] at hj'
          rw [rb j]
          simp only [w_put_r, reduceIte, Nat.reduceEqDiff, pt_at]
          have bj := b5 j hj'
          by_cases e1 : j = k
          · rw [if_pos e1, if_pos (by omega)]
            refine ⟨?_, hx⟩
            rw [bj.1, e1, cd]
          · rw [if_neg e1, if_neg (by omega)]
            exact bj
      · refine hd.congr (by simp only [w_put_r, reduceIte, Nat.reduceEqDiff, pt_at]) (by simp only [w_put_r, reduceIte, Nat.reduceEqDiff, pt_at]) (by simp only [w_put_r, reduceIte, Nat.reduceEqDiff, pt_at]) (by simp only [w_put_r, reduceIte, Nat.reduceEqDiff, pt_at]) (fun j hj => ?_)
        simp only [w_put_r, reduceIte, Nat.reduceEqDiff, pt_at]
        rw [if_neg (by omega)]
        exact ⟨trivial, rfl⟩
end
