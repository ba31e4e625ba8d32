section
-- bs
/-- the lines' places in the text -/
def qs (P : Int → Int) : Nat → Int
  | 0 => 0
  | j + 1 => P (qs P j)
/-- what the reading of lines says: their number, or (negative) where it is wrong -/
def rdl (P : Int → Int) (len : Int) : Nat → Nat → Int → Int
  | 0, i, q => if 1 ≤ i ∧ len ≤ q then (i : Int) else -1 - q
  | k + 1, i, q => if 1 ≤ i ∧ len ≤ q then (i : Int) else if P q < 0 then P q else rdl P len k (i + 1) (P q)
theorem two30 (S : w_S) : e_two Tc S 36 30 = some (140, 140) := rfl
theorem two31 (S : w_S) : e_two Tc S 36 31 = some (140, 140) := rfl
theorem two32 (S : w_S) : e_two Tc S 36 32 = some (140, 140) := rfl
theorem two33 (S : w_S) : e_two Tc S 36 33 = some (140, 140) := rfl
theorem two34 (S : w_S) : e_two Tc S 36 34 = some (140, 140) := rfl
theorem pE_at {f len a w q : Int} {S : w_S} {G : Int → Int} (h : TX S f len G) (ha : At f len a w q) (h0 : 0 ≤ q) : pE G q = if len ≤ q then q else -1 - q := by
  have k := tx_at h h0
  unfold pE
  rw [if_neg (by omega)]
  by_cases c : len ≤ q
  · rw [if_pos c, if_pos (k.2 c)]
  · rw [if_neg c, if_neg]
    have := k.1 (by omega)
    omega
theorem x_lnE {e : w_E} {N c i : Nat} {S : w_S} {f len a w q W : Int} {G : Int → Int} (h : TX S f len G) (ha : At f len a w q) (hc : c < 5) (hw : 0 ≤ W ∧ (i : Int) * W ≤ 140) (hq : -3000 ≤ q) : Ok (LnE e N (c : Int) W (i : Int) (tp S a w)) (fun y S1 => if 0 ≤ q ∧ len ≤ q then y = i ∧ ∃ a', S1 = w_put (w_cpy (tp S a' (-1)) 36 (30 + c) 0 0 ((i : Int) * W).toNat) 35 c (i : Int) else y = -999 + (if q < 0 then q else -1 - q) ∧ ∃ a' w', S1 = tp S a' w') := by
  obtain ⟨hw1, hw2⟩ := hw
  have hw0 : 0 ≤ (i : Int) * W := Int.mul_nonneg (by omega) hw1
  unfold LnE
  generalize (i : Int) * W = iw at hw0 hw2 ⊢
  have hl := h.2.2.2.2.1
  refine tk_b (x_takeEnd h ha) (fun y a1 w1 ha1 hy => ?_)
  dsimp only
  rw [tp6]
  by_cases c0 : q < 0
  · have e1 : pE G q = q := by
      unfold pE
      rw [if_pos c0]
    rw [e1] at ha1
    obtain ⟨b1, b2⟩ := ha1.right.2 c0
    have b3 := ha.2
    refine ok_t (by omega) ?_
    refine ok_nb (by omega) (ok_s ?_)
    rw [if_neg (by omega : ¬ (0 ≤ q ∧ len ≤ q)), if_pos c0]
    exact ⟨by omega, _, _, rfl⟩
  · rw [pE_at h ha (by omega)] at ha1
    by_cases c1 : len ≤ q
    · rw [if_pos c1] at ha1
      have b1 := ha1.wm (by omega)
      subst b1
      refine ok_e (fun z => z rfl) (ok_nb (by omega) ?_)
      have cc : c = 0 ∨ c = 1 ∨ c = 2 ∨ c = 3 ∨ c = 4 := by omega
      rcases cc with rfl | rfl | rfl | rfl | rfl
      all_goals
        refine ok_t rfl ?_
        refine ok_t hw0 ?_
        refine ok_t (by show 0 + iw ≤ (140 : Int); omega) ?_
        refine ok_t (by show 0 + iw ≤ (140 : Int); omega) ?_
        refine ok_s ?_
        rw [if_pos ⟨by omega, c1⟩]
        exact ⟨rfl, _, rfl⟩
    · rw [if_neg c1] at ha1
      obtain ⟨b1, b2⟩ := ha1.right.2 (by omega)
      have b3 := (ha.right.1 (by omega)).2.2
      refine ok_t (by omega) (ok_nb (by omega) (ok_s ?_))
      rw [if_neg (by omega : ¬ (0 ≤ q ∧ len ≤ q)), if_neg c0]
      exact ⟨by omega, _, _, rfl⟩
/-- the loop over lines, once for all kinds -/
theorem l_lines {e : w_E} {N c M W : Nat} {S : w_S} {f len : Int} {G P : Int → Int} {V : Int → Nat → (Nat → Int) → Prop} {Ln : Nat → w_S → (w_S → e_R) → e_R} (hS : TX S f len G) (hc : c < 5) (hM : 1 ≤ M ∧ M * W ≤ 140)
    (hstep : ∀ (n i : Nat) (T : w_S), i ≤ M → El_RuleBook_readLines e N (n + 1) 0 [(c : Int), (W : Int), (i : Int)] [] T = if M ≤ i then LnE e N (c : Int) (W : Int) (i : Int) T else if i = 0 then Ln i T (fun U => El_RuleBook_readLines e N n 0 [(c : Int), (W : Int), (i : Int) + 1] [] U) else (E_Tape_peek e N T).bind (fun q => if q.1 = -1 then LnE e N (c : Int) (W : Int) (i : Int) q.2 else Ln i q.2 (fun U => El_RuleBook_readLines e N n 0 [(c : Int), (W : Int), (i : Int) + 1] [] U)))
    (hline : ∀ (i : Nat) (g : Nat → Int) (a w q : Int) (K : w_S → e_R) (Q : Int → w_S → Prop), i < M → At f len a w q → 0 ≤ q → (∀ g' a' w', At f len a' w' (P q) → (0 ≤ P q → V q i g' ∧ ∀ j, j < W * i → g' j = g j) → Ok (K (tp (w_arr S 36 g') a' w')) Q) → Ok (Ln i (tp (w_arr S 36 g) a w) K) Q)
    (hV : ∀ q i g g', V q i g → (∀ k, k < W → g' (W * i + k) = g (W * i + k)) → V q i g')
    (hP : ∀ q, 0 ≤ q → q ≤ len → -3000 ≤ P q ∧ P q ≤ len) :
    ∀ (k i nf : Nat) (g : Nat → Int) (a w q : Int), i + k = M → k < nf → At f len a w q → 0 ≤ q → q = qs P i → (∀ j, j < i → V (qs P j) j g) → Ok (El_RuleBook_readLines e N nf 0 [(c : Int), (W : Int), (i : Int)] [] (tp (w_arr S 36 g) a w)) (fun y S1 => ∃ g' a' w', if 0 ≤ rdl P len k i q then y = rdl P len k i q ∧ S1 = w_put (w_cpy (tp (w_arr S 36 g') a' (-1)) 36 (30 + c) 0 0 (y.toNat * W)) 35 c y ∧ 1 ≤ y ∧ y ≤ M ∧ ∀ j : Nat, (j : Int) < y → V (qs P j) j g' else y = -999 + rdl P len k i q ∧ S1 = tp (w_arr S 36 g') a' w')
  | _, _, 0, _, _, _, _, _, h, _, _, _, _ => by omega
  | k, i, nf + 1, g, a, w, q, hk, hf, ha, h0, hq, hv => by
    have hA : ∀ g, TX (w_arr S 36 g) f len G := fun g => hS.arr (by decide) (by decide)
    have hl := (ha.right.1 h0).2.2
    have iw : i * W ≤ 140 := Nat.le_trans (Nat.mul_le_mul_right W (by omega)) hM.2
    have iw' : (i : Int) * (W : Int) ≤ 140 := by
      have : ((i * W : Nat) : Int) ≤ 140 := by omega
      rw [Int.natCast_mul] at this
      exact this
    have lend : (M ≤ i ∨ 1 ≤ i ∧ len ≤ q) → Ok (LnE e N (c : Int) (W : Int) (i : Int) (tp (w_arr S 36 g) a w)) (fun y S1 => ∃ g' a' w', if 0 ≤ rdl P len k i q then y = rdl P len k i q ∧ S1 = w_put (w_cpy (tp (w_arr S 36 g') a' (-1)) 36 (30 + c) 0 0 (y.toNat * W)) 35 c y ∧ 1 ≤ y ∧ y ≤ M ∧ ∀ j : Nat, (j : Int) < y → V (qs P j) j g' else y = -999 + rdl P len k i q ∧ S1 = tp (w_arr S 36 g') a' w') := by
      intro hh
      refine (x_lnE (e := e) (N := N) (c := c) (i := i) (W := (W : Int)) (hA g) ha hc ⟨by omega, iw'⟩ (by omega)).mono (fun y S1 z => ?_)
      by_cases d : len ≤ q
      · have er : rdl P len k i q = i := by
          cases k with
          | zero => rw [rdl, if_pos ⟨by omega, d⟩]
          | succ k => rw [rdl, if_pos ⟨by omega, d⟩]
        rw [if_pos ⟨h0, d⟩] at z
        obtain ⟨z1, a', z2⟩ := z
        refine ⟨g, a', -1, ?_⟩
        rw [er, if_pos (by omega)]
        refine ⟨z1, ?_, by omega, by omega, fun j hj => hv j (by omega)⟩
        rw [z2, z1]
        have : ((i : Int) * (W : Int)).toNat = (i : Int).toNat * W := by
          rw [← Int.natCast_mul]
          rfl
        rw [this]
      · have er : rdl P len k i q = -1 - q := by
          have : k = 0 := by omega
          subst this
          rw [rdl, if_neg (by omega)]
        rw [if_neg (by omega : ¬ (0 ≤ q ∧ len ≤ q)), if_neg (by omega : ¬ q < 0)] at z
        obtain ⟨z1, a', w', z2⟩ := z
        refine ⟨g, a', w', ?_⟩
        rw [er, if_neg (by omega)]
        exact ⟨z1, z2⟩
    have lrest : ∀ k', k = k' + 1 → ¬ (1 ≤ i ∧ len ≤ q) → Ok (Ln i (tp (w_arr S 36 g) a w) (fun U => El_RuleBook_readLines e N nf 0 [(c : Int), (W : Int), (i : Int) + 1] [] U)) (fun y S1 => ∃ g' a' w', if 0 ≤ rdl P len k i q then y = rdl P len k i q ∧ S1 = w_put (w_cpy (tp (w_arr S 36 g') a' (-1)) 36 (30 + c) 0 0 (y.toNat * W)) 35 c y ∧ 1 ≤ y ∧ y ≤ M ∧ ∀ j : Nat, (j : Int) < y → V (qs P j) j g' else y = -999 + rdl P len k i q ∧ S1 = tp (w_arr S 36 g') a' w') := by
      intro k' hk' hn
      subst hk'
      refine hline i g a w q _ _ (by omega) ha h0 (fun g' a' w' ha' hg => ?_)
      rw [show (i : Int) + 1 = ((i + 1 : Nat) : Int) by omega, rdl, if_neg hn]
      have pq := hP q h0 hl
      by_cases d : P q < 0
      · rw [if_pos d]
        refine Ok.mono (P := fun y S1 => ∃ g' a' w', y = -999 + P q ∧ S1 = tp (w_arr S 36 g') a' w') ?_ (fun y S1 z => by
          obtain ⟨g1, a1, w1, z1⟩ := z
          refine ⟨g1, a1, w1, ?_⟩
          rw [if_neg (by omega)]
          exact z1)
        have iw2 : ((i + 1 : Nat) : Int) * (W : Int) ≤ 140 := by
          have : (i + 1) * W ≤ 140 := Nat.le_trans (Nat.mul_le_mul_right W (by omega)) hM.2
          have : (((i + 1) * W : Nat) : Int) ≤ 140 := by omega
          rw [Int.natCast_mul] at this
          exact this
        have hend := (x_lnE (e := e) (N := N) (c := c) (i := i + 1) (W := (W : Int)) (hA g') ha' hc ⟨by omega, iw2⟩ (by omega)).mono (Q := fun y S1 => ∃ g' a' w', y = -999 + P q ∧ S1 = tp (w_arr S 36 g') a' w') (fun y S1 z => by
          rw [if_neg (by omega : ¬ (0 ≤ P q ∧ len ≤ P q)), if_pos d] at z
          obtain ⟨z1, a2, w2, z2⟩ := z
          exact ⟨g', a2, w2, z1, z2⟩)
        cases nf with
        | zero => omega
        | succ nf =>
          rw [hstep nf (i + 1) _ (by omega)]
          by_cases c1 : M ≤ i + 1
          · rw [if_pos c1]
            exact hend
          · rw [if_neg c1, if_neg (by omega), x_peek (hA g') ha']
            show Ok (if (if P q < 0 then (-1 : Int) else G (P q)) = -1 then LnE e N (c : Int) (W : Int) ((i + 1 : Nat) : Int) (tp (w_arr S 36 g') a' w') else _) _
            rw [if_pos d]
            refine ok_t rfl ?_
            exact hend
      · rw [if_neg d]
        obtain ⟨g1, g2⟩ := hg (by omega)
        refine l_lines hS hc hM hstep hline hV hP k' (i + 1) nf g' a' w' (P q) (by omega) (by omega) ha' (by omega) (by rw [hq, qs]) (fun j hj => ?_)
        rcases Nat.lt_or_ge j i with c1 | c1
        · refine hV _ j g g' (hv j c1) (fun u hu => g2 _ ?_)
          have : W * j + W ≤ W * i := by
            rw [← Nat.mul_succ]
            exact Nat.mul_le_mul_left W c1
          omega
        · rw [show j = i by omega, ← hq]
          exact g1
    rw [hstep nf i _ (by omega)]
    by_cases c1 : M ≤ i
    · rw [if_pos c1]
      exact lend (Or.inl c1)
    · obtain ⟨k', hk'⟩ : ∃ k', k = k' + 1 := ⟨k - 1, by omega⟩
      rw [if_neg c1]
      by_cases c2 : i = 0
      · rw [if_pos c2]
        exact lrest k' hk' (by omega)
      · rw [if_neg c2, x_peek (hA g) ha]
        show Ok (if (if q < 0 then (-1 : Int) else G q) = -1 then LnE e N (c : Int) (W : Int) (i : Int) (tp (w_arr S 36 g) a w) else Ln i (tp (w_arr S 36 g) a w) (fun U => El_RuleBook_readLines e N nf 0 [(c : Int), (W : Int), (i : Int) + 1] [] U)) _
        rw [if_neg (by omega : ¬ q < 0)]
        have kq := tx_at hS h0
        by_cases c3 : len ≤ q
        · refine ok_t (kq.2 c3) ?_
          exact lend (Or.inr ⟨by omega, c3⟩)
        · have := kq.1 (by omega)
          refine ok_e (by omega) ?_
          exact lrest k' hk' (by omega)
end
section
-- bt
def Bd (len q : Int) : Prop := -1 - len ≤ q ∧ q ≤ len
theorem pB_bd {G : Int → Int} {len b q : Int} (hG : ∀ p, len ≤ p → G p = -1) (hb : 0 ≤ b) (h : Bd len q) : Bd len (pB G b q) := by
  unfold Bd at h ⊢
  unfold pB
  by_cases c : q < 0
  · rw [if_pos c]
    exact h
  · rw [if_neg c]
    by_cases d : G q = b
    · rw [if_pos d]
      have := hG q
      omega
    · rw [if_neg d]
      omega
theorem pP_bd {P : Int → Bool} {G : Int → Int} {len q : Int} (hG : ∀ p, len ≤ p → G p = -1) (hb : P (-1) = false) (h : Bd len q) : Bd len (pP P G q) := by
  unfold Bd at h ⊢
  unfold pP
  by_cases c : q < 0
  · rw [if_pos c]
    exact h
  · rw [if_neg c]
    by_cases d : P (G q) = true
    · rw [if_pos d]
      have := hG q
      by_cases k : len ≤ q
      · rw [this k, hb] at d
        cases d
      · omega
    · rw [if_neg d]
      omega
theorem pN_bd {G : Int → Int} {len lo hi q : Int} (h : Bd len q) : Bd len (pN G len lo hi q) := by
  unfold Bd at h ⊢
  unfold pN
  by_cases c : q < 0
  · rw [if_pos c]
    exact h
  · rw [if_neg c]
    have := nd_le G (len - q).toNat q
    split <;> omega
theorem pT_bd {G : Int → Int} {len lo q : Int} (hG : ∀ p, len ≤ p → G p = -1) (h : Bd len q) : Bd len (pT G lo q) := by
  unfold Bd at h ⊢
  unfold pT
  by_cases c : q < 0
  · rw [if_pos c]
    exact h
  · rw [if_neg c]
    have k := nw_len (P := dgt) (G := G) (len := len) (fun p hp => by rw [hG p hp]; rfl) 3 q (by omega)
    rw [← nd_nw] at k
    have := nd_le G 3 q
    split
    · omega
    · split <;> omega
theorem lq_bd {G : Int → Int} {len q : Int} (hG : ∀ p, len ≤ p → G p = -1) (h : Bd len q) : ∀ k, Bd len (lq G len q k)
  | 0 => h
  | k + 1 => by
    rw [lq]
    refine pB_bd hG (by split <;> omega) ?_
    have ih := lq_bd hG h k
    split
    · exact pP_bd hG (by decide) ih
    · exact pN_bd ih
theorem TR.e {R : w_S} {len : Int} {G : Int → Int} (h : TR R len G) : ∀ p, len ≤ p → G p = -1 := fun p hp => (h.2.2.2 p (by have := h.2.1; omega)).2 hp
theorem TX.e {S : w_S} {f len : Int} {G : Int → Int} (h : TX S f len G) : ∀ p, len ≤ p → G p = -1 := fun p hp => (h.2.2.2.2.2.2 p (by have := h.2.2.2.1; omega)).2 hp
theorem TR.fr {R R1 : w_S} {len : Int} {G : Int → Int} {L O : List Nat} {J : List (Nat × Nat)} (h : TR R len G) (hf : frm L O J R R1) (d : (ckA L O [130] && ckS L J [(129, 2)]) = true) : TR R1 len G := by
  rw [Bool.and_eq_true] at d
  have d1 := ckA_of d.1 130 (by decide)
  have d2 := ckS_of d.2 (129, 2) (by decide)
  unfold TR at h ⊢
  rw [hf.2.1 130 d1.1 d1.2, hf.2.2 129 2 d2.1 d2.2]
  exact h
theorem pN_v {G : Int → Int} {len lo hi q : Int} (h : 0 ≤ pN G len lo hi q) : lo ≤ vl G q (nd G (len - q).toNat q) ∧ vl G q (nd G (len - q).toNat q) ≤ hi := by
  unfold pN at h
  split at h
  · omega
  · split at h
    · rename_i h1 h2
      unfold okn at h2
      simp only [Bool.and_eq_true, decide_eq_true_eq] at h2
      exact ⟨h2.1.2, h2.2⟩
    · omega
/-- a rule's columns keep within their bounds -/
theorem lv_bd {G : Int → Int} {len q : Int} (h : 0 ≤ lq G len q 7) : ∀ k, k < 7 → (if k < 2 then 0 ≤ lv G len q k ∧ lv G len q k ≤ 5 else lmn k ≤ lv G len q k ∧ lv G len q k ≤ lmx k) := by
  intro k hk
  have h1 := lq_ge 7 (k + 1) (by omega) h
  rw [lq] at h1
  have h2 := (pB_ge h1).1
  unfold lv
  by_cases c : k < 2
  · rw [if_pos c] at h2
    rw [if_pos c, if_pos c]
    have h3 := srt_iff.1 (pP_ge h2).2.1
    split <;> omega
  · rw [if_neg c] at h2
    rw [if_neg c, if_neg c]
    exact pN_v h2
theorem l_rulesText {e : w_E} {N : Nat} {len : Int} {G : Int → Int} (hN : 2001 ≤ N) : ∀ (k i nf : Nat) (R : w_S) (q : Int), i + k = 20 → k < nf → TR R len G → 0 ≤ q → q ≤ len → q = qs (fun q => lq G len q 7) i → (∀ j, j < i → ∀ u, u < 7 → R.1 212 (7 * j + u) = lv G len (qs (fun q => lq G len q 7) j) u) → Ok (El_R_rulesText e N nf 0 [q, (i : Int)] [] R) (fun y R1 => y = rdl (fun q => lq G len q 7) len k i q ∧ frm [212] [129] [(129, 3)] R R1 ∧ (0 ≤ y → y ≤ 20 ∧ ∀ j : Nat, (j : Int) < y → ∀ u, u < 7 → R1.1 212 (7 * j + u) = lv G len (qs (fun q => lq G len q 7) j) u))
  | _, _, 0, _, _, _, h, _, _, _, _, _ => by omega
  | k, i, nf + 1, R, q, hk, hf, hR, h0, hl, hq, hv => by
    have lb : len ≤ 2000 := hR.2.2.1
    rw [El_R_rulesText, hR.1]
    have he : 1 ≤ i ∧ len ≤ q → rdl (fun q => lq G len q 7) len k i q = i := by
      intro d
      cases k with
      | zero => rw [rdl, if_pos d]
      | succ k => rw [rdl, if_pos d]
    have hz : k = 0 → ¬ (1 ≤ i ∧ len ≤ q) → rdl (fun q => lq G len q 7) len k i q = -1 - q := by
      intro d1 d2
      subst d1
      rw [rdl, if_neg d2]
    have hs : ∀ k', k = k' + 1 → ¬ (1 ≤ i ∧ len ≤ q) → Ok ((E_R_ruleText e N q (7 * (i : Int)) R).bind (fun q754 => (if 0 ≤ q754.1 then (if w_nb ((i : Int) + 1) = true then El_R_rulesText e N nf 0 [q754.1, (i : Int) + 1] [] q754.2 else none) else some (q754.1, q754.2)))) (fun y R1 => y = rdl (fun q => lq G len q 7) len k i q ∧ frm [212] [129] [(129, 3)] R R1 ∧ (0 ≤ y → y ≤ 20 ∧ ∀ j : Nat, (j : Int) < y → ∀ u, u < 7 → R1.1 212 (7 * j + u) = lv G len (qs (fun q => lq G len q 7) j) u)) := by
      intro k' hk' hn
      subst hk'
      rw [rdl, if_neg hn, show 7 * (i : Int) = ((7 * i : Nat) : Int) by omega]
      refine ok_b ((x_ruleText (e := e) (to := 7 * i) hN (by omega) h0 hl hR).mono (fun y R1 z => ?_))
      obtain ⟨z1, z2, z3, z4⟩ := z
      have bd := lq_bd hR.e (⟨by omega, hl⟩ : Bd len q) 7
      unfold Bd at bd
      dsimp only
      by_cases c : 0 ≤ y
      · refine ok_t c (ok_nb (by omega) ?_)
        rw [if_neg (by omega), show (i : Int) + 1 = ((i + 1 : Nat) : Int) by omega, z1]
        refine (l_rulesText (e := e) hN k' (i + 1) nf R1 (lq G len q 7) (by omega) (by omega) (hR.fr z2 (by decide)) (by omega) (by omega) (by rw [hq, qs]) (fun j hj u hu => ?_)).mono (fun y2 R2 z' => ?_)
        · rcases Nat.lt_or_ge j i with c1 | c1
          · rw [z4 _ (by omega)]
            exact hv j c1 u hu
          · have : j = i := by omega
            subst this
            rw [z3 c u hu, ← hq]
        · exact ⟨z'.1, z2.trans z'.2.1, z'.2.2⟩
      · refine ok_e c (ok_s ?_)
        rw [if_pos (by omega)]
        exact ⟨z1, z2, fun z => by omega⟩
    by_cases c1 : 1 ≤ i ∧ len ≤ q
    · refine ok_e (by omega) (ok_t c1.2 (ok_s ⟨(he c1).symm, frm.refl _ _ _ _, fun _ => ⟨by omega, fun j hj u hu => hv j (by omega) u hu⟩⟩))
    · by_cases c2 : k = 0
      · have := hz c2 c1
        have f1 : ∀ v, v = rdl (fun q => lq G len q 7) len k i q → v < 0 → (fun y R1 => y = rdl (fun q => lq G len q 7) len k i q ∧ frm [212] [129] [(129, 3)] R R1 ∧ (0 ≤ y → y ≤ 20 ∧ ∀ j : Nat, (j : Int) < y → ∀ u, u < 7 → R1.1 212 (7 * j + u) = lv G len (qs (fun q => lq G len q 7) j) u)) v R := fun v h1 h2 => ⟨h1, frm.refl _ _ _ _, fun z => by omega⟩
        refine ok_e (by omega) (ok_e (by omega) (ok_e (by omega) (ok_nb (by omega) (ok_s (f1 _ this.symm (by omega))))))
      · obtain ⟨k', hk'⟩ : ∃ k', k = k' + 1 := ⟨k - 1, by omega⟩
        have := hs k' hk' c1
        by_cases c3 : i = 0
        · refine ok_t (by omega) (ok_t (by omega) (ok_nb (by omega) this))
        · refine ok_e (by omega) (ok_e (by omega) (ok_t (by omega) (ok_nb (by omega) this)))
end
section
-- bu
theorem w_cpy_arr (S : w_S) (a0 a sp dp n : Nat) : w_cpy S a0 a sp dp n = w_arr S a (fun j => if dp ≤ j ∧ j < dp + n then S.1 a0 (sp + (j - dp)) else S.1 a j) := by
  refine w_ext (fun c j => ?_) rfl
  rw [w_arr_r]
  unfold w_cpy
  dsimp only
  by_cases h : c = a
  · rw [if_pos h, if_pos h, h]
  · rw [if_neg h, if_neg h]
/-- a copy of so many places of an array into another one, in the reference's states -/
def cpr (R : w_S) (x y : Nat) (j m : Nat) : w_S := w_arr R y (fun u => if j ≤ u ∧ u < m then R.1 x u else R.1 y u)
theorem cpr_0 (R : w_S) (x y m : Nat) : cpr R x y m m = R := by
  unfold cpr
  refine w_ext (fun c j => ?_) rfl
  rw [w_arr_r]
  by_cases h : c = y
  · rw [if_pos h, if_neg (by omega), h]
  · rw [if_neg h]
theorem cpr_s (R : w_S) {x y : Nat} (hxy : x ≠ y) {j m : Nat} (h : j < m) : cpr (w_put R y j (R.1 x j)) x y (j + 1) m = cpr R x y j m := by
  unfold cpr
  refine w_ext (fun c u => ?_) rfl
  simp only [w_arr_r, w_put_r, if_neg hxy, reduceIte]
  by_cases hc : c = y
  · rw [if_pos hc, if_pos hc]
    by_cases h1 : u = j
    · subst h1
      rw [if_neg (by omega), if_pos (by omega), pt_at, if_pos rfl]
    · rw [pt_at, if_neg h1]
      by_cases h2 : j ≤ u ∧ u < m
      · rw [if_pos h2, if_pos (by omega)]
      · rw [if_neg h2, if_neg (by omega)]
  · rw [if_neg hc, if_neg hc, if_neg hc]
theorem l_doRules {e : w_E} {N n : Nat} (hn : n ≤ 20) : ∀ (k j nf : Nat) (R : w_S), j + k = 7 * n → k < nf → El_R_doRules e N nf 0 [(n : Int), (j : Int)] [] R = some ((n : Int), w_put (cpr R 212 211 j (7 * n)) 129 122 (n : Int))
  | _, _, 0, _, _, h => by omega
  | 0, j, nf + 1, R, h1, h2 => by
    refine ok_eq ?_
    rw [El_R_doRules]
    have : j = 7 * n := by omega
    subst this
    rw [cpr_0]
    refine ok_nb (by omega) (ok_t (by omega) (ok_s ⟨rfl, rfl⟩))
  | k + 1, j, nf + 1, R, h1, h2 => by
    have ih := l_doRules (e := e) (N := N) hn k (j + 1) nf (w_put R 211 j (R.1 212 j)) (by omega) (by omega)
    rw [cpr_s R (by decide) (by omega), show ((j + 1 : Nat) : Int) = (j : Int) + 1 by omega] at ih
    refine ok_eq ?_
    rw [El_R_doRules]
    refine ok_nb (by omega) (ok_e (by omega) (ok_ib (by omega) (ok_nb (by omega) ?_)))
    exact ok_of ih ⟨rfl, rfl⟩
theorem h_step0 {e : w_E} {N : Nat} (n i : Nat) (T : w_S) (hi : i ≤ 20) : El_RuleBook_readLines e N (n + 1) 0 [((0 : Nat) : Int), ((7 : Nat) : Int), (i : Int)] [] T = if 20 ≤ i then LnE e N ((0 : Nat) : Int) ((7 : Nat) : Int) (i : Int) T else if i = 0 then Ln0 e N 7 (i : Int) T (fun U => El_RuleBook_readLines e N n 0 [((0 : Nat) : Int), ((7 : Nat) : Int), (i : Int) + 1] [] U) else (E_Tape_peek e N T).bind (fun q => if q.1 = -1 then LnE e N ((0 : Nat) : Int) ((7 : Nat) : Int) (i : Int) q.2 else Ln0 e N 7 (i : Int) q.2 (fun U => El_RuleBook_readLines e N n 0 [((0 : Nat) : Int), ((7 : Nat) : Int), (i : Int) + 1] [] U)) := by
  rw [ln_step, if_pos (show w_ib ((0 : Nat) : Int) 5 = true from rfl)]
  have e1 : ((pg_sv.getD 1 []).getD (((0 : Nat) : Int)).toNat 0).toInt = 20 := rfl
  have e2 : w_nb ((i : Int) * ((7 : Nat) : Int)) = true := by
    rw [w_nbE]
    omega
  rw [e1, if_pos e2]
  by_cases c : 20 ≤ i
  · rw [if_pos c, if_pos (by omega)]
  · rw [if_neg c, if_neg (by omega)]
    by_cases c0 : i = 0
    · rw [if_pos c0, if_pos (by omega)]
      rfl
    · rw [if_neg c0, if_neg (by omega)]
      refine congrArg _ (funext (fun q => ?_))
      by_cases c1 : q.1 = -1
      · rw [if_pos c1, if_pos c1]
      · rw [if_neg c1, if_neg c1, if_pos e2]
        rfl
end
section
-- bv
/-- what an act with a text leaves: refused (with what was read beside), or not and so -/
def Pt (R : w_S) (Q Q' : w_S → w_S → Prop) (y : Int) (S1 : w_S) (y' : Int) (R1 : w_S) : Prop := y' = y ∧ (y < 0 ∧ Q S1 R1 ∧ R1.1 129 4 = 1 ∨ 0 ≤ y ∧ Q' S1 R1 ∧ R1.1 129 4 = R.1 129 4)
theorem rdl_pos {P : Int → Int} {len : Int} : ∀ (k i : Nat) (q : Int), 0 ≤ q → rdl P len k i q ≠ 0 ∧ (0 ≤ rdl P len k i q → 1 ≤ rdl P len k i q ∧ rdl P len k i q ≤ i + k)
  | 0, i, q, h => by
    rw [rdl]
    split <;> omega
  | k + 1, i, q, h => by
    rw [rdl]
    split
    · omega
    · split
      · omega
      · have := rdl_pos (P := P) (len := len) k (i + 1) (P q) (by omega)
        omega
theorem rdl_bd {P : Int → Int} {len : Int} (hl : 0 ≤ len) (hP : ∀ q, Bd len q → Bd len (P q)) : ∀ (k i : Nat) (q : Int), 0 ≤ q → q ≤ len → -1 - len ≤ rdl P len k i q
  | 0, i, q, h, h1 => by
    rw [rdl]
    split <;> omega
  | k + 1, i, q, h, h1 => by
    have hp := hP q ⟨by omega, h1⟩
    unfold Bd at hp
    rw [rdl]
    split
    · omega
    · split
      · omega
      · exact rdl_bd hl hP k (i + 1) (P q) (by omega) (by omega)
theorem rdl_qs {P : Int → Int} {len : Int} : ∀ (k i : Nat) (q : Int), 0 ≤ q → q = qs P i → 0 ≤ rdl P len k i q → ∀ j : Nat, i ≤ j → (j : Int) ≤ rdl P len k i q → 0 ≤ qs P j
  | 0, i, q, h0, hq, h, j, h1, h2 => by
    rw [rdl] at h h2
    split at h
    · rename_i d
      rw [if_pos d] at h2
      rw [show j = i by omega, ← hq]
      exact h0
    · omega
  | k + 1, i, q, h0, hq, h, j, h1, h2 => by
    rw [rdl] at h h2
    by_cases d : 1 ≤ i ∧ len ≤ q
    · rw [if_pos d] at h2
      rw [show j = i by omega, ← hq]
      exact h0
    · rw [if_neg d] at h h2
      by_cases c : P q < 0
      · rw [if_pos c] at h
        omega
      · rw [if_neg c] at h h2
        by_cases c1 : j = i
        · rw [c1, ← hq]
          exact h0
        · exact rdl_qs k (i + 1) (P q) (by omega) (by rw [hq, qs]) h j (by omega) h2
theorem t_rules {e : w_E} {N : Nat} {S R : w_S} {f len : Int} {G : Int → Int} (hN : 2001 ≤ N) (h : TX S f len G) (hr : TR R len G) (h4 : S.1 1 4 = f) (h6 : S.1 1 6 = -1) : Ok (E_RuleBook_readLines e N 0 S) (fun y S1 => Ok (E_R_doRules e N R) (fun y' R1 => Pt R (fun S1 R1 => frm [36] [1, 37] [(1, 4), (1, 6), (37, 0)] S S1 ∧ frm [212] [129] [(129, 3), (129, 4)] R R1) (fun S1 R1 => frm [30, 36] [1, 35, 37] [(1, 4), (1, 6), (35, 0), (37, 0)] S S1 ∧ frm [211, 212] [129] [(129, 3), (129, 122)] R R1 ∧ RelRu S1 R1) y S1 y' R1)) := by
  have hl := hr.2.1
  have hh := h
  have e0 : w_put S 37 0 0 = tp (w_arr (w_put S 37 0 0) 36 ((w_put S 37 0 0).1 36)) f (-1) := by
    rw [arr_self]
    have k := tp_self (w_put S 37 0 0)
    have k1 : (w_put S 37 0 0).1 1 4 = f := by
      simp only [w_put_r, w_arr_r, reduceIte, Nat.reduceEqDiff, pt_at]
      exact h4
    have k2 : (w_put S 37 0 0).1 1 6 = -1 := by
      simp only [w_put_r, w_arr_r, reduceIte, Nat.reduceEqDiff, pt_at]
      exact h6
    rw [k1, k2] at k
    exact k.symm
  have hw : TX (w_put S 37 0 0) f len G := h.put (by decide) (by decide)
  have ha : At f len f (-1) 0 := ⟨by omega, by omega, Or.inl ⟨rfl, by omega⟩⟩
  have hb : ∀ q, Bd len q → Bd len (lq G len q 7) := fun q hq => lq_bd hr.e hq 7
  have lb : len ≤ 2000 := hr.2.2.1
  have key := l_lines (e := e) (N := N) (c := 0) (M := 20) (W := 7) (P := fun q => lq G len q 7) (V := fun q i g => ∀ k, k < 7 → g (7 * i + k) = lv G len q k) (Ln := fun i T K => Ln0 e N 7 (i : Int) T K) hw (by decide) (by decide) (fun n i T hi => h_step0 n i T hi) (fun i g a w q K Q hi ha' _ hk => x_ln0 hN hw ha' hi hk) (fun q i g g' hv hg k hk => by rw [hg k hk]; exact hv k hk) (fun q q0 q1 => by have := hb q ⟨by omega, q1⟩; unfold Bd at this; omega) 20 0 N ((w_put S 37 0 0).1 36) f (-1) 0 (by decide) (by omega) ha (by omega) rfl (fun j hj => by omega)
  have kr := l_rulesText (e := e) (N := N) (len := len) (G := G) hN 20 0 N R 0 (by decide) (by omega) hr (by omega) hl rfl (fun j hj => by omega)
  have rb := rdl_bd hl hb 20 0 0 (by omega) hl
  have rp := rdl_pos (P := fun q => lq G len q 7) (len := len) 20 0 0 (by omega)
  have hE : E_RuleBook_readLines e N 0 S = El_RuleBook_readLines e N N 0 [((0 : Nat) : Int), ((7 : Nat) : Int), ((0 : Nat) : Int)] [] (w_put S 37 0 0) := by
    unfold E_RuleBook_readLines
    rw [if_pos (show w_ib (0 : Int) 5 = true from rfl), show ((pg_sv.getD 0 []).getD (0 : Int).toNat 0).toInt = 7 from rfl]
    rfl
  rw [← e0] at key
  rw [hE]
  clear hE e0
  refine key.mono (fun y S1 z => ?_)
  clear key
  unfold E_R_doRules E_R_rulesText
  refine ok_b (kr.mono (fun y' R1 z' => ?_))
  clear kr
  obtain ⟨g', a', w', z⟩ := z
  obtain ⟨r1, r2, r3⟩ := z'
  dsimp only
  generalize hd : rdl (fun q => lq G len q 7) len 20 0 0 = d at *
  by_cases c : 0 ≤ d
  · rw [if_pos c] at z
    obtain ⟨z1, z2, z3, z4, z5⟩ := z
    obtain ⟨n, hn⟩ : ∃ n : Nat, d = n := ⟨d.toNat, by omega⟩
    subst hn
    subst r1
    subst z1
    obtain ⟨r4, r5⟩ := r3 c
    have hcp := l_doRules (e := e) (N := N) (n := n) (by omega) (7 * n) 0 N R1 (by omega) (by omega)
    have hqs := rdl_qs (P := fun q => lq G len q 7) (len := len) 20 0 0 (by omega) rfl (by rw [hd]; exact c)
    rw [hd] at hqs
    refine ok_t c (ok_of hcp ?_)
    have s30 : ∀ j, j < 7 * n → S1.1 30 j = g' j := fun j hj => by
      rw [z2, w_cpy_arr]
      unfold tp
      simp only [w_put_r, w_arr_r, reduceIte, Nat.reduceEqDiff, pt_at]
      rw [if_pos (by omega), show 0 + (j - 0) = j by omega]
    have r211 : ∀ j, j < 7 * n → (w_put (cpr R1 212 211 0 (7 * n)) 129 122 (n : Int)).1 211 j = R1.1 212 j := fun j hj => by
      unfold cpr
      simp only [w_put_r, w_arr_r, reduceIte, Nat.reduceEqDiff, pt_at]
      rw [if_pos (by omega)]
    refine ⟨rfl, Or.inr ⟨c, ⟨?_, ?_, n, by omega, ?_, ?_, fun j hj => ?_, fun i hi => ?_⟩, ?_⟩⟩
    · rw [z2, w_cpy_arr]
      unfold tp
      repeat (first | exact frm.refl _ _ _ _ | refine frm.put ?_ rfl | refine frm.puto ?_ rfl rfl | refine frm.arr ?_ rfl)
    · have := r2.weak (L' := [211, 212]) (O' := [129]) (J' := [(129, 3), (129, 122)]) (by decide)
      unfold cpr
      exact frm.puto (frm.arr this rfl) rfl rfl
    · rw [z2]
      simp only [w_put_r, w_arr_r, reduceIte, Nat.reduceEqDiff, pt_at]
    · simp only [w_put_r, w_arr_r, reduceIte, Nat.reduceEqDiff, pt_at]
    · rw [r211 j hj, s30 j hj]
      have k1 := z5 (j / 7) (by omega) (j % 7) (by omega)
      have k2 := r5 (j / 7) (by omega) (j % 7) (by omega)
      rw [show 7 * (j / 7) + j % 7 = j by omega] at k1 k2
      rw [k1, k2]
    · have hp : 0 ≤ lq G len (qs (fun q => lq G len q 7) i) 7 := hqs (i + 1) (by omega) (by omega)
      have k0 := z5 i (by omega) 0 (by omega)
      have k1 := z5 i (by omega) 1 (by omega)
      have k2 := z5 i (by omega) 2 (by omega)
      have k3 := z5 i (by omega) 3 (by omega)
      have k4 := z5 i (by omega) 4 (by omega)
      have k5 := z5 i (by omega) 5 (by omega)
      have k6 := z5 i (by omega) 6 (by omega)
      have b0 := lv_bd hp 0 (by omega)
      have b1 := lv_bd hp 1 (by omega)
      have b2 := lv_bd hp 2 (by omega)
      have b3 := lv_bd hp 3 (by omega)
      have b4 := lv_bd hp 4 (by omega)
      have b5 := lv_bd hp 5 (by omega)
      have b6 := lv_bd hp 6 (by omega)
      rw [s30 (7 * i) (by omega), s30 (7 * i + 1) (by omega), s30 (7 * i + 2) (by omega), s30 (7 * i + 3) (by omega), s30 (7 * i + 4) (by omega), s30 (7 * i + 5) (by omega), s30 (7 * i + 6) (by omega)]
      rw [k1, k2, k3, k4, k5, k6, show g' (7 * i) = lv G len (qs (fun q => lq G len q 7) i) 0 from k0]
      exact ⟨b0.1, b0.2, b1.1, b1.2, b2.1, b2.2, b3.1, b3.2, b4.1, b4.2, b5.1, b5.2, b6.1, b6.2⟩
    · unfold cpr
      simp only [w_put_r, w_arr_r, reduceIte, Nat.reduceEqDiff, pt_at]
      exact r2.2.2 129 4 rfl rfl
  · rw [if_neg c] at z
    subst r1
    refine ok_e c (ok_nb (by omega) (ok_s ?_))
    refine ⟨by omega, Or.inl ⟨by omega, ⟨?_, ?_⟩, rfl⟩⟩
    · rw [z.2]
      unfold tp
      repeat (first | exact frm.refl _ _ _ _ | refine frm.put ?_ rfl | refine frm.puto ?_ rfl rfl | refine frm.arr ?_ rfl)
    · have := r2.weak (L' := [212]) (O' := [129]) (J' := [(129, 3), (129, 4)]) (by decide)
      exact frm.puto this rfl rfl
end
section
-- bw
theorem b_between {e : w_E} {N : Nat} {S : w_S} {f len a w q lo hi : Int} {G : Int → Int} (h : TX S f len G) (ha : At f len a w q) (hb : 0 ≤ lo ∧ lo ≤ hi ∧ hi ≤ 127) : Ok (E_Tape_takeBetween e N lo hi (tp S a w)) (fun y _ => 0 ≤ y ∧ y ≤ hi - lo) := by
  have k := tx_cases h ha
  obtain ⟨h1, h2, h3⟩ := h
  clear h3 ha
  unfold E_Tape_takeBetween
  rw [tp4, tp5, tp6, tp3, tp_2, h1, h2, tp_p4, tp_p6, show a + 1 - 1 = a by omega]
  rcases k with ⟨k1, k2, k3, k4, k5, k6, k7, k8, k9⟩ | ⟨k1, k2, k3, k4, k5, k6, k7, k8⟩ | ⟨k1, k2, k3, k4, k5, k6, k7⟩
  · clear k9
    have k8a : S.1 2 a.toNat ≤ 127 ∧ -128 ≤ S.1 2 a.toNat := by omega
    clear k8
    repeat' (first | with_reducible refine ok_nb (by omega) ?_ | with_reducible refine ok_ib (by omega) ?_ | with_reducible refine ok_t (by omega) ?_ | with_reducible refine ok_e (by omega) ?_ | with_reducible refine ok_if (fun h => ?_) (fun h => ?_) | with_reducible refine ok_s ?_ | with_reducible refine ok_b ?_)
    all_goals first | (exfalso; omega) | exact ⟨by omega, by omega⟩
  · repeat' (first | with_reducible refine ok_nb (by omega) ?_ | with_reducible refine ok_ib (by omega) ?_ | with_reducible refine ok_t (by omega) ?_ | with_reducible refine ok_e (by omega) ?_ | with_reducible refine ok_if (fun h => ?_) (fun h => ?_) | with_reducible refine ok_s ?_ | with_reducible refine ok_b ?_)
    all_goals first | (exfalso; omega) | exact ⟨by omega, by omega⟩
  · by_cases c : a < f + len
    · obtain ⟨c1, c2⟩ := k7 c
      clear k7
      repeat' (first | with_reducible refine ok_nb (by omega) ?_ | with_reducible refine ok_ib (by omega) ?_ | with_reducible refine ok_t (by omega) ?_ | with_reducible refine ok_e (by omega) ?_ | with_reducible refine ok_if (fun h => ?_) (fun h => ?_) | with_reducible refine ok_s ?_ | with_reducible refine ok_b ?_)
      all_goals first | (exfalso; omega) | exact ⟨by omega, by omega⟩
    · clear k7
      repeat' (first | with_reducible refine ok_nb (by omega) ?_ | with_reducible refine ok_ib (by omega) ?_ | with_reducible refine ok_t (by omega) ?_ | with_reducible refine ok_e (by omega) ?_ | with_reducible refine ok_if (fun h => ?_) (fun h => ?_) | with_reducible refine ok_s ?_ | with_reducible refine ok_b ?_)
      all_goals first | (exfalso; omega) | exact ⟨by omega, by omega⟩
/-- the days of the week that a route names: digits, each greater than the last one -/
def wdn (G : Int → Int) : Nat → Int → Int → Int
  | 0, _, q => q
  | k + 1, l, q => if dgt (G q) = true then (if l ≤ G q ∧ G q ≤ 54 then wdn G k (G q + 1) (q + 1) else -1 - q) else q
def wdw (G : Int → Int) : Nat → Int → Int → Int → Int
  | 0, _, v, _ => v
  | k + 1, l, v, q => if dgt (G q) = true ∧ l ≤ G q ∧ G q ≤ 54 then wdw G k (G q + 1) (w_or v (w_shl 1 (G q - 48))) (q + 1) else v
def pD (G : Int → Int) (q : Int) : Int := if q < 0 then q else if 48 ≤ G q ∧ G q ≤ 54 then wdn G 7 (G q + 1) (q + 1) else -1 - q
def vD (G : Int → Int) (q : Int) : Int := wdw G 7 (G q + 1) (w_or 0 (w_shl 1 (G q - 48))) (q + 1)
theorem dgt_iff {c : Int} : dgt c = true ↔ 48 ≤ c ∧ c ≤ 57 := by
  unfold dgt
  simp only [Bool.and_eq_true, decide_eq_true_eq]
theorem wdn_bd {G : Int → Int} {len : Int} (hG : ∀ p, len ≤ p → G p = -1) : ∀ (k : Nat) (l q : Int), 0 ≤ q → q ≤ len → Bd len (wdn G k l q)
  | 0, l, q, h0, h => ⟨by rw [wdn]; omega, h⟩
  | k + 1, l, q, h0, h => by
    rw [wdn]
    by_cases c : dgt (G q) = true
    · rw [if_pos c]
      have c1 := dgt_iff.1 c
      have := hG q
      by_cases d : l ≤ G q ∧ G q ≤ 54
      · rw [if_pos d]
        exact wdn_bd hG k (G q + 1) (q + 1) (by omega) (by omega)
      · rw [if_neg d]
        exact ⟨by omega, by omega⟩
    · rw [if_neg c]
      exact ⟨by omega, h⟩
theorem pD_bd {G : Int → Int} {len q : Int} (hG : ∀ p, len ≤ p → G p = -1) (h : Bd len q) : Bd len (pD G q) := by
  unfold pD
  by_cases c : q < 0
  · rw [if_pos c]
    exact h
  · rw [if_neg c]
    have := hG q
    unfold Bd at h
    split
    · exact wdn_bd hG 7 (G q + 1) (q + 1) (by omega) (by omega)
    · exact ⟨by omega, by omega⟩
theorem pD_neg {G : Int → Int} {q : Int} (h : q < 0) : pD G q = q := by
  unfold pD
  rw [if_pos h]
theorem l_wdw {e : w_E} {N nf : Nat} {S : w_S} {f len a w q v l i : Int} {G : Int → Int} (h : TX S f len G) (ha : At f len a w q) (hq : q < 0) (hi : 1 ≤ i) : El_RuleBook_readWeekdays e N (nf + 1) 0 [v, l, i] [] (tp S a w) = some (v, tp S a w) := by
  have hp := x_peek (e := e) (N := N) h ha
  rw [if_pos hq] at hp
  refine ok_eq ?_
  rw [El_RuleBook_readWeekdays]
  by_cases c : 7 < i
  · exact ok_t c (ok_s ⟨rfl, rfl⟩)
  · refine ok_e c (ok_e (by omega) (ok_b (ok_of hp ?_)))
    exact ok_t (by show (-1 : Int) < 48; decide) (ok_s ⟨rfl, rfl⟩)
theorem x_between {e : w_E} {N : Nat} {S : w_S} {f len a w q lo hi : Int} {G : Int → Int} (h : TX S f len G) (ha : At f len a w q) (hb : 0 ≤ lo ∧ lo ≤ hi ∧ hi ≤ 127) : Ok (E_Tape_takeBetween e N lo hi (tp S a w)) (fun y S1 => Tk S f len (pR G lo hi q) (fun y => y = G q - lo) y S1 ∧ 0 ≤ y ∧ y ≤ hi - lo) := by
  refine ((x_takeBetween (e := e) (N := N) h ha ⟨hb.1, by omega, by omega⟩).and (b_between h ha hb)).mono (fun y S1 z => ⟨?_, z.2⟩)
  obtain ⟨⟨a1, w1, z1, z2, z3⟩, _⟩ := z
  exact ⟨a1, w1, z1, z2, fun k => (z3 k).1⟩
theorem l_wd {e : w_E} {N : Nat} {S : w_S} {f len : Int} {G : Int → Int} (h : TX S f len G) : ∀ (k i nf : Nat) (l v q a : Int), i + k = 8 → 1 ≤ i → k < nf → 56 - k ≤ l → l ≤ 55 → At f len a (-1) q → 0 ≤ q → Ok (El_RuleBook_readWeekdays e N nf 0 [v, l, (i : Int)] [] (tp S a (-1))) (Tk S f len (wdn G k l q) (fun y => y = wdw G k l v q))
  | _, _, 0, _, _, _, _, _, _, h, _, _, _, _ => by omega
  | 0, _, _ + 1, l, _, _, _, _, _, _, h1, h2, _, _ => by omega
  | k + 1, i, nf + 1, l, v, q, a, hk, hi, hf, h1, h2, ha, h0 => by
    have hp := x_peek (e := e) (N := N) h ha
    rw [if_neg (by omega : ¬ q < 0)] at hp
    have hb : G q ≤ 255 := by
      have := tx_cases h ha
      omega
    rw [El_RuleBook_readWeekdays]
    refine ok_e (by omega) (ok_e (by omega) (ok_b (ok_of hp ?_)))
    dsimp only
    by_cases c : dgt (G q) = true
    · have c1 := dgt_iff.1 c
      refine ok_e (by omega) (ok_e (by omega) (ok_b (ok_of hp ?_)))
      dsimp only
      by_cases d : l ≤ G q ∧ G q ≤ 54
      · rw [show wdn G (k + 1) l q = wdn G k (G q + 1) (q + 1) by rw [wdn, if_pos c, if_pos d], show wdw G (k + 1) l v q = wdw G k (G q + 1) (w_or v (w_shl 1 (G q - 48))) (q + 1) by rw [wdw, if_pos ⟨c, d⟩]]
        refine ok_t d.1 (ok_b ((x_between (e := e) (N := N) (lo := 48) (hi := 54) h ha (by decide)).mono (fun y S1 z => ?_)))
        obtain ⟨⟨a1, w1, z1, z2, z3⟩, z4, z5⟩ := z
        unfold pR at z2
        rw [if_neg (by omega : ¬ q < 0), if_pos (by omega)] at z2
        have z6 := z2.wm (by omega)
        have z7 := z3 z6
        subst z6
        subst z1
        refine ok_nb (by omega) (ok_nb (by omega) (ok_nb (by omega) ?_))
        have ih := l_wd (e := e) (N := N) h k (i + 1) nf (G q + 1) (w_or v (w_shl 1 (G q - 48))) (q + 1) a1 (by omega) (by omega) (by omega) (by omega) (by omega) z2 (by omega)
        rw [z7, show 48 + (G q - 48) + 1 = G q + 1 by omega]
        exact ih
      · rw [show wdn G (k + 1) l q = -1 - q by rw [wdn, if_pos c, if_neg d]]
        obtain ⟨nf', hnf⟩ : ∃ m, nf = m + 1 := ⟨nf - 1, by omega⟩
        subst hnf
        by_cases d1 : l ≤ G q
        · refine ok_t d1 (ok_b ((x_between (e := e) (N := N) (lo := 48) (hi := 54) h ha (by decide)).mono (fun y S1 z => ?_)))
          obtain ⟨⟨a1, w1, z1, z2, z3⟩, z4, z5⟩ := z
          unfold pR at z2
          rw [if_neg (by omega : ¬ q < 0), if_neg (by omega)] at z2
          subst z1
          refine ok_nb (by omega) (ok_nb (by omega) (ok_nb (by omega) ?_))
          refine ok_of (l_wdw h z2 (by omega) (by omega)) ?_
          exact ⟨a1, w1, rfl, z2, fun z => by have := z2.right.2 (by omega); omega⟩
        · refine ok_e d1 (tk_b (x_stopHere h ha) (fun y2 a2 w2 ha2 _ => ?_))
          rw [if_neg (by omega : ¬ q < 0)] at ha2
          refine ok_b ((x_between (e := e) (N := N) (lo := 48) (hi := 54) h ha2 (by decide)).mono (fun y S1 z => ?_))
          obtain ⟨⟨a1, w1, z1, z2, z3⟩, z4, z5⟩ := z
          unfold pR at z2
          rw [if_pos (by omega)] at z2
          subst z1
          refine ok_nb (by omega) (ok_nb (by omega) (ok_nb (by omega) ?_))
          refine ok_of (l_wdw h z2 (by omega) (by omega)) ?_
          exact ⟨a1, w1, rfl, z2, fun z => by have := z2.right.2 (by omega); omega⟩
    · have c1 : ¬ (48 ≤ G q ∧ G q ≤ 57) := fun z => c (dgt_iff.2 z)
      rw [show wdn G (k + 1) l q = q by rw [wdn, if_neg c], show wdw G (k + 1) l v q = v by rw [wdw, if_neg (fun z => c z.1)]]
      by_cases c2 : G q < 48
      · exact ok_t c2 (ok_s ⟨a, -1, rfl, ha, fun _ => rfl⟩)
      · exact ok_e c2 (ok_t (by omega) (ok_s ⟨a, -1, rfl, ha, fun _ => rfl⟩))
theorem x_weekdays {e : w_E} {N : Nat} {S : w_S} {f len a w q : Int} {G : Int → Int} (hN : 2001 ≤ N) (h : TX S f len G) (ha : At f len a w q) : Ok (E_RuleBook_readWeekdays e N (tp S a w)) (Tk S f len (pD G q) (fun y => y = vD G q)) := by
  have hp := x_peek (e := e) (N := N) h ha
  obtain ⟨n, hn⟩ : ∃ n, N = n + 1 + 1 := ⟨N - 2, by omega⟩
  unfold E_RuleBook_readWeekdays
  generalize hM : N = M at hp ⊢
  rw [show El_RuleBook_readWeekdays e M M = El_RuleBook_readWeekdays e M (n + 1 + 1) by rw [← hM, ← hn], El_RuleBook_readWeekdays]
  refine ok_e (by omega) (ok_t rfl ?_)
  by_cases c : q < 0
  · rw [if_pos c] at hp
    rw [pD_neg c]
    refine ok_b (ok_of hp ?_)
    dsimp only
    refine ok_e (by omega) (tk_b (x_stopHere h ha) (fun y2 a2 w2 ha2 _ => ?_))
    rw [if_pos c] at ha2
    refine ok_b ((x_between (e := e) (N := M) (lo := 48) (hi := 54) h ha2 (by decide)).mono (fun y S1 z => ?_))
    obtain ⟨⟨a1, w1, z1, z2, z3⟩, z4, z5⟩ := z
    unfold pR at z2
    rw [if_pos (by omega)] at z2
    subst z1
    refine ok_nb (by omega) (ok_nb (by omega) (ok_nb (by omega) ?_))
    refine ok_of (l_wdw h z2 (by omega) (by omega)) ?_
    exact ⟨a1, w1, rfl, z2, fun z => by have := z2.right.2 (by omega); omega⟩
  · rw [if_neg c] at hp
    refine ok_b (ok_of hp ?_)
    dsimp only
    have hb : G q ≤ 255 := by
      have := tx_cases h ha
      omega
    by_cases d : 48 ≤ G q ∧ G q ≤ 54
    · rw [show pD G q = wdn G 7 (G q + 1) (q + 1) by unfold pD; rw [if_neg c, if_pos d]]
      refine ok_t d.1 (ok_b ((x_between (e := e) (N := M) (lo := 48) (hi := 54) h ha (by decide)).mono (fun y S1 z => ?_)))
      obtain ⟨⟨a1, w1, z1, z2, z3⟩, z4, z5⟩ := z
      unfold pR at z2
      rw [if_neg c, if_pos d] at z2
      have z6 := z2.wm (by omega)
      have z7 := z3 z6
      subst z6
      subst z1
      refine ok_nb (by omega) (ok_nb (by omega) (ok_nb (by omega) ?_))
      have ih := l_wd (e := e) (N := M) h 7 1 (n + 1) (G q + 1) (w_or 0 (w_shl 1 (G q - 48))) (q + 1) a1 (by omega) (by omega) (by omega) (by omega) (by omega) z2 (by omega)
      rw [z7, show 48 + (G q - 48) + 1 = G q + 1 by omega]
      exact ih
    · rw [show pD G q = -1 - q by unfold pD; rw [if_neg c, if_neg d]]
      by_cases d1 : 48 ≤ G q
      · refine ok_t d1 (ok_b ((x_between (e := e) (N := M) (lo := 48) (hi := 54) h ha (by decide)).mono (fun y S1 z => ?_)))
        obtain ⟨⟨a1, w1, z1, z2, z3⟩, z4, z5⟩ := z
        unfold pR at z2
        rw [if_neg c, if_neg d] at z2
        subst z1
        refine ok_nb (by omega) (ok_nb (by omega) (ok_nb (by omega) ?_))
        refine ok_of (l_wdw h z2 (by omega) (by omega)) ?_
        exact ⟨a1, w1, rfl, z2, fun z => by have := z2.right.2 (by omega); omega⟩
      · refine ok_e d1 (tk_b (x_stopHere h ha) (fun y2 a2 w2 ha2 _ => ?_))
        rw [if_neg c] at ha2
        refine ok_b ((x_between (e := e) (N := M) (lo := 48) (hi := 54) h ha2 (by decide)).mono (fun y S1 z => ?_))
        obtain ⟨⟨a1, w1, z1, z2, z3⟩, z4, z5⟩ := z
        unfold pR at z2
        rw [if_pos (by omega)] at z2
        subst z1
        refine ok_nb (by omega) (ok_nb (by omega) (ok_nb (by omega) ?_))
        refine ok_of (l_wdw h z2 (by omega) (by omega)) ?_
        exact ⟨a1, w1, rfl, z2, fun z => by have := z2.right.2 (by omega); omega⟩
end
section
-- bx
theorem pD_ge {G : Int → Int} {q : Int} (h : 0 ≤ pD G q) : 0 ≤ q := by
  unfold pD at h
  split at h
  · omega
  · omega
theorem pT_ge {G : Int → Int} {lo q : Int} (h : 0 ≤ pT G lo q) : 0 ≤ q := by
  unfold pT at h
  split at h
  · omega
  · omega
theorem pW_ge {G : Int → Int} {q : Int} (h : 0 ≤ pW G q) : 0 ≤ q := by
  unfold pW at h
  split at h
  · omega
  · omega
def rtq0 (_ : Int → Int) (_ q : Int) : Int := q
def rtq1 (G : Int → Int) (len q : Int) : Int := pB G 32 (pN G len 0 3 (rtq0 G len q))
def rtq2 (G : Int → Int) (len q : Int) : Int := pB G 32 (pN G len 0 3 (rtq1 G len q))
def rtq3 (G : Int → Int) (len q : Int) : Int := pB G 32 (pD G (rtq2 G len q))
def rtq4 (G : Int → Int) (len q : Int) : Int := pB G 10 (pN G len 1 9 (rtq3 G len q))
def rtv (G : Int → Int) (len q : Int) : Nat → Int
  | 0 => vl G (rtq0 G len q) (nd G (len - (rtq0 G len q)).toNat (rtq0 G len q))
  | 1 => vl G (rtq1 G len q) (nd G (len - (rtq1 G len q)).toNat (rtq1 G len q))
  | 2 => vD G (rtq2 G len q)
  | 3 => vl G (rtq3 G len q) (nd G (len - (rtq3 G len q)).toNat (rtq3 G len q))
  | _ => 0
theorem rt_ge {G : Int → Int} {len q : Int} (h : 0 ≤ rtq4 G len q) : 0 ≤ rtq0 G len q ∧ 0 ≤ rtq1 G len q ∧ 0 ≤ rtq2 G len q ∧ 0 ≤ rtq3 G len q := by
  have h3 : 0 ≤ rtq3 G len q := pN_ge (pB_ge h).1
  have h2 : 0 ≤ rtq2 G len q := pD_ge (pB_ge h3).1
  have h1 : 0 ≤ rtq1 G len q := pN_ge (pB_ge h2).1
  have h0 : 0 ≤ rtq0 G len q := pN_ge (pB_ge h1).1
  exact ⟨h0, h1, h2, h3⟩
theorem x_ln1 {e : w_E} {N i : Nat} {S : w_S} {f len a w q : Int} {G : Int → Int} {g : Nat → Int} {K : w_S → e_R} {Q : Int → w_S → Prop} (hN : 2001 ≤ N) (h : TX S f len G) (ha : At f len a w q) (hi : i < 12) (hk : ∀ g' a' w', At f len a' w' (rtq4 G len q) → (0 ≤ rtq4 G len q → (∀ k, k < 4 → g' (4 * i + k) = rtv G len q k) ∧ ∀ j, j < 4 * i → g' j = g j) → Ok (K (tp (w_arr S 36 g') a' w')) Q) : Ok (Ln1 e N 4 (i : Int) (tp (w_arr S 36 g) a w) K) Q := by
  have hA : ∀ g, TX (w_arr S 36 g) f len G := fun g => h.arr (by decide) (by decide)
  clear h
  unfold Ln1
  refine tk_b (x_takeNumber hN (hA _) ha) (fun y0 a0 w0 ha0 hy0 => ?_)
  dsimp only
  refine ok_ib (by omega) ?_
  rw [tp_put _ _ _ _ (by decide), w_arr_put]
  refine tk_b (x_takeByte (hA _) ha0 (by decide)) (fun _ b0 v0 hb0 _ => ?_)
  dsimp only
  refine ok_nb (by omega) ?_
  refine tk_b (x_takeNumber hN (hA _) hb0) (fun y1 a1 w1 ha1 hy1 => ?_)
  dsimp only
  refine ok_ib (by omega) ?_
  rw [tp_put _ _ _ _ (by decide), w_arr_put]
  refine tk_b (x_takeByte (hA _) ha1 (by decide)) (fun _ b1 v1 hb1 _ => ?_)
  dsimp only
  refine ok_nb (by omega) ?_
  refine tk_b (x_weekdays hN (hA _) hb1) (fun y2 a2 w2 ha2 hy2 => ?_)
  dsimp only
  refine ok_ib (by omega) ?_
  rw [tp_put _ _ _ _ (by decide), w_arr_put]
  refine tk_b (x_takeByte (hA _) ha2 (by decide)) (fun _ b2 v2 hb2 _ => ?_)
  dsimp only
  refine ok_nb (by omega) ?_
  refine tk_b (x_takeNumber hN (hA _) hb2) (fun y3 a3 w3 ha3 hy3 => ?_)
  dsimp only
  refine ok_ib (by omega) ?_
  rw [tp_put _ _ _ _ (by decide), w_arr_put]
  refine tk_b (x_takeByte (hA _) ha3 (by decide)) (fun _ b3 v3 hb3 _ => ?_)
  dsimp only
  refine ok_nb (by omega) ?_
  refine hk _ _ _ hb3 (fun z => ⟨fun k hk7 => ?_, fun j hj => ?_⟩)
  · obtain ⟨z0, z1, z2, z3⟩ := rt_ge z
    have kk : k = 0 ∨ k = 1 ∨ k = 2 ∨ k = 3 := by omega
    simp only [pt_at]
    rcases kk with rfl | rfl | rfl | rfl
    · rw [if_neg (by omega), if_neg (by omega), if_neg (by omega), if_pos (by omega)]
      exact (hy0 (ha0.wm (pB_ge z1).1)).1
    · rw [if_neg (by omega), if_neg (by omega), if_pos (by omega)]
      exact (hy1 (ha1.wm (pB_ge z2).1)).1
    · rw [if_neg (by omega), if_pos (by omega)]
      exact (hy2 (ha2.wm (pB_ge z3).1))
    · rw [if_pos (by omega)]
      exact (hy3 (ha3.wm (pB_ge z).1)).1
  · simp only [pt_at]
    rw [if_neg (by omega), if_neg (by omega), if_neg (by omega), if_neg (by omega)]
theorem h_step1 {e : w_E} {N : Nat} (n i : Nat) (T : w_S) (hi : i ≤ 12) : El_RuleBook_readLines e N (n + 1) 0 [((1 : Nat) : Int), ((4 : Nat) : Int), (i : Int)] [] T = if 12 ≤ i then LnE e N ((1 : Nat) : Int) ((4 : Nat) : Int) (i : Int) T else if i = 0 then Ln1 e N 4 (i : Int) T (fun U => El_RuleBook_readLines e N n 0 [((1 : Nat) : Int), ((4 : Nat) : Int), (i : Int) + 1] [] U) else (E_Tape_peek e N T).bind (fun q => if q.1 = -1 then LnE e N ((1 : Nat) : Int) ((4 : Nat) : Int) (i : Int) q.2 else Ln1 e N 4 (i : Int) q.2 (fun U => El_RuleBook_readLines e N n 0 [((1 : Nat) : Int), ((4 : Nat) : Int), (i : Int) + 1] [] U)) := by
  rw [ln_step, if_pos (show w_ib ((1 : Nat) : Int) 5 = true from rfl)]
  have e1 : ((pg_sv.getD 1 []).getD (((1 : Nat) : Int)).toNat 0).toInt = 12 := rfl
  have e2 : w_nb ((i : Int) * ((4 : Nat) : Int)) = true := by
    rw [w_nbE]
    omega
  rw [e1, if_pos e2]
  by_cases c : 12 ≤ i
  · rw [if_pos c, if_pos (by omega)]
  · rw [if_neg c, if_neg (by omega)]
    by_cases c0 : i = 0
    · rw [if_pos c0, if_pos (by omega)]
      rfl
    · rw [if_neg c0, if_neg (by omega)]
      refine congrArg _ (funext (fun q => ?_))
      by_cases c1 : q.1 = -1
      · rw [if_pos c1, if_pos c1]
      · rw [if_neg c1, if_neg c1, if_pos e2]
        rfl
def kpq0 (_ : Int → Int) (_ q : Int) : Int := q
def kpq1 (G : Int → Int) (len q : Int) : Int := pB G 32 (pT G 10 (kpq0 G len q))
def kpq2 (G : Int → Int) (len q : Int) : Int := pB G 32 (pN G len 0 50000 (kpq1 G len q))
def kpq3 (G : Int → Int) (len q : Int) : Int := pB G 10 (pW G (kpq2 G len q))
def kpv (G : Int → Int) (len f q : Int) : Nat → Int
  | 0 => vl G (kpq0 G len q) 3
  | 1 => vl G (kpq1 G len q) (nd G (len - (kpq1 G len q)).toNat (kpq1 G len q))
  | 2 => (f + (kpq2 G len q)) * 64 + (nw rwb G 40 (kpq2 G len q) : Nat)
  | _ => 0
theorem kp_ge {G : Int → Int} {len q : Int} (h : 0 ≤ kpq3 G len q) : 0 ≤ kpq0 G len q ∧ 0 ≤ kpq1 G len q ∧ 0 ≤ kpq2 G len q := by
  have h2 : 0 ≤ kpq2 G len q := pW_ge (pB_ge h).1
  have h1 : 0 ≤ kpq1 G len q := pN_ge (pB_ge h2).1
  have h0 : 0 ≤ kpq0 G len q := pT_ge (pB_ge h1).1
  exact ⟨h0, h1, h2⟩
theorem x_ln3 {e : w_E} {N i : Nat} {S : w_S} {f len a w q : Int} {G : Int → Int} {g : Nat → Int} {K : w_S → e_R} {Q : Int → w_S → Prop} (hN : 2001 ≤ N) (h : TX S f len G) (ha : At f len a w q) (hi : i < 8) (hk : ∀ g' a' w', At f len a' w' (kpq3 G len q) → (0 ≤ kpq3 G len q → (∀ k, k < 3 → g' (3 * i + k) = kpv G len f q k) ∧ ∀ j, j < 3 * i → g' j = g j) → Ok (K (tp (w_arr S 36 g') a' w')) Q) : Ok (Ln3 e N 3 (i : Int) (tp (w_arr S 36 g) a w) K) Q := by
  have hA : ∀ g, TX (w_arr S 36 g) f len G := fun g => h.arr (by decide) (by decide)
  clear h
  unfold Ln3
  refine tk_b (x_takeTag hN (hA _) ha) (fun y0 a0 w0 ha0 hy0 => ?_)
  dsimp only
  refine ok_ib (by omega) ?_
  rw [tp_put _ _ _ _ (by decide), w_arr_put]
  refine tk_b (x_takeByte (hA _) ha0 (by decide)) (fun _ b0 v0 hb0 _ => ?_)
  dsimp only
  refine ok_nb (by omega) ?_
  refine tk_b (x_takeNumber hN (hA _) hb0) (fun y1 a1 w1 ha1 hy1 => ?_)
  dsimp only
  refine ok_ib (by omega) ?_
  rw [tp_put _ _ _ _ (by decide), w_arr_put]
  refine tk_b (x_takeByte (hA _) ha1 (by decide)) (fun _ b1 v1 hb1 _ => ?_)
  dsimp only
  refine ok_nb (by omega) ?_
  refine tk_b (x_takeRow hN (hA _) hb1) (fun y2 a2 w2 ha2 hy2 => ?_)
  dsimp only
  refine ok_ib (by omega) ?_
  rw [tp_put _ _ _ _ (by decide), w_arr_put]
  refine tk_b (x_takeByte (hA _) ha2 (by decide)) (fun _ b2 v2 hb2 _ => ?_)
  dsimp only
  refine ok_nb (by omega) ?_
  refine hk _ _ _ hb2 (fun z => ⟨fun k hk7 => ?_, fun j hj => ?_⟩)
  · obtain ⟨z0, z1, z2⟩ := kp_ge z
    have kk : k = 0 ∨ k = 1 ∨ k = 2 := by omega
    simp only [pt_at]
    rcases kk with rfl | rfl | rfl
    · rw [if_neg (by omega), if_neg (by omega), if_pos (by omega)]
      exact (hy0 (ha0.wm (pB_ge z1).1)).1
    · rw [if_neg (by omega), if_pos (by omega)]
      exact (hy1 (ha1.wm (pB_ge z2).1)).1
    · rw [if_pos (by omega)]
      exact (hy2 (ha2.wm (pB_ge z).1)).1
  · simp only [pt_at]
    rw [if_neg (by omega), if_neg (by omega), if_neg (by omega)]
theorem h_step3 {e : w_E} {N : Nat} (n i : Nat) (T : w_S) (hi : i ≤ 8) : El_RuleBook_readLines e N (n + 1) 0 [((3 : Nat) : Int), ((3 : Nat) : Int), (i : Int)] [] T = if 8 ≤ i then LnE e N ((3 : Nat) : Int) ((3 : Nat) : Int) (i : Int) T else if i = 0 then Ln3 e N 3 (i : Int) T (fun U => El_RuleBook_readLines e N n 0 [((3 : Nat) : Int), ((3 : Nat) : Int), (i : Int) + 1] [] U) else (E_Tape_peek e N T).bind (fun q => if q.1 = -1 then LnE e N ((3 : Nat) : Int) ((3 : Nat) : Int) (i : Int) q.2 else Ln3 e N 3 (i : Int) q.2 (fun U => El_RuleBook_readLines e N n 0 [((3 : Nat) : Int), ((3 : Nat) : Int), (i : Int) + 1] [] U)) := by
  rw [ln_step, if_pos (show w_ib ((3 : Nat) : Int) 5 = true from rfl)]
  have e1 : ((pg_sv.getD 1 []).getD (((3 : Nat) : Int)).toNat 0).toInt = 8 := rfl
  have e2 : w_nb ((i : Int) * ((3 : Nat) : Int)) = true := by
    rw [w_nbE]
    omega
  rw [e1, if_pos e2]
  by_cases c : 8 ≤ i
  · rw [if_pos c, if_pos (by omega)]
  · rw [if_neg c, if_neg (by omega)]
    by_cases c0 : i = 0
    · rw [if_pos c0, if_pos (by omega)]
      rfl
    · rw [if_neg c0, if_neg (by omega)]
      refine congrArg _ (funext (fun q => ?_))
      by_cases c1 : q.1 = -1
      · rw [if_pos c1, if_pos c1]
      · rw [if_neg c1, if_neg c1, if_pos e2]
        rfl
end
