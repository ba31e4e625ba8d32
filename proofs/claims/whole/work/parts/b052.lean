section
-- h5
/-- what batch and dispose write into the log besides -/
def pch (k : Int) (t : Nat) (y' fr : Int) (R : w_S) : w_S := if k = 31 then w_put R 131 (7 * t + 1) y' else if k = 42 then w_put (w_put R 131 (7 * t + 1) fr) 131 (7 * t + 2) (R.1 129 159 - fr) else R
theorem pch_f (k : Int) (t : Nat) (y' fr : Int) (R : w_S) : frm [131] [] [] R (pch k t y' fr R) := by
  unfold pch
  split
  · repeat (first | exact frm.refl _ _ _ _ | refine frm.put ?_ rfl | refine frm.puto ?_ rfl rfl)
  · split <;> repeat (first | exact frm.refl _ _ _ _ | refine frm.put ?_ rfl | refine frm.puto ?_ rfl rfl)
/-- what a note's entry reads as, behind all -/
theorem pch_r {k y' fr a b c d F n : Int} {t : Nat} {R : w_S} {l : Nat → Int} (h : R.1 131 = pt (pt (pt (pt (pt (pt (pt l (7 * t) (km k)) (7 * t + 1) a) (7 * t + 2) b) (7 * t + 3) c) (7 * t + 4) d) (7 * t + 5) F) (7 * t + 6) n) : (∀ u, u < 7 * t → (pch k t y' fr R).1 131 u = l u) ∧ (pch k t y' fr R).1 131 (7 * t) = km k ∧ (pch k t y' fr R).1 131 (7 * t + 5) = F ∧ (pch k t y' fr R).1 131 (7 * t + 6) = n ∧ (k ≠ 42 → k ≠ 31 → (pch k t y' fr R).1 131 (7 * t + 1) = a ∧ (pch k t y' fr R).1 131 (7 * t + 2) = b ∧ (pch k t y' fr R).1 131 (7 * t + 3) = c ∧ (pch k t y' fr R).1 131 (7 * t + 4) = d) ∧ (k = 31 → (pch k t y' fr R).1 131 (7 * t + 1) = y') ∧ (k = 42 → (pch k t y' fr R).1 131 (7 * t + 1) = fr ∧ (pch k t y' fr R).1 131 (7 * t + 2) = R.1 129 159 - fr) := by
  have hl : ∀ u, u < 7 * t → R.1 131 u = l u := fun u hu => by
    rw [h]
    simp only [pt_at]
    rw [if_neg (by omega), if_neg (by omega), if_neg (by omega), if_neg (by omega), if_neg (by omega), if_neg (by omega), if_neg (by omega)]
  have h0 : R.1 131 (7 * t) = km k := by
    rw [h]
    simp only [pt_at]
    rw [if_neg (by omega), if_neg (by omega), if_neg (by omega), if_neg (by omega), if_neg (by omega), if_neg (by omega), if_pos trivial]
  have h1 : R.1 131 (7 * t + 1) = a := by
    rw [h]
    simp only [pt_at]
    rw [if_neg (by omega), if_neg (by omega), if_neg (by omega), if_neg (by omega), if_neg (by omega), if_pos trivial]
  have h2 : R.1 131 (7 * t + 2) = b := by
    rw [h]
    simp only [pt_at]
    rw [if_neg (by omega), if_neg (by omega), if_neg (by omega), if_neg (by omega), if_pos trivial]
  have h3 : R.1 131 (7 * t + 3) = c := by
    rw [h]
    simp only [pt_at]
    rw [if_neg (by omega), if_neg (by omega), if_neg (by omega), if_pos trivial]
  have h4 : R.1 131 (7 * t + 4) = d := by
    rw [h]
    simp only [pt_at]
    rw [if_neg (by omega), if_neg (by omega), if_pos trivial]
  have h5 : R.1 131 (7 * t + 5) = F := by
    rw [h]
    simp only [pt_at]
    rw [if_neg (by omega), if_pos trivial]
  have h6 : R.1 131 (7 * t + 6) = n := by
    rw [h]
    simp only [pt_at]
    rw [if_pos trivial]
  have key : ∀ u, u ≠ 7 * t + 1 → u ≠ 7 * t + 2 → (pch k t y' fr R).1 131 u = R.1 131 u := fun u u1 u2 => by
    unfold pch
    split
    · rw [w_put_r, if_pos rfl, pt_at, if_neg u1]
    · split
      · rw [w_put_r, if_pos rfl, pt_at, if_neg u2, w_put_r, if_pos rfl, pt_at, if_neg u1]
      · rfl
  refine ⟨fun u hu => by rw [key u (by omega) (by omega), hl u hu], by rw [key _ (by omega) (by omega), h0], by rw [key _ (by omega) (by omega), h5], by rw [key _ (by omega) (by omega), h6], fun z1 z2 => ?_, fun z => ?_, fun z => ?_⟩
  · have : pch k t y' fr R = R := by
      unfold pch
      rw [if_neg z2, if_neg z1]
    rw [this]
    exact ⟨h1, h2, h3, h4⟩
  · unfold pch
    rw [if_pos z, w_put_r, if_pos rfl, pt_at, if_pos rfl]
  · unfold pch
    rw [if_neg (by omega), if_pos z]
    refine ⟨?_, ?_⟩
    · rw [w_put_r, if_pos rfl, pt_at, if_neg (by omega), w_put_r, if_pos rfl, pt_at, if_pos rfl]
    · rw [w_put_r, if_pos rfl, pt_at, if_pos rfl]
/-- a note leaves the house -/
theorem Nt.fn {R R2 : w_S} {t F n sa : Nat} {x1 x2 x3 x4 x5 : Int} (h : Nt R t F n x1 x2 x3 x4 x5 sa R2) (hs : sa = 132 ∨ 238 ≤ sa) (hta : R.2.1 2 = 140 ∨ 238 ≤ R.2.1 2) (ht2 : R.2.1 2 < R.2.2.2.1) (hne : sa ≠ R.2.1 2) (hn : 238 ≤ R.2.2.2.1) : frn R R2 := by
  obtain ⟨sa', Ls', d1, d2, d3, d4, d5, d6, d7, d8, d9, d10, d11, d12, d13⟩ := h
  refine ⟨fun b b1 b2 b3 => d8 b (by omega) b3 ?_ ?_, fun j hj => d4 j ?_, d9 2 (by decide), d8 _ ht2 (by omega) (by omega) (by omega), d10 _ ht2, d11⟩
  · intro z
    subst z
    exact absurd b2 (by decide)
  · intro z
    rcases hs with hs | hs
    · subst z
      subst hs
      exact absurd b2 (by decide)
    · omega
  · intro z
    subst z
    exact absurd hj (by decide)
set_option maxHeartbeats 4000000 in
theorem a_done {e : w_E} {N i t sa Ls ta L E V n : Nat} {S R R' S1 R1 S2 R2 : w_S} {k a b c d len y y' : Int} (hN : 16000000 ≤ N) (hi : i < 512) (hk : 0 ≤ k) (hk2 : k ≤ 44) (h : Core e N i S R t sa Ls) (hnum : Num S R t) (htp : RelTp S R) (h20 : S.1 1 1 + S.1 1 2 ≤ 20 * (i : Int)) (hask : Ask S R) (l0 : 0 ≤ len) (l1 : len ≤ 2000) (l2 : kp (S.1 128) t + len ≤ 10240) (l3 : k < 32 → len = 0) (hX : Rdy (j6 (S.1 128) t k a b c d len) (S.1 2) t R') (fR : frm [] [129] [(129, 1), (129, 2), (129, 4)] R R') (hA : Al e N (j6 (S.1 128) t k a b c d len) (S.1 2) t R') (hH : Hs (opx S (kp (S.1 128) t) len) R' (t : Int) (kp (S.1 128) t) ta L E V n) (eC : E_C_perform e N k a b c d (opx S (kp (S.1 128) t) len) = some (y, S1)) (eR : E_R_perform e N (km k) a b c d R' = some (y', R1)) (hP : Pg k a (opx S (kp (S.1 128) t) len) R' (t : Int) (kp (S.1 128) t) (kp (S.1 128) t + len) ta L E V n y y' S1 R1) (hy : 0 ≤ y) (s2f : frm [128] [0, 1] [(0, 12), (1, 1), (1, 2)] S1 S2) (s128 : S2.1 128 = j6 (S.1 128) t k a b c d len) (s12 : S2.1 0 12 = (t : Int) + 1) (s11 : S2.1 1 1 = kp (S.1 128) t + len) (sfd : S2.1 1 2 = R'.1 129 1) (sf2 : (R'.1 129 1 = S.1 1 2 ∧ len = 0) ∨ (R'.1 129 1 = 0 ∧ len = S.1 1 2)) (hNt : Nt (w_put R1 129 58 0) t (kp (S.1 128) t).toNat len.toNat (km k) a b c d sa R2) : Ans k a S S2 y y' ∧ Inv e N (i + 1) S2 (pch k t y' (R.1 129 159) R2) := by
  have ln := h.lens
  have k0 := kpj_ge ln
  obtain ⟨h1, h2, h3, h4, h5, h6, ⟨h7, h7b, h7c, h7d⟩, h8, h9, h10, h11, h12, h13⟩ := h
  obtain ⟨pA, pH, pO, pB⟩ := hP
  obtain ⟨oC, oR, gnx, pH⟩ := pH
  rcases pH with ⟨z, _⟩ | ⟨_, r4, ta', L', E', V', n', hH1, hV, hn⟩
  · omega
  have r40 : R1.1 129 4 = 0 := r4.trans hX.2.1
  have oF := opx_f S (kp (S.1 128) t) len
  -- the class
  have c2 : S2.1 2 = S.1 2 := by rw [s2f.2.1 2 rfl rfl, oC.1 2 rfl, oF.2.1 2 rfl rfl]
  have cc : ∀ x, x = 107 ∨ (115 ≤ x ∧ x ≤ 119) → S2.1 x = S.1 x := fun x hx => by
    rcases (show x = 107 ∨ x = 115 ∨ x = 116 ∨ x = 117 ∨ x = 118 ∨ x = 119 by omega) with rfl | rfl | rfl | rfl | rfl | rfl
    all_goals rw [s2f.2.1 _ rfl rfl, oC.1 _ rfl, oF.2.1 _ rfl rfl]
  have c0 : ∀ x, x = 13 ∨ x = 14 ∨ x = 15 ∨ x = 16 → S2.1 0 x = S.1 0 x := fun x hx => by
    rcases hx with rfl | rfl | rfl | rfl
    all_goals rw [s2f.2.2 0 _ rfl rfl, oC.2 0 _ rfl, oF.2.2 0 _ rfl rfl]
  have c106 : S2.1 106 2 = S.1 106 2 := by rw [s2f.2.2 106 2 rfl rfl, oC.2 106 2 rfl, oF.2.2 106 2 rfl rfl]
  -- the reference, up to the act
  have e2 : R'.2 = R.2 := fR.1
  have rr : ∀ x, (x = 130 ∨ x = 131 ∨ x = 132 ∨ x = 151 ∨ (232 ≤ x ∧ x ≤ 236)) → R1.1 x = R.1 x := fun x hx => by
    rcases (show x = 130 ∨ x = 131 ∨ x = 132 ∨ x = 151 ∨ x = 232 ∨ x = 233 ∨ x = 234 ∨ x = 235 ∨ x = 236 by omega) with rfl | rfl | rfl | rfl | rfl | rfl | rfl | rfl | rfl
    all_goals rw [oR.1 _ rfl, fR.2.1 _ rfl rfl]
  have r9 : ∀ x, (x = 8 ∨ x = 9 ∨ x = 10 ∨ x = 11 ∨ x = 39 ∨ x = 7) → R1.1 129 x = R.1 129 x := fun x hx => by
    rcases hx with rfl | rfl | rfl | rfl | rfl | rfl
    all_goals rw [oR.2.1 129 _ rfl, fR.2.2 129 _ rfl rfl]
  have r1 : R1.1 129 1 = R'.1 129 1 := oR.2.1 129 1 rfl
  obtain ⟨q1, q2, q3, q4, q5⟩ := oR.2.2
  rw [e2] at q1 q2 q3 q4 q5
  rw [tl_cg e2] at q3
  have hv1 := hH1.2.2.2.2.2.2.2.2.2.2.2.2.2.1
  have tx1 := hv1.1
  have n238 : 238 ≤ R1.2.2.2.1 := tx1.2.2.2.1
  obtain ⟨s1, s2, s3, s4, s5, s6, s7, s8⟩ := h7
  have rsa : R1.1 sa = R.1 sa := by
    rcases s3 with s3 | s3
    · rw [s3]
      exact rr 132 (by omega)
    · rw [q5 sa s3 s4 h7b]
      exact fR.2.1 sa rfl (by
        simp only [List.contains_cons, List.contains_nil, Bool.or_false, beq_eq_false_iff_ne, ne_eq]
        omega)
  have ta1 := hH1.ta
  have tn1 : R1.2.1 2 < R1.2.2.2.1 := by rw [tx1.1]; exact tx1.2.2.1
  have nsa : sa ≠ R1.2.1 2 := by
    rcases q4 with q4 | q4
    · rw [q4]
      exact h7b
    · omega
  have fb : frn R1 (w_put R1 129 58 0) := frn.of (L := []) (O := [129]) (J := [(129, 58)]) (by repeat (first | exact frm.refl _ _ _ _ | refine frm.put ?_ rfl | refine frm.puto ?_ rfl rfl)) (by decide) ta1
  have fn1 := hNt.fn s3 (show (w_put R1 129 58 0).2.1 2 = 140 ∨ 238 ≤ (w_put R1 129 58 0).2.1 2 from ta1) tn1 nsa n238
  obtain ⟨sa', Ls', d1, d2, d3, d4, d5, d6, d7, d8, d9, d10, d11, d12, d13⟩ := hNt
  have d11' : R1.2.2.2.1 ≤ R2.2.2.2.1 := d11
  have d12' : R2.2.2.2.1 ≤ R1.2.2.2.1 + 1 := d12
  have fP := pch_f k t y' (R.1 129 159) R2
  generalize hR3 : pch k t y' (R.1 129 159) R2 = R3 at fP
  have d5' : R2.1 131 = pt (pt (pt (pt (pt (pt (pt (R.1 131) (7 * t) (km k)) (7 * t + 1) a) (7 * t + 2) b) (7 * t + 3) c) (7 * t + 4) d) (7 * t + 5) (((kp (S.1 128) t).toNat : Nat) : Int)) (7 * t + 6) ((len.toNat : Nat) : Int) := by
    rw [d5]
    show pt (pt (pt (pt (pt (pt (pt ((w_put R1 129 58 0).1 131) _ _) _ _) _ _) _ _) _ _) _ _) _ _ = _
    rw [w_put_f (by decide), rr 131 (by omega)]
  have hr := pch_r (k := k) (y' := y') (fr := R.1 129 159) d5'
  rw [hR3] at hr
  obtain ⟨v0, v1, v2, v3, v4, v5, v6⟩ := hr
  have e3 : R3.2 = R2.2 := fP.1
  have fn3 : frn R1 R3 := (fb.trans fn1).trans (frn.of fP (by decide) (by rw [fn1.2.2.1]; exact ta1))
  have nx3 : R3.2.2.2.1 = R2.2.2.2.1 := by rw [e3]
  have tl3 : tl R3 = tl R1 := by
    rw [tl_cg e3]
    unfold tl
    rw [d9 2 (by decide)]
    show (e_len Tr R2 (R1.2.1 2) 1).getD 0 = _
    unfold e_len w_a
    rw [d10 (R1.2.1 2) tn1]
    rfl
  have slR : sl (w_put R1 129 58 0) = Ls := sl_of (a := sa) (by show R1.2.1 1 = sa; rw [q1 1 (by decide) (by decide) (by decide)]; exact s2) (by
    have : e_len Tr (w_put R1 129 58 0) sa 1 = e_len Tr R sa 1 := by
      unfold e_len w_a
      rw [← q2 sa s4]
      rfl
    rw [this]
    exact s5)
  rw [slR] at d2
  have d2' : R2.2.2.2.2 + 2 * Ls ≤ R1.2.2.2.2 + 2 * Ls' := d2.2
  have nxR : R.2.2.2.1 ≤ 256238 := by omega
  have nx1 : R1.2.2.2.1 ≤ R.2.2.2.1 + 150 := by
    rw [e2] at gnx
    omega
  have row3 : ∀ x, x < R1.2.2.2.1 → x ≠ 129 → x ≠ 131 → x ≠ sa → R3.1 x = R1.1 x := fun x x1 x2 x3 x4 => by
    rw [fP.2.1 x (by simpa using x3) rfl, d8 x x1 x2 x3 x4]
    exact w_put_f x2
  have o129 : ∀ x, x ≠ 7 → x ≠ 58 → R3.1 129 x = R1.1 129 x := fun x x1 x2 => by
    rw [fP.2.1 129 rfl rfl, d4 x x1, w_put_r, if_pos rfl, pt_at, if_neg x2]
  have z58 : R3.1 129 58 = 0 := by rw [fP.2.1 129 rfl rfl, d4 58 (by decide), w_put_r, if_pos rfl, pt_at, if_pos rfl]
  have z7 : R3.1 129 7 = (t : Int) + 1 := by rw [fP.2.1 129 rfl rfl]; exact d3
  have sa1 : R3.1 sa' = R2.1 sa' := fP.2.1 sa' (by
    have := d1.2.2.1
    simp only [List.contains_cons, List.contains_nil, Bool.or_false, beq_eq_false_iff_ne, ne_eq]
    omega) rfl
  have rS : ∀ x, x < 238 → x ≠ 129 → x ≠ 131 → x ≠ 132 → R3.1 x = R1.1 x := fun x x1 x2 x3 x4 => row3 x (by omega) x2 x3 (by omega)
  -- batches
  have n238R : 238 ≤ R.2.2.2.1 := by
    have := hH.2.2.2.2.2.2.2.2.2.2.2.2.2.1.1.2.2.2.1
    rw [e2] at this
    exact this
  have hwk : RelWk R1 := by
    by_cases kb : k = 42
    · exact (pB kb hy).1
    · have := (pO (Or.inl kb)).2.2.2
      exact hX.2.2.1.kp this.2.1 this.2.2 (fun b hb => by rw [q2 b (by omega), e2])
  have v17 : R'.1 129 17 = (V : Int) := hH.2.2.2.2.2.2.2.2.2.2.2.2.2.1.2.2.2.1
  have v17b : R1.1 129 17 = (V' : Int) := hv1.2.2.2.1
  have f159 : R'.1 129 159 = R.1 129 159 := fR.2.2 129 159 rfl rfl
  have f17 : R'.1 129 17 = R.1 129 17 := fR.2.2 129 17 rfl rfl
  have f237 : R'.1 237 = R.1 237 := fR.2.1 237 rfl rfl
  have hrec : R.1 129 159 ≤ R1.1 129 159 ∧ R1.1 129 159 ≤ R1.1 129 17 ∧ (∀ u : Nat, (u : Int) < R.1 129 159 → R1.1 237 u = R.1 237 u) := by
    by_cases kb : k = 42
    · obtain ⟨_, _, _, _, b5, b6, b7, _⟩ := pB kb hy
      rw [f159] at b5 b6
      rw [f237] at b6
      exact ⟨by omega, by omega, b6⟩
    · have := (pO (Or.inl kb)).2
      rw [this.2.1 129 159 rfl, f159, this.1 237 rfl, f237]
      exact ⟨Int.le_refl _, by omega, fun _ _ => rfl⟩
  have jl : ∀ u, u < 6 * t → S2.1 128 u = S.1 128 u := fun u hu => by rw [s128]; exact j6_lo hu
  obtain ⟨a0, a1, a2, a3, a4, a5⟩ := @j6_at (S.1 128) t k a b c d len
  have kp1 : kp (S2.1 128) (t + 1) = kp (S.1 128) t + len := by rw [s128]; exact j6_kp1
  have kpl : ∀ u, u ≤ t → kp (S2.1 128) u = kp (S.1 128) u := fun u hu => by rw [s128]; exact j6_kp hu
  have ln2 : ∀ u, u < t + 1 → 0 ≤ S2.1 128 (6 * u + 5) := fun u hu => by
    by_cases c : u = t
    · subst c
      rw [s128, a5]
      exact l0
    · rw [jl _ (by omega)]
      exact ln u (by omega)
  have al1 : Al e N (S2.1 128) (S2.1 2) (t + 1) R1 := by
    rw [s128, c2]
    have E1 : Eok (j6 (S.1 128) t k a b c d len) t := by
      unfold Eok
      rw [a0, a5, j6_kp (Nat.le_refl t), j6_kp1]
      exact ⟨by omega, hk, hk2, l0, l1, k0, l2, l3⟩
    refine r_all (y' := y') hN E1 hX hA ?_ r40
    rw [a0, a1, a2, a3, a4]
    exact eR
  have sm2 : Same (kp (S2.1 128) (t + 1)) S1 S2 := Same.of s2f (by decide)
  have hH2 : Hs S2 R3 ((t + 1 : Nat) : Int) (kp (S2.1 128) (t + 1)) ta' L' E' V' n' := by
    rw [kp1] at sm2 ⊢
    exact (hH1.rf fn3 (by omega)).same sm2
  have endk : ∀ u, u < t → S.1 128 (6 * u) = 42 → R.1 131 (7 * u + 1) + R.1 131 (7 * u + 2) ≤ R.1 129 159 := fun u hu hz => by
    obtain ⟨X, X1, _, _, _, _, _, _, g6⟩ := h12 u hu
    obtain ⟨g1, g2, g3, _⟩ := g6 hz
    omega
  refine ⟨⟨pA.1, fun z => ?_, fun z => ?_⟩, t + 1, sa', Ls', ⟨by rw [s12]; omega, by omega, by rw [s11, kp1], by rw [kp1]; exact l2, fun p => by rw [c2]; exact h5 p, ⟨by omega, by rw [tl3, e3]; omega⟩, ⟨?_, ?_, by rw [kp1]; omega, fun p hp => ?_⟩, fun u hu => ?_, ⟨?_, ?_⟩, ?_, ?_, fun u hu => ?_, fun u m hum hm z1 z2 => ?_⟩, ?_, ⟨?_, ?_⟩, ?_, ⟨ta', L', E', V', n', hH2, Or.inl z58⟩⟩
  · -- pay
    have := pA.2.1 z
    rw [oF.2.2 46 0 rfl rfl] at this
    rw [s2f.2.1 48 rfl rfl, s2f.2.2 46 0 rfl rfl]
    exact this
  · have := pA.2.2 z
    rw [s2f.2.2 0 18 rfl rfl]
    exact this
  · -- where texts stand
    obtain ⟨t1, t2, t3, t4, t5, t6, t7, t8⟩ := d1
    refine ⟨by rw [e3]; exact t1, by rw [e3]; exact t2, t3, by rw [e3]; exact t4, ?_, t6, t7, ?_⟩
    · unfold e_len w_a at t5 ⊢
      rw [e3]
      exact t5
    · unfold e_len w_a at t8 ⊢
      rw [e3]
      exact t8
  · rw [e3, d9 2 (by decide)]
    show sa' ≠ R1.2.1 2
    rcases d13 with d13 | d13
    · rw [d13]
      exact nsa
    · have : R1.2.2.2.1 ≤ sa' := d13
      omega
  · rw [kp1] at hp
    rw [sa1, c2]
    by_cases cp : (p : Int) < kp (S.1 128) t
    · rw [d6 p (by omega)]
      show (w_put R1 129 58 0).1 sa p = _
      rw [w_put_f (by omega), rsa]
      exact h7d p cp
    · have := d7 (p - (kp (S.1 128) t).toNat) (by omega)
      rw [show (kp (S.1 128) t).toNat + (p - (kp (S.1 128) t).toNat) = p by omega] at this
      rw [this]
      show (w_put R1 129 58 0).1 130 _ = _
      rw [w_put_f (by decide), rr 130 (by omega)]
      have hl : len = S.1 1 2 := by
        rcases sf2 with ⟨_, z⟩ | ⟨_, z⟩
        · omega
        · exact z
      rw [(htp.2.2.2.2.2 _ (by omega)).1, h3, show (kp (S.1 128) t).toNat + (p - (kp (S.1 128) t).toNat) = p by omega]
  · -- entries
    by_cases cu : u = t
    · subst cu
      unfold Ent
      rw [s128, a0, a1, a2, a3, a4, a5, j6_kp (Nat.le_refl u), v1, v2, v3]
      exact ⟨hk, hk2, rfl, by omega, by omega, l0, l1, l3, v4⟩
    · have hE := h8 u (by omega)
      unfold Ent at hE ⊢
      rw [jl _ (by omega), jl _ (by omega), jl _ (by omega), jl _ (by omega), jl _ (by omega), jl _ (by omega), kpl u (by omega), v0 _ (by omega), v0 _ (by omega), v0 _ (by omega), v0 _ (by omega), v0 _ (by omega), v0 _ (by omega), v0 _ (by omega)]
      exact hE
  · rw [o129 159 (by decide) (by decide)]
    omega
  · rw [o129 159 (by decide) (by decide), o129 17 (by decide) (by decide)]
    exact hrec.2.1
  · -- reached
    have o2 : (opx S (kp (S.1 128) t) len).1 2 = S.1 2 := oF.2.1 2 rfl rfl
    refine ⟨S, opx S (kp (S.1 128) t) len, y, S1, h10.cg jl ln (fun p _ => by rw [c2]), by rw [kpl t (Nat.le_refl t)]; exact Same.of oF (by decide), ?_, fun p _ => by rw [o2, c2], fun p => by rw [o2]; exact h5 p, ?_, hy, sm2⟩
    · rw [kpl t (Nat.le_refl t), s128, a5]
      exact opx_o S _ _
    · rw [s128, a0, a1, a2, a3, a4]
      exact eC
  · exact al1.rf fn3 (by omega)
  · -- how acts were done
    by_cases cu : u = t
    · subst cu
      refine ⟨R', R1, y', ?_, ?_, ?_, r40, fun z => ?_, fun z => ?_⟩
      · rw [s128, c2]
        exact hX
      · rw [s128, c2]
        exact hA
      · rw [s128, a0, a1, a2, a3, a4]
        exact eR
      · rw [s128, a0] at z
        exact v5 z
      · rw [s128, a0] at z
        obtain ⟨w1, w2⟩ := v6 z
        have g159 : R2.1 129 159 = R1.1 129 159 := by rw [d4 159 (by decide), w_put_r, if_pos rfl, pt_at, if_neg (by decide)]
        rw [w1, w2, g159, f159, o129 159 (by decide) (by decide), rS 237 (by decide) (by decide) (by decide) (by decide)]
        exact ⟨rfl, rfl, Int.le_refl _, hrec.1, fun _ _ _ => rfl⟩
    · refine (h12 u (by omega)).cg (fun v hv => jl v (by omega)) (fun i hi => ln i (by omega)) (fun p _ => by rw [c2]) (v0 _ (by omega)) (v0 _ (by omega)) (fun z => ?_)
      have := endk u (by omega) z
      rw [o129 159 (by decide) (by decide), rS 237 (by decide) (by decide) (by decide) (by decide)]
      exact ⟨by omega, fun v hv => hrec.2.2 v (by omega)⟩
  · -- records of batches in their order
    rw [jl _ (by omega)] at z1
    rw [v0 _ (by omega), v0 _ (by omega)]
    by_cases cm : m = t
    · subst cm
      rw [s128, a0] at z2
      rw [(v6 z2).1]
      exact endk u hum z1
    · rw [jl _ (by omega)] at z2
      rw [v0 _ (by omega)]
      exact h13 u m hum (by omega) z1 z2
  · -- numbers
    obtain ⟨⟨m1, m2, m3, m4, m5, m6, m7, m8, m9, m10, m11⟩, m12, m13, m14, m15⟩ := hnum
    unfold Num RelM
    rw [z7, s12, o129 8 (by decide) (by decide), o129 9 (by decide) (by decide), o129 10 (by decide) (by decide), o129 11 (by decide) (by decide), r9 8 (by omega), r9 9 (by omega), r9 10 (by omega), r9 11 (by omega), c0 13 (by omega), c0 14 (by omega), c0 15 (by omega), c0 16 (by omega)]
    exact ⟨⟨rfl, m2, m3, m4, m5, by omega, by omega, m8, m9, m10, m11⟩, m12, m13, by omega, by omega⟩
  · -- the tape
    obtain ⟨p1, p2, p3, p4, p5, p6⟩ := htp
    unfold RelTp
    rw [o129 1 (by decide) (by decide), r1, sfd, s11, c2, rS 130 (by decide) (by decide) (by decide) (by decide), rr 130 (by omega)]
    rcases sf2 with ⟨z1, z2⟩ | ⟨z1, z2⟩
    · rw [z1, z2, Int.add_zero, ← h3]
      exact ⟨rfl, p2, p3, p4, p5, p6⟩
    · rw [z1]
      exact ⟨rfl, by omega, by omega, by omega, by omega, fun p hp => by omega⟩
  · rw [s11, sfd]
    rcases sf2 with ⟨z1, z2⟩ | ⟨z1, z2⟩ <;> omega
  · -- what was asked
    obtain ⟨i1, i2, i3, i4, i5⟩ := hask
    refine ⟨?_, ?_, ?_, ?_, hwk.kp (by rw [e3, d9 3 (by decide)]; rfl) (by rw [e3, d9 4 (by decide)]; rfl) (fun b hb => by rw [e3, d10 b (show b < R1.2.2.2.1 by omega)]; rfl), fun b hb => ?_⟩
    · unfold RelK at i1 ⊢
      rw [cc 115 (by omega), cc 116 (by omega), cc 117 (by omega), cc 118 (by omega), cc 119 (by omega), rS 232 (by decide) (by decide) (by decide) (by decide), rS 233 (by decide) (by decide) (by decide) (by decide), rS 234 (by decide) (by decide) (by decide) (by decide), rS 235 (by decide) (by decide) (by decide) (by decide), rS 236 (by decide) (by decide) (by decide) (by decide), rr 232 (by omega), rr 233 (by omega), rr 234 (by omega), rr 235 (by omega), rr 236 (by omega)]
      exact i1
    · unfold RelPr at i2 ⊢
      rw [c106, cc 107 (by omega), o129 39 (by decide) (by decide), r9 39 (by omega), rS 151 (by decide) (by decide) (by decide) (by decide), rr 151 (by omega)]
      exact i2
    · by_cases kb : k = 42
      · exact (pB kb hy).2.1.cg (s2f.2.2 106 4 rfl rfl) (s2f.2.1 108 rfl rfl) (s2f.2.2 3 0 rfl rfl) (o129 51 (by decide) (by decide)) (rS 160 (by decide) (by decide) (by decide) (by decide))
      · obtain ⟨oc, or⟩ := pO (Or.inl kb)
        have n0 : S.1 3 0 = (n : Int) := by
          rw [← oF.2.2 3 0 rfl rfl]
          exact hH.2.2.2.2.2.2.2.2.2.2.2.2.2.1.2.2.2.2.2.1
        have n1 : S2.1 3 0 = (n' : Int) := by
          rw [s2f.2.2 3 0 rfl rfl]
          exact hv1.2.2.2.2.2.1
        obtain ⟨w1, w2, w3, w4⟩ := i3
        unfold RelFn
        rw [n1, s2f.2.2 106 4 rfl rfl, oc.2 106 4 rfl, oF.2.2 106 4 rfl rfl, s2f.2.1 108 rfl rfl, oc.1 108 rfl, oF.2.1 108 rfl rfl, o129 51 (by decide) (by decide), or.2.1 129 51 rfl, fR.2.2 129 51 rfl rfl, rS 160 (by decide) (by decide) (by decide) (by decide), or.1 160 rfl, fR.2.1 160 rfl rfl]
        refine ⟨w1, w2, w3, fun q hq => ?_⟩
        obtain ⟨x1, x2, x3⟩ := w4 q hq
        exact ⟨x1, x2, by omega⟩
    · by_cases kb : k = 42
      · exact (pB kb hy).2.2.1.cg (s2f.2.2 106 8 rfl rfl) (s2f.2.1 111 rfl rfl) (o129 102 (by decide) (by decide)) (o129 51 (by decide) (by decide)) (rS 196 (by decide) (by decide) (by decide) (by decide))
      · obtain ⟨oc, or⟩ := pO (Or.inl kb)
        exact i4.cg (by rw [s2f.2.2 106 8 rfl rfl, oc.2 106 8 rfl, oF.2.2 106 8 rfl rfl]) (by rw [s2f.2.1 111 rfl rfl, oc.1 111 rfl, oF.2.1 111 rfl rfl]) (by rw [o129 102 (by decide) (by decide), or.2.1 129 102 rfl, fR.2.2 129 102 rfl rfl]) (by rw [o129 51 (by decide) (by decide), or.2.1 129 51 rfl, fR.2.2 129 51 rfl rfl]) (by rw [rS 196 (by decide) (by decide) (by decide) (by decide), or.1 196 rfl, fR.2.1 196 rfl rfl])
    · rw [e3, d10 b (show b < R1.2.2.2.1 by omega)]
      show R1.2.2.1 b = none
      rw [q2 b (by omega)]
      exact i5.2 b hb
end
section
-- h6
theorem a_ref {e : w_E} {N i t sa Ls ta L E V n : Nat} {S R R' S1 R1 S2 : w_S} {k a len y y' : Int} (hi : i < 512) (h : Core e N i S R t sa Ls) (hnum : Num S R t) (htp : RelTp S R) (h20 : S.1 1 1 + S.1 1 2 ≤ 20 * (i : Int)) (hask : Ask S R) (hval : Val S R t) (fR : frm [] [129] [(129, 1), (129, 2), (129, 4)] R R') (hP : Pg k a (opx S (kp (S.1 128) t) len) R' (t : Int) (kp (S.1 128) t) (kp (S.1 128) t + len) ta L E V n y y' S1 R1) (hy : y < 0) (s2f : frm [] [1] [(1, 2)] S1 S2) (sfd : S2.1 1 2 = R'.1 129 1) (sf2 : R'.1 129 1 = S.1 1 2 ∨ R'.1 129 1 = 0) : Ans k a S S2 y y' ∧ Inv e N (i + 1) S2 R1 := by
  have ln := h.lens
  have k0 := kpj_ge ln
  obtain ⟨h1, h2, h3, h4, h5, h6, ⟨h7, h7b, h7c, h7d⟩, h8, h9, h10, h11, h12, h13⟩ := h
  obtain ⟨pA, pH, pO, pB⟩ := hP
  obtain ⟨oC, oR⟩ := pO (Or.inr hy)
  obtain ⟨_, _, gnx, pH⟩ := pH
  rcases pH with ⟨_, r4, sm, fn⟩ | ⟨z, _⟩
  rotate_left
  · omega
  have oF := opx_f S (kp (S.1 128) t) len
  have e2 : R'.2 = R.2 := fR.1
  have taR : R.2.1 2 = 140 ∨ 238 ≤ R.2.1 2 := by
    obtain ⟨ta0, L0, E0, V0, n0, hh, _⟩ := hval
    exact hh.ta
  have fn1 : frn R R1 := (frn.of fR (by decide) taR).trans fn
  have smS : Same (kp (S.1 128) t) S S2 := ((Same.of oF (by decide)).trans sm).trans (Same.of s2f (by decide))
  -- the class
  have c2 : S2.1 2 = S.1 2 := by rw [s2f.2.1 2 rfl rfl, oC.1 2 rfl, oF.2.1 2 rfl rfl]
  have c128 : S2.1 128 = S.1 128 := by rw [s2f.2.1 128 rfl rfl, oC.1 128 rfl, oF.2.1 128 rfl rfl]
  have cc : ∀ x, x = 107 ∨ x = 108 ∨ x = 111 ∨ (115 ≤ x ∧ x ≤ 119) → S2.1 x = S.1 x := fun x hx => by
    rcases (show x = 107 ∨ x = 108 ∨ x = 111 ∨ x = 115 ∨ x = 116 ∨ x = 117 ∨ x = 118 ∨ x = 119 by omega) with rfl | rfl | rfl | rfl | rfl | rfl | rfl | rfl
    all_goals rw [s2f.2.1 _ rfl rfl, oC.1 _ rfl, oF.2.1 _ rfl rfl]
  have c0 : ∀ x, x = 12 ∨ x = 13 ∨ x = 14 ∨ x = 15 ∨ x = 16 → S2.1 0 x = S.1 0 x := fun x hx => by
    rcases hx with rfl | rfl | rfl | rfl | rfl
    all_goals rw [s2f.2.2 0 _ rfl rfl, oC.2 0 _ rfl, oF.2.2 0 _ rfl rfl]
  have c11 : S2.1 1 1 = S.1 1 1 := by rw [s2f.2.2 1 1 rfl rfl, oC.2 1 1 rfl, oF.2.2 1 1 rfl rfl]
  have c106 : ∀ x, x = 2 ∨ x = 4 ∨ x = 8 → S2.1 106 x = S.1 106 x := fun x hx => by
    rcases hx with rfl | rfl | rfl
    all_goals rw [s2f.2.2 106 _ rfl rfl, oC.2 106 _ rfl, oF.2.2 106 _ rfl rfl]
  -- the reference
  have rr : ∀ x, KR.contains x = true → R1.1 x = R.1 x := fun x hx => by
    rw [oR.1 x hx]
    exact fR.2.1 x rfl (by
      have lt : ∀ c ∈ KR, c ≠ 129 := by decide
      simpa using lt x (by simpa using hx))
  have r9 : ∀ x, (x = 7 ∨ x = 8 ∨ x = 9 ∨ x = 10 ∨ x = 11 ∨ x = 39 ∨ x = 51 ∨ x = 58 ∨ x = 59 ∨ x = 60 ∨ x = 102 ∨ x = 159) → R1.1 129 x = R.1 129 x := fun x hx => by
    rcases hx with rfl | rfl | rfl | rfl | rfl | rfl | rfl | rfl | rfl | rfl | rfl | rfl
    all_goals rw [oR.2.1 129 _ rfl, fR.2.2 129 _ rfl rfl]
  have r1 : R1.1 129 1 = R'.1 129 1 := oR.2.1 129 1 rfl
  obtain ⟨⟨q1, q2, q3, q4, q5⟩, q6, q7⟩ := oR.2.2
  rw [e2] at q1 q2 q3 q4 q5 q6 q7 gnx
  rw [tl_cg e2] at q3
  obtain ⟨s1, s2, s3, s4, s5, s6, s7, s8⟩ := h7
  have q2' : R1.2.1 2 = R.2.1 2 := fn1.2.2.1
  have rsa : R1.1 sa = R.1 sa := by
    rcases s3 with s3 | s3
    · rw [s3]
      exact rr 132 rfl
    · rw [q5 sa s3 s4 h7b]
      exact fR.2.1 sa rfl (by
        simp only [List.contains_cons, List.contains_nil, Bool.or_false, beq_eq_false_iff_ne, ne_eq]
        omega)
  have d17 : R1.1 129 17 = R.1 129 17 := fn1.2.1 17 rfl
  obtain ⟨ta0, L0, E0, V0, n0, hh, hva⟩ := hval
  have hn238 : 238 ≤ R.2.2.2.1 := hh.2.2.2.2.2.2.2.2.2.2.2.2.2.1.1.2.2.2.1
  have nxb : R1.2.2.2.1 ≤ R.2.2.2.1 + 150 := by omega
  have hta : R.2.1 2 = ta0 := hh.2.2.2.2.2.2.2.2.2.2.2.2.2.1.1.1
  have d12 : R1.1 129 12 = R.1 129 12 := fn1.2.1 12 rfl
  have hl : ∀ b, b < 238 → R1.2.2.1 b = R.2.2.1 b := fun b hb => q2 b (by omega)
  refine ⟨⟨pA.1, fun z => ?_, fun z => ?_⟩, t, sa, Ls, ⟨by rw [c0 12 (by omega)]; exact h1, by omega, by rw [c11, c128]; exact h3, by rw [c128]; exact h4, fun p => by rw [c2]; exact h5 p, by omega, ⟨⟨by rw [q1 0 (by decide) (by decide) (by decide)]; exact s1, by rw [q1 1 (by decide) (by decide) (by decide)]; exact s2, s3, by omega, ?_, s6, s7, ?_⟩, by rw [q2']; exact h7b, by rw [c128]; exact h7c, fun p hp => ?_⟩, ?_, ?_, ?_, ?_, fun u hu => ?_, ?_⟩, ?_, ⟨?_, ?_⟩, ?_, ⟨ta0, L0, E0, V0, n0, ?_, ?_⟩⟩
  · have := pA.2.1 z
    rw [oF.2.2 46 0 rfl rfl] at this
    rw [s2f.2.1 48 rfl rfl, s2f.2.2 46 0 rfl rfl]
    exact this
  · have := pA.2.2 z
    rw [s2f.2.1 0 rfl rfl]
    exact this
  · unfold e_len w_a at s5 ⊢
    rw [q2 sa s4]
    exact s5
  · unfold e_len w_a at s8 ⊢
    rw [hl 131 (by decide)]
    exact s8
  · rw [c128] at hp
    rw [rsa, c2]
    exact h7d p hp
  · rw [c128, rr 131 rfl]
    exact h8
  · rw [r9 159 (by omega), d17]
    exact h9
  · rw [c128, c2]
    exact h10.same smS
  · rw [c128, c2]
    exact h11.rf fn1 (by omega)
  · rw [c128, c2]
    refine (h12 u hu).cg (fun _ _ => rfl) (fun i hi => ln i (by omega)) (fun _ _ => rfl) (by rw [rr 131 rfl]) (by rw [rr 131 rfl]) (fun z => ?_)
    obtain ⟨X, X1, _, _, _, _, _, _, g6⟩ := h12 u hu
    obtain ⟨g1, g2, g3, _⟩ := g6 z
    rw [r9 159 (by omega), rr 237 rfl]
    exact ⟨by omega, fun _ _ => rfl⟩
  · rw [c128, rr 131 rfl]
    exact h13
  · unfold Num RelM at hnum ⊢
    rw [r9 7 (by omega), r9 8 (by omega), r9 9 (by omega), r9 10 (by omega), r9 11 (by omega), c0 12 (by omega), c0 13 (by omega), c0 14 (by omega), c0 15 (by omega), c0 16 (by omega)]
    exact hnum
  · obtain ⟨p1, p2, p3, p4, p5, p6⟩ := htp
    unfold RelTp
    rw [r1, sfd, c11, c2, rr 130 rfl]
    rcases sf2 with z1 | z1
    · rw [z1]
      exact ⟨rfl, p2, p3, p4, p5, p6⟩
    · rw [z1]
      exact ⟨rfl, by omega, by omega, by omega, by omega, fun p hp => by omega⟩
  · have := htp.2.1
    rw [c11, sfd]
    rcases sf2 with z1 | z1 <;> omega
  · obtain ⟨i1, i2, i3, i4, i5⟩ := hask
    refine ⟨?_, ?_, ?_, ?_, i5.kp q6 q7 hl⟩
    · unfold RelK at i1 ⊢
      rw [cc 115 (by omega), cc 116 (by omega), cc 117 (by omega), cc 118 (by omega), cc 119 (by omega), rr 232 rfl, rr 233 rfl, rr 234 rfl, rr 235 rfl, rr 236 rfl]
      exact i1
    · unfold RelPr at i2 ⊢
      rw [c106 2 (by omega), cc 107 (by omega), r9 39 (by omega), rr 151 rfl]
      exact i2
    · exact i3.cg (c106 4 (by omega)) (cc 108 (by omega)) (smS.1.2.2 3 0 rfl rfl) (r9 51 (by omega)) (rr 160 rfl)
    · exact i4.cg (c106 8 (by omega)) (cc 111 (by omega)) (r9 102 (by omega)) (r9 51 (by omega)) (rr 196 rfl)
  · rw [c128]
    exact (hh.same smS).rf fn1 (by omega)
  · rw [c128]
    refine hva.cg (fun a ha => ?_) (c106 4 (by omega)) (fun a ha => ?_) d12 (r9 58 (by omega)) (r9 59 (by omega)) (r9 60 (by omega)) (fun v d F => nmo_fn fn1 v d F)
    · rcases (show a = 2 ∨ a = 4 ∨ a = 5 ∨ a = 8 ∨ a = 9 ∨ a = 10 ∨ a = 11 ∨ a = 12 ∨ a = 13 ∨ a = 14 ∨ a = 15 ∨ a = 16 ∨ a = 108 by omega) with rfl | rfl | rfl | rfl | rfl | rfl | rfl | rfl | rfl | rfl | rfl | rfl | rfl
      · exact c2
      all_goals first | exact cc 108 (by omega) | exact smS.1.2.1 _ rfl rfl
    · rcases ha with ha | ha | ha
      · rcases (show a = 136 ∨ a = 137 ∨ a = 138 ∨ a = 139 ∨ a = 140 ∨ a = 141 ∨ a = 142 ∨ a = 143 ∨ a = 144 ∨ a = 145 ∨ a = 146 ∨ a = 147 ∨ a = 148 ∨ a = 149 by omega) with rfl | rfl | rfl | rfl | rfl | rfl | rfl | rfl | rfl | rfl | rfl | rfl | rfl | rfl
        all_goals exact fn1.1 _ (by decide) rfl (by decide)
      · rw [ha, ← hta]
        exact fn1.2.2.2.1
      · rcases (show a = 163 ∨ a = 164 ∨ a = 165 by omega) with rfl | rfl | rfl
        all_goals exact rr _ rfl
end
section
-- h7
theorem len_at {R R1 : w_S} {a k : Nat} (h : R1.2.2.1 a = R.2.2.1 a) : e_len Tr R1 a k = e_len Tr R a k := by
  unfold e_len w_a
  rw [h]
theorem ht_k {e : w_E} {N : Nat} {k : Int} (X : w_S) (h0 : 0 ≤ k) (h1 : k ≤ 44) : E_R_hasText e N (km k) X = some (if k < 32 then 0 else 1, X) := by
  rcases (show k = 0 ∨ k = 1 ∨ k = 2 ∨ k = 3 ∨ k = 4 ∨ k = 5 ∨ k = 6 ∨ k = 7 ∨ k = 8 ∨ k = 9 ∨ k = 10 ∨ k = 11 ∨ k = 12 ∨ k = 13 ∨ k = 14 ∨ k = 15 ∨ k = 16 ∨ k = 17 ∨ k = 18 ∨ k = 19 ∨ k = 20 ∨ k = 21 ∨ k = 22 ∨ k = 23 ∨ k = 24 ∨ k = 25 ∨ k = 26 ∨ k = 27 ∨ k = 28 ∨ k = 29 ∨ k = 30 ∨ k = 31 ∨ k = 32 ∨ k = 33 ∨ k = 34 ∨ k = 35 ∨ k = 36 ∨ k = 37 ∨ k = 38 ∨ k = 39 ∨ k = 40 ∨ k = 41 ∨ k = 42 ∨ k = 43 ∨ k = 44 by omega) with rfl | rfl | rfl | rfl | rfl | rfl | rfl | rfl | rfl | rfl | rfl | rfl | rfl | rfl | rfl | rfl | rfl | rfl | rfl | rfl | rfl | rfl | rfl | rfl | rfl | rfl | rfl | rfl | rfl | rfl | rfl | rfl | rfl | rfl | rfl | rfl | rfl | rfl | rfl | rfl | rfl | rfl | rfl | rfl | rfl
  all_goals rfl
/-- an act of the reference, as its methods have it -/
def Ra (e : w_E) (N : Nat) (k x1 x2 x3 x4 : Int) (S : w_S) : e_R := ((E_R_hasText e N k (w_put S 129 4 0)).bind (fun q651 => (if q651.1 = 0 then ((E_R_perform e N k x1 x2 x3 x4 q651.2).bind (fun q652 => (if (q652.2.1 129 4) = 0 then ((E_R_hasText e N k (w_put q652.2 129 58 0)).bind (fun q1229 => (if q1229.1 = 0 then ((E_R_note e N k x1 x2 x3 x4 0 q1229.2).bind (fun q1230 => some (q652.1, q1230.2))) else ((E_R_note e N k x1 x2 x3 x4 (q1229.2.1 129 2) q1229.2).bind (fun q1231 => some (q652.1, q1231.2)))))) else some (q652.1, q652.2)))) else ((E_R_takeTape e N  q651.2).bind (fun q1232 => ((E_R_perform e N k x1 x2 x3 x4 q1232.2).bind (fun q1233 => (if (q1233.2.1 129 4) = 0 then ((E_R_hasText e N k (w_put q1233.2 129 58 0)).bind (fun q1234 => (if q1234.1 = 0 then ((E_R_note e N k x1 x2 x3 x4 0 q1234.2).bind (fun q1235 => some (q1233.1, q1235.2))) else ((E_R_note e N k x1 x2 x3 x4 (q1234.2.1 129 2) q1234.2).bind (fun q1236 => some (q1233.1, q1236.2)))))) else some (q1233.1, q1233.2)))))))))
/-- the note of an act that was done -/
theorem a_nt {e : w_E} {N i t sa Ls ta L E V n : Nat} {S R R' S1 R1 : w_S} {k a b c d len y y' : Int} (hN : 16000000 ≤ N) (hi : i < 512) (h : Core e N i S R t sa Ls) (hm : R.1 129 7 = (t : Int)) (htp : RelTp S R) (l0 : 0 ≤ len) (l1 : len ≤ 2000) (l2 : kp (S.1 128) t + len ≤ 10240) (hl : len = 0 ∨ len = S.1 1 2) (fR : frm [] [129] [(129, 1), (129, 2), (129, 4)] R R') (hP : Pg k a (opx S (kp (S.1 128) t) len) R' (t : Int) (kp (S.1 128) t) (kp (S.1 128) t + len) ta L E V n y y' S1 R1) (hy : 0 ≤ y) : Ok (E_R_note e N (km k) a b c d len (w_put R1 129 58 0)) (fun _ R2 => Nt (w_put R1 129 58 0) t (kp (S.1 128) t).toNat len.toNat (km k) a b c d sa R2) := by
  have ln := h.lens
  have k0 := kpj_ge ln
  obtain ⟨h1, h2, h3, h4, h5, h6, ⟨h7, h7b, h7c, h7d⟩, h8, h9, h10, h11, h12, h13⟩ := h
  obtain ⟨pA, pH, pO, pB⟩ := hP
  obtain ⟨oC, oR, gnx, pH⟩ := pH
  rcases pH with ⟨z, _⟩ | ⟨_, r4, ta', L', E', V', n', hH1, hV, hn⟩
  · omega
  have e2 : R'.2 = R.2 := fR.1
  obtain ⟨q1, q2, q3, q4, q5⟩ := oR.2.2
  rw [e2] at q1 q2 q3 q4 q5 gnx
  have n238 : 238 ≤ R1.2.2.2.1 := hH1.2.2.2.2.2.2.2.2.2.2.2.2.2.1.1.2.2.2.1
  obtain ⟨s1, s2, s3, s4, s5, s6, s7, s8⟩ := h7
  have r131 : R1.1 131 = R.1 131 := by rw [oR.1 131 rfl, fR.2.1 131 rfl rfl]
  have r130 : R1.1 130 = R.1 130 := by rw [oR.1 130 rfl, fR.2.1 130 rfl rfl]
  have rsa : R1.1 sa = R.1 sa := by
    rcases s3 with s3 | s3
    · rw [s3, oR.1 132 rfl, fR.2.1 132 rfl rfl]
    · rw [q5 sa s3 s4 h7b]
      exact fR.2.1 sa rfl (by
        simp only [List.contains_cons, List.contains_nil, Bool.or_false, beq_eq_false_iff_ne, ne_eq]
        omega)
  have hR238 : 238 ≤ R.2.2.2.1 := by
    rcases s3 with s3 | s3
    · have := hH1
      have q := h11 S h10
      obtain ⟨_, _, _, _, _, hh⟩ := q
      exact hh.2.2.2.2.2.2.2.2.2.2.2.2.2.1.1.2.2.2.1
    · omega
  have f7 : (w_put R1 129 58 0).1 129 7 = (t : Int) := by
    rw [w_put_r, if_pos rfl, pt_at, if_neg (by decide), oR.2.1 129 7 rfl, fR.2.2 129 7 rfl rfl]
    exact hm
  have Fi : (((kp (S.1 128) t).toNat : Nat) : Int) = kp (S.1 128) t := by omega
  have ni : ((len.toNat : Nat) : Int) = len := by omega
  rw [← ni]
  refine x_note (by omega) (Ls := Ls) ⟨?_, ?_, s3, ?_, ?_, s6, s7, ?_⟩ (by omega) f7 (fun z => by subst z; rfl) (fun z => ?_) (by omega) (by omega) (by omega) n238 (by show R1.2.2.2.1 ≤ 899000; omega) (fun u hu => ?_) (fun u hu => ?_)
  · show R1.2.1 0 = 131
    rw [q1 0 (by decide) (by decide) (by decide)]
    exact s1
  · show R1.2.1 1 = sa
    rw [q1 1 (by decide) (by decide) (by decide)]
    exact s2
  · show sa < R1.2.2.2.1
    omega
  · rw [len_at (show (w_put R1 129 58 0).2.2.1 sa = R.2.2.1 sa from q2 sa s4)]
    exact s5
  · rw [len_at (show (w_put R1 129 58 0).2.2.1 131 = R.2.2.1 131 from q2 131 (by omega))]
    exact s8
  · rw [w_put_f (by decide), r131]
    have hE := h8 (t - 1) (by omega)
    obtain ⟨_, _, _, w4, w5, _⟩ := hE
    rw [show 7 * t - 2 = 7 * (t - 1) + 5 by omega, show 7 * t - 1 = 7 * (t - 1) + 6 by omega, w4, w5, Fi]
    obtain ⟨t', ht'⟩ : ∃ q, t = q + 1 := ⟨t - 1, by omega⟩
    subst ht'
    rfl
  · rw [w_put_f (by omega), rsa, h7d u (by omega)]
    exact h5 u
  · rw [w_put_f (by decide), r130]
    have hl2 : len = S.1 1 2 := by
      rcases hl with z | z
      · omega
      · exact z
    exact (htp.2.2.2.2.2 u (by omega)).2
/-- what an act leaves, in both -/
def ActP (e : w_E) (N i : Nat) (k a : Int) (S R : w_S) (y : Int) (S2 : w_S) (y' : Int) (R2 : w_S) : Prop := Ans k a S S2 y y' ∧ ((y < 0 ∧ R2.1 129 7 = R.1 129 7 ∧ Inv e N (i + 1) S2 R2) ∨ (0 ≤ y ∧ ∃ t : Nat, R.1 129 7 = (t : Int) ∧ t < 512 ∧ R2.1 129 7 = (t : Int) + 1 ∧ R2.2.1 0 = 131 ∧ e_len Tr R2 131 0 = some 3584 ∧ Inv e N (i + 1) S2 (pch k t y' (R.1 129 159) R2) ∧ 0 ≤ R.1 129 159 ∧ R.1 129 159 ≤ 400 ∧ 0 ≤ R2.1 129 159 ∧ R2.1 129 159 ≤ 400))
theorem Inv.b159 {e : w_E} {N i : Nat} {S R : w_S} (h : Inv e N i S R) : 0 ≤ R.1 129 159 ∧ R.1 129 159 ≤ 400 := by
  obtain ⟨t, sa, Ls, hC, _⟩ := h
  obtain ⟨h1, h2, h3, h4, h5, h6, _, h8, h9, h10, h11, h12, h13⟩ := hC
  obtain ⟨ta, L, E, V, n, hh⟩ := h11 S h10
  have := hh.2.2.2.2.2.2.2.2.2.2.2.2.2.1.2.2.2
  omega
theorem t_act {e : w_E} {N i : Nat} {S R : w_S} {k a b c d : Int} (hN : 16000000 ≤ N) (hi : i < 512) (hk : 0 ≤ k) (hk2 : k ≤ 44) (h : Inv e N i S R) : Ok (E_C_act e N k a b c d S) (fun y S2 => Ok (Ra e N (km k) a b c d R) (fun y' R2 => ActP e N i k a S R y S2 y' R2)) := by
  have h159 := h.b159
  obtain ⟨t, sa, Ls, hC, hnum, ⟨htp, h20⟩, hask, hval⟩ := h
  have hC0 := hC
  obtain ⟨h1, h2, h3, h4, h5, h6, ⟨h7, h7b, h7c, h7d⟩, h8, h9, h10, h11, h12, h13⟩ := hC0
  obtain ⟨p1, p2, p3, p4, p5, p6⟩ := htp
  have htp : RelTp S R := ⟨p1, p2, p3, p4, p5, p6⟩
  have hm : R.1 129 7 = (t : Int) := by rw [hnum.1.1]; exact h1
  have taR : R.2.1 2 = 140 ∨ 238 ≤ R.2.1 2 := by
    obtain ⟨ta0, L0, E0, V0, n0, hh, _⟩ := hval
    exact hh.ta
  unfold E_C_act
  refine ok_t (by omega) ?_
  by_cases hk32 : k < 32
  · -- no text
    have fR : frm [] [129] [(129, 1), (129, 2), (129, 4)] R (w_put R 129 4 0) := by repeat (first | exact frm.refl _ _ _ _ | refine frm.put ?_ rfl | refine frm.puto ?_ rfl rfl)
    have hX : Rdy (j6 (S.1 128) t k a b c d 0) (S.1 2) t (w_put R 129 4 0) := by
      refine ⟨by show R.2.2.2.1 + 150 < 899000; omega, by simp only [w_put_r, reduceIte, Nat.reduceEqDiff, pt_at], hask.2.2.2.2.1.cg rfl, fun _ => ?_, fun _ => ?_, fun z => ?_⟩
      · simp only [w_put_r, reduceIte, Nat.reduceEqDiff, pt_at]
        exact h9.1
      · simp only [w_put_r, reduceIte, Nat.reduceEqDiff, pt_at]
        exact h9.2
      · rw [j6_at.1] at z
        omega
    obtain ⟨hA, ta, L, E, V, n, hH, y, S1, eC, y', R1, eR, hP⟩ := a_tan (a := a) (b := b) (c := c) (d := d) hN hi hk hk2 hC (Int.le_refl 0) (by decide) (by omega) (fun _ => rfl) hX (frn.of fR (by decide) taR)
    have oC := hP.2.1.1
    have oF := opx_f S (kp (S.1 128) t) 0
    have eO : E_Tape_openText e N (S.1 1 1) 0 S = some (0, opx S (kp (S.1 128) t) 0) := by
      unfold E_Tape_openText opx
      rw [if_pos (by rw [w_nbE]; omega), h3]
    have ht1 : E_R_hasText e N (km k) (w_put R 129 4 0) = some (0, w_put R 129 4 0) := by
      rw [ht_k _ hk hk2, if_pos hk32]
    have s12 : S1.1 0 12 = (t : Int) := by rw [oC.2 0 12 rfl, oF.2.2 0 12 rfl rfl]; exact h1
    have s11 : S1.1 1 1 = kp (S.1 128) t := by rw [oC.2 1 1 rfl, oF.2.2 1 1 rfl rfl]; exact h3
    have s1f : S1.1 1 2 = S.1 1 2 := by rw [oC.2 1 2 rfl, oF.2.2 1 2 rfl rfl]
    have s28 : S1.1 128 = S.1 128 := by rw [oC.1 128 rfl, oF.2.1 128 rfl rfl]
    have f1 : (w_put R 129 4 0).1 129 1 = S.1 1 2 := by
      simp only [w_put_r, reduceIte, Nat.reduceEqDiff, pt_at]
      exact p1
    refine ok_t hk32 (ok_b (ok_of eO ?_))
    dsimp only
    refine ok_b (ok_of eC ?_)
    dsimp only
    by_cases hy : y < 0
    · refine ok_t hy (ok_s ?_)
      have r41 : R1.1 129 4 = 1 := by
        rcases hP.2.1.2.2.2 with ⟨_, z, _⟩ | ⟨z, _⟩
        · exact z
        · omega
      obtain ⟨q1, q2⟩ := a_ref hi hC hnum htp h20 hask hval fR hP hy (frm.refl _ _ _ _) (by rw [s1f, f1]) (Or.inl f1)
      unfold Ra
      refine ok_b (ok_of ht1 (ok_t rfl (ok_b (ok_of eR ?_))))
      refine ok_e (by dsimp only; omega) (ok_s ⟨q1, Or.inl ⟨hy, ?_, q2⟩⟩)
      rw [hP.2.1.2.1.2.1 129 7 rfl, fR.2.2 129 7 rfl rfl]
    · have r40 : R1.1 129 4 = 0 := by
        rcases hP.2.1.2.2.2 with ⟨z, _⟩ | ⟨_, z, _⟩
        · omega
        · rw [z]
          simp only [w_put_r, reduceIte, Nat.reduceEqDiff, pt_at]
      have hy0 : 0 ≤ y := by omega
      have kt := kpj_ge hC.lens
      refine ok_e hy ?_
      rw [s12, s11]
      refine ok_nb (by omega) (ok_ib (by omega) (ok_nb (by omega) (ok_ib (by omega) (ok_nb (by omega) (ok_ib (by omega) (ok_nb (by omega) (ok_ib (by omega) (ok_nb (by omega) (ok_ib (by omega) (ok_nb (by omega) (ok_ib (by omega) (ok_nb (by omega) (ok_nb (by omega) (ok_s ?_))))))))))))))
      rw [show ((t : Int) * 6).toNat = 6 * t by omega, show ((t : Int) * 6 + 1).toNat = 6 * t + 1 by omega, show ((t : Int) * 6 + 2).toNat = 6 * t + 2 by omega, show ((t : Int) * 6 + 3).toNat = 6 * t + 3 by omega, show ((t : Int) * 6 + 4).toNat = 6 * t + 4 by omega, show ((t : Int) * 6 + 5).toNat = 6 * t + 5 by omega]
      have nt := a_nt (b := b) (c := c) (d := d) hN hi hC hm htp (Int.le_refl 0) (by decide) (by omega) (Or.inl rfl) fR hP hy0
      obtain ⟨z, R2, eN, hNt⟩ := nt
      obtain ⟨q1, q2⟩ := a_done (S2 := w_put (w_put (w_put (w_put (w_put (w_put (w_put (w_put S1 128 (6 * t) k) 128 (6 * t + 1) a) 128 (6 * t + 2) b) 128 (6 * t + 3) c) 128 (6 * t + 4) d) 128 (6 * t + 5) 0) 0 12 ((t : Int) + 1)) 1 1 (kp (S.1 128) t + 0)) hN hi hk hk2 hC hnum htp h20 hask (Int.le_refl 0) (by decide) (by omega) (fun _ => rfl) hX fR hA hH eC eR hP hy0 (by repeat (first | exact frm.refl _ _ _ _ | refine frm.put ?_ rfl | refine frm.puto ?_ rfl rfl)) (by
        simp only [w_put_r, reduceIte, Nat.reduceEqDiff]
        rw [s28]
        rfl) (by simp only [w_put_r, reduceIte, Nat.reduceEqDiff, pt_at]) (by simp only [w_put_r, reduceIte, Nat.reduceEqDiff, pt_at]) (by
        simp only [w_put_r, reduceIte, Nat.reduceEqDiff, pt_at]
        rw [s1f]
        exact p1.symm) (Or.inl ⟨f1, rfl⟩) hNt
      have b2 := q2.b159
      obtain ⟨sa', Ls', d1, _, d3, d4, _⟩ := hNt
      have pc : (pch k t y' (R.1 129 159) R2).1 129 159 = R2.1 129 159 := by rw [(pch_f k t y' (R.1 129 159) R2).2.1 129 rfl rfl]
      rw [pc] at b2
      unfold Ra
      refine ok_b (ok_of ht1 (ok_t rfl (ok_b (ok_of eR ?_))))
      refine ok_t r40 (ok_b (ok_of (show E_R_hasText e N (km k) (w_put R1 129 58 0) = some (0, w_put R1 129 58 0) by rw [ht_k _ hk hk2, if_pos hk32]) ?_))
      refine ok_t rfl (ok_b (ok_of eN (ok_s ⟨q1, Or.inr ⟨hy0, t, hm, by omega, d3, d1.1, d1.2.2.2.2.2.2.2, q2, h159.1, h159.2, b2.1, b2.2⟩⟩)))
  · -- with a text
    have fR : frm [] [129] [(129, 1), (129, 2), (129, 4)] R (w_put (w_put (w_put R 129 4 0) 129 2 (R.1 129 1)) 129 1 0) := by repeat (first | exact frm.refl _ _ _ _ | refine frm.put ?_ rfl | refine frm.puto ?_ rfl rfl)
    have hX : Rdy (j6 (S.1 128) t k a b c d (S.1 1 2)) (S.1 2) t (w_put (w_put (w_put R 129 4 0) 129 2 (R.1 129 1)) 129 1 0) := by
      refine ⟨by show R.2.2.2.1 + 150 < 899000; omega, by simp only [w_put_r, reduceIte, Nat.reduceEqDiff, pt_at], hask.2.2.2.2.1.cg rfl, fun _ => ?_, fun _ => ?_, fun z => ?_⟩
      · simp only [w_put_r, reduceIte, Nat.reduceEqDiff, pt_at]
        exact h9.1
      · simp only [w_put_r, reduceIte, Nat.reduceEqDiff, pt_at]
        exact h9.2
      · rw [j6_at.2.2.2.2.2, j6_kp (Nat.le_refl t)]
        simp only [w_put_r, reduceIte, Nat.reduceEqDiff, pt_at]
        exact ⟨p1, fun p hp => by rw [(p6 p hp).1, h3]⟩
    obtain ⟨hA, ta, L, E, V, n, hH, y, S1, eC, y', R1, eR, hP⟩ := a_tan (a := a) (b := b) (c := c) (d := d) hN hi hk hk2 hC p2 p3 (by omega) (fun z => absurd z hk32) hX (frn.of fR (by decide) taR)
    have oC := hP.2.1.1
    have oF := opx_f S (kp (S.1 128) t) (S.1 1 2)
    have eO : E_Tape_openText e N (S.1 1 1) (S.1 1 2) S = some (0, opx S (kp (S.1 128) t) (S.1 1 2)) := by
      unfold E_Tape_openText opx
      rw [if_pos (by rw [w_nbE]; omega), h3]
    have ht1 : E_R_hasText e N (km k) (w_put R 129 4 0) = some (1, w_put R 129 4 0) := by
      rw [ht_k _ hk hk2, if_neg hk32]
    have eT : E_R_takeTape e N (w_put R 129 4 0) = some (0, w_put (w_put (w_put R 129 4 0) 129 2 (R.1 129 1)) 129 1 0) := by
      unfold E_R_takeTape
      simp only [w_put_r, reduceIte, Nat.reduceEqDiff, pt_at]
    have s12 : S1.1 0 12 = (t : Int) := by rw [oC.2 0 12 rfl, oF.2.2 0 12 rfl rfl]; exact h1
    have s11 : S1.1 1 1 = kp (S.1 128) t := by rw [oC.2 1 1 rfl, oF.2.2 1 1 rfl rfl]; exact h3
    have s28 : S1.1 128 = S.1 128 := by rw [oC.1 128 rfl, oF.2.1 128 rfl rfl]
    have f1 : (w_put (w_put (w_put R 129 4 0) 129 2 (R.1 129 1)) 129 1 0).1 129 1 = 0 := by simp only [w_put_r, reduceIte, Nat.reduceEqDiff, pt_at]
    refine ok_e hk32 (ok_b (ok_of eO ?_))
    dsimp only
    refine ok_b (ok_of eC ?_)
    dsimp only
    by_cases hy : y < 0
    · refine ok_t hy (ok_s ?_)
      have r41 : R1.1 129 4 = 1 := by
        rcases hP.2.1.2.2.2 with ⟨_, z, _⟩ | ⟨z, _⟩
        · exact z
        · omega
      obtain ⟨q1, q2⟩ := a_ref (S2 := w_put S1 1 2 0) hi hC hnum htp h20 hask hval fR hP hy (by repeat (first | exact frm.refl _ _ _ _ | refine frm.put ?_ rfl | refine frm.puto ?_ rfl rfl)) (by rw [f1]; simp only [w_put_r, reduceIte, Nat.reduceEqDiff, pt_at]) (Or.inr f1)
      unfold Ra
      refine ok_b (ok_of ht1 (ok_e (show ¬ (1 : Int) = 0 by decide) (ok_b (ok_of eT (ok_b (ok_of eR ?_))))))
      refine ok_e (by dsimp only; omega) (ok_s ⟨q1, Or.inl ⟨hy, ?_, q2⟩⟩)
      rw [hP.2.1.2.1.2.1 129 7 rfl, fR.2.2 129 7 rfl rfl]
    · have r40 : R1.1 129 4 = 0 := by
        rcases hP.2.1.2.2.2 with ⟨z, _⟩ | ⟨_, z, _⟩
        · omega
        · rw [z]
          simp only [w_put_r, reduceIte, Nat.reduceEqDiff, pt_at]
      have hy0 : 0 ≤ y := by omega
      have kt := kpj_ge hC.lens
      refine ok_e hy ?_
      rw [s12, s11]
      refine ok_nb (by omega) (ok_ib (by omega) (ok_nb (by omega) (ok_ib (by omega) (ok_nb (by omega) (ok_ib (by omega) (ok_nb (by omega) (ok_ib (by omega) (ok_nb (by omega) (ok_ib (by omega) (ok_nb (by omega) (ok_ib (by omega) (ok_nb (by omega) (ok_nb (by omega) (ok_s ?_))))))))))))))
      rw [show ((t : Int) * 6).toNat = 6 * t by omega, show ((t : Int) * 6 + 1).toNat = 6 * t + 1 by omega, show ((t : Int) * 6 + 2).toNat = 6 * t + 2 by omega, show ((t : Int) * 6 + 3).toNat = 6 * t + 3 by omega, show ((t : Int) * 6 + 4).toNat = 6 * t + 4 by omega, show ((t : Int) * 6 + 5).toNat = 6 * t + 5 by omega]
      have nt := a_nt (b := b) (c := c) (d := d) hN hi hC hm htp p2 p3 (by omega) (Or.inr rfl) fR hP hy0
      obtain ⟨z, R2, eN, hNt⟩ := nt
      obtain ⟨q1, q2⟩ := a_done (S2 := w_put (w_put (w_put (w_put (w_put (w_put (w_put (w_put (w_put S1 1 2 0) 128 (6 * t) k) 128 (6 * t + 1) a) 128 (6 * t + 2) b) 128 (6 * t + 3) c) 128 (6 * t + 4) d) 128 (6 * t + 5) (S.1 1 2)) 0 12 ((t : Int) + 1)) 1 1 (kp (S.1 128) t + S.1 1 2)) hN hi hk hk2 hC hnum htp h20 hask p2 p3 (by omega) (fun z => absurd z hk32) hX fR hA hH eC eR hP hy0 (by repeat (first | exact frm.refl _ _ _ _ | refine frm.put ?_ rfl | refine frm.puto ?_ rfl rfl)) (by
        simp only [w_put_r, reduceIte, Nat.reduceEqDiff]
        rw [s28]
        rfl) (by simp only [w_put_r, reduceIte, Nat.reduceEqDiff, pt_at]) (by simp only [w_put_r, reduceIte, Nat.reduceEqDiff, pt_at]) (by
        rw [f1]
        simp only [w_put_r, reduceIte, Nat.reduceEqDiff, pt_at]) (Or.inr ⟨f1, rfl⟩) hNt
      have b2 := q2.b159
      have n2 : R1.1 129 2 = S.1 1 2 := by
        rw [hP.2.1.2.1.2.1 129 2 rfl]
        simp only [w_put_r, reduceIte, Nat.reduceEqDiff, pt_at]
        exact p1
      obtain ⟨sa', Ls', d1, _, d3, d4, _⟩ := hNt
      have pc : (pch k t y' (R.1 129 159) R2).1 129 159 = R2.1 129 159 := by rw [(pch_f k t y' (R.1 129 159) R2).2.1 129 rfl rfl]
      rw [pc] at b2
      unfold Ra
      refine ok_b (ok_of ht1 (ok_e (show ¬ (1 : Int) = 0 by decide) (ok_b (ok_of eT (ok_b (ok_of eR ?_))))))
      refine ok_t r40 (ok_b (ok_of (show E_R_hasText e N (km k) (w_put R1 129 58 0) = some (1, w_put R1 129 58 0) by rw [ht_k _ hk hk2, if_neg hk32]) ?_))
      refine ok_e (show ¬ (1 : Int) = 0 by decide) (ok_b ?_)
      dsimp only
      rw [show (w_put R1 129 58 0).1 129 2 = S.1 1 2 by simp only [w_put_r, reduceIte, Nat.reduceEqDiff, pt_at]; exact n2]
      exact ok_of eN (ok_s ⟨q1, Or.inr ⟨hy0, t, hm, by omega, d3, d1.1, d1.2.2.2.2.2.2.2, q2, h159.1, h159.2, b2.1, b2.2⟩⟩)
end
