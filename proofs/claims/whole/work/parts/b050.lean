section
-- gv
theorem RelB.rec {S R S1 R1 : w_S} (h : RelB S R) (c : ∀ a, 77 ≤ a → a ≤ 81 → S1.1 a = S.1 a) (c0 : S1.1 76 0 = S.1 76 0) (c3 : S.1 3 0 ≤ S1.1 3 0) (d : ∀ a, 217 ≤ a → a ≤ 221 → R1.1 a = R.1 a) (d1 : R1.1 129 131 = R.1 129 131) : RelB S1 R1 := by
  obtain ⟨h1, h2, h3, h4⟩ := h
  unfold RelB
  rw [c0, d1, c 77 (by omega) (by omega), c 78 (by omega) (by omega), c 79 (by omega) (by omega), c 80 (by omega) (by omega), c 81 (by omega) (by omega), d 217 (by omega) (by omega), d 218 (by omega) (by omega), d 219 (by omega) (by omega), d 220 (by omega) (by omega), d 221 (by omega) (by omega)]
  refine ⟨h1, h2, h3, fun s s1 s2 => ?_⟩
  obtain ⟨a1, a2, a3, a4⟩ := h4 s s1 s2
  exact ⟨a1, a2, by omega, a4⟩
theorem RelCs.rec {S R S1 R1 : w_S} (h : RelCs S R) (c : ∀ a, 63 ≤ a → a ≤ 70 → S1.1 a = S.1 a) (c0 : S1.1 62 3 = S.1 62 3) (c3 : S.1 3 0 ≤ S1.1 3 0) (d : ∀ a, 169 ≤ a → a ≤ 176 → R1.1 a = R.1 a) (d1 : R1.1 129 68 = R.1 129 68) : RelCs S1 R1 := by
  obtain ⟨h1, h2, h3, h4⟩ := h
  unfold RelCs
  rw [c0, d1, c 63 (by omega) (by omega), c 64 (by omega) (by omega), c 70 (by omega) (by omega), d 169 (by omega) (by omega), d 170 (by omega) (by omega), d 176 (by omega) (by omega)]
  refine ⟨h1, h2, h3, fun s s1 s2 => ?_⟩
  obtain ⟨a1, a2, a3, a4⟩ := h4 s s1 s2
  exact ⟨a1, a2, by omega, a4⟩
/-- versions more: the day on which a record came stays the first -/
theorem RelCm.kp {S R R1 : w_S} {top : Int} {ta L E V n : Nat} (h : RelCm S R) (hv : RelVr S R top ta L E V n) (hd : R.1 129 12 = S.1 27 1) (k6 : ∀ u : Nat, (u : Int) < R.1 129 17 → R1.1 136 u = R.1 136 u ∧ R1.1 137 u = R.1 137 u) (k7 : R.1 129 17 ≤ R1.1 129 17) (k9 : ∀ u : Nat, R.1 129 17 ≤ (u : Int) → (u : Int) < R1.1 129 17 → R1.1 137 u = R.1 129 12) {r : Nat} (r1 : 1 ≤ r) (r2 : r ≤ n) (d3 : R1.1 133 r = R.1 133 r) : (∃ v : Nat, (v : Int) < R1.1 129 17 ∧ R1.1 136 v = r ∧ R1.1 137 v = R1.1 133 r) ∧ ∀ u : Nat, (u : Int) < R1.1 129 17 → R1.1 136 u = r → R1.1 133 r ≤ R1.1 137 u := by
  obtain ⟨j1, j2, j3, j4, j5, j6, j7, j8, j9, j10, j11⟩ := hv
  obtain ⟨⟨v, v1, v2, v3⟩, h2⟩ := h r r1 (by rw [j7]; omega)
  rw [d3]
  refine ⟨⟨v, by omega, ?_, ?_⟩, fun u u1 u2 => ?_⟩
  · rw [(k6 v v1).1]
    exact v2
  · rw [(k6 v v1).2]
    exact v3
  · by_cases c : (u : Int) < R.1 129 17
    · rw [(k6 u c).2]
      rw [(k6 u c).1] at u2
      exact h2 u c u2
    · rw [k9 u (by omega) u1, ← v3, hd]
      exact (j11 v (by omega)).2.2.2.1
/-- rows made elsewhere -/
theorem kpb.of {R R1 : w_S} (h : kpx R R1) : kpb R R1 := ⟨fun i i1 _ _ => h.1 i i1, h.2.1, h.2.2.1, h.2.2.2.1, h.2.2.2.2.1⟩
theorem okR.cut {R R1 : w_S} {L O : List Nat} {J : List (Nat × Nat)} (h : frm L O J R (fcut R R1)) (d : (ckA L O KR && ckS L J KRj) = true) (d2 : (L.all (fun b => decide (b < 238)) && O.all (fun b => decide (b < 238))) = true) (k : kpx R R1) : okR R R1 := by
  have t := okR.of h d d2
  have lt : ∀ c ∈ KR, c < 238 := by decide
  have l9 : ∀ c ∈ KRj, c.1 = 129 := by decide
  refine ⟨fun c hc => ?_, fun c j hc => ?_, kpb.of k, k.1 3 (by decide), k.1 4 (by decide)⟩
  · have hb : c < 238 := lt c (by simpa using hc)
    have := t.1 c hc
    rw [cut_at hb] at this
    exact this
  · have hb : c = 129 := l9 (c, j) (by simpa using hc)
    subst hb
    have := t.2.1 129 j hc
    rw [cut_at (by decide)] at this
    exact this
theorem h_edit {e : w_E} {N : Nat} {S R : w_S} {x1 f len t top : Int} {G : Int → Int} {ta L E V n : Nat} (hN : 16000000 ≤ N) (h : TX S f len G) (hr : TR R len G) (h4 : S.1 1 4 = f) (h6 : S.1 1 6 = -1) (hB : TB S R f len) (htop : top ≤ f + len) (hnx : R.2.2.2.1 < 899000) (hH : Hs S R t top ta L E V n) : Ok (E_C_editRecord e N x1 S) (fun y S1 => Ok (E_R_doEdit e N x1 R) (fun y' R1 => y' = y ∧ PH S R t top (f + len) ta L E V n y S1 R1)) := by
  have hL := hH.2.2.1
  have dy := hH.day
  have hVr := hH.2.2.2.2.2.2.2.2.2.2.2.2.2.1
  refine (t_edit (by omega) h hr h4 h6 hB hH.2.2.2.2.2.2.2.1 hH.2.2.2.2.2.1.2 hH.2.2.2.2.2.1.1 hL.2.2.2.1 hVr htop dy.1 dy.2.1 hnx).mono (fun y S1 k => k.mono (fun y' R1 q => ?_))
  obtain ⟨q1, q2⟩ := q
  refine ⟨q1, ?_⟩
  rcases q2 with ⟨a, hf, c⟩ | ⟨a, b1, b2, b3, hf, hg, c6, d5, nx, ta', L', E', q3⟩
  · subst c
    exact ⟨okC.of hf (by decide), okR.refused R, Or.inl (Nat.le_refl _), Or.inl ⟨a, by simp only [w_put_r, reduceIte, Nat.reduceEqDiff, pt_at], Same.of hf (by decide), frn.of (show frm [] [129] [(129, 4)] R (w_put R 129 4 1) by repeat (first | exact frm.refl _ _ _ _ | refine frm.put ?_ rfl | refine frm.puto ?_ rfl rfl)) (by decide) hH.ta⟩⟩
  have hH2 := hH.top htop
  clear hH
  obtain ⟨h1, h2, h3, h4', h5, h6', h7, h8, h9, h10, h11, h12, h13, h14, h15, h16⟩ := hH2
  have hc := hg.cut
  obtain ⟨w1, w2, w3⟩ := hg
  have hF := RelF.cg ⟨h1, h2⟩ hf hc (by decide)
  have hV : RelV S1 R1 := h7.pt c6 d5 (hf.2.1 7 rfl rfl) (w1 201 (by decide) rfl rfl) (hf.2.2 3 0 rfl rfl)
  have hCm : RelCm S1 R1 := fun r r1 r2 => h16.kp h14 dy.1 w3.2.2.2.2.2.1 w3.2.2.2.2.2.2.1 w3.2.2.2.2.2.2.2.2 r1 (by have := q3.2.2.2.2.2.2.1; omega) (by rw [w1 133 (by decide) rfl rfl])
  have v5 : S1.1 3 5 = ((V + 1 : Nat) : Int) := q3.2.2.1
  refine ⟨okC.of hf (by decide), okR.cut hc (by decide) (by decide) w3, by omega, Or.inr ⟨a, w2 129 4 (by decide) rfl rfl, ta', L', E', V + 1, n, ⟨hF.1.cut, hF.2.up, ((h3.fr hf hc (by decide)).up).cut, (h4'.fr hf hc (by decide)).cut, (h5.fr hf hc (by decide)).cut, (h6'.fr hf hc (by decide)).cut, hV, (h8.fr hf hc (by decide)).cut, (h9.fr hf hc (by decide)).cut, (h10.fr hf hc (by decide)).cut, (h11.fr hf hc (by decide)).cut, (h12.fr hf hc (by decide)).cut, (h13.fr hf hc (by decide)).cut, q3, (h15.fr hf hc (by decide)).cut, hCm⟩, by omega⟩⟩
theorem h_record {e : w_E} {N : Nat} {S R : w_S} {f len t top : Int} {G : Int → Int} {ta L E V n : Nat} (hN : 16000000 ≤ N) (h : TX S f len G) (hr : TR R len G) (h4 : S.1 1 4 = f) (h6 : S.1 1 6 = -1) (hB : TB S R f len) (htop : top ≤ f + len) (hnx : R.2.2.2.1 < 899000) (hH : Hs S R t top ta L E V n) : Ok (Crec e N S) (fun y S1 => Ok (E_R_doRecord e N R) (fun y' R1 => y' = y ∧ PH S R t top (f + len) ta L E V n y S1 R1)) := by
  have hL := hH.2.2.1
  have dy := hH.day
  have hVr := hH.2.2.2.2.2.2.2.2.2.2.2.2.2.1
  refine (t_record (by omega) h hr h4 h6 hB hH.2.2.2.2.2.2.2.1 hH.2.2.2.2.2.1.2 hH.2.2.2.2.2.1.1 hVr htop dy.1 dy.2.1 hnx).mono (fun y S1 k => k.mono (fun y' R1 q => ?_))
  obtain ⟨q1, q2⟩ := q
  refine ⟨q1, ?_⟩
  rcases q2 with ⟨a, hf, c⟩ | ⟨a, b1, b2, hf, hg, c5, c6, c7, d3, d4, d5, d1, nx, ta', L', E', q3⟩
  · subst c
    exact ⟨okC.of hf (by decide), okR.refused R, Or.inl (Nat.le_refl _), Or.inl ⟨a, by simp only [w_put_r, reduceIte, Nat.reduceEqDiff, pt_at], Same.of hf (by decide), frn.of (show frm [] [129] [(129, 4)] R (w_put R 129 4 1) by repeat (first | exact frm.refl _ _ _ _ | refine frm.put ?_ rfl | refine frm.puto ?_ rfl rfl)) (by decide) hH.ta⟩⟩
  have hH2 := hH.top htop
  clear hH
  obtain ⟨h1, h2, h3, h4', h5, h6', h7, h8, h9, h10, h11, h12, h13, h14, h15, h16⟩ := hH2
  have hc := hg.cut
  obtain ⟨w1, w2, w3⟩ := hg
  have hF := RelF.cg ⟨h1, h2⟩ hf hc (by decide)
  have n0 : S.1 3 0 = (n : Int) := hVr.2.2.2.2.2.1
  have m0 : R.1 129 13 = (n : Int) := hVr.2.2.2.2.2.2.1
  have n1 : S1.1 3 0 = ((n + 1 : Nat) : Int) := q3.2.2.2.2.2.1
  have m1 : R1.1 129 13 = ((n + 1 : Nat) : Int) := q3.2.2.2.2.2.2.1
  have hV : RelV S1 R1 := fun k k1 k2 => by
    rw [n1] at k2
    rw [c6, c7, d5, d1, pt_at, pt_at, pt_at, pt_at]
    by_cases e1 : k = n + 1
    · rw [if_pos e1, if_pos e1, if_pos e1, if_pos e1]
      exact ⟨rfl, rfl, Or.inl rfl⟩
    · rw [if_neg e1, if_neg e1, if_neg e1, if_neg e1]
      exact h7 k k1 (by rw [n0]; omega)
  have hG : RelG S1 R1 := by
    obtain ⟨g1, g2, g3, g4⟩ := h3.2.2.2.1
    refine ⟨?_, ?_, ?_, fun k k1 k2 => ?_⟩
    · show R1.1 129 13 = S1.1 3 0
      rw [m1, n1]
    · show 0 ≤ S1.1 3 0
      rw [n1]
      omega
    · show S1.1 3 0 ≤ 150
      rw [n1]
      omega
    · have k2' : (k : Int) ≤ S1.1 3 0 := k2
      rw [n1] at k2'
      show R1.1 134 k = S1.1 5 k ∧ -1 ≤ S1.1 5 k ∧ S1.1 5 k ≤ 50000
      rw [d4, c5, pt_at, pt_at]
      by_cases e1 : k = n + 1
      · rw [if_pos e1, if_pos e1]
        exact ⟨rfl, by omega, by omega⟩
      · rw [if_neg e1, if_neg e1]
        exact g4 k k1 (by show (k : Int) ≤ S.1 3 0; rw [n0]; omega)
  have le3 : S.1 3 0 ≤ S1.1 3 0 := by
    rw [n0, n1]
    omega
  have cf : ∀ a, (17 ≤ a ∧ a ≤ 119) → S1.1 a = S.1 a := fun a ha => hf.2.1 a (by
    simp only [List.contains_cons, List.contains_nil, Bool.or_false, Bool.or_eq_false_iff, beq_eq_false_iff_ne, ne_eq]
    omega) (by
    simp only [List.contains_cons, List.contains_nil, Bool.or_false, Bool.or_eq_false_iff, beq_eq_false_iff_ne, ne_eq]
    omega)
  have rf : ∀ a, (141 ≤ a ∧ a ≤ 237) → a ≠ 201 → R1.1 a = R.1 a := fun a ha h201 => w1 a (by omega) (by
    simp only [List.contains_cons, List.contains_nil, Bool.or_false, Bool.or_eq_false_iff, beq_eq_false_iff_ne, ne_eq]
    omega) (by
    simp only [List.contains_cons, List.contains_nil, Bool.or_false, beq_eq_false_iff_ne, ne_eq]
    omega)
  have hCs : RelCs S1 R1 := h3.2.2.2.2.2.2.2.1.rec (fun a a1 a2 => cf a (by omega)) (by rw [cf 62 (by omega)]) le3 (fun a a1 a2 => rf a (by omega) (by omega)) (w2 129 68 (by decide) rfl rfl)
  have hBb : RelB S1 R1 := h5.rec (fun a a1 a2 => cf a (by omega)) (by rw [cf 76 (by omega)]) le3 (fun a a1 a2 => rf a (by omega) (by omega)) (w2 129 131 (by decide) rfl rfl)
  have hCm : RelCm S1 R1 := fun r r1 r2 => by
    rw [m1] at r2
    by_cases e1 : r = n + 1
    · obtain ⟨j1, j2, j3, j4, j5, j6, j7, j8, j9, j10, j11⟩ := q3
      obtain ⟨s1, s2, s3, s4, s5, s6, s7, s8, s9, s10, s11⟩ := h14
      have t133 : R1.1 133 r = S.1 27 1 := by
        rw [d3, pt_at, if_pos e1]
      have old : ∀ u : Nat, (u : Int) < R.1 129 17 → R1.1 136 u ≠ (r : Int) := fun u hu z => by
        rw [(w3.2.2.2.2.2.1 u hu).1] at z
        have := (s11 u (by omega)).2.2.2.2.2.1
        omega
      have new : ∀ u : Nat, (u : Int) < R1.1 129 17 → R1.1 136 u = (r : Int) → R1.1 137 u = S.1 27 1 := fun u hu z => by
        by_cases c : (u : Int) < R.1 129 17
        · exact absurd z (old u c)
        · rw [w3.2.2.2.2.2.2.2.2 u (by omega) hu]
          exact dy.1
      have g := j10 r r1 (by omega)
      obtain ⟨g1, g2⟩ := g
      rw [g1] at g2
      obtain ⟨jv, jv1, jv2⟩ : ∃ j : Nat, j < V + 1 ∧ R1.1 136 j = (r : Int) := by
        rcases gk_spec (fun k => decide (R1.1 136 k = (r : Int))) (V + 1) with ⟨z, _⟩ | ⟨j, z1, _, z3, _⟩
        · omega
        · exact ⟨j, z1, of_decide_eq_true z3⟩
      refine ⟨⟨jv, by rw [j4]; omega, jv2, ?_⟩, fun u hu z => ?_⟩
      · rw [t133]
        exact new jv (by rw [j4]; omega) jv2
      · rw [t133, new u hu z]
        exact Int.le_refl _
    · exact h16.kp h14 dy.1 w3.2.2.2.2.2.1 w3.2.2.2.2.2.2.1 w3.2.2.2.2.2.2.2.2 r1 (by omega) (by rw [d3, pt_at, if_neg e1])
  have v5 : S1.1 3 5 = ((V + 1 : Nat) : Int) := q3.2.2.1
  refine ⟨okC.of hf (by decide), okR.cut hc (by decide) (by decide) w3, by omega, Or.inr ⟨by omega, w2 129 4 (by decide) rfl rfl, ta', L', E', V + 1, n + 1, ⟨hF.1.cut, hF.2.up, (show RelL S1 R1 t from ⟨(h3.1.fr hf hc (by decide)).cut, (h3.2.1.fr hf hc (by decide)).cut, (h3.2.2.1.fr hf hc (by decide)).cut, hG, (h3.2.2.2.2.1.fr hf hc (by decide)).cut, (h3.2.2.2.2.2.1.fr hf hc (by decide)).cut, (h3.2.2.2.2.2.2.1.fr hf hc (by decide)).cut, hCs, (h3.2.2.2.2.2.2.2.2.1.fr hf hc (by decide)).cut, (h3.2.2.2.2.2.2.2.2.2.1.fr hf hc (by decide)).cut, (h3.2.2.2.2.2.2.2.2.2.2.1.fr hf hc (by decide)).cut, (h3.2.2.2.2.2.2.2.2.2.2.2.fr hf hc (by decide)).cut⟩).up, (h4'.fr hf hc (by decide)).cut, hBb, (h6'.fr hf hc (by decide)).cut, hV, (h8.fr hf hc (by decide)).cut, (h9.fr hf hc (by decide)).cut, (h10.fr hf hc (by decide)).cut, (h11.fr hf hc (by decide)).cut, (h12.fr hf hc (by decide)).cut, (h13.fr hf hc (by decide)).cut, q3, (h15.fr hf hc (by decide)).cut, hCm⟩, by omega⟩⟩
end
section
-- gw
abbrev FBa : List Nat := [135, 136, 137, 138, 139, 140, 194, 195, 196, 237]
abbrev FBj : List (Nat × Nat) := [(129, 17), (129, 23), (129, 100), (129, 159)]
theorem frb.cut {R R1 : w_S} (h : frb R R1) : frm FBa [129] FBj R (fcut R R1) := by
  refine ⟨rfl, fun b h1 h2 => ?_, fun b j h1 h2 => ?_⟩
  · unfold fcut
    dsimp only
    split
    · rename_i c
      simp only [List.contains_cons, List.contains_nil, Bool.or_false, Bool.or_eq_false_iff, beq_eq_false_iff_ne, ne_eq] at h1 h2
      exact h.1 b c (by omega) (by omega) (by omega) (by omega) (by omega) (by omega)
    · rfl
  · unfold fcut
    dsimp only
    split
    · rename_i c
      simp only [List.contains_cons, List.contains_nil, Bool.or_false, Bool.or_eq_false_iff, beq_eq_false_iff_ne, ne_eq] at h1
      by_cases e1 : b = 129
      · subst e1
        simp only [List.contains_cons, List.contains_nil, Bool.or_false, Bool.or_eq_false_iff, beq_eq_false_iff_ne, ne_eq, Prod.mk.injEq, not_and] at h2
        exact h.2.1 j (h2.1 trivial) (h2.2.1 trivial) (h2.2.2.1 trivial) (h2.2.2.2 trivial)
      · rw [h.1 b c (by omega) (by omega) (by omega) (by omega) (by omega) e1]
    · rfl
theorem h_batch {e : w_E} {N : Nat} {S R : w_S} {f len t top : Int} {G : Int → Int} {ta L E V n : Nat} (hN : 16000000 ≤ N) (h : TX S f len G) (hr : TR R len G) (h4 : S.1 1 4 = f) (h6 : S.1 1 6 = -1) (hb : ∀ p : Nat, (p : Int) < len → -128 ≤ R.1 130 p ∧ R.1 130 p ≤ 127) (htop : top ≤ f + len) (hs : ∀ j, -128 ≤ S.1 2 j ∧ S.1 2 j ≤ 127) (hw : RelWk R) (b0 : 0 ≤ R.1 129 159) (b1 : R.1 129 159 ≤ (V : Int)) (hnx : R.2.2.2.1 + 150 < 899000) (hH : Hs S R t top ta L E V n) : Ok (E_C_runBatch e N S) (fun y S1 => Ok (E_R_doBatch e N R) (fun y' R1 => y' = y ∧ PHb S R t top (f + len) ta L E V n y S1 R1 ∧ (y < 0 → okC S S1 ∧ okR R R1) ∧ (0 ≤ y → RelWk R1 ∧ RelFn S1 R1 ∧ RelRs S1 R1 ∧ R1.1 129 58 = 0 ∧ R1.1 129 159 = R.1 129 159 + y ∧ (∀ u : Nat, (u : Int) < R.1 129 159 → R1.1 237 u = R.1 237 u) ∧ R1.1 129 17 = V + y ∧ ∀ v : Nat, V ≤ v → (v : Int) < R1.1 129 17 → R1.1 136 v = R1.1 237 ((R.1 129 159).toNat + (v - V))))) := by
  have hL := hH.2.2.1
  have dy := hH.day
  have hVr := hH.2.2.2.2.2.2.2.2.2.2.2.2.2.1
  refine (t_batch hN h hr h4 h6 hb hH.2.2.2.2.2.2.2.1 hH.2.2.2.2.2.1.2 hH.2.2.2.2.2.1.1 dy.1 dy.2.1 hs hw hVr hH.2.2.2.2.2.2.2.2.2.2.2.2.2.2.1 hH.2.2.2.2.2.2.2.2.2.2.1 hH.2.2.2.2.2.2.2.2.2.2.2.1 hL.2.2.2.1 htop b0 b1 hnx).mono (fun y S1 k => k.mono (fun y' R1 q => ?_))
  obtain ⟨q1, q2⟩ := q
  refine ⟨q1, ?_⟩
  rcases q2 with ⟨a, hf, hg, c⟩ | ⟨a, hf, ⟨Rm, fm, fb⟩, rF, s8, r102, r58, rs, nx, ⟨ta', L', E', V', q3, q4, q5, q6⟩, rW, ch, r159, r237⟩
  · exact ⟨⟨okCl.of hf (by decide), okRb.of hg (by decide) (by decide), by rw [hg.1]; omega, Or.inl ⟨a, c, Same.of hf (by decide), frn.of hg (by decide) hH.ta⟩⟩, fun _ => ⟨okC.of hf (by decide), okR.of hg (by decide) (by decide)⟩, fun z => by omega⟩
  have hH2 := hH.top htop
  clear hH
  obtain ⟨h1, h2, h3, h4', h5, h6', h7, h8, h9, h10, h11, h12, h13, h14, h15, h16⟩ := hH2
  have hc : frm (BEa ++ FBa) [129] (BEj ++ FBj) R (fcut Rm R1) := (fm.weak (by decide)).trans (fb.cut.weak (by decide))
  have hF := RelF.cg ⟨h1, h2⟩ hf hc (by decide)
  have e6 : Rm.1 136 = R.1 136 := fm.2.1 136 rfl rfl
  have e7 : Rm.1 137 = R.1 137 := fm.2.1 137 rfl rfl
  have e17 : Rm.1 129 17 = R.1 129 17 := fm.2.2 129 17 rfl rfl
  have e12 : Rm.1 129 12 = R.1 129 12 := fm.2.2 129 12 rfl rfl
  have hV : RelV S1 R1 := fun k k1 k2 => by
    have k2' : (k : Int) ≤ S.1 3 0 := by
      rw [← hf.2.2 3 0 rfl rfl]
      exact k2
    obtain ⟨a1, a2, a3⟩ := h7 k k1 k2'
    rw [hf.2.1 7 rfl rfl, fb.1 201 (by decide) (by decide) (by decide) (by decide) (by decide) (by decide) (by decide), fm.2.1 201 rfl rfl]
    exact ⟨ch k a1, a2, a3⟩
  have hCm : RelCm S1 R1 := fun r r1 r2 => by
    obtain ⟨_, _, _, _, _, _, _, f6, f7, f9⟩ := fb
    rw [e17] at f6 f7 f9
    rw [e6, e7] at f6
    rw [e12] at f9
    have n1 : R1.1 129 13 = (n : Int) := q3.2.2.2.2.2.2.1
    exact h16.kp h14 dy.1 f6 f7 f9 r1 (by omega) (by
      have := hc.2.1 133 rfl rfl
      rw [cut_at (by decide)] at this
      rw [this])
  have kb : kpb R R1 := by
    obtain ⟨_, _, f1, f2, f3, f4, f5, _⟩ := fb
    rw [fm.1] at f1 f2 f3 f4 f5
    rw [tl_cg fm.1] at f3
    refine ⟨f1, f2, f3, f4, fun b b1 b2 b3 => ?_⟩
    rw [f5 b b1 b2 b3]
    exact fm.2.1 b (by
      simp only [List.contains_cons, List.contains_nil, Bool.or_false, Bool.or_eq_false_iff, beq_eq_false_iff_ne, ne_eq]
      omega) (by
      simp only [List.contains_cons, List.contains_nil, Bool.or_false, beq_eq_false_iff_ne, ne_eq]
      omega)
  have oR : okRb R R1 := by
    have t0 := okRb.of hc (by decide) (by decide)
    have lt : ∀ c ∈ KRb, c < 238 := by decide
    have l9 : ∀ c ∈ KRbj, c.1 = 129 := by decide
    refine ⟨fun c hc' => ?_, fun c j hc' => ?_, kb⟩
    · have hb' : c < 238 := lt c (by simpa using hc')
      have := t0.1 c hc'
      rw [cut_at hb'] at this
      exact this
    · have hb' : c = 129 := l9 (c, j) (by simpa using hc')
      subst hb'
      have := t0.2.1 129 j hc'
      rw [cut_at (by decide)] at this
      exact this
  have v5 : S1.1 3 5 = (V' : Int) := q3.2.2.1
  have v17 : R1.1 129 17 = (V' : Int) := q3.2.2.2.1
  obtain ⟨q4a, q4b, q4c⟩ := q4
  have r4 : R1.1 129 4 = R.1 129 4 := by
    have := hc.2.2 129 4 rfl rfl
    rw [cut_at (by decide)] at this
    exact this
  refine ⟨⟨okCl.of hf (by decide), oR, by omega, Or.inr ⟨a, r4, ta', L', E', V', n, ⟨hF.1.cut, hF.2.up, ((h3.fr hf hc (by decide)).up).cut, (h4'.fr hf hc (by decide)).cut, (h5.fr hf hc (by decide)).cut, (h6'.fr hf hc (by decide)).cut, hV, (h8.fr hf hc (by decide)).cut, (h9.fr hf hc (by decide)).cut, (h10.fr hf hc (by decide)).cut, (h11.fr hf hc (by decide)).cut, (h12.fr hf hc (by decide)).cut, (h13.fr hf hc (by decide)).cut, q3, (h15.fr hf hc (by decide)).cut, hCm⟩, by omega⟩⟩, fun z => by omega, fun _ => ⟨rW, rF, Or.inr ⟨r102, by rw [s8, rF.1], by rw [rF.1]; exact rF.2.1, by rw [rF.1]; exact rF.2.2.1, fun j hj => rs j (by rw [← s8]; exact hj)⟩, r58, r159, r237, by rw [v17]; exact q4a, fun v v1 v2 => q4c v v1 (by omega)⟩⟩
end
section
-- gx
theorem bind_id (r : e_R) : r.bind (fun q => some (q.1, q.2)) = r := by
  cases r <;> rfl
theorem pc_0 (e : w_E) (N : Nat) (a b c d : Int) (S : w_S) : E_C_perform e N 0 a b c d S = E_Lending_passTo e N a S := bind_id _
theorem pc_1 (e : w_E) (N : Nat) (a b c d : Int) (S : w_S) : E_C_perform e N 1 a b c d S = E_C_dropRecord e N a S := bind_id _
theorem pc_2 (e : w_E) (N : Nat) (a b c d : Int) (S : w_S) : E_C_perform e N 2 a b c d S = E_Authority_setBroader e N a b S := bind_id _
theorem pc_3 (e : w_E) (N : Nat) (a b c d : Int) (S : w_S) : E_C_perform e N 3 a b c d S = E_C_linkField e N a b c S := bind_id _
theorem pc_4 (e : w_E) (N : Nat) (a b c d : Int) (S : w_S) : E_C_perform e N 4 a b c d S = E_Readers_addReader e N a S := bind_id _
theorem pc_5 (e : w_E) (N : Nat) (a b c d : Int) (S : w_S) : E_C_perform e N 5 a b c d S = E_Lending_addCopy e N a b S := bind_id _
theorem pc_6 (e : w_E) (N : Nat) (a b c d : Int) (S : w_S) : E_C_perform e N 6 a b c d S = E_Lending_putAway e N a S := bind_id _
theorem pc_7 (e : w_E) (N : Nat) (a b c d : Int) (S : w_S) : E_C_perform e N 7 a b c d S = E_RuleBook_closeDay e N a S := bind_id _
theorem pc_8 (e : w_E) (N : Nat) (a b c d : Int) (S : w_S) : E_C_perform e N 8 a b c d S = E_Lending_lendTo e N a b S := bind_id _
theorem pc_9 (e : w_E) (N : Nat) (a b c d : Int) (S : w_S) : E_C_perform e N 9 a b c d S = E_Lending_renewLoan e N a S := bind_id _
theorem pc_10 (e : w_E) (N : Nat) (a b c d : Int) (S : w_S) : E_C_perform e N 10 a b c d S = ((E_Lending_tellPlace e N a 0 S).bind (fun q61 => ((E_Lending_takeBack e N a q61.1 q61.2).bind (fun q62 => some (q62.1, q62.2))))) := rfl
theorem pc_11 (e : w_E) (N : Nat) (a b c d : Int) (S : w_S) : E_C_perform e N 11 a b c d S = E_Lending_enterQueue e N a b c S := bind_id _
theorem pc_12 (e : w_E) (N : Nat) (a b c d : Int) (S : w_S) : E_C_perform e N 12 a b c d S = E_Lending_leaveQueue e N a b S := bind_id _
theorem pc_13 (e : w_E) (N : Nat) (a b c d : Int) (S : w_S) : E_C_perform e N 13 a b c d S = E_Readers_takeMoney e N a b S := bind_id _
theorem pc_14 (e : w_E) (N : Nat) (a b c d : Int) (S : w_S) : E_C_perform e N 14 a b c d S = E_Buying_receive e N a b (S.1 27 1) S := bind_id _
theorem pc_15 (e : w_E) (N : Nat) (a b c d : Int) (S : w_S) : E_C_perform e N 15 a b c d S = E_Buying_addFund e N a S := bind_id _
theorem pc_16 (e : w_E) (N : Nat) (a b c d : Int) (S : w_S) : E_C_perform e N 16 a b c d S = E_Buying_addOrder e N a b S := bind_id _
theorem pc_17 (e : w_E) (N : Nat) (a b c d : Int) (S : w_S) : E_C_perform e N 17 a b c d S = E_Buying_chargeOrder e N a b S := bind_id _
theorem pc_18 (e : w_E) (N : Nat) (a b c d : Int) (S : w_S) : E_C_perform e N 18 a b c d S = E_Buying_cancelOrder e N a S := bind_id _
theorem pc_19 (e : w_E) (N : Nat) (a b c d : Int) (S : w_S) : E_C_perform e N 19 a b c d S = E_Buying_moveMoney e N a b c S := bind_id _
theorem pc_20 (e : w_E) (N : Nat) (a b c d : Int) (S : w_S) : E_C_perform e N 20 a b c d S = (if b ≠ 1 then ((E_Stores_setAnswering e N a 0 S).bind (fun q84 => some (q84.1, q84.2))) else ((E_Stores_setAnswering e N a 1 S).bind (fun q85 => some (q85.1, q85.2)))) := rfl
theorem pc_21 (e : w_E) (N : Nat) (a b c d : Int) (S : w_S) : E_C_perform e N 21 a b c d S = E_Stores_alterByte e N a b c d S := bind_id _
theorem pc_22 (e : w_E) (N : Nat) (a b c d : Int) (S : w_S) : E_C_perform e N 22 a b c d S = E_Stores_loseCopy e N a b S := bind_id _
theorem pc_23 (e : w_E) (N : Nat) (a b c d : Int) (S : w_S) : E_C_perform e N 23 a b c d S = E_Stores_mendPackage e N a S := bind_id _
theorem pc_24 (e : w_E) (N : Nat) (a b c d : Int) (S : w_S) : E_C_perform e N 24 a b c d S = E_Lending_setHome e N a b S := bind_id _
theorem pc_25 (e : w_E) (N : Nat) (a b c d : Int) (S : w_S) : E_C_perform e N 25 a b c d S = E_Readers_setPickup e N a b S := bind_id _
theorem pc_26 (e : w_E) (N : Nat) (a b c d : Int) (S : w_S) : E_C_perform e N 26 a b c d S = E_Lending_takeBack e N a b S := bind_id _
theorem pc_27 (e : w_E) (N : Nat) (a b c d : Int) (S : w_S) : E_C_perform e N 27 a b c d S = E_Lending_bookCopy e N a b c d S := bind_id _
theorem pc_28 (e : w_E) (N : Nat) (a b c d : Int) (S : w_S) : E_C_perform e N 28 a b c d S = E_Readers_takeBookingBack e N a (S.1 27 1) S := bind_id _
theorem pc_29 (e : w_E) (N : Nat) (a b c d : Int) (S : w_S) : E_C_perform e N 29 a b c d S = (if a ≠ 1 then ((E_RuleBook_setStrict e N 0 S).bind (fun q107 => some (q107.1, q107.2))) else ((E_RuleBook_setStrict e N 1 S).bind (fun q108 => some (q108.1, q108.2)))) := rfl
theorem pc_30 (e : w_E) (N : Nat) (a b c d : Int) (S : w_S) : E_C_perform e N 30 a b c d S = (if b ≠ 1 then ((E_Catalog_setFrozen e N a 0 S).bind (fun q109 => some (q109.1, q109.2))) else ((E_Catalog_setFrozen e N a 1 S).bind (fun q110 => some (q110.1, q110.2)))) := rfl
theorem pc_31 (e : w_E) (N : Nat) (a b c d : Int) (S : w_S) : E_C_perform e N 31 a b c d S = E_C_disposeAll e N  S := bind_id _
theorem pc_32 (e : w_E) (N : Nat) (a b c d : Int) (S : w_S) : E_C_perform e N 32 a b c d S = ((E_C_readNewVersion e N  S).bind (fun q126 => (if q126.1 = 0 then (if 150 ≤ (q126.2.1 3 0) then some ((-4), q126.2) else (if (q126.2.1 3 5) < 400 then ((E_Catalog_addRecord e N (q126.2.1 27 1) q126.2).bind (fun q158 => some (q158.1, q158.2))) else some ((-4), q126.2))) else some (q126.1, q126.2)))) := rfl
theorem pc_33 (e : w_E) (N : Nat) (a b c d : Int) (S : w_S) : E_C_perform e N 33 a b c d S = E_C_editRecord e N a S := bind_id _
theorem pc_34 (e : w_E) (N : Nat) (a b c d : Int) (S : w_S) : E_C_perform e N 34 a b c d S = E_Authority_addHeading e N (S.1 27 1) S := bind_id _
theorem pc_35 (e : w_E) (N : Nat) (a b c d : Int) (S : w_S) : E_C_perform e N 35 a b c d S = E_Authority_renameHeading e N a (S.1 27 1) S := bind_id _
theorem pc_36 (e : w_E) (N : Nat) (a b c d : Int) (S : w_S) : E_C_perform e N 36 a b c d S = E_RuleBook_readLines e N 0 S := bind_id _
theorem pc_37 (e : w_E) (N : Nat) (a b c d : Int) (S : w_S) : E_C_perform e N 37 a b c d S = (if a < 1 then some ((-1), S) else (if (S.1 3 0) < a then some ((-1), S) else (if w_ib a 151 = true then (if (S.1 5 a.toNat) ≠ (-1) then some ((-1), S) else ((E_Buying_addSerial e N a (S.1 27 1) S).bind (fun q392 => some (q392.1, q392.2)))) else none))) := rfl
theorem pc_38 (e : w_E) (N : Nat) (a b c d : Int) (S : w_S) : E_C_perform e N 38 a b c d S = E_Stores_addPackage e N  S := bind_id _
theorem pc_39 (e : w_E) (N : Nat) (a b c d : Int) (S : w_S) : E_C_perform e N 39 a b c d S = E_RuleBook_readLines e N 1 S := bind_id _
theorem pc_40 (e : w_E) (N : Nat) (a b c d : Int) (S : w_S) : E_C_perform e N 40 a b c d S = E_Lending_setMark e N a S := bind_id _
theorem pc_41 (e : w_E) (N : Nat) (a b c d : Int) (S : w_S) : E_C_perform e N 41 a b c d S = E_RuleBook_readLines e N 2 S := bind_id _
theorem pc_42 (e : w_E) (N : Nat) (a b c d : Int) (S : w_S) : E_C_perform e N 42 a b c d S = E_C_runBatch e N  S := bind_id _
theorem pc_43 (e : w_E) (N : Nat) (a b c d : Int) (S : w_S) : E_C_perform e N 43 a b c d S = E_RuleBook_readLines e N 3 S := bind_id _
theorem pc_44 (e : w_E) (N : Nat) (a b c d : Int) (S : w_S) : E_C_perform e N 44 a b c d S = E_C_runMessage e N  S := bind_id _
theorem pr_1 (e : w_E) (N : Nat) (a b c d : Int) (S : w_S) : E_R_perform e N 1 a b c d S = E_R_doTick e N a S := bind_id _
theorem pr_2 (e : w_E) (N : Nat) (a b c d : Int) (S : w_S) : E_R_perform e N 2 a b c d S = E_R_doRecord e N  S := bind_id _
theorem pr_3 (e : w_E) (N : Nat) (a b c d : Int) (S : w_S) : E_R_perform e N 3 a b c d S = E_R_doEdit e N a S := bind_id _
theorem pr_4 (e : w_E) (N : Nat) (a b c d : Int) (S : w_S) : E_R_perform e N 4 a b c d S = E_R_doDrop e N a S := bind_id _
theorem pr_5 (e : w_E) (N : Nat) (a b c d : Int) (S : w_S) : E_R_perform e N 5 a b c d S = E_R_doHeading e N  S := bind_id _
theorem pr_6 (e : w_E) (N : Nat) (a b c d : Int) (S : w_S) : E_R_perform e N 6 a b c d S = E_R_doRename e N a S := bind_id _
theorem pr_7 (e : w_E) (N : Nat) (a b c d : Int) (S : w_S) : E_R_perform e N 7 a b c d S = E_R_doBroader e N a b S := bind_id _
theorem pr_8 (e : w_E) (N : Nat) (a b c d : Int) (S : w_S) : E_R_perform e N 8 a b c d S = E_R_doLink e N a b c S := bind_id _
theorem pr_9 (e : w_E) (N : Nat) (a b c d : Int) (S : w_S) : E_R_perform e N 9 a b c d S = E_R_doReader e N a S := bind_id _
theorem pr_10 (e : w_E) (N : Nat) (a b c d : Int) (S : w_S) : E_R_perform e N 10 a b c d S = E_R_doCopy e N a b S := bind_id _
theorem pr_11 (e : w_E) (N : Nat) (a b c d : Int) (S : w_S) : E_R_perform e N 11 a b c d S = E_R_doAway e N a S := bind_id _
theorem pr_12 (e : w_E) (N : Nat) (a b c d : Int) (S : w_S) : E_R_perform e N 12 a b c d S = E_R_doRules e N  S := bind_id _
theorem pr_13 (e : w_E) (N : Nat) (a b c d : Int) (S : w_S) : E_R_perform e N 13 a b c d S = E_R_doClosed e N a S := bind_id _
theorem pr_14 (e : w_E) (N : Nat) (a b c d : Int) (S : w_S) : E_R_perform e N 14 a b c d S = E_R_doLend e N a b S := bind_id _
theorem pr_15 (e : w_E) (N : Nat) (a b c d : Int) (S : w_S) : E_R_perform e N 15 a b c d S = E_R_doRenew e N a S := bind_id _
theorem pr_16 (e : w_E) (N : Nat) (a b c d : Int) (S : w_S) : E_R_perform e N 16 a b c d S = E_R_doBack e N a S := bind_id _
theorem pr_17 (e : w_E) (N : Nat) (a b c d : Int) (S : w_S) : E_R_perform e N 17 a b c d S = E_R_doHold e N a b c S := bind_id _
theorem pr_18 (e : w_E) (N : Nat) (a b c d : Int) (S : w_S) : E_R_perform e N 18 a b c d S = E_R_doUnhold e N a b S := bind_id _
theorem pr_19 (e : w_E) (N : Nat) (a b c d : Int) (S : w_S) : E_R_perform e N 19 a b c d S = E_R_doPay e N a b S := bind_id _
theorem pr_20 (e : w_E) (N : Nat) (a b c d : Int) (S : w_S) : E_R_perform e N 20 a b c d S = E_R_doSerial e N a S := bind_id _
theorem pr_21 (e : w_E) (N : Nat) (a b c d : Int) (S : w_S) : E_R_perform e N 21 a b c d S = E_R_doCame e N a b S := bind_id _
theorem pr_22 (e : w_E) (N : Nat) (a b c d : Int) (S : w_S) : E_R_perform e N 22 a b c d S = E_R_doFund e N a S := (bind_id _).trans (bind_id _)
theorem pr_23 (e : w_E) (N : Nat) (a b c d : Int) (S : w_S) : E_R_perform e N 23 a b c d S = E_R_doOrder e N a b S := (bind_id _).trans (bind_id _)
theorem pr_24 (e : w_E) (N : Nat) (a b c d : Int) (S : w_S) : E_R_perform e N 24 a b c d S = E_R_doInvoice e N a b S := (bind_id _).trans (bind_id _)
theorem pr_25 (e : w_E) (N : Nat) (a b c d : Int) (S : w_S) : E_R_perform e N 25 a b c d S = E_R_doCancel e N a S := (bind_id _).trans (bind_id _)
theorem pr_26 (e : w_E) (N : Nat) (a b c d : Int) (S : w_S) : E_R_perform e N 26 a b c d S = E_R_doTransfer e N a b c S := (bind_id _).trans (bind_id _)
theorem pr_27 (e : w_E) (N : Nat) (a b c d : Int) (S : w_S) : E_R_perform e N 27 a b c d S = E_R_doPack e N  S := (bind_id _).trans (bind_id _)
theorem pr_28 (e : w_E) (N : Nat) (a b c d : Int) (S : w_S) : E_R_perform e N 28 a b c d S = (if b ≠ 1 then ((E_R_doAnswers e N a 0 S).bind (fun q848 => some (q848.1, q848.2))) else ((E_R_doAnswers e N a 1 S).bind (fun q849 => some (q849.1, q849.2)))) := bind_id _
theorem pr_29 (e : w_E) (N : Nat) (a b c d : Int) (S : w_S) : E_R_perform e N 29 a b c d S = E_R_doAlter e N a b c d S := (bind_id _).trans (bind_id _)
theorem pr_30 (e : w_E) (N : Nat) (a b c d : Int) (S : w_S) : E_R_perform e N 30 a b c d S = E_R_doLose e N a b S := (bind_id _).trans (bind_id _)
theorem pr_31 (e : w_E) (N : Nat) (a b c d : Int) (S : w_S) : E_R_perform e N 31 a b c d S = E_R_doMend e N a S := (bind_id _).trans (bind_id _)
theorem pr_32 (e : w_E) (N : Nat) (a b c d : Int) (S : w_S) : E_R_perform e N 32 a b c d S = E_R_doHome e N a b S := (bind_id _).trans (bind_id _)
theorem pr_33 (e : w_E) (N : Nat) (a b c d : Int) (S : w_S) : E_R_perform e N 33 a b c d S = E_R_doPickup e N a b S := (bind_id _).trans (bind_id _)
theorem pr_34 (e : w_E) (N : Nat) (a b c d : Int) (S : w_S) : E_R_perform e N 34 a b c d S = E_R_doRoutes e N  S := (bind_id _).trans (bind_id _)
theorem pr_35 (e : w_E) (N : Nat) (a b c d : Int) (S : w_S) : E_R_perform e N 35 a b c d S = E_R_doBring e N a b S := (bind_id _).trans (bind_id _)
theorem pr_36 (e : w_E) (N : Nat) (a b c d : Int) (S : w_S) : E_R_perform e N 36 a b c d S = E_R_doBook e N a b c d S := (bind_id _).trans (bind_id _)
theorem pr_37 (e : w_E) (N : Nat) (a b c d : Int) (S : w_S) : E_R_perform e N 37 a b c d S = E_R_doUnbook e N a S := (bind_id _).trans (bind_id _)
theorem pr_38 (e : w_E) (N : Nat) (a b c d : Int) (S : w_S) : E_R_perform e N 38 a b c d S = E_R_doMark e N a S := (bind_id _).trans (bind_id _)
theorem pr_39 (e : w_E) (N : Nat) (a b c d : Int) (S : w_S) : E_R_perform e N 39 a b c d S = E_R_doChecks e N  S := (bind_id _).trans (bind_id _)
theorem pr_40 (e : w_E) (N : Nat) (a b c d : Int) (S : w_S) : E_R_perform e N 40 a b c d S = (if a ≠ 1 then ((E_R_doStrict e N 0 S).bind (fun q938 => some (q938.1, q938.2))) else ((E_R_doStrict e N 1 S).bind (fun q939 => some (q939.1, q939.2)))) := bind_id _
theorem pr_41 (e : w_E) (N : Nat) (a b c d : Int) (S : w_S) : E_R_perform e N 41 a b c d S = E_R_doBatch e N  S := (bind_id _).trans (bind_id _)
theorem pr_42 (e : w_E) (N : Nat) (a b c d : Int) (S : w_S) : E_R_perform e N 42 a b c d S = E_R_doRetention e N  S := (bind_id _).trans (bind_id _)
theorem pr_43 (e : w_E) (N : Nat) (a b c d : Int) (S : w_S) : E_R_perform e N 43 a b c d S = (if b ≠ 1 then ((E_R_doFreeze e N a 0 S).bind (fun q1189 => some (q1189.1, q1189.2))) else ((E_R_doFreeze e N a 1 S).bind (fun q1191 => some (q1191.1, q1191.2)))) := bind_id _
theorem pr_44 (e : w_E) (N : Nat) (a b c d : Int) (S : w_S) : E_R_perform e N 44 a b c d S = E_R_doDispose e N  S := (bind_id _).trans (bind_id _)
theorem pr_45 (e : w_E) (N : Nat) (a b c d : Int) (S : w_S) : E_R_perform e N 45 a b c d S = E_R_doExchange e N S := (bind_id _).trans (bind_id _)
end
section
-- gy
theorem p_0 {e : w_E} {N : Nat} {S R : w_S} {a b c d t top : Int} {ta L E V n : Nat} (hN : 16000000 ≤ N) (htop : top ≤ 10240) (hs : ∀ j, -128 ≤ S.1 2 j ∧ S.1 2 j ≤ 127) (hH : Hs S R t top ta L E V n) (ht : 0 ≤ t) (ht2 : t ≤ 512) : Ok (E_C_perform e N 0 a b c d S) (fun y S1 => Ok (E_R_perform e N 1 a b c d R) (fun y' R1 => y' = y ∧ PH S R t top top ta L E V n y S1 R1)) := by
  simp only [pc_0, pr_1]
  exact h_tick hN hH ht
theorem p_1 {e : w_E} {N : Nat} {S R : w_S} {a b c d t top : Int} {ta L E V n : Nat} (hN : 16000000 ≤ N) (htop : top ≤ 10240) (hs : ∀ j, -128 ≤ S.1 2 j ∧ S.1 2 j ≤ 127) (hH : Hs S R t top ta L E V n) (ht : 0 ≤ t) (ht2 : t ≤ 512) : Ok (E_C_perform e N 1 a b c d S) (fun y S1 => Ok (E_R_perform e N 4 a b c d R) (fun y' R1 => y' = y ∧ PH S R t top top ta L E V n y S1 R1)) := by
  simp only [pc_1, pr_4]
  exact h_drop hN hH
theorem p_2 {e : w_E} {N : Nat} {S R : w_S} {a b c d t top : Int} {ta L E V n : Nat} (hN : 16000000 ≤ N) (htop : top ≤ 10240) (hs : ∀ j, -128 ≤ S.1 2 j ∧ S.1 2 j ≤ 127) (hH : Hs S R t top ta L E V n) (ht : 0 ≤ t) (ht2 : t ≤ 512) : Ok (E_C_perform e N 2 a b c d S) (fun y S1 => Ok (E_R_perform e N 7 a b c d R) (fun y' R1 => y' = y ∧ PH S R t top top ta L E V n y S1 R1)) := by
  simp only [pc_2, pr_7]
  exact h_broader hN hH
theorem p_3 {e : w_E} {N : Nat} {S R : w_S} {a b c d t top : Int} {ta L E V n : Nat} (hN : 16000000 ≤ N) (htop : top ≤ 10240) (hs : ∀ j, -128 ≤ S.1 2 j ∧ S.1 2 j ≤ 127) (hH : Hs S R t top ta L E V n) (ht : 0 ≤ t) (ht2 : t ≤ 512) : Ok (E_C_perform e N 3 a b c d S) (fun y S1 => Ok (E_R_perform e N 8 a b c d R) (fun y' R1 => y' = y ∧ PH S R t top top ta L E V n y S1 R1)) := by
  simp only [pc_3, pr_8]
  exact h_link hN hH
theorem p_4 {e : w_E} {N : Nat} {S R : w_S} {a b c d t top : Int} {ta L E V n : Nat} (hN : 16000000 ≤ N) (htop : top ≤ 10240) (hs : ∀ j, -128 ≤ S.1 2 j ∧ S.1 2 j ≤ 127) (hH : Hs S R t top ta L E V n) (ht : 0 ≤ t) (ht2 : t ≤ 512) : Ok (E_C_perform e N 4 a b c d S) (fun y S1 => Ok (E_R_perform e N 9 a b c d R) (fun y' R1 => y' = y ∧ PH S R t top top ta L E V n y S1 R1)) := by
  simp only [pc_4, pr_9]
  exact h_reader hN hH ht ht2
theorem p_5 {e : w_E} {N : Nat} {S R : w_S} {a b c d t top : Int} {ta L E V n : Nat} (hN : 16000000 ≤ N) (htop : top ≤ 10240) (hs : ∀ j, -128 ≤ S.1 2 j ∧ S.1 2 j ≤ 127) (hH : Hs S R t top ta L E V n) (ht : 0 ≤ t) (ht2 : t ≤ 512) : Ok (E_C_perform e N 5 a b c d S) (fun y S1 => Ok (E_R_perform e N 10 a b c d R) (fun y' R1 => y' = y ∧ PH S R t top top ta L E V n y S1 R1)) := by
  simp only [pc_5, pr_10]
  exact h_copy hN hH ht
theorem p_6 {e : w_E} {N : Nat} {S R : w_S} {a b c d t top : Int} {ta L E V n : Nat} (hN : 16000000 ≤ N) (htop : top ≤ 10240) (hs : ∀ j, -128 ≤ S.1 2 j ∧ S.1 2 j ≤ 127) (hH : Hs S R t top ta L E V n) (ht : 0 ≤ t) (ht2 : t ≤ 512) : Ok (E_C_perform e N 6 a b c d S) (fun y S1 => Ok (E_R_perform e N 11 a b c d R) (fun y' R1 => y' = y ∧ PH S R t top top ta L E V n y S1 R1)) := by
  simp only [pc_6, pr_11]
  exact h_away hN hH ht ht2
theorem p_7 {e : w_E} {N : Nat} {S R : w_S} {a b c d t top : Int} {ta L E V n : Nat} (hN : 16000000 ≤ N) (htop : top ≤ 10240) (hs : ∀ j, -128 ≤ S.1 2 j ∧ S.1 2 j ≤ 127) (hH : Hs S R t top ta L E V n) (ht : 0 ≤ t) (ht2 : t ≤ 512) : Ok (E_C_perform e N 7 a b c d S) (fun y S1 => Ok (E_R_perform e N 13 a b c d R) (fun y' R1 => y' = y ∧ PH S R t top top ta L E V n y S1 R1)) := by
  simp only [pc_7, pr_13]
  exact h_closed hN hH ht ht2
theorem p_8 {e : w_E} {N : Nat} {S R : w_S} {a b c d t top : Int} {ta L E V n : Nat} (hN : 16000000 ≤ N) (htop : top ≤ 10240) (hs : ∀ j, -128 ≤ S.1 2 j ∧ S.1 2 j ≤ 127) (hH : Hs S R t top ta L E V n) (ht : 0 ≤ t) (ht2 : t ≤ 512) : Ok (E_C_perform e N 8 a b c d S) (fun y S1 => Ok (E_R_perform e N 14 a b c d R) (fun y' R1 => y' = y ∧ PH S R t top top ta L E V n y S1 R1)) := by
  simp only [pc_8, pr_14]
  exact h_lend hN hH ht ht2
theorem p_9 {e : w_E} {N : Nat} {S R : w_S} {a b c d t top : Int} {ta L E V n : Nat} (hN : 16000000 ≤ N) (htop : top ≤ 10240) (hs : ∀ j, -128 ≤ S.1 2 j ∧ S.1 2 j ≤ 127) (hH : Hs S R t top ta L E V n) (ht : 0 ≤ t) (ht2 : t ≤ 512) : Ok (E_C_perform e N 9 a b c d S) (fun y S1 => Ok (E_R_perform e N 15 a b c d R) (fun y' R1 => y' = y ∧ PH S R t top top ta L E V n y S1 R1)) := by
  simp only [pc_9, pr_15]
  exact h_renew hN hH ht ht2
theorem p_11 {e : w_E} {N : Nat} {S R : w_S} {a b c d t top : Int} {ta L E V n : Nat} (hN : 16000000 ≤ N) (htop : top ≤ 10240) (hs : ∀ j, -128 ≤ S.1 2 j ∧ S.1 2 j ≤ 127) (hH : Hs S R t top ta L E V n) (ht : 0 ≤ t) (ht2 : t ≤ 512) : Ok (E_C_perform e N 11 a b c d S) (fun y S1 => Ok (E_R_perform e N 17 a b c d R) (fun y' R1 => y' = y ∧ PH S R t top top ta L E V n y S1 R1)) := by
  simp only [pc_11, pr_17]
  exact h_hold hN hH ht ht2
theorem p_12 {e : w_E} {N : Nat} {S R : w_S} {a b c d t top : Int} {ta L E V n : Nat} (hN : 16000000 ≤ N) (htop : top ≤ 10240) (hs : ∀ j, -128 ≤ S.1 2 j ∧ S.1 2 j ≤ 127) (hH : Hs S R t top ta L E V n) (ht : 0 ≤ t) (ht2 : t ≤ 512) : Ok (E_C_perform e N 12 a b c d S) (fun y S1 => Ok (E_R_perform e N 18 a b c d R) (fun y' R1 => y' = y ∧ PH S R t top top ta L E V n y S1 R1)) := by
  simp only [pc_12, pr_18]
  exact h_unhold hN hH ht ht2
theorem p_14 {e : w_E} {N : Nat} {S R : w_S} {a b c d t top : Int} {ta L E V n : Nat} (hN : 16000000 ≤ N) (htop : top ≤ 10240) (hs : ∀ j, -128 ≤ S.1 2 j ∧ S.1 2 j ≤ 127) (hH : Hs S R t top ta L E V n) (ht : 0 ≤ t) (ht2 : t ≤ 512) : Ok (E_C_perform e N 14 a b c d S) (fun y S1 => Ok (E_R_perform e N 21 a b c d R) (fun y' R1 => y' = y ∧ PH S R t top top ta L E V n y S1 R1)) := by
  simp only [pc_14, pr_21]
  exact h_came hN hH ht ht2
theorem p_15 {e : w_E} {N : Nat} {S R : w_S} {a b c d t top : Int} {ta L E V n : Nat} (hN : 16000000 ≤ N) (htop : top ≤ 10240) (hs : ∀ j, -128 ≤ S.1 2 j ∧ S.1 2 j ≤ 127) (hH : Hs S R t top ta L E V n) (ht : 0 ≤ t) (ht2 : t ≤ 512) : Ok (E_C_perform e N 15 a b c d S) (fun y S1 => Ok (E_R_perform e N 22 a b c d R) (fun y' R1 => y' = y ∧ PH S R t top top ta L E V n y S1 R1)) := by
  simp only [pc_15, pr_22]
  exact h_fund hN hH ht ht2
theorem p_16 {e : w_E} {N : Nat} {S R : w_S} {a b c d t top : Int} {ta L E V n : Nat} (hN : 16000000 ≤ N) (htop : top ≤ 10240) (hs : ∀ j, -128 ≤ S.1 2 j ∧ S.1 2 j ≤ 127) (hH : Hs S R t top ta L E V n) (ht : 0 ≤ t) (ht2 : t ≤ 512) : Ok (E_C_perform e N 16 a b c d S) (fun y S1 => Ok (E_R_perform e N 23 a b c d R) (fun y' R1 => y' = y ∧ PH S R t top top ta L E V n y S1 R1)) := by
  simp only [pc_16, pr_23]
  exact h_order hN hH ht ht2
theorem p_17 {e : w_E} {N : Nat} {S R : w_S} {a b c d t top : Int} {ta L E V n : Nat} (hN : 16000000 ≤ N) (htop : top ≤ 10240) (hs : ∀ j, -128 ≤ S.1 2 j ∧ S.1 2 j ≤ 127) (hH : Hs S R t top ta L E V n) (ht : 0 ≤ t) (ht2 : t ≤ 512) : Ok (E_C_perform e N 17 a b c d S) (fun y S1 => Ok (E_R_perform e N 24 a b c d R) (fun y' R1 => y' = y ∧ PH S R t top top ta L E V n y S1 R1)) := by
  simp only [pc_17, pr_24]
  exact h_invoice hN hH ht ht2
theorem p_18 {e : w_E} {N : Nat} {S R : w_S} {a b c d t top : Int} {ta L E V n : Nat} (hN : 16000000 ≤ N) (htop : top ≤ 10240) (hs : ∀ j, -128 ≤ S.1 2 j ∧ S.1 2 j ≤ 127) (hH : Hs S R t top ta L E V n) (ht : 0 ≤ t) (ht2 : t ≤ 512) : Ok (E_C_perform e N 18 a b c d S) (fun y S1 => Ok (E_R_perform e N 25 a b c d R) (fun y' R1 => y' = y ∧ PH S R t top top ta L E V n y S1 R1)) := by
  simp only [pc_18, pr_25]
  exact h_cancel hN hH ht ht2
theorem p_19 {e : w_E} {N : Nat} {S R : w_S} {a b c d t top : Int} {ta L E V n : Nat} (hN : 16000000 ≤ N) (htop : top ≤ 10240) (hs : ∀ j, -128 ≤ S.1 2 j ∧ S.1 2 j ≤ 127) (hH : Hs S R t top ta L E V n) (ht : 0 ≤ t) (ht2 : t ≤ 512) : Ok (E_C_perform e N 19 a b c d S) (fun y S1 => Ok (E_R_perform e N 26 a b c d R) (fun y' R1 => y' = y ∧ PH S R t top top ta L E V n y S1 R1)) := by
  simp only [pc_19, pr_26]
  exact h_transfer hN hH ht ht2
theorem p_21 {e : w_E} {N : Nat} {S R : w_S} {a b c d t top : Int} {ta L E V n : Nat} (hN : 16000000 ≤ N) (htop : top ≤ 10240) (hs : ∀ j, -128 ≤ S.1 2 j ∧ S.1 2 j ≤ 127) (hH : Hs S R t top ta L E V n) (ht : 0 ≤ t) (ht2 : t ≤ 512) : Ok (E_C_perform e N 21 a b c d S) (fun y S1 => Ok (E_R_perform e N 29 a b c d R) (fun y' R1 => y' = y ∧ PH S R t top top ta L E V n y S1 R1)) := by
  simp only [pc_21, pr_29]
  exact h_alter hN hH ht ht2
theorem p_22 {e : w_E} {N : Nat} {S R : w_S} {a b c d t top : Int} {ta L E V n : Nat} (hN : 16000000 ≤ N) (htop : top ≤ 10240) (hs : ∀ j, -128 ≤ S.1 2 j ∧ S.1 2 j ≤ 127) (hH : Hs S R t top ta L E V n) (ht : 0 ≤ t) (ht2 : t ≤ 512) : Ok (E_C_perform e N 22 a b c d S) (fun y S1 => Ok (E_R_perform e N 30 a b c d R) (fun y' R1 => y' = y ∧ PH S R t top top ta L E V n y S1 R1)) := by
  simp only [pc_22, pr_30]
  exact h_lose hN hH ht ht2
theorem p_23 {e : w_E} {N : Nat} {S R : w_S} {a b c d t top : Int} {ta L E V n : Nat} (hN : 16000000 ≤ N) (htop : top ≤ 10240) (hs : ∀ j, -128 ≤ S.1 2 j ∧ S.1 2 j ≤ 127) (hH : Hs S R t top ta L E V n) (ht : 0 ≤ t) (ht2 : t ≤ 512) : Ok (E_C_perform e N 23 a b c d S) (fun y S1 => Ok (E_R_perform e N 31 a b c d R) (fun y' R1 => y' = y ∧ PH S R t top top ta L E V n y S1 R1)) := by
  simp only [pc_23, pr_31]
  exact h_mend hN hH ht ht2
theorem p_24 {e : w_E} {N : Nat} {S R : w_S} {a b c d t top : Int} {ta L E V n : Nat} (hN : 16000000 ≤ N) (htop : top ≤ 10240) (hs : ∀ j, -128 ≤ S.1 2 j ∧ S.1 2 j ≤ 127) (hH : Hs S R t top ta L E V n) (ht : 0 ≤ t) (ht2 : t ≤ 512) : Ok (E_C_perform e N 24 a b c d S) (fun y S1 => Ok (E_R_perform e N 32 a b c d R) (fun y' R1 => y' = y ∧ PH S R t top top ta L E V n y S1 R1)) := by
  simp only [pc_24, pr_32]
  exact h_home hN hH ht ht2
theorem p_25 {e : w_E} {N : Nat} {S R : w_S} {a b c d t top : Int} {ta L E V n : Nat} (hN : 16000000 ≤ N) (htop : top ≤ 10240) (hs : ∀ j, -128 ≤ S.1 2 j ∧ S.1 2 j ≤ 127) (hH : Hs S R t top ta L E V n) (ht : 0 ≤ t) (ht2 : t ≤ 512) : Ok (E_C_perform e N 25 a b c d S) (fun y S1 => Ok (E_R_perform e N 33 a b c d R) (fun y' R1 => y' = y ∧ PH S R t top top ta L E V n y S1 R1)) := by
  simp only [pc_25, pr_33]
  exact h_pickup hN hH ht ht2
theorem p_26 {e : w_E} {N : Nat} {S R : w_S} {a b c d t top : Int} {ta L E V n : Nat} (hN : 16000000 ≤ N) (htop : top ≤ 10240) (hs : ∀ j, -128 ≤ S.1 2 j ∧ S.1 2 j ≤ 127) (hH : Hs S R t top ta L E V n) (ht : 0 ≤ t) (ht2 : t ≤ 512) : Ok (E_C_perform e N 26 a b c d S) (fun y S1 => Ok (E_R_perform e N 35 a b c d R) (fun y' R1 => y' = y ∧ PH S R t top top ta L E V n y S1 R1)) := by
  simp only [pc_26, pr_35]
  exact h_bring hN hH ht ht2
theorem p_27 {e : w_E} {N : Nat} {S R : w_S} {a b c d t top : Int} {ta L E V n : Nat} (hN : 16000000 ≤ N) (htop : top ≤ 10240) (hs : ∀ j, -128 ≤ S.1 2 j ∧ S.1 2 j ≤ 127) (hH : Hs S R t top ta L E V n) (ht : 0 ≤ t) (ht2 : t ≤ 512) : Ok (E_C_perform e N 27 a b c d S) (fun y S1 => Ok (E_R_perform e N 36 a b c d R) (fun y' R1 => y' = y ∧ PH S R t top top ta L E V n y S1 R1)) := by
  simp only [pc_27, pr_36]
  exact h_book hN hH ht ht2
theorem p_28 {e : w_E} {N : Nat} {S R : w_S} {a b c d t top : Int} {ta L E V n : Nat} (hN : 16000000 ≤ N) (htop : top ≤ 10240) (hs : ∀ j, -128 ≤ S.1 2 j ∧ S.1 2 j ≤ 127) (hH : Hs S R t top ta L E V n) (ht : 0 ≤ t) (ht2 : t ≤ 512) : Ok (E_C_perform e N 28 a b c d S) (fun y S1 => Ok (E_R_perform e N 37 a b c d R) (fun y' R1 => y' = y ∧ PH S R t top top ta L E V n y S1 R1)) := by
  simp only [pc_28, pr_37]
  exact h_unbook hN hH ht ht2
theorem p_31 {e : w_E} {N : Nat} {S R : w_S} {a b c d t top : Int} {ta L E V n : Nat} (hN : 16000000 ≤ N) (htop : top ≤ 10240) (hs : ∀ j, -128 ≤ S.1 2 j ∧ S.1 2 j ≤ 127) (hH : Hs S R t top ta L E V n) (ht : 0 ≤ t) (ht2 : t ≤ 512) : Ok (E_C_perform e N 31 a b c d S) (fun y S1 => Ok (E_R_perform e N 44 a b c d R) (fun y' R1 => y' = y ∧ PH S R t top top ta L E V n y S1 R1)) := by
  simp only [pc_31, pr_44]
  exact h_dispose hN htop hs hH
theorem p_10 {e : w_E} {N : Nat} {S R : w_S} {a b c d t top : Int} {ta L E V n : Nat} (hN : 16000000 ≤ N) (htop : top ≤ 10240) (hs : ∀ j, -128 ≤ S.1 2 j ∧ S.1 2 j ≤ 127) (hH : Hs S R t top ta L E V n) (ht : 0 ≤ t) (ht2 : t ≤ 512) : Ok (E_C_perform e N 10 a b c d S) (fun y S1 => Ok (E_R_perform e N 16 a b c d R) (fun y' R1 => y' = y ∧ PH S R t top top ta L E V n y S1 R1)) := by
  simp only [pc_10, pr_16]
  refine ok_b ((h_back hN hH ht ht2).mono (fun y0 S0 k => ?_))
  refine ok_b (k.mono (fun y S1 k2 => ?_))
  exact ok_s k2
theorem p_20 {e : w_E} {N : Nat} {S R : w_S} {a b c d t top : Int} {ta L E V n : Nat} (hN : 16000000 ≤ N) (htop : top ≤ 10240) (hs : ∀ j, -128 ≤ S.1 2 j ∧ S.1 2 j ≤ 127) (hH : Hs S R t top ta L E V n) (ht : 0 ≤ t) (ht2 : t ≤ 512) : Ok (E_C_perform e N 20 a b c d S) (fun y S1 => Ok (E_R_perform e N 28 a b c d R) (fun y' R1 => y' = y ∧ PH S R t top top ta L E V n y S1 R1)) := by
  simp only [pc_20, pr_28]
  by_cases c1 : b = 1
  · simp only [ne_eq, c1, not_true_eq_false, if_false, bind_id]
    have hx : (1 : Int) = 0 ∨ (1 : Int) = 1 := Or.inr rfl
    exact h_answers hx hH
  · simp only [ne_eq, c1, not_false_eq_true, if_true, bind_id]
    have hx : (0 : Int) = 0 ∨ (0 : Int) = 1 := Or.inl rfl
    exact h_answers hx hH
theorem p_29 {e : w_E} {N : Nat} {S R : w_S} {a b c d t top : Int} {ta L E V n : Nat} (hN : 16000000 ≤ N) (htop : top ≤ 10240) (hs : ∀ j, -128 ≤ S.1 2 j ∧ S.1 2 j ≤ 127) (hH : Hs S R t top ta L E V n) (ht : 0 ≤ t) (ht2 : t ≤ 512) : Ok (E_C_perform e N 29 a b c d S) (fun y S1 => Ok (E_R_perform e N 40 a b c d R) (fun y' R1 => y' = y ∧ PH S R t top top ta L E V n y S1 R1)) := by
  simp only [pc_29, pr_40]
  by_cases c1 : a = 1
  · simp only [ne_eq, c1, not_true_eq_false, if_false, bind_id]
    have hx : (1 : Int) = 0 ∨ (1 : Int) = 1 := Or.inr rfl
    exact h_strict hN hx hH
  · simp only [ne_eq, c1, not_false_eq_true, if_true, bind_id]
    have hx : (0 : Int) = 0 ∨ (0 : Int) = 1 := Or.inl rfl
    exact h_strict hN hx hH
theorem p_30 {e : w_E} {N : Nat} {S R : w_S} {a b c d t top : Int} {ta L E V n : Nat} (hN : 16000000 ≤ N) (htop : top ≤ 10240) (hs : ∀ j, -128 ≤ S.1 2 j ∧ S.1 2 j ≤ 127) (hH : Hs S R t top ta L E V n) (ht : 0 ≤ t) (ht2 : t ≤ 512) : Ok (E_C_perform e N 30 a b c d S) (fun y S1 => Ok (E_R_perform e N 43 a b c d R) (fun y' R1 => y' = y ∧ PH S R t top top ta L E V n y S1 R1)) := by
  simp only [pc_30, pr_43]
  by_cases c1 : b = 1
  · simp only [ne_eq, c1, not_true_eq_false, if_false, bind_id]
    have hx : (1 : Int) = 0 ∨ (1 : Int) = 1 := Or.inr rfl
    exact h_freeze hN hx hH
  · simp only [ne_eq, c1, not_false_eq_true, if_true, bind_id]
    have hx : (0 : Int) = 0 ∨ (0 : Int) = 1 := Or.inl rfl
    exact h_freeze hN hx hH
end
section
-- gz
theorem PH.top {S R S1 R1 : w_S} {t top top' top2 : Int} {ta L E V n : Nat} {y : Int} (h : PH S R t top top' ta L E V n y S1 R1) (ht : top' ≤ top2) : PH S R t top top2 ta L E V n y S1 R1 := by
  obtain ⟨h1, h2, h3, h4⟩ := h
  refine ⟨h1, h2, h3, ?_⟩
  rcases h4 with h4 | ⟨a, b, ta', L', E', V', n', c, d⟩
  · exact Or.inl h4
  · exact Or.inr ⟨a, b, ta', L', E', V', n', c.top ht, d⟩
theorem p_32 {e : w_E} {N : Nat} {S R : w_S} {a b c d f len t top : Int} {G : Int → Int} {ta L E V n : Nat} (hN : 16000000 ≤ N) (h : TX S f len G) (hr : TR R len G) (h4 : S.1 1 4 = f) (h6 : S.1 1 6 = -1) (hB : TB S R f len) (hb : ∀ p : Nat, (p : Int) < len → -128 ≤ R.1 130 p ∧ R.1 130 p ≤ 127) (htop : top ≤ f + len) (hs : ∀ j, -128 ≤ S.1 2 j ∧ S.1 2 j ≤ 127) (hnx : R.2.2.2.1 + 150 < 899000) (hH : Hs S R t top ta L E V n) (ht : 0 ≤ t) (ht2 : t ≤ 512) : Ok (E_C_perform e N 32 a b c d S) (fun y S1 => Ok (E_R_perform e N 2 a b c d R) (fun y' R1 => y' = y ∧ PH S R t top (f + len) ta L E V n y S1 R1)) := by
  have hnx1 : R.2.2.2.1 < 899000 := by omega
  simp only [pr_2]
  show Ok (Crec e N S) _
  exact h_record hN h hr h4 h6 hB htop hnx1 hH
theorem p_33 {e : w_E} {N : Nat} {S R : w_S} {a b c d f len t top : Int} {G : Int → Int} {ta L E V n : Nat} (hN : 16000000 ≤ N) (h : TX S f len G) (hr : TR R len G) (h4 : S.1 1 4 = f) (h6 : S.1 1 6 = -1) (hB : TB S R f len) (hb : ∀ p : Nat, (p : Int) < len → -128 ≤ R.1 130 p ∧ R.1 130 p ≤ 127) (htop : top ≤ f + len) (hs : ∀ j, -128 ≤ S.1 2 j ∧ S.1 2 j ≤ 127) (hnx : R.2.2.2.1 + 150 < 899000) (hH : Hs S R t top ta L E V n) (ht : 0 ≤ t) (ht2 : t ≤ 512) : Ok (E_C_perform e N 33 a b c d S) (fun y S1 => Ok (E_R_perform e N 3 a b c d R) (fun y' R1 => y' = y ∧ PH S R t top (f + len) ta L E V n y S1 R1)) := by
  have hnx1 : R.2.2.2.1 < 899000 := by omega
  simp only [pc_33, pr_3]
  exact h_edit hN h hr h4 h6 hB htop hnx1 hH
theorem p_34 {e : w_E} {N : Nat} {S R : w_S} {a b c d f len t top : Int} {G : Int → Int} {ta L E V n : Nat} (hN : 16000000 ≤ N) (h : TX S f len G) (hr : TR R len G) (h4 : S.1 1 4 = f) (h6 : S.1 1 6 = -1) (hB : TB S R f len) (hb : ∀ p : Nat, (p : Int) < len → -128 ≤ R.1 130 p ∧ R.1 130 p ≤ 127) (htop : top ≤ f + len) (hs : ∀ j, -128 ≤ S.1 2 j ∧ S.1 2 j ≤ 127) (hnx : R.2.2.2.1 + 150 < 899000) (hH : Hs S R t top ta L E V n) (ht : 0 ≤ t) (ht2 : t ≤ 512) : Ok (E_C_perform e N 34 a b c d S) (fun y S1 => Ok (E_R_perform e N 5 a b c d R) (fun y' R1 => y' = y ∧ PH S R t top (f + len) ta L E V n y S1 R1)) := by
  have hnx1 : R.2.2.2.1 < 899000 := by omega
  simp only [pc_34, pr_5]
  exact h_heading hN h hr h4 h6 hB htop hs hH
theorem p_35 {e : w_E} {N : Nat} {S R : w_S} {a b c d f len t top : Int} {G : Int → Int} {ta L E V n : Nat} (hN : 16000000 ≤ N) (h : TX S f len G) (hr : TR R len G) (h4 : S.1 1 4 = f) (h6 : S.1 1 6 = -1) (hB : TB S R f len) (hb : ∀ p : Nat, (p : Int) < len → -128 ≤ R.1 130 p ∧ R.1 130 p ≤ 127) (htop : top ≤ f + len) (hs : ∀ j, -128 ≤ S.1 2 j ∧ S.1 2 j ≤ 127) (hnx : R.2.2.2.1 + 150 < 899000) (hH : Hs S R t top ta L E V n) (ht : 0 ≤ t) (ht2 : t ≤ 512) : Ok (E_C_perform e N 35 a b c d S) (fun y S1 => Ok (E_R_perform e N 6 a b c d R) (fun y' R1 => y' = y ∧ PH S R t top (f + len) ta L E V n y S1 R1)) := by
  have hnx1 : R.2.2.2.1 < 899000 := by omega
  simp only [pc_35, pr_6]
  exact h_rename hN h hr h4 h6 hB htop hs hH
theorem p_36 {e : w_E} {N : Nat} {S R : w_S} {a b c d f len t top : Int} {G : Int → Int} {ta L E V n : Nat} (hN : 16000000 ≤ N) (h : TX S f len G) (hr : TR R len G) (h4 : S.1 1 4 = f) (h6 : S.1 1 6 = -1) (hB : TB S R f len) (hb : ∀ p : Nat, (p : Int) < len → -128 ≤ R.1 130 p ∧ R.1 130 p ≤ 127) (htop : top ≤ f + len) (hs : ∀ j, -128 ≤ S.1 2 j ∧ S.1 2 j ≤ 127) (hnx : R.2.2.2.1 + 150 < 899000) (hH : Hs S R t top ta L E V n) (ht : 0 ≤ t) (ht2 : t ≤ 512) : Ok (E_C_perform e N 36 a b c d S) (fun y S1 => Ok (E_R_perform e N 12 a b c d R) (fun y' R1 => y' = y ∧ PH S R t top (f + len) ta L E V n y S1 R1)) := by
  have hnx1 : R.2.2.2.1 < 899000 := by omega
  simp only [pc_36, pr_12]
  exact h_rules hN h hr h4 h6 hB htop hH
theorem p_39 {e : w_E} {N : Nat} {S R : w_S} {a b c d f len t top : Int} {G : Int → Int} {ta L E V n : Nat} (hN : 16000000 ≤ N) (h : TX S f len G) (hr : TR R len G) (h4 : S.1 1 4 = f) (h6 : S.1 1 6 = -1) (hB : TB S R f len) (hb : ∀ p : Nat, (p : Int) < len → -128 ≤ R.1 130 p ∧ R.1 130 p ≤ 127) (htop : top ≤ f + len) (hs : ∀ j, -128 ≤ S.1 2 j ∧ S.1 2 j ≤ 127) (hnx : R.2.2.2.1 + 150 < 899000) (hH : Hs S R t top ta L E V n) (ht : 0 ≤ t) (ht2 : t ≤ 512) : Ok (E_C_perform e N 39 a b c d S) (fun y S1 => Ok (E_R_perform e N 34 a b c d R) (fun y' R1 => y' = y ∧ PH S R t top (f + len) ta L E V n y S1 R1)) := by
  have hnx1 : R.2.2.2.1 < 899000 := by omega
  simp only [pc_39, pr_34]
  exact h_route hN h hr h4 h6 hB htop hH
theorem p_40 {e : w_E} {N : Nat} {S R : w_S} {a b c d f len t top : Int} {G : Int → Int} {ta L E V n : Nat} (hN : 16000000 ≤ N) (h : TX S f len G) (hr : TR R len G) (h4 : S.1 1 4 = f) (h6 : S.1 1 6 = -1) (hB : TB S R f len) (hb : ∀ p : Nat, (p : Int) < len → -128 ≤ R.1 130 p ∧ R.1 130 p ≤ 127) (htop : top ≤ f + len) (hs : ∀ j, -128 ≤ S.1 2 j ∧ S.1 2 j ≤ 127) (hnx : R.2.2.2.1 + 150 < 899000) (hH : Hs S R t top ta L E V n) (ht : 0 ≤ t) (ht2 : t ≤ 512) : Ok (E_C_perform e N 40 a b c d S) (fun y S1 => Ok (E_R_perform e N 38 a b c d R) (fun y' R1 => y' = y ∧ PH S R t top (f + len) ta L E V n y S1 R1)) := by
  have hnx1 : R.2.2.2.1 < 899000 := by omega
  simp only [pc_40, pr_38]
  exact h_mark hN h hr h4 h6 hB htop hH
theorem p_41 {e : w_E} {N : Nat} {S R : w_S} {a b c d f len t top : Int} {G : Int → Int} {ta L E V n : Nat} (hN : 16000000 ≤ N) (h : TX S f len G) (hr : TR R len G) (h4 : S.1 1 4 = f) (h6 : S.1 1 6 = -1) (hB : TB S R f len) (hb : ∀ p : Nat, (p : Int) < len → -128 ≤ R.1 130 p ∧ R.1 130 p ≤ 127) (htop : top ≤ f + len) (hs : ∀ j, -128 ≤ S.1 2 j ∧ S.1 2 j ≤ 127) (hnx : R.2.2.2.1 + 150 < 899000) (hH : Hs S R t top ta L E V n) (ht : 0 ≤ t) (ht2 : t ≤ 512) : Ok (E_C_perform e N 41 a b c d S) (fun y S1 => Ok (E_R_perform e N 39 a b c d R) (fun y' R1 => y' = y ∧ PH S R t top (f + len) ta L E V n y S1 R1)) := by
  have hnx1 : R.2.2.2.1 < 899000 := by omega
  simp only [pc_41, pr_39]
  exact h_checks hN h hr h4 h6 hB htop hH
theorem p_43 {e : w_E} {N : Nat} {S R : w_S} {a b c d f len t top : Int} {G : Int → Int} {ta L E V n : Nat} (hN : 16000000 ≤ N) (h : TX S f len G) (hr : TR R len G) (h4 : S.1 1 4 = f) (h6 : S.1 1 6 = -1) (hB : TB S R f len) (hb : ∀ p : Nat, (p : Int) < len → -128 ≤ R.1 130 p ∧ R.1 130 p ≤ 127) (htop : top ≤ f + len) (hs : ∀ j, -128 ≤ S.1 2 j ∧ S.1 2 j ≤ 127) (hnx : R.2.2.2.1 + 150 < 899000) (hH : Hs S R t top ta L E V n) (ht : 0 ≤ t) (ht2 : t ≤ 512) : Ok (E_C_perform e N 43 a b c d S) (fun y S1 => Ok (E_R_perform e N 42 a b c d R) (fun y' R1 => y' = y ∧ PH S R t top (f + len) ta L E V n y S1 R1)) := by
  have hnx1 : R.2.2.2.1 < 899000 := by omega
  simp only [pc_43, pr_42]
  exact h_retention hN h hr h4 h6 hB htop hH
theorem p_38 {e : w_E} {N : Nat} {S R : w_S} {a b c d f len t top : Int} {G : Int → Int} {ta L E V n : Nat} (hN : 16000000 ≤ N) (h : TX S f len G) (hr : TR R len G) (h4 : S.1 1 4 = f) (h6 : S.1 1 6 = -1) (hB : TB S R f len) (hb : ∀ p : Nat, (p : Int) < len → -128 ≤ R.1 130 p ∧ R.1 130 p ≤ 127) (htop : top ≤ f + len) (hs : ∀ j, -128 ≤ S.1 2 j ∧ S.1 2 j ≤ 127) (hnx : R.2.2.2.1 + 150 < 899000) (hH : Hs S R t top ta L E V n) (ht : 0 ≤ t) (ht2 : t ≤ 512) : Ok (E_C_perform e N 38 a b c d S) (fun y S1 => Ok (E_R_perform e N 27 a b c d R) (fun y' R1 => y' = y ∧ PH S R t top (f + len) ta L E V n y S1 R1)) := by
  simp only [pc_38, pr_27]
  exact (h_pack hN h hr hB hH).mono (fun _ _ k => k.mono (fun _ _ q => ⟨q.1, q.2.top htop⟩))
theorem p_37 {e : w_E} {N : Nat} {S R : w_S} {a b c d f len t top : Int} {G : Int → Int} {ta L E V n : Nat} (hN : 16000000 ≤ N) (h : TX S f len G) (hr : TR R len G) (h4 : S.1 1 4 = f) (h6 : S.1 1 6 = -1) (hB : TB S R f len) (hb : ∀ p : Nat, (p : Int) < len → -128 ≤ R.1 130 p ∧ R.1 130 p ≤ 127) (htop : top ≤ f + len) (hs : ∀ j, -128 ≤ S.1 2 j ∧ S.1 2 j ≤ 127) (hnx : R.2.2.2.1 + 150 < 899000) (hH : Hs S R t top ta L E V n) (ht : 0 ≤ t) (ht2 : t ≤ 512) : Ok (E_C_perform e N 37 a b c d S) (fun y S1 => Ok (E_R_perform e N 20 a b c d R) (fun y' R1 => y' = y ∧ PH S R t top (f + len) ta L E V n y S1 R1)) := by
  have hG := hH.2.2.1.2.2.2.1
  have g3 : S.1 3 0 ≤ 150 := hG.2.2.1
  have no : ∀ y : Int, y = -1 → E_R_doSerial e N a R = some (-1, w_put R 129 4 1) → Ok (E_R_doSerial e N a R) (fun y' R1 => y' = y ∧ PH S R t top (f + len) ta L E V n y S R1) := fun y hy he => by
    subst hy
    exact ok_of he ⟨rfl, PH.no hH (by decide)⟩
  simp only [pc_37, pr_20]
  have rf : ¬ (1 ≤ a ∧ a ≤ S.1 3 0 ∧ S.1 5 a.toNat = -1) → E_R_doSerial e N a R = some (-1, w_put R 129 4 1) := fun z => by
    refine ok_eq ?_
    unfold E_R_doSerial
    exact ok_b (ok_of (x_isRec0 (e := e) (N := N) hG z) (ok_e (fun w => w rfl) (ok_s ⟨rfl, rfl⟩)))
  by_cases c1 : a < 1
  · exact ok_t c1 (ok_s (no _ rfl (rf (by omega))))
  refine ok_e c1 ?_
  by_cases c2 : S.1 3 0 < a
  · exact ok_t c2 (ok_s (no _ rfl (rf (by omega))))
  refine ok_e c2 (ok_ib (by omega) ?_)
  by_cases c3 : S.1 5 a.toNat = -1
  · refine ok_e (fun z => z c3) ?_
    rw [bind_id]
    exact h_serial hN h hr h4 h6 hB htop ⟨by omega, by omega, c3⟩ hH
  · exact ok_t c3 (ok_s (no _ rfl (rf (fun z => c3 z.2.2))))
end
