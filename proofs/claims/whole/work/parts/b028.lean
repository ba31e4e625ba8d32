section
-- dw
theorem two126 (S : w_S) : e_two Tc S 15 126 = some (24000, 260) := rfl
theorem two127 (S : w_S) : e_two Tc S 16 127 = some (24000, 260) := rfl
/-- a version becomes the draft -/
theorem l_cto {e : w_E} {N v : Nat} {top : Int} {t2 : Nat → Int} {D : List Fdl} (hv : v < 400) (hD : D.length ≤ 12) (hs : ∀ F, F < D.length → (D.getD F (0, 0, 0, [])).2.2.2.length ≤ 5) : ∀ (k i nf : Nat) (S : w_S), i + k = D.length → k < nf → S.1 10 v = (D.length : Nat) → (∀ F, F < D.length → CtF S t2 top v F (D.getD F (0, 0, 0, []))) → Ok (El_Catalog_copyTo e N nf 0 [(v : Int), (i : Int)] [] S) (fun _ S1 => frm [121, 122, 123, 124, 125, 126, 127] [] [] S S1 ∧ (∀ F, i ≤ F → F < D.length → DrF S1 t2 top F (D.getD F (0, 0, 0, [])) ∧ S1.1 124 F = 0) ∧ (∀ u, u < i → S1.1 121 u = S.1 121 u ∧ S1.1 122 u = S.1 122 u ∧ S1.1 123 u = S.1 123 u ∧ S1.1 124 u = S.1 124 u ∧ S1.1 125 u = S.1 125 u) ∧ ∀ u, u < 13 * i → S1.1 126 u = S.1 126 u ∧ S1.1 127 u = S.1 127 u)
  | _, _, 0, _, _, h, _, _ => by omega
  | 0, i, nf + 1, S, g1, g2, g3, g4 => by
    rw [El_Catalog_copyTo, show ((v : Int)).toNat = v by omega, g3]
    exact ok_ib (by omega) (ok_t (by omega) (ok_s ⟨frm.refl _ _ _ _, fun F a b => by omega, fun _ _ => ⟨rfl, rfl, rfl, rfl, rfl⟩, fun _ _ => ⟨rfl, rfl⟩⟩))
  | k + 1, i, nf + 1, S, g1, g2, g3, g4 => by
    have df := g4 i (by omega)
    have ls := hs i (by omega)
    generalize hd : D.getD i (0, 0, 0, []) = d at df ls
    obtain ⟨d1, d2, d3, d4, d5⟩ := df
    rw [El_Catalog_copyTo, show ((v : Int)).toNat = v by omega, g3]
    rw [show ((v : Int) * 12 + (i : Int)).toNat = 12 * v + i by omega, show (((v : Int) * 12 + (i : Int)) * 5).toNat = 5 * (12 * v + i) by omega, show ((i : Int) * 13).toNat = 13 * i by omega, show ((i : Int)).toNat = i by omega, d1, d2, d3, d4, show (((d.2.2.2.length : Nat) : Int)).toNat = d.2.2.2.length by omega]
    refine ok_ib (by omega) (ok_e (by omega) (ok_nb (by omega) (ok_nb (by omega) (ok_ib (by omega) (ok_ib (by omega) (ok_nb (by omega) (ok_nb (by omega) ?_)))))))
    refine ok_t rfl (ok_two (two126 _) ?_)
    with_reducible refine ok_t (by omega) ?_
    with_reducible refine ok_t (by omega) ?_
    with_reducible refine ok_t (by omega) ?_
    refine ok_t (by show ((v : Int) * 12 + (i : Int)) * 5 + (d.2.2.2.length : Nat) ≤ (24000 : Int); omega) ?_
    refine ok_t (by show (i : Int) * 13 + (d.2.2.2.length : Nat) ≤ (260 : Int); omega) ?_
    refine ok_t rfl (ok_two (two127 _) ?_)
    with_reducible refine ok_t (by omega) ?_
    with_reducible refine ok_t (by omega) ?_
    with_reducible refine ok_t (by omega) ?_
    refine ok_t (by show ((v : Int) * 12 + (i : Int)) * 5 + (d.2.2.2.length : Nat) ≤ (24000 : Int); omega) ?_
    refine ok_t (by show (i : Int) * 13 + (d.2.2.2.length : Nat) ≤ (260 : Int); omega) (ok_nb (by omega) ?_)
    rw [w_cpy_arr, w_cpy_arr]
    simp only [w_put_r, w_arr_r, reduceIte, Nat.reduceEqDiff, pt_at]
    generalize hS : w_arr (w_arr (w_put (w_put (w_put (w_put (w_put S 121 i d.1) 122 i d.2.1) 123 i d.2.2.1) 124 i 0) 125 i (d.2.2.2.length : Nat)) 126 (fun j => if 13 * i ≤ j ∧ j < 13 * i + d.2.2.2.length then S.1 15 (5 * (12 * v + i) + (j - 13 * i)) else S.1 126 j)) 127 (fun j => if 13 * i ≤ j ∧ j < 13 * i + d.2.2.2.length then S.1 16 (5 * (12 * v + i) + (j - 13 * i)) else S.1 127 j) = S2
    have fr : frm [121, 122, 123, 124, 125, 126, 127] [] [] S S2 := by
      rw [← hS]
      repeat (first | exact frm.refl _ _ _ _ | refine frm.put ?_ rfl | refine frm.puto ?_ rfl rfl | refine frm.arr ?_ rfl)
    have b1 : ∀ u, S2.1 121 u = if u = i then d.1 else S.1 121 u := fun u => by
      rw [← hS]
      rfl
    have b2 : ∀ u, S2.1 122 u = if u = i then d.2.1 else S.1 122 u := fun u => by
      rw [← hS]
      rfl
    have b3 : ∀ u, S2.1 123 u = if u = i then d.2.2.1 else S.1 123 u := fun u => by
      rw [← hS]
      rfl
    have b0 : ∀ u, S2.1 124 u = if u = i then 0 else S.1 124 u := fun u => by
      rw [← hS]
      rfl
    have b4 : ∀ u, S2.1 125 u = if u = i then ((d.2.2.2.length : Nat) : Int) else S.1 125 u := fun u => by
      rw [← hS]
      rfl
    have b5 : ∀ j, S2.1 126 j = if 13 * i ≤ j ∧ j < 13 * i + d.2.2.2.length then S.1 15 (5 * (12 * v + i) + (j - 13 * i)) else S.1 126 j := fun u => by
      rw [← hS]
      rfl
    have b6 : ∀ j, S2.1 127 j = if 13 * i ≤ j ∧ j < 13 * i + d.2.2.2.length then S.1 16 (5 * (12 * v + i) + (j - 13 * i)) else S.1 127 j := fun u => by
      rw [← hS]
      rfl
    clear hS
    have ih := l_cto (e := e) (N := N) (t2 := t2) (top := top) hv hD hs k (i + 1) nf S2 (by omega) (by omega) (by rw [fr.2.1 10 rfl rfl]; exact g3) (fun F hF => (g4 F hF).congr (by omega) (hs F hF) (fun u _ => ⟨by rw [fr.2.1 11 rfl rfl], by rw [fr.2.1 12 rfl rfl], by rw [fr.2.1 13 rfl rfl], by rw [fr.2.1 14 rfl rfl]⟩) (fun u _ => ⟨by rw [fr.2.1 15 rfl rfl], by rw [fr.2.1 16 rfl rfl]⟩))
    refine Ok.mono ih ?_
    intro y S1 ⟨q1, q2, q3, q4⟩
    refine ⟨fr.trans q1, ?_, ?_, ?_⟩
    · intro F a b
      by_cases hF : F = i
      · subst hF
        rw [hd]
        have c := q3 F (by omega)
        refine ⟨⟨by rw [c.1, b1, if_pos rfl], by rw [c.2.1, b2, if_pos rfl], by rw [c.2.2.1, b3, if_pos rfl], by rw [c.2.2.2.2, b4, if_pos rfl], ?_⟩, by rw [c.2.2.2.1, b0, if_pos rfl]⟩
        intro j hj
        have c' := q4 (13 * F + j) (by omega)
        have w := d5 j hj
        rw [c'.1, c'.2, b5, b6, if_pos ⟨by omega, by omega⟩, if_pos ⟨by omega, by omega⟩, show 13 * F + j - 13 * F = j by omega]
        exact w
      · exact q2 F (by omega) b
    · intro u hu
      have c := q3 u (by omega)
      have n : ¬ u = i := by omega
      exact ⟨by rw [c.1, b1, if_neg n], by rw [c.2.1, b2, if_neg n], by rw [c.2.2.1, b3, if_neg n], by rw [c.2.2.2.1, b0, if_neg n], by rw [c.2.2.2.2, b4, if_neg n]⟩
    · intro u hu
      have c := q4 u (by omega)
      have n : ¬ (13 * i ≤ u ∧ u < 13 * i + d.2.2.2.length) := by omega
      exact ⟨by rw [c.1, b5, if_neg n], by rw [c.2, b6, if_neg n]⟩
theorem x_copyTo {e : w_E} {N v : Nat} {top : Int} {t2 : Nat → Int} {D : List Fdl} {S : w_S} (hN : 100 ≤ N) (hv : v < 400) (hD : D.length ≤ 12) (hs : ∀ F, F < D.length → (D.getD F (0, 0, 0, [])).2.2.2.length ≤ 5) (h1 : S.1 10 v = (D.length : Nat)) (h2 : ∀ F, F < D.length → CtF S t2 top v F (D.getD F (0, 0, 0, []))) : Ok (E_Catalog_copyTo e N (v : Int) S) (fun _ S1 => frm [121, 122, 123, 124, 125, 126, 127] [120] [(120, 0)] S S1 ∧ Dr S1 t2 top D ∧ ∀ F, F < D.length → S1.1 124 F = 0) := by
  unfold E_Catalog_copyTo
  rw [show ((v : Int)).toNat = v by omega, h1]
  refine ok_ib (by omega) ?_
  have fr0 : frm [121, 122, 123, 124, 125, 126, 127] [120] [(120, 0)] S (w_put S 120 0 (D.length : Nat)) := by repeat (first | exact frm.refl _ _ _ _ | refine frm.put ?_ rfl | refine frm.puto ?_ rfl rfl)
  have fr1 : frm [] [120] [(120, 0)] S (w_put S 120 0 (D.length : Nat)) := by repeat (first | exact frm.refl _ _ _ _ | refine frm.put ?_ rfl | refine frm.puto ?_ rfl rfl)
  have ih := l_cto (e := e) (N := N) (t2 := t2) (top := top) hv hD hs D.length 0 N (w_put S 120 0 (D.length : Nat)) (by omega) (by omega) (by rw [fr1.2.1 10 rfl rfl]; exact h1) (fun F hF => (h2 F hF).congr (by omega) (hs F hF) (fun u _ => ⟨by rw [fr1.2.1 11 rfl rfl], by rw [fr1.2.1 12 rfl rfl], by rw [fr1.2.1 13 rfl rfl], by rw [fr1.2.1 14 rfl rfl]⟩) (fun u _ => ⟨by rw [fr1.2.1 15 rfl rfl], by rw [fr1.2.1 16 rfl rfl]⟩))
  refine Ok.mono ih ?_
  intro y S1 ⟨q1, q2, q3, q4⟩
  refine ⟨fr0.trans (q1.wide ?_ ?_ ?_), ⟨?_, fun F hF => (q2 F (by omega) hF).1⟩, fun F hF => (q2 F (by omega) hF).2⟩
  · exact fun b h => h
  · exact fun b h => rfl
  · exact fun b j h => rfl
  · rw [q1.2.2 120 0 rfl rfl]
    simp only [w_put_r, reduceIte, Nat.reduceEqDiff, pt_at]
end
section
-- dx
/-- what links are to both -/
def RelLk (S R : w_S)  : Prop := R.1 129 31 = S.1 17 7 ∧ 0 ≤ S.1 17 7 ∧ S.1 17 7 ≤ 300 ∧ ∀ k : Nat, (k : Int) < S.1 17 7 → R.1 146 k = S.1 23 k ∧ R.1 147 k = S.1 24 k ∧ R.1 148 k = S.1 25 k ∧ R.1 149 k = S.1 26 k ∧ 0 ≤ S.1 24 k ∧ S.1 24 k ≤ 11 ∧ 0 ≤ S.1 25 k ∧ S.1 25 k ≤ S.1 17 0 ∧ S.1 26 k ≤ S.1 27 1 ∧ (1 ≤ S.1 25 k → ∃ j : Nat, (j : Int) < S.1 17 3 ∧ R.1 142 j = S.1 25 k ∧ R.1 143 j ≤ S.1 26 k)
theorem RelLk.fr {S R S1 R1 : w_S}  {L O L' O' : List Nat} {J J' : List (Nat × Nat)} (h : RelLk S R ) (hf : frm L O J S S1) (hg : frm L' O' J' R R1) (dd : (ckA L O [23, 24, 25, 26] && (ckS L J [(17, 0), (17, 3), (17, 7), (27, 1)] && (ckA L' O' [142, 143, 146, 147, 148, 149] && ckS L' J' [(129, 31)]))) = true) : RelLk S1 R1  := by
  have d := ck4 dd
  have a0 : S1.1 23 = S.1 23 := hf.2.1 23 (d.1 23 (by decide)).1 (d.1 23 (by decide)).2
  have a1 : S1.1 24 = S.1 24 := hf.2.1 24 (d.1 24 (by decide)).1 (d.1 24 (by decide)).2
  have a2 : S1.1 25 = S.1 25 := hf.2.1 25 (d.1 25 (by decide)).1 (d.1 25 (by decide)).2
  have a3 : S1.1 26 = S.1 26 := hf.2.1 26 (d.1 26 (by decide)).1 (d.1 26 (by decide)).2
  have b0 : S1.1 17 0 = S.1 17 0 := hf.2.2 17 0 (d.2.1 (17, 0) (by decide)).1 (d.2.1 (17, 0) (by decide)).2
  have b1 : S1.1 17 3 = S.1 17 3 := hf.2.2 17 3 (d.2.1 (17, 3) (by decide)).1 (d.2.1 (17, 3) (by decide)).2
  have b2 : S1.1 17 7 = S.1 17 7 := hf.2.2 17 7 (d.2.1 (17, 7) (by decide)).1 (d.2.1 (17, 7) (by decide)).2
  have b3 : S1.1 27 1 = S.1 27 1 := hf.2.2 27 1 (d.2.1 (27, 1) (by decide)).1 (d.2.1 (27, 1) (by decide)).2
  have g0 : R1.1 142 = R.1 142 := hg.2.1 142 (d.2.2.1 142 (by decide)).1 (d.2.2.1 142 (by decide)).2
  have g1 : R1.1 143 = R.1 143 := hg.2.1 143 (d.2.2.1 143 (by decide)).1 (d.2.2.1 143 (by decide)).2
  have g2 : R1.1 146 = R.1 146 := hg.2.1 146 (d.2.2.1 146 (by decide)).1 (d.2.2.1 146 (by decide)).2
  have g3 : R1.1 147 = R.1 147 := hg.2.1 147 (d.2.2.1 147 (by decide)).1 (d.2.2.1 147 (by decide)).2
  have g4 : R1.1 148 = R.1 148 := hg.2.1 148 (d.2.2.1 148 (by decide)).1 (d.2.2.1 148 (by decide)).2
  have g5 : R1.1 149 = R.1 149 := hg.2.1 149 (d.2.2.1 149 (by decide)).1 (d.2.2.1 149 (by decide)).2
  have k0 : R1.1 129 31 = R.1 129 31 := hg.2.2 129 31 (d.2.2.2 (129, 31) (by decide)).1 (d.2.2.2 (129, 31) (by decide)).2
  unfold RelLk at h ⊢
  simp only [a0, a1, a2, a3, b0, b1, b2, b3, g0, g1, g2, g3, g4, g5, k0]
  exact h
theorem gk_spec (P : Nat → Bool) : ∀ n, (gk P n = -1 ∧ ∀ k, k < n → P k = false) ∨ ∃ j : Nat, j < n ∧ gk P n = j ∧ P j = true ∧ ∀ k, j < k → k < n → P k = false
  | 0 => Or.inl ⟨rfl, fun k h => absurd h (by omega)⟩
  | n + 1 => by
    rw [gk]
    cases c : P n with
    | true => exact Or.inr ⟨n, by omega, by rw [if_pos rfl], c, fun k a b => absurd a (by omega)⟩
    | false =>
      rw [if_neg (by decide)]
      rcases gk_spec P n with ⟨h1, h2⟩ | ⟨j, h1, h2, h3, h4⟩
      · refine Or.inl ⟨h1, fun k hk => ?_⟩
        by_cases e : k = n
        · rw [e]; exact c
        · exact h2 k (by omega)
      · refine Or.inr ⟨j, by omega, h2, h3, fun k a b => ?_⟩
        by_cases e : k = n
        · rw [e]; exact c
        · exact h4 k a (by omega)
theorem gk_pos {P : Nat → Bool} {n k : Nat} (h : k < n) (hp : P k = true) : 0 ≤ gk P n := by
  rcases gk_spec P n with ⟨_, h2⟩ | ⟨j, _, h2, _⟩
  · rw [h2 k h] at hp; cases hp
  · rw [h2]; omega
/-- the class's chain of versions from the last down -/
theorem l_vOn {e : w_E} {N V : Nat} {S : w_S} {d : Int} {P : Nat → Bool} (hV : V ≤ 400) (h8 : ∀ v, v < V → P v = true → S.1 8 v = gk P v) : ∀ (m nf x4 : Nat), m ≤ V → m < nf → x4 + m ≤ 400 → El_Catalog_versionOn e N nf 0 [d, gk P m, (x4 : Int)] [] S = some (gk (fun k => P k && decide (S.1 9 k ≤ d)) m, S)
  | _, 0, _, _, h, _ => by omega
  | 0, nf + 1, x4, _, _, _ => by
    refine ok_eq ?_
    rw [El_Catalog_versionOn, gk, gk]
    by_cases c : 400 ≤ (x4 : Int)
    · exact ok_t c (ok_s ⟨rfl, rfl⟩)
    · exact ok_e c (ok_t rfl (ok_s ⟨rfl, rfl⟩))
  | m + 1, nf + 1, x4, g1, g2, g3 => by
    cases c : P m with
    | false =>
      have ih := l_vOn (e := e) (N := N) (d := d) hV h8 m (nf + 1) x4 (by omega) (by omega) (by omega)
      rw [gk, c, if_neg (by decide), gk, c, Bool.false_and, if_neg (by decide)]
      exact ih
    | true =>
      refine ok_eq ?_
      rw [El_Catalog_versionOn, gk, c, if_pos rfl, gk, c, Bool.true_and]
      rw [show ((m : Int)).toNat = m by omega, h8 m (by omega) c]
      refine ok_e (by omega) (ok_e (by omega) (ok_ib (by omega) ?_))
      by_cases c2 : S.1 9 m ≤ d
      · rw [decide_eq_true c2]
        exact ok_t c2 (ok_s ⟨by rw [if_pos rfl], rfl⟩)
      · have ih := l_vOn (e := e) (N := N) (d := d) hV h8 m nf (x4 + 1) (by omega) (by omega) (by omega)
        refine ok_e c2 (ok_nb (by omega) (ok_of ih ⟨?_, rfl⟩))
        rw [decide_eq_false c2, if_neg (show ¬ (false = true) by decide)]
theorem l_rvOn {e : w_E} {N : Nat} {R : w_S} {r d : Int} : ∀ (k nf : Nat), k ≤ 400 → k < nf → El_R_versionOn e N nf 0 [r, d, (k : Int) - 1] [] R = some (gk (fun j => decide (R.1 136 j = r) && decide (R.1 137 j ≤ d)) k, R)
  | _, 0, _, h => by omega
  | 0, nf + 1, _, _ => by
    refine ok_eq ?_
    rw [El_R_versionOn, gk]
    exact ok_t (by omega) (ok_s ⟨by omega, rfl⟩)
  | k + 1, nf + 1, h1, h2 => by
    have ih := l_rvOn (e := e) (N := N) (R := R) (r := r) (d := d) k nf (by omega) (by omega)
    rw [show ((k : Int)) - 1 = ((k + 1 : Nat) : Int) - 1 + (-1) by omega] at ih
    refine ok_eq ?_
    rw [El_R_versionOn, gk]
    refine ok_e (by omega) (ok_ib (by omega) ?_)
    rw [show (((k + 1 : Nat) : Int) - 1).toNat = k by omega]
    by_cases c : R.1 136 k = r
    · refine ok_e (by omega) ?_
      by_cases c2 : R.1 137 k ≤ d
      · rw [decide_eq_true c, decide_eq_true c2]
        exact ok_t c2 (ok_s ⟨by show _ = (k : Int); omega, rfl⟩)
      · rw [decide_eq_false c2, Bool.and_false]
        exact ok_e c2 (ok_nb (by omega) (ok_of ih ⟨rfl, rfl⟩))
    · rw [decide_eq_false c, Bool.false_and]
      exact ok_t c (ok_nb (by omega) (ok_of ih ⟨rfl, rfl⟩))
theorem x_rvOn {e : w_E} {N V : Nat} {R : w_S} {r d : Int} (hN : 1000 ≤ N) (hV : R.1 129 17 = V) (hV4 : V ≤ 400) : E_R_versionOn e N r d R = some (gk (fun j => decide (R.1 136 j = r) && decide (R.1 137 j ≤ d)) V, R) := by
  refine ok_eq ?_
  unfold E_R_versionOn
  rw [hV]
  exact ok_nb (by omega) (ok_of (l_rvOn V N hV4 (by omega)) ⟨rfl, rfl⟩)
/-- the heading to which a field is linked on a day -/
def lkP (R : w_S) (v F d : Int) (l : Nat) : Bool := decide (R.1 146 l = v) && decide (R.1 147 l = F) && decide (R.1 149 l ≤ d)
def lko (R : w_S) (v F d : Int) : Nat → Int
  | 0 => 0
  | n + 1 => if lkP R v F d n = true then R.1 148 n else lko R v F d n
theorem l_lkR {e : w_E} {N : Nat} {R : w_S} {v F d : Int} : ∀ (k nf : Nat), k ≤ 300 → k < nf → El_R_linkedOn e N nf 0 [v, F, d, (k : Int) - 1] [] R = some (lko R v F d k, R)
  | _, 0, _, h => by omega
  | 0, nf + 1, _, _ => by
    refine ok_eq ?_
    rw [El_R_linkedOn, lko]
    exact ok_t (by omega) (ok_s ⟨rfl, rfl⟩)
  | k + 1, nf + 1, h1, h2 => by
    have ih := l_lkR (e := e) (N := N) (R := R) (v := v) (F := F) (d := d) k nf (by omega) (by omega)
    rw [show ((k : Int)) - 1 = ((k + 1 : Nat) : Int) - 1 + (-1) by omega] at ih
    refine ok_eq ?_
    rw [El_R_linkedOn, lko, lkP]
    refine ok_e (by omega) (ok_ib (by omega) ?_)
    rw [show (((k + 1 : Nat) : Int) - 1).toNat = k by omega]
    by_cases c : R.1 146 k = v
    · refine ok_e (fun w => w c) ?_
      by_cases c2 : R.1 147 k = F
      · refine ok_e (fun w => w c2) ?_
        by_cases c3 : R.1 149 k ≤ d
        · rw [decide_eq_true c, decide_eq_true c2, decide_eq_true c3]
          exact ok_e (by omega) (ok_s ⟨rfl, rfl⟩)
        · rw [decide_eq_false c3, Bool.and_false]
          exact ok_t (by omega) (ok_nb (by omega) (ok_of ih ⟨rfl, rfl⟩))
      · rw [decide_eq_false c2, Bool.and_false, Bool.false_and]
        exact ok_t c2 (ok_nb (by omega) (ok_of ih ⟨rfl, rfl⟩))
    · rw [decide_eq_false c, Bool.false_and, Bool.false_and]
      exact ok_t c (ok_nb (by omega) (ok_of ih ⟨rfl, rfl⟩))
theorem x_lkR {e : w_E} {N : Nat} {S R : w_S} {v F d : Int} (hN : 1000 ≤ N) (h : RelLk S R) : E_R_linkedOn e N v F d R = some (lko R v F d (S.1 17 7).toNat, R) := by
  obtain ⟨k1, k2, k3, _⟩ := h
  have key := l_lkR (e := e) (N := N) (R := R) (v := v) (F := F) (d := d) (S.1 17 7).toNat N (by omega) (by omega)
  rw [show (((S.1 17 7).toNat : Nat) : Int) = S.1 17 7 by omega] at key
  refine ok_eq ?_
  unfold E_R_linkedOn
  rw [k1]
  exact ok_nb (by omega) (ok_of key ⟨rfl, rfl⟩)
theorem l_lkC {e : w_E} {N : Nat} {S R : w_S} {v F d : Int} (h : RelLk S R) (hd : S.1 27 1 ≤ d) : ∀ (k nf : Nat), (k : Int) ≤ S.1 17 7 → k < nf → El_Authority_linkedHeading e N nf 0 [v, F, (k : Int) - 1] [] S = some (lko R v F d k, S)
  | _, 0, _, h => by omega
  | 0, nf + 1, _, _ => by
    refine ok_eq ?_
    rw [El_Authority_linkedHeading, lko]
    exact ok_t (by omega) (ok_s ⟨rfl, rfl⟩)
  | k + 1, nf + 1, h1, h2 => by
    have ih := l_lkC (e := e) (N := N) (v := v) (F := F) h hd k nf (by omega) (by omega)
    obtain ⟨_, _, k3, k4⟩ := h
    obtain ⟨r1, r2, r3, r4, _, _, _, _, r5, _⟩ := k4 k (by omega)
    rw [show ((k : Int)) - 1 = ((k + 1 : Nat) : Int) - 1 + (-1) by omega] at ih
    refine ok_eq ?_
    rw [El_Authority_linkedHeading, lko, lkP, r1, r2, r3, r4, decide_eq_true (show S.1 26 k ≤ d by omega), Bool.and_true]
    refine ok_e (by omega) (ok_ib (by omega) ?_)
    rw [show (((k + 1 : Nat) : Int) - 1).toNat = k by omega]
    by_cases c : S.1 23 k = v
    · refine ok_e (fun w => w c) ?_
      by_cases c2 : S.1 24 k = F
      · rw [decide_eq_true c, decide_eq_true c2]
        exact ok_e (fun w => w c2) (ok_s ⟨rfl, rfl⟩)
      · rw [decide_eq_false c2, Bool.and_false]
        exact ok_t c2 (ok_nb (by omega) (ok_of ih ⟨rfl, rfl⟩))
    · rw [decide_eq_false c, Bool.false_and]
      exact ok_t c (ok_nb (by omega) (ok_of ih ⟨rfl, rfl⟩))
theorem x_lkC {e : w_E} {N : Nat} {S R : w_S} {v F d : Int} (hN : 1000 ≤ N) (h : RelLk S R) (hd : S.1 27 1 ≤ d) : E_Authority_linkedHeading e N v F S = some (lko R v F d (S.1 17 7).toNat, S) := by
  have hh := h
  obtain ⟨k1, k2, k3, _⟩ := hh
  have key := l_lkC (e := e) (N := N) (v := v) (F := F) h hd (S.1 17 7).toNat N (by omega) (by omega)
  rw [show (((S.1 17 7).toNat : Nat) : Int) = S.1 17 7 by omega] at key
  refine ok_eq ?_
  unfold E_Authority_linkedHeading
  exact ok_nb (by omega) (ok_of key ⟨rfl, rfl⟩)
theorem lko_b {S R : w_S} {v F d : Int} (h : RelLk S R) : ∀ k : Nat, (k : Int) ≤ S.1 17 7 → 0 ≤ lko R v F d k ∧ lko R v F d k ≤ S.1 17 0 ∧ (1 ≤ lko R v F d k → ∃ j : Nat, (j : Int) < S.1 17 3 ∧ R.1 142 j = lko R v F d k ∧ R.1 143 j ≤ d) ∨ S.1 17 0 < 0
  | 0, _ => by
    rw [lko]
    by_cases c : S.1 17 0 < 0
    · exact Or.inr c
    · exact Or.inl ⟨by omega, by omega, fun w => absurd w (by omega)⟩
  | k + 1, g => by
    rw [lko]
    cases c : lkP R v F d k with
    | false => rw [if_neg (by decide)]; exact lko_b h k (by omega)
    | true =>
      rw [if_pos rfl]
      obtain ⟨_, _, _, k4⟩ := h
      obtain ⟨r1, r2, r3, r4, _, _, b1, b2, _, b3⟩ := k4 k (by omega)
      unfold lkP at c
      simp only [Bool.and_eq_true, decide_eq_true_eq] at c
      rw [r3]
      refine Or.inl ⟨b1, b2, fun w => ?_⟩
      obtain ⟨j, j1, j2, j3⟩ := b3 w
      exact ⟨j, j1, j2, by omega⟩
end
section
-- dy
theorem l_lnk {e : w_E} {N ta L : Nat} {R : w_S} {x1 x2 x3 v x6 : Int} {P : Int → w_S → Prop} (hN : L < N) (hl : e_len Tr R ta 1 = some L) (hL : L < 2000000000) (h2 : R.2.1 2 = ta) : ∀ (l : List Fdl) (p i nf : Nat), (∀ f, f ∈ l → vfd f) → byt (R.1 ta) p (doc l) → ((p + (doc l).length : Nat) : Int) = x6 → x6 ≤ L → l.length < nf → i + l.length ≤ 100 → (x2 < 0 ∨ (i : Int) ≤ x2) → (x2 < 0 ∨ ((i + l.length : Nat) : Int) ≤ x2 → P (-1) (w_put R 129 4 1)) → (∀ k : Nat, x2 = ((i + k : Nat) : Int) → k < l.length → l.length ≤ 12 → ∀ n' p' : Nat, Fat R ta L p' (l.getD k (0, 0, 0, [])) → ((p' + (ser (l.getD k (0, 0, 0, []))).length : Nat) : Int) ≤ x6 → Ok (El_R_doLink e N (n' + 1) 0 [x1, x2, x3, v, (p' : Int), x6, x2] [] R) P) → l.length ≤ 12 → Ok (El_R_doLink e N nf 0 [x1, x2, x3, v, (p : Int), x6, (i : Int)] [] R) P
  | _, _, _, 0, _, _, _, _, h, _, _, _, _, _ => by omega
  | [], p, i, nf + 1, g1, g2, g3, g4, g5, g6, g7, g8, g9, g10 => by
    rw [El_R_doLink]
    rw [doc, List.flatMap_nil, List.length_nil] at g3
    rw [List.length_nil] at g8
    have g8' := g8 (by omega)
    by_cases c : x2 ≤ (i : Int)
    · refine ok_t c ?_
      by_cases c2 : x2 < 0
      · exact ok_t c2 (ok_s g8')
      · exact ok_e c2 (ok_t (by omega) (ok_s g8'))
    · refine ok_e c (ok_t (by omega) ?_)
      by_cases c2 : x2 < 0
      · exact ok_t c2 (ok_s g8')
      · exact ok_e c2 (ok_s g8')
  | f :: l, p, i, nf + 1, g1, g2, g3, g4, g5, g6, g7, g8, g9, g10 => by
    have hf := g1 f List.mem_cons_self
    rw [doc, List.flatMap_cons] at g2 g3
    rw [byt_app] at g2
    rw [List.length_append] at g3
    rw [List.length_cons] at g5 g6 g8 g10
    have fa : Fat R ta L p f := ⟨hl, hL, g2.1, by omega, hf⟩
    have sl := ser_len f
    by_cases c : x2 ≤ (i : Int)
    · by_cases c2 : x2 < 0
      · rw [El_R_doLink]
        exact ok_t c (ok_t c2 (ok_s (g8 (Or.inl c2))))
      · have e1 : x2 = (i : Int) := by omega
        have := g9 0 (by omega) (by rw [List.length_cons]; omega) (by rw [List.length_cons]; omega) nf p fa (by rw [List.getD_cons_zero]; omega)
        rw [← e1]
        exact this
    · rw [El_R_doLink, h2]
      refine ok_e c (ok_e (by omega) (ok_b (ok_of (x_fieldEnd hN fa) (ok_nb (by omega) (ok_nb (by omega) ?_)))))
      have ih := l_lnk (e := e) (x1 := x1) (x2 := x2) (x3 := x3) (v := v) (x6 := x6) (P := P) hN hl hL h2 l (p + (ser f).length) (i + 1) nf (fun f hf => g1 f (List.mem_cons_of_mem _ hf)) g2.2 (by rw [doc]; omega) g4 (by omega) (by omega) (by omega) (fun w => g8 (by omega)) (fun k k1 k2 _ n' p' k3 k4 => g9 (k + 1) (by omega) (by rw [List.length_cons]; omega) (by rw [List.length_cons]; omega) n' p' (by rw [List.getD_cons_succ]; exact k3) (by rw [List.getD_cons_succ]; exact k4)) (by omega)
      rw [show ((p + (fbd f).length + 4 : Nat) : Int) + 1 = ((p + (ser f).length : Nat) : Int) by omega, show (i : Int) + 1 = ((i + 1 : Nat) : Int) by omega]
      exact ih
theorem fsi_ctl {f : Fdl} (h : vfd f) (c : f.1 < 10) : fsi 97 f.2.2.2 = none := by
  obtain ⟨_, _, r, hr⟩ := h.2.2.2.1 c
  rw [hr]
  rfl
theorem mem_getD {l : List Fdl} {k : Nat} (h : k < l.length) : l.getD k (0, 0, 0, []) ∈ l := by
  rw [List.getD_eq_getElem?_getD, List.getElem?_eq_getElem h, Option.getD_some]
  exact List.getElem_mem h
theorem x_firstA2 {e : w_E} {N a0 n p : Nat} {S : w_S} {f : Fdl} (hN : 2001 ≤ N) (hN2 : n < N) (h : Fat S a0 n p f) : ∃ z : Int, E_R_firstA e N (p : Int) ((p + (fbd f).length + 4 : Nat) : Int) a0 S = some (z, S) ∧ (((if f.1 < 10 then none else fsb 97 f.2.2.2) = none ∧ z = -1) ∨ ∃ k, (if f.1 < 10 then none else fsb 97 f.2.2.2) = some k ∧ z = ((p + 6 + k : Nat) : Int)) := by
  have key := x_firstA (e := e) hN hN2 h
  refine ⟨_, key, ?_⟩
  cases hb : (if f.1 < 10 then none else fsb 97 f.2.2.2) with
  | none => exact Or.inl ⟨rfl, rfl⟩
  | some k => exact Or.inr ⟨k, rfl, rfl⟩
theorem x_slot2 {e : w_E} {N F : Nat} {T : w_S} {c top : Int} {t2 : Nat → Int} {d : Fdl} (hN : 1000 ≤ N) (hF : F < 20) (hd : d.2.2.2.length ≤ 13) (h : DrF T t2 top F d) : ∃ z : Int, E_Draft_slotOf e N (F : Int) c T = some (z, T) ∧ ((fsi c d.2.2.2 = none ∧ z = -1) ∨ ∃ k, fsi c d.2.2.2 = some k ∧ z = ((13 * F + k : Nat) : Int)) := by
  have key := x_slot (e := e) (N := N) (c := c) hN hF hd h
  refine ⟨_, key, ?_⟩
  cases hb : fsi c d.2.2.2 with
  | none => exact Or.inl ⟨rfl, rfl⟩
  | some k => exact Or.inr ⟨k, rfl, rfl⟩
/-- a field gets its link -/
theorem t_lnk {e : w_E} {N : Nat} {S R : w_S} {x1 x2 x3 top : Int} {ta L E V n : Nat} (hN : 16000000 ≤ N) (hG : RelG S R) (hv : RelVr S R top ta L E V n) (hk : RelLk S R) (hn : RelNm S R top) (hd : R.1 129 12 = S.1 27 1) : Ok (E_C_linkField e N x1 x2 x3 S) (fun y S1 => Ok (E_R_doLink e N x1 x2 x3 R) (fun y' R1 => y' = y ∧ ((y < 0 ∧ frm [121, 122, 123, 124, 125, 126, 127] [120] [(120, 0)] S S1 ∧ R1 = w_put R 129 4 1) ∨ (0 ≤ y ∧ 1 ≤ x1 ∧ x1 ≤ n ∧ frm [6, 23, 24, 25, 26, 121, 122, 123, 124, 125, 126, 127] [17, 120] [(17, 7), (120, 0)] S S1 ∧ frm [135, 146, 147, 148, 149] [129] [(129, 31)] R R1 ∧ S1.1 6 = pt (S.1 6) x1.toNat (S.1 27 1) ∧ R1.1 135 = pt (R.1 135) x1.toNat (S.1 27 1) ∧ RelLk S1 R1)))) := by
  have hh := hv
  obtain ⟨k1, k2, k3, k4, k5, k6, k7, k8, k9, k10, k11⟩ := hh
  have kk := hk
  obtain ⟨l1, l2, l3, l4⟩ := kk
  unfold E_C_linkField E_R_doLink
  by_cases ok : 1 ≤ x1 ∧ x1 ≤ S.1 3 0 ∧ S.1 5 x1.toNat = -1
  · have ir := x_isRec1 (e := e) (N := N) hG ok
    obtain ⟨o1, o2, o3⟩ := ok
    obtain ⟨r, hrr⟩ : ∃ r : Nat, x1 = r := ⟨x1.toNat, by omega⟩
    subst hrr
    rw [show ((r : Int)).toNat = r by omega] at o3 ⊢
    obtain ⟨v1, v2⟩ := k10 r (by omega) (by omega)
    have gb := gk_b (fun k => decide (R.1 136 k = (r : Int))) V
    have vo := x_rvOn (e := e) (N := N) (r := (r : Int)) (d := R.1 129 12) (by omega) k4 k5
    rw [gk_congr (Q := fun k => decide (R.1 136 k = (r : Int))) V (fun k hk => by
      have := (k11 k hk).2.2.2.1
      rw [decide_eq_true (show R.1 137 k ≤ R.1 129 12 by omega), Bool.and_true]), ← v1] at vo
    rw [← v1] at gb
    generalize hv4 : S.1 4 r = v0 at vo gb v2 v1 ⊢
    obtain ⟨v, hvv⟩ : ∃ v : Nat, v0 = v := ⟨v0.toNat, by omega⟩
    subst hvv
    rw [show ((v : Int)).toNat = v by omega]
    obtain ⟨_, _, _, _, _, _, D, D1, D2, D3, D4, D5, D6, p, D7, D8, D9, D10, D11⟩ := k11 v (by omega)
    obtain ⟨t1, t2, t3, t4, t5, t6, t7, t8, t9, t10, t11, t12⟩ := k1
    rw [D1]
    have R0 : ∀ {P : Int → w_S → Prop}, (x2 < 0 ∨ ((D.length : Nat) : Int) ≤ x2 → P (-1) (w_put R 129 4 1)) → (∀ k : Nat, x2 = (k : Int) → k < D.length → ∀ n' p' : Nat, Fat R ta L p' (D.getD k (0, 0, 0, [])) → ((p' + (ser (D.getD k (0, 0, 0, []))).length : Nat) : Int) ≤ ((p + (doc D).length : Nat) : Int) → Ok (El_R_doLink e N (n' + 1) 0 [(r : Int), x2, x3, (v : Int), (p' : Int), ((p + (doc D).length : Nat) : Int), x2] [] R) P) → Ok ((E_R_isRecord e N (r : Int) R).bind (fun q740 => (if q740.1 ≠ 0 then ((E_R_versionOn e N (r : Int) (q740.2.1 129 12) q740.2).bind (fun q741 => (if w_ib q741.1 400 = true then (if w_nb ((q741.2.1 138 q741.1.toNat) + (q741.2.1 139 q741.1.toNat)) = true then El_R_doLink e N N 0 [(r : Int), x2, x3, q741.1, q741.2.1 138 q741.1.toNat, (q741.2.1 138 q741.1.toNat) + (q741.2.1 139 q741.1.toNat), 0] [] q741.2 else none) else none))) else some ((-1), (w_put q740.2 129 4 1))))) P := by
      intro P P1 P2
      refine ok_b (ok_of ir ?_)
      dsimp only
      refine ok_t (by decide) (ok_b (ok_of vo (ok_ib (by omega) ?_)))
      dsimp only
      rw [show ((v : Int)).toNat = v by omega, D7, D8]
      refine ok_nb (by omega) ?_
      refine l_lnk (x6 := (p : Int) + ((doc D).length : Nat)) (by omega) t7 (by omega) t1 D p 0 N D5 D11 (by omega) (by omega) (by omega) (by omega) (by omega) (fun w => P1 (by omega)) (fun k q1 q2 _ n' p' q3 q4 => ?_) (by omega)
      have := P2 k (by omega) q2 n' p' q3 (by omega)
      rw [show (((p + (doc D).length : Nat) : Int)) = (p : Int) + ((doc D).length : Nat) by omega] at this
      exact this
    refine ok_e (by omega) (ok_e (by omega) (ok_ib (by omega) (ok_e (fun w => w o3) ?_)))
    by_cases a1 : x2 < 0
    · exact ok_t a1 (ok_s (R0 (fun _ => ⟨rfl, Or.inl ⟨by decide, frm.refl _ _ _ _, rfl⟩⟩) (fun k w => absurd w (by omega))))
    refine ok_e a1 (ok_ib (by omega) ?_)
    by_cases a2 : ((D.length : Nat) : Int) ≤ x2
    · exact ok_t a2 (ok_s (R0 (fun _ => ⟨rfl, Or.inl ⟨by decide, frm.refl _ _ _ _, rfl⟩⟩) (fun k w w2 => absurd w2 (by omega))))
    refine ok_e a2 ?_
    obtain ⟨F, hF⟩ : ∃ F : Nat, x2 = F := ⟨x2.toNat, by omega⟩
    subst hF
    have hFd : F < D.length := by omega
    have hvf := D5 _ (mem_getD hFd)
    have hsl := ser_len (D.getD F (0, 0, 0, []))
    have hn5 := D4 F hFd
    generalize hdd : D.getD F (0, 0, 0, []) = f at hvf hsl hn5 R0
    by_cases a3 : x3 < 0
    · refine ok_t a3 (ok_s (R0 (fun w => absurd w (by omega)) (fun k w w2 n' p' w3 w4 => ?_)))
      rw [El_R_doLink]
      have ek : k = F := by omega
      subst ek
      rw [hdd] at w4
      exact ok_t (by omega) (ok_e (by omega) (ok_e (by omega) (ok_t a3 (ok_s ⟨rfl, Or.inl ⟨by decide, frm.refl _ _ _ _, rfl⟩⟩))))
    refine ok_e a3 ?_
    by_cases a4 : x3 ≤ S.1 17 0
    rotate_left
    · refine ok_e a4 (ok_s (R0 (fun w => absurd w (by omega)) (fun k w w2 n' p' w3 w4 => ?_)))
      rw [El_R_doLink, hn.1]
      have ek : k = F := by omega
      subst ek
      rw [hdd] at w4
      exact ok_t (by omega) (ok_e (by omega) (ok_e (by omega) (ok_e a3 (ok_t (by omega) (ok_s ⟨rfl, Or.inl ⟨by decide, frm.refl _ _ _ _, rfl⟩⟩)))))
    refine ok_t a4 (ok_b ?_)
    refine Ok.mono (x_copyTo (e := e) (N := N) (t2 := S.1 2) (top := top) (by omega) (by omega) D3 D4 D1 D6) ?_
    intro _ T ⟨f1, f2, _⟩
    have hk' : RelLk T R := hk.fr (L' := []) (O' := []) (J' := []) f1 (frm.refl _ _ _ _) (by decide)
    have t17 : T.1 17 = S.1 17 := f1.2.1 17 rfl rfl
    have t27 : T.1 27 = S.1 27 := f1.2.1 27 rfl rfl
    have df := f2.2 F hFd
    rw [hdd] at df
    have lc := x_lkC (e := e) (N := N) (v := (v : Int)) (F := (F : Int)) (d := S.1 27 1) (by omega) hk' (by rw [t27]; omega)
    have lr := x_lkR (e := e) (N := N) (v := (v : Int)) (F := (F : Int)) (d := S.1 27 1) (by omega) hk'
    generalize lko R (v : Int) (F : Int) (S.1 27 1) (T.1 17 7).toNat = h0 at lc lr
    obtain ⟨sz, sl, slc⟩ := x_slot2 (e := e) (N := N) (c := 97) (by omega) (by omega) (by omega) df
    have R1 : ∀ {P : Int → w_S → Prop}, (∀ (p' : Nat) (z : Int), (((if f.1 < 10 then none else fsb 97 f.2.2.2) = none ∧ z = -1) ∨ ∃ k, (if f.1 < 10 then none else fsb 97 f.2.2.2) = some k ∧ z = ((p' + 6 + k : Nat) : Int)) → Ok (if z < 0 then some ((-3), (w_put R 129 4 1)) else (if h0 ≠ x3 then (if (R.1 129 31) ≠ 300 then (if w_ib (R.1 129 31) 300 = true then (if w_nb ((R.1 129 31) + 1) = true then (if w_ib (r : Int) 151 = true then some (1, (w_put (w_put (w_put (w_put (w_put (w_put R 146 ((R.1 129 31).toNat) (v : Int)) 147 ((R.1 129 31).toNat) (F : Int)) 148 ((R.1 129 31).toNat) x3) 149 ((R.1 129 31).toNat) (R.1 129 12)) 129 31 ((R.1 129 31) + 1)) 135 r (R.1 129 12))) else none) else none) else none) else some ((-4), (w_put R 129 4 1))) else some ((-3), (w_put R 129 4 1)))) P) → Ok ((E_R_isRecord e N (r : Int) R).bind (fun q740 => (if q740.1 ≠ 0 then ((E_R_versionOn e N (r : Int) (q740.2.1 129 12) q740.2).bind (fun q741 => (if w_ib q741.1 400 = true then (if w_nb ((q741.2.1 138 q741.1.toNat) + (q741.2.1 139 q741.1.toNat)) = true then El_R_doLink e N N 0 [(r : Int), (F : Int), x3, q741.1, q741.2.1 138 q741.1.toNat, (q741.2.1 138 q741.1.toNat) + (q741.2.1 139 q741.1.toNat), 0] [] q741.2 else none) else none))) else some ((-1), (w_put q740.2 129 4 1))))) P := by
      intro P P2
      refine R0 (fun w => absurd w (by omega)) (fun k w w2 n' p' w3 w4 => ?_)
      have ek : k = F := by omega
      subst ek
      rw [hdd] at w3 w4
      rw [El_R_doLink, hn.1, t1]
      refine ok_t (by omega) (ok_e (by omega) (ok_e (by omega) (ok_e a3 (ok_e (by omega) (ok_b (ok_of (x_fieldEnd (by omega) w3) (ok_b ?_)))))))
      obtain ⟨z, z1, z2⟩ := x_firstA2 (e := e) (N := N) (by omega) (by omega) w3
      refine ok_of z1 ?_
      have P3 := P2 p' z z2
      dsimp only
      by_cases c : z < 0
      · rw [if_pos c] at P3 ⊢
        exact P3
      · rw [if_neg c] at P3 ⊢
        rw [hd]
        refine ok_b (ok_of lr ?_)
        dsimp only
        rw [show ((r : Int)).toNat = r by omega]
        exact P3
    dsimp only
    refine ok_b (ok_of lc ?_)
    dsimp only
    by_cases a5 : f.1 < 10 ∨ fsi 97 f.2.2.2 = none
    · have s0 : fsi 97 f.2.2.2 = none := by
        rcases a5 with a5 | a5
        · exact fsi_ctl hvf a5
        · exact a5
      have s1 : ∀ (p' : Nat) (z : Int), (((if f.1 < 10 then none else fsb 97 f.2.2.2) = none ∧ z = -1) ∨ ∃ k, (if f.1 < 10 then none else fsb 97 f.2.2.2) = some k ∧ z = ((p' + 6 + k : Nat) : Int)) → z < 0 := by
        intro p' z hz
        have := fsb_fsi 97 f.2.2.2
        rw [s0] at this
        have b0 : fsb 97 f.2.2.2 = none := by
          cases hb : fsb 97 f.2.2.2 with
          | none => rfl
          | some k => rw [hb] at this; cases this
        rw [b0, ite_self] at hz
        rcases hz with ⟨_, hz⟩ | ⟨k, hz, _⟩
        · omega
        · cases hz
      have sz1 : sz = -1 := by
        rcases slc with ⟨_, w⟩ | ⟨k, w, _⟩
        · exact w
        · rw [s0] at w; cases w
      subst sz1
      have fin : Ok ((E_R_isRecord e N (r : Int) R).bind (fun q740 => (if q740.1 ≠ 0 then ((E_R_versionOn e N (r : Int) (q740.2.1 129 12) q740.2).bind (fun q741 => (if w_ib q741.1 400 = true then (if w_nb ((q741.2.1 138 q741.1.toNat) + (q741.2.1 139 q741.1.toNat)) = true then El_R_doLink e N N 0 [(r : Int), (F : Int), x3, q741.1, q741.2.1 138 q741.1.toNat, (q741.2.1 138 q741.1.toNat) + (q741.2.1 139 q741.1.toNat), 0] [] q741.2 else none) else none))) else some ((-1), (w_put q740.2 129 4 1))))) (fun y' R1 => y' = -3 ∧ R1 = w_put R 129 4 1) := R1 (fun p' z hz => ok_t (s1 p' z hz) (ok_s ⟨rfl, rfl⟩))
      by_cases a6 : h0 = x3
      · refine ok_e (fun w => w a6) (ok_b (ok_of sl (ok_t rfl (ok_s (fin.mono ?_)))))
        intro y' R2 ⟨w1, w2⟩
        exact ⟨w1, Or.inl ⟨by decide, f1, w2⟩⟩
      · refine ok_t a6 (ok_b (ok_of sl (ok_t rfl (ok_s (fin.mono ?_)))))
        intro y' R2 ⟨w1, w2⟩
        exact ⟨w1, Or.inl ⟨by decide, f1, w2⟩⟩
    · have a7 : ¬ f.1 < 10 := fun w => a5 (Or.inl w)
      obtain ⟨j, hj⟩ : ∃ j, fsi 97 f.2.2.2 = some j := by
        cases hb : fsi 97 f.2.2.2 with
        | none => exact absurd (Or.inr hb) a5
        | some k => exact ⟨k, rfl⟩
      have s1 : ∀ (p' : Nat) (z : Int), (((if f.1 < 10 then none else fsb 97 f.2.2.2) = none ∧ z = -1) ∨ ∃ k, (if f.1 < 10 then none else fsb 97 f.2.2.2) = some k ∧ z = ((p' + 6 + k : Nat) : Int)) → ¬ z < 0 := by
        intro p' z hz
        have := fsb_fsi 97 f.2.2.2
        rw [hj] at this
        rw [if_neg a7] at hz
        rcases hz with ⟨w, _⟩ | ⟨k, _, w⟩
        · rw [w] at this; cases this
        · omega
      have sz1 : 0 ≤ sz := by
        rcases slc with ⟨w, _⟩ | ⟨k, _, w⟩
        · rw [hj] at w; cases w
        · omega
      by_cases a6 : h0 = x3
      · refine ok_e (fun w => w a6) (ok_b (ok_of sl (ok_e (by omega) (ok_s (R1 (fun p' z hz => ok_e (s1 p' z hz) (ok_e (fun w => w a6) (ok_s ?_))))))))
        exact ⟨rfl, Or.inl ⟨by decide, f1, rfl⟩⟩
      · refine ok_t a6 (ok_b (ok_of sl (ok_e (by omega) ?_)))
        dsimp only
        rw [t17, t27]
        by_cases a8 : S.1 17 7 < 300
        · refine ok_t a8 (ok_ib (by omega) (ok_nb (by omega) (ok_s (R1 (fun p' z hz => ok_e (s1 p' z hz) (ok_t a6 (ok_t (by omega) (ok_ib (by omega) (ok_nb (by omega) (ok_ib (by omega) (ok_s ?_)))))))))))
          rw [l1, hd]
          obtain ⟨m, hm⟩ : ∃ m : Nat, S.1 17 7 = m := ⟨(S.1 17 7).toNat, by omega⟩
          rw [hm, show ((m : Int)).toNat = m by omega]
          have gS : frm [6, 23, 24, 25, 26, 121, 122, 123, 124, 125, 126, 127] [17, 120] [(17, 7), (120, 0)] S (w_put (w_put (w_put (w_put (w_put (w_put T 23 m (v : Int)) 24 m (F : Int)) 25 m x3) 26 m (S.1 27 1)) 17 7 ((m : Int) + 1)) 6 r (S.1 27 1)) := by
            refine frm.trans (S' := T) (f1.wide ?_ ?_ ?_) (by repeat (first | exact frm.refl _ _ _ _ | refine frm.put ?_ rfl | refine frm.puto ?_ rfl rfl))
            · intro b h
              simp at h ⊢
              omega
            · intro b h
              simp at h ⊢
              omega
            · intro b j h
              simp at h ⊢
              omega
          have gR : frm [135, 146, 147, 148, 149] [129] [(129, 31)] R (w_put (w_put (w_put (w_put (w_put (w_put R 146 m (v : Int)) 147 m (F : Int)) 148 m x3) 149 m (S.1 27 1)) 129 31 ((m : Int) + 1)) 135 r (S.1 27 1)) := by repeat (first | exact frm.refl _ _ _ _ | refine frm.put ?_ rfl | refine frm.puto ?_ rfl rfl)
          refine ⟨rfl, Or.inr ⟨by decide, by omega, by omega, gS, gR, ?_, rfl, ?_⟩⟩
          · show pt (T.1 6) r (S.1 27 1) = _
            rw [f1.2.1 6 rfl rfl]
          · have T3 : T.1 23 = S.1 23 := f1.2.1 23 rfl rfl
            have T4 : T.1 24 = S.1 24 := f1.2.1 24 rfl rfl
            have T5 : T.1 25 = S.1 25 := f1.2.1 25 rfl rfl
            have T6 : T.1 26 = S.1 26 := f1.2.1 26 rfl rfl
            have E0 : ∀ k : Nat, (m = k ∨ (k : Int) < m) → k < m + 1 := fun k w => by omega
            refine ⟨rfl, by show (0 : Int) ≤ (m : Int) + 1; omega, by show (m : Int) + 1 ≤ 300; omega, ?_⟩
            intro k hk1
            have hk2 : k < m + 1 := by
              have : (k : Int) < (m : Int) + 1 := hk1
              omega
            show pt (R.1 146) m (v : Int) k = pt (T.1 23) m (v : Int) k ∧ pt (R.1 147) m (F : Int) k = pt (T.1 24) m (F : Int) k ∧ pt (R.1 148) m x3 k = pt (T.1 25) m x3 k ∧ pt (R.1 149) m (S.1 27 1) k = pt (T.1 26) m (S.1 27 1) k ∧ 0 ≤ pt (T.1 24) m (F : Int) k ∧ pt (T.1 24) m (F : Int) k ≤ 11 ∧ 0 ≤ pt (T.1 25) m x3 k ∧ pt (T.1 25) m x3 k ≤ T.1 17 0 ∧ pt (T.1 26) m (S.1 27 1) k ≤ T.1 27 1 ∧ (1 ≤ pt (T.1 25) m x3 k → ∃ j : Nat, (j : Int) < T.1 17 3 ∧ R.1 142 j = pt (T.1 25) m x3 k ∧ R.1 143 j ≤ pt (T.1 26) m (S.1 27 1) k)
            rw [t17, t27, T3, T4, T5, T6]
            by_cases ek : k = m
            · subst ek
              simp only [pt_at]
              simp only [if_pos]
              refine ⟨trivial, trivial, trivial, trivial, by omega, by omega, by omega, a4, by omega, ?_⟩
              intro w
              obtain ⟨n1, n2, n3, n4, n5, n6, n7, n8⟩ := hn
              obtain ⟨y1, y2⟩ := n7 x3.toNat (by omega) (by omega)
              rcases gk_spec (fun k => decide (R.1 142 k = ((x3.toNat : Nat) : Int))) (S.1 17 3).toNat with ⟨z1, _⟩ | ⟨j, z1, z2, z3, _⟩
              · omega
              · refine ⟨j, by omega, ?_, ?_⟩
                · have := of_decide_eq_true z3
                  omega
                · exact (n8 j (by omega)).2.2.2.1
            · simp only [pt_at]
              simp only [if_neg ek]
              exact l4 k (by omega)
        · refine ok_e a8 (ok_s (R1 (fun p' z hz => ok_e (s1 p' z hz) (ok_t a6 (ok_e (fun w => w (by omega)) (ok_s ?_))))))
          exact ⟨rfl, Or.inl ⟨by decide, f1, rfl⟩⟩
  · have ir := x_isRec0 (e := e) (N := N) hG ok
    have rr : Ok ((E_R_isRecord e N x1 R).bind (fun q740 => (if q740.1 ≠ 0 then ((E_R_versionOn e N x1 (q740.2.1 129 12) q740.2).bind (fun q741 => (if w_ib q741.1 400 = true then (if w_nb ((q741.2.1 138 q741.1.toNat) + (q741.2.1 139 q741.1.toNat)) = true then El_R_doLink e N N 0 [x1, x2, x3, q741.1, q741.2.1 138 q741.1.toNat, (q741.2.1 138 q741.1.toNat) + (q741.2.1 139 q741.1.toNat), 0] [] q741.2 else none) else none))) else some ((-1), (w_put q740.2 129 4 1))))) (fun y' R1 => y' = -1 ∧ R1 = w_put R 129 4 1) := by
      refine ok_b (ok_of ir (ok_e (fun w => w rfl) (ok_s ⟨rfl, rfl⟩)))
    have fin := rr.mono (Q := fun y' R1 => y' = -1 ∧ (((-1 : Int) < 0 ∧ frm [121, 122, 123, 124, 125, 126, 127] [120] [(120, 0)] S S ∧ R1 = w_put R 129 4 1) ∨ (0 ≤ (-1 : Int) ∧ 1 ≤ x1 ∧ x1 ≤ n ∧ frm [6, 23, 24, 25, 26, 121, 122, 123, 124, 125, 126, 127] [17, 120] [(17, 7), (120, 0)] S S ∧ frm [135, 146, 147, 148, 149] [129] [(129, 31)] R R1 ∧ S.1 6 = pt (S.1 6) x1.toNat (S.1 27 1) ∧ R1.1 135 = pt (R.1 135) x1.toNat (S.1 27 1) ∧ RelLk S R1))) (fun y' R2 w => ⟨w.1, Or.inl ⟨by decide, frm.refl _ _ _ _, w.2⟩⟩)
    by_cases a1 : x1 < 1
    · exact ok_t a1 (ok_s fin)
    · refine ok_e a1 ?_
      by_cases a2 : S.1 3 0 < x1
      · exact ok_t a2 (ok_s fin)
      · refine ok_e a2 (ok_ib (by omega) ?_)
        exact ok_t (fun w => ok ⟨by omega, by omega, w⟩) (ok_s fin)
end
section
-- dz
/-- the name that a heading has on a day: its number -/
def nmk (R : w_S) (h d : Int) (n : Nat) : Int := gk (fun j => decide (R.1 142 j = h) && decide (R.1 143 j ≤ d)) n
theorem gk_and {P Q : Nat → Bool} : ∀ n, 0 ≤ gk (fun k => P k && Q k) n → 0 ≤ gk P n := by
  intro n h
  rcases gk_spec (fun k => P k && Q k) n with ⟨h1, _⟩ | ⟨j, h1, h2, h3, _⟩
  · omega
  · simp only [Bool.and_eq_true] at h3
    exact gk_pos h1 h3.1
theorem l_nmC {e : w_E} {N V : Nat} {S R : w_S} {d h : Int} (hV : V ≤ 240) (h8 : ∀ v, v < V → S.1 20 v = gk (fun j => decide (R.1 142 j = R.1 142 v)) v ∧ S.1 21 v = R.1 143 v) : ∀ (m nf x4 : Nat), m ≤ V → m < nf → x4 + m ≤ 240 → 0 ≤ nmk R h d m → El_Authority_nameOn e N nf 0 [d, gk (fun j => decide (R.1 142 j = h)) m, (x4 : Int)] [] S = some (S.1 22 (nmk R h d m).toNat, S)
  | _, 0, _, _, h, _, _ => by omega
  | 0, nf + 1, x4, _, _, _, g => by
    rw [nmk, gk] at g
    omega
  | m + 1, nf + 1, x4, g1, g2, g3, g4 => by
    have nk : nmk R h d (m + 1) = if (decide (R.1 142 m = h) && decide (R.1 143 m ≤ d)) = true then (m : Int) else nmk R h d m := rfl
    have gk1 : gk (fun j => decide (R.1 142 j = h)) (m + 1) = if decide (R.1 142 m = h) = true then (m : Int) else gk (fun j => decide (R.1 142 j = h)) m := rfl
    rw [nk] at g4 ⊢
    rw [gk1]
    by_cases c : R.1 142 m = h
    · rw [decide_eq_true c, Bool.true_and] at g4 ⊢
      rw [if_pos rfl]
      refine ok_eq ?_
      rw [El_Authority_nameOn]
      obtain ⟨a1, a2⟩ := h8 m (by omega)
      rw [show ((m : Int)).toNat = m by omega, a1, a2, c]
      refine ok_e (by omega) (ok_ib (by omega) ?_)
      by_cases c2 : R.1 143 m ≤ d
      · refine ok_t c2 (ok_s ⟨?_, rfl⟩)
        rw [decide_eq_true c2, if_pos rfl, show ((m : Int)).toNat = m by omega]
      · rw [decide_eq_false c2, if_neg (show ¬ (false = true) by decide)] at g4
        have ih := l_nmC (e := e) (N := N) (d := d) hV h8 m nf (x4 + 1) (by omega) (by omega) (by omega) g4
        have g5 := gk_and m g4
        refine ok_e c2 (ok_e (by omega) (ok_nb (by omega) (ok_of ih ⟨?_, rfl⟩)))
        rw [decide_eq_false c2, if_neg (show ¬ (false = true) by decide)]
    · rw [decide_eq_false c, Bool.false_and, if_neg (show ¬ (false = true) by decide)] at g4 ⊢
      rw [if_neg (show ¬ (false = true) by decide)]
      exact l_nmC (e := e) (N := N) (d := d) hV h8 m (nf + 1) x4 (by omega) (by omega) (by omega) g4
theorem x_nmC {e : w_E} {N : Nat} {S R : w_S} {top d h : Int} (hN : 1000 ≤ N) (hn : RelNm S R top) (h1 : 1 ≤ h) (h2 : h ≤ S.1 17 0) (hk : 0 ≤ nmk R h d (S.1 17 3).toNat) : E_Authority_nameOn e N h d S = some (S.1 22 (nmk R h d (S.1 17 3).toNat).toNat, S) := by
  obtain ⟨n1, n2, n3, n4, n5, n6, n7, n8⟩ := hn
  have key := l_nmC (e := e) (N := N) (V := (S.1 17 3).toNat) (S := S) (R := R) (d := d) (h := h) (by omega) (fun v hv => ⟨(n8 v (by omega)).1, (n8 v (by omega)).2.1⟩) (S.1 17 3).toNat N 0 (by omega) (by omega) (by omega) hk
  have e1 := (n7 h.toNat (by omega) (by omega)).1
  rw [show ((h.toNat : Nat) : Int) = h by omega] at e1
  rw [← e1] at key
  refine ok_eq ?_
  unfold E_Authority_nameOn
  exact ok_ib (by omega) (ok_of key ⟨rfl, rfl⟩)
theorem x_nmR {e : w_E} {N : Nat} {S R : w_S} {top d h : Int} (hN : 1000 ≤ N) (hn : RelNm S R top) : E_R_nameOn e N h d R = some (nmk R h d (S.1 17 3).toNat, R) := by
  obtain ⟨n1, n2, n3, n4, n5, n6, n7, n8⟩ := hn
  have key := l_nameOn (e := e) (N := N) (R := R) (h := h) (d := d) (S.1 17 3).toNat N (by omega) (by omega)
  rw [show (((S.1 17 3).toNat : Nat) : Int) = S.1 17 3 by omega] at key
  refine ok_eq ?_
  unfold E_R_nameOn
  rw [n4]
  exact ok_nb (by omega) (ok_of key ⟨rfl, rfl⟩)
/-- a name's bytes -/
def nmb (R : w_S) (k : Nat) : List Int := (List.range (R.1 144 k).toNat).map (fun j => R.1 145 (40 * k + j))
theorem nmb_len (R : w_S) (k : Nat) : (nmb R k).length = (R.1 144 k).toNat := by
  unfold nmb
  rw [List.length_map, List.length_range]
theorem nmb_get (R : w_S) {k j : Nat} (h : j < (R.1 144 k).toNat) : (nmb R k).getD j 0 = R.1 145 (40 * k + j) := by
  unfold nmb
  rw [List.getD_eq_getElem?_getD, List.getElem?_map, List.getElem?_range h]
  rfl
theorem nmb_byt (R : w_S) (k : Nat) : byt (R.1 145) (40 * k) (nmb R k) := byt_of (fun j hj => by
  rw [nmb_len] at hj
  rw [nmb_get R hj])
theorem nmb_v {S R : w_S} {top : Int} {k : Nat} (h : RelNm S R top) (hk : (k : Int) < S.1 17 3) : vrow (nmb R k) ∧ Rw (S.1 2) top (S.1 22 k) (nmb R k).length (fun u => (nmb R k).getD u 0) := by
  obtain ⟨n1, n2, n3, n4, n5, n6, n7, n8⟩ := h
  obtain ⟨_, _, _, _, _, _, m, m1, m2, m3, m4, m5⟩ := n8 k hk
  have e1 : (R.1 144 k).toNat = m := by omega
  refine ⟨⟨by rw [nmb_len]; omega, by rw [nmb_len]; omega, fun b hb => ?_⟩, ?_⟩
  · unfold nmb at hb
    obtain ⟨j, hj, rfl⟩ := List.mem_map.mp hb
    exact m5 j (by have := List.mem_range.mp hj; omega)
  · rw [nmb_len, e1]
    refine m4.up (Int.le_refl _) (fun j hj => ?_)
    rw [nmb_get R (by omega)]
/-- a field with a name laid into its first subfield a -/
def rpl (r : List Int) : List Sfl → List Sfl
  | [] => []
  | s :: l => if s.1 = 97 then (s.1, r) :: l else s :: rpl r l
def lyf (r : Option (List Int)) (f : Fdl) : Fdl := match r with
  | none => f
  | some r => (f.1, f.2.1, f.2.2.1, rpl r f.2.2.2)
def lyd (nm : Nat → Option (List Int)) : Nat → List Fdl → List Fdl
  | _, [] => []
  | i, f :: l => lyf (nm i) f :: lyd nm (i + 1) l
theorem rpl_len (r : List Int) : ∀ l : List Sfl, (rpl r l).length = l.length
  | [] => rfl
  | s :: l => by
    rw [rpl]
    split
    · rfl
    · rw [List.length_cons, List.length_cons, rpl_len r l]
theorem rpl_none (r : List Int) : ∀ l : List Sfl, fsi 97 l = none → rpl r l = l
  | [], _ => rfl
  | s :: l, h => by
    rw [fsi] at h
    rw [rpl]
    by_cases c : s.1 = 97
    · rw [if_pos c] at h; cases h
    · rw [if_neg c] at h
      rw [if_neg c, rpl_none r l (by cases h2 : fsi 97 l with | none => rfl | some k => rw [h2] at h; cases h)]
theorem rpl_get (r : List Int) : ∀ (l : List Sfl) (k j : Nat), fsi 97 l = some k → j < l.length → (rpl r l).getD j (0, []) = if j = k then ((l.getD j (0, [])).1, r) else l.getD j (0, [])
  | [], _, _, h, _ => by cases h
  | s :: l, k, j, h, hj => by
    rw [fsi] at h
    rw [rpl]
    by_cases c : s.1 = 97
    · rw [if_pos c] at h ⊢
      cases h
      cases j with
      | zero => rfl
      | succ j => rw [if_neg (by omega)]; rfl
    · rw [if_neg c] at h ⊢
      cases h2 : fsi 97 l with
      | none => rw [h2] at h; cases h
      | some k' =>
        rw [h2, Option.map_some, Option.some.injEq] at h
        subst h
        cases j with
        | zero => rw [if_neg (by omega)]; rfl
        | succ j =>
          have := rpl_get r l k' j h2 (by rw [List.length_cons] at hj; omega)
          rw [List.getD_cons_succ, List.getD_cons_succ, this]
          by_cases e : j = k'
          · rw [if_pos e, if_pos (by omega)]
          · rw [if_neg e, if_neg (by omega)]
theorem rpl_mem {r : List Int} : ∀ {l : List Sfl} {s : Sfl}, s ∈ rpl r l → ∃ t, t ∈ l ∧ s.1 = t.1 ∧ (s = t ∨ s.2 = r)
  | [], s, h => by cases h
  | t :: l, s, h => by
    rw [rpl] at h
    by_cases c : t.1 = 97
    · rw [if_pos c] at h
      rcases List.mem_cons.mp h with h | h
      · rw [h]; exact ⟨t, List.mem_cons_self, rfl, Or.inr rfl⟩
      · exact ⟨s, List.mem_cons_of_mem _ h, rfl, Or.inl rfl⟩
    · rw [if_neg c] at h
      rcases List.mem_cons.mp h with h | h
      · rw [h]; exact ⟨t, List.mem_cons_self, rfl, Or.inl rfl⟩
      · obtain ⟨u, u1, u2, u3⟩ := rpl_mem h
        exact ⟨u, List.mem_cons_of_mem _ u1, u2, u3⟩
theorem lyf_v {r : Option (List Int)} {f : Fdl} (h : vfd f) (hr : ∀ x, r = some x → vrow x) : vfd (lyf r f) := by
  cases r with
  | none => exact h
  | some x =>
    have hx := hr x rfl
    obtain ⟨h1, h2, h3, h4, h5⟩ := h
    refine ⟨h1, h2, fun s hs => ?_, fun c => ?_, fun c => ?_⟩
    · obtain ⟨t, t1, t2, t3⟩ := rpl_mem hs
      rcases t3 with t3 | t3
      · rw [t3]; exact h3 t t1
      · rw [t3]; exact hx
    · obtain ⟨a, b, r', hr'⟩ := h4 c
      refine ⟨a, b, r', ?_⟩
      show rpl x f.2.2.2 = _
      rw [hr']
      rfl
    · obtain ⟨a, b, hc, hd⟩ := h5 c
      refine ⟨a, b, fun w => hc ?_, fun s hs => ?_⟩
      · have := rpl_len x f.2.2.2
        have w' : rpl x f.2.2.2 = [] := w
        rw [w'] at this
        exact List.length_eq_zero_iff.mp this.symm
      · obtain ⟨t, t1, t2, t3⟩ := rpl_mem hs
        rw [t2]
        exact hd t t1
theorem lyd_len (nm : Nat → Option (List Int)) : ∀ (l : List Fdl) (i : Nat), (lyd nm i l).length = l.length
  | [], _ => rfl
  | f :: l, i => by rw [lyd, List.length_cons, List.length_cons, lyd_len nm l (i + 1)]
theorem lyd_get (nm : Nat → Option (List Int)) : ∀ (l : List Fdl) (i k : Nat), k < l.length → (lyd nm i l).getD k (0, 0, 0, []) = lyf (nm (i + k)) (l.getD k (0, 0, 0, []))
  | [], _, _, h => absurd h (by rw [List.length_nil]; omega)
  | f :: l, i, k, h => by
    cases k with
    | zero => rfl
    | succ k =>
      rw [lyd, List.getD_cons_succ, List.getD_cons_succ, lyd_get nm l (i + 1) k (by rw [List.length_cons] at h; omega), show i + 1 + k = i + (k + 1) by omega]
theorem lyd_mem {nm : Nat → Option (List Int)} : ∀ {l : List Fdl} {i : Nat} {f : Fdl}, f ∈ lyd nm i l → ∃ g k, g ∈ l ∧ f = lyf (nm k) g
  | [], _, _, h => by cases h
  | g :: l, i, f, h => by
    rw [lyd] at h
    rcases List.mem_cons.mp h with h | h
    · exact ⟨g, i, List.mem_cons_self, h⟩
    · obtain ⟨g', k, h1, h2⟩ := lyd_mem h
      exact ⟨g', k, List.mem_cons_of_mem _ h1, h2⟩
theorem lyf_sub {r : Option (List Int)} {f : Fdl} : (lyf r f).2.2.2.length = f.2.2.2.length := by
  cases r with
  | none => rfl
  | some x => exact rpl_len x _
end
section
-- e0
/-- bytes are put behind the page -/
def Pgd (S : w_S) (l : List Int) (S1 : w_S) : Prop := frm [150] [129] [(129, 37)] S S1 ∧ S1.1 129 37 = S.1 129 37 + (l.length : Nat) ∧ (∀ j : Nat, (j : Int) < S.1 129 37 → S1.1 150 j = S.1 150 j) ∧ byt (S1.1 150) (S.1 129 37).toNat l
theorem Pgd.trans {S S1 S2 : w_S} {l m : List Int} (h0 : 0 ≤ S.1 129 37) (h : Pgd S l S1) (k : Pgd S1 m S2) : Pgd S (l ++ m) S2 := by
  obtain ⟨a1, a2, a3, a4⟩ := h
  obtain ⟨b1, b2, b3, b4⟩ := k
  refine ⟨a1.trans b1, by rw [b2, a2, List.length_append]; omega, fun j hj => by rw [b3 j (by omega), a3 j hj], ?_⟩
  rw [byt_app]
  rw [a2, show (S.1 129 37 + ((l.length : Nat) : Int)).toNat = (S.1 129 37).toNat + l.length by omega] at b4
  exact ⟨byt_congr a4 (fun k hk => b3 _ (by omega)), b4⟩
theorem Pgd.nil (S : w_S) : Pgd S [] S := ⟨frm.refl _ _ _ _, by rw [List.length_nil]; omega, fun _ _ => rfl, trivial⟩
theorem l_ctp {e : w_E} {N a1 n1 : Nat} (h150 : a1 ≠ 150) (h129 : a1 ≠ 129) (hn : n1 < 2000000000) : ∀ (l : List Int) (p nf : Nat) (S : w_S), e_len Tr S a1 1 = some n1 → p + l.length ≤ n1 → byt (S.1 a1) p l → (∀ b, b ∈ l → 0 ≤ b ∧ b ≤ 127) → 0 ≤ S.1 129 37 → S.1 129 37 + (l.length : Nat) ≤ 4000 → l.length < nf → Ok (El_R_copyToPage e N nf 0 [((p + l.length : Nat) : Int), (p : Int)] [a1] S) (fun _ S1 => Pgd S l S1)
  | _, _, 0, _, _, _, _, _, _, _, h => by omega
  | [], p, nf + 1, S, g1, g2, g3, g4, g5, g6, g7 => by
    rw [El_R_copyToPage]
    exact ok_t (by rw [List.length_nil]; omega) (ok_s (Pgd.nil S))
  | b :: l, p, nf + 1, S, g1, g2, g3, g4, g5, g6, g7 => by
    rw [El_R_copyToPage]
    have hb := g4 b List.mem_cons_self
    rw [List.length_cons] at g2 g6 g7 ⊢
    have gb : S.1 a1 p = b := g3.1
    refine ok_e (by omega) (ok_len g1 ?_)
    show Ok (if 0 ≤ (p : Int) then (if (p : Int) < (n1 : Int) then (if w_ib (S.1 129 37) 4000 = true then (if w_nb ((S.1 129 37) + 1) = true then (if w_nb ((p : Int) + 1) = true then El_R_copyToPage e N nf 0 [((p + (l.length + 1) : Nat) : Int), (p : Int) + 1] [a1] (w_put (w_put S 150 ((S.1 129 37).toNat) (w_b (S.1 a1 ((p : Int)).toNat))) 129 37 ((S.1 129 37) + 1)) else none) else none) else none) else none) else none) _
    rw [show ((p : Int)).toNat = p by omega, gb, w_b_id (by omega) (by omega)]
    refine ok_t (by omega) (ok_t (by omega) (ok_ib (by omega) (ok_nb (by omega) (ok_nb (by omega) ?_))))
    generalize hS : w_put (w_put S 150 ((S.1 129 37).toNat) b) 129 37 ((S.1 129 37) + 1) = S2
    have p0 : Pgd S [b] S2 := by
      rw [← hS]
      refine ⟨by repeat (first | exact frm.refl _ _ _ _ | refine frm.put ?_ rfl | refine frm.puto ?_ rfl rfl), by simp only [w_put_r, reduceIte, Nat.reduceEqDiff, pt_at]; rfl, fun j hj => ?_, ?_, trivial⟩
      · show pt (S.1 150) _ b j = _
        rw [pt_at, if_neg (by omega)]
      · show pt (S.1 150) _ b _ = _
        rw [pt_at, if_pos rfl]
    have a2 : S2.1 a1 = S.1 a1 := p0.1.2.1 a1 (by simp only [List.contains_cons, List.contains_nil, Bool.or_false, beq_eq_false_iff_ne, ne_eq]; exact h150) (by simp only [List.contains_cons, List.contains_nil, Bool.or_false, beq_eq_false_iff_ne, ne_eq]; exact h129)
    have e2 := p0.2.1
    rw [List.length_singleton] at e2
    have ih := l_ctp (e := e) (N := N) h150 h129 hn l (p + 1) nf S2 (by rw [len_cg p0.1.1]; exact g1) (by omega) (by rw [a2]; exact g3.2) (fun b' h' => g4 b' (List.mem_cons_of_mem _ h')) (by omega) (by omega) (by omega)
    rw [show (p : Int) + 1 = ((p + 1 : Nat) : Int) by omega, show p + (l.length + 1) = p + 1 + l.length by omega]
    refine ih.mono (fun y S1 q => ?_)
    have := Pgd.trans g5 p0 q
    exact this
theorem x_ctp {e : w_E} {N a1 n1 p : Nat} {S : w_S} {x2 x3 : Int} (hN : 4001 ≤ N) (l : List Int) (h150 : a1 ≠ 150) (h129 : a1 ≠ 129) (hn : n1 < 2000000000) (g1 : e_len Tr S a1 1 = some n1) (g2 : p + l.length ≤ n1) (g3 : byt (S.1 a1) p l) (g4 : ∀ b, b ∈ l → 0 ≤ b ∧ b ≤ 127) (g5 : 0 ≤ S.1 129 37) (g6 : S.1 129 37 + (l.length : Nat) ≤ 4000) (e2 : x2 = (p : Int)) (e3 : x3 = ((p + l.length : Nat) : Int)) : Ok (E_R_copyToPage e N x2 x3 a1 S) (fun _ S1 => Pgd S l S1) := by
  subst e2 e3
  exact l_ctp h150 h129 hn l p N S g1 g2 g3 g4 g5 g6 (by omega)
theorem fsb_split {r : List Int} : ∀ {ss : List Sfl} {k : Nat}, fsb 97 ss = some k → ∃ pre s post, ss = pre ++ s :: post ∧ s.1 = 97 ∧ k = (pre.flatMap sb).length ∧ rpl r ss = pre ++ (s.1, r) :: post
  | [], k, h => by cases h
  | s :: ss, k, h => by
    rw [fsb] at h
    by_cases c : s.1 = 97
    · rw [if_pos c] at h
      cases h
      exact ⟨[], s, ss, rfl, c, rfl, by rw [rpl, if_pos c]; rfl⟩
    · rw [if_neg c] at h
      cases h2 : fsb 97 ss with
      | none => rw [h2] at h; cases h
      | some k' =>
        rw [h2, Option.map_some, Option.some.injEq] at h
        subst h
        obtain ⟨pre, t, post, h3, h4, h5, h6⟩ := fsb_split (r := r) h2
        refine ⟨s :: pre, t, post, by rw [h3]; rfl, h4, ?_, by rw [rpl, if_neg c, h6]; rfl⟩
        rw [List.flatMap_cons, List.length_append, h5]
end
