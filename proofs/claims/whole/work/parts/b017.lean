section
-- c6
theorem wl18 : wl 18 = [109, 117, 115, 116] := by decide
theorem wl19 : wl 19 = [109, 111, 115, 116, 32] := by decide
theorem wl20 : wl 20 = [111, 110, 99, 101] := by decide
theorem wl21 : wl 21 = [104, 97, 115, 32] := by decide
theorem x_checkText {e : w_E} {N to : Nat} {len q : Int} {G : Int → Int} {R : w_S} (hN : 2001 ≤ N) (hto : to ≤ 27) (h0 : 0 ≤ q) (hl : q ≤ len) (hR : TR R len G) : Ok (E_R_checkText e N q (to : Int) R) (fun y R1 => y = ckq G len q ∧ frm [192] [129] [(129, 3)] R R1 ∧ (0 ≤ y → R1.1 192 to = vl G q 3 ∧ R1.1 192 (to + 1) = ckd G (cks G q) ∧ (2 ≤ ckd G (cks G q) → R1.1 192 (to + 2) = ckv G len (cks G q) (ckd G (cks G q)))) ∧ ∀ j, j < to → R1.1 192 j = R.1 192 j) := by
  have lb : len ≤ 2000 := hR.2.2.1
  obtain ⟨x, hx1, hx2, hx3⟩ := x_tagText (e := e) (N := N) (lo := 1) hN hR h0 hl
  have pb : Bd len (pT G 1 q) := pT_bd hR.e ⟨by omega, by omega⟩
  unfold Bd at pb
  have qe : cks G q < 0 → ckq G len q = cks G q := fun z => by
    unfold ckq
    rw [if_pos z]
  have se : cks G q = pB G 32 (pT G 1 q) := rfl
  unfold E_R_checkText
  refine ok_b (ok_of hx1 ?_)
  dsimp only
  generalize pT G 1 q = p at *
  by_cases c : 0 ≤ p
  · have hx4 := hx2 c
    subst hx4
    refine ok_t c (ok_ib (by omega) ?_)
    have hR1 : ∀ t v, TR (w_put (w_put R 129 3 (vl G q 3)) 192 t v) len G := fun t v => (hR.put (Or.inr rfl) (by decide)).put (Or.inl (by decide)) (by decide)
    refine ok_b (ok_of (x_at (hR1 _ _) c) ?_)
    dsimp only
    rw [show (w_put R 129 3 (vl G q 3)).1 129 3 = vl G q 3 by simp only [w_put_r, reduceIte, Nat.reduceEqDiff, pt_at], show ((to : Int)).toNat = to by omega]
    by_cases c1 : G p = 32
    · have hlt := tr_lt hR c (by omega)
      rw [pB_y c c1] at se
      refine ok_t c1 (ok_nb (by omega) ?_)
      have qe2 : ckq G len q = pB G 10 (ckp G len (p + 1) (ckd G (p + 1))) := by
        unfold ckq
        rw [se, if_neg (by omega)]
      rw [qe2, se]
      clear qe qe2 se hx1 hx2 hx3
      have fr2 : frm [192] [129] [(129, 3)] R (w_put (w_put R 129 3 (vl G q 3)) 192 to (vl G q 3)) := by repeat (first | exact frm.refl _ _ _ _ | refine frm.put ?_ rfl | refine frm.puto ?_ rfl rfl)
      have v2 : (w_put (w_put R 129 3 (vl G q 3)) 192 to (vl G q 3)).1 192 to = vl G q 3 := by simp only [w_put_r, reduceIte, Nat.reduceEqDiff, pt_at]
      have k2 : ∀ j, j < to → (w_put (w_put R 129 3 (vl G q 3)) 192 to (vl G q 3)).1 192 j = R.1 192 j := fun j hj => by
        simp only [w_put_r, reduceIte, Nat.reduceEqDiff, pt_at]
        rw [if_neg (by omega)]
      have hR2 := hR1 to (vl G q 3)
      generalize w_put (w_put R 129 3 (vl G q 3)) 192 to (vl G q 3) = R2 at *
      clear hR1
      have hs0 : 0 ≤ p + 1 := by omega
      have hsl : p + 1 ≤ len := by omega
      generalize p + 1 = s at *
      refine ok_b (ok_of (x_at hR2 hs0) ?_)
      dsimp only
      refine ok_nb (by omega) (ok_ib (by omega) ?_)
      rw [show ((to : Int) + 2).toNat = to + 2 by omega, show ((to : Int) + 1).toNat = to + 1 by omega]
      have hR3 : ∀ v, TR (w_put (w_put R2 192 (to + 2) 0) 192 (to + 1) v) len G := fun v => (hR2.put (Or.inl (by decide)) (by decide)).put (Or.inl (by decide)) (by decide)
      have fin : ∀ (y v : Int) (R3 : w_S), (R3 = w_put (w_put R2 192 (to + 2) 0) 192 (to + 1) v ∨ ∃ u, R3 = w_put (w_put (w_put R2 192 (to + 2) 0) 192 (to + 1) v) 192 (to + 2) u ∨ ∃ t, R3 = w_put (w_put (w_put (w_put R2 192 (to + 2) 0) 192 (to + 1) v) 129 3 t) 192 (to + 2) u) → y = pB G 10 (ckp G len s (ckd G s)) → (0 ≤ y → v = ckd G s ∧ (2 ≤ ckd G s → R3.1 192 (to + 2) = ckv G len s (ckd G s))) → (fun y R1 => y = pB G 10 (ckp G len s (ckd G s)) ∧ frm [192] [129] [(129, 3)] R R1 ∧ (0 ≤ y → R1.1 192 to = vl G q 3 ∧ R1.1 192 (to + 1) = ckd G s ∧ (2 ≤ ckd G s → R1.1 192 (to + 2) = ckv G len s (ckd G s))) ∧ ∀ j, j < to → R1.1 192 j = R.1 192 j) y R3 := by
        intro y v R3 hr hy hv
        have fr3 : frm [192] [129] [(129, 3)] R R3 := by
          refine fr2.trans ?_
          rcases hr with rfl | ⟨u, rfl | ⟨t, rfl⟩⟩
          · repeat (first | exact frm.refl _ _ _ _ | refine frm.put ?_ rfl | refine frm.puto ?_ rfl rfl)
          · repeat (first | exact frm.refl _ _ _ _ | refine frm.put ?_ rfl | refine frm.puto ?_ rfl rfl)
          · repeat (first | exact frm.refl _ _ _ _ | refine frm.put ?_ rfl | refine frm.puto ?_ rfl rfl)
        have w1 : R3.1 192 to = vl G q 3 ∧ R3.1 192 (to + 1) = v ∧ ∀ j, j < to → R3.1 192 j = R.1 192 j := by
          rcases hr with rfl | ⟨u, rfl | ⟨t, rfl⟩⟩
          · simp only [w_put_r, reduceIte, Nat.reduceEqDiff, pt_at]
            refine ⟨?_, trivial, fun j hj => ?_⟩
            · rw [if_neg (by omega), if_neg (by omega)]
              exact v2
            · rw [if_neg (by omega), if_neg (by omega)]
              exact k2 j hj
          · simp only [w_put_r, reduceIte, Nat.reduceEqDiff, pt_at]
            refine ⟨?_, ?_, fun j hj => ?_⟩
            · rw [if_neg (by omega), if_neg (by omega), if_neg (by omega)]
              exact v2
            · rw [if_neg (by omega)]
            · rw [if_neg (by omega), if_neg (by omega), if_neg (by omega)]
              exact k2 j hj
          · simp only [w_put_r, reduceIte, Nat.reduceEqDiff, pt_at]
            refine ⟨?_, ?_, fun j hj => ?_⟩
            · rw [if_neg (by omega), if_neg (by omega), if_neg (by omega)]
              exact v2
            · rw [if_neg (by omega)]
            · rw [if_neg (by omega), if_neg (by omega), if_neg (by omega)]
              exact k2 j hj
        refine ⟨hy, fr3, fun z => ⟨w1.1, ?_, (hv z).2⟩, w1.2.2⟩
        rw [w1.2.1]
        exact (hv z).1
      by_cases a1 : G s = 109
      · refine ok_e (by omega) (ok_nb (by omega) (ok_b (ok_of (x_at (hR2.put (Or.inl (by decide)) (by decide)) (by omega)) ?_)))
        dsimp only
        by_cases a2 : G (s + 1) = 117
        · have kd : ckd G s = 0 := by
            unfold ckd
            rw [if_pos a1, if_pos a2]
          have pe : ckp G len s 0 = pL G (wl 18) s := by
            rw [wl18]
            rfl
          rw [kd, pe] at fin
          have hlit := x_lit6 (e := e) (N := N) hN (hR3 0) hs0 (by omega)
          have lbd := pL_bd hR.e (wl 18) (q := s) (by decide) ⟨by omega, by omega⟩
          unfold Bd at lbd
          rw [kd, pe]
          generalize pL G (wl 18) s = u at *
          refine ok_e (by omega) (ok_nb (by omega) (ok_ib (by omega) (ok_b (ok_of hlit ?_))))
          dsimp only
          by_cases b1 : 0 ≤ u
          · refine ok_t b1 (ok_b (ok_of (x_at (hR3 0) b1) ?_))
            dsimp only
            by_cases b2 : G u = 10
            · refine ok_e (by omega) (ok_nb (by omega) (ok_s (fin _ 0 _ (Or.inl rfl) (pB_y b1 b2).symm (fun _ => ⟨rfl, fun z => by omega⟩))))
            · refine ok_t b2 (ok_nb (by omega) (ok_s (fin _ 0 _ (Or.inl rfl) (pB_n b1 b2).symm (fun _ => ⟨rfl, fun z => by omega⟩))))
          · refine ok_e b1 (ok_s (fin _ 0 _ (Or.inl rfl) (pB_neg (by omega)).symm (fun _ => ⟨rfl, fun z => by omega⟩)))
        · have kd : ckd G s = 3 := by
            unfold ckd
            rw [if_pos a1, if_neg a2]
          have pe : ckp G len s 3 = pN G len 1 40 (pL G (wl 19) s) := by
            rw [wl19]
            rfl
          have ve : ckv G len s 3 = vl G (pL G (wl 19) s) (nd G (len - pL G (wl 19) s).toNat (pL G (wl 19) s)) := by
            rw [wl19]
            rfl
          rw [kd, pe, ve] at fin
          have hlit := x_lit5 (e := e) (N := N) hN (hR3 3) hs0 (by omega)
          have lbd := pL_bd hR.e (wl 19) (q := s) (by decide) ⟨by omega, by omega⟩
          rw [kd, pe, ve]
          generalize pL G (wl 19) s = u at *
          have nbd := pN_bd (G := G) (lo := 1) (hi := 40) lbd
          unfold Bd at lbd nbd
          refine ok_t a2 (ok_nb (by omega) (ok_ib (by omega) (ok_b (ok_of hlit ?_))))
          dsimp only
          by_cases b1 : 0 ≤ u
          · have hn := x_numeral (e := e) (lo := 1) (hi := 40) hN (hR3 3) b1 (by omega)
            generalize hvv : vl G u (nd G (len - u).toNat u) = vv at *
            generalize pN G len 1 40 u = t at *
            by_cases b2 : 0 ≤ t
            · rw [if_pos b2] at hn
              refine ok_t b1 (ok_b (ok_of hn ?_))
              dsimp only
              refine ok_t b2 ?_
              have hR4 : TR (w_put (w_put (w_put (w_put R2 192 (to + 2) 0) 192 (to + 1) 3) 129 3 vv) 192 (to + 2) ((w_put (w_put (w_put R2 192 (to + 2) 0) 192 (to + 1) 3) 129 3 vv).1 129 3)) len G := ((hR3 3).put (Or.inr rfl) (by decide)).put (Or.inl (by decide)) (by decide)
              refine ok_b (ok_of (x_at hR4 b2) ?_)
              dsimp only
              by_cases b3 : G t = 10
              · refine ok_e (by omega) (ok_nb (by omega) (ok_s (fin _ 3 _ (Or.inr ⟨_, Or.inr ⟨_, rfl⟩⟩) (pB_y b2 b3).symm (fun _ => ⟨rfl, fun _ => ?_⟩))))
                simp only [w_put_r, reduceIte, Nat.reduceEqDiff, pt_at]
              · refine ok_t b3 (ok_nb (by omega) (ok_s (fin _ 3 _ (Or.inr ⟨_, Or.inr ⟨_, rfl⟩⟩) (pB_n b2 b3).symm (fun _ => ⟨rfl, fun _ => ?_⟩))))
                simp only [w_put_r, reduceIte, Nat.reduceEqDiff, pt_at]
            · rw [if_neg b2] at hn
              refine ok_t b1 (ok_b (ok_of hn ?_))
              dsimp only
              refine ok_e b2 (ok_s (fin _ 3 _ (Or.inr ⟨_, Or.inl rfl⟩) (pB_neg (by omega)).symm (fun z => by omega)))
          · rw [pN_neg (by omega)] at fin ⊢
            refine ok_e b1 (ok_s (fin _ 3 _ (Or.inr ⟨_, Or.inl rfl⟩) (pB_neg (by omega)).symm (fun z => by omega)))
      · refine ok_t a1 ?_
        by_cases a2 : G s = 111
        · have kd : ckd G s = 1 := by
            unfold ckd
            rw [if_neg a1, if_pos a2]
          have pe : ckp G len s 1 = pL G (wl 20) s := by
            rw [wl20]
            rfl
          rw [kd, pe] at fin
          have hlit := x_lit4 (e := e) (N := N) hN (hR3 1) hs0 (by omega)
          have lbd := pL_bd hR.e (wl 20) (q := s) (by decide) ⟨by omega, by omega⟩
          unfold Bd at lbd
          rw [kd, pe]
          generalize pL G (wl 20) s = u at *
          refine ok_e (by omega) (ok_nb (by omega) (ok_ib (by omega) (ok_b (ok_of hlit ?_))))
          dsimp only
          by_cases b1 : 0 ≤ u
          · refine ok_t b1 (ok_b (ok_of (x_at (hR3 1) b1) ?_))
            dsimp only
            by_cases b2 : G u = 10
            · refine ok_e (by omega) (ok_nb (by omega) (ok_s (fin _ 1 _ (Or.inl rfl) (pB_y b1 b2).symm (fun _ => ⟨rfl, fun z => by omega⟩))))
            · refine ok_t b2 (ok_nb (by omega) (ok_s (fin _ 1 _ (Or.inl rfl) (pB_n b1 b2).symm (fun _ => ⟨rfl, fun z => by omega⟩))))
          · refine ok_e b1 (ok_s (fin _ 1 _ (Or.inl rfl) (pB_neg (by omega)).symm (fun _ => ⟨rfl, fun z => by omega⟩)))
        · have kd : ckd G s = 2 := by
            unfold ckd
            rw [if_neg a1, if_neg a2]
          have pe : ckp G len s 2 = pP cdb G (pL G (wl 21) s) := by
            rw [wl21]
            rfl
          have ve : ckv G len s 2 = G (pL G (wl 21) s) := by
            rw [wl21]
            rfl
          rw [kd, pe, ve] at fin
          have hlit := x_lit3 (e := e) (N := N) hN (hR3 2) hs0 (by omega)
          have lbd := pL_bd hR.e (wl 21) (q := s) (by decide) ⟨by omega, by omega⟩
          unfold Bd at lbd
          rw [kd, pe, ve]
          generalize pL G (wl 21) s = u at *
          refine ok_t a2 (ok_nb (by omega) (ok_ib (by omega) (ok_b (ok_of hlit ?_))))
          dsimp only
          by_cases b1 : 0 ≤ u
          · refine ok_t b1 ?_
            have hx := x_at (e := e) (N := N) (hR3 2) b1
            have hb := hR.b b1
            have hR4 : ∀ v, TR (w_put (w_put (w_put R2 192 (to + 2) 0) 192 (to + 1) 2) 192 (to + 2) v) len G := fun v => (hR3 2).put (Or.inl (by decide)) (by decide)
            by_cases b2 : cdb (G u) = true
            · have b3 := cdb_iff.1 b2
              have hx' := x_at (e := e) (N := N) (hR4 (G u)) (show 0 ≤ u + 1 by omega)
              have f1 : ∀ y, y = pB G 10 (u + 1) → _ := fun y hy => fin y 2 (w_put (w_put (w_put R2 192 (to + 2) 0) 192 (to + 1) 2) 192 (to + 2) (G u)) (Or.inr ⟨_, Or.inl rfl⟩) (by rw [hy]; unfold pP; rw [if_neg (by omega), if_pos b2]) (fun _ => ⟨rfl, fun _ => by simp only [w_put_r, reduceIte, Nat.reduceEqDiff, pt_at]⟩)
              clear fin b2
              by_cases b4 : G (u + 1) = 10
              · have f2 := f1 _ (pB_y (by omega) b4).symm
                clear f1
                rcases b3 with b3 | b3
                all_goals
                  repeat' (first | (with_reducible refine ok_of hx ?_; dsimp only) | (with_reducible refine ok_of hx' ?_; dsimp only) | with_reducible refine ok_nb (by omega) ?_ | with_reducible refine ok_ib (by omega) ?_ | with_reducible refine ok_t (by omega) ?_ | with_reducible refine ok_e (by omega) ?_ | with_reducible refine ok_if (fun h => ?_) (fun h => ?_) | with_reducible refine ok_s ?_ | with_reducible refine ok_b ?_)
                  all_goals first | (exfalso; omega) | exact f2
              · have f2 := f1 _ (pB_n (by omega) b4).symm
                clear f1
                rcases b3 with b3 | b3
                all_goals
                  repeat' (first | (with_reducible refine ok_of hx ?_; dsimp only) | (with_reducible refine ok_of hx' ?_; dsimp only) | with_reducible refine ok_nb (by omega) ?_ | with_reducible refine ok_ib (by omega) ?_ | with_reducible refine ok_t (by omega) ?_ | with_reducible refine ok_e (by omega) ?_ | with_reducible refine ok_if (fun h => ?_) (fun h => ?_) | with_reducible refine ok_s ?_ | with_reducible refine ok_b ?_)
                  all_goals first | (exfalso; omega) | exact f2
            · have b3 : ¬ ((97 ≤ G u ∧ G u ≤ 122) ∨ (48 ≤ G u ∧ G u ≤ 57)) := fun z => b2 (cdb_iff.2 z)
              have f2 := fin (-1 - u) 2 _ (Or.inl rfl) (by unfold pP; rw [if_neg (by omega), if_neg b2, pB_neg (by omega)]) (fun z => by omega)
              clear fin b2
              repeat' (first | (with_reducible refine ok_of hx ?_; dsimp only) | with_reducible refine ok_nb (by omega) ?_ | with_reducible refine ok_ib (by omega) ?_ | with_reducible refine ok_t (by omega) ?_ | with_reducible refine ok_e (by omega) ?_ | with_reducible refine ok_if (fun h => ?_) (fun h => ?_) | with_reducible refine ok_s ?_ | with_reducible refine ok_b ?_)
              all_goals first | (exfalso; omega) | exact f2
          · rw [pP_neg (by omega)] at fin ⊢
            refine ok_e b1 (ok_s (fin _ 2 _ (Or.inl rfl) (pB_neg (by omega)).symm (fun z => by omega)))
    · rw [pB_n c c1] at se
      have := qe (by omega)
      refine ok_e c1 (ok_nb (by omega) (ok_s ⟨by omega, by repeat (first | exact frm.refl _ _ _ _ | refine frm.put ?_ rfl | refine frm.puto ?_ rfl rfl), fun z => by omega, fun j hj => ?_⟩))
      simp only [w_put_r, reduceIte, Nat.reduceEqDiff, pt_at]
      rw [if_neg (by omega)]
  · rw [pB_neg (by omega)] at se
    have := qe (by omega)
    refine ok_e c (ok_s ⟨by omega, ?_, fun z => by omega, fun j hj => ?_⟩)
    · rcases hx3 with rfl | rfl
      · exact frm.refl _ _ _ _
      · repeat (first | exact frm.refl _ _ _ _ | refine frm.put ?_ rfl | refine frm.puto ?_ rfl rfl)
    · rcases hx3 with rfl | rfl
      · rfl
      · simp only [w_put_r, reduceIte, Nat.reduceEqDiff, pt_at]
end
section
-- c7
theorem h_step2 {e : w_E} {N : Nat} (n i : Nat) (T : w_S) (hi : i ≤ 10) : El_RuleBook_readLines e N (n + 1) 0 [((2 : Nat) : Int), ((3 : Nat) : Int), (i : Int)] [] T = if 10 ≤ i then LnE e N ((2 : Nat) : Int) ((3 : Nat) : Int) (i : Int) T else if i = 0 then Ln2 e N 3 (i : Int) T (fun U => El_RuleBook_readLines e N n 0 [((2 : Nat) : Int), ((3 : Nat) : Int), (i : Int) + 1] [] U) else (E_Tape_peek e N T).bind (fun q => if q.1 = -1 then LnE e N ((2 : Nat) : Int) ((3 : Nat) : Int) (i : Int) q.2 else Ln2 e N 3 (i : Int) q.2 (fun U => El_RuleBook_readLines e N n 0 [((2 : Nat) : Int), ((3 : Nat) : Int), (i : Int) + 1] [] U)) := by
  rw [ln_step, if_pos (show w_ib ((2 : Nat) : Int) 5 = true from rfl)]
  have e1 : ((pg_sv.getD 1 []).getD (((2 : Nat) : Int)).toNat 0).toInt = 10 := rfl
  have e2 : w_nb ((i : Int) * ((3 : Nat) : Int)) = true := by
    rw [w_nbE]
    omega
  rw [e1, if_pos e2]
  by_cases c : 10 ≤ i
  · rw [if_pos c, if_pos (by omega)]
  · rw [if_neg c, if_neg (by omega)]
    by_cases c0 : i = 0
    · rw [if_pos c0, if_pos (by omega)]
      rfl
    · rw [if_neg c0, if_neg (by omega)]
      refine congrArg _ (funext (fun q => ?_))
      by_cases c1 : q.1 = -1
      · rw [if_pos c1, if_pos c1]
      · rw [if_neg c1, if_neg c1, if_pos e2]
        rfl
theorem l_doChecks {e : w_E} {N n : Nat} (hn : n ≤ 10) : ∀ (k j nf : Nat) (R : w_S), j + k = 3 * n → k < nf → El_R_doChecks e N nf 1 [(n : Int), (j : Int)] [] R = some ((n : Int), w_put (cpr R 192 191 j (3 * n)) 129 93 (n : Int))
  | _, _, 0, _, _, h => by omega
  | 0, j, nf + 1, R, h1, h2 => by
    refine ok_eq ?_
    rw [El_R_doChecks]
    have : j = 3 * n := by omega
    subst this
    rw [cpr_0]
    refine ok_nb (by omega) (ok_t (by omega) (ok_s ⟨rfl, rfl⟩))
  | k + 1, j, nf + 1, R, h1, h2 => by
    have ih := l_doChecks (e := e) (N := N) hn k (j + 1) nf (w_put R 191 j (R.1 192 j)) (by omega) (by omega)
    rw [cpr_s R (by decide) (by omega), show ((j + 1 : Nat) : Int) = (j : Int) + 1 by omega] at ih
    refine ok_eq ?_
    rw [El_R_doChecks]
    refine ok_nb (by omega) (ok_e (by omega) (ok_ib (by omega) (ok_nb (by omega) ?_)))
    exact ok_of ih ⟨rfl, rfl⟩
theorem h_doChecks {e : w_E} {N : Nat} {len : Int} {G : Int → Int} (nf i : Nat) (q : Int) (R : w_S) (hi : i ≤ 10) (hR : TR R len G) (h0 : 0 ≤ q) (hl : q ≤ len) : El_R_doChecks e N (nf + 1) 0 [q, (i : Int)] [] R = if 1 ≤ i ∧ len ≤ q then El_R_doChecks e N nf 1 [(i : Int), 0] [] R else if i = 10 then some (-999 + (-1 - q), w_put R 129 4 1) else (E_R_checkText e N q ((3 * i : Nat) : Int) R).bind (fun z => if 0 ≤ z.1 then (if w_nb ((i : Int) + 1) = true then El_R_doChecks e N nf 0 [z.1, ((i + 1 : Nat) : Int)] [] z.2 else none) else if w_nb (-999 + z.1) = true then some (-999 + z.1, w_put z.2 129 4 1) else none) := by
  have lb : len ≤ 2000 := hR.2.2.1
  have n1 : w_nb (3 * (i : Int)) = true := by rw [w_nbE]; omega
  have n3 : w_nb (-1 - q) = true := by rw [w_nbE]; omega
  have n4 : w_nb (-999 + (-1 - q)) = true := by rw [w_nbE]; omega
  rw [El_R_doChecks, hR.1, show ((3 * i : Nat) : Int) = 3 * (i : Int) by omega, show ((i + 1 : Nat) : Int) = (i : Int) + 1 by omega, if_pos n1, if_pos n3, if_pos n4]
  by_cases c : 1 ≤ i ∧ len ≤ q
  · rw [if_neg (show ¬ (i : Int) = 0 by omega), if_pos c.2, if_pos c]
  · rw [if_neg c]
    by_cases c1 : i = 10
    · rw [if_neg (show ¬ (i : Int) = 0 by omega), if_neg (show ¬ len ≤ q by omega), if_neg (show ¬ (i : Int) ≠ 10 by omega), if_pos c1]
    · rw [if_neg c1, if_pos (show (i : Int) ≠ 10 by omega)]
      by_cases c2 : (i : Int) = 0
      · rw [if_pos c2]
      · rw [if_neg c2, if_neg (show ¬ len ≤ q by omega)]
theorem h_doRetention {e : w_E} {N : Nat} {len : Int} {G : Int → Int} (nf i : Nat) (q : Int) (R : w_S) (hi : i ≤ 8) (hR : TR R len G) (h0 : 0 ≤ q) (hl : q ≤ len) : El_R_doRetention e N (nf + 1) 0 [q, (i : Int)] [] R = if 1 ≤ i ∧ len ≤ q then El_R_doRetention e N nf 1 [(i : Int), 0] [] R else if i = 8 then some (-999 + (-1 - q), w_put R 129 4 1) else (E_R_keepText e N q (i : Int) R).bind (fun z => if 0 ≤ z.1 then (if w_nb ((i : Int) + 1) = true then El_R_doRetention e N nf 0 [z.1, ((i + 1 : Nat) : Int)] [] z.2 else none) else if w_nb (-999 + z.1) = true then some (-999 + z.1, w_put z.2 129 4 1) else none) := by
  have lb : len ≤ 2000 := hR.2.2.1
  have n3 : w_nb (-1 - q) = true := by rw [w_nbE]; omega
  have n4 : w_nb (-999 + (-1 - q)) = true := by rw [w_nbE]; omega
  rw [El_R_doRetention, hR.1, show ((i + 1 : Nat) : Int) = (i : Int) + 1 by omega, if_pos n3, if_pos n4]
  by_cases c : 1 ≤ i ∧ len ≤ q
  · rw [if_neg (show ¬ (i : Int) = 0 by omega), if_pos c.2, if_pos c]
  · rw [if_neg c]
    by_cases c1 : i = 8
    · rw [if_neg (show ¬ (i : Int) = 0 by omega), if_neg (show ¬ len ≤ q by omega), if_neg (show ¬ (i : Int) ≠ 8 by omega), if_pos c1]
    · rw [if_neg c1, if_pos (show (i : Int) ≠ 8 by omega)]
      by_cases c2 : (i : Int) = 0
      · rw [if_pos c2]
      · rw [if_neg c2, if_neg (show ¬ len ≤ q by omega)]
end
section
-- c8
/-- what the checks are to both -/
def RelCk (S R : w_S)  : Prop := ∃ n : Nat, n ≤ 10 ∧ S.1 35 2 = n ∧ R.1 129 93 = n ∧ ∀ i, i < n → R.1 191 (3 * i) = S.1 32 (3 * i) ∧ R.1 191 (3 * i + 1) = S.1 32 (3 * i + 1) ∧ 1 ≤ S.1 32 (3 * i) ∧ S.1 32 (3 * i) ≤ 999 ∧ 0 ≤ S.1 32 (3 * i + 1) ∧ S.1 32 (3 * i + 1) ≤ 3 ∧ (2 ≤ S.1 32 (3 * i + 1) → R.1 191 (3 * i + 2) = S.1 32 (3 * i + 2) ∧ 1 ≤ S.1 32 (3 * i + 2) ∧ S.1 32 (3 * i + 2) ≤ 127)
theorem RelCk.fr {S R S1 R1 : w_S}  {L O L' O' : List Nat} {J J' : List (Nat × Nat)} (h : RelCk S R ) (hf : frm L O J S S1) (hg : frm L' O' J' R R1) (dd : (ckA L O [32] && (ckS L J [(35, 2)] && (ckA L' O' [191] && ckS L' J' [(129, 93)]))) = true) : RelCk S1 R1  := by
  have d := ck4 dd
  have a0 : S1.1 32 = S.1 32 := hf.2.1 32 (d.1 32 (by decide)).1 (d.1 32 (by decide)).2
  have b0 : S1.1 35 2 = S.1 35 2 := hf.2.2 35 2 (d.2.1 (35, 2) (by decide)).1 (d.2.1 (35, 2) (by decide)).2
  have g0 : R1.1 191 = R.1 191 := hg.2.1 191 (d.2.2.1 191 (by decide)).1 (d.2.2.1 191 (by decide)).2
  have k0 : R1.1 129 93 = R.1 129 93 := hg.2.2 129 93 (d.2.2.2 (129, 93) (by decide)).1 (d.2.2.2 (129, 93) (by decide)).2
  unfold RelCk at h ⊢
  simp only [a0, b0, g0, k0]
  exact h
theorem ckq_bd {G : Int → Int} {len : Int} (hG : ∀ p, len ≤ p → G p = -1) (q : Int) (h : Bd len q) : Bd len (ckq G len q) := by
  have b1 : Bd len (cks G q) := pB_bd hG (by decide) (pT_bd hG h)
  have kb := ckd_bd G (cks G q)
  unfold ckq
  generalize cks G q = s at *
  split
  · exact b1
  · refine pB_bd hG (by decide) ?_
    have hw : ∀ c, c ∈ ckw (ckd G s) → 0 ≤ c := by
      intro c hc
      unfold ckw at hc
      have : ∀ l : List Int, l.all (fun x => decide (0 ≤ x)) = true → c ∈ l → 0 ≤ c := fun l hl hm => by
        rw [List.all_eq_true] at hl
        exact of_decide_eq_true (hl c hm)
      split at hc
      · exact this _ (by decide) hc
      · split at hc
        · exact this _ (by decide) hc
        · split at hc
          · exact this _ (by decide) hc
          · exact this _ (by decide) hc
    have b2 := pL_bd hG (ckw (ckd G s)) hw b1
    unfold ckp
    split
    · exact b2
    · split
      · exact pP_bd hG (by decide) (pB_bd hG (by decide) b2)
      · exact pN_bd (pB_bd hG (by decide) b2)
theorem pT_v {G : Int → Int} {lo q : Int} (h : 0 ≤ pT G lo q) : lo ≤ vl G q 3 ∧ vl G q 3 ≤ 999 := by
  unfold pT at h
  split at h
  · omega
  · split at h
    · omega
    · split at h
      · omega
      · rename_i h1 h2 h3
        have : nd G 3 q = 3 := by
          have := nd_le G 3 q
          omega
        have hd : ∀ j : Nat, j < 3 → dgt (G (q + j)) = true := by
          rw [nd] at this
          split at this
          · rename_i d1
            rw [nd] at this
            split at this
            · rename_i d2
              rw [nd] at this
              split at this
              · rename_i d3
                intro j hj
                have jj : j = 0 ∨ j = 1 ∨ j = 2 := by omega
                rcases jj with rfl | rfl | rfl
                · rw [show q + ((0 : Nat) : Int) = q by omega]
                  exact d1
                · exact d2
                · rw [show q + ((2 : Nat) : Int) = q + 1 + 1 by omega]
                  exact d3
              · omega
            · omega
          · omega
        have vb := vl_b (G := G) (p := q) 3 hd
        omega
theorem ckv_bd {G : Int → Int} {len q : Int} (h : 0 ≤ ckq G len q) : 0 ≤ cks G q ∧ 1 ≤ vl G q 3 ∧ vl G q 3 ≤ 999 ∧ (2 ≤ ckd G (cks G q) → 1 ≤ ckv G len (cks G q) (ckd G (cks G q)) ∧ ckv G len (cks G q) (ckd G (cks G q)) ≤ 127) := by
  unfold ckq at h
  have kb := ckd_bd G (cks G q)
  by_cases c : cks G q < 0
  · rw [if_pos c] at h
    omega
  · rw [if_neg c] at h
    have c0 : 0 ≤ pB G 32 (pT G 1 q) := Int.not_lt.1 c
    have t1 := pT_v (pB_ge c0).1
    refine ⟨by omega, t1.1, t1.2, fun z => ?_⟩
    have h1 := (pB_ge h).1
    generalize cks G q = s at *
    generalize ckd G s = k at *
    unfold ckp at h1
    unfold ckv
    rw [if_neg (by omega)] at h1
    by_cases d : k = 2
    · rw [if_pos d] at h1 ⊢
      have := cdb_iff.1 (pP_ge h1).2.1
      omega
    · rw [if_neg d] at h1 ⊢
      have := pN_v h1
      omega
theorem t_checks {e : w_E} {N : Nat} {S R : w_S} {f len : Int} {G : Int → Int} (hN : 2001 ≤ N) (h : TX S f len G) (hr : TR R len G) (h4 : S.1 1 4 = f) (h6 : S.1 1 6 = -1) : Ok (E_RuleBook_readLines e N 2 S) (fun y S1 => Ok (E_R_doChecks e N R) (fun y' R1 => Pt R (fun S1 R1 => frm [36] [1, 37] [(1, 4), (1, 6), (37, 0)] S S1 ∧ frm [192] [129] [(129, 3), (129, 4)] R R1) (fun S1 R1 => frm [32, 36] [1, 35, 37] [(1, 4), (1, 6), (35, 2), (37, 0)] S S1 ∧ frm [191, 192] [129] [(129, 3), (129, 93)] R R1 ∧ RelCk S1 R1) y S1 y' R1)) := by
  have hl := hr.2.1
  have e0 : w_put S 37 0 0 = tp (w_arr (w_put S 37 0 0) 36 ((w_put S 37 0 0).1 36)) f (-1) := by
    rw [arr_self]
    have k := tp_self (w_put S 37 0 0)
    have k1 : (w_put S 37 0 0).1 1 4 = f := by
      simp only [w_put_r, w_arr_r, reduceIte, Nat.reduceEqDiff, pt_at]
      exact h4
    have k2 : (w_put S 37 0 0).1 1 6 = -1 := by
      simp only [w_put_r, w_arr_r, reduceIte, Nat.reduceEqDiff, pt_at]
      exact h6
    rw [k1, k2] at k
    exact k.symm
  have hw : TX (w_put S 37 0 0) f len G := h.put (by decide) (by decide)
  have ha : At f len f (-1) 0 := ⟨by omega, by omega, Or.inl ⟨rfl, by omega⟩⟩
  have hb : ∀ q, Bd len q → Bd len (ckq G len q) := fun q hq => ckq_bd hr.e q hq
  have lb : len ≤ 2000 := hr.2.2.1
  have key := l_lines (e := e) (N := N) (c := 2) (M := 10) (W := 3) (P := fun q => ckq G len q) (V := fun q i g => g (3 * i) = vl G q 3 ∧ g (3 * i + 1) = ckd G (cks G q) ∧ (2 ≤ ckd G (cks G q) → g (3 * i + 2) = ckv G len (cks G q) (ckd G (cks G q)))) (Ln := fun i T K => Ln2 e N 3 (i : Int) T K) hw (by decide) (by decide) (fun n i T hi => h_step2 n i T hi) (fun i g a w q K Q hi ha' _ hk => x_ln2 hN hw ha' hi hk) (fun q i g g' hv hg => by rw [show g' (3 * i) = g (3 * i) from hg 0 (by omega), hg 1 (by omega), hg 2 (by omega)]; exact hv) (fun q q0 q1 => by have := hb q ⟨by omega, q1⟩; unfold Bd at this; omega) 10 0 N ((w_put S 37 0 0).1 36) f (-1) 0 (by decide) (by omega) ha (by omega) rfl (fun j hj => by omega)
  have rp := rdl_pos (P := fun q => ckq G len q) (len := len) 10 0 0 (by omega)
  have hE : E_RuleBook_readLines e N 2 S = El_RuleBook_readLines e N N 0 [((2 : Nat) : Int), ((3 : Nat) : Int), ((0 : Nat) : Int)] [] (w_put S 37 0 0) := by
    unfold E_RuleBook_readLines
    rw [if_pos (show w_ib (2 : Int) 5 = true from rfl), show ((pg_sv.getD 0 []).getD (2 : Int).toNat 0).toInt = 3 from rfl]
    rfl
  rw [← e0] at key
  rw [hE]
  clear hE e0
  refine key.mono (fun y S1 z => ?_)
  clear key
  obtain ⟨g', a', w', z⟩ := z
  unfold E_R_doChecks
  refine r_lines (M := 10) (c := 40) (len := len) (G := G) (P := fun q => ckq G len q) (LL := [192]) (OO := [129]) (JJ := [(129, 3)]) (V := fun q i R => R.1 192 (3 * i) = vl G q 3 ∧ R.1 192 (3 * i + 1) = ckd G (cks G q) ∧ (2 ≤ ckd G (cks G q) → R.1 192 (3 * i + 2) = ckv G len (cks G q) (ckd G (cks G q)))) (L := fun nf q i R => El_R_doChecks e N nf 0 [q, (i : Int)] [] R) (T := fun q i R => E_R_checkText e N q ((3 * i : Nat) : Int) R) (F := fun nf i R => El_R_doChecks e N nf 1 [(i : Int), 0] [] R) (by decide) hb (by decide) (fun nf i q R a b c d => h_doChecks nf i q R a b c d) (fun q i R a b c d => ?_) 10 0 N 0 R (by decide) (by omega) hr (by omega) hl rfl (fun j hj => by omega) (fun d R1 d1 d2 d3 => ?_) (fun n m R1 d1 d2 d3 d4 => ?_)
  · refine (x_checkText (e := e) (N := N) (to := 3 * i) hN (by omega) c d b).mono (fun y R1 z => ⟨z.1, z.2.1, z.2.2.1, fun j p hj hv => ?_⟩)
    have z4 := z.2.2.2
    rw [z4 (3 * j) (by omega), z4 (3 * j + 1) (by omega), z4 (3 * j + 2) (by omega)]
    exact hv
  · rw [← d1, if_neg (by omega)] at z
    refine ⟨by rw [z.1], Or.inl ⟨by omega, ⟨?_, ?_⟩, rfl⟩⟩
    · rw [z.2]
      unfold tp
      repeat (first | exact frm.refl _ _ _ _ | refine frm.put ?_ rfl | refine frm.puto ?_ rfl rfl | refine frm.arr ?_ rfl)
    · have := d3.weak (L' := [192]) (O' := [129]) (J' := [(129, 3), (129, 4)]) (by decide)
      exact frm.puto this rfl rfl
  · have hqs := rdl_qs (P := fun q => ckq G len q) (len := len) 10 0 0 (by omega) rfl (by omega)
    rw [← d1] at z rp hqs
    rw [if_pos (by omega)] at z
    obtain ⟨z1, z2, z3, z4, z5⟩ := z
    subst z1
    have hcp := l_doChecks (e := e) (N := N) (n := n) (by omega) (3 * n) 0 m R1 (by omega) (by omega)
    refine ok_of hcp ?_
    have s30 : ∀ j, j < 3 * n → S1.1 32 j = g' j := fun j hj => by
      rw [z2, w_cpy_arr]
      unfold tp
      simp only [w_put_r, w_arr_r, reduceIte, Nat.reduceEqDiff, pt_at]
      rw [if_pos (by omega), show 0 + (j - 0) = j by omega]
    have r211 : ∀ j, j < 3 * n → (w_put (cpr R1 192 191 0 (3 * n)) 129 93 (n : Int)).1 191 j = R1.1 192 j := fun j hj => by
      unfold cpr
      simp only [w_put_r, w_arr_r, reduceIte, Nat.reduceEqDiff, pt_at]
      rw [if_pos (by omega)]
    refine ⟨rfl, Or.inr ⟨by omega, ⟨?_, ?_, n, by omega, ?_, ?_, fun i hi => ?_⟩, ?_⟩⟩
    · rw [z2, w_cpy_arr]
      unfold tp
      repeat (first | exact frm.refl _ _ _ _ | refine frm.put ?_ rfl | refine frm.puto ?_ rfl rfl | refine frm.arr ?_ rfl)
    · have := d3.weak (L' := [191, 192]) (O' := [129]) (J' := [(129, 3), (129, 93)]) (by decide)
      unfold cpr
      exact frm.puto (frm.arr this rfl) rfl rfl
    · rw [z2]
      simp only [w_put_r, w_arr_r, reduceIte, Nat.reduceEqDiff, pt_at]
    · simp only [w_put_r, w_arr_r, reduceIte, Nat.reduceEqDiff, pt_at]
    · have hp : 0 ≤ ckq G len (qs (fun q => ckq G len q) i) := hqs (i + 1) (by omega) (by omega)
      obtain ⟨k0, k1, k2⟩ := z5 i (by omega)
      obtain ⟨r0, r1, r2⟩ := d4 i (by omega)
      obtain ⟨b0, b1, b2, b3⟩ := ckv_bd hp
      have kb := ckd_bd G (cks G (qs (fun q => ckq G len q) i))
      rw [r211 (3 * i) (by omega), r211 (3 * i + 1) (by omega), r211 (3 * i + 2) (by omega), s30 (3 * i) (by omega), s30 (3 * i + 1) (by omega), s30 (3 * i + 2) (by omega), k0, k1, r0, r1]
      refine ⟨rfl, rfl, b1, b2, kb.1, kb.2, fun z => ?_⟩
      rw [k2 z, r2 z]
      exact ⟨rfl, b3 z⟩
    · unfold cpr
      simp only [w_put_r, w_arr_r, reduceIte, Nat.reduceEqDiff, pt_at]
      exact d3.2.2 129 4 rfl rfl
end
section
-- c9
theorem l_keep {e : w_E} {N i from0 to : Nat} {len : Int} {G : Int → Int} (hi : i < 8) (hto : (to : Int) ≤ len) (hft : from0 ≤ to) (hm : to ≤ from0 + 40) : ∀ (k j nf : Nat) (R : w_S), j + k = to → from0 ≤ j → k < nf → TR R len G → Ok (El_R_keepText e N nf 0 [(i : Int), (to : Int), (from0 : Int), (j : Int)] [] R) (fun y R1 => y = pB G 10 (to : Int) ∧ frm [200] [] [] R R1 ∧ (∀ u, j ≤ u → u < to → R1.1 200 (40 * i + (u - from0)) = w_b (R.1 130 u)) ∧ ∀ u, u < 40 * i + (j - from0) → R1.1 200 u = R.1 200 u)
  | _, _, 0, _, _, _, h, _ => by omega
  | 0, j, nf + 1, R, h1, h2, h3, hR => by
    have lb : len ≤ 2000 := hR.2.2.1
    have : j = to := by omega
    subst this
    rw [El_R_keepText]
    refine ok_t (by omega) (ok_b (ok_of (x_at hR (by omega)) ?_))
    dsimp only
    by_cases c : G (j : Int) = 10
    · exact ok_e (by omega) (ok_nb (by omega) (ok_s ⟨(pB_y (by omega) c).symm, frm.refl _ _ _ _, fun u a b => by omega, fun _ _ => rfl⟩))
    · exact ok_t c (ok_nb (by omega) (ok_s ⟨(pB_n (by omega) c).symm, frm.refl _ _ _ _, fun u a b => by omega, fun _ _ => rfl⟩))
  | k + 1, j, nf + 1, R, h1, h2, h3, hR => by
    have lb : len ≤ 2000 := hR.2.2.1
    have ih := l_keep (e := e) (N := N) (len := len) (G := G) hi hto hft hm k (j + 1) nf (w_put R 200 (40 * i + (j - from0)) (w_b (R.1 130 j))) (by omega) (by omega) (by omega) (hR.put (Or.inl (by decide)) (by decide))
    rw [show ((j + 1 : Nat) : Int) = (j : Int) + 1 by omega] at ih
    rw [El_R_keepText]
    refine ok_e (by omega) (ok_nb (by omega) (ok_nb (by omega) (ok_nb (by omega) (ok_ib (by omega) (ok_ib (by omega) (ok_nb (by omega) ?_))))))
    rw [show (40 * (i : Int) + (j : Int) - (from0 : Int)).toNat = 40 * i + (j - from0) by omega, show ((j : Int)).toNat = j by omega]
    refine ih.mono (fun y R1 z => ?_)
    obtain ⟨z1, z2, z3, z4⟩ := z
    refine ⟨z1, frm.trans (by repeat (first | exact frm.refl _ _ _ _ | refine frm.put ?_ rfl | refine frm.puto ?_ rfl rfl)) z2, fun u a b => ?_, fun u hu => ?_⟩
    · by_cases d : u = j
      · subst d
        rw [z4 _ (by omega)]
        simp only [w_put_r, reduceIte, Nat.reduceEqDiff, pt_at]
      · rw [z3 u (by omega) b]
        simp only [w_put_r, reduceIte, Nat.reduceEqDiff, pt_at]
    · rw [z4 u (by omega)]
      simp only [w_put_r, reduceIte, Nat.reduceEqDiff, pt_at]
      rw [if_neg (by omega)]
theorem row_eq {G : Int → Int} {q : Int} (h : 0 ≤ pB G 10 (pW G q)) : pV G q = pW G q ∧ nw rwb G 41 q = nw rwb G 40 q ∧ pW G q = q + (nw rwb G 40 q : Nat) ∧ 1 ≤ nw rwb G 40 q ∧ 0 ≤ q := by
  have h1 := pB_row G (b := 10) (by decide) q
  have h2 := h
  rw [h1] at h2
  obtain ⟨a1, a2, a3⟩ := pB_ge h
  obtain ⟨b1, b2, b3⟩ := pB_ge h2
  have e1 : pV G q = pW G q := by omega
  have c : ¬ q < 0 := by
    intro d
    unfold pW at a1
    rw [if_pos d] at a1
    omega
  have w1 : pW G q = q + (nw rwb G 40 q : Nat) ∧ 1 ≤ nw rwb G 40 q := by
    unfold pW at a1 ⊢
    rw [if_neg c] at a1 ⊢
    by_cases d : nw rwb G 40 q = 0
    · rw [if_pos d] at a1
      omega
    · rw [if_neg d]
      exact ⟨rfl, by omega⟩
  refine ⟨e1, ?_, w1.1, w1.2, by omega⟩
  unfold pV at b1 e1
  rw [if_neg c] at b1 e1
  by_cases d : nw rwb G 41 q = 0
  · rw [if_pos d] at b1
    omega
  · rw [if_neg d] at b1 e1
    by_cases d2 : nw rwb G 41 q = 41
    · rw [if_pos d2] at b1
      omega
    · rw [if_neg d2] at e1
      omega
theorem pV_bd {G : Int → Int} {len q : Int} (hG : ∀ p, len ≤ p → G p = -1) (h : Bd len q) : Bd len (pV G q) ∧ (0 ≤ pV G q → q ≤ pV G q ∧ pV G q ≤ q + 40) := by
  unfold Bd at h ⊢
  unfold pV
  by_cases c : q < 0
  · rw [if_pos c]
    omega
  · rw [if_neg c]
    have k := nw_len (P := rwb) (G := G) (len := len) (fun p hp => by rw [hG p hp]; rfl) 41 q (by omega)
    have := nw_le rwb G 41 q
    split
    · omega
    · split
      · rename_i d1 d2
        rw [d2] at k
        omega
      · omega
theorem pV_neg {G : Int → Int} {q : Int} (h : q < 0) : pV G q = q := by
  unfold pV
  rw [if_pos h]
theorem pW_neg {G : Int → Int} {q : Int} (h : q < 0) : pW G q = q := by
  unfold pW
  rw [if_pos h]
theorem x_keepText {e : w_E} {N i : Nat} {len q f : Int} {G : Int → Int} {R : w_S} (hN : 2001 ≤ N) (hi : i < 8) (h0 : 0 ≤ q) (hl : q ≤ len) (hR : TR R len G) : Ok (E_R_keepText e N q (i : Int) R) (fun y R1 => y = kpq3 G len q ∧ frm [199, 200] [129] [(129, 3)] R R1 ∧ (0 ≤ y → R1.1 199 (3 * i) = kpv G len f q 0 ∧ R1.1 199 (3 * i + 1) = kpv G len f q 1 ∧ R1.1 199 (3 * i + 2) = (nw rwb G 40 (kpq2 G len q) : Nat) ∧ ∀ k, k < nw rwb G 40 (kpq2 G len q) → R1.1 200 (40 * i + k) = w_b (R.1 130 ((kpq2 G len q).toNat + k))) ∧ (∀ j, j < 3 * i → R1.1 199 j = R.1 199 j) ∧ ∀ j, j < 40 * i → R1.1 200 j = R.1 200 j) := by
  have lb : len ≤ 2000 := hR.2.2.1
  obtain ⟨x, hx1, hx2, hx3⟩ := x_tagText (e := e) (N := N) (lo := 10) hN hR h0 hl
  have pb : Bd len (pT G 10 q) := pT_bd hR.e ⟨by omega, by omega⟩
  have e1 : kpq1 G len q = pB G 32 (pT G 10 q) := rfl
  have e2 : kpq2 G len q = pB G 32 (pN G len 0 50000 (kpq1 G len q)) := rfl
  have e3 : kpq3 G len q = pB G 10 (pV G (kpq2 G len q)) := (pB_row G (b := 10) (by decide) (kpq2 G len q))
  have e4 : kpq3 G len q = pB G 10 (pW G (kpq2 G len q)) := rfl
  have v0 : kpv G len f q 0 = vl G q 3 := rfl
  have v1 : kpv G len f q 1 = vl G (kpq1 G len q) (nd G (len - kpq1 G len q).toNat (kpq1 G len q)) := rfl
  have st2 : kpq2 G len q < 0 → kpq3 G len q = kpq2 G len q := fun z => by
    rw [e3, pV_neg z, pB_neg z]
  have st1 : kpq1 G len q < 0 → kpq3 G len q = kpq1 G len q := fun z => by
    have : kpq2 G len q = kpq1 G len q := by rw [e2, pN_neg z, pB_neg z]
    rw [st2 (by omega), this]
  unfold Bd at pb
  rw [v0, v1]
  unfold E_R_keepText
  refine ok_b (ok_of hx1 ?_)
  dsimp only
  generalize pT G 10 q = p at *
  by_cases c : 0 ≤ p
  · have hx4 := hx2 c
    subst hx4
    refine ok_t c (ok_nb (by omega) (ok_ib (by omega) ?_))
    have hR1 : ∀ t v, TR (w_put (w_put R 129 3 (vl G q 3)) 199 t v) len G := fun t v => (hR.put (Or.inr rfl) (by decide)).put (Or.inl (by decide)) (by decide)
    refine ok_b (ok_of (x_at (hR1 _ _) c) ?_)
    dsimp only
    rw [show (w_put R 129 3 (vl G q 3)).1 129 3 = vl G q 3 by simp only [w_put_r, reduceIte, Nat.reduceEqDiff, pt_at], show (3 * (i : Int)).toNat = 3 * i by omega]
    by_cases c1 : G p = 32
    · have hlt := tr_lt hR c (by omega)
      rw [pB_y c c1] at e1
      rw [e1] at e2 v1 ⊢
      refine ok_t c1 (ok_nb (by omega) ?_)
      have hn := x_numeral (e := e) (lo := 0) (hi := 50000) hN (hR1 (3 * i) (vl G q 3)) (show 0 ≤ p + 1 by omega) (by omega)
      have pb1 : Bd len (pN G len 0 50000 (p + 1)) := pN_bd ⟨by omega, by omega⟩
      unfold Bd at pb1
      generalize vl G (p + 1) (nd G (len - (p + 1)).toNat (p + 1)) = v at hn v1 ⊢
      generalize pN G len 0 50000 (p + 1) = p1 at hn pb1 e2
      by_cases d : 0 ≤ p1
      · rw [if_pos d] at hn
        refine ok_b (ok_of hn ?_)
        dsimp only
        refine ok_t d (ok_nb (by omega) (ok_ib (by omega) ?_))
        have hR2 : ∀ t x, TR (w_put (w_put (w_put (w_put R 129 3 (vl G q 3)) 199 (3 * i) (vl G q 3)) 129 3 v) 199 t x) len G := fun t x => ((hR1 _ _).put (Or.inr rfl) (by decide)).put (Or.inl (by decide)) (by decide)
        refine ok_b (ok_of (x_at (hR2 _ _) d) ?_)
        dsimp only
        rw [show (w_put (w_put (w_put R 129 3 (vl G q 3)) 199 (3 * i) (vl G q 3)) 129 3 v).1 129 3 = v by simp only [w_put_r, reduceIte, Nat.reduceEqDiff, pt_at], show (3 * (i : Int) + 1).toNat = 3 * i + 1 by omega]
        by_cases d1 : G p1 = 32
        · have hlt1 := tr_lt hR d (by omega)
          rw [pB_y d d1] at e2
          rw [e2] at e3 e4 ⊢
          have vb := pV_bd hR.e (show Bd len (p1 + 1) from ⟨by omega, by omega⟩)
          unfold Bd at vb
          refine ok_t d1 (ok_nb (by omega) (ok_b (ok_of (x_rowR hN (hR2 _ _) (by omega) (by omega)) ?_)))
          dsimp only
          by_cases b1 : 0 ≤ pV G (p1 + 1)
          · obtain ⟨t, ht⟩ : ∃ t : Nat, pV G (p1 + 1) = t := ⟨(pV G (p1 + 1)).toNat, by omega⟩
            obtain ⟨fr, hfr⟩ : ∃ fr : Nat, p1 + 1 = fr := ⟨(p1 + 1).toNat, by omega⟩
            refine ok_t b1 (ok_nb (by omega) (ok_nb (by omega) (ok_ib (by omega) ?_)))
            rw [show (3 * (i : Int) + 2).toNat = 3 * i + 2 by omega]
            have key := l_keep (e := e) (N := N) (i := i) (from0 := fr) (to := t) (len := len) (G := G) hi (by omega) (by omega) (by omega) (t - fr) fr N (w_put (w_put (w_put (w_put (w_put R 129 3 (vl G q 3)) 199 (3 * i) (vl G q 3)) 129 3 v) 199 (3 * i + 1) v) 199 (3 * i + 2) (pV G (p1 + 1) - (p1 + 1))) (by omega) (by omega) (by omega) ((hR2 _ _).put (Or.inl (by decide)) (by decide))
            rw [ht, hfr] at key
            rw [ht, hfr]
            refine key.mono (fun y R1 z => ?_)
            obtain ⟨z1, z2, z3, z4⟩ := z
            have fr1 := z2.weak (L' := [199, 200]) (O' := [129]) (J' := [(129, 3)]) (by decide)
            have k199 := z2.2.1 199 rfl rfl
            refine ⟨by rw [z1, e3, ht], frm.trans (by repeat (first | exact frm.refl _ _ _ _ | refine frm.put ?_ rfl | refine frm.puto ?_ rfl rfl)) fr1, fun hy => ?_, fun j hj => ?_, fun j hj => ?_⟩
            · have hy2 : 0 ≤ pB G 10 (pW G (p1 + 1)) := by
                rw [← e4, e3, ht, ← z1]
                exact hy
              obtain ⟨w1, w2, w3, w4, w5⟩ := row_eq hy2
              rw [k199]
              rw [hfr] at w1 w2 w3 w4
              rw [hfr] at ht
              refine ⟨?_, ?_, ?_, fun k hk => ?_⟩
              · simp only [w_put_r, reduceIte, Nat.reduceEqDiff, pt_at]
                rw [if_neg (by omega), if_neg (by omega)]
              · simp only [w_put_r, reduceIte, Nat.reduceEqDiff, pt_at]
                rw [if_neg (by omega)]
              · simp only [w_put_r, reduceIte, Nat.reduceEqDiff, pt_at]
                omega
              · have := z3 (fr + k) (by omega) (by omega)
                rw [show 40 * i + (fr + k - fr) = 40 * i + k by omega] at this
                rw [this, show ((fr : Int)).toNat + k = fr + k by omega]
                simp only [w_put_r, reduceIte, Nat.reduceEqDiff, pt_at]
            · rw [k199]
              simp only [w_put_r, reduceIte, Nat.reduceEqDiff, pt_at]
              rw [if_neg (by omega), if_neg (by omega), if_neg (by omega)]
            · rw [z4 j (by omega)]
              simp only [w_put_r, reduceIte, Nat.reduceEqDiff, pt_at]
          · have : kpq3 G len q = pV G (p1 + 1) := by rw [e3, pB_neg (by omega)]
            refine ok_e b1 (ok_s ⟨this.symm, by repeat (first | exact frm.refl _ _ _ _ | refine frm.put ?_ rfl | refine frm.puto ?_ rfl rfl), fun z => by omega, fun j hj => ?_, fun j hj => ?_⟩)
            · simp only [w_put_r, reduceIte, Nat.reduceEqDiff, pt_at]
              rw [if_neg (by omega), if_neg (by omega)]
            · simp only [w_put_r, reduceIte, Nat.reduceEqDiff, pt_at]
        · rw [pB_n d d1] at e2
          have := st2 (by omega)
          refine ok_e d1 (ok_nb (by omega) (ok_s ⟨by omega, by repeat (first | exact frm.refl _ _ _ _ | refine frm.put ?_ rfl | refine frm.puto ?_ rfl rfl), fun z => by omega, fun j hj => ?_, fun j hj => ?_⟩))
          · simp only [w_put_r, reduceIte, Nat.reduceEqDiff, pt_at]
            rw [if_neg (by omega), if_neg (by omega)]
          · simp only [w_put_r, reduceIte, Nat.reduceEqDiff, pt_at]
      · rw [if_neg d] at hn
        rw [pB_neg (by omega)] at e2
        have := st2 (by omega)
        refine ok_b (ok_of hn ?_)
        dsimp only
        refine ok_e d (ok_s ⟨by omega, by repeat (first | exact frm.refl _ _ _ _ | refine frm.put ?_ rfl | refine frm.puto ?_ rfl rfl), fun z => by omega, fun j hj => ?_, fun j hj => ?_⟩)
        · simp only [w_put_r, reduceIte, Nat.reduceEqDiff, pt_at]
          rw [if_neg (by omega)]
        · simp only [w_put_r, reduceIte, Nat.reduceEqDiff, pt_at]
    · rw [pB_n c c1] at e1
      have := st1 (by omega)
      refine ok_e c1 (ok_nb (by omega) (ok_s ⟨by omega, by repeat (first | exact frm.refl _ _ _ _ | refine frm.put ?_ rfl | refine frm.puto ?_ rfl rfl), fun z => by omega, fun j hj => ?_, fun j hj => ?_⟩))
      · simp only [w_put_r, reduceIte, Nat.reduceEqDiff, pt_at]
        rw [if_neg (by omega)]
      · simp only [w_put_r, reduceIte, Nat.reduceEqDiff, pt_at]
  · rw [pB_neg (by omega)] at e1
    have := st1 (by omega)
    refine ok_e c (ok_s ⟨by omega, ?_, fun z => by omega, fun j hj => ?_, fun j hj => ?_⟩)
    · rcases hx3 with rfl | rfl
      · exact frm.refl _ _ _ _
      · repeat (first | exact frm.refl _ _ _ _ | refine frm.put ?_ rfl | refine frm.puto ?_ rfl rfl)
    · rcases hx3 with rfl | rfl
      · rfl
      · simp only [w_put_r, reduceIte, Nat.reduceEqDiff, pt_at]
    · rcases hx3 with rfl | rfl
      · rfl
      · simp only [w_put_r, reduceIte, Nat.reduceEqDiff, pt_at]
end
section
-- ca
/-- a class's row that says so many bytes, below a place of the tape -/
def Rw (t : Nat → Int) (top x : Int) (m : Nat) (b : Nat → Int) : Prop := ∃ a : Nat, x = (a : Int) * 64 + m ∧ ((a + m : Nat) : Int) ≤ top ∧ ∀ k, k < m → t (a + k) = b k
/-- what retention lines are to both -/
def RelKp (S R : w_S) (top : Int) : Prop := ∃ n : Nat, n ≤ 8 ∧ S.1 35 3 = n ∧ R.1 129 104 = n ∧ ∀ i, i < n → R.1 197 (3 * i) = S.1 33 (3 * i) ∧ R.1 197 (3 * i + 1) = S.1 33 (3 * i + 1) ∧ 10 ≤ S.1 33 (3 * i) ∧ S.1 33 (3 * i) ≤ 999 ∧ 0 ≤ S.1 33 (3 * i + 1) ∧ S.1 33 (3 * i + 1) ≤ 50000 ∧ ∃ m : Nat, 1 ≤ m ∧ m ≤ 40 ∧ R.1 197 (3 * i + 2) = m ∧ Rw (S.1 2) top (S.1 33 (3 * i + 2)) m (fun k => R.1 198 (40 * i + k)) ∧ ∀ k, k < m → rwb (R.1 198 (40 * i + k)) = true
theorem RelKp.fr {S R S1 R1 : w_S} {top : Int} {L O L' O' : List Nat} {J J' : List (Nat × Nat)} (h : RelKp S R top) (hf : frm L O J S S1) (hg : frm L' O' J' R R1) (dd : (ckA L O [33, 2] && (ckS L J [(35, 3)] && (ckA L' O' [197, 198] && ckS L' J' [(129, 104)]))) = true) : RelKp S1 R1 top := by
  have d := ck4 dd
  have a0 : S1.1 33 = S.1 33 := hf.2.1 33 (d.1 33 (by decide)).1 (d.1 33 (by decide)).2
  have a1 : S1.1 2 = S.1 2 := hf.2.1 2 (d.1 2 (by decide)).1 (d.1 2 (by decide)).2
  have b0 : S1.1 35 3 = S.1 35 3 := hf.2.2 35 3 (d.2.1 (35, 3) (by decide)).1 (d.2.1 (35, 3) (by decide)).2
  have g0 : R1.1 197 = R.1 197 := hg.2.1 197 (d.2.2.1 197 (by decide)).1 (d.2.2.1 197 (by decide)).2
  have g1 : R1.1 198 = R.1 198 := hg.2.1 198 (d.2.2.1 198 (by decide)).1 (d.2.2.1 198 (by decide)).2
  have k0 : R1.1 129 104 = R.1 129 104 := hg.2.2 129 104 (d.2.2.2 (129, 104) (by decide)).1 (d.2.2.2 (129, 104) (by decide)).2
  unfold RelKp at h ⊢
  simp only [a0, a1, b0, g0, g1, k0]
  exact h
/-- the bytes of a text are the same in both -/
def TB (S R : w_S) (f len : Int) : Prop := ∀ p : Nat, (p : Int) < len → R.1 130 p = S.1 2 (f.toNat + p) ∧ -128 ≤ R.1 130 p ∧ R.1 130 p ≤ 127
theorem w_b_id {x : Int} (h1 : -128 ≤ x) (h2 : x ≤ 127) : w_b x = x := by
  unfold w_b
  omega
theorem l_doKeep2 {e : w_E} {N n : Nat} (hn : n ≤ 8) : ∀ (k j nf : Nat) (R : w_S), j + k = 40 * n → k < nf → (∀ u, u < 40 * n → w_b (R.1 200 u) = R.1 200 u ∨ True) → Ok (El_R_doRetention e N nf 2 [(n : Int), (j : Int)] [] R) (fun y R1 => y = n ∧ frm [198] [129] [(129, 104)] R R1 ∧ R1.1 129 104 = n ∧ (∀ u, j ≤ u → u < 40 * n → R1.1 198 u = w_b (R.1 200 u)) ∧ ∀ u, u < j → R1.1 198 u = R.1 198 u)
  | _, _, 0, _, _, h, _ => by omega
  | 0, j, nf + 1, R, h1, h2, _ => by
    rw [El_R_doRetention]
    refine ok_nb (by omega) (ok_t (by omega) (ok_s ⟨rfl, by repeat (first | exact frm.refl _ _ _ _ | refine frm.put ?_ rfl | refine frm.puto ?_ rfl rfl), by simp only [w_put_r, reduceIte, Nat.reduceEqDiff, pt_at], fun u a b => by omega, fun u hu => by simp only [w_put_r, reduceIte, Nat.reduceEqDiff, pt_at]⟩))
  | k + 1, j, nf + 1, R, h1, h2, _ => by
    have ih := l_doKeep2 (e := e) (N := N) hn k (j + 1) nf (w_put R 198 j (w_b (R.1 200 j))) (by omega) (by omega) (fun _ _ => Or.inr trivial)
    rw [show ((j + 1 : Nat) : Int) = (j : Int) + 1 by omega] at ih
    rw [El_R_doRetention]
    refine ok_nb (by omega) (ok_e (by omega) (ok_ib (by omega) (ok_nb (by omega) ?_)))
    refine ih.mono (fun y R1 z => ?_)
    obtain ⟨z1, z2, z3, z4, z5⟩ := z
    refine ⟨z1, frm.trans (by repeat (first | exact frm.refl _ _ _ _ | refine frm.put ?_ rfl | refine frm.puto ?_ rfl rfl)) z2, z3, fun u a b => ?_, fun u hu => ?_⟩
    · by_cases d : u = j
      · subst d
        rw [z5 u (by omega)]
        simp only [w_put_r, reduceIte, Nat.reduceEqDiff, pt_at]
      · rw [z4 u (by omega) b]
        simp only [w_put_r, reduceIte, Nat.reduceEqDiff, pt_at]
    · rw [z5 u (by omega)]
      simp only [w_put_r, reduceIte, Nat.reduceEqDiff, pt_at]
      rw [if_neg (by omega)]
theorem l_doKeep1 {e : w_E} {N n : Nat} (hn : n ≤ 8) : ∀ (k j nf : Nat) (R : w_S), j + k = 3 * n → k + 330 < nf → Ok (El_R_doRetention e N nf 1 [(n : Int), (j : Int)] [] R) (fun y R1 => y = n ∧ frm [197, 198] [129] [(129, 104)] R R1 ∧ R1.1 129 104 = n ∧ (∀ u, j ≤ u → u < 3 * n → R1.1 197 u = R.1 199 u) ∧ (∀ u, u < j → R1.1 197 u = R.1 197 u) ∧ ∀ u, u < 40 * n → R1.1 198 u = w_b (R.1 200 u))
  | _, _, 0, _, _, h => by omega
  | 0, j, nf + 1, R, h1, h2 => by
    have key := l_doKeep2 (e := e) (N := N) hn (40 * n) 0 nf R (by omega) (by omega) (fun _ _ => Or.inr trivial)
    rw [El_R_doRetention]
    refine ok_nb (by omega) (ok_t (by omega) (key.mono (fun y R1 z => ?_)))
    obtain ⟨z1, z2, z3, z4, z5⟩ := z
    have k197 := z2.2.1 197 rfl rfl
    exact ⟨z1, z2.weak (by decide), z3, fun u a b => by omega, fun u hu => by rw [k197], fun u hu => z4 u (by omega) hu⟩
  | k + 1, j, nf + 1, R, h1, h2 => by
    have ih := l_doKeep1 (e := e) (N := N) hn k (j + 1) nf (w_put R 197 j (R.1 199 j)) (by omega) (by omega)
    rw [show ((j + 1 : Nat) : Int) = (j : Int) + 1 by omega] at ih
    rw [El_R_doRetention]
    refine ok_nb (by omega) (ok_e (by omega) (ok_ib (by omega) (ok_nb (by omega) ?_)))
    refine ih.mono (fun y R1 z => ?_)
    obtain ⟨z1, z2, z3, z4, z5, z6⟩ := z
    refine ⟨z1, frm.trans (by repeat (first | exact frm.refl _ _ _ _ | refine frm.put ?_ rfl | refine frm.puto ?_ rfl rfl)) z2, z3, fun u a b => ?_, fun u hu => ?_, fun u hu => ?_⟩
    · by_cases d : u = j
      · subst d
        rw [z5 u (by omega)]
        simp only [w_put_r, reduceIte, Nat.reduceEqDiff, pt_at]
      · rw [z4 u (by omega) b]
        simp only [w_put_r, reduceIte, Nat.reduceEqDiff, pt_at]
    · rw [z5 u (by omega)]
      simp only [w_put_r, reduceIte, Nat.reduceEqDiff, pt_at]
      rw [if_neg (by omega)]
    · rw [z6 u hu]
      simp only [w_put_r, reduceIte, Nat.reduceEqDiff, pt_at]
theorem kpq_bd {G : Int → Int} {len : Int} (hG : ∀ p, len ≤ p → G p = -1) (q : Int) (h : Bd len q) : Bd len (kpq3 G len q) := by
  have e3 : kpq3 G len q = pB G 10 (pV G (kpq2 G len q)) := (pB_row G (b := 10) (by decide) (kpq2 G len q))
  rw [e3]
  exact pB_bd hG (by decide) (pV_bd hG (pB_bd hG (by decide) (pN_bd (pB_bd hG (by decide) (pT_bd hG h))))).1
theorem nw_all {P : Int → Bool} {G : Int → Int} : ∀ (k : Nat) (p : Int) (j : Nat), j < nw P G k p → P (G (p + j)) = true
  | 0, p, j, h => by
    rw [nw] at h
    omega
  | k + 1, p, j, h => by
    rw [nw] at h
    split at h
    · rename_i c
      rcases j with _ | j
      · rw [show p + ((0 : Nat) : Int) = p by omega]
        exact c
      · have := nw_all (P := P) (G := G) k (p + 1) j (by omega)
        rw [show p + ((j + 1 : Nat) : Int) = p + 1 + j by omega]
        exact this
    · omega
theorem t_retention {e : w_E} {N : Nat} {S R : w_S} {f len : Int} {G : Int → Int} (hN : 2001 ≤ N) (h : TX S f len G) (hr : TR R len G) (h4 : S.1 1 4 = f) (h6 : S.1 1 6 = -1) (hB : TB S R f len) : Ok (E_RuleBook_readLines e N 3 S) (fun y S1 => Ok (E_R_doRetention e N R) (fun y' R1 => Pt R (fun S1 R1 => frm [36] [1, 37] [(1, 4), (1, 6), (37, 0)] S S1 ∧ frm [199, 200] [129] [(129, 3), (129, 4)] R R1) (fun S1 R1 => frm [33, 36] [1, 35, 37] [(1, 4), (1, 6), (35, 3), (37, 0)] S S1 ∧ frm [197, 198, 199, 200] [129] [(129, 3), (129, 104)] R R1 ∧ RelKp S1 R1 (f + len)) y S1 y' R1)) := by
  have hl := hr.2.1
  have hf0 := h.2.2.1
  have hx := h
  have e0 : w_put S 37 0 0 = tp (w_arr (w_put S 37 0 0) 36 ((w_put S 37 0 0).1 36)) f (-1) := by
    rw [arr_self]
    have k := tp_self (w_put S 37 0 0)
    have k1 : (w_put S 37 0 0).1 1 4 = f := by
      simp only [w_put_r, w_arr_r, reduceIte, Nat.reduceEqDiff, pt_at]
      exact h4
    have k2 : (w_put S 37 0 0).1 1 6 = -1 := by
      simp only [w_put_r, w_arr_r, reduceIte, Nat.reduceEqDiff, pt_at]
      exact h6
    rw [k1, k2] at k
    exact k.symm
  have hw : TX (w_put S 37 0 0) f len G := h.put (by decide) (by decide)
  have ha : At f len f (-1) 0 := ⟨by omega, by omega, Or.inl ⟨rfl, by omega⟩⟩
  have hb : ∀ q, Bd len q → Bd len (kpq3 G len q) := fun q hq => kpq_bd hr.e q hq
  have lb : len ≤ 2000 := hr.2.2.1
  have key := l_lines (e := e) (N := N) (c := 3) (M := 8) (W := 3) (P := fun q => kpq3 G len q) (V := fun q i g => ∀ k, k < 3 → g (3 * i + k) = kpv G len f q k) (Ln := fun i T K => Ln3 e N 3 (i : Int) T K) hw (by decide) (by decide) (fun n i T hi => h_step3 n i T hi) (fun i g a w q K Q hi ha' _ hk => x_ln3 hN hw ha' hi hk) (fun q i g g' hv hg k hk => by rw [hg k hk]; exact hv k hk) (fun q q0 q1 => by have := hb q ⟨by omega, q1⟩; unfold Bd at this; omega) 8 0 N ((w_put S 37 0 0).1 36) f (-1) 0 (by decide) (by omega) ha (by omega) rfl (fun j hj => by omega)
  have rp := rdl_pos (P := fun q => kpq3 G len q) (len := len) 8 0 0 (by omega)
  have hE : E_RuleBook_readLines e N 3 S = El_RuleBook_readLines e N N 0 [((3 : Nat) : Int), ((3 : Nat) : Int), ((0 : Nat) : Int)] [] (w_put S 37 0 0) := by
    unfold E_RuleBook_readLines
    rw [if_pos (show w_ib (3 : Int) 5 = true from rfl), show ((pg_sv.getD 0 []).getD (3 : Int).toNat 0).toInt = 3 from rfl]
    rfl
  rw [← e0] at key
  rw [hE]
  clear hE e0
  refine key.mono (fun y S1 z => ?_)
  clear key
  obtain ⟨g', a', w', z⟩ := z
  unfold E_R_doRetention
  refine r_lines (M := 8) (c := 400) (len := len) (G := G) (P := fun q => kpq3 G len q) (LL := [199, 200]) (OO := [129]) (JJ := [(129, 3)]) (V := fun q i T => T.1 130 = R.1 130 → T.1 199 (3 * i) = kpv G len f q 0 ∧ T.1 199 (3 * i + 1) = kpv G len f q 1 ∧ T.1 199 (3 * i + 2) = (nw rwb G 40 (kpq2 G len q) : Nat) ∧ ∀ k, k < nw rwb G 40 (kpq2 G len q) → T.1 200 (40 * i + k) = w_b (R.1 130 ((kpq2 G len q).toNat + k))) (L := fun nf q i R => El_R_doRetention e N nf 0 [q, (i : Int)] [] R) (T := fun q i R => E_R_keepText e N q (i : Int) R) (F := fun nf i R => El_R_doRetention e N nf 1 [(i : Int), 0] [] R) (by decide) hb (by decide) (fun nf i q R a b c d => h_doRetention nf i q R a b c d) (fun q i R' a b c d => ?_) 8 0 N 0 R (by decide) (by omega) hr (by omega) hl rfl (fun j hj => by omega) (fun d R1 d1 d2 d3 => ?_) (fun n m R1 d1 d2 d3 d4 => ?_)
  · refine (x_keepText (e := e) (N := N) (i := i) (f := f) hN a c d b).mono (fun y R1 z => ⟨z.1, z.2.1, fun hy ht => ?_, fun j p hj hv ht => ?_⟩)
    · have t130 := z.2.1.2.1 130 rfl rfl
      rw [← ht, t130]
      exact z.2.2.1 hy
    · have t130 := z.2.1.2.1 130 rfl rfl
      have z4 := z.2.2.2.1
      have z5 := z.2.2.2.2
      obtain ⟨v1, v2, v3, v4⟩ := hv (by rw [← t130]; exact ht)
      have nk := nw_le rwb G 40 (kpq2 G len p)
      rw [z4 (3 * j) (by omega), z4 (3 * j + 1) (by omega), z4 (3 * j + 2) (by omega)]
      refine ⟨v1, v2, v3, fun k hk => ?_⟩
      rw [z5 _ (by omega)]
      exact v4 k hk
  · rw [← d1, if_neg (by omega)] at z
    refine ⟨by rw [z.1], Or.inl ⟨by omega, ⟨?_, ?_⟩, rfl⟩⟩
    · rw [z.2]
      unfold tp
      repeat (first | exact frm.refl _ _ _ _ | refine frm.put ?_ rfl | refine frm.puto ?_ rfl rfl | refine frm.arr ?_ rfl)
    · have := d3.weak (L' := [199, 200]) (O' := [129]) (J' := [(129, 3), (129, 4)]) (by decide)
      exact frm.puto this rfl rfl
  · have hqs := rdl_qs (P := fun q => kpq3 G len q) (len := len) 8 0 0 (by omega) rfl (by omega)
    rw [← d1] at z rp hqs
    rw [if_pos (by omega)] at z
    obtain ⟨z1, z2, z3, z4, z5⟩ := z
    subst z1
    have hcp := l_doKeep1 (e := e) (N := N) (n := n) (by omega) (3 * n) 0 m R1 (by omega) (by omega)
    refine hcp.mono (fun y2 R2 r => ?_)
    obtain ⟨r1, r2, r3, r4, r5, r6⟩ := r
    have s30 : ∀ j, j < 3 * n → S1.1 33 j = g' j := fun j hj => by
      rw [z2, w_cpy_arr]
      unfold tp
      simp only [w_put_r, w_arr_r, reduceIte, Nat.reduceEqDiff, pt_at]
      rw [if_pos (by omega), show 0 + (j - 0) = j by omega]
    have s2 : S1.1 2 = S.1 2 := by
      rw [z2, w_cpy_arr]
      unfold tp
      simp only [w_put_r, w_arr_r, reduceIte, Nat.reduceEqDiff, pt_at]
    have t130 := d3.2.1 130 rfl rfl
    refine ⟨r1, Or.inr ⟨by omega, ⟨?_, ?_, n, by omega, ?_, r3, fun i hi => ?_⟩, ?_⟩⟩
    · rw [z2, w_cpy_arr]
      unfold tp
      repeat (first | exact frm.refl _ _ _ _ | refine frm.put ?_ rfl | refine frm.puto ?_ rfl rfl | refine frm.arr ?_ rfl)
    · have f1 := d3.weak (L' := [197, 198, 199, 200]) (O' := [129]) (J' := [(129, 3), (129, 104)]) (by decide)
      have f2 := r2.weak (L' := [197, 198, 199, 200]) (O' := [129]) (J' := [(129, 3), (129, 104)]) (by decide)
      exact f1.trans f2
    · rw [z2]
      simp only [w_put_r, w_arr_r, reduceIte, Nat.reduceEqDiff, pt_at]
    · have hp : 0 ≤ kpq3 G len (qs (fun q => kpq3 G len q) i) := hqs (i + 1) (by omega) (by omega)
      have k0 := z5 i (by omega) 0 (by omega)
      have k1 := z5 i (by omega) 1 (by omega)
      have k2 := z5 i (by omega) 2 (by omega)
      obtain ⟨u0, u1, u2, u3⟩ := d4 i (by omega) t130
      generalize qs (fun q => kpq3 G len q) i = q at *
      obtain ⟨b0, b1, b2⟩ := kp_ge hp
      have t1 := pT_v (pB_ge b1).1
      have t2 := pN_v (pB_ge b2).1
      obtain ⟨w1, w2, w3, w4, w5⟩ := row_eq (show 0 ≤ pB G 10 (pW G (kpq2 G len q)) from hp)
      have nk := nw_le rwb G 40 (kpq2 G len q)
      have hlen : kpq2 G len q + (nw rwb G 40 (kpq2 G len q) : Nat) < len := by
        obtain ⟨x1, x2, x3⟩ := pB_ge (show 0 ≤ pB G 10 (pW G (kpq2 G len q)) from hp)
        rw [w3] at x1 x2
        exact tr_lt hr x1 (by omega)
      have byte : ∀ k, k < nw rwb G 40 (kpq2 G len q) → R2.1 198 (40 * i + k) = R.1 130 ((kpq2 G len q).toNat + k) := fun k hk => by
        have hby := hB ((kpq2 G len q).toNat + k) (by omega)
        rw [r6 _ (by omega), u3 k hk, w_b_id, w_b_id]
        · exact hby.2.1
        · exact hby.2.2
        · rw [w_b_id hby.2.1 hby.2.2]
          exact hby.2.1
        · rw [w_b_id hby.2.1 hby.2.2]
          exact hby.2.2
      rw [r4 (3 * i) (by omega) (by omega), r4 (3 * i + 1) (by omega) (by omega), r4 (3 * i + 2) (by omega) (by omega), s30 (3 * i) (by omega), s30 (3 * i + 1) (by omega), s30 (3 * i + 2) (by omega), k1, k2, show g' (3 * i) = kpv G len f q 0 from k0, u0, u1, u2]
      refine ⟨rfl, rfl, t1.1, t1.2, t2.1, t2.2, nw rwb G 40 (kpq2 G len q), w4, nk, rfl, ⟨(f + kpq2 G len q).toNat, ?_, ?_, fun k hk => ?_⟩, fun k hk => ?_⟩
      · have : kpv G len f q 2 = (f + kpq2 G len q) * 64 + (nw rwb G 40 (kpq2 G len q) : Nat) := rfl
        rw [this]
        omega
      · omega
      · show S1.1 2 ((f + kpq2 G len q).toNat + k) = R2.1 198 (40 * i + k)
        rw [s2, byte k hk]
        have hby := (hB ((kpq2 G len q).toNat + k) (by omega)).1
        rw [hby, show f.toNat + ((kpq2 G len q).toNat + k) = (f + kpq2 G len q).toNat + k by omega]
      · rw [byte k hk]
        have hby := hB ((kpq2 G len q).toNat + k) (by omega)
        have na := nw_all 40 (kpq2 G len q) k hk
        have hg := (h.2.2.2.2.2.2 (kpq2 G len q + k) (by omega)).1 (by omega)
        have e9 : (f + (kpq2 G len q + k)).toNat = f.toNat + ((kpq2 G len q).toNat + k) := by omega
        rw [e9, ← hby.1] at hg
        have e10 : G (kpq2 G len q + k) = R.1 130 ((kpq2 G len q).toNat + k) := by
          have ra : 32 ≤ G (kpq2 G len q + k) ∧ G (kpq2 G len q + k) ≤ 126 := by
            unfold rwb at na
            simp only [Bool.and_eq_true, decide_eq_true_eq] at na
            exact na.1
          have h4' := hg.2.2.2
          split at h4' <;> omega
        rw [← e10]
        exact na
    · rw [r2.2.2 129 4 rfl rfl]
      exact d3.2.2 129 4 rfl rfl
end
