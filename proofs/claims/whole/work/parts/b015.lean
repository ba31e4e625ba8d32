section
-- by
theorem tr_lt' {R : w_S} {len p b : Int} {G : Int → Int} (h : TR R len G) (h0 : 0 ≤ p) (h1 : G p = b) (h2 : 0 ≤ b) : p < len := tr_lt h h0 (by omega)
theorem pB_y {G : Int → Int} {b q : Int} (h : 0 ≤ q) (h1 : G q = b) : pB G b q = q + 1 := by
  unfold pB
  rw [if_neg (by omega), if_pos h1]
theorem pB_n {G : Int → Int} {b q : Int} (h : 0 ≤ q) (h1 : ¬ G q = b) : pB G b q = -1 - q := by
  unfold pB
  rw [if_neg (by omega), if_neg h1]
/-- what a route's end leaves: the space, the days on the way, the line's end -/
theorem l_rtw {e : w_E} {N to : Nat} {len : Int} {G : Int → Int} (hN : 2001 ≤ N) (hto : to ≤ 44) : ∀ (k nf : Nat) (l v q : Int) (R : w_S), k < nf → k ≤ 7 → 56 - k ≤ l → l ≤ 55 → TR R len G → 0 ≤ q → q ≤ len → R.1 184 (to + 2) = v → Ok (El_R_routeText e N nf 0 [(to : Int), q, l - 49] [] R) (fun y R1 => y = pB G 10 (pN G len 1 9 (pB G 32 (wdn G k l q))) ∧ frm [184] [129] [(129, 3)] R R1 ∧ (0 ≤ y → R1.1 184 (to + 2) = wdw G k l v q ∧ R1.1 184 (to + 3) = vl G (pB G 32 (wdn G k l q)) (nd G (len - pB G 32 (wdn G k l q)).toNat (pB G 32 (wdn G k l q)))) ∧ ∀ j, j < to + 2 → R1.1 184 j = R.1 184 j)
  | _, 0, _, _, _, _, h, _, _, _, _, _, _, _ => by omega
  | 0, _ + 1, _, _, _, _, _, _, h1, h2, _, _, _, _ => by omega
  | k + 1, nf + 1, l, v, q, R, hf, hk, h1, h2, hR, h0, hl, hv => by
    have lb : len ≤ 2000 := hR.2.2.1
    have hx : E_R_at e N q R = some (G q, R) := x_at hR h0
    have hgb := hR.b h0
    rw [El_R_routeText]
    by_cases c : dgt (G q) = true
    · have c1 := dgt_iff.1 c
      by_cases d : l ≤ G q ∧ G q ≤ 54
      · rw [show wdn G (k + 1) l q = wdn G k (G q + 1) (q + 1) by rw [wdn, if_pos c, if_pos d], show wdw G (k + 1) l v q = wdw G k (G q + 1) (w_or v (w_shl 1 (G q - 48))) (q + 1) by rw [wdw, if_pos ⟨c, d⟩]]
        have hlt := tr_lt hR h0 (by omega)
        have ih := l_rtw (e := e) (N := N) (len := len) (G := G) hN hto k nf (G q + 1) (w_or v (w_shl 1 (G q - 48))) (q + 1) (w_put R 184 (to + 2) (w_or v (w_shl 1 (G q - 48)))) (by omega) (by omega) (by omega) (by omega) (hR.put (Or.inl (by decide)) (by decide)) (by omega) (by omega) (by simp only [w_put_r, reduceIte, Nat.reduceEqDiff, pt_at])
        refine ok_e (by omega) (ok_b (ok_of hx ?_))
        dsimp only
        refine ok_e (by omega) (ok_e (by omega) (ok_b (ok_of hx ?_)))
        dsimp only
        refine ok_nb (by omega) (ok_e (by omega) (ok_e (by omega) (ok_t (by omega) (ok_nb (by omega) (ok_ib (by omega) (ok_nb (by omega) ?_))))))
        rw [show ((to : Int) + 2).toNat = to + 2 by omega, hv, show G q - 48 = G q + 1 - 49 by omega]
        rw [show G q - 48 = G q + 1 - 49 by omega] at ih
        refine ih.mono (fun y R1 z => ?_)
        obtain ⟨z1, z2, z3, z4⟩ := z
        refine ⟨z1, frm.trans (by repeat (first | exact frm.refl _ _ _ _ | refine frm.put ?_ rfl | refine frm.puto ?_ rfl rfl)) z2, z3, fun j hj => ?_⟩
        rw [z4 j hj]
        simp only [w_put_r, reduceIte, Nat.reduceEqDiff, pt_at]
        rw [if_neg (by omega)]
      · rw [show wdn G (k + 1) l q = -1 - q by rw [wdn, if_pos c, if_neg d]]
        rw [pB_neg (q := -1 - q) (by omega), pN_neg (q := -1 - q) (by omega), pB_neg (q := -1 - q) (by omega)]
        refine ok_e (by omega) (ok_b (ok_of hx ?_))
        dsimp only
        refine ok_e (by omega) (ok_e (by omega) (ok_b (ok_of hx ?_)))
        dsimp only
        refine ok_nb (by omega) (ok_e (by omega) ?_)
        by_cases d1 : 6 < G q - 48
        · refine ok_t d1 (ok_nb (by omega) (ok_s ⟨rfl, frm.refl _ _ _ _, fun z => by omega, fun _ _ => rfl⟩))
        · refine ok_e d1 (ok_e (by omega) (ok_nb (by omega) (ok_s ⟨rfl, frm.refl _ _ _ _, fun z => by omega, fun _ _ => rfl⟩)))
    · have c1 : ¬ (48 ≤ G q ∧ G q ≤ 57) := fun z => c (dgt_iff.2 z)
      rw [show wdn G (k + 1) l q = q by rw [wdn, if_neg c], show wdw G (k + 1) l v q = v by rw [wdw, if_neg (fun z => c z.1)]]
      by_cases c2 : G q = 32
      · have hlt := tr_lt hR h0 (by omega)
        rw [pB_y h0 c2]
        have hn := x_numeral (e := e) (lo := 1) (hi := 9) hN hR (show 0 ≤ q + 1 by omega) (by omega)
        have pb : Bd len (pN G len 1 9 (q + 1)) := pN_bd ⟨by omega, by omega⟩
        unfold Bd at pb
        generalize vl G (q + 1) (nd G (len - (q + 1)).toNat (q + 1)) = u at hn ⊢
        generalize pN G len 1 9 (q + 1) = p at hn pb ⊢
        by_cases d : 0 ≤ p
        · rw [if_pos d] at hn
          have hx' : ∀ t x, E_R_at e N p (w_put (w_put R 129 3 u) 184 t x) = some (G p, w_put (w_put R 129 3 u) 184 t x) := fun t x => x_at ((hR.put (Or.inr rfl) (by decide)).put (Or.inl (by decide)) (by decide)) d
          have fin : ∀ y, y = pB G 10 p → (fun y R1 => y = pB G 10 p ∧ frm [184] [129] [(129, 3)] R R1 ∧ (0 ≤ y → R1.1 184 (to + 2) = v ∧ R1.1 184 (to + 3) = u) ∧ ∀ j, j < to + 2 → R1.1 184 j = R.1 184 j) y (w_put (w_put R 129 3 u) 184 ((to : Int) + 3).toNat ((w_put R 129 3 u).1 129 3)) := fun y hy => by
            refine ⟨hy, by repeat (first | exact frm.refl _ _ _ _ | refine frm.put ?_ rfl | refine frm.puto ?_ rfl rfl), fun _ => ⟨?_, ?_⟩, fun j hj => ?_⟩
            · simp only [w_put_r, reduceIte, Nat.reduceEqDiff, pt_at]
              rw [if_neg (by omega)]
              exact hv
            · simp only [w_put_r, reduceIte, Nat.reduceEqDiff, pt_at]
              rw [if_pos (by omega)]
            · simp only [w_put_r, reduceIte, Nat.reduceEqDiff, pt_at]
              rw [if_neg (by omega)]
          by_cases d2 : G p = 10
          · have fy := fin (p + 1) (pB_y d d2).symm
            clear fin
            repeat' (first | (with_reducible refine ok_of hx ?_; dsimp only) | (with_reducible refine ok_of hn ?_; dsimp only) | (with_reducible refine ok_of (hx' _ _) ?_; dsimp only) | with_reducible refine ok_nb (by omega) ?_ | with_reducible refine ok_ib (by omega) ?_ | with_reducible refine ok_t (by omega) ?_ | with_reducible refine ok_e (by omega) ?_ | with_reducible refine ok_if (fun h => ?_) (fun h => ?_) | with_reducible refine ok_s ?_ | with_reducible refine ok_b ?_)
            all_goals first | (exfalso; omega) | exact fy
          · have fy := fin (-1 - p) (pB_n d d2).symm
            clear fin
            repeat' (first | (with_reducible refine ok_of hx ?_; dsimp only) | (with_reducible refine ok_of hn ?_; dsimp only) | (with_reducible refine ok_of (hx' _ _) ?_; dsimp only) | with_reducible refine ok_nb (by omega) ?_ | with_reducible refine ok_ib (by omega) ?_ | with_reducible refine ok_t (by omega) ?_ | with_reducible refine ok_e (by omega) ?_ | with_reducible refine ok_if (fun h => ?_) (fun h => ?_) | with_reducible refine ok_s ?_ | with_reducible refine ok_b ?_)
            all_goals first | (exfalso; omega) | exact fy
        · rw [if_neg d] at hn
          have fy : (fun y R1 => y = pB G 10 p ∧ frm [184] [129] [(129, 3)] R R1 ∧ (0 ≤ y → R1.1 184 (to + 2) = v ∧ R1.1 184 (to + 3) = u) ∧ ∀ j, j < to + 2 → R1.1 184 j = R.1 184 j) p R := ⟨(pB_neg (by omega)).symm, frm.refl _ _ _ _, fun z => by omega, fun _ _ => rfl⟩
          repeat' (first | (with_reducible refine ok_of hx ?_; dsimp only) | (with_reducible refine ok_of hn ?_; dsimp only) | with_reducible refine ok_nb (by omega) ?_ | with_reducible refine ok_ib (by omega) ?_ | with_reducible refine ok_t (by omega) ?_ | with_reducible refine ok_e (by omega) ?_ | with_reducible refine ok_if (fun h => ?_) (fun h => ?_) | with_reducible refine ok_s ?_ | with_reducible refine ok_b ?_)
          all_goals first | (exfalso; omega) | exact fy
      · rw [pB_n h0 c2, pN_neg (q := -1 - q) (by omega), pB_neg (q := -1 - q) (by omega)]
        have fy : (fun y R1 => y = -1 - q ∧ frm [184] [129] [(129, 3)] R R1 ∧ (0 ≤ y → R1.1 184 (to + 2) = v ∧ R1.1 184 (to + 3) = vl G (-1 - q) (nd G (len - (-1 - q)).toNat (-1 - q))) ∧ ∀ j, j < to + 2 → R1.1 184 j = R.1 184 j) (-1 - q) R := ⟨rfl, frm.refl _ _ _ _, fun z => by omega, fun _ _ => rfl⟩
        repeat' (first | (with_reducible refine ok_of hx ?_; dsimp only) | with_reducible refine ok_nb (by omega) ?_ | with_reducible refine ok_ib (by omega) ?_ | with_reducible refine ok_t (by omega) ?_ | with_reducible refine ok_e (by omega) ?_ | with_reducible refine ok_if (fun h => ?_) (fun h => ?_) | with_reducible refine ok_s ?_ | with_reducible refine ok_b ?_)
        all_goals first | (exfalso; omega) | exact fy
theorem l_rtf {e : w_E} {N to nf : Nat} {len q : Int} {G : Int → Int} {R : w_S} (hN : 2001 ≤ N) (hto : to ≤ 44) (hf : 8 ≤ nf) (hR : TR R len G) (h0 : 0 ≤ q) (hl : q ≤ len) (hv : R.1 184 (to + 2) = 0) : Ok (El_R_routeText e N (nf + 1) 0 [(to : Int), q, -1] [] R) (fun y R1 => y = pB G 10 (pN G len 1 9 (pB G 32 (pD G q))) ∧ frm [184] [129] [(129, 3)] R R1 ∧ (0 ≤ y → R1.1 184 (to + 2) = vD G q ∧ R1.1 184 (to + 3) = vl G (pB G 32 (pD G q)) (nd G (len - pB G 32 (pD G q)).toNat (pB G 32 (pD G q)))) ∧ ∀ j, j < to + 2 → R1.1 184 j = R.1 184 j) := by
  have lb : len ≤ 2000 := hR.2.2.1
  have hx : E_R_at e N q R = some (G q, R) := x_at hR h0
  have hgb := hR.b h0
  rw [El_R_routeText]
  refine ok_t rfl (ok_b (ok_of hx ?_))
  dsimp only
  by_cases d : 48 ≤ G q ∧ G q ≤ 54
  · rw [show pD G q = wdn G 7 (G q + 1) (q + 1) by unfold pD; rw [if_neg (by omega), if_pos d]]
    unfold vD
    have hlt := tr_lt hR h0 (by omega)
    have ih := l_rtw (e := e) (N := N) (len := len) (G := G) hN hto 7 nf (G q + 1) (w_or 0 (w_shl 1 (G q - 48))) (q + 1) (w_put R 184 (to + 2) (w_or 0 (w_shl 1 (G q - 48)))) (by omega) (by omega) (by omega) (by omega) (hR.put (Or.inl (by decide)) (by decide)) (by omega) (by omega) (by simp only [w_put_r, reduceIte, Nat.reduceEqDiff, pt_at])
    refine ok_nb (by omega) (ok_e (by omega) (ok_e (by omega) (ok_t (by omega) (ok_nb (by omega) (ok_ib (by omega) (ok_nb (by omega) ?_))))))
    rw [show ((to : Int) + 2).toNat = to + 2 by omega, hv, show G q - 48 = G q + 1 - 49 by omega]
    rw [show G q - 48 = G q + 1 - 49 by omega] at ih
    refine ih.mono (fun y R1 z => ?_)
    obtain ⟨z1, z2, z3, z4⟩ := z
    refine ⟨z1, frm.trans (by repeat (first | exact frm.refl _ _ _ _ | refine frm.put ?_ rfl | refine frm.puto ?_ rfl rfl)) z2, z3, fun j hj => ?_⟩
    rw [z4 j hj]
    simp only [w_put_r, reduceIte, Nat.reduceEqDiff, pt_at]
    rw [if_neg (by omega)]
  · rw [show pD G q = -1 - q by unfold pD; rw [if_neg (by omega), if_neg d]]
    rw [pB_neg (q := -1 - q) (by omega), pN_neg (q := -1 - q) (by omega), pB_neg (q := -1 - q) (by omega)]
    refine ok_nb (by omega) ?_
    by_cases d1 : G q - 48 < 0
    · refine ok_t d1 (ok_nb (by omega) (ok_s ⟨rfl, frm.refl _ _ _ _, fun z => by omega, fun _ _ => rfl⟩))
    · refine ok_e d1 (ok_t (by omega) (ok_nb (by omega) (ok_s ⟨rfl, frm.refl _ _ _ _, fun z => by omega, fun _ _ => rfl⟩)))
end
section
-- bz
theorem x_routeText {e : w_E} {N to : Nat} {len q : Int} {G : Int → Int} {R : w_S} (hN : 2001 ≤ N) (hto : to ≤ 44) (h0 : 0 ≤ q) (hl : q ≤ len) (hR : TR R len G) : Ok (E_R_routeText e N q (to : Int) R) (fun y R1 => y = rtq4 G len q ∧ frm [184] [129] [(129, 3)] R R1 ∧ (0 ≤ y → ∀ j, j < 4 → R1.1 184 (to + j) = rtv G len q j) ∧ ∀ j, j < to → R1.1 184 j = R.1 184 j) := by
  have lb : len ≤ 2000 := hR.2.2.1
  have hn := x_numeral (e := e) (lo := 0) (hi := 3) hN hR h0 hl
  have pb : Bd len (pN G len 0 3 q) := pN_bd ⟨by omega, by omega⟩
  unfold Bd at pb
  have e1 : rtq1 G len q = pB G 32 (pN G len 0 3 q) := rfl
  have e2 : rtq2 G len q = pB G 32 (pN G len 0 3 (rtq1 G len q)) := rfl
  have e3 : rtq4 G len q = pB G 10 (pN G len 1 9 (pB G 32 (pD G (rtq2 G len q)))) := rfl
  have v0 : rtv G len q 0 = vl G q (nd G (len - q).toNat q) := rfl
  have v1 : rtv G len q 1 = vl G (rtq1 G len q) (nd G (len - rtq1 G len q).toNat (rtq1 G len q)) := rfl
  have v2 : rtv G len q 2 = vD G (rtq2 G len q) := rfl
  have v3 : rtv G len q 3 = vl G (pB G 32 (pD G (rtq2 G len q))) (nd G (len - pB G 32 (pD G (rtq2 G len q))).toNat (pB G 32 (pD G (rtq2 G len q)))) := rfl
  have st2 : rtq2 G len q < 0 → rtq4 G len q = rtq2 G len q := fun z => by
    rw [e3, pD_neg z, pB_neg z, pN_neg z, pB_neg z]
  have st1 : rtq1 G len q < 0 → rtq4 G len q = rtq1 G len q := fun z => by
    have : rtq2 G len q = rtq1 G len q := by rw [e2, pN_neg z, pB_neg z]
    rw [st2 (by omega), this]
  rw [← v0] at hn
  generalize hp : pN G len 0 3 q = p at hn pb e1
  unfold E_R_routeText
  by_cases c : 0 ≤ p
  · rw [if_pos c] at hn
    refine ok_b (ok_of hn ?_)
    dsimp only
    refine ok_t c (ok_ib (by omega) ?_)
    have hR1 : ∀ t x, TR (w_put (w_put R 129 3 (rtv G len q 0)) 184 t x) len G := fun t x => (hR.put (Or.inr rfl) (by decide)).put (Or.inl (by decide)) (by decide)
    refine ok_b (ok_of (x_at (hR1 _ _) c) ?_)
    dsimp only
    by_cases c1 : G p = 32
    · have hlt := tr_lt hR c (by omega)
      rw [pB_y c c1] at e1
      refine ok_t c1 (ok_nb (by omega) ?_)
      rw [show (w_put R 129 3 (rtv G len q 0)).1 129 3 = rtv G len q 0 by simp only [w_put_r, reduceIte, Nat.reduceEqDiff, pt_at], show ((to : Int)).toNat = to by omega]
      have hn1 := x_numeral (e := e) (lo := 0) (hi := 3) hN (hR1 to (rtv G len q 0)) (show 0 ≤ p + 1 by omega) (by omega)
      rw [e1] at e2 v1
      have pb1 : Bd len (pN G len 0 3 (p + 1)) := pN_bd ⟨by omega, by omega⟩
      unfold Bd at pb1
      rw [← v1] at hn1
      generalize hp1 : pN G len 0 3 (p + 1) = p1 at hn1 pb1 e2
      by_cases d : 0 ≤ p1
      · rw [if_pos d] at hn1
        refine ok_b (ok_of hn1 ?_)
        dsimp only
        refine ok_t d (ok_nb (by omega) (ok_ib (by omega) ?_))
        have hR2 : ∀ t x, TR (w_put (w_put (w_put (w_put R 129 3 (rtv G len q 0)) 184 to (rtv G len q 0)) 129 3 (rtv G len q 1)) 184 t x) len G := fun t x => ((hR1 _ _).put (Or.inr rfl) (by decide)).put (Or.inl (by decide)) (by decide)
        refine ok_b (ok_of (x_at (hR2 _ _) d) ?_)
        dsimp only
        rw [show (w_put (w_put (w_put R 129 3 (rtv G len q 0)) 184 to (rtv G len q 0)) 129 3 (rtv G len q 1)).1 129 3 = rtv G len q 1 by simp only [w_put_r, reduceIte, Nat.reduceEqDiff, pt_at], show ((to : Int) + 1).toNat = to + 1 by omega]
        by_cases d1 : G p1 = 32
        · have hlt1 := tr_lt hR d (by omega)
          rw [pB_y d d1] at e2
          refine ok_t d1 (ok_nb (by omega) (ok_nb (by omega) (ok_ib (by omega) ?_)))
          obtain ⟨nf, hnf⟩ : ∃ nf, N = nf + 1 := ⟨N - 1, by omega⟩
          rw [e2] at e3 v2 v3
          rw [show ((to : Int) + 2).toNat = to + 2 by omega]
          have key := l_rtf (e := e) (N := N) (nf := nf) (len := len) (q := p1 + 1) (G := G) (R := w_put (w_put (w_put (w_put (w_put R 129 3 (rtv G len q 0)) 184 to (rtv G len q 0)) 129 3 (rtv G len q 1)) 184 (to + 1) (rtv G len q 1)) 184 (to + 2) 0) hN hto (by omega) ((hR2 _ _).put (Or.inl (by decide)) (by decide)) (by omega) (by omega) (by simp only [w_put_r, reduceIte, Nat.reduceEqDiff, pt_at])
          rw [← hnf] at key
          refine key.mono (fun y R1 z => ?_)
          obtain ⟨z1, z2, z3, z4⟩ := z
          refine ⟨by rw [z1, e3], frm.trans (by repeat (first | exact frm.refl _ _ _ _ | refine frm.put ?_ rfl | refine frm.puto ?_ rfl rfl)) z2, fun hy j hj => ?_, fun j hj => ?_⟩
          · have jj : j = 0 ∨ j = 1 ∨ j = 2 ∨ j = 3 := by omega
            rcases jj with rfl | rfl | rfl | rfl
            · rw [z4 _ (by omega)]
              simp only [w_put_r, reduceIte, Nat.reduceEqDiff, pt_at]
              rw [if_neg (by omega), if_neg (by omega), if_pos (by omega)]
            · rw [z4 _ (by omega)]
              simp only [w_put_r, reduceIte, Nat.reduceEqDiff, pt_at]
              rw [if_neg (by omega)]
            · rw [(z3 hy).1, v2]
            · rw [(z3 hy).2, v3]
          · rw [z4 j (by omega)]
            simp only [w_put_r, reduceIte, Nat.reduceEqDiff, pt_at]
            rw [if_neg (by omega), if_neg (by omega), if_neg (by omega)]
        · rw [pB_n d d1] at e2
          have := st2 (by omega)
          refine ok_e d1 (ok_nb (by omega) (ok_s ⟨by omega, by repeat (first | exact frm.refl _ _ _ _ | refine frm.put ?_ rfl | refine frm.puto ?_ rfl rfl), fun z => by omega, fun j hj => ?_⟩))
          simp only [w_put_r, reduceIte, Nat.reduceEqDiff, pt_at]
          rw [if_neg (by omega), if_neg (by omega)]
      · rw [if_neg d] at hn1
        rw [pB_neg (by omega)] at e2
        have := st2 (by omega)
        refine ok_b (ok_of hn1 ?_)
        dsimp only
        refine ok_e d (ok_s ⟨by omega, by repeat (first | exact frm.refl _ _ _ _ | refine frm.put ?_ rfl | refine frm.puto ?_ rfl rfl), fun z => by omega, fun j hj => ?_⟩)
        simp only [w_put_r, reduceIte, Nat.reduceEqDiff, pt_at]
        rw [if_neg (by omega)]
    · rw [pB_n c c1] at e1
      have := st1 (by omega)
      refine ok_e c1 (ok_nb (by omega) (ok_s ⟨by omega, by repeat (first | exact frm.refl _ _ _ _ | refine frm.put ?_ rfl | refine frm.puto ?_ rfl rfl), fun z => by omega, fun j hj => ?_⟩))
      simp only [w_put_r, reduceIte, Nat.reduceEqDiff, pt_at]
      rw [if_neg (by omega)]
  · rw [if_neg c] at hn
    rw [pB_neg (by omega)] at e1
    have := st1 (by omega)
    refine ok_b (ok_of hn ?_)
    dsimp only
    exact ok_e c (ok_s ⟨by omega, frm.refl _ _ _ _, fun z => by omega, fun j hj => rfl⟩)
end
section
-- c0
/-- the reference's loop over lines, once for all kinds that tell what is wrong at once -/
theorem r_lines {M c : Nat} {len : Int} {G P : Int → Int} {LL OO : List Nat} {JJ : List (Nat × Nat)} {V : Int → Nat → w_S → Prop} {L : Nat → Int → Nat → w_S → e_R} {T : Int → Nat → w_S → e_R} {F : Nat → Nat → w_S → e_R} {Q : Int → w_S → Prop} (dd : (ckA LL OO [130] && ckS LL JJ [(129, 2)]) = true) (hP : ∀ q, Bd len q → Bd len (P q)) (hM : M ≤ 1000)
    (hstep : ∀ (nf i : Nat) (q : Int) (R : w_S), i ≤ M → TR R len G → 0 ≤ q → q ≤ len → L (nf + 1) q i R = if 1 ≤ i ∧ len ≤ q then F nf i R else if i = M then some (-999 + (-1 - q), w_put R 129 4 1) else (T q i R).bind (fun z => if 0 ≤ z.1 then (if w_nb ((i : Int) + 1) = true then L nf z.1 (i + 1) z.2 else none) else if w_nb (-999 + z.1) = true then some (-999 + z.1, w_put z.2 129 4 1) else none))
    (htext : ∀ (q : Int) (i : Nat) (R : w_S), i < M → TR R len G → 0 ≤ q → q ≤ len → Ok (T q i R) (fun y R1 => y = P q ∧ frm LL OO JJ R R1 ∧ (0 ≤ y → V q i R1) ∧ ∀ j p, j < i → V p j R → V p j R1)) :
    ∀ (k i nf : Nat) (q : Int) (R : w_S), i + k = M → k + c < nf → TR R len G → 0 ≤ q → q ≤ len → q = qs P i → (∀ j, j < i → V (qs P j) j R) → (∀ d R1, d = rdl P len k i q → d < 0 → frm LL OO JJ R R1 → Q (-999 + d) (w_put R1 129 4 1)) → (∀ (n m : Nat) (R1 : w_S), (n : Int) = rdl P len k i q → c ≤ m → frm LL OO JJ R R1 → (∀ j, j < n → V (qs P j) j R1) → Ok (F m n R1) Q) → Ok (L nf q i R) Q
  | _, _, 0, _, _, _, h, _, _, _, _, _, _, _ => by omega
  | k, i, nf + 1, q, R, hk, hf, hR, h0, hl, hq, hv, hw, hr => by
    have lb : len ≤ 2000 := hR.2.2.1
    rw [hstep nf i q R (by omega) hR h0 hl]
    by_cases c1 : 1 ≤ i ∧ len ≤ q
    · have he : rdl P len k i q = i := by
        cases k with
        | zero => rw [rdl, if_pos c1]
        | succ k => rw [rdl, if_pos c1]
      rw [if_pos c1]
      exact hr i nf R he.symm (by omega) (frm.refl _ _ _ _) hv
    · rw [if_neg c1]
      by_cases c2 : i = M
      · have : k = 0 := by omega
        subst this
        have he : rdl P len 0 i q = -1 - q := by rw [rdl, if_neg c1]
        rw [if_pos c2]
        exact ok_s (hw _ R he.symm (by omega) (frm.refl _ _ _ _))
      · rw [if_neg c2]
        obtain ⟨k', hk'⟩ : ∃ k', k = k' + 1 := ⟨k - 1, by omega⟩
        subst hk'
        rw [rdl, if_neg c1] at hw hr
        refine ok_b ((htext q i R (by omega) hR h0 hl).mono (fun y R1 z => ?_))
        obtain ⟨z1, z2, z3, z4⟩ := z
        have bd := hP q ⟨by omega, hl⟩
        unfold Bd at bd
        dsimp only
        by_cases d : 0 ≤ y
        · refine ok_t d (ok_nb (by omega) ?_)
          rw [if_neg (by omega)] at hw hr
          subst z1
          refine r_lines dd hP hM hstep htext k' (i + 1) nf (P q) R1 (by omega) (by omega) (hR.fr z2 dd) d (by omega) (by rw [hq, qs]) (fun j hj => ?_) (fun d' R2 e1 e2 e3 => hw d' R2 e1 e2 (z2.trans e3)) (fun n m R2 e1 e2 e3 e4 => hr n m R2 e1 e2 (z2.trans e3) e4)
          rcases Nat.lt_or_ge j i with c3 | c3
          · exact z4 j _ c3 (hv j c3)
          · rw [show j = i by omega, ← hq]
            exact z3 d
        · refine ok_e d (ok_nb (by omega) (ok_s ?_))
          rw [if_pos (by omega)] at hw
          exact hw y R1 z1 (by omega) z2
theorem l_doRoutes {e : w_E} {N n : Nat} (hn : n ≤ 12) : ∀ (k j nf : Nat) (R : w_S), j + k = 4 * n → k < nf → El_R_doRoutes e N nf 1 [(n : Int), (j : Int)] [] R = some ((n : Int), w_put (cpr R 184 183 j (4 * n)) 129 83 (n : Int))
  | _, _, 0, _, _, h => by omega
  | 0, j, nf + 1, R, h1, h2 => by
    refine ok_eq ?_
    rw [El_R_doRoutes]
    have : j = 4 * n := by omega
    subst this
    rw [cpr_0]
    refine ok_nb (by omega) (ok_t (by omega) (ok_s ⟨rfl, rfl⟩))
  | k + 1, j, nf + 1, R, h1, h2 => by
    have ih := l_doRoutes (e := e) (N := N) hn k (j + 1) nf (w_put R 183 j (R.1 184 j)) (by omega) (by omega)
    rw [cpr_s R (by decide) (by omega), show ((j + 1 : Nat) : Int) = (j : Int) + 1 by omega] at ih
    refine ok_eq ?_
    rw [El_R_doRoutes]
    refine ok_nb (by omega) (ok_e (by omega) (ok_ib (by omega) (ok_nb (by omega) ?_)))
    exact ok_of ih ⟨rfl, rfl⟩
theorem h_routes {e : w_E} {N : Nat} {len : Int} {G : Int → Int} (nf i : Nat) (q : Int) (R : w_S) (hi : i ≤ 12) (hR : TR R len G) (h0 : 0 ≤ q) (hl : q ≤ len) : El_R_doRoutes e N (nf + 1) 0 [q, (i : Int)] [] R = if 1 ≤ i ∧ len ≤ q then El_R_doRoutes e N nf 1 [(i : Int), 0] [] R else if i = 12 then some (-999 + (-1 - q), w_put R 129 4 1) else (E_R_routeText e N q ((4 * i : Nat) : Int) R).bind (fun z => if 0 ≤ z.1 then (if w_nb ((i : Int) + 1) = true then El_R_doRoutes e N nf 0 [z.1, ((i + 1 : Nat) : Int)] [] z.2 else none) else if w_nb (-999 + z.1) = true then some (-999 + z.1, w_put z.2 129 4 1) else none) := by
  have lb : len ≤ 2000 := hR.2.2.1
  have n1 : w_nb (4 * (i : Int)) = true := by rw [w_nbE]; omega
  have n3 : w_nb (-1 - q) = true := by rw [w_nbE]; omega
  have n4 : w_nb (-999 + (-1 - q)) = true := by rw [w_nbE]; omega
  rw [El_R_doRoutes, hR.1, show ((4 * i : Nat) : Int) = 4 * (i : Int) by omega, show ((i + 1 : Nat) : Int) = (i : Int) + 1 by omega, if_pos n1, if_pos n3, if_pos n4]
  by_cases c : 1 ≤ i ∧ len ≤ q
  · rw [if_neg (show ¬ (i : Int) = 0 by omega), if_pos c.2, if_pos c]
  · rw [if_neg c]
    by_cases c1 : i = 12
    · rw [if_neg (show ¬ (i : Int) = 0 by omega), if_neg (show ¬ len ≤ q by omega), if_neg (show ¬ (i : Int) ≠ 12 by omega), if_pos c1]
    · rw [if_neg c1, if_pos (show (i : Int) ≠ 12 by omega)]
      by_cases c2 : (i : Int) = 0
      · rw [if_pos c2]
      · rw [if_neg c2, if_neg (show ¬ len ≤ q by omega)]
theorem wdw_bd {G : Int → Int} : ∀ (k : Nat) (l v q : Int), 48 ≤ l → 1 ≤ v → v ≤ 127 → 1 ≤ wdw G k l v q ∧ wdw G k l v q ≤ 127
  | 0, _, v, _, _, h1, h2 => ⟨h1, h2⟩
  | k + 1, l, v, q, hl, h1, h2 => by
    rw [wdw]
    split
    · rename_i c
      have := b_set v (G q - 48) (by omega) h2 (by omega) (by omega)
      exact wdw_bd k (G q + 1) _ (q + 1) (by omega) this.1 this.2
    · exact ⟨h1, h2⟩
theorem rtv_bd {G : Int → Int} {len q : Int} (h : 0 ≤ rtq4 G len q) : 0 ≤ rtv G len q 0 ∧ rtv G len q 0 ≤ 3 ∧ 0 ≤ rtv G len q 1 ∧ rtv G len q 1 ≤ 3 ∧ 1 ≤ rtv G len q 2 ∧ rtv G len q 2 ≤ 127 ∧ 1 ≤ rtv G len q 3 ∧ rtv G len q 3 ≤ 9 := by
  obtain ⟨h0, h1, h2, h3⟩ := rt_ge h
  have a0 := pN_v (pB_ge h1).1
  have a1 := pN_v (pB_ge h2).1
  have a3 := pN_v (pB_ge h).1
  have a2 : 1 ≤ rtv G len q 2 ∧ rtv G len q 2 ≤ 127 := by
    have k := (pB_ge h3).1
    unfold pD at k
    split at k
    · omega
    · split at k
      · rename_i d
        have := b_set 0 (G (rtq2 G len q) - 48) (by omega) (by omega) (by omega) (by omega)
        exact wdw_bd 7 _ _ _ (by omega) this.1 this.2
      · omega
  exact ⟨a0.1, a0.2, a1.1, a1.2, a2.1, a2.2, a3.1, a3.2⟩
theorem t_routes {e : w_E} {N : Nat} {S R : w_S} {f len : Int} {G : Int → Int} (hN : 2001 ≤ N) (h : TX S f len G) (hr : TR R len G) (h4 : S.1 1 4 = f) (h6 : S.1 1 6 = -1) (hT : RelT S R) : Ok (E_RuleBook_readLines e N 1 S) (fun y S1 => Ok (E_R_doRoutes e N R) (fun y' R1 => Pt R (fun S1 R1 => frm [36] [1, 37] [(1, 4), (1, 6), (37, 0)] S S1 ∧ frm [184] [129] [(129, 3), (129, 4)] R R1) (fun S1 R1 => frm [31, 36] [1, 35, 37] [(1, 4), (1, 6), (35, 1), (37, 0)] S S1 ∧ frm [183, 184] [129] [(129, 3), (129, 83)] R R1 ∧ RelT S1 R1) y S1 y' R1)) := by
  have hl := hr.2.1
  have e0 : w_put S 37 0 0 = tp (w_arr (w_put S 37 0 0) 36 ((w_put S 37 0 0).1 36)) f (-1) := by
    rw [arr_self]
    have k := tp_self (w_put S 37 0 0)
    have k1 : (w_put S 37 0 0).1 1 4 = f := by
      simp only [w_put_r, w_arr_r, reduceIte, Nat.reduceEqDiff, pt_at]
      exact h4
    have k2 : (w_put S 37 0 0).1 1 6 = -1 := by
      simp only [w_put_r, w_arr_r, reduceIte, Nat.reduceEqDiff, pt_at]
      exact h6
    rw [k1, k2] at k
    exact k.symm
  have hw : TX (w_put S 37 0 0) f len G := h.put (by decide) (by decide)
  have ha : At f len f (-1) 0 := ⟨by omega, by omega, Or.inl ⟨rfl, by omega⟩⟩
  have hb : ∀ q, Bd len q → Bd len (rtq4 G len q) := fun q hq => pB_bd hr.e (by decide) (pN_bd (pB_bd hr.e (by decide) (pD_bd hr.e (pB_bd hr.e (by decide) (pN_bd (pB_bd hr.e (by decide) (pN_bd hq)))))))
  have lb : len ≤ 2000 := hr.2.2.1
  have key := l_lines (e := e) (N := N) (c := 1) (M := 12) (W := 4) (P := fun q => rtq4 G len q) (V := fun q i g => ∀ k, k < 4 → g (4 * i + k) = rtv G len q k) (Ln := fun i T K => Ln1 e N 4 (i : Int) T K) hw (by decide) (by decide) (fun n i T hi => h_step1 n i T hi) (fun i g a w q K Q hi ha' _ hk => x_ln1 hN hw ha' hi hk) (fun q i g g' hv hg k hk => by rw [hg k hk]; exact hv k hk) (fun q q0 q1 => by have := hb q ⟨by omega, q1⟩; unfold Bd at this; omega) 12 0 N ((w_put S 37 0 0).1 36) f (-1) 0 (by decide) (by omega) ha (by omega) rfl (fun j hj => by omega)
  have rp := rdl_pos (P := fun q => rtq4 G len q) (len := len) 12 0 0 (by omega)
  have hE : E_RuleBook_readLines e N 1 S = El_RuleBook_readLines e N N 0 [((1 : Nat) : Int), ((4 : Nat) : Int), ((0 : Nat) : Int)] [] (w_put S 37 0 0) := by
    unfold E_RuleBook_readLines
    rw [if_pos (show w_ib (1 : Int) 5 = true from rfl), show ((pg_sv.getD 0 []).getD (1 : Int).toNat 0).toInt = 4 from rfl]
    rfl
  rw [← e0] at key
  rw [hE]
  clear hE e0
  refine key.mono (fun y S1 z => ?_)
  clear key
  obtain ⟨g', a', w', z⟩ := z
  unfold E_R_doRoutes
  refine r_lines (M := 12) (c := 60) (len := len) (G := G) (P := fun q => rtq4 G len q) (LL := [184]) (OO := [129]) (JJ := [(129, 3)]) (V := fun q i R => ∀ k, k < 4 → R.1 184 (4 * i + k) = rtv G len q k) (L := fun nf q i R => El_R_doRoutes e N nf 0 [q, (i : Int)] [] R) (T := fun q i R => E_R_routeText e N q ((4 * i : Nat) : Int) R) (F := fun nf i R => El_R_doRoutes e N nf 1 [(i : Int), 0] [] R) (by decide) hb (by decide) (fun nf i q R a b c d => h_routes nf i q R a b c d) (fun q i R a b c d => ?_) 12 0 N 0 R (by decide) (by omega) hr (by omega) hl rfl (fun j hj => by omega) (fun d R1 d1 d2 d3 => ?_) (fun n m R1 d1 d2 d3 d4 => ?_)
  · refine (x_routeText (e := e) (N := N) (to := 4 * i) hN (by omega) c d b).mono (fun y R1 z => ⟨z.1, z.2.1, z.2.2.1, fun j p hj hv k hk => ?_⟩)
    rw [z.2.2.2 _ (by omega)]
    exact hv k hk
  · rw [← d1, if_neg (by omega)] at z
    refine ⟨by rw [z.1], Or.inl ⟨by omega, ⟨?_, ?_⟩, rfl⟩⟩
    · rw [z.2]
      unfold tp
      repeat (first | exact frm.refl _ _ _ _ | refine frm.put ?_ rfl | refine frm.puto ?_ rfl rfl | refine frm.arr ?_ rfl)
    · have := d3.weak (L' := [184]) (O' := [129]) (J' := [(129, 3), (129, 4)]) (by decide)
      exact frm.puto this rfl rfl
  · have hqs := rdl_qs (P := fun q => rtq4 G len q) (len := len) 12 0 0 (by omega) rfl (by omega)
    rw [← d1] at z rp hqs
    rw [if_pos (by omega)] at z
    obtain ⟨z1, z2, z3, z4, z5⟩ := z
    subst z1
    have hcp := l_doRoutes (e := e) (N := N) (n := n) (by omega) (4 * n) 0 m R1 (by omega) (by omega)
    refine ok_of hcp ?_
    have s30 : ∀ j, j < 4 * n → S1.1 31 j = g' j := fun j hj => by
      rw [z2, w_cpy_arr]
      unfold tp
      simp only [w_put_r, w_arr_r, reduceIte, Nat.reduceEqDiff, pt_at]
      rw [if_pos (by omega), show 0 + (j - 0) = j by omega]
    have r211 : ∀ j, j < 4 * n → (w_put (cpr R1 184 183 0 (4 * n)) 129 83 (n : Int)).1 183 j = R1.1 184 j := fun j hj => by
      unfold cpr
      simp only [w_put_r, w_arr_r, reduceIte, Nat.reduceEqDiff, pt_at]
      rw [if_pos (by omega)]
    have t12 : (w_put (cpr R1 184 183 0 (4 * n)) 129 83 (n : Int)).1 129 12 = R.1 129 12 := by
      unfold cpr
      simp only [w_put_r, w_arr_r, reduceIte, Nat.reduceEqDiff, pt_at]
      exact d3.2.2 129 12 rfl rfl
    have s27 : S1.1 27 = S.1 27 := by
      rw [z2, w_cpy_arr]
      unfold tp
      simp only [w_put_r, w_arr_r, reduceIte, Nat.reduceEqDiff, pt_at]
    obtain ⟨t1, t2, t3, t4⟩ := hT
    refine ⟨rfl, Or.inr ⟨by omega, ⟨?_, ?_, ?_, ?_, ?_, n, ⟨by omega, fun i hi => ?_⟩, ?_, ?_, fun j hj => ?_⟩, ?_⟩⟩
    · rw [z2, w_cpy_arr]
      unfold tp
      repeat (first | exact frm.refl _ _ _ _ | refine frm.put ?_ rfl | refine frm.puto ?_ rfl rfl | refine frm.arr ?_ rfl)
    · have := d3.weak (L' := [183, 184]) (O' := [129]) (J' := [(129, 3), (129, 83)]) (by decide)
      unfold cpr
      exact frm.puto (frm.arr this rfl) rfl rfl
    · rw [s27]
      exact t1
    · rw [s27]
      exact t2
    · rw [t12, s27]
      exact t3
    · have hp : 0 ≤ rtq4 G len (qs (fun q => rtq4 G len q) i) := hqs (i + 1) (by omega) (by omega)
      have k0 := z5 i (by omega) 0 (by omega)
      have k1 := z5 i (by omega) 1 (by omega)
      have k2 := z5 i (by omega) 2 (by omega)
      have k3 := z5 i (by omega) 3 (by omega)
      have b0 := rtv_bd hp
      rw [s30 (4 * i) (by omega), s30 (4 * i + 1) (by omega), s30 (4 * i + 2) (by omega), s30 (4 * i + 3) (by omega)]
      rw [k1, k2, k3, show g' (4 * i) = rtv G len (qs (fun q => rtq4 G len q) i) 0 from k0]
      exact b0
    · rw [z2]
      simp only [w_put_r, w_arr_r, reduceIte, Nat.reduceEqDiff, pt_at]
    · simp only [w_put_r, w_arr_r, reduceIte, Nat.reduceEqDiff, pt_at]
    · rw [r211 j hj, s30 j hj]
      have k1 := z5 (j / 4) (by omega) (j % 4) (by omega)
      have k2 := d4 (j / 4) (by omega) (j % 4) (by omega)
      rw [show 4 * (j / 4) + j % 4 = j by omega] at k1 k2
      rw [k1, k2]
    · unfold cpr
      simp only [w_put_r, w_arr_r, reduceIte, Nat.reduceEqDiff, pt_at]
      exact d3.2.2 129 4 rfl rfl
end
section
-- c1
def wtree (eL : w_S → e_R) (eC : Int → w_S → e_R) (F : Int → Int → Int → Int → Int → w_S → e_R) (x2 x3 x4 x5 x6 : Int) (S : w_S) : e_R := ((eL S).bind (fun q250 => (if q250.1 < x6 then (if (q250.2.1 1 6) ≠ (-1) then some ((-1), q250.2) else (if w_nb ((q250.2.1 1 4) + x4) = true then (if w_nb (((q250.2.1 1 4) + x4) - (q250.2.1 1 3)) = true then some ((-1), (w_put q250.2 1 6 (((q250.2.1 1 4) + x4) - (q250.2.1 1 3)))) else none) else none)) else ((eL q250.2).bind (fun q251 => (if x6 = q251.1 then (if x5 ≠ 0 then (if w_nb (x2 + 1) = true then (if w_nb (x6 + 1) = true then F (x2 + 1) (0) (x4) (0) (x6 + 1) q251.2 else none) else none) else (if w_nb ((q251.2.1 1 4) + x3) = true then some (x2, (w_put q251.2 1 4 ((q251.2.1 1 4) + x3))) else none)) else ((eC x6 q251.2).bind (fun q252 => (if q252.1 ≠ 124 then (if x5 ≠ 0 then (if w_nb (x6 + 1) = true then F (x2) (x3) (x4) (1) (x6 + 1) q252.2 else none) else (if w_nb ((q252.2.1 1 4) + x3) = true then (if (q252.2.1 1 5) ≤ ((q252.2.1 1 4) + x3) then (if w_nb (x6 + 1) = true then F (x2) (x3) (x4) (1) (x6 + 1) q252.2 else none) else (if w_ib ((q252.2.1 1 4) + x3) 10240 = true then ((eC x6 q252.2).bind (fun q253 => (if (q252.2.1 2 (((q252.2.1 1 4) + x3).toNat)) ≠ q253.1 then (if w_nb (x6 + 1) = true then F (x2) (x3) (x4) (1) (x6 + 1) q253.2 else none) else (if w_nb (x3 + 1) = true then (if w_nb (x6 + 1) = true then F (x2) (x3 + 1) (max x4 (x3 + 1)) (x5) (x6 + 1) q253.2 else none) else none)))) else none)) else none)) else (if x5 ≠ 0 then (if w_nb (x2 + 1) = true then (if w_nb (x6 + 1) = true then F (x2 + 1) (0) (x4) (0) (x6 + 1) q252.2 else none) else none) else (if w_nb ((q252.2.1 1 4) + x3) = true then some (x2, (w_put q252.2 1 4 ((q252.2.1 1 4) + x3))) else none)))))))))))
def ltree (e : w_E) (N : Nat) (eL : w_S → e_R) (eC : Int → w_S → e_R) (F : Int → Int → w_S → e_R) (x1 x3 : Int) (S : w_S) : e_R := ((eL S).bind (fun q811 => (if q811.1 ≤ x3 then ((eL q811.2).bind (fun q812 => (if w_nb (x1 + q812.1) = true then some (x1 + q812.1, q812.2) else none))) else (if w_nb (x1 + x3) = true then ((E_R_at e N (x1 + x3) q811.2).bind (fun q813 => ((eC x3 q813.2).bind (fun q814 => (if q813.1 = q814.1 then (if w_nb (x3 + 1) = true then F (x1) (x3 + 1) q814.2 else none) else (if w_nb ((-1) - (x1 + x3)) = true then some ((-1) - (x1 + x3), q814.2) else none)))))) else none))))
/-- the string of that number -/
def wl (i : Nat) : List Int := (pg_str.getD i []).map (fun x => x.toInt)
theorem x_char {i k : Nat} {S : w_S} (hi : i < 23) (hk : k < (wl i).length) : E_String_charAt (1000000 + 2 * i) (k : Int) S = some ((wl i).getD k 0, S) := by
  have hl : (wl i).length = (pg_str.getD i []).length := by
    unfold wl
    rw [List.length_map]
  unfold E_String_charAt
  have e0 : rm_K = 1000000 := rfl
  have e1 : (1000000 + 2 * i - rm_K) / 2 = i := by omega
  have e2 : (1000000 + 2 * i - rm_K) % 2 = 0 := by omega
  have e3 : Nat.ble rm_K (1000000 + 2 * i) = true := by rw [Nat.ble_eq]; omega
  have e4 : w_ib (k : Int) ((pg_str.getD i []).length : Int) = true := by
    rw [w_ibE]
    omega
  have e5 : Nat.blt i 23 = true := by show Nat.ble (i + 1) 23 = true; rw [Nat.ble_eq]; omega
  rw [e1, e2, e3, e4, e5]
  rw [if_pos (by rfl)]
  have : (wl i).getD k 0 = ((pg_str.getD i []).getD ((k : Int)).toNat 0).toInt := by
    unfold wl
    generalize pg_str.getD i [] = l
    rw [show ((k : Int)).toNat = k by omega, List.getD_eq_getElem?_getD, List.getElem?_map, List.getD_eq_getElem?_getD]
    cases l[k]? with
    | none => rfl
    | some x => rfl
  rw [this]
theorem w_len0 {e : w_E} {N : Nat} (S : w_S) : E_String_length e N S = some (((wl 0).length : Int), S) := rfl
theorem w_tree0 {e : w_E} {N : Nat} (n : Nat) (x2 x3 x4 x5 x6 : Int) (S : w_S) : El_Tape_takeWord e N (n + 1) 0 [x2, x3, x4, x5, x6] [] S = wtree (E_String_length e N) (E_String_charAt 1000000) (fun x2 x3 x4 x5 x6 S => El_Tape_takeWord e N n 0 [x2, x3, x4, x5, x6] [] S) x2 x3 x4 x5 x6 S := by
  rw [El_Tape_takeWord]
  rfl
theorem w_len1 {e : w_E} {N : Nat} (S : w_S) : E_String_length_v1 e N S = some (((wl 1).length : Int), S) := rfl
theorem w_tree1 {e : w_E} {N : Nat} (n : Nat) (x2 x3 x4 x5 x6 : Int) (S : w_S) : El_Tape_takeWord_v1 e N (n + 1) 0 [x2, x3, x4, x5, x6] [] S = wtree (E_String_length_v1 e N) (E_String_charAt 1000002) (fun x2 x3 x4 x5 x6 S => El_Tape_takeWord_v1 e N n 0 [x2, x3, x4, x5, x6] [] S) x2 x3 x4 x5 x6 S := by
  rw [El_Tape_takeWord_v1]
  rfl
theorem w_len2 {e : w_E} {N : Nat} (S : w_S) : E_String_length_v2 e N S = some (((wl 2).length : Int), S) := rfl
theorem w_tree2 {e : w_E} {N : Nat} (n : Nat) (x2 x3 x4 x5 x6 : Int) (S : w_S) : El_Tape_takeWord_v2 e N (n + 1) 0 [x2, x3, x4, x5, x6] [] S = wtree (E_String_length_v2 e N) (E_String_charAt 1000004) (fun x2 x3 x4 x5 x6 S => El_Tape_takeWord_v2 e N n 0 [x2, x3, x4, x5, x6] [] S) x2 x3 x4 x5 x6 S := by
  rw [El_Tape_takeWord_v2]
  rfl
theorem w_len3 {e : w_E} {N : Nat} (S : w_S) : E_String_length_v3 e N S = some (((wl 3).length : Int), S) := rfl
theorem w_tree3 {e : w_E} {N : Nat} (n : Nat) (x2 x3 x4 x5 x6 : Int) (S : w_S) : El_Tape_takeWord_v3 e N (n + 1) 0 [x2, x3, x4, x5, x6] [] S = wtree (E_String_length_v3 e N) (E_String_charAt 1000006) (fun x2 x3 x4 x5 x6 S => El_Tape_takeWord_v3 e N n 0 [x2, x3, x4, x5, x6] [] S) x2 x3 x4 x5 x6 S := by
  rw [El_Tape_takeWord_v3]
  rfl
theorem w_len4 {e : w_E} {N : Nat} (S : w_S) : E_String_length_v4 e N S = some (((wl 4).length : Int), S) := rfl
theorem w_tree4 {e : w_E} {N : Nat} (n : Nat) (x2 x3 x4 x5 x6 : Int) (S : w_S) : El_Tape_takeWord_v4 e N (n + 1) 0 [x2, x3, x4, x5, x6] [] S = wtree (E_String_length_v4 e N) (E_String_charAt 1000008) (fun x2 x3 x4 x5 x6 S => El_Tape_takeWord_v4 e N n 0 [x2, x3, x4, x5, x6] [] S) x2 x3 x4 x5 x6 S := by
  rw [El_Tape_takeWord_v4]
  rfl
theorem w_len5 {e : w_E} {N : Nat} (S : w_S) : E_String_length_v5 e N S = some (((wl 5).length : Int), S) := rfl
theorem w_tree5 {e : w_E} {N : Nat} (n : Nat) (x2 x3 x4 x5 x6 : Int) (S : w_S) : El_Tape_takeWord_v5 e N (n + 1) 0 [x2, x3, x4, x5, x6] [] S = wtree (E_String_length_v5 e N) (E_String_charAt 1000010) (fun x2 x3 x4 x5 x6 S => El_Tape_takeWord_v5 e N n 0 [x2, x3, x4, x5, x6] [] S) x2 x3 x4 x5 x6 S := by
  rw [El_Tape_takeWord_v5]
  rfl
theorem w_len6 {e : w_E} {N : Nat} (S : w_S) : E_String_length_v6 e N S = some (((wl 6).length : Int), S) := rfl
theorem w_tree6 {e : w_E} {N : Nat} (n : Nat) (x2 x3 x4 x5 x6 : Int) (S : w_S) : El_Tape_takeWord_v6 e N (n + 1) 0 [x2, x3, x4, x5, x6] [] S = wtree (E_String_length_v6 e N) (E_String_charAt 1000012) (fun x2 x3 x4 x5 x6 S => El_Tape_takeWord_v6 e N n 0 [x2, x3, x4, x5, x6] [] S) x2 x3 x4 x5 x6 S := by
  rw [El_Tape_takeWord_v6]
  rfl
theorem w_len7 {e : w_E} {N : Nat} (S : w_S) : E_String_length_v7 e N S = some (((wl 7).length : Int), S) := rfl
theorem w_tree7 {e : w_E} {N : Nat} (n : Nat) (x2 x3 x4 x5 x6 : Int) (S : w_S) : El_Tape_takeWord_v7 e N (n + 1) 0 [x2, x3, x4, x5, x6] [] S = wtree (E_String_length_v7 e N) (E_String_charAt 1000014) (fun x2 x3 x4 x5 x6 S => El_Tape_takeWord_v7 e N n 0 [x2, x3, x4, x5, x6] [] S) x2 x3 x4 x5 x6 S := by
  rw [El_Tape_takeWord_v7]
  rfl
theorem w_len8 {e : w_E} {N : Nat} (S : w_S) : E_String_length_v8 e N S = some (((wl 8).length : Int), S) := rfl
theorem w_tree8 {e : w_E} {N : Nat} (n : Nat) (x2 x3 x4 x5 x6 : Int) (S : w_S) : El_Tape_takeWord_v8 e N (n + 1) 0 [x2, x3, x4, x5, x6] [] S = wtree (E_String_length_v8 e N) (E_String_charAt 1000016) (fun x2 x3 x4 x5 x6 S => El_Tape_takeWord_v8 e N n 0 [x2, x3, x4, x5, x6] [] S) x2 x3 x4 x5 x6 S := by
  rw [El_Tape_takeWord_v8]
  rfl
theorem t_len0 {e : w_E} {N : Nat} (S : w_S) : E_String_length_v9 e N S = some (((wl 15).length : Int), S) := rfl
theorem t_tree0 {e : w_E} {N : Nat} (n : Nat) (x1 x3 : Int) (S : w_S) : El_R_literal e N (n + 1) 0 [x1, x3] [] S = ltree e N (E_String_length_v9 e N) (E_String_charAt 1000030) (fun x1 x3 S => El_R_literal e N n 0 [x1, x3] [] S) x1 x3 S := by
  rw [El_R_literal]
  rfl
theorem t_len1 {e : w_E} {N : Nat} (S : w_S) : E_String_length_v10 e N S = some (((wl 17).length : Int), S) := rfl
theorem t_tree1 {e : w_E} {N : Nat} (n : Nat) (x1 x3 : Int) (S : w_S) : El_R_literal_v1 e N (n + 1) 0 [x1, x3] [] S = ltree e N (E_String_length_v10 e N) (E_String_charAt 1000034) (fun x1 x3 S => El_R_literal_v1 e N n 0 [x1, x3] [] S) x1 x3 S := by
  rw [El_R_literal_v1]
  rfl
theorem t_len2 {e : w_E} {N : Nat} (S : w_S) : E_String_length_v11 e N S = some (((wl 16).length : Int), S) := rfl
theorem t_tree2 {e : w_E} {N : Nat} (n : Nat) (x1 x3 : Int) (S : w_S) : El_R_literal_v2 e N (n + 1) 0 [x1, x3] [] S = ltree e N (E_String_length_v11 e N) (E_String_charAt 1000032) (fun x1 x3 S => El_R_literal_v2 e N n 0 [x1, x3] [] S) x1 x3 S := by
  rw [El_R_literal_v2]
  rfl
theorem t_len3 {e : w_E} {N : Nat} (S : w_S) : E_String_length_v12 e N S = some (((wl 21).length : Int), S) := rfl
theorem t_tree3 {e : w_E} {N : Nat} (n : Nat) (x1 x3 : Int) (S : w_S) : El_R_literal_v3 e N (n + 1) 0 [x1, x3] [] S = ltree e N (E_String_length_v12 e N) (E_String_charAt 1000042) (fun x1 x3 S => El_R_literal_v3 e N n 0 [x1, x3] [] S) x1 x3 S := by
  rw [El_R_literal_v3]
  rfl
theorem t_len4 {e : w_E} {N : Nat} (S : w_S) : E_String_length_v13 e N S = some (((wl 20).length : Int), S) := rfl
theorem t_tree4 {e : w_E} {N : Nat} (n : Nat) (x1 x3 : Int) (S : w_S) : El_R_literal_v4 e N (n + 1) 0 [x1, x3] [] S = ltree e N (E_String_length_v13 e N) (E_String_charAt 1000040) (fun x1 x3 S => El_R_literal_v4 e N n 0 [x1, x3] [] S) x1 x3 S := by
  rw [El_R_literal_v4]
  rfl
theorem t_len5 {e : w_E} {N : Nat} (S : w_S) : E_String_length_v14 e N S = some (((wl 19).length : Int), S) := rfl
theorem t_tree5 {e : w_E} {N : Nat} (n : Nat) (x1 x3 : Int) (S : w_S) : El_R_literal_v5 e N (n + 1) 0 [x1, x3] [] S = ltree e N (E_String_length_v14 e N) (E_String_charAt 1000038) (fun x1 x3 S => El_R_literal_v5 e N n 0 [x1, x3] [] S) x1 x3 S := by
  rw [El_R_literal_v5]
  rfl
theorem t_len6 {e : w_E} {N : Nat} (S : w_S) : E_String_length_v15 e N S = some (((wl 18).length : Int), S) := rfl
theorem t_tree6 {e : w_E} {N : Nat} (n : Nat) (x1 x3 : Int) (S : w_S) : El_R_literal_v6 e N (n + 1) 0 [x1, x3] [] S = ltree e N (E_String_length_v15 e N) (E_String_charAt 1000036) (fun x1 x3 S => El_R_literal_v6 e N n 0 [x1, x3] [] S) x1 x3 S := by
  rw [El_R_literal_v6]
  rfl
theorem t_len7 {e : w_E} {N : Nat} (S : w_S) : E_String_length_v16 e N S = some (((wl 11).length : Int), S) := rfl
theorem t_tree7 {e : w_E} {N : Nat} (n : Nat) (x1 x3 : Int) (S : w_S) : El_R_literal_v7 e N (n + 1) 0 [x1, x3] [] S = ltree e N (E_String_length_v16 e N) (E_String_charAt 1000022) (fun x1 x3 S => El_R_literal_v7 e N n 0 [x1, x3] [] S) x1 x3 S := by
  rw [El_R_literal_v7]
  rfl
theorem t_len8 {e : w_E} {N : Nat} (S : w_S) : E_String_length_v17 e N S = some (((wl 10).length : Int), S) := rfl
theorem t_tree8 {e : w_E} {N : Nat} (n : Nat) (x1 x3 : Int) (S : w_S) : El_R_literal_v8 e N (n + 1) 0 [x1, x3] [] S = ltree e N (E_String_length_v17 e N) (E_String_charAt 1000020) (fun x1 x3 S => El_R_literal_v8 e N n 0 [x1, x3] [] S) x1 x3 S := by
  rw [El_R_literal_v8]
  rfl
theorem t_len9 {e : w_E} {N : Nat} (S : w_S) : E_String_length_v18 e N S = some (((wl 9).length : Int), S) := rfl
theorem t_tree9 {e : w_E} {N : Nat} (n : Nat) (x1 x3 : Int) (S : w_S) : El_R_literal_v9 e N (n + 1) 0 [x1, x3] [] S = ltree e N (E_String_length_v18 e N) (E_String_charAt 1000018) (fun x1 x3 S => El_R_literal_v9 e N n 0 [x1, x3] [] S) x1 x3 S := by
  rw [El_R_literal_v9]
  rfl
theorem t_len10 {e : w_E} {N : Nat} (S : w_S) : E_String_length_v19 e N S = some (((wl 14).length : Int), S) := rfl
theorem t_tree10 {e : w_E} {N : Nat} (n : Nat) (x1 x3 : Int) (S : w_S) : El_R_literal_v10 e N (n + 1) 0 [x1, x3] [] S = ltree e N (E_String_length_v19 e N) (E_String_charAt 1000028) (fun x1 x3 S => El_R_literal_v10 e N n 0 [x1, x3] [] S) x1 x3 S := by
  rw [El_R_literal_v10]
  rfl
theorem t_len11 {e : w_E} {N : Nat} (S : w_S) : E_String_length_v20 e N S = some (((wl 13).length : Int), S) := rfl
theorem t_tree11 {e : w_E} {N : Nat} (n : Nat) (x1 x3 : Int) (S : w_S) : El_R_literal_v11 e N (n + 1) 0 [x1, x3] [] S = ltree e N (E_String_length_v20 e N) (E_String_charAt 1000026) (fun x1 x3 S => El_R_literal_v11 e N n 0 [x1, x3] [] S) x1 x3 S := by
  rw [El_R_literal_v11]
  rfl
theorem t_len12 {e : w_E} {N : Nat} (S : w_S) : E_String_length_v21 e N S = some (((wl 12).length : Int), S) := rfl
theorem t_tree12 {e : w_E} {N : Nat} (n : Nat) (x1 x3 : Int) (S : w_S) : El_R_literal_v12 e N (n + 1) 0 [x1, x3] [] S = ltree e N (E_String_length_v21 e N) (E_String_charAt 1000024) (fun x1 x3 S => El_R_literal_v12 e N n 0 [x1, x3] [] S) x1 x3 S := by
  rw [El_R_literal_v12]
  rfl
theorem t_len13 {e : w_E} {N : Nat} (S : w_S) : E_String_length_v22 e N S = some (((wl 22).length : Int), S) := rfl
theorem t_tree13 {e : w_E} {N : Nat} (n : Nat) (x1 x3 : Int) (S : w_S) : El_R_literal_v13 e N (n + 1) 0 [x1, x3] [] S = ltree e N (E_String_length_v22 e N) (E_String_charAt 1000044) (fun x1 x3 S => El_R_literal_v13 e N n 0 [x1, x3] [] S) x1 x3 S := by
  rw [El_R_literal_v13]
  rfl
end
section
-- c2
/-- the class's trying of words: which one, how long it is, how far any went -/
def tw (B : Int → Int) : List Int → Int → Int → Int → Bool → Int × Int × Int
  | [], i, m, b, bad => if bad = true then (-1, 0, b) else (i, m, b)
  | c :: cs, i, m, b, bad => if c = 124 then (if bad = true then tw B cs (i + 1) 0 b false else (i, m, b)) else if bad = true then tw B cs i m b true else if B m = c then tw B cs i (m + 1) (max b (m + 1)) false else tw B cs i m b true
theorem tw_bd {B : Int → Int} {x : Int} (hx : 0 ≤ x) (hB : ∀ m, 0 ≤ m → 0 ≤ B m → m < x) : ∀ (cs : List Int) (i m b : Int) (bad : Bool), (∀ c, c ∈ cs → 0 ≤ c ∧ c ≤ 127) → 0 ≤ i → 0 ≤ m → m ≤ x → 0 ≤ b → b ≤ x → -1 ≤ (tw B cs i m b bad).1 ∧ 0 ≤ (tw B cs i m b bad).2.1 ∧ (tw B cs i m b bad).2.1 ≤ x ∧ 0 ≤ (tw B cs i m b bad).2.2 ∧ (tw B cs i m b bad).2.2 ≤ x
  | [], i, m, b, bad, _, h1, h2, h3, h4, h5 => by
    rw [tw]
    split <;> (dsimp only; omega)
  | c :: cs, i, m, b, bad, hc, h1, h2, h3, h4, h5 => by
    have hc0 := hc c (List.mem_cons_self ..)
    have hc' : ∀ d, d ∈ cs → 0 ≤ d ∧ d ≤ 127 := fun d hd => hc d (List.mem_cons_of_mem _ hd)
    rw [tw]
    split
    · split
      · exact tw_bd hx hB cs (i + 1) 0 b false hc' (by omega) (by omega) hx h4 h5
      · dsimp only
        omega
    · split
      · exact tw_bd hx hB cs i m b true hc' h1 h2 h3 h4 h5
      · split
        · rename_i d
          have := hB m h2 (by omega)
          exact tw_bd hx hB cs i (m + 1) (max b (m + 1)) false hc' h1 (by omega) (by omega) (by omega) (by omega)
        · exact tw_bd hx hB cs i m b true hc' h1 h2 h3 h4 h5
theorem l_word {L : List Int} {eL : w_S → e_R} {eC : Int → w_S → e_R} {F : Nat → Int → Int → Int → Int → Int → w_S → e_R} {S : w_S} {f len a w : Int} {G : Int → Int} (h : TX S f len G) (hL : L.length ≤ 1000) (hc : ∀ c, c ∈ L → 0 ≤ c ∧ c ≤ 127) (ha : f ≤ a) (ha2 : a ≤ f + len) (hF : ∀ n x2 x3 x4 x5 x6 T, F (n + 1) x2 x3 x4 x5 x6 T = wtree eL eC (F n) x2 x3 x4 x5 x6 T) (heL : ∀ T, eL T = some ((L.length : Int), T)) (heC : ∀ (k : Nat) T, k < L.length → eC (k : Int) T = some (L.getD k 0, T)) (hw : w = -1 ∨ 0 ≤ w) : ∀ (cs : List Int) (k nf : Nat) (x2 x3 x4 x5 : Int), cs.length + 1 < nf → L.drop k = cs → k ≤ L.length → 0 ≤ x2 → x2 ≤ k → 0 ≤ x3 → a + x3 ≤ f + len → 0 ≤ x4 → a + x4 ≤ f + len → F nf x2 x3 x4 x5 (k : Int) (tp S a w) = some (if 0 ≤ (tw (fun p => G (a - f + p)) cs x2 x3 x4 (decide (x5 ≠ 0))).1 then ((tw (fun p => G (a - f + p)) cs x2 x3 x4 (decide (x5 ≠ 0))).1, tp S (a + (tw (fun p => G (a - f + p)) cs x2 x3 x4 (decide (x5 ≠ 0))).2.1) w) else (-1, tp S a (if w = -1 then a + (tw (fun p => G (a - f + p)) cs x2 x3 x4 (decide (x5 ≠ 0))).2.2 - f else w)))
  | _, _, 0, _, _, _, _, hf, _, _, _, _, _, _, _, _ => by omega
  | [], k, nf + 1, x2, x3, x4, x5, hf, hd, hk, a1, a2, a3, a4, a5, a6 => by
    obtain ⟨h1, h2, h3, h4, h5, h6, h7⟩ := h
    have kl : k = L.length := by
      have := congrArg List.length hd
      rw [List.length_drop, List.length_nil] at this
      omega
    rw [hF, wtree, heL]
    show (if (L.length : Int) < (k : Int) then _ else ((eL (tp S a w)).bind _)) = _
    rw [if_neg (by omega), heL]
    show (if (k : Int) = (L.length : Int) then _ else _) = _
    rw [if_pos (by omega), tw]
    by_cases c : x5 ≠ 0
    · rw [if_pos c, if_pos (by rw [w_nbE]; omega), if_pos (by rw [w_nbE]; omega)]
      obtain ⟨nf', hn⟩ : ∃ m, nf = m + 1 := ⟨nf - 1, by omega⟩
      rw [hn, hF, wtree, heL]
      show (if (L.length : Int) < (k : Int) + 1 then _ else _) = _
      rw [if_pos (by omega)]
      show (if (tp S a w).1 1 6 ≠ -1 then some (-1, tp S a w) else (if w_nb ((tp S a w).1 1 4 + x4) = true then (if w_nb (((tp S a w).1 1 4 + x4) - (tp S a w).1 1 3) = true then some (-1, w_put (tp S a w) 1 6 (((tp S a w).1 1 4 + x4) - (tp S a w).1 1 3)) else none) else none)) = _
      rw [tp4, tp6, tp3, tp_p6, h1]
      rw [show (if decide (x5 ≠ 0) = true then ((-1 : Int), (0 : Int), x4) else (x2, x3, x4)) = (-1, 0, x4) from if_pos (decide_eq_true c)]
      show _ = some (if (0 : Int) ≤ -1 then _ else _)
      rw [if_neg (show ¬ (0 : Int) ≤ -1 by decide)]
      by_cases d : w = -1
      · rw [if_neg (by omega), if_pos (by rw [w_nbE]; omega), if_pos (by rw [w_nbE]; omega), if_pos d]
      · rw [if_pos d, if_neg d]
    · rw [if_neg c]
      show (if w_nb ((tp S a w).1 1 4 + x3) = true then some (x2, w_put (tp S a w) 1 4 ((tp S a w).1 1 4 + x3)) else none) = _
      rw [tp4, tp_p4, if_pos (by rw [w_nbE]; omega)]
      rw [show (if decide (x5 ≠ 0) = true then ((-1 : Int), (0 : Int), x4) else (x2, x3, x4)) = (x2, x3, x4) from if_neg (by rw [decide_eq_true_eq]; exact c)]
      show _ = some (if 0 ≤ x2 then (x2, tp S (a + x3) w) else _)
      rw [if_pos a1]
  | c :: cs, k, nf + 1, x2, x3, x4, x5, hf, hd, hk, a1, a2, a3, a4, a5, a6 => by
    have hh := h
    obtain ⟨h1, h2, h3, h4, h5, h6, h7⟩ := hh
    clear h7
    have kl : k < L.length := by
      have := congrArg List.length hd
      rw [List.length_drop, List.length_cons] at this
      omega
    have hd' : L.drop (k + 1) = cs := by
      rw [← List.drop_drop, hd]
      rfl
    have hg : L[k]? = some c := by
      have := List.getElem?_drop (xs := L) (i := k) (j := 0)
      rw [hd] at this
      exact this.symm
    have hgd : L.getD k 0 = c := by
      rw [List.getD_eq_getElem?_getD, hg]
      rfl
    have hcm : c ∈ L := List.mem_of_getElem? hg
    have hcb := hc c hcm
    have ih := l_word h hL hc ha ha2 hF heL heC hw cs (k + 1) nf
    rw [show ((k + 1 : Nat) : Int) = (k : Int) + 1 by omega] at ih
    rw [hF, wtree, heL]
    show (if (L.length : Int) < (k : Int) then _ else ((eL (tp S a w)).bind _)) = _
    rw [if_neg (by omega), heL]
    show (if (k : Int) = (L.length : Int) then _ else ((eC (k : Int) (tp S a w)).bind _)) = _
    rw [if_neg (by omega), heC k _ kl, hgd]
    show (if c ≠ 124 then _ else _) = _
    rw [List.length_cons] at hf
    by_cases c1 : c = 124
    · rw [if_neg (by omega : ¬ c ≠ 124)]
      by_cases c2 : x5 ≠ 0
      · rw [show tw (fun p => G (a - f + p)) (c :: cs) x2 x3 x4 (decide (x5 ≠ 0)) = tw (fun p => G (a - f + p)) cs (x2 + 1) 0 x4 (decide ((0 : Int) ≠ 0)) by rw [tw, if_pos c1, if_pos (decide_eq_true c2)]; rfl]
        rw [if_pos c2, if_pos (by rw [w_nbE]; omega), if_pos (by rw [w_nbE]; omega)]
        exact ih (x2 + 1) 0 x4 0 (by omega) hd' (by omega) (by omega) (by omega) (by omega) (by omega) (by omega) (by omega)
      · rw [show tw (fun p => G (a - f + p)) (c :: cs) x2 x3 x4 (decide (x5 ≠ 0)) = (x2, x3, x4) by rw [tw, if_pos c1, if_neg (by rw [decide_eq_true_eq]; exact c2)]]
        rw [if_neg c2]
        show (if w_nb ((tp S a w).1 1 4 + x3) = true then some (x2, w_put (tp S a w) 1 4 ((tp S a w).1 1 4 + x3)) else none) = _
        rw [tp4, tp_p4, if_pos (by rw [w_nbE]; omega)]
        show _ = some (if 0 ≤ x2 then (x2, tp S (a + x3) w) else _)
        rw [if_pos a1]
    · rw [if_pos c1]
      by_cases c2 : x5 ≠ 0
      · rw [show tw (fun p => G (a - f + p)) (c :: cs) x2 x3 x4 (decide (x5 ≠ 0)) = tw (fun p => G (a - f + p)) cs x2 x3 x4 (decide ((1 : Int) ≠ 0)) by rw [tw, if_neg c1, if_pos (decide_eq_true c2)]; rfl]
        rw [if_pos c2, if_pos (by rw [w_nbE]; omega)]
        exact ih x2 x3 x4 1 (by omega) hd' (by omega) (by omega) (by omega) (by omega) (by omega) (by omega) (by omega)
      · rw [if_neg c2]
        show (if w_nb ((tp S a w).1 1 4 + x3) = true then (if (tp S a w).1 1 5 ≤ (tp S a w).1 1 4 + x3 then (if w_nb ((k : Int) + 1) = true then F nf x2 x3 x4 1 ((k : Int) + 1) (tp S a w) else none) else (if w_ib ((tp S a w).1 1 4 + x3) 10240 = true then ((eC (k : Int) (tp S a w)).bind (fun q253 => (if (tp S a w).1 2 ((tp S a w).1 1 4 + x3).toNat ≠ q253.1 then (if w_nb ((k : Int) + 1) = true then F nf x2 x3 x4 1 ((k : Int) + 1) q253.2 else none) else (if w_nb (x3 + 1) = true then (if w_nb ((k : Int) + 1) = true then F nf x2 (x3 + 1) (max x4 (x3 + 1)) x5 ((k : Int) + 1) q253.2 else none) else none)))) else none)) else none) = _
        rw [tp4, tp5, tp_2, h2, if_pos (by rw [w_nbE]; omega)]
        have n1 : w_nb ((k : Int) + 1) = true := by rw [w_nbE]; omega
        have kt := tx_at h (show 0 ≤ a - f + x3 by omega)
        rw [show f + (a - f + x3) = a + x3 by omega] at kt
        have bad : ¬ G (a - f + x3) = c → tw (fun p => G (a - f + p)) (c :: cs) x2 x3 x4 (decide (x5 ≠ 0)) = tw (fun p => G (a - f + p)) cs x2 x3 x4 (decide ((1 : Int) ≠ 0)) := fun z => by
          rw [tw, if_neg c1, if_neg (by rw [decide_eq_true_eq]; exact c2), if_neg z]
          rfl
        by_cases c3 : f + len ≤ a + x3
        · rw [if_pos c3, if_pos n1]
          have := kt.2 (by omega)
          rw [bad (by omega)]
          exact ih x2 x3 x4 1 (by omega) hd' (by omega) (by omega) (by omega) (by omega) (by omega) (by omega) (by omega)
        · rw [if_neg c3, if_pos (by rw [w_ibE]; omega), heC k _ kl, hgd]
          have k1 := kt.1 (by omega)
          show (if S.1 2 (a + x3).toNat ≠ c then (if w_nb ((k : Int) + 1) = true then F nf x2 x3 x4 1 ((k : Int) + 1) (tp S a w) else none) else (if w_nb (x3 + 1) = true then (if w_nb ((k : Int) + 1) = true then F nf x2 (x3 + 1) (max x4 (x3 + 1)) x5 ((k : Int) + 1) (tp S a w) else none) else none)) = _
          rw [if_pos n1]
          by_cases c4 : S.1 2 (a + x3).toNat = c
          · rw [if_neg (by omega), if_pos (by rw [w_nbE]; omega), if_pos n1]
            have gd : G (a - f + x3) = c := by omega
            have x50 : x5 = 0 := by omega
            subst x50
            rw [show tw (fun p => G (a - f + p)) (c :: cs) x2 x3 x4 (decide ((0 : Int) ≠ 0)) = tw (fun p => G (a - f + p)) cs x2 (x3 + 1) (max x4 (x3 + 1)) (decide ((0 : Int) ≠ 0)) by rw [tw, if_neg c1, if_neg (by decide), if_pos gd]; rfl]
            exact ih x2 (x3 + 1) (max x4 (x3 + 1)) 0 (by omega) hd' (by omega) (by omega) (by omega) (by omega) (by omega) (by omega) (by omega)
          · rw [if_pos c4]
            rw [bad (by omega)]
            exact ih x2 x3 x4 1 (by omega) hd' (by omega) (by omega) (by omega) (by omega) (by omega) (by omega) (by omega)
/-- a word of a list: where it ends, or what is wrong -/
def pK (L : List Int) (G : Int → Int) (q : Int) : Int := if q < 0 then q else if 0 ≤ (tw (fun p => G (q + p)) L 0 0 0 false).1 then q + (tw (fun p => G (q + p)) L 0 0 0 false).2.1 else -1 - (q + (tw (fun p => G (q + p)) L 0 0 0 false).2.2)
theorem x_word {L : List Int} {eL : w_S → e_R} {eC : Int → w_S → e_R} {F : Nat → Int → Int → Int → Int → Int → w_S → e_R} {nf : Nat} {S : w_S} {f len a w q : Int} {G : Int → Int} (h : TX S f len G) (ha : At f len a w q) (hL : L.length ≤ 1000) (hc : ∀ c, c ∈ L → 0 ≤ c ∧ c ≤ 127) (hF : ∀ n x2 x3 x4 x5 x6 T, F (n + 1) x2 x3 x4 x5 x6 T = wtree eL eC (F n) x2 x3 x4 x5 x6 T) (heL : ∀ T, eL T = some ((L.length : Int), T)) (heC : ∀ (k : Nat) T, k < L.length → eC (k : Int) T = some (L.getD k 0, T)) (hf : L.length + 1 < nf) : Ok (F nf 0 0 0 0 0 (tp S a w)) (Tk S f len (pK L G q) (fun y => y = (tw (fun p => G (q + p)) L 0 0 0 false).1 ∧ 0 ≤ y)) := by
  have hr := ha.right
  have a1 := ha.1
  have a2 := ha.2.1
  have hl := h.2.2.2.1
  have key := l_word (eL := eL) (eC := eC) (F := F) (w := w) h hL hc a1 a2 hF heL heC (by have := ha.2.2; omega) L 0 nf 0 0 0 0 hf rfl (by omega) (by omega) (by omega) (by omega) (by omega) (by omega) (by omega)
  have bd := tw_bd (B := fun p => G (a - f + p)) (x := f + len - a) (by omega) (fun m m0 m1 => by
    rcases Int.lt_or_le m (f + len - a) with c | c
    · exact c
    · have := h.e (a - f + m) (by omega)
      omega) L 0 0 0 false hc (by omega) (by omega) (by omega) (by omega) (by omega)
  rw [show decide ((0 : Int) ≠ 0) = false from rfl] at key
  unfold pK
  by_cases c : q < 0
  · obtain ⟨r1, r2⟩ := hr.2 c
    rw [if_pos c]
    generalize tw (fun p => G (a - f + p)) L 0 0 0 false = t at key bd
    rw [if_neg (by omega : ¬ w = -1)] at key
    by_cases d : 0 ≤ t.1
    · rw [if_pos d] at key
      refine ok_of key ?_
      exact ⟨_, _, rfl, ⟨by omega, by omega, Or.inr ⟨by omega, by omega⟩⟩, fun z => by omega⟩
    · rw [if_neg d] at key
      refine ok_of key ?_
      exact ⟨_, _, rfl, ⟨by omega, by omega, Or.inr ⟨by omega, by omega⟩⟩, fun z => by omega⟩
  · obtain ⟨r1, r2, r3⟩ := hr.1 (by omega)
    rw [if_neg c]
    rw [show a - f = q by omega] at key bd
    generalize tw (fun p => G (q + p)) L 0 0 0 false = t at key bd ⊢
    rw [if_pos r1] at key
    by_cases d : 0 ≤ t.1
    · rw [if_pos d] at key ⊢
      refine ok_of key ?_
      exact ⟨_, _, rfl, ⟨by omega, by omega, Or.inl ⟨by omega, by omega⟩⟩, fun z => ⟨rfl, d⟩⟩
    · rw [if_neg d] at key ⊢
      refine ok_of key ?_
      exact ⟨_, _, rfl, ⟨by omega, by omega, Or.inr ⟨by omega, by omega⟩⟩, fun z => by omega⟩
end
