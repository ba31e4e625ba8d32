section
-- ei
/-- a record goes, and its copies that are in -/
theorem go_rel {S R S1 R1 : w_S} {r : Nat} {t : Int} (hL : RelL S R t) (hV : RelV S R) (h1 : 1 ≤ r) (h2 : (r : Int) ≤ S.1 3 0) (f : frm DS [120] [(120, 0)] S S1) (g : frm DR [129] [(129, 37)] R R1) (c5 : S1.1 5 = pt (S.1 5) r (S.1 27 1)) (c6 : S1.1 6 = pt (S.1 6) r (S.1 27 1)) (c66 : ∀ c, S1.1 66 c = S.1 66 c) (c68 : ∀ c, S1.1 68 c = S.1 68 c) (c65 : ∀ c, S1.1 65 c = if 1 ≤ c ∧ c < 1 + (S.1 62 3).toNat ∧ S.1 63 c = (r : Int) ∧ S.1 65 c = 0 then 3 else S.1 65 c) (d4 : R1.1 134 = pt (R.1 134) r (S.1 27 1)) (d5 : R1.1 135 = pt (R.1 135) r (S.1 27 1)) (d71 : ∀ c, R1.1 171 c = if 1 ≤ c ∧ c < 1 + (R.1 129 68).toNat ∧ R.1 169 c = (r : Int) ∧ R.1 171 c = 0 then 3 else R.1 171 c) : RelL S1 R1 t ∧ RelV S1 R1 := by
  obtain ⟨hT, hP, hQ, hG, hRd, hLn, hBk, hCs, hCd, hLo, hCl, hRu⟩ := hL
  obtain ⟨t1, t2, t3, _⟩ := hT
  have s3 : S1.1 3 0 = S.1 3 0 := by rw [f.2.1 3 rfl rfl]
  have s27 : S1.1 27 1 = S.1 27 1 := by rw [f.2.1 27 rfl rfl]
  have hCs' := hCs
  obtain ⟨cs1, cs2, cs3, cs4⟩ := hCs'
  have s65 : ∀ c : Nat, 1 ≤ c → (c : Int) ≤ S.1 62 3 → R1.1 171 c = S1.1 65 c ∧ (S1.1 65 c = S.1 65 c ∨ S.1 65 c = 0 ∧ S1.1 65 c = 3) := by
    intro c a b
    have e1 := (cs4 c a b).1
    have e2 := (hCd c a b (by omega)).1.1
    rw [c65, d71, e1, e2]
    by_cases z : S.1 63 c = (r : Int) ∧ S.1 65 c = 0
    · rw [if_pos ⟨a, by omega, z⟩, if_pos ⟨a, by omega, z⟩]
      exact ⟨rfl, Or.inr ⟨z.2, rfl⟩⟩
    · rw [if_neg (fun w => z w.2.2), if_neg (fun w => z w.2.2)]
      exact ⟨rfl, Or.inl rfl⟩
  refine ⟨⟨?_, hP.fr f g (by decide), hQ.fr f g (by decide), ?_, hRd.fr f g (by decide), hLn.fr f g (by decide), hBk.fr f g (by decide), hCs.fr f g (by decide), ?_, ?_, hCl.fr f g (by decide), hRu.fr f g (by decide)⟩, ?_⟩
  · refine RelT.fr ⟨t1, t2, t3, by assumption⟩ f g (by decide)
  · obtain ⟨g1, g2, g3, g4⟩ := hG
    refine ⟨by rw [s3, g.2.2 129 13 rfl rfl]; exact g1, by rw [s3]; exact g2, by rw [s3]; exact g3, fun k k1 k2 => ?_⟩
    rw [s3] at k2
    rw [c5, d4, pt_at, pt_at]
    by_cases z : k = r
    · rw [if_pos z, if_pos z]
      exact ⟨rfl, by omega, t2⟩
    · rw [if_neg z, if_neg z]
      exact g4 k k1 k2
  · intro k k1 k2 k3
    rw [f.2.1 62 rfl rfl] at k2
    obtain ⟨⟨a1, a2, a3, a4, a5, a6⟩, b1, b2, b3, b4, b5, b6, b7, b8, b9, b10, b11, b12⟩ := hCd k k1 k2 k3
    obtain ⟨z1, z2⟩ := s65 k k1 k2
    rw [c66, c68, f.2.1 67 rfl rfl, f.2.1 69 rfl rfl, f.2.1 71 rfl rfl, f.2.1 46 rfl rfl, f.2.1 50 rfl rfl, f.2.1 51 rfl rfl, f.2.1 56 rfl rfl, g.2.1 172 rfl rfl, g.2.1 173 rfl rfl, g.2.1 174 rfl rfl, g.2.1 175 rfl rfl, g.2.1 177 rfl rfl]
    rcases z2 with z2 | ⟨z2, z3⟩
    · rw [z2] at z1 ⊢
      exact ⟨⟨z1, a2, a3, a4, a5, a6⟩, b1, b2, b3, b4, b5, b6, b7, b8, b9, b10, b11, b12⟩
    · rw [z3] at z1 ⊢
      refine ⟨⟨z1, a2, a3, a4, a5, fun w => by omega⟩, by omega, by omega, b3, b4, b5, b6, b7, b8, fun w => by omega, fun w => by omega, fun _ => b11 (Or.inl z2), fun _ => b12 (by omega)⟩
  · intro l l1 l2 l3
    rw [f.2.1 46 rfl rfl] at l2
    rw [f.2.1 56 rfl rfl] at l3
    obtain ⟨q1, q2, q3⟩ := hLo l l1 l2 l3
    rw [f.2.1 51 rfl rfl, f.2.1 67 rfl rfl]
    refine ⟨q1, ?_, q3⟩
    rw [c65, if_neg (by omega)]
    exact q2
  · intro k k1 k2
    rw [s3] at k2
    obtain ⟨v1, v2, v3⟩ := hV k k1 k2
    rw [c6, d5, f.2.1 7 rfl rfl, g.2.1 201 rfl rfl, pt_at, pt_at]
    refine ⟨?_, v2, v3⟩
    by_cases z : k = r
    · rw [if_pos z, if_pos z]
    · rw [if_neg z, if_neg z]
      exact v1
theorem l_disp {e : w_E} {N : Nat} {t top : Int} {ta L E V n : Nat} (hN : 16000000 ≤ N) (htop : top ≤ 10240) : ∀ (k r c nf nr : Nat) (S R : w_S), RelD S R t top ta L E V n → 1 ≤ r → (r : Int) + k = S.1 3 0 + 1 → k < nf → 203 * k < nr → c ≤ r → Ok (El_C_disposeAll e N nf 0 [(c : Int), (r : Int)] [] S) (fun y S1 => Ok (El_R_doDispose e N nr 0 [(c : Int), (r : Int)] [] R) (fun y' R1 => y' = y ∧ (c : Int) ≤ y ∧ frm DS [120] [(120, 0)] S S1 ∧ frm DR [129] [(129, 37)] R R1 ∧ RelD S1 R1 t top ta L E V n))
  | _, _, _, 0, _, _, _, _, _, _, h, _, _ => by omega
  | _, _, _, _ + 1, 0, _, _, _, _, _, _, h, _ => by omega
  | 0, r, c, nf + 1, nr + 1, S, R, g1, g2, g3, g4, g5, g6 => by
    have hG := g1.1.2.2.2.1
    rw [El_C_disposeAll, El_R_doDispose, hG.1]
    exact ok_t (by omega) (ok_s (ok_t (by omega) (ok_s ⟨rfl, by omega, frm.refl _ _ _ _, frm.refl _ _ _ _, g1⟩)))
  | k + 1, r, c, nf + 1, nr + 1, S, R, g1, g2, g3, g4, g5, g6 => by
    have hG := g1.1.2.2.2.1
    have h150 := hG.2.2.1
    obtain ⟨b, ⟨y, S2, q1, q2, q3⟩, ⟨y', R2, p1, p2, p3⟩, _⟩ := RelD.may (e := e) hN htop g1 g2 (by omega)
    have g1' := g1.ask q3 p3
    have s3 : S2.1 3 0 = S.1 3 0 := by rw [q3.2.1 3 rfl rfl]
    rw [El_C_disposeAll, El_R_doDispose, hG.1]
    refine ok_e (by omega) (ok_b (ok_of q1 ?_))
    dsimp only
    subst q2 p2
    rw [show ((r : Int)).toNat = r by omega]
    cases b with
    | false =>
      refine ok_t rfl (ok_nb (by omega) ?_)
      have ih := l_disp (e := e) (N := N) hN htop k (r + 1) c nf nr S2 R2 g1' (by omega) (by omega) (by omega) (by omega) (by omega)
      rw [show (r : Int) + 1 = ((r + 1 : Nat) : Int) by omega]
      refine ih.mono (fun y S3 w => ok_e (by omega) (ok_b (ok_of p1 ?_)))
      dsimp only
      exact ok_e (by decide) (ok_nb (by omega) (w.mono (fun y' R3 z => ⟨z.1, z.2.1, (fS_wide q3).trans z.2.2.1, (fR_wide p3).trans z.2.2.2.1, z.2.2.2.2⟩)))
    | true =>
      refine ok_e (by decide) (ok_b ?_)
      have hL := g1'.1
      obtain ⟨hT, hP, hQ, hG2, hRd, hLn, hBk, hCs, hCd, hLo, hCl, hRu⟩ := hL
      obtain ⟨cs1, cs2, cs3, cs4⟩ := hCs
      unfold E_Lending_putAllAway
      refine (l_paw (e := e) (N := N) (r := (r : Int)) (S2.1 62 3).toNat 1 N S2 (by omega) (by omega) (by omega) cs3 (fun d a b w => (hCd d a (by omega) (by omega)).2.2.2.2.2.2.2.2.2.2.2.1 (Or.inl w))).mono ?_
      intro _ S3 ⟨w1, w2, w3, w4⟩
      dsimp only
      refine ok_ib (by omega) (ok_nb (by omega) (ok_nb (by omega) ?_))
      generalize hS4 : w_put (w_put S3 5 r (S3.1 27 1)) 6 r (S3.1 27 1) = S4
      have f34 : frm [5, 6] [] [] S3 S4 := by
        rw [← hS4]
        repeat (first | exact frm.refl _ _ _ _ | refine frm.put ?_ rfl | refine frm.puto ?_ rfl rfl)
      have fw : frm DS [120] [(120, 0)] S2 S4 := (w1.wide (fun b h => by
        simp only [List.contains_cons, List.contains_nil, Bool.or_false, Bool.or_eq_false_iff] at h ⊢
        simp only [h, and_self]) (fun b h => rfl) (fun b j h => rfl)).trans (f34.wide (fun b h => by
        simp only [List.contains_cons, List.contains_nil, Bool.or_false, Bool.or_eq_false_iff] at h ⊢
        simp only [h, and_self]) (fun b h => rfl) (fun b j h => rfl))
      have t27 : S3.1 27 1 = S2.1 27 1 := by rw [w1.2.1 27 rfl rfl]
      have a5 : S4.1 5 = pt (S2.1 5) r (S2.1 27 1) := by
        rw [← hS4, ← w1.2.1 5 rfl rfl, ← t27]
        funext u
        simp only [w_put_r, reduceIte, Nat.reduceEqDiff, pt_at]
      have a6 : S4.1 6 = pt (S2.1 6) r (S2.1 27 1) := by
        rw [← hS4, ← w1.2.1 6 rfl rfl, ← t27]
        funext u
        simp only [w_put_r, reduceIte, Nat.reduceEqDiff, pt_at]
      have a66 : ∀ d, S4.1 66 d = S2.1 66 d := fun d => by rw [f34.2.1 66 rfl rfl, w2]
      have a68 : ∀ d, S4.1 68 d = S2.1 68 d := fun d => by rw [f34.2.1 68 rfl rfl, w3]
      have a65 : ∀ d, S4.1 65 d = if 1 ≤ d ∧ d < 1 + (S2.1 62 3).toNat ∧ S2.1 63 d = (r : Int) ∧ S2.1 65 d = 0 then 3 else S2.1 65 d := fun d => by rw [f34.2.1 65 rfl rfl, w4]
      clear hS4
      refine ok_sw (ok_e (by omega) (ok_b (ok_of p1 ?_)))
      dsimp only
      refine ok_t (by decide) ?_
      refine l_rpaw (e := e) (N := N) (r := r) (x1 := (c : Int)) (by omega) (by omega) (R2.1 129 68).toNat 1 nr R2 (by omega) (by omega) (by omega) (by omega) (fun R3 n' h1 h2 h3 => ?_)
      generalize hR4 : w_put (w_put R3 134 r (R3.1 129 12)) 135 r (R3.1 129 12) = R4
      have g34 : frm [134, 135] [] [] R3 R4 := by
        rw [← hR4]
        repeat (first | exact frm.refl _ _ _ _ | refine frm.put ?_ rfl | refine frm.puto ?_ rfl rfl)
      have gw : frm DR [129] [(129, 37)] R2 R4 := (h2.wide (fun b h => by
        simp only [List.contains_cons, List.contains_nil, Bool.or_false, Bool.or_eq_false_iff] at h ⊢
        simp only [h, and_self]) (fun b h => rfl) (fun b j h => rfl)).trans (g34.wide (fun b h => by
        simp only [List.contains_cons, List.contains_nil, Bool.or_false, Bool.or_eq_false_iff] at h ⊢
        simp only [h, and_self]) (fun b h => rfl) (fun b j h => rfl))
      have r12 : R3.1 129 12 = S2.1 27 1 := by rw [h2.2.1 129 rfl rfl]; exact hT.2.2.1
      have b4 : R4.1 134 = pt (R2.1 134) r (S2.1 27 1) := by
        rw [← hR4, ← h2.2.1 134 rfl rfl, r12]
        funext u
        simp only [w_put_r, reduceIte, Nat.reduceEqDiff, pt_at]
      have b5 : R4.1 135 = pt (R2.1 135) r (S2.1 27 1) := by
        rw [← hR4, ← h2.2.1 135 rfl rfl, r12]
        funext u
        simp only [w_put_r, reduceIte, Nat.reduceEqDiff, pt_at]
      have b71 : ∀ d, R4.1 171 d = if 1 ≤ d ∧ d < 1 + (R2.1 129 68).toNat ∧ R2.1 169 d = (r : Int) ∧ R2.1 171 d = 0 then 3 else R2.1 171 d := fun d => by rw [g34.2.1 171 rfl rfl, h3]
      clear hR4
      obtain ⟨nL, nV⟩ := go_rel g1'.1 g1'.2.2.1 g2 (by omega) fw gw a5 a6 a66 a68 a65 b4 b5 b71
      have gD := g1'.go fw gw nL nV
      have s43 : S4.1 3 0 = S.1 3 0 := by rw [fw.2.1 3 rfl rfl, s3]
      have ih := l_disp (e := e) (N := N) hN htop k (r + 1) (c + 1) nf n' S4 R4 gD (by omega) (by omega) (by omega) (by omega) (by omega)
      rw [show (r : Int) + 1 = ((r + 1 : Nat) : Int) by omega, show (c : Int) + 1 = ((c + 1 : Nat) : Int) by omega]
      refine ok_sw (ih.mono (fun y S5 w => w.mono (fun y' R5 z => ?_)))
      exact ⟨z.1, by have := z.2.1; omega, (fS_wide q3).trans (fw.trans z.2.2.1), (fR_wide p3).trans (gw.trans z.2.2.2.1), z.2.2.2.2⟩
/-- dispose -/
theorem t_dispose {e : w_E} {N : Nat} {S R : w_S} {t top : Int} {ta L E V n : Nat} (hN : 16000000 ≤ N) (htop : top ≤ 10240) (h : RelD S R t top ta L E V n) : Ok (E_C_disposeAll e N S) (fun y S1 => Ok (E_R_doDispose e N R) (fun y' R1 => y' = y ∧ 0 ≤ y ∧ frm DS [120] [(120, 0)] S S1 ∧ frm DR [129] [(129, 37)] R R1 ∧ RelD S1 R1 t top ta L E V n)) := by
  have hG := h.1.2.2.2.1
  obtain ⟨g1, g2, g3, _⟩ := hG
  exact l_disp hN htop (S.1 3 0).toNat 1 0 N N S R h (by omega) (by omega) (by omega) (by omega) (by omega)
end
section
-- ej
/-- the question ends -/
def Qend (e : w_E) (N : Nat) (x1 : Int) (S : w_S) : e_R := (if x1 ≤ 0 then ((E_Question_settleWaiting e N 0 S).bind (fun q454 => some (0, q454.2))) else ((E_Tape_stopHere e N  S).bind (fun q459 => ((E_Question_settleWaiting e N 0 q459.2).bind (fun q460 => some (0, q460.2))))))
/-- behind a term: brackets that close, and what joins the next -/
def Qcl (e : w_E) (N n : Nat) (x0 x3 : Int) (S : w_S) : e_R := ((E_Question_closeBrackets e N x0 S).bind (fun q490 => ((E_Tape_peek e N  q490.2).bind (fun q494 => (if q494.1 ≠ 32 then (if w_nb (x3 + 1) = true then El_Question_readQuestion e N n 0 [q490.1, 0, x3 + 1] [] q494.2 else none) else ((E_Tape_takeByte e N 32 q494.2).bind (fun q495 => ((E_Tape_takeWord_v6 e N  q495.2).bind (fun q496 => (if q496.1 ≠ 0 then (if q496.1 ≠ 1 then ((E_Tape_takeByte e N 32 q496.2).bind (fun q501 => ((E_Question_settleWaiting e N 0 q501.2).bind (fun q502 => ((E_Question_pushWaiting e N (-3) q502.2).bind (fun q503 => (if w_nb (x3 + 1) = true then El_Question_readQuestion e N n 0 [q490.1, 1, x3 + 1] [] q503.2 else none))))))) else ((E_Tape_takeByte e N 32 q496.2).bind (fun q504 => ((E_Question_settleWaiting e N 0 q504.2).bind (fun q505 => ((E_Question_pushWaiting e N (-2) q505.2).bind (fun q506 => (if w_nb (x3 + 1) = true then El_Question_readQuestion e N n 0 [q490.1, 1, x3 + 1] [] q506.2 else none)))))))) else ((E_Tape_takeByte e N 32 q496.2).bind (fun q507 => ((E_Question_settleWaiting e N 1 q507.2).bind (fun q508 => ((E_Question_pushWaiting e N (-1) q508.2).bind (fun q509 => (if w_nb (x3 + 1) = true then El_Question_readQuestion e N n 0 [q490.1, 1, x3 + 1] [] q509.2 else none)))))))))))))))))
theorem qq_step {e : w_E} {N n : Nat} {x1 x2 x3 : Int} {S : w_S} : El_Question_readQuestion e N (n + 1) 0 [x1, x2, x3] [] S = (if 20 < x3 then (Qend e N x1 S) else (if x2 = 0 then (Qend e N x1 S) else ((E_Question_openBrackets e N x1 S).bind (fun q464 => (if (q464.2.1 94 6) < 20 then ((E_Tape_takeWord_v5 e N  q464.2).bind (fun q468 => ((E_Tape_takeByte e N 61 q468.2).bind (fun q473 => (if w_ib (q473.2.1 94 6) 20 = true then (if q468.1 ≠ 4 then ((E_Question_readWords e N  (w_put (w_put (w_put q473.2 97 ((q473.2.1 94 6).toNat) q468.1) 98 ((q473.2.1 94 6).toNat) (q473.2.1 94 12)) 100 ((q473.2.1 94 6).toNat) 0)).bind (fun q474 => (if w_ib (q474.2.1 94 6) 20 = true then (if w_nb ((q474.2.1 94 12) - (q474.2.1 98 ((q474.2.1 94 6).toNat))) = true then ((E_Question_addToProgram e N (q474.2.1 94 6) (w_put q474.2 99 ((q474.2.1 94 6).toNat) ((q474.2.1 94 12) - (q474.2.1 98 ((q474.2.1 94 6).toNat))))).bind (fun q489 => (if w_nb ((q489.2.1 94 6) + 1) = true then (Qcl e N n q464.1 x3 (w_put q489.2 94 6 ((q489.2.1 94 6) + 1))) else none))) else none) else none))) else ((E_Tape_takeNumber e N 1 80 (w_put (w_put (w_put q473.2 97 ((q473.2.1 94 6).toNat) q468.1) 98 ((q473.2.1 94 6).toNat) (q473.2.1 94 12)) 100 ((q473.2.1 94 6).toNat) 0)).bind (fun q510 => (if w_ib (q510.2.1 94 6) 20 = true then (if w_nb ((q510.2.1 94 12) - (q510.2.1 98 ((q510.2.1 94 6).toNat))) = true then ((E_Question_addToProgram e N (q510.2.1 94 6) (w_put (w_put q510.2 101 ((q473.2.1 94 6).toNat) q510.1) 99 ((q510.2.1 94 6).toNat) ((q510.2.1 94 12) - (q510.2.1 98 ((q510.2.1 94 6).toNat))))).bind (fun q511 => (if w_nb ((q511.2.1 94 6) + 1) = true then (Qcl e N n q464.1 x3 (w_put q511.2 94 6 ((q511.2.1 94 6) + 1))) else none))) else none) else none)))) else none))))) else ((E_Tape_stopHere e N  q464.2).bind (fun q525 => (Qcl e N n q464.1 x3 q525.2)))))))) := by
  rw [El_Question_readQuestion]
  rfl
/-- what joins two terms, to the reference -/
def Rjo (e : w_E) (N n : Nat) (x1 x2 x3 c : Int) (S : w_S) : e_R := (if c = 32 then (if w_nb (x3 + 1) = true then ((E_R_at e N (x3 + 1) S).bind (fun q979 => (if q979.1 ≠ 97 then ((E_R_at e N (x3 + 1) q979.2).bind (fun q980 => (if q980.1 ≠ 111 then ((E_R_literal_v7 e N (x3 + 1) q980.2).bind (fun q981 => (if 0 ≤ q981.1 then ((E_R_operator e N (-3) q981.2).bind (fun q986 => El_R_question e N n 0 [x1, x2, q981.1, 1] [] q986.2)) else some (q981.1, q981.2)))) else ((E_R_literal_v8 e N (x3 + 1) q980.2).bind (fun q987 => (if 0 ≤ q987.1 then ((E_R_operator e N (-2) q987.2).bind (fun q992 => El_R_question e N n 0 [x1, x2, q987.1, 1] [] q992.2)) else some (q987.1, q987.2))))))) else ((E_R_literal_v9 e N (x3 + 1) q979.2).bind (fun q993 => (if 0 ≤ q993.1 then ((E_R_operator e N (-1) q993.2).bind (fun q998 => El_R_question e N n 0 [x1, x2, q993.1, 1] [] q998.2)) else some (q993.1, q993.2))))))) else none) else (if w_nb ((-1) - x3) = true then some ((-1) - x3, S) else none))
theorem rq_step {e : w_E} {N n : Nat} {x1 x2 x3 x4 : Int} {S : w_S} : El_R_question e N (n + 1) 0 [x1, x2, x3, x4] [] S = (if x4 ≠ 0 then ((E_R_at e N x3 S).bind (fun q943 => (if q943.1 ≠ 40 then ((E_R_term e N x3 q943.2).bind (fun q944 => (if 0 ≤ q944.1 then El_R_question e N n 0 [x1, x2, q944.1, 0] [] q944.2 else some (q944.1, q944.2)))) else (if x2 ≠ 8 then (if w_nb (x2 + 1) = true then (if w_ib (q943.2.1 129 48) 60 = true then (if w_nb ((q943.2.1 129 48) + 1) = true then (if w_nb (x3 + 1) = true then El_R_question e N n 0 [x1, x2 + 1, x3 + 1, x4] [] (w_put (w_put q943.2 158 ((q943.2.1 129 48).toNat) (-4)) 129 48 ((q943.2.1 129 48) + 1)) else none) else none) else none) else none) else (if w_nb ((-1) - x3) = true then some ((-1) - x3, q943.2) else none))))) else (if 0 < x2 then ((E_R_at e N x3 S).bind (fun q978 => (if q978.1 ≠ 41 then (Rjo e N n x1 x2 x3 q978.1 q978.2) else (if w_nb (x2 + (-1)) = true then ((E_R_close e N  q978.2).bind (fun q999 => (if w_nb (x3 + 1) = true then El_R_question e N n 0 [x1, x2 + (-1), x3 + 1, x4] [] q999.2 else none))) else none)))) else ((E_R_at e N x3 S).bind (fun q1000 => (if q1000.1 = x1 then ((E_R_close e N  q1000.2).bind (fun q1001 => some (x3, q1001.2))) else ((E_R_at e N x3 q1000.2).bind (fun q1002 => (if q1002.1 ≠ 41 then (Rjo e N n x1 x2 x3 q1002.1 q1002.2) else (Rjo e N n x1 x2 x3 q1002.1 q1002.2))))))))) := by
  rw [El_R_question]
  rfl
/-- a term with words -/
def Rtw (e : w_E) (N : Nat) (x1 c : Int) (S : w_S) : e_R := ((E_R_at e N (x1 + 2) (w_put (w_put S 152 ((S.1 129 40).toNat) c) 154 ((S.1 129 40).toNat) 0)).bind (fun q947 => (if q947.1 ≠ 34 then ((E_R_word e N (S.1 129 40) (x1 + 2) q947.2).bind (fun q948 => (if q948.1 < 0 then (if ((w_put q948.2 153 ((S.1 129 40).toNat) 0).1 153 ((S.1 129 40).toNat)) ≠ 1 then some (q948.1, (w_put q948.2 153 ((S.1 129 40).toNat) 0)) else (if w_nb (q948.1 + 1) = true then (if 0 ≤ (q948.1 + 1) then (if w_nb ((q948.2.1 129 40) + 1) = true then (if w_ib (q948.2.1 129 46) 60 = true then (if w_nb ((q948.2.1 129 46) + 1) = true then some (q948.1 + 1, (w_put (w_put (w_put (w_put q948.2 153 ((S.1 129 40).toNat) 0) 129 40 ((q948.2.1 129 40) + 1)) 157 ((q948.2.1 129 46).toNat) (S.1 129 40)) 129 46 ((q948.2.1 129 46) + 1))) else none) else none) else none) else some (q948.1 + 1, (w_put q948.2 153 ((S.1 129 40).toNat) 0))) else none)) else ((E_R_at e N q948.1 q948.2).bind (fun q952 => (if q952.1 ≠ 42 then (if ((w_put q952.2 153 ((S.1 129 40).toNat) 0).1 153 ((S.1 129 40).toNat)) ≠ 1 then (if w_nb ((q952.2.1 129 40) + 1) = true then (if w_ib (q952.2.1 129 46) 60 = true then (if w_nb ((q952.2.1 129 46) + 1) = true then some (q948.1, (w_put (w_put (w_put (w_put q952.2 153 ((S.1 129 40).toNat) 0) 129 40 ((q952.2.1 129 40) + 1)) 157 ((q952.2.1 129 46).toNat) (S.1 129 40)) 129 46 ((q952.2.1 129 46) + 1))) else none) else none) else none) else (if w_nb (q948.1 + 1) = true then (if 0 ≤ (q948.1 + 1) then (if w_nb ((q952.2.1 129 40) + 1) = true then (if w_ib (q952.2.1 129 46) 60 = true then (if w_nb ((q952.2.1 129 46) + 1) = true then some (q948.1 + 1, (w_put (w_put (w_put (w_put q952.2 153 ((S.1 129 40).toNat) 0) 129 40 ((q952.2.1 129 40) + 1)) 157 ((q952.2.1 129 46).toNat) (S.1 129 40)) 129 46 ((q952.2.1 129 46) + 1))) else none) else none) else none) else some (q948.1 + 1, (w_put q952.2 153 ((S.1 129 40).toNat) 0))) else none)) else (if ((w_put q952.2 153 ((S.1 129 40).toNat) 1).1 153 ((S.1 129 40).toNat)) ≠ 1 then (if w_nb ((q952.2.1 129 40) + 1) = true then (if w_ib (q952.2.1 129 46) 60 = true then (if w_nb ((q952.2.1 129 46) + 1) = true then some (q948.1, (w_put (w_put (w_put (w_put q952.2 153 ((S.1 129 40).toNat) 1) 129 40 ((q952.2.1 129 40) + 1)) 157 ((q952.2.1 129 46).toNat) (S.1 129 40)) 129 46 ((q952.2.1 129 46) + 1))) else none) else none) else none) else (if w_nb (q948.1 + 1) = true then (if 0 ≤ (q948.1 + 1) then (if w_nb ((q952.2.1 129 40) + 1) = true then (if w_ib (q952.2.1 129 46) 60 = true then (if w_nb ((q952.2.1 129 46) + 1) = true then some (q948.1 + 1, (w_put (w_put (w_put (w_put q952.2 153 ((S.1 129 40).toNat) 1) 129 40 ((q952.2.1 129 40) + 1)) 157 ((q952.2.1 129 46).toNat) (S.1 129 40)) 129 46 ((q952.2.1 129 46) + 1))) else none) else none) else none) else some (q948.1 + 1, (w_put q952.2 153 ((S.1 129 40).toNat) 1))) else none)))))))) else (if w_nb ((x1 + 2) + 1) = true then ((E_R_phrase e N (S.1 129 40) ((x1 + 2) + 1) q947.2).bind (fun q953 => (if 0 ≤ q953.1 then (if w_nb ((q953.2.1 129 40) + 1) = true then (if w_ib (q953.2.1 129 46) 60 = true then (if w_nb ((q953.2.1 129 46) + 1) = true then some (q953.1, (w_put (w_put (w_put (w_put q953.2 153 ((S.1 129 40).toNat) 2) 129 40 ((q953.2.1 129 40) + 1)) 157 ((q953.2.1 129 46).toNat) (S.1 129 40)) 129 46 ((q953.2.1 129 46) + 1))) else none) else none) else none) else some (q953.1, (w_put q953.2 153 ((S.1 129 40).toNat) 2))))) else none))))
/-- a term with a number -/
def Rtn (e : w_E) (N : Nat) (x1 c : Int) (S : w_S) : e_R := ((E_R_numeral e N (x1 + 2) 1 80 (w_put (w_put S 152 ((S.1 129 40).toNat) c) 154 ((S.1 129 40).toNat) 0)).bind (fun q957 => (if 0 ≤ q957.1 then (if w_nb ((q957.2.1 129 40) + 1) = true then (if w_ib (q957.2.1 129 46) 60 = true then (if w_nb ((q957.2.1 129 46) + 1) = true then some (q957.1, (w_put (w_put (w_put (w_put (w_put q957.2 153 ((S.1 129 40).toNat) 3) 154 ((S.1 129 40).toNat) (q957.2.1 129 3)) 129 40 ((q957.2.1 129 40) + 1)) 157 ((q957.2.1 129 46).toNat) (S.1 129 40)) 129 46 ((q957.2.1 129 46) + 1))) else none) else none) else none) else some (q957.1, (w_put (w_put q957.2 153 ((S.1 129 40).toNat) 3) 154 ((S.1 129 40).toNat) (q957.2.1 129 3))))))
/-- a term whose first letter is right -/
def Rth (e : w_E) (N : Nat) (x1 c : Int) (S : w_S) : e_R := (if (S.1 129 40) ≠ 20 then (if w_nb (x1 + 1) = true then ((E_R_at e N (x1 + 1) S).bind (fun q946 => (if q946.1 = 61 then (if w_nb (x1 + 2) = true then (if w_ib (q946.2.1 129 40) 20 = true then (if c ≠ 104 then (Rtw e N x1 c q946.2) else (Rtn e N x1 c q946.2)) else none) else none) else (if w_nb ((-1) - (x1 + 1)) = true then some ((-1) - (x1 + 1), q946.2) else none)))) else none) else (if w_nb ((-1) - x1) = true then some ((-1) - x1, S) else none))
theorem rt_step {e : w_E} {N : Nat} {x1 : Int} {S : w_S} : E_R_term e N x1 S = ((E_R_at e N x1 S).bind (fun q945 => (if q945.1 = 116 then (Rth e N x1 q945.1 q945.2) else (if q945.1 = 97 then (Rth e N x1 q945.1 q945.2) else (if q945.1 = 115 then (Rth e N x1 q945.1 q945.2) else (if q945.1 = 110 then (Rth e N x1 q945.1 q945.2) else (if q945.1 ≠ 104 then (if w_nb ((-1) - x1) = true then some ((-1) - x1, q945.2) else none) else (if (q945.2.1 129 40) ≠ 20 then (if w_nb (x1 + 1) = true then ((E_R_at e N (x1 + 1) q945.2).bind (fun q976 => (if q976.1 = 61 then (if w_nb (x1 + 2) = true then (if w_ib (q976.2.1 129 40) 20 = true then (Rtn e N x1 q945.1 q976.2) else none) else none) else (if w_nb ((-1) - (x1 + 1)) = true then some ((-1) - (x1 + 1), q976.2) else none)))) else none) else (if w_nb ((-1) - x1) = true then some ((-1) - x1, q945.2) else none))))))))) := by
  unfold E_R_term
  rfl
end
section
-- ek
/-- what waits is settled: into the program goes what has both its sides -/
def stl (b : Bool) : List Int → List Int → List Int × List Int
  | pr, [] => (pr, [])
  | pr, x :: ws => if x = -4 ∨ (b = true ∧ x ≠ -1) then (pr, x :: ws) else stl b (pr ++ [x]) ws
/-- how many wait that are no brackets, and how many brackets -/
def opn : List Int → Nat
  | [] => 0
  | x :: ws => (if x = -4 then 0 else 1) + opn ws
def brk : List Int → Nat
  | [] => 0
  | x :: ws => (if x = -4 then 1 else 0) + brk ws
theorem ws_len : ∀ ws : List Int, ws.length = opn ws + brk ws
  | [] => rfl
  | x :: ws => by
    rw [List.length_cons, opn, brk, ws_len ws]
    split <;> omega
theorem stl_no {b : Bool} {x : Int} (c : ¬ x = -4) (d : b = false ∨ x = -1) : ¬ (x = -4 ∨ (b = true ∧ x ≠ -1)) := by
  intro h
  rcases h with h | h
  · exact c h
  · rcases d with d | d
    · rw [d] at h
      exact Bool.noConfusion h.1
    · exact h.2 d
theorem stl_len (b : Bool) : ∀ (ws pr : List Int), (stl b pr ws).1.length + opn (stl b pr ws).2 = pr.length + opn ws ∧ brk (stl b pr ws).2 = brk ws
  | [], pr => ⟨rfl, rfl⟩
  | x :: ws, pr => by
    rw [stl]
    split
    · exact ⟨rfl, rfl⟩
    · next h =>
      have ih := stl_len b ws (pr ++ [x])
      have hx : ¬ x = -4 := fun w => h (Or.inl w)
      rw [List.length_append, List.length_singleton] at ih
      rw [opn, brk, if_neg hx, if_neg hx]
      omega
theorem stl_ne (b : Bool) : ∀ (ws pr : List Int), pr ≠ [] → (stl b pr ws).1 ≠ []
  | [], pr, h => h
  | x :: ws, pr, h => by
    rw [stl]
    split
    · exact h
    · exact stl_ne b ws _ (by simp)
/-- behind a settling without brackets nothing waits; else a bracket stands first -/
theorem stl_top : ∀ (ws pr : List Int), (stl false pr ws).2 = [] ∨ ∃ l, (stl false pr ws).2 = -4 :: l
  | [], _ => Or.inl rfl
  | x :: ws, pr => by
    rw [stl]
    split
    · next h =>
      right
      rcases h with h | h
      · exact ⟨ws, by rw [h]⟩
      · exact Bool.noConfusion h.1
    · exact stl_top ws _
def HC (S : w_S) (pr ws : List Int) (nt : Nat) : Prop := S.1 94 3 = (pr.length : Nat) ∧ byt (S.1 95) 0 pr ∧ S.1 94 5 = (ws.length : Nat) ∧ byt (S.1 96) 0 ws.reverse ∧ S.1 94 6 = (nt : Nat)
def HR (R : w_S) (pr ws : List Int) (nt : Nat) : Prop := R.1 129 46 = (pr.length : Nat) ∧ byt (R.1 157) 0 pr ∧ R.1 129 48 = (ws.length : Nat) ∧ byt (R.1 158) 0 ws.reverse ∧ R.1 129 40 = (nt : Nat)
theorem byt_snoc {a b : Nat → Int} {l : List Int} {x : Int} (h : byt a 0 l) (h1 : ∀ j, j < l.length → b j = a j) (h2 : b l.length = x) : byt b 0 (l ++ [x]) := by
  rw [byt_app]
  refine ⟨byt_congr h (fun k hk => by rw [Nat.zero_add]; exact h1 k hk), ?_, trivial⟩
  rw [Nat.zero_add]
  exact h2
/-- a step more in the program -/
theorem x_addP {e : w_E} {N nt : Nat} {S : w_S} {pr ws : List Int} {x : Int} (h : HC S pr ws nt) (hl : pr.length < 40) : ∃ S1, E_Question_addToProgram e N x S = some (0, S1) ∧ frm [95] [94] [(94, 3)] S S1 ∧ HC S1 (pr ++ [x]) ws nt := by
  obtain ⟨h1, h2, h3, h4, h5⟩ := h
  refine ⟨w_put (w_put S 95 pr.length x) 94 3 ((pr.length : Nat) + 1), ?_, by repeat (first | exact frm.refl _ _ _ _ | refine frm.put ?_ rfl | refine frm.puto ?_ rfl rfl), ?_, ?_, ?_, ?_, ?_⟩
  · refine ok_eq ?_
    unfold E_Question_addToProgram
    rw [h1, show (((pr.length : Nat) : Int)).toNat = pr.length by omega]
    exact ok_e (by omega) (ok_ib (by omega) (ok_nb (by omega) (ok_s ⟨rfl, rfl⟩)))
  · simp only [w_put_r, reduceIte, Nat.reduceEqDiff, pt_at]
    rw [List.length_append, List.length_singleton]
    omega
  · refine byt_snoc h2 (fun j hj => ?_) ?_
    · simp only [w_put_r, reduceIte, Nat.reduceEqDiff, pt_at]
      rw [if_neg (by omega)]
    · simp only [w_put_r, reduceIte, Nat.reduceEqDiff, pt_at]
  · simp only [w_put_r, reduceIte, Nat.reduceEqDiff, pt_at]
    exact h3
  · simp only [w_put_r, reduceIte, Nat.reduceEqDiff, pt_at]
    exact h4
  · simp only [w_put_r, reduceIte, Nat.reduceEqDiff, pt_at]
    exact h5
theorem x_pushW {e : w_E} {N nt : Nat} {S : w_S} {pr ws : List Int} {x : Int} (h : HC S pr ws nt) (hl : ws.length < 48) : ∃ S1, E_Question_pushWaiting e N x S = some (0, S1) ∧ frm [96] [94] [(94, 5)] S S1 ∧ HC S1 pr (x :: ws) nt := by
  obtain ⟨h1, h2, h3, h4, h5⟩ := h
  refine ⟨w_put (w_put S 96 ws.length x) 94 5 ((ws.length : Nat) + 1), ?_, by repeat (first | exact frm.refl _ _ _ _ | refine frm.put ?_ rfl | refine frm.puto ?_ rfl rfl), ?_, ?_, ?_, ?_, ?_⟩
  · refine ok_eq ?_
    unfold E_Question_pushWaiting
    rw [h3, show (((ws.length : Nat) : Int)).toNat = ws.length by omega]
    exact ok_e (by omega) (ok_ib (by omega) (ok_nb (by omega) (ok_s ⟨rfl, rfl⟩)))
  · simp only [w_put_r, reduceIte, Nat.reduceEqDiff, pt_at]
    exact h1
  · simp only [w_put_r, reduceIte, Nat.reduceEqDiff, pt_at]
    exact h2
  · simp only [w_put_r, reduceIte, Nat.reduceEqDiff, pt_at]
    rw [List.length_cons]
    omega
  · rw [List.reverse_cons]
    refine byt_snoc h4 (fun j hj => ?_) ?_
    · rw [List.length_reverse] at hj
      simp only [w_put_r, reduceIte, Nat.reduceEqDiff, pt_at]
      rw [if_neg (by omega)]
    · rw [List.length_reverse]
      simp only [w_put_r, reduceIte, Nat.reduceEqDiff, pt_at]
  · simp only [w_put_r, reduceIte, Nat.reduceEqDiff, pt_at]
    exact h5
theorem HC.pop {S : w_S} {pr ws : List Int} {x : Int} {nt : Nat} (h : HC S pr (x :: ws) nt) : S.1 96 ws.length = x ∧ HC (w_put S 94 5 ((ws.length : Nat) : Int)) pr ws nt := by
  obtain ⟨h1, h2, h3, h4, h5⟩ := h
  rw [List.reverse_cons, byt_app, List.length_reverse, Nat.zero_add] at h4
  refine ⟨h4.2.1, ?_, ?_, ?_, ?_, ?_⟩
  · simp only [w_put_r, reduceIte, Nat.reduceEqDiff, pt_at]
    exact h1
  · simp only [w_put_r, reduceIte, Nat.reduceEqDiff, pt_at]
    exact h2
  · simp only [w_put_r, reduceIte, Nat.reduceEqDiff, pt_at]
  · simp only [w_put_r, reduceIte, Nat.reduceEqDiff, pt_at]
    exact h4.1
  · simp only [w_put_r, reduceIte, Nat.reduceEqDiff, pt_at]
    exact h5
theorem l_settle {e : w_E} {N : Nat} {b : Bool} : ∀ (ws pr : List Int) (nt nf : Nat) (S : w_S), HC S pr ws nt → pr.length + opn ws ≤ 40 → ws.length ≤ 48 → ws.length < nf → Ok (El_Question_settleWaiting e N nf 0 [bi b] [] S) (fun y S1 => y = 0 ∧ frm [95] [94] [(94, 3), (94, 5)] S S1 ∧ HC S1 (stl b pr ws).1 (stl b pr ws).2 nt)
  | _, _, _, 0, _, _, _, _, h => by omega
  | [], pr, nt, nf + 1, S, h, h1, h2, h3 => by
    rw [El_Question_settleWaiting, h.2.2.1, List.length_nil]
    exact ok_t (by decide) (ok_s ⟨rfl, frm.refl _ _ _ _, h⟩)
  | x :: ws, pr, nt, nf + 1, S, h, h1, h2, h3 => by
    rw [List.length_cons] at h2 h3
    obtain ⟨p1, p2⟩ := h.pop
    rw [El_Question_settleWaiting, h.2.2.1, List.length_cons, show (((ws.length + 1 : Nat) : Int)) - 1 = (ws.length : Nat) by omega, show (((ws.length : Nat) : Int)).toNat = ws.length by omega, p1]
    refine ok_e (by omega) (ok_nb (by omega) (ok_ib (by omega) ?_))
    rw [stl]
    by_cases c : x = -4
    · rw [if_pos (Or.inl c)]
      exact ok_t c (ok_s ⟨rfl, frm.refl _ _ _ _, h⟩)
    refine ok_e c ?_
    rw [opn, if_neg c] at h1
    have go : ¬ (x = -4 ∨ (b = true ∧ x ≠ -1)) → Ok ((E_Question_addToProgram e N x (w_put S 94 5 ((ws.length : Nat) : Int))).bind (fun q457 => El_Question_settleWaiting e N nf 0 [bi b] [] q457.2)) (fun y S1 => y = 0 ∧ frm [95] [94] [(94, 3), (94, 5)] S S1 ∧ HC S1 (if x = -4 ∨ (b = true ∧ x ≠ -1) then (pr, x :: ws) else stl b (pr ++ [x]) ws).1 (if x = -4 ∨ (b = true ∧ x ≠ -1) then (pr, x :: ws) else stl b (pr ++ [x]) ws).2 nt) := by
      intro w
      obtain ⟨S1, s1, s2, s3⟩ := x_addP (e := e) (N := N) (x := x) p2 (by omega)
      refine ok_b (ok_of s1 ?_)
      rw [if_neg w]
      refine (l_settle (e := e) (N := N) (b := b) ws (pr ++ [x]) nt nf S1 s3 (by rw [List.length_append, List.length_singleton]; omega) (by omega) (by omega)).mono ?_
      intro y S2 ⟨q1, q2, q3⟩
      refine ⟨q1, frm.trans (S' := w_put S 94 5 ((ws.length : Nat) : Int)) (by repeat (first | exact frm.refl _ _ _ _ | refine frm.put ?_ rfl | refine frm.puto ?_ rfl rfl)) (frm.trans (s2.wide (fun b h => h) (fun b h => h) (fun b j h => ?_)) q2), q3⟩
      simp only [List.contains_cons, List.contains_nil, Bool.or_false, Bool.or_eq_false_iff] at h ⊢
      exact h.1
    cases b with
    | false => exact ok_t rfl (go (stl_no c (Or.inl rfl)))
    | true =>
      refine ok_e (by decide) ?_
      by_cases d : x = -1
      · exact ok_e (fun w => w d) (go (stl_no c (Or.inr d)))
      · rw [if_pos (Or.inr ⟨rfl, d⟩)]
        exact ok_t d (ok_s ⟨rfl, frm.refl _ _ _ _, h⟩)
theorem x_settle {e : w_E} {N nt : Nat} {b : Bool} {ws pr : List Int} {S : w_S} (hN : 100 ≤ N) (h : HC S pr ws nt) (h1 : pr.length + opn ws ≤ 40) (h2 : ws.length ≤ 48) : ∃ S1, E_Question_settleWaiting e N (bi b) S = some (0, S1) ∧ frm [95] [94] [(94, 3), (94, 5)] S S1 ∧ HC S1 (stl b pr ws).1 (stl b pr ws).2 nt := by
  have key : Ok (El_Question_settleWaiting e N (N + 1) 0 [bi b] [] S) (fun y S1 => y = 0 ∧ frm [95] [94] [(94, 3), (94, 5)] S S1 ∧ HC S1 (stl b pr ws).1 (stl b pr ws).2 nt) := l_settle ws pr nt (N + 1) S h h1 h2 (by omega)
  obtain ⟨y, S1, e1, rfl, e2, e3⟩ := key
  rw [El_Question_settleWaiting] at e1
  exact ⟨S1, e1, e2, e3⟩
theorem HR.pop {S : w_S} {pr ws : List Int} {x : Int} {nt : Nat} (h : HR S pr (x :: ws) nt) : S.1 158 ws.length = x ∧ HR (w_put S 129 48 ((ws.length : Nat) : Int)) pr ws nt := by
  obtain ⟨h1, h2, h3, h4, h5⟩ := h
  rw [List.reverse_cons, byt_app, List.length_reverse, Nat.zero_add] at h4
  refine ⟨h4.2.1, ?_, ?_, ?_, ?_, ?_⟩
  · simp only [w_put_r, reduceIte, Nat.reduceEqDiff, pt_at]
    exact h1
  · simp only [w_put_r, reduceIte, Nat.reduceEqDiff, pt_at]
    exact h2
  · simp only [w_put_r, reduceIte, Nat.reduceEqDiff, pt_at]
  · simp only [w_put_r, reduceIte, Nat.reduceEqDiff, pt_at]
    exact h4.1
  · simp only [w_put_r, reduceIte, Nat.reduceEqDiff, pt_at]
    exact h5
theorem HR.addP {S : w_S} {pr ws : List Int} {x : Int} {nt : Nat} (h : HR S pr ws nt) : HR (w_put (w_put S 157 pr.length x) 129 46 ((pr.length : Nat) + 1)) (pr ++ [x]) ws nt := by
  obtain ⟨h1, h2, h3, h4, h5⟩ := h
  refine ⟨?_, ?_, ?_, ?_, ?_⟩
  · simp only [w_put_r, reduceIte, Nat.reduceEqDiff, pt_at]
    rw [List.length_append, List.length_singleton]
    omega
  · refine byt_snoc h2 (fun j hj => ?_) ?_
    · simp only [w_put_r, reduceIte, Nat.reduceEqDiff, pt_at]
      rw [if_neg (by omega)]
    · simp only [w_put_r, reduceIte, Nat.reduceEqDiff, pt_at]
  · simp only [w_put_r, reduceIte, Nat.reduceEqDiff, pt_at]
    exact h3
  · simp only [w_put_r, reduceIte, Nat.reduceEqDiff, pt_at]
    exact h4
  · simp only [w_put_r, reduceIte, Nat.reduceEqDiff, pt_at]
    exact h5
theorem HR.push {S : w_S} {pr ws : List Int} {x : Int} {nt : Nat} (h : HR S pr ws nt) : HR (w_put (w_put S 158 ws.length x) 129 48 ((ws.length : Nat) + 1)) pr (x :: ws) nt := by
  obtain ⟨h1, h2, h3, h4, h5⟩ := h
  refine ⟨?_, ?_, ?_, ?_, ?_⟩
  · simp only [w_put_r, reduceIte, Nat.reduceEqDiff, pt_at]
    exact h1
  · simp only [w_put_r, reduceIte, Nat.reduceEqDiff, pt_at]
    exact h2
  · simp only [w_put_r, reduceIte, Nat.reduceEqDiff, pt_at]
    rw [List.length_cons]
    omega
  · rw [List.reverse_cons]
    refine byt_snoc h4 (fun j hj => ?_) ?_
    · rw [List.length_reverse] at hj
      simp only [w_put_r, reduceIte, Nat.reduceEqDiff, pt_at]
      rw [if_neg (by omega)]
    · rw [List.length_reverse]
      simp only [w_put_r, reduceIte, Nat.reduceEqDiff, pt_at]
  · simp only [w_put_r, reduceIte, Nat.reduceEqDiff, pt_at]
    exact h5
abbrev QJr : List (Nat × Nat) := [(129, 46), (129, 48)]
theorem l_oper {e : w_E} {N : Nat} {o : Int} : ∀ (ws pr : List Int) (nt nf : Nat) (S : w_S), HR S pr ws nt → pr.length + opn ws ≤ 40 → ws.length ≤ 48 → ws.length < nf → Ok (El_R_operator e N nf 0 [o] [] S) (fun y S1 => y = 0 ∧ frm [157, 158] [129] QJr S S1 ∧ HR S1 (stl (decide (o = -1)) pr ws).1 (o :: (stl (decide (o = -1)) pr ws).2) nt)
  | _, _, _, 0, _, _, _, _, h => by omega
  | [], pr, nt, nf + 1, S, h, h1, h2, h3 => by
    have hp := h.push (x := o)
    rw [List.length_nil] at hp
    rw [El_R_operator, h.2.2.1, List.length_nil]
    exact ok_t (by decide) (ok_ib (by decide) (ok_nb (by decide) (ok_s ⟨rfl, by repeat (first | exact frm.refl _ _ _ _ | refine frm.put ?_ rfl | refine frm.puto ?_ rfl rfl), hp⟩)))
  | x :: ws, pr, nt, nf + 1, S, h, h1, h2, h3 => by
    have hp := h.push (x := o)
    rw [List.length_cons] at hp
    rw [List.length_cons] at h2 h3
    obtain ⟨p1, p2⟩ := h.pop
    rw [El_R_operator, h.2.2.1, List.length_cons, show (((ws.length + 1 : Nat) : Int)) - 1 = (ws.length : Nat) by omega, show (((ws.length : Nat) : Int)).toNat = ws.length by omega, show (((ws.length + 1 : Nat) : Int)).toNat = ws.length + 1 by omega, p1, h.1, show (((pr.length : Nat) : Int)).toNat = pr.length by omega]
    refine ok_e (by omega) (ok_nb (by omega) (ok_ib (by omega) ?_))
    rw [stl]
    by_cases c : x = -4
    · rw [if_pos (Or.inl c)]
      exact ok_t c (ok_ib (by omega) (ok_nb (by omega) (ok_s ⟨rfl, by repeat (first | exact frm.refl _ _ _ _ | refine frm.put ?_ rfl | refine frm.puto ?_ rfl rfl), hp⟩)))
    refine ok_e c ?_
    rw [opn, if_neg c] at h1
    have go : ¬ (x = -4 ∨ (decide (o = -1) = true ∧ x ≠ -1)) → Ok (El_R_operator e N nf 0 [o] [] (w_put (w_put (w_put S 129 48 ((ws.length : Nat) : Int)) 157 pr.length x) 129 46 ((pr.length : Nat) + 1))) (fun y S1 => y = 0 ∧ frm [157, 158] [129] QJr S S1 ∧ HR S1 (if x = -4 ∨ (decide (o = -1) = true ∧ x ≠ -1) then (pr, x :: ws) else stl (decide (o = -1)) (pr ++ [x]) ws).1 (o :: (if x = -4 ∨ (decide (o = -1) = true ∧ x ≠ -1) then (pr, x :: ws) else stl (decide (o = -1)) (pr ++ [x]) ws).2) nt) := by
      intro w
      rw [if_neg w]
      refine (l_oper (e := e) (N := N) (o := o) ws (pr ++ [x]) nt nf _ p2.addP (by rw [List.length_append, List.length_singleton]; omega) (by omega) (by omega)).mono ?_
      intro y S2 ⟨q1, q2, q3⟩
      exact ⟨q1, frm.trans (S' := w_put (w_put (w_put S 129 48 ((ws.length : Nat) : Int)) 157 pr.length x) 129 46 ((pr.length : Nat) + 1)) (by repeat (first | exact frm.refl _ _ _ _ | refine frm.put ?_ rfl | refine frm.puto ?_ rfl rfl)) q2, q3⟩
    by_cases d : x = -1
    · exact ok_t d (ok_ib (by omega) (ok_nb (by omega) (go (stl_no c (Or.inr d)))))
    refine ok_e d ?_
    by_cases d2 : o = -1
    · rw [if_pos (Or.inr ⟨decide_eq_true d2, d⟩)]
      exact ok_t d2 (ok_ib (by omega) (ok_nb (by omega) (ok_s ⟨rfl, by repeat (first | exact frm.refl _ _ _ _ | refine frm.put ?_ rfl | refine frm.puto ?_ rfl rfl), hp⟩)))
    · exact ok_e d2 (ok_ib (by omega) (ok_nb (by omega) (go (stl_no c (Or.inl (decide_eq_false d2))))))
theorem x_oper {e : w_E} {N nt : Nat} {o : Int} {ws pr : List Int} {S : w_S} (hN : 100 ≤ N) (h : HR S pr ws nt) (h1 : pr.length + opn ws ≤ 40) (h2 : ws.length ≤ 48) : ∃ S1, E_R_operator e N o S = some (0, S1) ∧ frm [157, 158] [129] QJr S S1 ∧ HR S1 (stl (decide (o = -1)) pr ws).1 (o :: (stl (decide (o = -1)) pr ws).2) nt := by
  have key := l_oper (e := e) (N := N) (o := o) ws pr nt (N + 1) S h h1 h2 (by omega)
  obtain ⟨y, S1, e1, rfl, e2, e3⟩ := key
  rw [El_R_operator] at e1
  exact ⟨S1, e1, e2, e3⟩
theorem l_close {e : w_E} {N : Nat} : ∀ (ws pr : List Int) (nt nf : Nat) (S : w_S), HR S pr ws nt → pr.length + opn ws ≤ 40 → ws.length ≤ 48 → ws.length < nf → Ok (El_R_close e N nf 0 [] [] S) (fun y S1 => y = 0 ∧ frm [157, 158] [129] QJr S S1 ∧ HR S1 (stl false pr ws).1 (stl false pr ws).2.tail nt)
  | _, _, _, 0, _, _, _, _, h => by omega
  | [], pr, nt, nf + 1, S, h, h1, h2, h3 => by
    rw [El_R_close, h.2.2.1, List.length_nil]
    refine ok_t (by decide) (ok_s ⟨rfl, by repeat (first | exact frm.refl _ _ _ _ | refine frm.put ?_ rfl | refine frm.puto ?_ rfl rfl), ?_⟩)
    obtain ⟨g1, g2, g3, g4, g5⟩ := h
    refine ⟨?_, ?_, ?_, ?_, ?_⟩
    · simp only [w_put_r, reduceIte, Nat.reduceEqDiff, pt_at]
      exact g1
    · simp only [w_put_r, reduceIte, Nat.reduceEqDiff, pt_at]
      exact g2
    · simp only [w_put_r, reduceIte, Nat.reduceEqDiff, pt_at]
      rfl
    · simp only [w_put_r, reduceIte, Nat.reduceEqDiff, pt_at]
      exact g4
    · simp only [w_put_r, reduceIte, Nat.reduceEqDiff, pt_at]
      exact g5
  | x :: ws, pr, nt, nf + 1, S, h, h1, h2, h3 => by
    rw [List.length_cons] at h2 h3
    obtain ⟨p1, p2⟩ := h.pop
    rw [El_R_close, h.2.2.1, List.length_cons, show (((ws.length + 1 : Nat) : Int)) - 1 = (ws.length : Nat) by omega, show (((ws.length : Nat) : Int)).toNat = ws.length by omega, p1, h.1, show (((pr.length : Nat) : Int)).toNat = pr.length by omega]
    refine ok_e (by omega) (ok_nb (by omega) (ok_ib (by omega) ?_))
    rw [stl]
    by_cases c : x = -4
    · rw [if_pos (Or.inl c)]
      exact ok_t c (ok_s ⟨rfl, by repeat (first | exact frm.refl _ _ _ _ | refine frm.put ?_ rfl | refine frm.puto ?_ rfl rfl), p2⟩)
    rw [opn, if_neg c] at h1
    rw [if_neg (stl_no (b := false) c (Or.inl rfl))]
    refine ok_e c (ok_ib (by omega) (ok_nb (by omega) ?_))
    refine (l_close (e := e) (N := N) ws (pr ++ [x]) nt nf _ p2.addP (by rw [List.length_append, List.length_singleton]; omega) (by omega) (by omega)).mono ?_
    intro y S2 ⟨q1, q2, q3⟩
    exact ⟨q1, frm.trans (S' := w_put (w_put (w_put S 129 48 ((ws.length : Nat) : Int)) 157 pr.length x) 129 46 ((pr.length : Nat) + 1)) (by repeat (first | exact frm.refl _ _ _ _ | refine frm.put ?_ rfl | refine frm.puto ?_ rfl rfl)) q2, q3⟩
theorem x_close {e : w_E} {N nt : Nat} {ws pr : List Int} {S : w_S} (hN : 100 ≤ N) (h : HR S pr ws nt) (h1 : pr.length + opn ws ≤ 40) (h2 : ws.length ≤ 48) : ∃ S1, E_R_close e N S = some (0, S1) ∧ frm [157, 158] [129] QJr S S1 ∧ HR S1 (stl false pr ws).1 (stl false pr ws).2.tail nt := by
  have key := l_close (e := e) (N := N) ws pr nt (N + 1) S h h1 h2 (by omega)
  obtain ⟨y, S1, e1, rfl, e2, e3⟩ := key
  rw [El_R_close] at e1
  exact ⟨S1, e1, e2, e3⟩
end
section
-- el
/-- a word of a question: where it begins, how long it is -/
abbrev Wd : Type := Int × Nat
def vwd (G : Int → Int) (len : Int) (d : Wd) : Prop := 0 ≤ d.1 ∧ 1 ≤ d.2 ∧ d.2 ≤ 12 ∧ d.1 + (d.2 : Nat) ≤ len ∧ ∀ u : Nat, u < d.2 → cdb (G (d.1 + u)) = true
def rwf (R : w_S) (t j : Nat) (p : Int) (n : Nat) : Int × w_S := if n = 0 then (-1 - p, R) else if n = 13 then (-1 - (p + 12), R) else (p + (n : Nat), w_put (w_put (w_put R 155 (4 * t + j) p) 156 (4 * t + j) (n : Nat)) 154 t ((j : Nat) + 1))
theorem rwf0 {R : w_S} {t j : Nat} {p : Int} : rwf R t j p 0 = (-1 - p, R) := rfl
theorem rwf13 {R : w_S} {t j : Nat} {p : Int} : rwf R t j p 13 = (-1 - (p + 12), R) := rfl
theorem rwfn {R : w_S} {t j n : Nat} {p : Int} (h0 : ¬ n = 0) (h1 : ¬ n = 13) : rwf R t j p n = (p + (n : Nat), w_put (w_put (w_put R 155 (4 * t + j) p) 156 (4 * t + j) (n : Nat)) 154 t ((j : Nat) + 1)) := by
  unfold rwf
  rw [if_neg h0, if_neg h1]
theorem l_rword {e : w_E} {N t j : Nat} {R : w_S} {len p : Int} {G : Int → Int} (h : TR R len G) (hp : 0 ≤ p) (hl : p ≤ len) (ht : t < 20) (hj : j < 4) (h154 : R.1 154 t = (j : Nat)) : ∀ (k i nf : Nat), i + k = 13 → k < nf → El_R_word e N nf 0 [(t : Int), p, (i : Int)] [] R = some (rwf R t j p (i + nw cdb G k (p + i)))
  | _, _, 0, _, h => by omega
  | k, i, nf + 1, g1, g2 => by
    have hlen := h.2.2.1
    have fin : ∀ n : Nat, n ≤ 13 → n = i → nw cdb G k (p + i) = 0 → some (rwf R t j p (i + nw cdb G k (p + i))) = some (rwf R t j p n) := by
      intro n _ h1 h2
      rw [h2, h1, Nat.add_zero]
    by_cases c : k = 0
    · subst c
      have hi : i = 13 := by omega
      subst hi
      rw [show 13 + nw cdb G 0 (p + ((13 : Nat) : Int)) = 13 from rfl, rwf13]
      refine ok_eq ?_
      rw [El_R_word, show ((t : Int)).toNat = t by omega, h154, show (4 * (t : Int) + ((j : Nat) : Int)).toNat = 4 * t + j by omega]
      exact ok_t (by decide) (ok_t (by decide) (ok_e (fun w => w rfl) (ok_nb (by omega) (ok_nb (by omega) (ok_s ⟨rfl, rfl⟩)))))
    obtain ⟨k', rfl⟩ : ∃ k', k = k' + 1 := ⟨k - 1, by omega⟩
    have ih := l_rword (e := e) (N := N) h hp hl ht hj h154 k' (i + 1) nf (by omega) (by omega)
    have ga := x_at (e := e) (N := N) (p := p + (i : Int)) h (by omega)
    have gl : ∀ z, 0 ≤ z → G z = -1 ∨ (0 ≤ G z ∧ G z ≤ 255) := by
      intro z hz
      by_cases w : z < len
      · exact Or.inr ((h.2.2.2 z hz).1 w).2
      · exact Or.inl ((h.2.2.2 z hz).2 (by omega))
    have gz := gl (p + i) (by omega)
    refine ok_eq ?_
    rw [El_R_word, show ((t : Int)).toNat = t by omega, h154, show (4 * (t : Int) + ((j : Nat) : Int)).toNat = 4 * t + j by omega]
    rw [nw]
    refine ok_e (by omega) (ok_nb (by omega) (ok_b (ok_of ga ?_)))
    dsimp only
    by_cases c1 : cdb (G (p + i)) = true
    · have c2 := cdb_iff.1 c1
      rw [if_pos c1, show i + (nw cdb G k' (p + i + 1) + 1) = i + 1 + nw cdb G k' (p + ((i + 1 : Nat) : Int)) by rw [show p + ((i + 1 : Nat) : Int) = p + i + 1 by omega]; omega]
      rw [show ((i + 1 : Nat) : Int) = (i : Int) + 1 by omega] at ih
      rw [show ((i + 1 : Nat) : Int) = (i : Int) + 1 by omega]
      rcases c2 with c2 | c2
      · exact ok_e (by omega) (ok_e (by omega) (ok_nb (by omega) (ok_of ih ⟨rfl, rfl⟩)))
      · refine ok_t (by omega) (ok_b (ok_of ga ?_))
        dsimp only
        exact ok_e (by omega) (ok_e (by omega) (ok_nb (by omega) (ok_of ih ⟨rfl, rfl⟩)))
    · have c2 : ¬ ((97 ≤ G (p + i) ∧ G (p + i) ≤ 122) ∨ (48 ≤ G (p + i) ∧ G (p + i) ≤ 57)) := fun w => c1 (cdb_iff.2 w)
      rw [if_neg c1, Nat.add_zero]
      have stop : Ok (if (i : Int) ≠ 0 then (if (i : Int) ≠ 13 then (if w_nb (4 * (t : Int)) = true then (if w_ib (t : Int) 20 = true then (if w_nb ((4 * (t : Int)) + ((j : Nat) : Int)) = true then (if w_ib ((4 * (t : Int)) + ((j : Nat) : Int)) 80 = true then (if w_nb (((j : Nat) : Int) + 1) = true then some (p + (i : Int), (w_put (w_put (w_put R 155 (4 * t + j) p) 156 (4 * t + j) (i : Int)) 154 t (((j : Nat) : Int) + 1))) else none) else none) else none) else none) else none) else (if w_nb (p + 12) = true then (if w_nb ((-1) - (p + 12)) = true then some ((-1) - (p + 12), R) else none) else none)) else (if w_nb ((-1) - p) = true then some ((-1) - p, R) else none)) (fun y S1 => y = (rwf R t j p i).1 ∧ S1 = (rwf R t j p i).2) := by
        by_cases d : i = 0
        · subst d
          rw [rwf0]
          exact ok_e (by omega) (ok_nb (by omega) (ok_s ⟨rfl, rfl⟩))
        · rw [rwfn d (by omega)]
          exact ok_t (by omega) (ok_t (by omega) (ok_nb (by omega) (ok_ib (by omega) (ok_nb (by omega) (ok_ib (by omega) (ok_nb (by omega) (ok_s ⟨rfl, rfl⟩)))))))
      by_cases d1 : G (p + i) < 97
      · refine ok_t d1 (ok_b (ok_of ga ?_))
        dsimp only
        rw [h154, show (4 * (t : Int) + ((j : Nat) : Int)).toNat = 4 * t + j by omega]
        by_cases d2 : G (p + i) < 48
        · exact ok_t d2 stop
        · exact ok_e d2 (ok_t (by omega) stop)
      · refine ok_e d1 (ok_t (by omega) (ok_b (ok_of ga ?_)))
        dsimp only
        rw [h154, show (4 * (t : Int) + ((j : Nat) : Int)).toNat = 4 * t + j by omega]
        exact ok_e (by omega) (ok_t (by omega) stop)
theorem x_rword {e : w_E} {N t j : Nat} {R : w_S} {len p : Int} {G : Int → Int} (hN : 100 ≤ N) (h : TR R len G) (hp : 0 ≤ p) (hl : p ≤ len) (ht : t < 20) (hj : j < 4) (h154 : R.1 154 t = (j : Nat)) : E_R_word e N (t : Int) p R = some (rwf R t j p (nw cdb G 13 p)) := by
  have := l_rword (e := e) (N := N) h hp hl ht hj h154 13 0 N (by omega) (by omega)
  rw [show p + ((0 : Nat) : Int) = p by omega, Nat.zero_add] at this
  exact this
/-- twelve bytes and one more -/
theorem nw13 (P : Int → Bool) (G : Int → Int) (k : Nat) (q : Int) : (nw P G (k + 1) q = k + 1 ∧ nw P G k q = k ∧ P (G (q + (k : Nat))) = true) ∨ (nw P G (k + 1) q = nw P G k q ∧ nw P G k q ≤ k) := by
  rw [nw_succ]
  by_cases c : nw P G k q = k ∧ P (G (q + (k : Nat))) = true
  · rw [if_pos c]
    exact Or.inl ⟨rfl, c.1, c.2⟩
  · rw [if_neg c]
    exact Or.inr ⟨rfl, nw_le P G k q⟩
theorem nw12 (P : Int → Bool) (G : Int → Int) (q : Int) : (nw P G 13 q = 13 ∧ nw P G 12 q = 12 ∧ P (G (q + ((12 : Nat) : Int))) = true) ∨ (nw P G 13 q = nw P G 12 q ∧ nw P G 12 q ≤ 12) := nw13 P G 12 q
theorem pB_0 {G : Int → Int} {b q : Int} (h : 0 ≤ q) : pB G b q = if G q = b then q + 1 else -1 - q := by
  unfold pB
  rw [if_neg (show ¬ q < 0 by omega)]
theorem pS_0 {G : Int → Int} {q : Int} (h : 0 ≤ q) (k : nw cdb G 12 q = 0) : pS G q = -1 - q := by
  unfold pS
  rw [if_neg (show ¬ q < 0 by omega), if_pos k]
theorem pS_k {G : Int → Int} {q : Int} (h : 0 ≤ q) (k : ¬ nw cdb G 12 q = 0) : pS G q = q + (nw cdb G 12 q : Nat) := by
  unfold pS
  rw [if_neg (show ¬ q < 0 by omega), if_neg k]
theorem pS_n {G : Int → Int} {q : Int} (h : q < 0) : pS G q = q := by
  unfold pS
  rw [if_pos h]
end
