section
-- ex
/-- brackets close, in both -/
theorem l_qcb {e : w_E} {N nt : Nat} {f len en : Int} {G : Int → Int} (hN : 100 ≤ N) : ∀ (d nf nr : Nat) (T R : w_S) (q : Int) (pr ws : List Int), d ≤ 8 → d < nf → d < nr → TX T f len G → TR R len G → 0 ≤ q → q ≤ len → HC T pr ws nt → HR R pr ws nt → brk ws = d → QV pr ws nt 1 → nt ≤ 20 → ∃ (d' : Nat) (T' : w_S) (q' : Int) (pr' ws' : List Int), El_Question_closeBrackets e N nf 0 [(d : Int)] [] (tp T (f + q) (-1)) = some ((d' : Int), tp T' (f + q') (-1)) ∧ frm [95, 96] [94] [(94, 3), (94, 5)] T T' ∧ HC T' pr' ws' nt ∧ 0 ≤ q' ∧ q' ≤ len ∧ d' ≤ 8 ∧ brk ws' = d' ∧ QV pr' ws' nt 1 ∧ (d' = 0 ∨ G q' ≠ 41) ∧ ∀ {P : Int → w_S → Prop}, (∀ R' n', nr ≤ n' + d → frm QRa [129] QRj R R' → (∀ a, 152 ≤ a → a ≤ 156 → R'.1 a = R.1 a) → HR R' pr' ws' nt → Ok (El_R_question e N n' 0 [en, (d' : Int), q', 0] [] R') P) → Ok (El_R_question e N nr 0 [en, (d : Int), q, 0] [] R) P
  | _, 0, _, _, _, _, _, _, _, h, _, _, _, _, _, _, _, _, _, _ => by omega
  | _, _ + 1, 0, _, _, _, _, _, _, _, h, _, _, _, _, _, _, _, _, _ => by omega
  | 0, nf + 1, nr + 1, T, R, q, pr, ws, g1, g2, g3, g4, g5, g6, g7, g8, g9, g10, g11, g12 => by
    refine ⟨0, T, q, pr, ws, ?_, frm.refl _ _ _ _, g8, g6, g7, by omega, g10, g11, Or.inl rfl, fun {P} K => K R (nr + 1) (by omega) (frm.refl _ _ _ _) (fun _ _ _ => rfl) g9⟩
    refine ok_eq ?_
    rw [El_Question_closeBrackets]
    exact ok_t (by omega) (ok_s ⟨rfl, rfl⟩)
  | d + 1, nf + 1, nr + 1, T, R, q, pr, ws, g1, g2, g3, g4, g5, g6, g7, g8, g9, g10, g11, g12 => by
    have ha : At f len (f + q) (-1) q := ⟨by omega, by omega, Or.inl ⟨rfl, rfl⟩⟩
    have pk := x_peek (e := e) (N := N) g4 ha
    rw [if_neg (show ¬ q < 0 by omega)] at pk
    have hl2 := g5.2.2.1
    by_cases c : G q = 41
    rotate_left
    · refine ⟨d + 1, T, q, pr, ws, ?_, frm.refl _ _ _ _, g8, g6, g7, by omega, g10, g11, Or.inr c, fun {P} K => K R (nr + 1) (by omega) (frm.refl _ _ _ _) (fun _ _ _ => rfl) g9⟩
      refine ok_eq ?_
      rw [El_Question_closeBrackets]
      exact ok_e (by omega) (ok_b (ok_of pk (ok_t c (ok_s ⟨rfl, rfl⟩))))
    have ql : q < len := by
      by_cases z : q < len
      · exact z
      · have := (g5.2.2.2 q g6).2 (by omega)
        omega
    have wl1 := ws_len ws
    have g114 := g11.2.2.2
    have sl := stl_len false ws pr
    have qs := QV.stl false g11
    have tp0 := stl_top ws pr
    obtain ⟨_, S0, t1, a1, w1, t2, t3, _⟩ := x_takeByte (e := e) (N := N) (b := 41) g4 ha (by decide)
    rw [pB_0 g6, if_pos c] at t3
    obtain ⟨w1e, a1e, _⟩ := t3.right.1 (by omega)
    subst w1e a1e
    subst t2
    obtain ⟨S1, s1, s2, s3⟩ := x_settle (e := e) (N := N) (b := false) hN (g8.tpp (a := f + (q + 1)) (w := -1)) (by omega) (by omega)
    obtain ⟨R1, u1, u2, u3⟩ := x_close (e := e) (N := N) hN g9 (by omega) (by omega)
    generalize (stl false pr ws).1 = pr1 at *
    generalize (stl false pr ws).2 = ws1 at *
    rcases tp0 with tp0 | ⟨ws2, tp0⟩
    · rw [tp0] at sl
      rw [brk] at sl
      omega
    subst tp0
    rw [List.tail_cons] at u3
    have b2 : brk ws2 = d := by
      have := sl.2
      rw [brk, if_pos rfl] at this
      omega
    have wl2 := ws_len ws2
    have o2 : opn (-4 :: ws2) = opn ws2 := by
      rw [opn, if_pos rfl, Nat.zero_add]
    have sid : S1 = tp (tp S1 (T.1 1 4) (T.1 1 6)) (f + (q + 1)) (-1) := by
      have e4 : S1.1 1 4 = f + (q + 1) := by rw [s2.2.1 1 rfl rfl, tp4]
      have e6 : S1.1 1 6 = -1 := by rw [s2.2.1 1 rfl rfl, tp6]
      rw [tp_tp, ← e4, ← e6]
      exact (tp_id S1).symm
    have f1 := tp_frm s2
    have hc1 : HC (tp S1 (T.1 1 4) (T.1 1 6)) pr1 (-4 :: ws2) nt := s3.tpp
    have n5 : S1.1 94 5 = ((ws2.length + 1 : Nat) : Int) := by rw [s3.2.2.1, List.length_cons]
    generalize tp S1 (T.1 1 4) (T.1 1 6) = T1 at sid f1 hc1
    have hc2 := hc1.pop.2
    have f2 : frm [95, 96] [94] [(94, 3), (94, 5)] T (w_put T1 94 5 ((ws2.length : Nat) : Int)) := frm.trans (S' := T1) (f1.wide (fun b h => by
      simp only [List.contains_cons, List.contains_nil, Bool.or_false, Bool.or_eq_false_iff] at h ⊢
      exact h.1) (fun b h => h) (fun b j h => h)) (by repeat (first | exact frm.refl _ _ _ _ | refine frm.put ?_ rfl | refine frm.puto ?_ rfl rfl))
    have e1 : w_put S1 94 5 (max 0 (((ws2.length + 1 : Nat) : Int) - 1)) = tp (w_put T1 94 5 ((ws2.length : Nat) : Int)) (f + (q + 1)) (-1) := by
      rw [← tp_put _ _ _ _ (by decide), ← sid, show max 0 (((ws2.length + 1 : Nat) : Int) - 1) = ((ws2.length : Nat) : Int) by omega]
    have x1 : TX (w_put T1 94 5 ((ws2.length : Nat) : Int)) f len G := g4.cg (f2.2.1 1 rfl rfl) (f2.2.1 2 rfl rfl)
    have wR : frm QRa [129] QRj R R1 := u2.wide (fun b h => by
      simp only [List.contains_cons, List.contains_nil, Bool.or_false, Bool.or_eq_false_iff] at h ⊢
      exact ⟨h.2.2.2.2.2.1, h.2.2.2.2.2.2⟩) (fun b h => h) (fun b j h => by
      simp only [List.contains_cons, List.contains_nil, Bool.or_false, Bool.or_eq_false_iff] at h ⊢
      exact ⟨h.2.2.1, h.2.2.2⟩)
    have loR : ∀ a, 152 ≤ a → a ≤ 156 → R1.1 a = R.1 a := fun a k1 k2 => u2.2.1 a (by
      simp only [List.contains_cons, List.contains_nil, Bool.or_false, Bool.or_eq_false_iff, beq_eq_false_iff_ne]
      omega) (by
      simp only [List.contains_cons, List.contains_nil, Bool.or_false, beq_eq_false_iff_ne]
      omega)
    have tr1 : TR R1 len G := g5.cg (u2.2.2 129 2 rfl rfl) (u2.2.1 130 rfl rfl)
    have ga := x_at (e := e) (N := N) g5 g6
    obtain ⟨d', T', q', pr', ws', r1, r2, r3, r4, r5, r6, r7, r8, r9, r10⟩ := l_qcb (e := e) (N := N) (en := en) hN d nf nr (w_put T1 94 5 ((ws2.length : Nat) : Int)) R1 (q + 1) pr1 ws2 (by omega) (by omega) (by omega) x1 tr1 (by omega) (by omega) hc2 u3 b2 qs.tail g12
    refine ⟨d', T', q', pr', ws', ?_, f2.trans r2, r3, r4, r5, r6, r7, r8, r9, fun {P} K => ?_⟩
    · refine ok_eq ?_
      rw [El_Question_closeBrackets]
      refine ok_e (by omega) (ok_b (ok_of pk (ok_e (fun z => z c) (ok_b (ok_of t1 (ok_b (ok_of s1 ?_)))))))
      dsimp only
      rw [n5, e1, show ((d + 1 : Nat) : Int) + (-1) = (d : Int) by omega]
      exact ok_nb (by omega) (ok_nb (by omega) (ok_of r1 ⟨rfl, rfl⟩))
    · rw [rq_step]
      refine ok_e (fun z => z rfl) (ok_t (by omega) (ok_b (ok_of ga ?_)))
      dsimp only
      refine ok_e (fun z => z c) (ok_nb (by omega) (ok_b (ok_of u1 (ok_nb (by omega) ?_))))
      rw [show ((d + 1 : Nat) : Int) + (-1) = (d : Int) by omega]
      exact r10 (fun R' n' k1 k2 k3 k4 => K R' n' (by omega) (wR.trans k2) (fun a z1 z2 => by rw [k3 a z1 z2, loR a z1 z2]) k4)
theorem pL_snoc {G : Int → Int} {c : Int} : ∀ (L : List Int) (q : Int), pL G (L ++ [c]) q = pB G c (pL G L q)
  | [], q => rfl
  | d :: L, q => by
    rw [List.cons_append, pL, pL, pL_snoc L]
theorem wl_and : wl 9 = jkw 0 ++ [32] := by decide
theorem wl_or : wl 10 = jkw 1 ++ [32] := by decide
theorem wl_not : wl 11 = jkw 2 ++ [32] := by decide
/-- a joint's number, to both -/
def jno (k : Int) : Int := if k = 0 then -1 else if k = 1 then -2 else -3
/-- what joins two terms, to the reference -/
theorem r_jo {e : w_E} {N n nt : Nat} {R : w_S} {len en d q : Int} {G : Int → Int} {pr ws : List Int} {P : Int → w_S → Prop} (hN : 2001 ≤ N) (hr : TR R len G) (hq : 0 ≤ q) (hl : q < len) (hR : HR R pr ws nt) (h1 : pr.length + opn ws ≤ 40) (h2 : ws.length ≤ 48) (bad : pB G 32 (pK (wl 6) G (q + 1)) < 0 → P (pB G 32 (pK (wl 6) G (q + 1))) R) (good : 0 ≤ pB G 32 (pK (wl 6) G (q + 1)) → ∀ R1, frm [157, 158] [129] QJr R R1 → HR R1 (stl (decide (jkd G (q + 1) = 0)) pr ws).1 (jno (jkd G (q + 1)) :: (stl (decide (jkd G (q + 1) = 0)) pr ws).2) nt → Ok (El_R_question e N n 0 [en, d, pB G 32 (pK (wl 6) G (q + 1)), 1] [] R1) P) : Ok (Rjo e N n en d q 32 R) P := by
  have hl2 := hr.2.2.1
  have jw := (jn_word (G := G) (s := q + 1) (by omega)).1
  have ga := x_at (e := e) (N := N) (p := q + 1) hr (by omega)
  rw [jw] at bad good
  unfold Rjo
  refine ok_t rfl (ok_nb (by omega) (ok_b (ok_of ga ?_)))
  dsimp only
  have fin : ∀ (L : List Int) (o : Int), pL G L (q + 1) = pB G 32 (pL G (jkw (jkd G (q + 1))) (q + 1)) → o = jno (jkd G (q + 1)) → Ok (if 0 ≤ pL G L (q + 1) then ((E_R_operator e N o R).bind (fun q998 => El_R_question e N n 0 [en, d, pL G L (q + 1), 1] [] q998.2)) else some (pL G L (q + 1), R)) P := by
    intro L o k1 k2
    rw [k1]
    by_cases c : 0 ≤ pB G 32 (pL G (jkw (jkd G (q + 1))) (q + 1))
    · obtain ⟨R1, s1, s2, s3⟩ := x_oper (e := e) (N := N) (o := o) (by omega) hR h1 h2
      have od : decide (o = -1) = decide (jkd G (q + 1) = 0) := by
        rw [decide_eq_decide, k2]
        unfold jno
        constructor
        · intro z
          by_cases w : jkd G (q + 1) = 0
          · exact w
          · rw [if_neg w] at z
            split at z <;> omega
        · intro z
          rw [if_pos z]
      rw [od, k2] at s3
      exact ok_t c (ok_b (ok_of s1 (good c R1 s2 s3)))
    · exact ok_e c (ok_s (bad (by omega)))
  by_cases c1 : G (q + 1) = 97
  · have k : jkd G (q + 1) = 0 := by simp [jkd, c1]
    refine ok_e (fun z => z c1) (ok_b (ok_of (x_lit9 (e := e) hN hr (by omega) (by omega)) ?_))
    dsimp only
    exact fin (wl 9) (-1) (by rw [wl_and, pL_snoc, k]) (by rw [k]; rfl)
  refine ok_t c1 (ok_b (ok_of ga ?_))
  dsimp only
  by_cases c2 : G (q + 1) = 111
  · have k : jkd G (q + 1) = 1 := by simp [jkd, c2]
    refine ok_e (fun z => z c2) (ok_b (ok_of (x_lit8 (e := e) hN hr (by omega) (by omega)) ?_))
    dsimp only
    exact fin (wl 10) (-2) (by rw [wl_or, pL_snoc, k]) (by rw [k]; rfl)
  · have k : jkd G (q + 1) = 2 := by simp [jkd, c1, c2]
    refine ok_t c2 (ok_b (ok_of (x_lit7 (e := e) hN hr (by omega) (by omega)) ?_))
    dsimp only
    exact fin (wl 11) (-3) (by rw [wl_not, pL_snoc, k]) (by rw [k]; rfl)
end
section
-- ey
/-- what joins two terms, to the class -/
def Qjt (e : w_E) (N n : Nat) (d x3 : Int) (S : w_S) : e_R := ((E_Tape_takeByte e N 32 S).bind (fun q495 => ((E_Tape_takeWord_v6 e N q495.2).bind (fun q496 => (if q496.1 ≠ 0 then (if q496.1 ≠ 1 then ((E_Tape_takeByte e N 32 q496.2).bind (fun q501 => ((E_Question_settleWaiting e N 0 q501.2).bind (fun q502 => ((E_Question_pushWaiting e N (-3) q502.2).bind (fun q503 => (if w_nb (x3 + 1) = true then El_Question_readQuestion e N n 0 [d, 1, x3 + 1] [] q503.2 else none))))))) else ((E_Tape_takeByte e N 32 q496.2).bind (fun q504 => ((E_Question_settleWaiting e N 0 q504.2).bind (fun q505 => ((E_Question_pushWaiting e N (-2) q505.2).bind (fun q506 => (if w_nb (x3 + 1) = true then El_Question_readQuestion e N n 0 [d, 1, x3 + 1] [] q506.2 else none)))))))) else ((E_Tape_takeByte e N 32 q496.2).bind (fun q507 => ((E_Question_settleWaiting e N 1 q507.2).bind (fun q508 => ((E_Question_pushWaiting e N (-1) q508.2).bind (fun q509 => (if w_nb (x3 + 1) = true then El_Question_readQuestion e N n 0 [d, 1, x3 + 1] [] q509.2 else none))))))))))))
theorem qcl_step {e : w_E} {N n : Nat} {d x3 : Int} {S : w_S} : Qcl e N n d x3 S = ((E_Question_closeBrackets e N d S).bind (fun q490 => ((E_Tape_peek e N q490.2).bind (fun q494 => (if q494.1 ≠ 32 then (if w_nb (x3 + 1) = true then El_Question_readQuestion e N n 0 [q490.1, 0, x3 + 1] [] q494.2 else none) else Qjt e N n q490.1 x3 q494.2))))) := rfl
theorem c_jo {e : w_E} {N n nt : Nat} {T : w_S} {f len d x3 q : Int} {G : Int → Int} {pr ws : List Int} {P : Int → w_S → Prop} (hN : 2001 ≤ N) (hx : -1 ≤ x3 ∧ x3 ≤ 1000) (h : TX T f len G) (hq : 0 ≤ q) (hl : q < len) (c : G q = 32) (hC : HC T pr ws nt) (h1 : pr.length + opn ws ≤ 40) (h2 : ws.length ≤ 47) (K : ∀ T' a' w' b o, At f len a' w' (pB G 32 (pK (wl 6) G (q + 1))) → frm [95, 96] [94] [(94, 3), (94, 5)] T T' → HC T' (stl b pr ws).1 (o :: (stl b pr ws).2) nt → -3 ≤ o ∧ o ≤ -1 → (0 ≤ pB G 32 (pK (wl 6) G (q + 1)) → b = decide (jkd G (q + 1) = 0) ∧ o = jno (jkd G (q + 1))) → Ok (El_Question_readQuestion e N n 0 [d, 1, x3 + 1] [] (tp T' a' w')) P) : Ok (Qjt e N n d x3 (tp T (f + q) (-1))) P := by
  have ha : At f len (f + q) (-1) q := ⟨by omega, by omega, Or.inl ⟨rfl, rfl⟩⟩
  have jw := (jn_word (G := G) (s := q + 1) (by omega)).2
  unfold Qjt
  refine tk_b (x_takeByte (e := e) (N := N) (b := 32) h ha (by decide)) (fun _ a1 w1 k1 _ => ?_)
  rw [pB_0 hq, if_pos c] at k1
  refine tk_b (x_word6 (e := e) hN h k1) (fun y a2 w2 k2 hy => ?_)
  dsimp only
  -- the kind is what the letters say, where all is right
  have ky : 0 ≤ pB G 32 (pK (wl 6) G (q + 1)) → y = jkd G (q + 1) := by
    intro z
    have p0 : 0 ≤ pK (wl 6) G (q + 1) := by
      by_cases w : pK (wl 6) G (q + 1) < 0
      · rw [pB_neg w] at z
        exact z
      · omega
    rw [(hy (k2.right.1 p0).1).1]
    exact jw p0
  have jb : jkd G (q + 1) = 0 ∨ jkd G (q + 1) = 1 ∨ jkd G (q + 1) = 2 := by
    unfold jkd
    split
    · exact Or.inl rfl
    · split
      · exact Or.inr (Or.inl rfl)
      · exact Or.inr (Or.inr rfl)
  have st : ∀ (b : Bool) (o : Int), (-3 ≤ o ∧ o ≤ -1) → (0 ≤ pB G 32 (pK (wl 6) G (q + 1)) → b = decide (jkd G (q + 1) = 0) ∧ o = jno (jkd G (q + 1))) → Ok ((E_Tape_takeByte e N 32 (tp T a2 w2)).bind (fun q501 => ((E_Question_settleWaiting e N (bi b) q501.2).bind (fun q502 => ((E_Question_pushWaiting e N o q502.2).bind (fun q503 => (if w_nb (x3 + 1) = true then El_Question_readQuestion e N n 0 [d, 1, x3 + 1] [] q503.2 else none))))))) P := by
    intro b o ho hbo
    refine tk_b (x_takeByte (e := e) (N := N) (b := 32) h k2 (by decide)) (fun _ a3 w3 k3 _ => ?_)
    have sl := stl_len b ws pr
    have wl0 := ws_len ws
    have wl1 := ws_len (stl b pr ws).2
    obtain ⟨S1, s1, s2, s3⟩ := x_settle (e := e) (N := N) (b := b) (by omega) (hC.tpp (a := a3) (w := w3)) h1 (by omega)
    have lw : (stl b pr ws).2.length ≤ ws.length := by
      have : ∀ (ws pr : List Int), (stl b pr ws).2.length ≤ ws.length := by
        intro ws
        induction ws with
        | nil => intro pr; exact Nat.le_refl _
        | cons x ws ih =>
          intro pr
          rw [stl_cons]
          split
          · exact Nat.le_refl _
          · have := ih (pr ++ [x])
            rw [List.length_cons]
            omega
      exact this ws pr
    obtain ⟨S2, u1, u2, u3⟩ := x_pushW (e := e) (N := N) (x := o) s3 (by omega)
    refine ok_b (ok_of s1 (ok_b (ok_of u1 (ok_nb (by omega) ?_))))
    dsimp only
    have f12 : frm [95, 96] [94] [(94, 3), (94, 5)] (tp T a3 w3) S2 := (s2.wide (fun b h => by
      simp only [List.contains_cons, List.contains_nil, Bool.or_false, Bool.or_eq_false_iff] at h ⊢
      exact h.1) (fun b h => h) (fun b j h => h)).trans (u2.wide (fun b h => by
      simp only [List.contains_cons, List.contains_nil, Bool.or_false, Bool.or_eq_false_iff] at h ⊢
      exact h.2) (fun b h => h) (fun b j h => by
      simp only [List.contains_cons, List.contains_nil, Bool.or_false, Bool.or_eq_false_iff] at h ⊢
      exact h.2))
    have sid : S2 = tp (tp S2 (T.1 1 4) (T.1 1 6)) a3 w3 := by
      have e4 : S2.1 1 4 = a3 := by rw [f12.2.1 1 rfl rfl, tp4]
      have e6 : S2.1 1 6 = w3 := by rw [f12.2.1 1 rfl rfl, tp6]
      rw [tp_tp, ← e4, ← e6]
      exact (tp_id S2).symm
    rw [sid]
    exact K _ a3 w3 b o k3 (tp_frm f12) u3.tpp ho hbo
  by_cases c0 : y = 0
  · refine ok_e (fun z => z c0) ?_
    exact st true (-1) (by decide) (fun z => by
      have := ky z
      rw [c0] at this
      rw [← this]
      exact ⟨rfl, rfl⟩)
  refine ok_t c0 ?_
  by_cases c1 : y = 1
  · refine ok_e (fun z => z c1) ?_
    exact st false (-2) (by decide) (fun z => by
      have := ky z
      rw [c1] at this
      rw [← this]
      exact ⟨rfl, rfl⟩)
  · refine ok_t c1 ?_
    exact st false (-3) (by decide) (fun z => by
      have := ky z
      rcases jb with jb | jb | jb
      · omega
      · omega
      · rw [jb]
        exact ⟨rfl, rfl⟩)
end
section
-- ez
abbrev t0 : Trm := (0, 0, false, [])
/-- the terms that were read, in both -/
def TS (T R : w_S) (f len : Int) (G : Int → Int) (wb : Nat) (tms : List Trm) : Prop := ∀ i, i < tms.length → vtm G len (tms.getD i t0) ∧ TmC T f i wb (tms.getD i t0) ∧ TmR R i (tms.getD i t0)
theorem TS.cg {T R T' R' : w_S} {f len : Int} {G : Int → Int} {wb wb' : Nat} {tms : List Trm} (h : TS T R f len G wb tms) (hT : Tlow T T' tms.length wb) (hR : Rlow R R' tms.length) (hw : wb ≤ wb') : TS T' R' f len G wb' tms := by
  intro i hi
  obtain ⟨h1, ⟨c1, c2, c3⟩, r1, r2, r3⟩ := h i hi
  have l4 := h1.2.2.2.2
  generalize tms.getD i t0 = d at *
  obtain ⟨t97, t98, t99, t100, t101⟩ := hT.1 i hi
  obtain ⟨s152, s153, s154⟩ := hR.1 i hi
  refine ⟨h1, ⟨by rw [t97]; exact c1, fun z => by rw [t101]; exact c2 z, fun z => ?_⟩, by rw [s152]; exact r1, fun z => by rw [s153, s154]; exact r2 z, fun z => ?_⟩
  · obtain ⟨w0, w1, w2, w3, w4, w5⟩ := c3 z
    refine ⟨w0, by rw [t98]; exact w1, by omega, by rw [t99]; exact w3, by rw [t100]; exact w4, fun j hj => ?_⟩
    rw [hT.2 _ (by omega)]
    exact w5 j hj
  · obtain ⟨w1, w2, w3, w4⟩ := r3 z
    refine ⟨by rw [s154]; exact w1, by rw [s153]; exact w2, by rw [s153]; exact w3, fun j hj => ?_⟩
    have := hR.2 (4 * i + j) (by omega)
    rw [this.1, this.2]
    exact w4 j hj
/-- a question that was read, in both -/
def Qst (T R : w_S) (f len : Int) (G : Int → Int) : Prop := ∃ (pr : List Int) (nt wb : Nat) (tms : List Trm), HC T pr [] nt ∧ HR R pr [] nt ∧ hg pr = some 1 ∧ (∀ x, x ∈ pr → -3 ≤ x ∧ x < (nt : Nat)) ∧ nt ≤ 20 ∧ pr.length ≤ 40 ∧ wb ≤ 80 ∧ tms.length = nt ∧ TS T R f len G wb tms
def FinQ (T R : w_S) (f len en : Int) (G : Int → Int) (S1 : w_S) (y' : Int) (R1 : w_S) : Prop := ∃ T' a' w' q', S1 = tp T' a' w' ∧ At f len a' w' q' ∧ frm QSa [94] QSj T T' ∧ frm QRa [129] QRj R R1 ∧ y' = (if 0 ≤ q' ∧ G q' ≠ en then -1 - q' else q') ∧ (0 ≤ y' → Qst T' R1 f len G)
theorem FinQ.mono {T T0 R R0 : w_S} {f len en : Int} {G : Int → Int} {S1 : w_S} {y' : Int} {R1 : w_S} (h : FinQ T R f len en G S1 y' R1) (hT : frm QSa [94] QSj T0 T) (hR : frm QRa [129] QRj R0 R) : FinQ T0 R0 f len en G S1 y' R1 := by
  obtain ⟨T', a', w', q', h1, h2, h3, h4, h5, h6⟩ := h
  exact ⟨T', a', w', q', h1, h2, hT.trans h3, hR.trans h4, h5, h6⟩
theorem Tlow.refl (T : w_S) (t wb : Nat) : Tlow T T t wb := ⟨fun _ _ => ⟨rfl, rfl, rfl, rfl, rfl⟩, fun _ _ => rfl⟩
theorem Tlow.of {T T' : w_S} {L O : List Nat} {J : List (Nat × Nat)} (h : frm L O J T T') (hd : ckA L O [97, 98, 99, 100, 101, 102] = true) (t wb : Nat) : Tlow T T' t wb := by
  simp only [ckA, List.all_eq_true, Bool.and_eq_true, Bool.not_eq_true'] at hd
  have ar : ∀ a, a ∈ [97, 98, 99, 100, 101, 102] → T'.1 a = T.1 a := fun a ha => h.2.1 a (hd a ha).1 (hd a ha).2
  exact ⟨fun u _ => ⟨by rw [ar 97 (by decide)], by rw [ar 98 (by decide)], by rw [ar 99 (by decide)], by rw [ar 100 (by decide)], by rw [ar 101 (by decide)]⟩, fun u _ => by rw [ar 102 (by decide)]⟩
theorem Rlow.of {R R' : w_S} (h : ∀ a, 152 ≤ a → a ≤ 156 → R'.1 a = R.1 a) (t : Nat) : Rlow R R' t := ⟨fun u _ => ⟨by rw [h 152 (by omega) (by omega)], by rw [h 153 (by omega) (by omega)], by rw [h 154 (by omega) (by omega)]⟩, fun u _ => ⟨by rw [h 155 (by omega) (by omega)], by rw [h 156 (by omega) (by omega)]⟩⟩
/-- a term more -/
theorem TS.snoc {T R : w_S} {f len : Int} {G : Int → Int} {wb : Nat} {tms : List Trm} {d : Trm} (h : TS T R f len G wb tms) (h1 : vtm G len d) (h2 : TmC T f tms.length wb d) (h3 : TmR R tms.length d) : TS T R f len G wb (tms ++ [d]) := by
  intro i hi
  rw [List.length_append, List.length_singleton] at hi
  rw [getD_snoc]
  by_cases c : i < tms.length
  · rw [if_pos c]
    exact h i c
  · have hi2 : i = tms.length := by omega
    rw [if_neg c, if_pos hi2, hi2]
    exact ⟨h1, h2, h3⟩
end
section
-- f0
/-- one term of a question and what follows it, in both -/
theorem q_one {e : w_E} {N k i nf nr d wb : Nat} {f len en q : Int} {G : Int → Int} {T R : w_S} {pr ws : List Int} {tms : List Trm} (hN : 2001 ≤ N) (hen : en = -1 ∨ en = 10) (g1 : i + k = 20) (g2 : k + 4 ≤ nf) (g3 : 40 * k + 40 ≤ nr) (g4 : TX T f len G) (g5 : TR R len G) (g6 : 0 ≤ q) (g7 : q ≤ len) (g8 : HC T pr ws i) (g9 : HR R pr ws i) (g10 : brk ws = d) (g11 : d ≤ 8) (g12 : QV pr ws i 0) (g13 : tms.length = i) (g14 : T.1 94 12 = (wb : Nat)) (g15 : wb ≤ 4 * i) (g16 : TS T R f len G wb tms) (ih : 1 ≤ k → ∀ (nf' nr' : Nat) (T' R' : w_S) (q' : Int) (d' wb' : Nat) (pr' ws' : List Int) (tms' : List Trm), nf ≤ nf' + 1 → nr ≤ nr' + 20 → TX T' f len G → TR R' len G → 0 ≤ q' → q' ≤ len → HC T' pr' ws' (i + 1) → HR R' pr' ws' (i + 1) → brk ws' = d' → d' ≤ 8 → QV pr' ws' (i + 1) 0 → tms'.length = i + 1 → T'.1 94 12 = (wb' : Nat) → wb' ≤ 4 * (i + 1) → TS T' R' f len G wb' tms' → Ok (El_Question_readQuestion e N nf' 0 [(d' : Int), 1, ((i + 1 : Nat) : Int)] [] (tp T' (f + q') (-1))) (fun _ S1 => Ok (El_R_question e N nr' 0 [en, (d' : Int), q', 1] [] R') (fun y' R1 => FinQ T' R' f len en G S1 y' R1))) : Ok (El_Question_readQuestion e N nf 0 [(d : Int), 1, (i : Int)] [] (tp T (f + q) (-1))) (fun _ S1 => Ok (El_R_question e N nr 0 [en, (d : Int), q, 1] [] R) (fun y' R1 => FinQ T R f len en G S1 y' R1)) := by
  obtain ⟨nf, rfl⟩ : ∃ m, nf = m + 1 := ⟨nf - 1, by omega⟩
  obtain ⟨d1, T1, q1, ws1, r1, r2, r3, r4, r5, r6, r7, r8, r9, r10⟩ := l_qop (e := e) (N := N) (en := en) (by omega) (8 - d) d N nr T R q ws (by omega) (by omega) (by omega) g4 g5 g6 g7 g8 g9 g10 g12 (by omega)
  have x1 : TX T1 f len G := g4.cg (r2.2.1 1 rfl rfl) (r2.2.1 2 rfl rfl)
  have wl1 := ws_len ws1
  have q84 := r8.2.2.2
  have fS1 : frm QSa [94] QSj T T1 := r2.wide (fun b h => by
    simp only [List.contains_cons, List.contains_nil, Bool.or_false, Bool.or_eq_false_iff] at h ⊢
    exact h.2.1) (fun b h => h) (fun b j h => by
    simp only [List.contains_cons, List.contains_nil, Bool.or_false, Bool.or_eq_false_iff] at h ⊢
    exact h.2.1)
  have w12 : T1.1 94 12 = (wb : Nat) := by rw [r2.2.2 94 12 rfl rfl]; exact g14
  rw [qt_step]
  refine ok_e (by omega) (ok_e (by decide) (ok_b ?_))
  unfold E_Question_openBrackets
  refine ok_of r1 ?_
  dsimp only
  refine ok_sw (r10 (fun R1 n1 hn1 k2 k3 k4 => ok_sw ?_))
  have tr1 : TR R1 len G := g5.cg (k2.2.2 129 2 rfl rfl) (k2.2.1 130 rfl rfl)
  obtain ⟨y', R2, u1, u2, u3, u4⟩ := x_term (e := e) (N := N) (n := nf) (t := i) (wb := wb) (x0 := (d1 : Int)) (x3 := (i : Int)) (q := q1) (pr := pr) (ws := ws1) hN x1 tr1 r4 r5 r3 k4 (by omega) (by omega) w12 g15
  have ga := x_at (e := e) (N := N) tr1 r4
  obtain ⟨m1, rfl⟩ : ∃ m, n1 = m + 1 := ⟨n1 - 1, by omega⟩
  have hl2 := g5.2.2.1
  -- the reference up to the term's answer
  have rt : ∀ {P : Int → w_S → Prop}, Ok (if 0 ≤ y' then El_R_question e N m1 0 [en, (d1 : Int), y', 0] [] R2 else some (y', R2)) P → Ok (El_R_question e N (m1 + 1) 0 [en, (d1 : Int), q1, 1] [] R1) P := by
    intro P w
    rw [rq_step]
    refine ok_t (by decide) (ok_b (ok_of ga ?_))
    dsimp only
    by_cases c : G q1 = 40
    · have d8 : d1 = 8 := by
        rcases r9 with z | z
        · exact z
        · exact absurd c z
      have tv : E_R_term e N q1 R1 = some (-1 - q1, R1) := by
        refine ok_eq ?_
        rw [rt_step]
        refine ok_b (ok_of ga ?_)
        dsimp only
        rw [c]
        exact ok_e (by decide) (ok_e (by decide) (ok_e (by decide) (ok_e (by decide) (ok_t (by decide) (ok_nb (by omega) (ok_s ⟨rfl, rfl⟩))))))
      rw [u1] at tv
      have tv2 := Option.some.inj tv
      have yv : y' = -1 - q1 := congrArg (fun z => z.1) tv2
      have rv : R2 = R1 := congrArg (fun z => z.2) tv2
      rw [if_neg (show ¬ 0 ≤ y' by omega), yv, rv] at w
      exact ok_e (fun z => z c) (ok_e (fun z => z (by omega)) (ok_nb (by omega) w))
    · refine ok_t c (ok_b (ok_of u1 ?_))
      exact w
  have fR2 : frm QRa [129] QRj R R2 := k2.trans u2
  have lowR : Rlow R R2 i := (Rlow.of k3 i).trans u3
  refine ok_sw (rt ?_)
  by_cases cy : 0 ≤ y'
  rotate_left
  · -- the term went wrong
    refine ok_e cy (ok_s (u4 (fun T2 a2 w2 q2 wc2 t2 pr2 k5 k6 k7 k8 k9 k10 k11 k12 k13 => ?_)))
    obtain ⟨n2, rfl⟩ : ∃ m, nf = m + 1 := ⟨nf - 1, by omega⟩
    have k13' : (q2 < 0 ∧ y' = q2) ∨ (0 ≤ q2 ∧ y' = -1 - q2 ∧ cdb (G q2) = true) := by
      rcases k13 with z | z
      · exact z.2
      · exact absurd z.1 cy
    have cq : q2 < 0 ∨ (G q2 ≠ 41 ∧ G q2 ≠ 32) := by
      rcases k13' with z | z
      · exact Or.inl z.1
      · have := cdb_iff.1 z.2.2
        exact Or.inr ⟨by omega, by omega⟩
    have x2 : TX T2 f len G := x1.cg (k6.2.1 1 rfl rfl) (k6.2.1 2 rfl rfl)
    refine (d_qcl (e := e) (N := N) (n := n2) (d := (d1 : Int)) (by omega) (by omega) x2 k5 k8 k9 (by omega) cq).mono ?_
    intro _ S1 ⟨T3, a3, w3, z1, z2, z3, _⟩
    refine ⟨T3, a3, w3, _, z1, z2, fS1.trans (k6.trans z3), fR2, ?_, fun z => absurd z cy⟩
    rcases k13' with ⟨v1, v2⟩ | ⟨v1, v2, v3⟩
    · rw [if_neg (fun z => by omega), if_neg (fun z => by omega)]
      exact v2
    · have v4 := cdb_iff.1 v3
      by_cases c : 0 < (d1 : Int)
      · rw [show (if 0 < (d1 : Int) ∧ 0 ≤ q2 then -1 - q2 else q2) = -1 - q2 from if_pos ⟨c, v1⟩, if_neg (fun z => by omega)]
        exact v2
      · rw [show (if 0 < (d1 : Int) ∧ 0 ≤ q2 then -1 - q2 else q2) = q2 from if_neg (fun z => c z.1), if_pos ⟨v1, by omega⟩]
        exact v2
  -- the term is right
  refine ok_t cy (ok_sw (u4 (fun T2 a2 w2 q2 wc2 t2 pr2 k5 k6 k7 k8 k9 k10 k11 k12 k13 => ?_)))
  have k13' : y' = q2 ∧ i < 20 ∧ pr2 = pr ++ [((i : Nat) : Int)] ∧ t2 = i + 1 ∧ wc2 ≤ wb + 4 ∧ HR R2 (pr ++ [((i : Nat) : Int)]) ws1 (i + 1) ∧ ∃ dd, vtm G len dd ∧ TmC T2 f i wc2 dd ∧ TmR R2 i dd := by
    rcases k13 with z | z
    · exact absurd cy (by have := z.1; omega)
    · exact z.2
  clear k13
  obtain ⟨v1, v2, v3, v4, v5, v6, dd, v7, v8, v9⟩ := k13'
  subst v1 v3 v4
  obtain ⟨w2e, a2e, l2⟩ := k5.right.1 cy
  subst w2e a2e
  have x2 : TX T2 f len G := x1.cg (k6.2.1 1 rfl rfl) (k6.2.1 2 rfl rfl)
  have tr2 : TR R2 len G := tr1.cg (u2.2.2 129 2 rfl rfl) (u2.2.1 130 rfl rfl)
  have ts2 : TS T2 R2 f len G wc2 (tms ++ [dd]) := by
    have l1 : Tlow T T1 tms.length wb := Tlow.of r2 (by decide) _ _
    have l3 : TS T2 R2 f len G wc2 tms := by
      refine TS.cg (TS.cg g16 l1 (Rlow.refl _ _) (Nat.le_refl _)) (by rw [g13]; exact k7) (by rw [g13]; exact lowR) k11
    exact l3.snoc v7 (by rw [g13]; exact v8) (by rw [g13]; exact v9)
  have qv2 := r8.term
  generalize hpr : pr ++ [((i : Nat) : Int)] = pr2 at *
  clear hpr
  obtain ⟨m2, rfl⟩ : ∃ m, nf = m + 1 := ⟨nf - 1, by omega⟩
  obtain ⟨d3, T3, q3, pr3, ws3, s1, s2, s3, s4, s5, s6, s7, s8, s9, s10⟩ := l_qcb (e := e) (N := N) (en := en) (by omega) d1 N m1 T2 R2 y' pr2 ws1 r6 (by omega) (by omega) x2 tr2 cy l2 k8 v6 r7 qv2 (by omega)
  have x3 : TX T3 f len G := x2.cg (s2.2.1 1 rfl rfl) (s2.2.1 2 rfl rfl)
  have wl3 := ws_len ws3
  have q83 := s8.2.2.2
  have ha3 : At f len (f + q3) (-1) q3 := ⟨by omega, by omega, Or.inl ⟨rfl, rfl⟩⟩
  have pk3 := x_peek (e := e) (N := N) x3 ha3
  rw [if_neg (show ¬ q3 < 0 by omega)] at pk3
  have fS3 : frm QSa [94] QSj T T3 := fS1.trans (k6.trans (s2.wide (fun b h => by
    simp only [List.contains_cons, List.contains_nil, Bool.or_false, Bool.or_eq_false_iff] at h ⊢
    exact ⟨h.1, h.2.1⟩) (fun b h => h) (fun b j h => by
    simp only [List.contains_cons, List.contains_nil, Bool.or_false, Bool.or_eq_false_iff] at h ⊢
    exact ⟨h.1, h.2.1⟩)))
  rw [qcl_step]
  refine ok_b ?_
  unfold E_Question_closeBrackets
  refine ok_of s1 (ok_b (ok_of pk3 ?_))
  dsimp only
  refine ok_sw (s10 (fun R3 n3 hn3 j2 j3 j4 => ok_sw ?_))
  have tr3 : TR R3 len G := tr2.cg (j2.2.2 129 2 rfl rfl) (j2.2.1 130 rfl rfl)
  have fR3 : frm QRa [129] QRj R R3 := fR2.trans j2
  have ga3 := x_at (e := e) (N := N) tr3 s4
  obtain ⟨m3, rfl⟩ : ∃ m, n3 = m + 1 := ⟨n3 - 1, by omega⟩
  have ts3 : TS T3 R3 f len G wc2 (tms ++ [dd]) := ts2.cg (Tlow.of s2 (by decide) _ _) (Rlow.of j3 _) (Nat.le_refl _)
  by_cases c32 : G q3 = 32
  rotate_left
  · -- nothing joins
    refine ok_t c32 (ok_nb (by omega) ?_)
    rw [qq_over]
    refine (x_qend (e := e) (N := N) (d := (d3 : Int)) (by omega) x3 ha3 s3 (by omega) (by omega)).mono ?_
    intro _ S1 ⟨T4, a4, w4, z1, z2, z3, z4, z6⟩
    have jo : ∀ c : Int, c ≠ 32 → Rjo e N m3 en (d3 : Int) q3 c R3 = some (-1 - q3, R3) := by
      intro c hc
      refine ok_eq ?_
      unfold Rjo
      exact ok_e hc (ok_nb (by omega) (ok_s ⟨rfl, rfl⟩))
    rw [rq_step]
    refine ok_e (fun z => z rfl) ?_
    by_cases cd : 0 < (d3 : Int)
    · have n41 : G q3 ≠ 41 := by
        rcases s9 with z | z
        · omega
        · exact z
      refine ok_t cd (ok_b (ok_of ga3 ?_))
      dsimp only
      refine ok_t n41 (ok_of (jo _ c32) ?_)
      rw [if_pos ⟨cd, s4⟩] at z2
      exact ⟨T4, a4, w4, _, z1, z2, fS3.trans z3, fR3, by rw [if_neg (fun z => by omega)], fun z => by omega⟩
    · rw [if_neg (fun z => cd z.1)] at z2
      refine ok_e cd (ok_b (ok_of ga3 ?_))
      dsimp only
      by_cases ce : G q3 = en
      · -- the question is whole
        obtain ⟨R4, o1, o2, o3⟩ := x_close (e := e) (N := N) (by omega) j4 (by omega) (by omega)
        refine ok_t ce (ok_b (ok_of o1 (ok_s ?_)))
        have sl := stl_len false ws3 pr3
        have qs := QV.stl false s8
        have em : (stl false pr3 ws3).2 = [] := by
          rcases stl_top ws3 pr3 with z | ⟨l, z⟩
          · exact z
          · have := sl.2
            rw [z, brk, if_pos rfl] at this
            omega
        rw [em] at o3 z4 qs sl
        have qs1 := qs.1
        have qs4 := qs.2.2.2
        rw [opn] at qs1 qs4
        have wR : frm QRa [129] QRj R3 R4 := o2.wide (fun b h => by
          simp only [List.contains_cons, List.contains_nil, Bool.or_false, Bool.or_eq_false_iff] at h ⊢
          exact ⟨h.2.2.2.2.2.1, h.2.2.2.2.2.2⟩) (fun b h => h) (fun b j h => by
          simp only [List.contains_cons, List.contains_nil, Bool.or_false, Bool.or_eq_false_iff] at h ⊢
          exact ⟨h.2.2.1, h.2.2.2⟩)
        have loR : ∀ a, 152 ≤ a → a ≤ 156 → R4.1 a = R3.1 a := fun a z1 z2 => o2.2.1 a (by
          simp only [List.contains_cons, List.contains_nil, Bool.or_false, Bool.or_eq_false_iff, beq_eq_false_iff_ne]
          omega) (by
          simp only [List.contains_cons, List.contains_nil, Bool.or_false, beq_eq_false_iff_ne]
          omega)
        have tl4 : Tlow T3 T4 (tms ++ [dd]).length wc2 := Tlow.of z6 (by decide) _ _
        refine ⟨T4, a4, w4, q3, z1, z2, fS3.trans z3, fR3.trans wR, by rw [if_neg (fun z => z.2 ce)], fun _ => ⟨_, i + 1, wc2, tms ++ [dd], z4, o3, qs1, qs.2.1, by omega, by omega, by omega, by rw [List.length_append, List.length_singleton, g13], ts3.cg tl4 (Rlow.of loR _) (Nat.le_refl _)⟩⟩
      · refine ok_e ce (ok_b (ok_of ga3 ?_))
        dsimp only
        have fin : FinQ T R f len en G S1 (-1 - q3) R3 := ⟨T4, a4, w4, q3, z1, z2, fS3.trans z3, fR3, by rw [if_pos ⟨s4, ce⟩], fun z => by omega⟩
        exact ok_if (fun _ => ok_of (jo _ c32) fin) (fun _ => ok_of (jo _ c32) fin)
  -- a joint
  have ql3 : q3 < len := by
    by_cases z : q3 < len
    · exact z
    · have := (g5.2.2.2 q3 s4).2 (by omega)
      omega
  refine ok_e (fun z => z c32) ?_
  have rj : ∀ {P : Int → w_S → Prop}, Ok (Rjo e N m3 en (d3 : Int) q3 32 R3) P → Ok (El_R_question e N (m3 + 1) 0 [en, (d3 : Int), q3, 0] [] R3) P := by
    intro P w
    rw [rq_step]
    refine ok_e (fun z => z rfl) ?_
    by_cases cd : 0 < (d3 : Int)
    · refine ok_t cd (ok_b (ok_of ga3 ?_))
      dsimp only
      rw [c32]
      exact ok_t (by decide) w
    · refine ok_e cd (ok_b (ok_of ga3 ?_))
      dsimp only
      rw [c32]
      refine ok_e (by omega) (ok_b (ok_of ga3 ?_))
      dsimp only
      rw [c32]
      exact ok_t (by decide) w
  refine c_jo hN (by omega) x3 s4 ql3 c32 s3 (by omega) (by omega) (fun T4 a4 w4 b o z1 z2 z3 z4 z5 => ?_)
  have x4 : TX T4 f len G := x3.cg (z2.2.1 1 rfl rfl) (z2.2.1 2 rfl rfl)
  have fS4 : frm QSa [94] QSj T T4 := fS3.trans (z2.wide (fun b h => by
    simp only [List.contains_cons, List.contains_nil, Bool.or_false, Bool.or_eq_false_iff] at h ⊢
    exact ⟨h.1, h.2.1⟩) (fun b h => h) (fun b j h => by
    simp only [List.contains_cons, List.contains_nil, Bool.or_false, Bool.or_eq_false_iff] at h ⊢
    exact ⟨h.1, h.2.1⟩))
  have w124 : T4.1 94 12 = ((wc2 : Nat) : Int) := by
    rw [z2.2.2 94 12 rfl rfl, s2.2.2 94 12 rfl rfl]
    exact k10
  have sl := stl_len b ws3 pr3
  have qs := (QV.stl b s8).push z4
  have b4 : brk (o :: (stl b pr3 ws3).2) = d3 := by
    rw [brk, if_neg (by omega)]
    omega
  have qs4 := qs.2.2.2
  have wl4 := ws_len (o :: (stl b pr3 ws3).2)
  rw [show (i : Int) + 1 = ((i + 1 : Nat) : Int) by omega]
  by_cases cq : 0 ≤ pB G 32 (pK (wl 6) G (q3 + 1))
  · -- the next term
    obtain ⟨b1, b2⟩ := z5 cq
    subst b1 b2
    obtain ⟨w4e, a4e, l4⟩ := z1.right.1 cq
    subst w4e a4e
    refine ok_sw (rj (r_jo hN tr3 s4 ql3 j4 (by omega) (by omega) (fun z => absurd cq (by omega)) (fun _ R4 o2 o3 => ok_sw ?_)))
    have wR : frm QRa [129] QRj R3 R4 := o2.wide (fun b h => by
      simp only [List.contains_cons, List.contains_nil, Bool.or_false, Bool.or_eq_false_iff] at h ⊢
      exact ⟨h.2.2.2.2.2.1, h.2.2.2.2.2.2⟩) (fun b h => h) (fun b j h => by
      simp only [List.contains_cons, List.contains_nil, Bool.or_false, Bool.or_eq_false_iff] at h ⊢
      exact ⟨h.2.2.1, h.2.2.2⟩)
    have loR : ∀ a, 152 ≤ a → a ≤ 156 → R4.1 a = R3.1 a := fun a z1 z2 => o2.2.1 a (by
      simp only [List.contains_cons, List.contains_nil, Bool.or_false, Bool.or_eq_false_iff, beq_eq_false_iff_ne]
      omega) (by
      simp only [List.contains_cons, List.contains_nil, Bool.or_false, beq_eq_false_iff_ne]
      omega)
    have tr4 : TR R4 len G := tr3.cg (o2.2.2 129 2 rfl rfl) (o2.2.1 130 rfl rfl)
    have go := ih (by omega) (m2 + 1) m3 T4 R4 _ d3 wc2 _ _ (tms ++ [dd]) (by omega) (by omega) x4 tr4 cq l4 z3 o3 b4 s6 qs (by rw [List.length_append, List.length_singleton, g13]) w124 (by omega) (ts3.cg (Tlow.of z2 (by decide) _ _) (Rlow.of loR _) (Nat.le_refl _))
    exact go.mono (fun y S1 w => w.mono (fun y' R5 v => v.mono fS4 (fR3.trans wR)))
  · -- the joint went wrong
    obtain ⟨m4, rfl⟩ : ∃ m, m2 = m + 1 := ⟨m2 - 1, by omega⟩
    refine (d_head (e := e) (N := N) (n := m4) (t := i + 1) (wb := wc2) (d := (d3 : Int)) (x3 := ((i + 1 : Nat) : Int)) hN (by omega) x4 z1 (by omega) z3 (by omega) (by omega) (by omega) w124 (by omega)).mono ?_
    intro _ S1 ⟨T5, a5, w5, v1, v2, v3⟩
    refine rj (r_jo hN tr3 s4 ql3 j4 (by omega) (by omega) (fun z => ?_) (fun z => absurd z cq))
    exact ⟨T5, a5, w5, _, v1, v2, fS4.trans v3, fR3, by rw [if_neg (fun z => by omega)], fun z => by omega⟩
/-- a question, in both, from where a term is due -/
theorem l_ques {e : w_E} {N : Nat} {f len en : Int} {G : Int → Int} (hN : 2001 ≤ N) (hen : en = -1 ∨ en = 10) : ∀ (k i nf nr : Nat) (T R : w_S) (q : Int) (d wb : Nat) (pr ws : List Int) (tms : List Trm), i + k = 20 → k + 4 ≤ nf → 40 * k + 40 ≤ nr → TX T f len G → TR R len G → 0 ≤ q → q ≤ len → HC T pr ws i → HR R pr ws i → brk ws = d → d ≤ 8 → QV pr ws i 0 → tms.length = i → T.1 94 12 = (wb : Nat) → wb ≤ 4 * i → TS T R f len G wb tms → Ok (El_Question_readQuestion e N nf 0 [(d : Int), 1, (i : Int)] [] (tp T (f + q) (-1))) (fun _ S1 => Ok (El_R_question e N nr 0 [en, (d : Int), q, 1] [] R) (fun y' R1 => FinQ T R f len en G S1 y' R1)) := by
  intro k
  induction k with
  | zero =>
    intro i nf nr T R q d wb pr ws tms g1 g2 g3 g4 g5 g6 g7 g8 g9 g10 g11 g12 g13 g14 g15 g16
    exact q_one hN hen (k := 0) (by omega) g2 g3 g4 g5 g6 g7 g8 g9 g10 g11 g12 g13 g14 g15 g16 (fun h => absurd h (by omega))
  | succ k ih =>
    intro i nf nr T R q d wb pr ws tms g1 g2 g3 g4 g5 g6 g7 g8 g9 g10 g11 g12 g13 g14 g15 g16
    exact q_one hN hen (k := k + 1) (by omega) g2 g3 g4 g5 g6 g7 g8 g9 g10 g11 g12 g13 g14 g15 g16 (fun _ nf' nr' T' R' q' d' wb' pr' ws' tms' k1 k2 k3 k4 k5 k6 k7 k8 k9 k10 k11 k12 k13 k14 k15 => ih (i + 1) nf' nr' T' R' q' d' wb' pr' ws' tms' (by omega) (by omega) (by omega) k3 k4 k5 k6 k7 k8 k9 k10 k11 k12 k13 k14 k15)
end
section
-- f1
/-- a question is read, in both, from a text's beginning -/
theorem x_ques {e : w_E} {N : Nat} {T R : w_S} {f len en : Int} {G : Int → Int} (hN : 2001 ≤ N) (hen : en = -1 ∨ en = 10) (h : TX T f len G) (hr : TR R len G) : Ok (E_Question_readQuestion e N (tp T f (-1))) (fun _ S1 => Ok (E_R_question e N en R) (fun y' R1 => FinQ T R f len en G S1 y' R1)) := by
  unfold E_Question_readQuestion E_R_question
  rw [tp_put _ _ _ _ (by decide), tp_put _ _ _ _ (by decide), tp_put _ _ _ _ (by decide), tp_put _ _ _ _ (by decide)]
  generalize hT : w_put (w_put (w_put (w_put T 94 3 0) 94 5 0) 94 6 0) 94 12 0 = T0
  generalize hR : w_put (w_put (w_put R 129 40 0) 129 46 0) 129 48 0 = R0
  have x0 : TX T0 f len G := by
    rw [← hT]
    exact (((h.put (by decide) (by decide)).put (by decide) (by decide)).put (by decide) (by decide)).put (by decide) (by decide)
  have tr0 : TR R0 len G := by
    rw [← hR]
    exact hr.cg (by simp only [w_put_r, reduceIte, Nat.reduceEqDiff, pt_at]) (by simp only [w_put_r, reduceIte, Nat.reduceEqDiff, pt_at])
  have fT : frm QSa [94] QSj T T0 := by
    rw [← hT]
    repeat (first | exact frm.refl _ _ _ _ | refine frm.put ?_ rfl | refine frm.puto ?_ rfl rfl)
  have fR : frm QRa [129] QRj R R0 := by
    rw [← hR]
    repeat (first | exact frm.refl _ _ _ _ | refine frm.put ?_ rfl | refine frm.puto ?_ rfl rfl)
  have hc : HC T0 [] [] 0 := by
    rw [← hT]
    refine ⟨?_, trivial, ?_, trivial, ?_⟩
    · simp only [w_put_r, reduceIte, Nat.reduceEqDiff, pt_at]
      rfl
    · simp only [w_put_r, reduceIte, Nat.reduceEqDiff, pt_at]
      rfl
    · simp only [w_put_r, reduceIte, Nat.reduceEqDiff, pt_at]
      rfl
  have hrr : HR R0 [] [] 0 := by
    rw [← hR]
    refine ⟨?_, trivial, ?_, trivial, ?_⟩
    · simp only [w_put_r, reduceIte, Nat.reduceEqDiff, pt_at]
      rfl
    · simp only [w_put_r, reduceIte, Nat.reduceEqDiff, pt_at]
      rfl
    · simp only [w_put_r, reduceIte, Nat.reduceEqDiff, pt_at]
      rfl
  have w12 : T0.1 94 12 = ((0 : Nat) : Int) := by
    rw [← hT]
    simp only [w_put_r, reduceIte, Nat.reduceEqDiff, pt_at]
    rfl
  have key := l_ques (e := e) (N := N) (f := f) (len := len) (en := en) (G := G) hN hen 20 0 N N T0 R0 0 0 0 [] [] [] (by omega) (by omega) (by omega) x0 tr0 (by omega) (by have := h.2.2.2.1; omega) hc hrr rfl (by omega) ⟨rfl, fun x hx => absurd hx (by simp), fun x hx => absurd hx (by simp), rfl⟩ rfl w12 (by omega) (fun i hi => absurd hi (by simp))
  rw [Int.add_zero] at key
  exact key.mono (fun y S1 w => w.mono (fun y' R1 v => v.mono fT fR))
end
section
-- f2
/-- a byte of a word -/
def wby (b : Int) : Bool := (decide (48 ≤ b) && decide (b ≤ 57)) || (decide (65 ≤ b) && decide (b ≤ 90)) || (decide (97 ≤ b) && decide (b ≤ 122))
theorem wby_iff {b : Int} : wby b = true ↔ (48 ≤ b ∧ b ≤ 57) ∨ (65 ≤ b ∧ b ≤ 90) ∨ (97 ≤ b ∧ b ≤ 122) := by
  unfold wby
  simp only [Bool.or_eq_true, Bool.and_eq_true, decide_eq_true_eq]
  omega
theorem wby_no {b : Int} (h : wby b = false) : b < 48 ∨ (57 < b ∧ b < 65) ∨ (90 < b ∧ b < 97) ∨ 122 < b := by
  have : ¬ ((48 ≤ b ∧ b ≤ 57) ∨ (65 ≤ b ∧ b ≤ 90) ∨ (97 ≤ b ∧ b ≤ 122)) := fun w => by
    rw [wby_iff.2 w] at h
    cases h
  omega
/-- the words of a row: where each begins and how long it is -/
def wps : List Int → Nat → Nat → List (Nat × Nat)
  | [], i, sz => if sz = 0 then [] else [(i - sz, sz)]
  | b :: l, i, sz => if wby b = true then wps l (i + 1) (sz + 1) else if sz = 0 then wps l (i + 1) 0 else (i - sz, sz) :: wps l (i + 1) 0
theorem wps_len : ∀ (l : List Int) (i sz : Nat), 2 * (wps l i sz).length ≤ l.length + 1 + (if sz = 0 then 0 else 1)
  | [], i, sz => by
    rw [wps]
    split
    · simp
    · simp
  | b :: l, i, sz => by
    rw [wps, List.length_cons]
    split
    · have := wps_len l (i + 1) (sz + 1)
      rw [if_neg (by omega)] at this
      split <;> omega
    · split
      · have := wps_len l (i + 1) 0
        rw [if_pos rfl] at this
        omega
      · have := wps_len l (i + 1) 0
        rw [if_pos rfl] at this
        rw [List.length_cons]
        omega
/-- the class's words of a record: the words of its rows, each with its row's place -/
def SwC (T : w_S) (l : List (Nat × Nat × Nat)) : Prop := T.1 94 15 = ((l.length : Nat) : Int) ∧ ∀ i, i < l.length → T.1 104 i = (((l.getD i (0, 0, 0)).1 : Nat) : Int) * 64 + (((l.getD i (0, 0, 0)).2.1 : Nat) : Int) ∧ T.1 105 i = (((l.getD i (0, 0, 0)).2.2 : Nat) : Int)
theorem sw_add {T : w_S} {A slot i sz : Nat} {sw : List (Nat × Nat × Nat)} (g5 : SwC T sw) (h1 : sz ≤ i) (h2 : A + i < 16777216) (h3 : sz < 64) : frm [104, 105] [94] [(94, 15)] T (w_put (w_put (w_put T 104 ((T.1 94 15).toNat) (w_or (w_shl (((A : Int) + (i : Int)) - (sz : Int)) 6) (sz : Int))) 105 ((T.1 94 15).toNat) (slot : Int)) 94 15 ((T.1 94 15) + 1)) ∧ SwC (w_put (w_put (w_put T 104 ((T.1 94 15).toNat) (w_or (w_shl (((A : Int) + (i : Int)) - (sz : Int)) 6) (sz : Int))) 105 ((T.1 94 15).toNat) (slot : Int)) 94 15 ((T.1 94 15) + 1)) (sw ++ [(i - sz, sz)].map (fun w => (A + w.1, w.2, slot))) := by
  have lc := g5.1
  rw [lc, show (((sw.length : Nat) : Int)).toNat = sw.length by omega, b_row (by omega) (by omega) (by omega) (by omega)]
  refine ⟨by repeat (first | exact frm.refl _ _ _ _ | refine frm.put ?_ rfl | refine frm.puto ?_ rfl rfl), ?_, fun j hj => ?_⟩
  · simp only [w_put_r, reduceIte, Nat.reduceEqDiff, pt_at]
    rw [List.map_cons, List.map_nil, List.length_append, List.length_singleton]
    omega
  · rw [List.map_cons, List.map_nil, List.length_append, List.length_singleton] at hj
    rw [List.map_cons, List.map_nil, getD_snoc]
    simp only [w_put_r, reduceIte, Nat.reduceEqDiff, pt_at]
    by_cases c : j < sw.length
    · rw [if_pos c, if_neg (by omega), if_neg (by omega)]
      exact g5.2 j c
    · rw [if_neg c, if_pos (by omega), if_pos (by omega), if_pos (by omega)]
      refine ⟨?_, rfl⟩
      show ((A : Int) + (i : Int) - (sz : Int)) * 64 + (sz : Int) = ((A + (i - sz) : Nat) : Int) * 64 + ((sz : Nat) : Int)
      omega
theorem l_split {e : w_E} {N A m slot : Nat} (hm : m < 64) (hA : A + m ≤ 10240) : ∀ (l : List Int) (i sz nf : Nat) (T : w_S) (sw : List (Nat × Nat × Nat)), i + l.length = m → sz ≤ i → l.length + 1 < nf → (∀ u, u < l.length → T.1 2 (A + i + u) = l.getD u 0) → SwC T sw → sw.length + (wps l i sz).length ≤ 1200 → Ok (El_Question_splitRow e N nf 0 [(slot : Int), (A : Int), (m : Int), (sz : Int), (i : Int)] [] T) (fun _ T1 => frm [104, 105] [94] [(94, 15)] T T1 ∧ SwC T1 (sw ++ (wps l i sz).map (fun w => (A + w.1, w.2, slot))))
  | _, _, _, 0, _, _, _, _, h, _, _, _ => by omega
  | [], i, sz, nf + 1, T, sw, g1, g2, g3, g4, g5, g6 => by
    rw [List.length_nil] at g1 g3
    obtain ⟨nf, rfl⟩ : ∃ m, nf = m + 1 := ⟨nf - 1, by omega⟩
    have last : ∀ (x5 : Int) (T1 : w_S), Ok (El_Question_splitRow e N (nf + 1) 0 [(slot : Int), (A : Int), (m : Int), x5, (i : Int) + 1] [] T1) (fun _ S => S = T1) := by
      intro x5 T1
      rw [El_Question_splitRow]
      exact ok_t (by omega) (ok_s rfl)
    rw [wps] at g6 ⊢
    rw [El_Question_splitRow]
    refine ok_e (by omega) (ok_t (by omega) ?_)
    by_cases c : sz = 0
    · rw [if_pos c] at g6 ⊢
      refine ok_t (by omega) (ok_nb (by omega) ((last _ T).mono (fun _ S hS => ?_)))
      rw [hS, List.map_nil, List.append_nil]
      exact ⟨frm.refl _ _ _ _, g5⟩
    · rw [if_neg c] at g6 ⊢
      rw [List.length_singleton] at g6
      refine ok_e (by omega) (ok_e (by rw [g5.1]; omega) (ok_nb (by omega) (ok_nb (by omega) (ok_ib (by rw [g5.1]; omega) (ok_nb (by rw [g5.1]; omega) (ok_nb (by omega) ((last _ _).mono (fun _ S hS => ?_))))))))
      rw [hS]
      exact sw_add g5 (by omega) (by omega) (by omega)
  | b :: l, i, sz, nf + 1, T, sw, g1, g2, g3, g4, g5, g6 => by
    rw [List.length_cons] at g1 g3
    have hb := g4 0 (by rw [List.length_cons]; omega)
    rw [List.getD_cons_zero, Nat.add_zero] at hb
    have g4' : ∀ u, u < l.length → T.1 2 (A + (i + 1) + u) = l.getD u 0 := fun u hu => by
      have := g4 (u + 1) (by rw [List.length_cons]; omega)
      rw [List.getD_cons_succ] at this
      rw [← this, show A + (i + 1) + u = A + i + (u + 1) by omega]
    rw [wps] at g6 ⊢
    have lc := g5.1
    rw [El_Question_splitRow, show ((A : Int) + (i : Int)).toNat = A + i by omega, hb, show (i : Int) + 1 = ((i + 1 : Nat) : Int) by omega]
    cases cw : wby b with
    | true =>
      rw [cw, if_pos rfl] at g6
      rw [if_pos rfl]
      have ih := l_split (e := e) (N := N) (slot := slot) hm hA l (i + 1) (sz + 1) nf T sw (by omega) (by omega) (by omega) g4' g5 g6
      rw [show (sz : Int) + 1 = ((sz + 1 : Nat) : Int) by omega]
      refine ok_e (by omega) (ok_e (by omega) (ok_nb (by omega) (ok_ib (by omega) ?_)))
      rcases wby_iff.1 cw with w | w | w
      · refine ok_t (by omega) (ok_t (by omega) (ok_e (by omega) (ok_e (by omega) (ok_nb (by omega) (ok_nb (by omega) ih)))))
      · refine ok_t (by omega) (ok_e (by omega) (ok_e (by omega) (ok_nb (by omega) (ok_nb (by omega) ih))))
      · refine ok_e (by omega) (ok_t (by omega) (ok_nb (by omega) (ok_nb (by omega) ih)))
    | false =>
      rw [cw, if_neg (by decide)] at g6
      rw [if_neg (show ¬ (false = true) by decide)]
      refine ok_e (by omega) (ok_e (by omega) (ok_nb (by omega) (ok_ib (by omega) ?_)))
      have rest : Ok (if (sz : Int) ≤ 0 then (if w_nb ((i + 1 : Nat) : Int) = true then El_Question_splitRow e N nf 0 [(slot : Int), (A : Int), (m : Int), (sz : Int), ((i + 1 : Nat) : Int)] [] T else none) else (if 1200 ≤ (T.1 94 15) then (if w_nb ((i + 1 : Nat) : Int) = true then El_Question_splitRow e N nf 0 [(slot : Int), (A : Int), (m : Int), (sz : Int), ((i + 1 : Nat) : Int)] [] T else none) else (if w_nb (((A : Int) + (i : Int)) - (sz : Int)) = true then (if w_ib (T.1 94 15) 1200 = true then (if w_nb ((T.1 94 15) + 1) = true then (if w_nb ((i + 1 : Nat) : Int) = true then El_Question_splitRow e N nf 0 [(slot : Int), (A : Int), (m : Int), 0, ((i + 1 : Nat) : Int)] [] (w_put (w_put (w_put T 104 ((T.1 94 15).toNat) (w_or (w_shl (((A : Int) + (i : Int)) - (sz : Int)) 6) (sz : Int))) 105 ((T.1 94 15).toNat) (slot : Int)) 94 15 ((T.1 94 15) + 1)) else none) else none) else none) else none))) (fun _ T1 => frm [104, 105] [94] [(94, 15)] T T1 ∧ SwC T1 (sw ++ (if sz = 0 then wps l (i + 1) 0 else (i - sz, sz) :: wps l (i + 1) 0).map (fun w => (A + w.1, w.2, slot)))) := by
        by_cases c : sz = 0
        · rw [if_pos c] at g6 ⊢
          subst c
          exact ok_t (by omega) (ok_nb (by omega) (l_split (e := e) (N := N) (slot := slot) hm hA l (i + 1) 0 nf T sw (by omega) (by omega) (by omega) g4' g5 g6))
        · rw [if_neg c] at g6 ⊢
          rw [List.length_cons] at g6
          obtain ⟨f1, s1⟩ := sw_add (A := A) (slot := slot) g5 (show sz ≤ i by omega) (by omega) (by omega)
          refine ok_e (by omega) (ok_e (by omega) (ok_nb (by omega) (ok_ib (by omega) (ok_nb (by omega) (ok_nb (by omega) ?_)))))
          generalize hT1 : w_put (w_put (w_put T 104 ((T.1 94 15).toNat) (w_or (w_shl (((A : Int) + (i : Int)) - (sz : Int)) 6) (sz : Int))) 105 ((T.1 94 15).toNat) (slot : Int)) 94 15 ((T.1 94 15) + 1) = T1 at f1 s1
          have ih := l_split (e := e) (N := N) (slot := slot) hm hA l (i + 1) 0 nf T1 _ (by omega) (by omega) (by omega) (fun u hu => by rw [f1.2.1 2 rfl rfl]; exact g4' u hu) s1 (by rw [List.length_append, List.length_map, List.length_singleton]; omega)
          refine ih.mono (fun _ T2 q => ⟨f1.trans q.1, ?_⟩)
          have q2 := q.2
          rw [List.map_cons, List.map_nil, List.append_assoc, List.singleton_append] at q2
          rw [List.map_cons]
          exact q2
      rcases wby_no cw with w | w | w | w
      · exact ok_t (by omega) (ok_t (by omega) (ok_t (by omega) rest))
      · exact ok_t (by omega) (ok_t (by omega) (ok_e (by omega) (ok_t (by omega) rest)))
      · exact ok_t (by omega) (ok_e (by omega) (ok_t (by omega) (ok_e (by omega) (ok_t (by omega) rest))))
      · exact ok_e (by omega) (ok_e (by omega) (ok_e (by omega) (ok_t (by omega) (ok_e (by omega) (ok_t (by omega) rest)))))
end
