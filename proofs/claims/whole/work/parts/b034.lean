section
-- em
/-- the words of a term, as both keep them -/
def WdC (T : w_S) (f : Int) (b : Nat) (l : List Wd) : Prop := ∀ i, i < l.length → T.1 102 (b + i) = (f + (l.getD i (0, 0)).1) * 64 + ((l.getD i (0, 0)).2 : Nat)
def WdR (R : w_S) (t : Nat) (l : List Wd) : Prop := ∀ i, i < l.length → R.1 155 (4 * t + i) = (l.getD i (0, 0)).1 ∧ R.1 156 (4 * t + i) = ((l.getD i (0, 0)).2 : Nat)
theorem getD_snoc {α : Type} {l : List α} {x d : α} {i : Nat} : (l ++ [x]).getD i d = if i < l.length then l.getD i d else if i = l.length then x else d := by
  rw [List.getD_eq_getElem?_getD, List.getD_eq_getElem?_getD]
  by_cases c : i < l.length
  · rw [if_pos c, List.getElem?_append_left c]
  · rw [if_neg c, List.getElem?_append_right (by omega)]
    by_cases c2 : i = l.length
    · rw [if_pos c2, c2, Nat.sub_self]
      rfl
    · rw [if_neg c2]
      obtain ⟨m, hm⟩ : ∃ m, i - l.length = m + 1 := ⟨i - l.length - 1, by omega⟩
      rw [hm]
      rfl
theorem WdC.snoc {T T1 : w_S} {f : Int} {b : Nat} {l : List Wd} {x : Wd} (h : WdC T f b l) (h1 : ∀ u, u < b + l.length → T1.1 102 u = T.1 102 u) (h2 : T1.1 102 (b + l.length) = (f + x.1) * 64 + (x.2 : Nat)) : WdC T1 f b (l ++ [x]) := by
  intro i hi
  rw [List.length_append, List.length_singleton] at hi
  rw [getD_snoc]
  by_cases c : i < l.length
  · rw [if_pos c, h1 _ (by omega)]
    exact h i c
  · have : i = l.length := by omega
    rw [if_neg c, if_pos this, this]
    exact h2
theorem WdR.snoc {R R1 : w_S} {t : Nat} {l : List Wd} {x : Wd} (h : WdR R t l) (h1 : ∀ i, i < l.length → R1.1 155 (4 * t + i) = R.1 155 (4 * t + i) ∧ R1.1 156 (4 * t + i) = R.1 156 (4 * t + i)) (h2 : R1.1 155 (4 * t + l.length) = x.1 ∧ R1.1 156 (4 * t + l.length) = (x.2 : Nat)) : WdR R1 t (l ++ [x]) := by
  intro i hi
  rw [List.length_append, List.length_singleton] at hi
  rw [getD_snoc]
  by_cases c : i < l.length
  · rw [if_pos c, (h1 i c).1, (h1 i c).2]
    exact h i c
  · have : i = l.length := by omega
    rw [if_neg c, if_pos this, this]
    exact h2
theorem x_addW {e : w_E} {N : Nat} {T : w_S} {x a w : Int} {wc : Nat} (h : T.1 94 12 = (wc : Nat)) (hw : wc < 80) : E_Question_addWord e N x (tp T a w) = some (0, tp (w_put (w_put T 102 wc x) 94 12 ((wc : Nat) + 1)) a w) := by
  refine ok_eq ?_
  unfold E_Question_addWord
  rw [tpo T a w (by decide), h, show (((wc : Nat) : Int)).toNat = wc by omega]
  refine ok_e (by omega) (ok_ib (by omega) (ok_nb (by omega) (ok_s ⟨rfl, ?_⟩)))
  rw [tp_put _ _ _ _ (by decide), tp_put _ _ _ _ (by decide)]
def Rph (e : w_E) (N n : Nat) (t q : Int) (R : w_S) : e_R := ((E_R_at e N q R).bind (fun q955 => (if q955.1 ≠ 32 then ((E_R_at e N q q955.2).bind (fun q956 => (if q956.1 = 34 then (if w_nb (q + 1) = true then El_R_phrase e N n 0 [t, q + 1, 0] [] q956.2 else none) else (if w_nb ((-1) - q) = true then some ((-1) - q, q956.2) else none)))) else (if w_nb (q + 1) = true then El_R_phrase e N n 0 [t, q + 1, 1] [] q955.2 else none))))
theorem rp_step {e : w_E} {N n : Nat} {t q : Int} {R : w_S} : El_R_phrase e N (n + 1) 0 [t, q, 1] [] R = (if (1 : Int) = 0 then some (q, R) else (if w_ib t 20 = true then (if (R.1 154 t.toNat) ≠ 4 then ((E_R_word e N t q R).bind (fun q954 => (if 0 ≤ q954.1 then Rph e N n t q954.1 q954.2 else some (q954.1, q954.2)))) else (if w_nb ((-1) - q) = true then some ((-1) - q, R) else none)) else none)) := by
  rw [El_R_phrase]
  rfl
/-- a phrase ends, right or wrong -/
theorem l_phrE {e : w_E} {N nf : Nat} {T : w_S} {f len a w q x : Int} {G : Int → Int} (h : TX T f len G) (ha : At f len a w q) (c : q < 0 ∨ G q ≠ 32 ∨ 4 < x) : Ok (El_Question_readWords e N (nf + 1) 0 [x] [] (tp T a w)) (Tk T f len (pB G 34 q) (fun _ => True)) := by
  have tb := x_takeByte (e := e) (N := N) (b := 34) h ha (by decide)
  have fin : Ok ((E_Tape_takeByte e N 34 (tp T a w)).bind (fun q482 => some (0, q482.2))) (Tk T f len (pB G 34 q) (fun _ => True)) := tk_b tb (fun y a' w' h1 _ => ok_s ⟨a', w', rfl, h1, fun _ => trivial⟩)
  rw [El_Question_readWords]
  by_cases c1 : 4 < x
  · exact ok_t c1 fin
  refine ok_e c1 (ok_b (ok_of (x_peek h ha) ?_))
  dsimp only
  refine ok_t ?_ fin
  rcases c with c | c | c
  · rw [if_pos c]
    decide
  · by_cases d : q < 0
    · rw [if_pos d]
      decide
    · rw [if_neg d]
      exact c
  · exact absurd c c1
abbrev PhC : List (Nat × Nat) := [(94, 12)]
/-- the rest of a phrase, in both -/
def PhS (e : w_E) (N t wb : Nat) (f len : Int) (G : Int → Int) (j nf nr : Nat) : Prop := ∀ (T R : w_S) (q : Int) (wd : List Wd), wd.length = j → TX T f len G → TR R len G → 0 ≤ q → q ≤ len → T.1 94 12 = ((wb + j : Nat) : Int) → WdC T f wb wd → WdR R t wd → R.1 154 t = (j : Nat) → (∀ d, d ∈ wd → vwd G len d) → Ok (El_Question_readWords e N nf 0 [(j : Int)] [] (tp T (f + q) (-1))) (fun _ S1 => ∃ T' a' w' q' wc', S1 = tp T' a' w' ∧ At f len a' w' q' ∧ frm [102] [94] PhC T T' ∧ T'.1 94 12 = ((wc' : Nat) : Int) ∧ wb + j ≤ wc' ∧ wc' ≤ wb + 4 ∧ (∀ u, u < wb → T'.1 102 u = T.1 102 u) ∧ Ok (Rph e N nr (t : Int) q R) (fun y' R1 => y' = q' ∧ frm [154, 155, 156] [] [] R R1 ∧ (∀ u, u < 4 * t → R1.1 155 u = R.1 155 u ∧ R1.1 156 u = R.1 156 u) ∧ (∀ u, u < t → R1.1 154 u = R.1 154 u) ∧ (0 ≤ q' → ∃ wd', wc' = wb + wd'.length ∧ 1 ≤ wd'.length ∧ WdC T' f wb wd' ∧ WdR R1 t wd' ∧ R1.1 154 t = ((wd'.length : Nat) : Int) ∧ ∀ d, d ∈ wd' → vwd G len d)))
theorem phs_step {e : w_E} {N t wb j nf nr : Nat} {f len : Int} {G : Int → Int} (hN : 2001 ≤ N) (ht : t < 20) (hwb : wb + 4 ≤ 80) (g3 : 1 ≤ j) (g2 : j ≤ 4) (hnf : 1 ≤ nf) (hnr : 1 ≤ nr) (ih0 : j < 4 → PhS e N t wb f len G (j + 1) nf nr) : PhS e N t wb f len G j (nf + 1) (nr + 1) := by
    intro T R q wd g1 g4 g5 g6 g7 g8 g9 g10 g11 g12
    have ha : At f len (f + q) (-1) q := ⟨by omega, by omega, Or.inl ⟨rfl, rfl⟩⟩
    have hl2 := g5.2.2.1
    have ga := x_at (e := e) (N := N) g5 g6
    by_cases c : G q = 32
    rotate_left
    · refine (l_phrE (e := e) (N := N) (nf := nf) (x := (j : Int)) g4 ha (Or.inr (Or.inl c))).mono ?_
      intro y S1 ⟨a', w', z1, z2, _⟩
      refine ⟨T, a', w', pB G 34 q, wb + j, z1, z2, frm.refl _ _ _ _, g8, by omega, by omega, fun _ _ => rfl, ?_⟩
      unfold Rph
      refine ok_b (ok_of ga (ok_t c (ok_b (ok_of ga ?_))))
      dsimp only
      rw [pB_0 g6]
      by_cases c2 : G q = 34
      · rw [if_pos c2, if_pos c2, El_R_phrase]
        exact ok_nb (by omega) (ok_t rfl (ok_s ⟨rfl, frm.refl _ _ _ _, fun _ _ => ⟨rfl, rfl⟩, fun _ _ => rfl, fun _ => ⟨wd, by omega, by omega, g9, g10, by rw [g1]; exact g11, g12⟩⟩))
      · rw [if_neg c2, if_neg c2]
        exact ok_nb (by omega) (ok_s ⟨rfl, frm.refl _ _ _ _, fun _ _ => ⟨rfl, rfl⟩, fun _ _ => rfl, fun w => by omega⟩)
    -- a space
    have ql : q < len := by
      by_cases z : q < len
      · exact z
      · have := (g5.2.2.2 q g6).2 (by omega)
        omega
    rw [El_Question_readWords]
    refine ok_e (by omega) (ok_b (ok_of (x_peek g4 ha) ?_))
    dsimp only
    rw [if_neg (show ¬ q < 0 by omega)]
    refine ok_e (fun w => w c) (tk_b (x_takeByte (e := e) (N := N) (b := 32) g4 ha (by decide)) (fun _ a1 w1 h1 _ => ?_))
    rw [pB_0 (by omega), if_pos c] at h1
    obtain ⟨w1e, a1e, _⟩ := h1.right.1 (by omega)
    subst w1e a1e
    have rph : ∀ {P : Int → w_S → Prop}, Ok (El_R_phrase e N (nr + 1) 0 [(t : Int), q + 1, 1] [] R) P → Ok (Rph e N (nr + 1) (t : Int) q R) P := by
      intro P w
      unfold Rph
      refine ok_b (ok_of ga (ok_e (fun z => z c) (ok_nb (by omega) w)))
    rw [rp_step, show ((t : Int)).toNat = t by omega, g11] at rph
    by_cases cj : j = 4
    · -- a fifth word
      refine ok_e (by omega) (tk_b (x_stopHere (e := e) (N := N) g4 h1) (fun _ a2 w2 h2 _ => ok_nb (by omega) ?_))
      rw [if_neg (by omega)] at h2
      obtain ⟨nf', rfl⟩ : ∃ m, nf = m + 1 := ⟨nf - 1, by omega⟩
      refine (l_phrE (e := e) (N := N) (nf := nf') (x := (j : Int) + 1) g4 h2 (Or.inl (by omega))).mono ?_
      intro y S1 ⟨a', w', z1, z2, _⟩
      rw [pB_neg (by omega)] at z2
      refine ⟨T, a', w', _, wb + j, z1, z2, frm.refl _ _ _ _, g8, by omega, by omega, fun _ _ => rfl, rph ?_⟩
      exact ok_e (by decide) (ok_ib (by omega) (ok_e (by omega) (ok_nb (by omega) (ok_s ⟨rfl, frm.refl _ _ _ _, fun _ _ => ⟨rfl, rfl⟩, fun _ _ => rfl, fun w => by omega⟩))))
    -- the next word
    have rph2 : ∀ {P : Int → w_S → Prop}, Ok (if 0 ≤ (rwf R t j (q + 1) (nw cdb G 13 (q + 1))).1 then Rph e N nr (t : Int) (rwf R t j (q + 1) (nw cdb G 13 (q + 1))).1 (rwf R t j (q + 1) (nw cdb G 13 (q + 1))).2 else some ((rwf R t j (q + 1) (nw cdb G 13 (q + 1))).1, (rwf R t j (q + 1) (nw cdb G 13 (q + 1))).2)) P → Ok (Rph e N (nr + 1) (t : Int) q R) P := by
      intro P w
      exact rph (ok_e (by decide) (ok_ib (by omega) (ok_t (by omega) (ok_b (ok_of (x_rword (e := e) (N := N) (by omega) g5 (by omega) (by omega) ht (by omega) g11) w)))))
    refine ok_t (by omega) (tk_b (x_takeSmall (e := e) hN g4 h1) (fun y a2 w2 h2 hy => ?_))
    refine ok_b (ok_of (x_addW (e := e) (N := N) g8 (by omega)) ?_)
    dsimp only
    refine ok_nb (by omega) ?_
    generalize hT2 : w_put (w_put T 102 (wb + j) y) 94 12 (((wb + j : Nat) : Int) + 1) = T2
    have f2 : frm [102] [94] PhC T T2 := by
      rw [← hT2]
      repeat (first | exact frm.refl _ _ _ _ | refine frm.put ?_ rfl | refine frm.puto ?_ rfl rfl)
    have x2 : TX T2 f len G := by
      rw [← hT2]
      exact (g4.put (by decide) (by decide)).put (by decide) (by decide)
    have c12 : T2.1 94 12 = ((wb + (j + 1) : Nat) : Int) := by
      rw [← hT2]
      simp only [w_put_r, reduceIte, Nat.reduceEqDiff, pt_at]
      omega
    have c102 : ∀ u, T2.1 102 u = if u = wb + j then y else T.1 102 u := fun u => by
      rw [← hT2]
      simp only [w_put_r, reduceIte, Nat.reduceEqDiff, pt_at]
    clear hT2
    obtain ⟨nf', rfl⟩ : ∃ m, nf = m + 1 := ⟨nf - 1, by omega⟩
    rw [show (j : Int) + 1 = ((j + 1 : Nat) : Int) by omega]
    have n12 := nw_le cdb G 12 (q + 1)
    rcases nw12 cdb G (q + 1) with ⟨b1, b2, b3⟩ | ⟨b1, b2⟩
    · -- too long
      rw [pS_k (by omega) (by omega), b2] at h2
      have b4 := cdb_iff.1 b3
      refine (l_phrE (e := e) (N := N) (nf := nf') (x := ((j + 1 : Nat) : Int)) x2 h2 (Or.inr (Or.inl (by omega)))).mono ?_
      intro _ S1 ⟨a', w', z1, z2, _⟩
      rw [pB_0 (by omega), if_neg (by omega)] at z2
      refine ⟨T2, a', w', _, wb + (j + 1), z1, z2, f2, c12, by omega, by omega, fun u hu => by rw [c102, if_neg (by omega)], rph2 ?_⟩
      rw [b1, rwf13]
      exact ok_e (by dsimp only; omega) (ok_s ⟨by dsimp only; omega, frm.refl _ _ _ _, fun _ _ => ⟨rfl, rfl⟩, fun _ _ => rfl, fun w => by omega⟩)
    · by_cases c0 : nw cdb G 12 (q + 1) = 0
      · -- no word
        rw [pS_0 (by omega) c0] at h2
        refine (l_phrE (e := e) (N := N) (nf := nf') (x := ((j + 1 : Nat) : Int)) x2 h2 (Or.inl (by omega))).mono ?_
        intro _ S1 ⟨a', w', z1, z2, _⟩
        rw [pB_neg (by omega)] at z2
        refine ⟨T2, a', w', _, wb + (j + 1), z1, z2, f2, c12, by omega, by omega, fun u hu => by rw [c102, if_neg (by omega)], rph2 ?_⟩
        rw [b1, c0, rwf0]
        exact ok_e (by dsimp only; omega) (ok_s ⟨by dsimp only, frm.refl _ _ _ _, fun _ _ => ⟨rfl, rfl⟩, fun _ _ => rfl, fun w => by omega⟩)
      · rw [pS_k (by omega) c0] at h2
        obtain ⟨w2e, a2e, ql2⟩ := h2.right.1 (by omega)
        subst w2e a2e
        obtain ⟨y1, y2⟩ := hy rfl
        rw [b1, rwfn c0 (by omega)] at rph2
        dsimp only at rph2
        generalize hn : nw cdb G 12 (q + 1) = n at *
        have vw : vwd G len (q + 1, n) := ⟨by show (0 : Int) ≤ q + 1; omega, by show 1 ≤ n; omega, by show n ≤ 12; omega, by show q + 1 + (n : Nat) ≤ len; omega, fun u hu => by
          have := nw_all (P := cdb) (G := G) 12 (q + 1) u (by rw [hn]; exact hu)
          exact this⟩
        generalize hR2 : w_put (w_put (w_put R 155 (4 * t + j) (q + 1)) 156 (4 * t + j) ((n : Nat) : Int)) 154 t (((j : Nat) : Int) + 1) = R2 at *
        have fr2 : frm [154, 155, 156] [] [] R R2 := by
          rw [← hR2]
          repeat (first | exact frm.refl _ _ _ _ | refine frm.put ?_ rfl | refine frm.puto ?_ rfl rfl)
        have r155 : ∀ u, R2.1 155 u = if u = 4 * t + j then q + 1 else R.1 155 u := fun u => by
          rw [← hR2]
          simp only [w_put_r, reduceIte, Nat.reduceEqDiff, pt_at]
        have r156 : ∀ u, R2.1 156 u = if u = 4 * t + j then ((n : Nat) : Int) else R.1 156 u := fun u => by
          rw [← hR2]
          simp only [w_put_r, reduceIte, Nat.reduceEqDiff, pt_at]
        have r154 : ∀ u, R2.1 154 u = if u = t then ((j : Nat) : Int) + 1 else R.1 154 u := fun u => by
          rw [← hR2]
          simp only [w_put_r, reduceIte, Nat.reduceEqDiff, pt_at]
        have tr2 : TR R2 len G := by
          rw [← hR2]
          exact ((g5.put (Or.inl (by decide)) (by decide)).put (Or.inl (by decide)) (by decide)).put (Or.inl (by decide)) (by decide)
        clear hR2
        have ih := ih0 (by omega) T2 R2 (q + 1 + ((n : Nat) : Int)) (wd ++ [(q + 1, n)]) (by rw [List.length_append, List.length_singleton]; omega) x2 tr2 (by omega) (by omega) c12 (g9.snoc (fun u hu => by rw [c102, if_neg (by omega)]) (by rw [c102, if_pos (by omega)]; exact y1)) (g10.snoc (fun i hi => by rw [r155, r156, if_neg (by omega), if_neg (by omega)]; exact ⟨rfl, rfl⟩) (by rw [r155, r156, if_pos (by omega), if_pos (by omega)]; exact ⟨rfl, rfl⟩)) (by rw [r154, if_pos rfl]; omega) (fun d hd => by
          rcases List.mem_append.1 hd with hd | hd
          · exact g12 d hd
          · rw [List.mem_singleton.1 hd]; exact vw)
        refine ih.mono ?_
        intro _ S1 ⟨T', a', w', q', wc', z1, z2, z3, z4, z5, z6, z7, z8⟩
        refine ⟨T', a', w', q', wc', z1, z2, f2.trans z3, z4, by omega, z6, fun u hu => by rw [z7 u hu, c102, if_neg (by omega)], rph2 (ok_t (by omega) (z8.mono ?_))⟩
        intro y' R1 ⟨v1, v2, v3, v4, v5⟩
        refine ⟨v1, fr2.trans v2, fun u hu => ?_, fun u hu => ?_, v5⟩
        · rw [(v3 u hu).1, (v3 u hu).2, r155, r156, if_neg (by omega), if_neg (by omega)]
          exact ⟨rfl, rfl⟩
        · rw [v4 u hu, r154, if_neg (by omega)]
theorem l_phr {e : w_E} {N t wb : Nat} {f len : Int} {G : Int → Int} (hN : 2001 ≤ N) (ht : t < 20) (hwb : wb + 4 ≤ 80) : ∀ (k j nf nr : Nat), j + k = 4 → 1 ≤ j → k + 1 < nf → k + 1 < nr → PhS e N t wb f len G j nf nr
  | _, _, 0, _, _, _, h, _ => by omega
  | _, _, _ + 1, 0, _, _, _, h => by omega
  | 0, j, nf + 1, nr + 1, g1, g2, g3, g4 => phs_step hN ht hwb g2 (by omega) (by omega) (by omega) (fun h => absurd h (by omega))
  | k + 1, j, nf + 1, nr + 1, g1, g2, g3, g4 => phs_step hN ht hwb g2 (by omega) (by omega) (by omega) (fun _ => l_phr hN ht hwb k (j + 1) nf nr (by omega) (by omega) (by omega) (by omega))
end
section
-- en
abbrev QRa : List Nat := [152, 153, 154, 155, 156, 157, 158]
abbrev QRj : List (Nat × Nat) := [(129, 3), (129, 40), (129, 46), (129, 48)]
def Rlow (R R1 : w_S) (t : Nat) : Prop := (∀ u, u < t → R1.1 152 u = R.1 152 u ∧ R1.1 153 u = R.1 153 u ∧ R1.1 154 u = R.1 154 u) ∧ ∀ u, u < 4 * t → R1.1 155 u = R.1 155 u ∧ R1.1 156 u = R.1 156 u
theorem HR.term {S : w_S} {pr ws : List Int} {t : Nat} {k : Int} (h : HR S pr ws t) : HR (w_put (w_put (w_put (w_put S 153 t k) 129 40 ((t : Nat) + 1)) 157 pr.length (t : Nat)) 129 46 ((pr.length : Nat) + 1)) (pr ++ [((t : Nat) : Int)]) ws (t + 1) := by
  obtain ⟨h1, h2, h3, h4, h5⟩ := h
  refine ⟨?_, ?_, ?_, ?_, ?_⟩
  · simp only [w_put_r, reduceIte, Nat.reduceEqDiff, pt_at]
    rw [List.length_append, List.length_singleton]
    omega
  · refine byt_snoc h2 (fun j hj => ?_) ?_
    · simp only [w_put_r, reduceIte, Nat.reduceEqDiff, pt_at]
      rw [if_neg (by omega)]
    · simp only [w_put_r, reduceIte, Nat.reduceEqDiff, pt_at]
  · simp only [w_put_r, reduceIte, Nat.reduceEqDiff, pt_at]
    exact h3
  · simp only [w_put_r, reduceIte, Nat.reduceEqDiff, pt_at]
    exact h4
  · simp only [w_put_r, reduceIte, Nat.reduceEqDiff, pt_at]
    omega
theorem HR.cg {R R1 : w_S} {pr ws : List Int} {t : Nat} (h : HR R pr ws t) (c1 : R1.1 129 46 = R.1 129 46) (c2 : R1.1 157 = R.1 157) (c3 : R1.1 129 48 = R.1 129 48) (c4 : R1.1 158 = R.1 158) (c5 : R1.1 129 40 = R.1 129 40) : HR R1 pr ws t := by
  unfold HR at h ⊢
  rw [c1, c2, c3, c4, c5]
  exact h
/-- what a term's words leave in the reference -/
def Rwd (G : Int → Int) (len f : Int) (R R1 T' : w_S) (pr ws : List Int) (t wb wc' : Nat) (c q' y' : Int) : Prop := frm QRa [129] QRj R R1 ∧ Rlow R R1 t ∧ ((y' < 0 ∧ ((q' < 0 ∧ y' = q') ∨ (0 ≤ q' ∧ y' = -1 - q' ∧ cdb (G q') = true))) ∨ (0 ≤ y' ∧ y' = q' ∧ HR R1 (pr ++ [((t : Nat) : Int)]) ws (t + 1) ∧ ∃ l pre, wc' = wb + l.length ∧ 1 ≤ l.length ∧ l.length ≤ 4 ∧ WdC T' f wb l ∧ T'.1 100 t = bi pre ∧ R1.1 152 t = c ∧ R1.1 154 t = ((l.length : Nat) : Int) ∧ R1.1 153 t ≠ 3 ∧ (R1.1 153 t = 1 ↔ pre = true) ∧ WdR R1 t l ∧ ∀ d, d ∈ l → vwd G len d))
def Cwd (T T' : w_S) (t wb wc' : Nat) : Prop := frm [100, 102] [94] PhC T T' ∧ (∀ u, u < t → T'.1 100 u = T.1 100 u) ∧ (∀ u, u < wb → T'.1 102 u = T.1 102 u) ∧ T'.1 94 12 = ((wc' : Nat) : Int) ∧ wb ≤ wc' ∧ wc' ≤ wb + 4
/-- a single word of a term, right or wrong, to the class -/
theorem c_word {e : w_E} {N t wb : Nat} {T : w_S} {f len a w q : Int} {G : Int → Int} (hN : 2001 ≤ N) (h : TX T f len G) (ha : At f len a w q) (h6 : T.1 94 6 = (t : Nat)) (ht : t < 20) (h12 : T.1 94 12 = (wb : Nat)) (hwb : wb + 4 ≤ 80) (hc : q < 0 ∨ G q ≠ 34) : Ok (E_Question_readWords e N (tp T a w)) (fun _ S1 => ∃ T' a' w', S1 = tp T' a' w' ∧ At f len a' w' (if 0 ≤ pS G q ∧ G (pS G q) = 42 then pS G q + 1 else pS G q) ∧ Cwd T T' t wb (wb + 1) ∧ (0 ≤ pS G q → T'.1 102 wb = (f + q) * 64 + (nw cdb G 12 q : Nat) ∧ T'.1 100 t = bi (decide (G (pS G q) = 42)))) := by
  unfold E_Question_readWords
  refine ok_b (ok_of (x_peek h ha) ?_)
  dsimp only
  refine ok_e ?_ (tk_b (x_takeSmall (e := e) hN h ha) (fun y a2 w2 h2 hy => ?_))
  · rcases hc with hc | hc
    · rw [if_pos hc]
      decide
    · by_cases d : q < 0
      · rw [if_pos d]
        decide
      · rw [if_neg d]
        exact hc
  refine ok_b (ok_of (x_addW (e := e) (N := N) h12 (by omega)) ?_)
  dsimp only
  generalize hT2 : w_put (w_put T 102 wb y) 94 12 (((wb : Nat) : Int) + 1) = T2
  have x2 : TX T2 f len G := by
    rw [← hT2]
    exact (h.put (by decide) (by decide)).put (by decide) (by decide)
  have f2 : frm [102] [94] PhC T T2 := by
    rw [← hT2]
    repeat (first | exact frm.refl _ _ _ _ | refine frm.put ?_ rfl | refine frm.puto ?_ rfl rfl)
  have t6 : T2.1 94 6 = (t : Nat) := by
    rw [← hT2]
    simp only [w_put_r, reduceIte, Nat.reduceEqDiff, pt_at]
    exact h6
  have t12 : T2.1 94 12 = ((wb + 1 : Nat) : Int) := by
    rw [← hT2]
    simp only [w_put_r, reduceIte, Nat.reduceEqDiff, pt_at]
    omega
  have t102 : ∀ u, T2.1 102 u = if u = wb then y else T.1 102 u := fun u => by
    rw [← hT2]
    simp only [w_put_r, reduceIte, Nat.reduceEqDiff, pt_at]
  clear hT2
  refine ok_b (ok_of (x_peek x2 h2) ?_)
  dsimp only
  have s6 : (tp T2 a2 w2).1 94 6 = (t : Nat) := by rw [tpo T2 a2 w2 (by decide)]; exact t6
  rw [s6, show (((t : Nat) : Int)).toNat = t by omega, tp4]
  -- what is left, for each bit
  have fin : ∀ (z : Int) (a3 : Int), (z = 0 ∨ z = 1) → Cwd T (w_put T2 100 t z) t wb (wb + 1) := by
    intro z a3 _
    refine ⟨frm.trans (S' := T2) (f2.wide (fun b h => by
      simp only [List.contains_cons, List.contains_nil, Bool.or_false, Bool.or_eq_false_iff] at h ⊢
      exact h.2) (fun b h => h) (fun b j h => h)) (by repeat (first | exact frm.refl _ _ _ _ | refine frm.put ?_ rfl | refine frm.puto ?_ rfl rfl)), fun u hu => ?_, fun u hu => ?_, ?_, by omega, by omega⟩
    · simp only [w_put_r, reduceIte, Nat.reduceEqDiff, pt_at]
      rw [if_neg (by omega), f2.2.1 100 rfl rfl]
    · simp only [w_put_r, reduceIte, Nat.reduceEqDiff, pt_at]
      rw [t102, if_neg (by omega)]
    · simp only [w_put_r, reduceIte, Nat.reduceEqDiff, pt_at]
      exact t12
  have bnd : f + len ≤ 10240 := x2.2.2.2.2.2.1
  have f0 : 0 ≤ f := x2.2.2.1
  have a2b : 0 ≤ a2 ∧ a2 ≤ 10240 := ⟨by have := h2.1; omega, by have := h2.2.1; omega⟩
  by_cases c : 0 ≤ pS G q ∧ G (pS G q) = 42
  · rw [if_neg (show ¬ pS G q < 0 by omega), c.2]
    obtain ⟨w2e, a2e, l2⟩ := h2.right.1 c.1
    subst w2e a2e
    have pl : pS G q < len := by
      by_cases z : pS G q < len
      · exact z
      · have hg := (x2.2.2.2.2.2.2 (pS G q) c.1).2 (by omega)
        omega
    refine ok_e (fun z => z rfl) (ok_ib (by omega) (ok_ib (by omega) ?_))
    rw [if_neg (show ¬ (w_put (tp T2 (f + pS G q) (-1)) 100 t 1).1 100 t = 0 by rw [w_put_r, if_pos rfl, pt_at, if_pos rfl]; decide)]
    refine ok_nb (by omega) (ok_s ?_)
    rw [tp_put _ _ _ _ (by decide), tp_p4, if_pos ⟨c.1, rfl⟩]
    refine ⟨w_put T2 100 t 1, f + pS G q + 1, -1, rfl, ⟨by omega, by omega, Or.inl ⟨rfl, by omega⟩⟩, fin 1 0 (Or.inr rfl), fun _ => ⟨?_, ?_⟩⟩
    · simp only [w_put_r, reduceIte, Nat.reduceEqDiff, pt_at]
      rw [t102, if_pos rfl]
      exact (hy rfl).1
    · simp only [w_put_r, reduceIte, Nat.reduceEqDiff, pt_at]
      rfl
  · have nq : (if pS G q < 0 then (-1 : Int) else G (pS G q)) ≠ 42 := by
      by_cases d : pS G q < 0
      · rw [if_pos d]
        decide
      · rw [if_neg d]
        exact fun z => c ⟨by omega, z⟩
    refine ok_t nq (ok_ib (by omega) (ok_ib (by omega) ?_))
    rw [if_pos (show (w_put (tp T2 a2 w2) 100 t 0).1 100 t = 0 by rw [w_put_r, if_pos rfl, pt_at, if_pos rfl])]
    refine ok_nb (by omega) (ok_s ?_)
    rw [tp_put _ _ _ _ (by decide), tp_p4, if_neg c, Int.add_zero]
    refine ⟨w_put T2 100 t 0, a2, w2, rfl, h2, fin 0 0 (Or.inl rfl), fun p0 => ⟨?_, ?_⟩⟩
    · simp only [w_put_r, reduceIte, Nat.reduceEqDiff, pt_at]
      rw [t102, if_pos rfl]
      exact (hy (h2.right.1 p0).1).1
    · simp only [w_put_r, reduceIte, Nat.reduceEqDiff, pt_at]
      rw [decide_eq_false (fun z => c ⟨p0, z⟩)]
      rfl
end
section
-- eo
theorem Rlow.refl (R : w_S) (t : Nat) : Rlow R R t := ⟨fun _ _ => ⟨rfl, rfl, rfl⟩, fun _ _ => ⟨rfl, rfl⟩⟩
/-- the words of a term, in both -/
theorem x_words {e : w_E} {N t wb : Nat} {T R : w_S} {f len p c : Int} {G : Int → Int} {pr ws : List Int} (hN : 2001 ≤ N) (h : TX T f len G) (hr : TR R len G) (hp : 0 ≤ p) (hl : p + 2 ≤ len) (h6 : T.1 94 6 = (t : Nat)) (ht : t < 20) (h12 : T.1 94 12 = (wb : Nat)) (h100 : T.1 100 t = 0) (hwb : wb + 4 ≤ 80) (hR : HR R pr ws t) (hpr : pr.length < 40) : Ok (E_Question_readWords e N (tp T (f + (p + 2)) (-1))) (fun _ S1 => ∃ T' a' w' q' wc', S1 = tp T' a' w' ∧ At f len a' w' q' ∧ Cwd T T' t wb wc' ∧ Ok (Rtw e N p c R) (fun y' R1 => Rwd G len f R R1 T' pr ws t wb wc' c q' y')) := by
  have ha : At f len (f + (p + 2)) (-1) (p + 2) := ⟨by omega, by omega, Or.inl ⟨rfl, rfl⟩⟩
  have hl2 := hr.2.2.1
  -- the reference's state when a term begins
  have r40 := hR.2.2.2.2
  generalize hR0 : w_put (w_put R 152 t c) 154 t 0 = R0
  have tr0 : TR R0 len G := by
    rw [← hR0]
    exact (hr.put (Or.inl (by decide)) (by decide)).put (Or.inl (by decide)) (by decide)
  have fr0 : frm QRa [129] QRj R R0 := by
    rw [← hR0]
    repeat (first | exact frm.refl _ _ _ _ | refine frm.put ?_ rfl | refine frm.puto ?_ rfl rfl)
  have lo0 : Rlow R R0 t := by
    rw [← hR0]
    refine ⟨fun u hu => ?_, fun u hu => ?_⟩
    · simp only [w_put_r, reduceIte, Nat.reduceEqDiff, pt_at]
      rw [if_neg (by omega), if_neg (by omega)]
      exact ⟨rfl, trivial, rfl⟩
    · simp only [w_put_r, reduceIte, Nat.reduceEqDiff, pt_at]
      exact ⟨trivial, trivial⟩
  have hr0 : HR R0 pr ws t := by
    rw [← hR0]
    refine hR.cg ?_ ?_ ?_ ?_ ?_ <;> simp only [w_put_r, reduceIte, Nat.reduceEqDiff, pt_at]
  have s154 : R0.1 154 t = ((0 : Nat) : Int) := by
    rw [← hR0]
    simp only [w_put_r, reduceIte, Nat.reduceEqDiff, pt_at]
    rfl
  have s152 : R0.1 152 t = c := by
    rw [← hR0]
    simp only [w_put_r, reduceIte, Nat.reduceEqDiff, pt_at]
  have ga := x_at (e := e) (N := N) (p := p + 2) tr0 (by omega)
  unfold Rtw
  rw [r40, show (((t : Nat) : Int)).toNat = t by omega, hR0]
  clear hR0
  by_cases c34 : G (p + 2) = 34
  · -- a phrase
    have pl : p + 2 < len := by
      by_cases z : p + 2 < len
      · exact z
      · have := (hr.2.2.2 (p + 2) (by omega)).2 (by omega)
        omega
    unfold E_Question_readWords
    refine ok_b (ok_of (x_peek h ha) ?_)
    dsimp only
    rw [if_neg (show ¬ p + 2 < 0 by omega)]
    refine ok_t c34 (tk_b (x_takeByte (e := e) (N := N) (b := 34) h ha (by decide)) (fun _ a1 w1 h1 _ => ?_))
    rw [pB_0 (by omega), if_pos c34] at h1
    obtain ⟨w1e, a1e, _⟩ := h1.right.1 (by omega)
    subst w1e a1e
    refine tk_b (x_takeSmall (e := e) hN h h1) (fun y a2 w2 h2 hy => ?_)
    refine ok_b (ok_of (x_addW (e := e) (N := N) h12 (by omega)) ?_)
    dsimp only
    generalize hT2 : w_put (w_put T 102 wb y) 94 12 (((wb : Nat) : Int) + 1) = T2
    have x2 : TX T2 f len G := by
      rw [← hT2]
      exact (h.put (by decide) (by decide)).put (by decide) (by decide)
    have f2 : frm [102] [94] PhC T T2 := by
      rw [← hT2]
      repeat (first | exact frm.refl _ _ _ _ | refine frm.put ?_ rfl | refine frm.puto ?_ rfl rfl)
    have t12 : T2.1 94 12 = ((wb + 1 : Nat) : Int) := by
      rw [← hT2]
      simp only [w_put_r, reduceIte, Nat.reduceEqDiff, pt_at]
      omega
    have t102 : ∀ u, T2.1 102 u = if u = wb then y else T.1 102 u := fun u => by
      rw [← hT2]
      simp only [w_put_r, reduceIte, Nat.reduceEqDiff, pt_at]
    clear hT2
    have wide : ∀ {A B : w_S}, frm [102] [94] PhC A B → frm [100, 102] [94] PhC A B := fun hf => hf.wide (fun b h => by
      simp only [List.contains_cons, List.contains_nil, Bool.or_false, Bool.or_eq_false_iff] at h ⊢
      exact h.2) (fun b h => h) (fun b j h => h)
    have widR : ∀ {A B : w_S}, frm [154, 155, 156] [] [] A B → frm QRa [129] QRj A B := fun hf => hf.wide (fun b h => by
      simp only [List.contains_cons, List.contains_nil, Bool.or_false, Bool.or_eq_false_iff] at h ⊢
      exact ⟨h.2.2.1, h.2.2.2.1, h.2.2.2.2.1⟩) (fun b h => rfl) (fun b j h => rfl)
    obtain ⟨m, hm⟩ : ∃ m, N = m + 1 := ⟨N - 1, by omega⟩
    have hph : ∀ {P : Int → w_S → Prop}, Ok (if 0 ≤ (rwf R0 t 0 (p + 2 + 1) (nw cdb G 13 (p + 2 + 1))).1 then Rph e N m (t : Int) (rwf R0 t 0 (p + 2 + 1) (nw cdb G 13 (p + 2 + 1))).1 (rwf R0 t 0 (p + 2 + 1) (nw cdb G 13 (p + 2 + 1))).2 else some ((rwf R0 t 0 (p + 2 + 1) (nw cdb G 13 (p + 2 + 1))).1, (rwf R0 t 0 (p + 2 + 1) (nw cdb G 13 (p + 2 + 1))).2)) P → Ok (E_R_phrase e N (t : Int) (p + 2 + 1) R0) P := by
      intro P w
      unfold E_R_phrase
      rw [show El_R_phrase e N N = El_R_phrase e N (m + 1) by rw [← hm], rp_step, show ((t : Int)).toNat = t by omega, s154]
      exact ok_e (by decide) (ok_ib (by omega) (ok_t (by decide) (ok_b (ok_of (x_rword (e := e) (N := N) (by omega) tr0 (by omega) (by omega) ht (by decide) s154) w))))
    -- a phrase that went wrong, to the reference
    have bad : ∀ (R1 : w_S) (q' y' : Int) (wc' : Nat) (T' : w_S), frm [154, 155, 156] [] [] R0 R1 → Rlow R0 R1 t → y' = q' → y' < 0 → Ok (if 0 ≤ y' then (if w_nb ((R1.1 129 40) + 1) = true then (if w_ib (R1.1 129 46) 60 = true then (if w_nb ((R1.1 129 46) + 1) = true then some (y', (w_put (w_put (w_put (w_put R1 153 t 2) 129 40 ((R1.1 129 40) + 1)) 157 ((R1.1 129 46).toNat) (t : Nat)) 129 46 ((R1.1 129 46) + 1))) else none) else none) else none) else some (y', (w_put R1 153 t 2))) (fun y' R1 => Rwd G len f R R1 T' pr ws t wb wc' c q' y') := by
      intro R1 q' y' wc' T' h1 h2 h3 h4
      refine ok_e (by omega) (ok_s ⟨fr0.trans (frm.trans (S' := R1) (widR h1) (by repeat (first | exact frm.refl _ _ _ _ | refine frm.put ?_ rfl | refine frm.puto ?_ rfl rfl))), ⟨fun u hu => ?_, fun u hu => ?_⟩, Or.inl ⟨h4, Or.inl ⟨by omega, h3⟩⟩⟩)
      · simp only [w_put_r, reduceIte, Nat.reduceEqDiff, pt_at]
        rw [if_neg (by omega), (h2.1 u hu).1, (h2.1 u hu).2.1, (h2.1 u hu).2.2]
        exact lo0.1 u hu
      · simp only [w_put_r, reduceIte, Nat.reduceEqDiff, pt_at]
        rw [(h2.2 u hu).1, (h2.2 u hu).2]
        exact lo0.2 u hu
    have low1 : ∀ {R1 : w_S}, frm [154, 155, 156] [] [] R0 R1 → (∀ u, u < 4 * t → R1.1 155 u = R0.1 155 u ∧ R1.1 156 u = R0.1 156 u) → (∀ u, u < t → R1.1 154 u = R0.1 154 u) → Rlow R0 R1 t := fun h1 h2 h3 => ⟨fun u hu => ⟨by rw [h1.2.1 152 rfl rfl], by rw [h1.2.1 153 rfl rfl], h3 u hu⟩, h2⟩
    obtain ⟨nf', hnf⟩ : ∃ m, N = m + 1 := ⟨N - 1, by omega⟩
    have n12 := nw_le cdb G 12 (p + 2 + 1)
    rcases nw12 cdb G (p + 2 + 1) with ⟨b1, b2, b3⟩ | ⟨b1, b2⟩
    · rw [pS_k (by omega) (by omega), b2] at h2
      have b4 := cdb_iff.1 b3
      have le := l_phrE (e := e) (N := N) (nf := nf') (x := 1) x2 h2 (Or.inr (Or.inl (by omega)))
      rw [← hnf] at le
      refine le.mono ?_
      intro _ S1 ⟨a', w', z1, z2, _⟩
      rw [pB_0 (by omega), if_neg (by omega)] at z2
      refine ⟨T2, a', w', _, wb + 1, z1, z2, ⟨wide f2, fun u hu => by rw [f2.2.1 100 rfl rfl], fun u hu => by rw [t102, if_neg (by omega)], t12, by omega, by omega⟩, ?_⟩
      refine ok_b (ok_of ga (ok_e (fun z => z c34) (ok_nb (by omega) (ok_b (hph ?_)))))
      rw [b1, rwf13]
      refine ok_e (by dsimp only; omega) (ok_s ?_)
      dsimp only
      exact bad R0 _ _ _ T2 (frm.refl _ _ _ _) (Rlow.refl _ _) (by omega) (by omega)
    · by_cases c0 : nw cdb G 12 (p + 2 + 1) = 0
      · rw [pS_0 (by omega) c0] at h2
        have le := l_phrE (e := e) (N := N) (nf := nf') (x := 1) x2 h2 (Or.inl (by omega))
        rw [← hnf] at le
        refine le.mono ?_
        intro _ S1 ⟨a', w', z1, z2, _⟩
        rw [pB_neg (by omega)] at z2
        refine ⟨T2, a', w', _, wb + 1, z1, z2, ⟨wide f2, fun u hu => by rw [f2.2.1 100 rfl rfl], fun u hu => by rw [t102, if_neg (by omega)], t12, by omega, by omega⟩, ?_⟩
        refine ok_b (ok_of ga (ok_e (fun z => z c34) (ok_nb (by omega) (ok_b (hph ?_)))))
        rw [b1, c0, rwf0]
        refine ok_e (by dsimp only; omega) (ok_s ?_)
        dsimp only
        exact bad R0 _ _ _ T2 (frm.refl _ _ _ _) (Rlow.refl _ _) rfl (by omega)
      · rw [pS_k (by omega) c0] at h2
        obtain ⟨w2e, a2e, ql2⟩ := h2.right.1 (by omega)
        subst w2e a2e
        obtain ⟨y1, y2⟩ := hy rfl
        rw [b1, rwfn c0 (by omega)] at hph
        dsimp only at hph
        have na := nw_all (P := cdb) (G := G) 12 (p + 2 + 1)
        generalize hn : nw cdb G 12 (p + 2 + 1) = n at *
        have vw : vwd G len (p + 2 + 1, n) := ⟨by show (0 : Int) ≤ p + 2 + 1; omega, by show 1 ≤ n; omega, by show n ≤ 12; omega, by show p + 2 + 1 + (n : Nat) ≤ len; omega, fun u hu => na u hu⟩
        generalize hR2 : w_put (w_put (w_put R0 155 (4 * t + 0) (p + 2 + 1)) 156 (4 * t + 0) ((n : Nat) : Int)) 154 t (((0 : Nat) : Int) + 1) = R2 at *
        have fr2 : frm [154, 155, 156] [] [] R0 R2 := by
          rw [← hR2]
          repeat (first | exact frm.refl _ _ _ _ | refine frm.put ?_ rfl | refine frm.puto ?_ rfl rfl)
        have r155 : ∀ u, R2.1 155 u = if u = 4 * t then p + 2 + 1 else R0.1 155 u := fun u => by
          rw [← hR2]
          simp only [w_put_r, reduceIte, Nat.reduceEqDiff, pt_at, Nat.add_zero]
        have r156 : ∀ u, R2.1 156 u = if u = 4 * t then ((n : Nat) : Int) else R0.1 156 u := fun u => by
          rw [← hR2]
          simp only [w_put_r, reduceIte, Nat.reduceEqDiff, pt_at, Nat.add_zero]
        have r154 : ∀ u, R2.1 154 u = if u = t then 1 else R0.1 154 u := fun u => by
          rw [← hR2]
          simp only [w_put_r, reduceIte, Nat.reduceEqDiff, pt_at]
          rfl
        have tr2 : TR R2 len G := by
          rw [← hR2]
          exact ((tr0.put (Or.inl (by decide)) (by decide)).put (Or.inl (by decide)) (by decide)).put (Or.inl (by decide)) (by decide)
        clear hR2
        have ph := l_phr (e := e) (N := N) (t := t) (wb := wb) (f := f) (len := len) (G := G) hN ht hwb 3 1 N m (by omega) (by omega) (by omega) (by omega) T2 R2 (p + 2 + 1 + ((n : Nat) : Int)) [(p + 2 + 1, n)] rfl x2 tr2 (by omega) (by omega) t12 (fun i hi => by
          rw [List.length_singleton] at hi
          have hi0 : i = 0 := by omega
          subst hi0
          rw [Nat.add_zero, t102, if_pos rfl]
          exact y1) (fun i hi => by
          rw [List.length_singleton] at hi
          have hi0 : i = 0 := by omega
          subst hi0
          rw [Nat.add_zero, r155, r156, if_pos rfl, if_pos rfl]
          exact ⟨rfl, rfl⟩) (by rw [r154, if_pos rfl]; rfl) (fun d hd => by rw [List.mem_singleton.1 hd]; exact vw)
        refine Ok.mono ph ?_
        intro _ S1 ⟨T', a', w', q', wc', z1, z2, z3, z4, z5, z6, z7, z8⟩
        have f3 := f2.trans z3
        refine ⟨T', a', w', q', wc', z1, z2, ⟨wide f3, fun u hu => by rw [f3.2.1 100 rfl rfl], fun u hu => by rw [z7 u hu, t102, if_neg (by omega)], z4, by omega, z6⟩, ?_⟩
        refine ok_b (ok_of ga (ok_e (fun z => z c34) (ok_nb (by omega) (ok_b (hph (ok_t (by omega) (z8.mono ?_)))))))
        intro y' R1 ⟨v1, v2, v3, v4, v5⟩
        dsimp only
        have fr3 := fr2.trans v2
        have lo3 : Rlow R0 R1 t := low1 fr3 (fun u hu => by
          rw [(v3 u hu).1, (v3 u hu).2, r155, r156, if_neg (by omega), if_neg (by omega)]
          exact ⟨rfl, rfl⟩) (fun u hu => by rw [v4 u hu, r154, if_neg (by omega)])
        by_cases d : y' < 0
        · exact bad R1 q' y' wc' T' fr3 lo3 v1 d
        · obtain ⟨l, l1, l2, l3, l4, l5, l6⟩ := v5 (by omega)
          have hr1 : HR R1 pr ws t := hr0.cg (by rw [fr3.2.1 129 rfl rfl]) (by rw [fr3.2.1 157 rfl rfl]) (by rw [fr3.2.1 129 rfl rfl]) (by rw [fr3.2.1 158 rfl rfl]) (by rw [fr3.2.1 129 rfl rfl])
          have ht1 := hr1.term (k := 2)
          rw [hr1.2.2.2.2, hr1.1, show (((pr.length : Nat) : Int)).toNat = pr.length by omega]
          refine ok_t (by omega) (ok_nb (by omega) (ok_ib (by omega) (ok_nb (by omega) (ok_s ⟨fr0.trans (frm.trans (S' := R1) (widR fr3) (by repeat (first | exact frm.refl _ _ _ _ | refine frm.put ?_ rfl | refine frm.puto ?_ rfl rfl))), ⟨fun u hu => ?_, fun u hu => ?_⟩, Or.inr ⟨by omega, v1, ht1, l, false, l1, l2, by omega, l3, ?_, ?_, ?_, ?_, ?_, ?_, l6⟩⟩))))
          · simp only [w_put_r, reduceIte, Nat.reduceEqDiff, pt_at]
            rw [if_neg (by omega), (lo3.1 u hu).1, (lo3.1 u hu).2.1, (lo3.1 u hu).2.2]
            exact lo0.1 u hu
          · simp only [w_put_r, reduceIte, Nat.reduceEqDiff, pt_at]
            rw [(lo3.2 u hu).1, (lo3.2 u hu).2]
            exact lo0.2 u hu
          · rw [f3.2.1 100 rfl rfl]
            exact h100
          · simp only [w_put_r, reduceIte, Nat.reduceEqDiff, pt_at]
            rw [fr3.2.1 152 rfl rfl]
            exact s152
          · simp only [w_put_r, reduceIte, Nat.reduceEqDiff, pt_at]
            exact l5
          · simp only [w_put_r, reduceIte, Nat.reduceEqDiff, pt_at]
            decide
          · simp only [w_put_r, reduceIte, Nat.reduceEqDiff, pt_at]
            decide
          · intro i hi
            simp only [w_put_r, reduceIte, Nat.reduceEqDiff, pt_at]
            exact l4 i hi
  · -- one word
    have p153 : ∀ (A : w_S) (z : Int), (w_put A 153 t z).1 153 t = z := fun A z => by
      rw [w_put_r, if_pos rfl, pt_at, if_pos rfl]
    refine (c_word (e := e) (N := N) hN h ha h6 ht h12 hwb (Or.inr c34)).mono ?_
    intro _ S1 ⟨T', a', w', z1, z2, z3, z4⟩
    have n12 := nw_le cdb G 12 (p + 2)
    have na := nw_all (P := cdb) (G := G) 12 (p + 2)
    have wr := x_rword (e := e) (N := N) (t := t) (j := 0) (by omega) tr0 (show (0 : Int) ≤ p + 2 by omega) (by omega) ht (by decide) s154
    have bad : ∀ (q' y' : Int) (wc' : Nat), y' < 0 → ((q' < 0 ∧ y' = q') ∨ (0 ≤ q' ∧ y' = -1 - q' ∧ cdb (G q') = true)) → Rwd G len f R (w_put R0 153 t 0) T' pr ws t wb wc' c q' y' := by
      intro q' y' wc' h4 h5
      refine ⟨fr0.trans (by repeat (first | exact frm.refl _ _ _ _ | refine frm.put ?_ rfl | refine frm.puto ?_ rfl rfl)), ⟨fun u hu => ?_, fun u hu => ?_⟩, Or.inl ⟨h4, h5⟩⟩
      · simp only [w_put_r, reduceIte, Nat.reduceEqDiff, pt_at]
        rw [if_neg (by omega)]
        exact lo0.1 u hu
      · simp only [w_put_r, reduceIte, Nat.reduceEqDiff, pt_at]
        exact lo0.2 u hu
    rcases nw12 cdb G (p + 2) with ⟨b1, b2, b3⟩ | ⟨b1, b2⟩
    · have b4 := cdb_iff.1 b3
      have ps : pS G (p + 2) = p + 2 + ((12 : Nat) : Int) := by
        rw [pS_k (by omega) (by omega), b2]
      rw [ps, if_neg (fun z => by omega)] at z2
      refine ⟨T', a', w', _, wb + 1, z1, z2, z3, ?_⟩
      rw [b1, rwf13] at wr
      refine ok_b (ok_of ga (ok_t c34 (ok_b (ok_of wr ?_))))
      dsimp only
      refine ok_t (by omega) ?_
      rw [p153]
      exact ok_t (by decide) (ok_s (bad _ _ _ (by omega) (Or.inr ⟨by omega, by omega, b3⟩)))
    · by_cases c0 : nw cdb G 12 (p + 2) = 0
      · have ps : pS G (p + 2) = -1 - (p + 2) := by
          rw [pS_0 (by omega) c0]
        rw [ps, if_neg (fun z => by omega)] at z2
        refine ⟨T', a', w', _, wb + 1, z1, z2, z3, ?_⟩
        rw [b1, c0, rwf0] at wr
        refine ok_b (ok_of ga (ok_t c34 (ok_b (ok_of wr ?_))))
        dsimp only
        refine ok_t (by omega) ?_
        rw [p153]
        exact ok_t (by decide) (ok_s (bad _ _ _ (by omega) (Or.inl ⟨by omega, rfl⟩)))
      · have ps : pS G (p + 2) = p + 2 + (nw cdb G 12 (p + 2) : Nat) := by
          rw [pS_k (by omega) c0]
        rw [b1, rwfn c0 (by omega)] at wr
        have nl := nw_len (P := cdb) (G := G) (len := len) (fun z hz => by
          by_cases z0 : 0 ≤ z
          · rw [(hr.2.2.2 z z0).2 hz]
            rfl
          · omega) 12 (p + 2) hl
        generalize hn : nw cdb G 12 (p + 2) = n at *
        rw [ps] at z2 z4
        obtain ⟨z5, z6⟩ := z4 (by omega)
        generalize hR2 : w_put (w_put (w_put R0 155 (4 * t + 0) (p + 2)) 156 (4 * t + 0) ((n : Nat) : Int)) 154 t (((0 : Nat) : Int) + 1) = R2 at *
        have fr2 : frm QRa [129] QRj R0 R2 := by
          rw [← hR2]
          repeat (first | exact frm.refl _ _ _ _ | refine frm.put ?_ rfl | refine frm.puto ?_ rfl rfl)
        have fr2' : frm [154, 155, 156] [] [] R0 R2 := by
          rw [← hR2]
          repeat (first | exact frm.refl _ _ _ _ | refine frm.put ?_ rfl | refine frm.puto ?_ rfl rfl)
        have r155 : ∀ u, R2.1 155 u = if u = 4 * t then p + 2 else R0.1 155 u := fun u => by
          rw [← hR2]
          simp only [w_put_r, reduceIte, Nat.reduceEqDiff, pt_at, Nat.add_zero]
        have r156 : ∀ u, R2.1 156 u = if u = 4 * t then ((n : Nat) : Int) else R0.1 156 u := fun u => by
          rw [← hR2]
          simp only [w_put_r, reduceIte, Nat.reduceEqDiff, pt_at, Nat.add_zero]
        have r154 : ∀ u, R2.1 154 u = if u = t then 1 else R0.1 154 u := fun u => by
          rw [← hR2]
          simp only [w_put_r, reduceIte, Nat.reduceEqDiff, pt_at]
          rfl
        have tr2 : TR R2 len G := by
          rw [← hR2]
          exact ((tr0.put (Or.inl (by decide)) (by decide)).put (Or.inl (by decide)) (by decide)).put (Or.inl (by decide)) (by decide)
        clear hR2
        have vw : vwd G len (p + 2, n) := ⟨by show (0 : Int) ≤ p + 2; omega, by show 1 ≤ n; omega, by show n ≤ 12; omega, by show p + 2 + (n : Nat) ≤ len; omega, fun u hu => na u hu⟩
        have hr2 : HR R2 pr ws t := hr0.cg (by rw [fr2'.2.1 129 rfl rfl]) (by rw [fr2'.2.1 157 rfl rfl]) (by rw [fr2'.2.1 129 rfl rfl]) (by rw [fr2'.2.1 158 rfl rfl]) (by rw [fr2'.2.1 129 rfl rfl])
        have ga2 := x_at (e := e) (N := N) (p := p + 2 + ((n : Nat) : Int)) tr2 (by omega)
        have good : ∀ (k q' : Int) (pre : Bool), (k = 0 ∧ pre = false ∨ k = 1 ∧ pre = true) → 0 ≤ q' → T'.1 100 t = bi pre → Rwd G len f R (w_put (w_put (w_put (w_put R2 153 t k) 129 40 ((t : Nat) + 1)) 157 pr.length (t : Nat)) 129 46 ((pr.length : Nat) + 1)) T' pr ws t wb (wb + 1) c q' q' := by
          intro k q' pre hk hq h7
          refine ⟨fr0.trans (fr2.trans (by repeat (first | exact frm.refl _ _ _ _ | refine frm.put ?_ rfl | refine frm.puto ?_ rfl rfl))), ⟨fun u hu => ?_, fun u hu => ?_⟩, Or.inr ⟨hq, rfl, hr2.term, [(p + 2, n)], pre, rfl, Nat.le_refl 1, by show 1 ≤ 4; decide, ?_, h7, ?_, ?_, ?_, ?_, ?_, fun d hd => by rw [List.mem_singleton.1 hd]; exact vw⟩⟩
          · simp only [w_put_r, reduceIte, Nat.reduceEqDiff, pt_at]
            rw [if_neg (by omega), fr2'.2.1 152 rfl rfl, fr2'.2.1 153 rfl rfl, r154, if_neg (by omega)]
            exact lo0.1 u hu
          · simp only [w_put_r, reduceIte, Nat.reduceEqDiff, pt_at]
            rw [r155, r156, if_neg (by omega), if_neg (by omega)]
            exact lo0.2 u hu
          · intro i hi
            rw [List.length_singleton] at hi
            have hi0 : i = 0 := by omega
            subst hi0
            rw [Nat.add_zero]
            exact z5
          · simp only [w_put_r, reduceIte, Nat.reduceEqDiff, pt_at]
            rw [fr2'.2.1 152 rfl rfl]
            exact s152
          · simp only [w_put_r, reduceIte, Nat.reduceEqDiff, pt_at]
            rw [r154, if_pos rfl]
            rfl
          · simp only [w_put_r, reduceIte, Nat.reduceEqDiff, pt_at]
            omega
          · simp only [w_put_r, reduceIte, Nat.reduceEqDiff, pt_at]
            rcases hk with ⟨k1, k2⟩ | ⟨k1, k2⟩
            · subst k1 k2
              decide
            · subst k1 k2
              decide
          · intro i hi
            rw [List.length_singleton] at hi
            have hi0 : i = 0 := by omega
            subst hi0
            simp only [w_put_r, reduceIte, Nat.reduceEqDiff, pt_at]
            rw [Nat.add_zero, r155, r156, if_pos rfl, if_pos rfl]
            exact ⟨rfl, rfl⟩
        by_cases c42 : G (p + 2 + ((n : Nat) : Int)) = 42
        · rw [if_pos ⟨by omega, c42⟩] at z2
          rw [decide_eq_true c42] at z6
          refine ⟨T', a', w', _, wb + 1, z1, z2, z3, ?_⟩
          refine ok_b (ok_of ga (ok_t c34 (ok_b (ok_of wr ?_))))
          dsimp only
          refine ok_e (by omega) (ok_b (ok_of ga2 ?_))
          dsimp only
          rw [p153, p153, hr2.2.2.2.2, hr2.1, show (((pr.length : Nat) : Int)).toNat = pr.length by omega]
          exact ok_e (fun z => z c42) (ok_e (fun z => z rfl) (ok_nb (by omega) (ok_t (by omega) (ok_nb (by omega) (ok_ib (by omega) (ok_nb (by omega) (ok_s (good 1 _ true (Or.inr ⟨rfl, rfl⟩) (by omega) z6))))))))
        · rw [if_neg (fun z => c42 z.2)] at z2
          rw [decide_eq_false c42] at z6
          refine ⟨T', a', w', _, wb + 1, z1, z2, z3, ?_⟩
          refine ok_b (ok_of ga (ok_t c34 (ok_b (ok_of wr ?_))))
          dsimp only
          refine ok_e (by omega) (ok_b (ok_of ga2 ?_))
          dsimp only
          rw [p153, p153, hr2.2.2.2.2, hr2.1, show (((pr.length : Nat) : Int)).toNat = pr.length by omega]
          exact ok_t c42 (ok_t (by decide) (ok_nb (by omega) (ok_ib (by omega) (ok_nb (by omega) (ok_s (good 0 _ false (Or.inl ⟨rfl, rfl⟩) (by omega) z6))))))
end
section
-- ep
def tkd (G : Int → Int) (s : Int) : Int := if G s = 116 then 0 else if G s = 97 then 1 else if G s = 115 then 2 else if G s = 110 then 3 else 4
def tkw (k : Int) : List Int := if k = 0 then [116] else if k = 1 then [97] else if k = 2 then [115] else if k = 3 then [110] else [104]
def jkd (G : Int → Int) (s : Int) : Int := if G s = 97 then 0 else if G s = 111 then 1 else 2
def jkw (k : Int) : List Int := if k = 0 then [97, 110, 100] else if k = 1 then [111, 114] else [110, 111, 116]
theorem tq_word_wl : wl 5 = [116, 124, 97, 124, 115, 124, 110, 124, 104] := by decide
theorem tq_word {G : Int → Int} {s : Int} (h : 0 ≤ s) : pK (wl 5) G s = pL G (tkw (tkd G s)) s ∧ (0 ≤ pK (wl 5) G s → (tw (fun p => G (s + p)) (wl 5) 0 0 0 false).1 = tkd G s) := by
  rw [tq_word_wl]
  unfold pK
  rw [if_neg (by omega)]
  by_cases a1 : G (s) = 116
  · have t : tw (fun p => G (s + p)) [116, 124, 97, 124, 115, 124, 110, 124, 104] 0 0 0 false = (0, 1, 1) := by
      simp [tw, a1] <;> rfl
    have k : tkd G s = 0 := by
      simp [tkd, a1]
    rw [t, k]
    have p : pL G (tkw 0) s = s + 1 := by
      show pL G [116] s = _
      rw [pL_y (by omega) (show G (s) = 116 by exact a1), pL]
      all_goals omega
    rw [p]
    exact ⟨rfl, fun _ => rfl⟩
  · by_cases a2 : G (s) = 97
    · have t : tw (fun p => G (s + p)) [116, 124, 97, 124, 115, 124, 110, 124, 104] 0 0 0 false = (1, 1, 1) := by
        simp [tw, a1, a2] <;> rfl
      have k : tkd G s = 1 := by
        simp [tkd, a1, a2]
      rw [t, k]
      have p : pL G (tkw 1) s = s + 1 := by
        show pL G [97] s = _
        rw [pL_y (by omega) (show G (s) = 97 by exact a2), pL]
        all_goals omega
      rw [p]
      exact ⟨rfl, fun _ => rfl⟩
    · by_cases a3 : G (s) = 115
      · have t : tw (fun p => G (s + p)) [116, 124, 97, 124, 115, 124, 110, 124, 104] 0 0 0 false = (2, 1, 1) := by
          simp [tw, a1, a2, a3] <;> rfl
        have k : tkd G s = 2 := by
          simp [tkd, a1, a2, a3]
        rw [t, k]
        have p : pL G (tkw 2) s = s + 1 := by
          show pL G [115] s = _
          rw [pL_y (by omega) (show G (s) = 115 by exact a3), pL]
          all_goals omega
        rw [p]
        exact ⟨rfl, fun _ => rfl⟩
      · by_cases a4 : G (s) = 110
        · have t : tw (fun p => G (s + p)) [116, 124, 97, 124, 115, 124, 110, 124, 104] 0 0 0 false = (3, 1, 1) := by
            simp [tw, a1, a2, a3, a4] <;> rfl
          have k : tkd G s = 3 := by
            simp [tkd, a1, a2, a3, a4]
          rw [t, k]
          have p : pL G (tkw 3) s = s + 1 := by
            show pL G [110] s = _
            rw [pL_y (by omega) (show G (s) = 110 by exact a4), pL]
            all_goals omega
          rw [p]
          exact ⟨rfl, fun _ => rfl⟩
        · by_cases a5 : G (s) = 104
          · have t : tw (fun p => G (s + p)) [116, 124, 97, 124, 115, 124, 110, 124, 104] 0 0 0 false = (4, 1, 1) := by
              simp [tw, a1, a2, a3, a4, a5] <;> rfl
            have k : tkd G s = 4 := by
              simp [tkd, a1, a2, a3, a4, a5]
            rw [t, k]
            have p : pL G (tkw 4) s = s + 1 := by
              show pL G [104] s = _
              rw [pL_y (by omega) (show G (s) = 104 by exact a5), pL]
              all_goals omega
            rw [p]
            exact ⟨rfl, fun _ => rfl⟩
          · have t : tw (fun p => G (s + p)) [116, 124, 97, 124, 115, 124, 110, 124, 104] 0 0 0 false = (-1, 0, 0) := by
              simp [tw, a1, a2, a3, a4, a5] <;> rfl
            have k : tkd G s = 4 := by
              simp [tkd, a1, a2, a3, a4, a5]
            rw [t, k]
            have p : pL G (tkw 4) s = -1 - (s + 0) := by
              show pL G [104] s = _
              rw [pL_n (by omega) (show ¬ G (s) = 104 by exact a5)]
              omega
            rw [p]
            refine ⟨by simp, fun z => ?_⟩
            simp at z
            omega

theorem jn_word_wl : wl 6 = [97, 110, 100, 124, 111, 114, 124, 110, 111, 116] := by decide
theorem jn_word {G : Int → Int} {s : Int} (h : 0 ≤ s) : pK (wl 6) G s = pL G (jkw (jkd G s)) s ∧ (0 ≤ pK (wl 6) G s → (tw (fun p => G (s + p)) (wl 6) 0 0 0 false).1 = jkd G s) := by
  rw [jn_word_wl]
  unfold pK
  rw [if_neg (by omega)]
  by_cases a1 : G (s) = 97
  · by_cases a2 : G (s + 1) = 110
    · by_cases a3 : G (s + 2) = 100
      · have t : tw (fun p => G (s + p)) [97, 110, 100, 124, 111, 114, 124, 110, 111, 116] 0 0 0 false = (0, 3, 3) := by
          simp [tw, a1, a2, a3] <;> rfl
        have k : jkd G s = 0 := by
          simp [jkd, a1, a2, a3]
        rw [t, k]
        have p : pL G (jkw 0) s = s + 3 := by
          show pL G [97, 110, 100] s = _
          rw [pL_y (by omega) (show G (s) = 97 by exact a1), pL_y (by omega) (show G (s + 1) = 110 by exact a2), pL_y (by omega) (show G (s + 1 + 1) = 100 by rw [show s + 1 + 1 = s + 2 by omega]; exact a3), pL]
          all_goals omega
        rw [p]
        exact ⟨rfl, fun _ => rfl⟩
      · have t : tw (fun p => G (s + p)) [97, 110, 100, 124, 111, 114, 124, 110, 111, 116] 0 0 0 false = (-1, 0, 2) := by
          simp [tw, a1, a2, a3] <;> rfl
        have k : jkd G s = 0 := by
          simp [jkd, a1, a2, a3]
        rw [t, k]
        have p : pL G (jkw 0) s = -1 - (s + 2) := by
          show pL G [97, 110, 100] s = _
          rw [pL_y (by omega) (show G (s) = 97 by exact a1), pL_y (by omega) (show G (s + 1) = 110 by exact a2), pL_n (by omega) (show ¬ G (s + 1 + 1) = 100 by rw [show s + 1 + 1 = s + 2 by omega]; exact a3)]
          all_goals omega
        rw [p]
        refine ⟨by simp, fun z => ?_⟩
        simp at z
        omega
    · have t : tw (fun p => G (s + p)) [97, 110, 100, 124, 111, 114, 124, 110, 111, 116] 0 0 0 false = (-1, 0, 1) := by
        simp [tw, a1, a2] <;> rfl
      have k : jkd G s = 0 := by
        simp [jkd, a1, a2]
      rw [t, k]
      have p : pL G (jkw 0) s = -1 - (s + 1) := by
        show pL G [97, 110, 100] s = _
        rw [pL_y (by omega) (show G (s) = 97 by exact a1), pL_n (by omega) (show ¬ G (s + 1) = 110 by exact a2)]
        all_goals omega
      rw [p]
      refine ⟨by simp, fun z => ?_⟩
      simp at z
      omega
  · by_cases a4 : G (s) = 111
    · by_cases a5 : G (s + 1) = 114
      · have t : tw (fun p => G (s + p)) [97, 110, 100, 124, 111, 114, 124, 110, 111, 116] 0 0 0 false = (1, 2, 2) := by
          simp [tw, a1, a4, a5] <;> rfl
        have k : jkd G s = 1 := by
          simp [jkd, a1, a4, a5]
        rw [t, k]
        have p : pL G (jkw 1) s = s + 2 := by
          show pL G [111, 114] s = _
          rw [pL_y (by omega) (show G (s) = 111 by exact a4), pL_y (by omega) (show G (s + 1) = 114 by exact a5), pL]
          all_goals omega
        rw [p]
        exact ⟨rfl, fun _ => rfl⟩
      · have t : tw (fun p => G (s + p)) [97, 110, 100, 124, 111, 114, 124, 110, 111, 116] 0 0 0 false = (-1, 0, 1) := by
          simp [tw, a1, a4, a5] <;> rfl
        have k : jkd G s = 1 := by
          simp [jkd, a1, a4, a5]
        rw [t, k]
        have p : pL G (jkw 1) s = -1 - (s + 1) := by
          show pL G [111, 114] s = _
          rw [pL_y (by omega) (show G (s) = 111 by exact a4), pL_n (by omega) (show ¬ G (s + 1) = 114 by exact a5)]
          all_goals omega
        rw [p]
        refine ⟨by simp, fun z => ?_⟩
        simp at z
        omega
    · by_cases a6 : G (s) = 110
      · by_cases a7 : G (s + 1) = 111
        · by_cases a8 : G (s + 2) = 116
          · have t : tw (fun p => G (s + p)) [97, 110, 100, 124, 111, 114, 124, 110, 111, 116] 0 0 0 false = (2, 3, 3) := by
              simp [tw, a1, a4, a6, a7, a8] <;> rfl
            have k : jkd G s = 2 := by
              simp [jkd, a1, a4, a6, a7, a8]
            rw [t, k]
            have p : pL G (jkw 2) s = s + 3 := by
              show pL G [110, 111, 116] s = _
              rw [pL_y (by omega) (show G (s) = 110 by exact a6), pL_y (by omega) (show G (s + 1) = 111 by exact a7), pL_y (by omega) (show G (s + 1 + 1) = 116 by rw [show s + 1 + 1 = s + 2 by omega]; exact a8), pL]
              all_goals omega
            rw [p]
            exact ⟨rfl, fun _ => rfl⟩
          · have t : tw (fun p => G (s + p)) [97, 110, 100, 124, 111, 114, 124, 110, 111, 116] 0 0 0 false = (-1, 0, 2) := by
              simp [tw, a1, a4, a6, a7, a8] <;> rfl
            have k : jkd G s = 2 := by
              simp [jkd, a1, a4, a6, a7, a8]
            rw [t, k]
            have p : pL G (jkw 2) s = -1 - (s + 2) := by
              show pL G [110, 111, 116] s = _
              rw [pL_y (by omega) (show G (s) = 110 by exact a6), pL_y (by omega) (show G (s + 1) = 111 by exact a7), pL_n (by omega) (show ¬ G (s + 1 + 1) = 116 by rw [show s + 1 + 1 = s + 2 by omega]; exact a8)]
              all_goals omega
            rw [p]
            refine ⟨by simp, fun z => ?_⟩
            simp at z
            omega
        · have t : tw (fun p => G (s + p)) [97, 110, 100, 124, 111, 114, 124, 110, 111, 116] 0 0 0 false = (-1, 0, 1) := by
            simp [tw, a1, a4, a6, a7] <;> rfl
          have k : jkd G s = 2 := by
            simp [jkd, a1, a4, a6, a7]
          rw [t, k]
          have p : pL G (jkw 2) s = -1 - (s + 1) := by
            show pL G [110, 111, 116] s = _
            rw [pL_y (by omega) (show G (s) = 110 by exact a6), pL_n (by omega) (show ¬ G (s + 1) = 111 by exact a7)]
            all_goals omega
          rw [p]
          refine ⟨by simp, fun z => ?_⟩
          simp at z
          omega
      · have t : tw (fun p => G (s + p)) [97, 110, 100, 124, 111, 114, 124, 110, 111, 116] 0 0 0 false = (-1, 0, 0) := by
          simp [tw, a1, a4, a6] <;> rfl
        have k : jkd G s = 2 := by
          simp [jkd, a1, a4, a6]
        rw [t, k]
        have p : pL G (jkw 2) s = -1 - (s + 0) := by
          show pL G [110, 111, 116] s = _
          rw [pL_n (by omega) (show ¬ G (s) = 110 by exact a6)]
          omega
        rw [p]
        refine ⟨by simp, fun z => ?_⟩
        simp at z
        omega
end
section
-- eq
/-- a term is read, to the class -/
def Qtm (e : w_E) (N n : Nat) (x0 x3 : Int) (S : w_S) : e_R := (if (S.1 94 6) < 20 then ((E_Tape_takeWord_v5 e N  S).bind (fun q468 => ((E_Tape_takeByte e N 61 q468.2).bind (fun q473 => (if w_ib (q473.2.1 94 6) 20 = true then (if q468.1 ≠ 4 then ((E_Question_readWords e N  (w_put (w_put (w_put q473.2 97 ((q473.2.1 94 6).toNat) q468.1) 98 ((q473.2.1 94 6).toNat) (q473.2.1 94 12)) 100 ((q473.2.1 94 6).toNat) 0)).bind (fun q474 => (if w_ib (q474.2.1 94 6) 20 = true then (if w_nb ((q474.2.1 94 12) - (q474.2.1 98 ((q474.2.1 94 6).toNat))) = true then ((E_Question_addToProgram e N (q474.2.1 94 6) (w_put q474.2 99 ((q474.2.1 94 6).toNat) ((q474.2.1 94 12) - (q474.2.1 98 ((q474.2.1 94 6).toNat))))).bind (fun q489 => (if w_nb ((q489.2.1 94 6) + 1) = true then (Qcl e N n x0 x3 (w_put q489.2 94 6 ((q489.2.1 94 6) + 1))) else none))) else none) else none))) else ((E_Tape_takeNumber e N 1 80 (w_put (w_put (w_put q473.2 97 ((q473.2.1 94 6).toNat) q468.1) 98 ((q473.2.1 94 6).toNat) (q473.2.1 94 12)) 100 ((q473.2.1 94 6).toNat) 0)).bind (fun q510 => (if w_ib (q510.2.1 94 6) 20 = true then (if w_nb ((q510.2.1 94 12) - (q510.2.1 98 ((q510.2.1 94 6).toNat))) = true then ((E_Question_addToProgram e N (q510.2.1 94 6) (w_put (w_put q510.2 101 ((q473.2.1 94 6).toNat) q510.1) 99 ((q510.2.1 94 6).toNat) ((q510.2.1 94 12) - (q510.2.1 98 ((q510.2.1 94 6).toNat))))).bind (fun q511 => (if w_nb ((q511.2.1 94 6) + 1) = true then (Qcl e N n x0 x3 (w_put q511.2 94 6 ((q511.2.1 94 6) + 1))) else none))) else none) else none)))) else none))))) else ((E_Tape_stopHere e N  S).bind (fun q525 => (Qcl e N n x0 x3 q525.2))))
theorem qt_step {e : w_E} {N n : Nat} {x1 x2 x3 : Int} {S : w_S} : El_Question_readQuestion e N (n + 1) 0 [x1, x2, x3] [] S = (if 20 < x3 then (Qend e N x1 S) else (if x2 = 0 then (Qend e N x1 S) else ((E_Question_openBrackets e N x1 S).bind (fun q464 => (Qtm e N n q464.1 x3 q464.2))))) := qq_step
end
