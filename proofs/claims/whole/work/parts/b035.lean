section
-- er
/-- a place of the class, read off the state -/
theorem tp_id (S : w_S) : tp S (S.1 1 4) (S.1 1 6) = S := by
  unfold tp
  refine w_ext (fun c j => ?_) rfl
  rw [w_put_r, w_put_r]
  by_cases h : c = 1
  · subst h
    rw [if_pos rfl, if_pos rfl, pt_at, pt_at]
    by_cases h6 : j = 6
    · rw [if_pos h6, h6]
    · rw [if_neg h6]
      by_cases h4 : j = 4
      · rw [if_pos h4, h4]
      · rw [if_neg h4]
  · rw [if_neg h, if_neg h]
theorem HC.cg {T T1 : w_S} {pr ws : List Int} {t : Nat} (h : HC T pr ws t) (c1 : T1.1 94 3 = T.1 94 3) (c2 : T1.1 95 = T.1 95) (c3 : T1.1 94 5 = T.1 94 5) (c4 : T1.1 96 = T.1 96) (c5 : T1.1 94 6 = T.1 94 6) : HC T1 pr ws t := by
  unfold HC at h ⊢
  rw [c1, c2, c3, c4, c5]
  exact h
theorem HC.tpp {T : w_S} {pr ws : List Int} {t : Nat} {a w : Int} (h : HC T pr ws t) : HC (tp T a w) pr ws t := by
  have e94 : (tp T a w).1 94 = T.1 94 := tpo T a w (by decide)
  exact h.cg (by rw [e94]) (tpo T a w (by decide)) (by rw [e94]) (tpo T a w (by decide)) (by rw [e94])
abbrev QSa : List Nat := [95, 96, 97, 98, 99, 100, 101, 102]
abbrev QSj : List (Nat × Nat) := [(94, 3), (94, 5), (94, 6), (94, 12)]
/-- terms below a number are as they were, to the class -/
def Tlow (T T1 : w_S) (t wb : Nat) : Prop := (∀ u, u < t → T1.1 97 u = T.1 97 u ∧ T1.1 98 u = T.1 98 u ∧ T1.1 99 u = T.1 99 u ∧ T1.1 100 u = T.1 100 u ∧ T1.1 101 u = T.1 101 u) ∧ ∀ u, u < wb → T1.1 102 u = T.1 102 u
/-- a term: where it looks (4: a heading), the heading's number, is the word a beginning, the words -/
abbrev Trm : Type := Int × Int × Bool × List Wd
def tcd (k : Int) : Int := if k = 0 then 116 else if k = 1 then 97 else if k = 2 then 115 else if k = 3 then 110 else 104
def vtm (G : Int → Int) (len : Int) (d : Trm) : Prop := 0 ≤ d.1 ∧ d.1 ≤ 4 ∧ (d.1 = 4 → 1 ≤ d.2.1 ∧ d.2.1 ≤ 80) ∧ (d.1 ≠ 4 → 1 ≤ d.2.2.2.length ∧ d.2.2.2.length ≤ 4 ∧ ∀ x, x ∈ d.2.2.2 → vwd G len x) ∧ d.2.2.2.length ≤ 4
def TmC (T : w_S) (f : Int) (t wc : Nat) (d : Trm) : Prop := T.1 97 t = d.1 ∧ (d.1 = 4 → T.1 101 t = d.2.1) ∧ (d.1 ≠ 4 → ∃ wb : Nat, T.1 98 t = (wb : Nat) ∧ wb + d.2.2.2.length ≤ wc ∧ T.1 99 t = ((d.2.2.2.length : Nat) : Int) ∧ T.1 100 t = bi d.2.2.1 ∧ WdC T f wb d.2.2.2)
def TmR (R : w_S) (t : Nat) (d : Trm) : Prop := R.1 152 t = tcd d.1 ∧ (d.1 = 4 → R.1 153 t = 3 ∧ R.1 154 t = d.2.1) ∧ (d.1 ≠ 4 → R.1 154 t = ((d.2.2.2.length : Nat) : Int) ∧ R.1 153 t ≠ 3 ∧ (R.1 153 t = 1 ↔ d.2.2.1 = true) ∧ WdR R t d.2.2.2)
/-- the class's term is done: it comes into the program -/
theorem c_fin {e : w_E} {N n t wb wc' : Nat} {x0 x3 a w : Int} {T' : w_S} {pr ws : List Int} {P : Int → w_S → Prop} (ht : t < 20) (hpr : pr.length < 40) (h : HC T' pr ws t) (h98 : T'.1 98 t = (wb : Nat)) (h12 : T'.1 94 12 = (wc' : Nat)) (hwc : wb ≤ wc' ∧ wc' ≤ 80) (K : ∀ T2, frm [95, 99] [94] [(94, 3), (94, 6)] T' T2 → (∀ u, T2.1 99 u = if u = t then ((wc' - wb : Nat) : Int) else T'.1 99 u) → HC T2 (pr ++ [((t : Nat) : Int)]) ws (t + 1) → Ok (Qcl e N n x0 x3 (tp T2 a w)) P) : Ok (if w_ib ((tp T' a w).1 94 6) 20 = true then (if w_nb (((tp T' a w).1 94 12) - ((tp T' a w).1 98 (((tp T' a w).1 94 6).toNat))) = true then ((E_Question_addToProgram e N ((tp T' a w).1 94 6) (w_put (tp T' a w) 99 (((tp T' a w).1 94 6).toNat) (((tp T' a w).1 94 12) - ((tp T' a w).1 98 (((tp T' a w).1 94 6).toNat))))).bind (fun q489 => (if w_nb ((q489.2.1 94 6) + 1) = true then (Qcl e N n x0 x3 (w_put q489.2 94 6 ((q489.2.1 94 6) + 1))) else none))) else none) else none) P := by
  have h6 := h.2.2.2.2
  rw [tpo T' a w (show 94 ≠ 1 by decide), tpo T' a w (show 98 ≠ 1 by decide), h6, show (((t : Nat) : Int)).toNat = t by omega, h12, h98, tp_put _ _ _ _ (by decide)]
  refine ok_ib (by omega) (ok_nb (by omega) (ok_b ?_))
  generalize hT1 : w_put T' 99 t (((wc' : Nat) : Int) - ((wb : Nat) : Int)) = T1
  have f1 : frm [95, 99] [94] [(94, 3), (94, 6)] T' T1 := by
    rw [← hT1]
    repeat (first | exact frm.refl _ _ _ _ | refine frm.put ?_ rfl | refine frm.puto ?_ rfl rfl)
  have h1 : HC T1 pr ws t := by
    rw [← hT1]
    refine h.cg ?_ ?_ ?_ ?_ ?_ <;> simp only [w_put_r, reduceIte, Nat.reduceEqDiff, pt_at]
  have c99 : ∀ u, T1.1 99 u = if u = t then ((wc' - wb : Nat) : Int) else T'.1 99 u := fun u => by
    rw [← hT1]
    simp only [w_put_r, reduceIte, Nat.reduceEqDiff, pt_at]
    split
    · omega
    · rfl
  clear hT1
  obtain ⟨S1, s1, s2, s3⟩ := x_addP (e := e) (N := N) (x := ((t : Nat) : Int)) (h1.tpp (a := a) (w := w)) hpr
  refine ok_of s1 ?_
  dsimp only
  rw [s3.2.2.2.2]
  refine ok_nb (by omega) ?_
  have sid : S1 = tp S1 a w := by
    have e4 : S1.1 1 4 = a := by rw [s2.2.1 1 rfl rfl, tp4]
    have e6 : S1.1 1 6 = w := by rw [s2.2.1 1 rfl rfl, tp6]
    rw [← e4, ← e6]
    exact (tp_id S1).symm
  have e2 : w_put S1 94 6 (((t : Nat) : Int) + 1) = tp (w_put (w_put (w_put S1 94 6 (((t : Nat) : Int) + 1)) 1 4 (T1.1 1 4)) 1 6 (T1.1 1 6)) a w := by
    have : w_put (w_put (w_put S1 94 6 (((t : Nat) : Int) + 1)) 1 4 (T1.1 1 4)) 1 6 (T1.1 1 6) = tp (w_put S1 94 6 (((t : Nat) : Int) + 1)) (T1.1 1 4) (T1.1 1 6) := rfl
    rw [this, tp_tp, ← tp_put _ _ _ _ (by decide), ← sid]
  rw [e2]
  refine K _ ?_ (fun u => ?_) ?_
  · refine f1.trans ⟨?_, fun b h1' h2' => ?_, fun b j h1' h2' => ?_⟩
    · show S1.2 = T1.2
      rw [s2.1]
      rfl
    · rw [w_put_r, w_put_r, w_put_r]
      by_cases hb : b = 1
      · subst hb
        funext j
        rw [if_pos rfl, if_pos rfl, pt_at, pt_at]
        by_cases j6 : j = 6
        · rw [if_pos j6, j6]
        · rw [if_neg j6]
          by_cases j4 : j = 4
          · rw [if_pos j4, j4]
          · rw [if_neg j4, if_neg (by decide), s2.2.1 1 rfl rfl]
            unfold tp
            rw [w_put_r, w_put_r, if_pos rfl, if_pos rfl, pt_at, pt_at, if_neg j6, if_neg j4]
      · simp only [List.contains_cons, List.contains_nil, Bool.or_false, Bool.or_eq_false_iff, beq_eq_false_iff_ne] at h1' h2'
        rw [if_neg hb, if_neg hb, if_neg h2', s2.2.1 b (by simp only [List.contains_cons, List.contains_nil, Bool.or_false, beq_eq_false_iff_ne]; exact h1'.1) (by simp only [List.contains_cons, List.contains_nil, Bool.or_false, beq_eq_false_iff_ne]; exact h2'), tpo _ _ _ hb]
    · rw [w_put_r, w_put_r, w_put_r]
      by_cases hb : b = 1
      · subst hb
        rw [if_pos rfl, if_pos rfl, pt_at, pt_at]
        by_cases j6 : j = 6
        · rw [if_pos j6, j6]
        · rw [if_neg j6]
          by_cases j4 : j = 4
          · rw [if_pos j4, j4]
          · rw [if_neg j4, if_neg (by decide), s2.2.1 1 rfl rfl]
            unfold tp
            rw [w_put_r, w_put_r, if_pos rfl, if_pos rfl, pt_at, pt_at, if_neg j6, if_neg j4]
      · simp only [List.contains_cons, List.contains_nil, Bool.or_false, Bool.or_eq_false_iff, beq_eq_false_iff_ne] at h1'
        simp only [List.contains_cons, List.contains_nil, Bool.or_false, Bool.or_eq_false_iff, beq_eq_false_iff_ne, ne_eq, Prod.mk.injEq] at h2'
        rw [if_neg hb, if_neg hb]
        by_cases h94 : b = 94
        · subst h94
          rw [if_pos rfl, pt_at, if_neg (fun z => h2'.2 ⟨rfl, z⟩), s2.2.2 94 j rfl (by simp only [List.contains_cons, List.contains_nil, Bool.or_false, beq_eq_false_iff_ne, ne_eq, Prod.mk.injEq]; intro z; exact h2'.1 ⟨rfl, z.2⟩), tpo _ _ _ hb]
        · rw [if_neg h94, s2.2.1 b (by simp only [List.contains_cons, List.contains_nil, Bool.or_false, beq_eq_false_iff_ne]; exact h1'.1) (by simp only [List.contains_cons, List.contains_nil, Bool.or_false, beq_eq_false_iff_ne]; exact h94), tpo _ _ _ hb]
  · rw [w_put_r, if_neg (by decide), w_put_r, if_neg (by decide), w_put_r, if_neg (by decide), s2.2.1 99 rfl rfl, tpo _ _ _ (by decide), c99]
  · obtain ⟨p1, p2, p3, p4, p5⟩ := s3
    refine ⟨?_, ?_, ?_, ?_, ?_⟩
    · simp only [w_put_r, reduceIte, Nat.reduceEqDiff, pt_at]
      exact p1
    · simp only [w_put_r, reduceIte, Nat.reduceEqDiff, pt_at]
      exact p2
    · simp only [w_put_r, reduceIte, Nat.reduceEqDiff, pt_at]
      exact p3
    · simp only [w_put_r, reduceIte, Nat.reduceEqDiff, pt_at]
      exact p4
    · simp only [w_put_r, reduceIte, Nat.reduceEqDiff, pt_at]
      omega
end
section
-- es
/-- the class's term behind its letter and sign -/
def Qtb (e : w_E) (N n : Nat) (x0 x3 y : Int) (S : w_S) : e_R := (if w_ib (S.1 94 6) 20 = true then (if y ≠ 4 then ((E_Question_readWords e N (w_put (w_put (w_put S 97 ((S.1 94 6).toNat) y) 98 ((S.1 94 6).toNat) (S.1 94 12)) 100 ((S.1 94 6).toNat) 0)).bind (fun q474 => (if w_ib (q474.2.1 94 6) 20 = true then (if w_nb ((q474.2.1 94 12) - (q474.2.1 98 ((q474.2.1 94 6).toNat))) = true then ((E_Question_addToProgram e N (q474.2.1 94 6) (w_put q474.2 99 ((q474.2.1 94 6).toNat) ((q474.2.1 94 12) - (q474.2.1 98 ((q474.2.1 94 6).toNat))))).bind (fun q489 => (if w_nb ((q489.2.1 94 6) + 1) = true then (Qcl e N n x0 x3 (w_put q489.2 94 6 ((q489.2.1 94 6) + 1))) else none))) else none) else none))) else ((E_Tape_takeNumber e N 1 80 (w_put (w_put (w_put S 97 ((S.1 94 6).toNat) y) 98 ((S.1 94 6).toNat) (S.1 94 12)) 100 ((S.1 94 6).toNat) 0)).bind (fun q510 => (if w_ib (q510.2.1 94 6) 20 = true then (if w_nb ((q510.2.1 94 12) - (q510.2.1 98 ((q510.2.1 94 6).toNat))) = true then ((E_Question_addToProgram e N (q510.2.1 94 6) (w_put (w_put q510.2 101 ((S.1 94 6).toNat) q510.1) 99 ((q510.2.1 94 6).toNat) ((q510.2.1 94 12) - (q510.2.1 98 ((q510.2.1 94 6).toNat))))).bind (fun q511 => (if w_nb ((q511.2.1 94 6) + 1) = true then (Qcl e N n x0 x3 (w_put q511.2 94 6 ((q511.2.1 94 6) + 1))) else none))) else none) else none)))) else none)
theorem qtm_step {e : w_E} {N n : Nat} {x0 x3 : Int} {S : w_S} : Qtm e N n x0 x3 S = (if (S.1 94 6) < 20 then ((E_Tape_takeWord_v5 e N S).bind (fun q468 => ((E_Tape_takeByte e N 61 q468.2).bind (fun q473 => Qtb e N n x0 x3 q468.1 q473.2)))) else ((E_Tape_stopHere e N S).bind (fun q525 => (Qcl e N n x0 x3 q525.2)))) := rfl
/-- the state in which a term's words or number are read -/
theorem c_t1 {T : w_S} {a w y : Int} {t wb : Nat} (h6 : T.1 94 6 = (t : Nat)) (h12 : T.1 94 12 = (wb : Nat)) : w_put (w_put (w_put (tp T a w) 97 (((tp T a w).1 94 6).toNat) y) 98 (((tp T a w).1 94 6).toNat) ((tp T a w).1 94 12)) 100 (((tp T a w).1 94 6).toNat) 0 = tp (w_put (w_put (w_put T 97 t y) 98 t (wb : Nat)) 100 t 0) a w := by
  rw [tpo T a w (show 94 ≠ 1 by decide), h6, h12, show (((t : Nat) : Int)).toNat = t by omega, tp_put _ _ _ _ (by decide), tp_put _ _ _ _ (by decide), tp_put _ _ _ _ (by decide)]
/-- what a term leaves in the class -/
def Ctm (T T' : w_S) (pr ws : List Int) (t wb wc' : Nat) (y : Int) : Prop := frm QSa [94] QSj T T' ∧ Tlow T T' t wb ∧ HC T' (pr ++ [((t : Nat) : Int)]) ws (t + 1) ∧ T'.1 94 12 = ((wc' : Nat) : Int) ∧ wb ≤ wc' ∧ wc' ≤ wb + 4 ∧ T'.1 97 t = y ∧ T'.1 98 t = (wb : Nat) ∧ T'.1 99 t = ((wc' - wb : Nat) : Int)
theorem Cwd.ctm {T T' T2 : w_S} {pr ws : List Int} {t wb wc' : Nat} {y : Int} (ht : t < 20) (h : Cwd (w_put (w_put (w_put T 97 t y) 98 t (wb : Nat)) 100 t 0) T' t wb wc') (f2 : frm [95, 99] [94] [(94, 3), (94, 6)] T' T2) (c99 : ∀ u, T2.1 99 u = if u = t then ((wc' - wb : Nat) : Int) else T'.1 99 u) (hc : HC T2 (pr ++ [((t : Nat) : Int)]) ws (t + 1)) : Ctm T T2 pr ws t wb wc' y := by
  obtain ⟨h1, h2, h3, h4, h5, h6⟩ := h
  have f1 : frm QSa [94] QSj T (w_put (w_put (w_put T 97 t y) 98 t (wb : Nat)) 100 t 0) := by repeat (first | exact frm.refl _ _ _ _ | refine frm.put ?_ rfl | refine frm.puto ?_ rfl rfl)
  refine ⟨f1.trans ((h1.wide (fun b h => ?_) (fun b h => h) (fun b j h => ?_)).trans (f2.wide (fun b h => ?_) (fun b h => h) (fun b j h => ?_))), ⟨fun u hu => ?_, fun u hu => ?_⟩, hc, ?_, h5, h6, ?_, ?_, ?_⟩
  · simp only [List.contains_cons, List.contains_nil, Bool.or_false, Bool.or_eq_false_iff] at h ⊢
    simp only [h, and_self]
  · simp only [List.contains_cons, List.contains_nil, Bool.or_false, Bool.or_eq_false_iff] at h ⊢
    simp only [h]
  · simp only [List.contains_cons, List.contains_nil, Bool.or_false, Bool.or_eq_false_iff] at h ⊢
    simp only [h, and_self]
  · simp only [List.contains_cons, List.contains_nil, Bool.or_false, Bool.or_eq_false_iff] at h ⊢
    simp only [h, and_self]
  · rw [f2.2.1 97 rfl rfl, f2.2.1 98 rfl rfl, f2.2.1 100 rfl rfl, f2.2.1 101 rfl rfl, h1.2.1 97 rfl rfl, h1.2.1 98 rfl rfl, h1.2.1 101 rfl rfl, h2 u hu, c99, if_neg (by omega), h1.2.1 99 rfl rfl]
    simp only [w_put_r, reduceIte, Nat.reduceEqDiff, pt_at]
    rw [if_neg (by omega), if_neg (by omega), if_neg (by omega)]
    exact ⟨rfl, rfl, trivial, rfl, trivial⟩
  · rw [f2.2.1 102 rfl rfl, h3 u hu]
    simp only [w_put_r, reduceIte, Nat.reduceEqDiff, pt_at]
  · rw [f2.2.2 94 12 rfl rfl, h4]
  · rw [f2.2.1 97 rfl rfl, h1.2.1 97 rfl rfl]
    simp only [w_put_r, reduceIte, Nat.reduceEqDiff, pt_at]
  · rw [f2.2.1 98 rfl rfl, h1.2.1 98 rfl rfl]
    simp only [w_put_r, reduceIte, Nat.reduceEqDiff, pt_at]
  · rw [c99, if_pos rfl]
theorem TX.cg {T T1 : w_S} {f len : Int} {G : Int → Int} (h : TX T f len G) (c1 : T1.1 1 = T.1 1) (c2 : T1.1 2 = T.1 2) : TX T1 f len G := by
  unfold TX at h ⊢
  rw [c1, c2]
  exact h
theorem TR.cg {R R1 : w_S} {len : Int} {G : Int → Int} (h : TR R len G) (c1 : R1.1 129 2 = R.1 129 2) (c2 : R1.1 130 = R.1 130) : TR R1 len G := by
  unfold TR at h ⊢
  rw [c1, c2]
  exact h
/-- a number's term, to the class -/
theorem c_num {e : w_E} {N n t wb : Nat} {x0 x3 a w q : Int} {T : w_S} {f len : Int} {G : Int → Int} {pr ws : List Int} {P : Int → w_S → Prop} (hN : 2001 ≤ N) (h : TX T f len G) (ha : At f len a w q) (hC : HC T pr ws t) (ht : t < 20) (hpr : pr.length < 40) (h12 : T.1 94 12 = (wb : Nat)) (hwb : wb ≤ 80) (K : ∀ T' a' w' z, At f len a' w' (pN G len 1 80 q) → Ctm T T' pr ws t wb wb 4 → (w' = -1 → T'.1 101 t = z ∧ z = vl G q (nd G (len - q).toNat q) ∧ 1 ≤ z ∧ z ≤ 80) → Ok (Qcl e N n x0 x3 (tp T' a' w')) P) : Ok (Qtb e N n x0 x3 4 (tp T a w)) P := by
  have h6 := hC.2.2.2.2
  unfold Qtb
  have e6 : (tp T a w).1 94 6 = (t : Nat) := by rw [tpo T a w (by decide)]; exact h6
  rw [c_t1 h6 h12]
  generalize hT1 : w_put (w_put (w_put T 97 t 4) 98 t (wb : Nat)) 100 t 0 = T1
  have cw : Cwd T1 T1 t wb wb := ⟨frm.refl _ _ _ _, fun _ _ => rfl, fun _ _ => rfl, by rw [← hT1]; simp only [w_put_r, reduceIte, Nat.reduceEqDiff, pt_at]; exact h12, by omega, by omega⟩
  have x1 : TX T1 f len G := by
    rw [← hT1]
    exact ((h.put (by decide) (by decide)).put (by decide) (by decide)).put (by decide) (by decide)
  have hc1 : HC T1 pr ws t := by
    rw [← hT1]
    refine hC.cg ?_ ?_ ?_ ?_ ?_ <;> simp only [w_put_r, reduceIte, Nat.reduceEqDiff, pt_at]
  have h98 : T1.1 98 t = (wb : Nat) := by
    rw [← hT1]
    simp only [w_put_r, reduceIte, Nat.reduceEqDiff, pt_at]
  rw [e6, show (((t : Nat) : Int)).toNat = t by omega]
  refine ok_ib (by omega) (ok_e (fun z => z rfl) (tk_b (x_takeNumber (e := e) hN x1 ha) (fun z a1 w1 h1 hz => ?_)))
  dsimp only
  have c2 : HC (w_put T1 101 t z) pr ws t := by
    refine hc1.cg ?_ ?_ ?_ ?_ ?_ <;> simp only [w_put_r, reduceIte, Nat.reduceEqDiff, pt_at]
  have fin := c_fin (e := e) (N := N) (n := n) (t := t) (wb := wb) (wc' := wb) (x0 := x0) (x3 := x3) (a := a1) (w := w1) (T' := w_put T1 101 t z) (pr := pr) (ws := ws) (P := P) ht hpr c2 (by simp only [w_put_r, reduceIte, Nat.reduceEqDiff, pt_at]; exact h98) (by simp only [w_put_r, reduceIte, Nat.reduceEqDiff, pt_at]; exact cw.2.2.2.1) ⟨by omega, hwb⟩ (fun T2 k1 k2 k3 => ?_)
  · rw [tpo T1 a1 w1 (show 94 ≠ 1 by decide), tpo T1 a1 w1 (show 98 ≠ 1 by decide), tp_put _ _ _ _ (by decide)]
    rw [tpo (w_put T1 101 t z) a1 w1 (show 94 ≠ 1 by decide), tpo (w_put T1 101 t z) a1 w1 (show 98 ≠ 1 by decide)] at fin
    simp only [w_put_r, reduceIte, Nat.reduceEqDiff, pt_at] at fin
    exact fin
  · refine K T2 a1 w1 z h1 ?_ (fun hw => ⟨?_, hz hw⟩)
    · have d4 : HC T2 (pr ++ [((t : Nat) : Int)]) ws (t + 1) := k3
      have f1 : frm QSa [94] QSj T (w_put T1 101 t z) := by
        rw [← hT1]
        repeat (first | exact frm.refl _ _ _ _ | refine frm.put ?_ rfl | refine frm.puto ?_ rfl rfl)
      refine ⟨f1.trans (k1.wide (fun b h => ?_) (fun b h => h) (fun b j h => ?_)), ⟨fun u hu => ?_, fun u hu => ?_⟩, k3, ?_, by omega, by omega, ?_, ?_, ?_⟩
      · simp only [List.contains_cons, List.contains_nil, Bool.or_false, Bool.or_eq_false_iff] at h ⊢
        simp only [h, and_self]
      · simp only [List.contains_cons, List.contains_nil, Bool.or_false, Bool.or_eq_false_iff] at h ⊢
        simp only [h, and_self]
      · rw [k1.2.1 97 rfl rfl, k1.2.1 98 rfl rfl, k1.2.1 100 rfl rfl, k1.2.1 101 rfl rfl, k2, if_neg (by omega), ← hT1]
        simp only [w_put_r, reduceIte, Nat.reduceEqDiff, pt_at]
        rw [if_neg (by omega), if_neg (by omega), if_neg (by omega), if_neg (by omega)]
        exact ⟨rfl, rfl, trivial, rfl, rfl⟩
      · rw [k1.2.1 102 rfl rfl, ← hT1]
        simp only [w_put_r, reduceIte, Nat.reduceEqDiff, pt_at]
      · rw [k1.2.2 94 12 rfl rfl, ← hT1]
        simp only [w_put_r, reduceIte, Nat.reduceEqDiff, pt_at]
        exact h12
      · rw [k1.2.1 97 rfl rfl, ← hT1]
        simp only [w_put_r, reduceIte, Nat.reduceEqDiff, pt_at]
      · rw [k1.2.1 98 rfl rfl, ← hT1]
        simp only [w_put_r, reduceIte, Nat.reduceEqDiff, pt_at]
      · rw [k2, if_pos rfl]
    · rw [k1.2.1 101 rfl rfl]
      simp only [w_put_r, reduceIte, Nat.reduceEqDiff, pt_at]
/-- a term with words that went wrong before, to the class -/
theorem c_bad {e : w_E} {N n t wb : Nat} {x0 x3 y a w q : Int} {T : w_S} {f len : Int} {G : Int → Int} {pr ws : List Int} {P : Int → w_S → Prop} (hN : 2001 ≤ N) (h : TX T f len G) (ha : At f len a w q) (hq : q < 0) (hC : HC T pr ws t) (ht : t < 20) (hpr : pr.length < 40) (h12 : T.1 94 12 = (wb : Nat)) (hwb : wb + 4 ≤ 80) (K : ∀ T' a' w' wc', At f len a' w' q → Ctm T T' pr ws t wb wc' y → Ok (Qcl e N n x0 x3 (tp T' a' w')) P) : Ok (Qtb e N n x0 x3 y (tp T a w)) P := by
  by_cases c : y = 4
  · subst c
    refine c_num hN h ha hC ht hpr h12 (by omega) (fun T' a' w' z k1 k2 _ => K T' a' w' wb ?_ k2)
    have : pN G len 1 80 q = q := by
      unfold pN
      rw [if_pos hq]
    rw [this] at k1
    exact k1
  · have h6 := hC.2.2.2.2
    unfold Qtb
    have e6 : (tp T a w).1 94 6 = (t : Nat) := by rw [tpo T a w (by decide)]; exact h6
    rw [c_t1 h6 h12]
    generalize hT1 : w_put (w_put (w_put T 97 t y) 98 t (wb : Nat)) 100 t 0 = T1
    have x1 : TX T1 f len G := by
      rw [← hT1]
      exact ((h.put (by decide) (by decide)).put (by decide) (by decide)).put (by decide) (by decide)
    have hc1 : HC T1 pr ws t := by
      rw [← hT1]
      refine hC.cg ?_ ?_ ?_ ?_ ?_ <;> simp only [w_put_r, reduceIte, Nat.reduceEqDiff, pt_at]
    have h98 : T1.1 98 t = (wb : Nat) := by
      rw [← hT1]
      simp only [w_put_r, reduceIte, Nat.reduceEqDiff, pt_at]
    have t12 : T1.1 94 12 = (wb : Nat) := by
      rw [← hT1]
      simp only [w_put_r, reduceIte, Nat.reduceEqDiff, pt_at]
      exact h12
    rw [e6, show (((t : Nat) : Int)).toNat = t by omega]
    refine ok_ib (by omega) (ok_t c (ok_b ?_))
    refine (c_word (e := e) (N := N) hN x1 ha hc1.2.2.2.2 ht t12 hwb (Or.inl hq)).mono ?_
    intro _ S1 ⟨T', a', w', z1, z2, z3, _⟩
    rw [pS_n hq, if_neg (fun z => by omega)] at z2
    subst z1
    have hc2 : HC T' pr ws t := hc1.cg (z3.1.2.2 94 3 rfl rfl) (z3.1.2.1 95 rfl rfl) (z3.1.2.2 94 5 rfl rfl) (z3.1.2.1 96 rfl rfl) (z3.1.2.2 94 6 rfl rfl)
    exact c_fin (wb := wb) (wc' := wb + 1) ht hpr hc2 (by rw [z3.1.2.1 98 rfl rfl]; exact h98) z3.2.2.2.1 ⟨by omega, by omega⟩ (fun T2 k1 k2 k3 => K T2 a' w' (wb + 1) z2 (by
      rw [← hT1] at z3
      exact z3.ctm ht k1 k2 k3))
end
section
-- et
theorem let_ok {G : Int → Int} {q : Int} (h : 0 ≤ q) : (∃ k : Int, 0 ≤ k ∧ k ≤ 4 ∧ G q = tcd k ∧ pK (wl 5) G q = q + 1 ∧ tkd G q = k) ∨ ((G q ≠ 116 ∧ G q ≠ 97 ∧ G q ≠ 115 ∧ G q ≠ 110 ∧ G q ≠ 104) ∧ pK (wl 5) G q = -1 - q) := by
  have w := (tq_word (G := G) (s := q) h).1
  by_cases a : G q = 116
  · have k : tkd G q = 0 := by simp [tkd, a]
    rw [k] at w
    exact Or.inl ⟨0, by decide, by decide, a, by rw [w, show tkw 0 = [116] from rfl, pL_y h a, pL], k⟩
  by_cases b : G q = 97
  · have k : tkd G q = 1 := by simp [tkd, b]
    rw [k] at w
    exact Or.inl ⟨1, by decide, by decide, b, by rw [w, show tkw 1 = [97] from rfl, pL_y h b, pL], k⟩
  by_cases c : G q = 115
  · have k : tkd G q = 2 := by simp [tkd, c]
    rw [k] at w
    exact Or.inl ⟨2, by decide, by decide, c, by rw [w, show tkw 2 = [115] from rfl, pL_y h c, pL], k⟩
  by_cases d : G q = 110
  · have k : tkd G q = 3 := by simp [tkd, d]
    rw [k] at w
    exact Or.inl ⟨3, by decide, by decide, d, by rw [w, show tkw 3 = [110] from rfl, pL_y h d, pL], k⟩
  have k : tkd G q = 4 := by simp [tkd, a, b, c, d]
  rw [k] at w
  by_cases g : G q = 104
  · exact Or.inl ⟨4, by decide, by decide, g, by rw [w, show tkw 4 = [104] from rfl, pL_y h g, pL], k⟩
  · exact Or.inr ⟨⟨a, b, c, d, g⟩, by rw [w, show tkw 4 = [104] from rfl, pL_n h g]⟩
/-- what comes of a term -/
def Otm (G : Int → Int) (len f : Int) (T' R1 : w_S) (pr ws : List Int) (t wb wc' t' : Nat) (pr' : List Int) (q' y' : Int) : Prop := (y' < 0 ∧ ((q' < 0 ∧ y' = q') ∨ (0 ≤ q' ∧ y' = -1 - q' ∧ cdb (G q') = true))) ∨ (0 ≤ y' ∧ y' = q' ∧ t < 20 ∧ pr' = pr ++ [((t : Nat) : Int)] ∧ t' = t + 1 ∧ wc' ≤ wb + 4 ∧ HR R1 (pr ++ [((t : Nat) : Int)]) ws (t + 1) ∧ ∃ d, vtm G len d ∧ TmC T' f t wc' d ∧ TmR R1 t d)
theorem Rlow.trans {R R1 R2 : w_S} {t : Nat} (h : Rlow R R1 t) (k : Rlow R1 R2 t) : Rlow R R2 t := ⟨fun u hu => ⟨(k.1 u hu).1.trans (h.1 u hu).1, (k.1 u hu).2.1.trans (h.1 u hu).2.1, (k.1 u hu).2.2.trans (h.1 u hu).2.2⟩, fun u hu => ⟨(k.2 u hu).1.trans (h.2 u hu).1, (k.2 u hu).2.trans (h.2 u hu).2⟩⟩
/-- a term with a number, to the reference -/
theorem r_num {e : w_E} {N t : Nat} {R : w_S} {len p : Int} {G : Int → Int} {pr ws : List Int} (hN : 2001 ≤ N) (hr : TR R len G) (hp : 0 ≤ p) (hl : p + 2 ≤ len) (ht : t < 20) (hR : HR R pr ws t) (hpr : pr.length < 40) : ∃ y' R1, Rtn e N p 104 R = some (y', R1) ∧ frm QRa [129] QRj R R1 ∧ Rlow R R1 t ∧ y' = pN G len 1 80 (p + 2) ∧ (0 ≤ y' → HR R1 (pr ++ [((t : Nat) : Int)]) ws (t + 1) ∧ R1.1 152 t = 104 ∧ R1.1 153 t = 3 ∧ R1.1 154 t = vl G (p + 2) (nd G (len - (p + 2)).toNat (p + 2))) := by
  have r40 := hR.2.2.2.2
  have hl2 := hr.2.2.1
  generalize hR0 : w_put (w_put R 152 t 104) 154 t 0 = R0
  have tr0 : TR R0 len G := by
    rw [← hR0]
    exact (hr.put (Or.inl (by decide)) (by decide)).put (Or.inl (by decide)) (by decide)
  have fr0 : frm QRa [129] QRj R R0 := by
    rw [← hR0]
    repeat (first | exact frm.refl _ _ _ _ | refine frm.put ?_ rfl | refine frm.puto ?_ rfl rfl)
  have lo0 : Rlow R R0 t := by
    rw [← hR0]
    refine ⟨fun u hu => ?_, fun u hu => ?_⟩
    · simp only [w_put_r, reduceIte, Nat.reduceEqDiff, pt_at]
      rw [if_neg (by omega), if_neg (by omega)]
      exact ⟨rfl, trivial, rfl⟩
    · simp only [w_put_r, reduceIte, Nat.reduceEqDiff, pt_at]
      exact ⟨trivial, trivial⟩
  have hr0 : HR R0 pr ws t := by
    rw [← hR0]
    refine hR.cg ?_ ?_ ?_ ?_ ?_ <;> simp only [w_put_r, reduceIte, Nat.reduceEqDiff, pt_at]
  have s152 : R0.1 152 t = 104 := by
    rw [← hR0]
    simp only [w_put_r, reduceIte, Nat.reduceEqDiff, pt_at]
  have nu := x_numeral (e := e) (N := N) (lo := 1) (hi := 80) hN tr0 (show 0 ≤ p + 2 by omega) hl
  have key : Ok (Rtn e N p 104 R) (fun y' R1 => frm QRa [129] QRj R R1 ∧ Rlow R R1 t ∧ y' = pN G len 1 80 (p + 2) ∧ (0 ≤ y' → HR R1 (pr ++ [((t : Nat) : Int)]) ws (t + 1) ∧ R1.1 152 t = 104 ∧ R1.1 153 t = 3 ∧ R1.1 154 t = vl G (p + 2) (nd G (len - (p + 2)).toNat (p + 2)))) := by
    unfold Rtn
    rw [r40, show (((t : Nat) : Int)).toNat = t by omega, hR0]
    refine ok_b (ok_of nu ?_)
    dsimp only
    by_cases c : 0 ≤ pN G len 1 80 (p + 2)
    · rw [if_pos c, if_pos c]
      generalize hv : vl G (p + 2) (nd G (len - (p + 2)).toNat (p + 2)) = v
      generalize hR2 : w_put R0 129 3 v = R2
      have f2 : frm QRa [129] QRj R0 R2 := by
        rw [← hR2]
        repeat (first | exact frm.refl _ _ _ _ | refine frm.put ?_ rfl | refine frm.puto ?_ rfl rfl)
      have h2 : HR R2 pr ws t := by
        rw [← hR2]
        refine hr0.cg ?_ ?_ ?_ ?_ ?_ <;> simp only [w_put_r, reduceIte, Nat.reduceEqDiff, pt_at]
      have c3 : R2.1 129 3 = v := by
        rw [← hR2]
        simp only [w_put_r, reduceIte, Nat.reduceEqDiff, pt_at]
      have l2 : Rlow R0 R2 t := by
        rw [← hR2]
        refine ⟨fun u hu => ?_, fun u hu => ?_⟩
        · simp only [w_put_r, reduceIte, Nat.reduceEqDiff, pt_at]
          exact ⟨trivial, trivial, trivial⟩
        · simp only [w_put_r, reduceIte, Nat.reduceEqDiff, pt_at]
          exact ⟨trivial, trivial⟩
      have c152 : R2.1 152 t = 104 := by
        rw [← hR2]
        simp only [w_put_r, reduceIte, Nat.reduceEqDiff, pt_at]
        exact s152
      clear hR2
      rw [h2.2.2.2.2, h2.1, show (((pr.length : Nat) : Int)).toNat = pr.length by omega, c3]
      refine ok_nb (by omega) (ok_ib (by omega) (ok_nb (by omega) (ok_s ⟨fr0.trans (f2.trans (by repeat (first | exact frm.refl _ _ _ _ | refine frm.put ?_ rfl | refine frm.puto ?_ rfl rfl))), lo0.trans (l2.trans ⟨fun u hu => ?_, fun u hu => ?_⟩), rfl, fun _ => ⟨?_, ?_, ?_, ?_⟩⟩)))
      · simp only [w_put_r, reduceIte, Nat.reduceEqDiff, pt_at]
        rw [if_neg (by omega), if_neg (by omega)]
        exact ⟨trivial, rfl, rfl⟩
      · simp only [w_put_r, reduceIte, Nat.reduceEqDiff, pt_at]
        exact ⟨trivial, trivial⟩
      · have h3 : HR (w_put (w_put R2 153 t 3) 154 t v) pr ws t := by
          refine h2.cg ?_ ?_ ?_ ?_ ?_ <;> simp only [w_put_r, reduceIte, Nat.reduceEqDiff, pt_at]
        obtain ⟨g1, g2, g3, g4, g5⟩ := h3.term (k := 3)
        simp only [w_put_r, reduceIte, Nat.reduceEqDiff, pt_at] at g1 g2 g3 g4 g5
        refine ⟨?_, ?_, ?_, ?_, ?_⟩
        · simp only [w_put_r, reduceIte, Nat.reduceEqDiff, pt_at]
          exact g1
        · simp only [w_put_r, reduceIte, Nat.reduceEqDiff, pt_at]
          exact g2
        · simp only [w_put_r, reduceIte, Nat.reduceEqDiff, pt_at]
          exact g3
        · simp only [w_put_r, reduceIte, Nat.reduceEqDiff, pt_at]
          exact g4
        · simp only [w_put_r, reduceIte, Nat.reduceEqDiff, pt_at]
          exact g5
      · simp only [w_put_r, reduceIte, Nat.reduceEqDiff, pt_at]
        exact c152
      · simp only [w_put_r, reduceIte, Nat.reduceEqDiff, pt_at]
      · simp only [w_put_r, reduceIte, Nat.reduceEqDiff, pt_at]
    · rw [if_neg c, if_neg c]
      refine ok_s ⟨fr0.trans (by repeat (first | exact frm.refl _ _ _ _ | refine frm.put ?_ rfl | refine frm.puto ?_ rfl rfl)), lo0.trans ⟨fun u hu => ?_, fun u hu => ?_⟩, rfl, fun w => absurd w c⟩
      · simp only [w_put_r, reduceIte, Nat.reduceEqDiff, pt_at]
        rw [if_neg (by omega), if_neg (by omega)]
        exact ⟨trivial, rfl, rfl⟩
      · simp only [w_put_r, reduceIte, Nat.reduceEqDiff, pt_at]
        exact ⟨trivial, trivial⟩
  obtain ⟨y', R1, k1, k2, k3, k4, k5⟩ := key
  exact ⟨y', R1, k1, k2, k3, k4, k5⟩
end
section
-- eu
/-- a term is read, in both -/
theorem x_term {e : w_E} {N n t wb : Nat} {x0 x3 q : Int} {T R : w_S} {f len : Int} {G : Int → Int} {pr ws : List Int} (hN : 2001 ≤ N) (h : TX T f len G) (hr : TR R len G) (hq : 0 ≤ q) (hl : q ≤ len) (hC : HC T pr ws t) (hR : HR R pr ws t) (hb : pr.length + opn ws = 2 * t) (ht : t ≤ 20) (h12 : T.1 94 12 = (wb : Nat)) (hwb : wb ≤ 4 * t) : ∃ y' R1, E_R_term e N q R = some (y', R1) ∧ frm QRa [129] QRj R R1 ∧ Rlow R R1 t ∧ ∀ {P : Int → w_S → Prop}, (∀ (T' : w_S) (a' w' q' : Int) (wc' t' : Nat) (pr' : List Int), At f len a' w' q' → frm QSa [94] QSj T T' → Tlow T T' t wb → HC T' pr' ws t' → pr'.length + opn ws ≤ 40 → T'.1 94 12 = ((wc' : Nat) : Int) → wb ≤ wc' → wc' ≤ 80 → Otm G len f T' R1 pr ws t wb wc' t' pr' q' y' → Ok (Qcl e N n x0 x3 (tp T' a' w')) P) → Ok (Qtm e N n x0 x3 (tp T (f + q) (-1))) P := by
  have ha : At f len (f + q) (-1) q := ⟨by omega, by omega, Or.inl ⟨rfl, rfl⟩⟩
  have hl2 := hr.2.2.1
  have h6 := hC.2.2.2.2
  have r40 := hR.2.2.2.2
  have ga := x_at (e := e) (N := N) hr hq
  have e6 : (tp T (f + q) (-1)).1 94 6 = (t : Nat) := by rw [tpo T _ _ (by decide)]; exact h6
  have tl0 : Tlow T T t wb := ⟨fun _ _ => ⟨rfl, rfl, rfl, rfl, rfl⟩, fun _ _ => rfl⟩
  have lk := let_ok (G := G) hq
  by_cases c20 : t = 20
  · -- too many terms
    refine ⟨-1 - q, R, ?_, frm.refl _ _ _ _, Rlow.refl _ _, ?_⟩
    · refine ok_eq ?_
      rw [rt_step]
      refine ok_b (ok_of ga ?_)
      dsimp only
      have full : ∀ c, Ok (Rth e N q c R) (fun y S1 => y = -1 - q ∧ S1 = R) := by
        intro c
        unfold Rth
        rw [r40, c20]
        exact ok_e (fun z => z rfl) (ok_nb (by omega) (ok_s ⟨rfl, rfl⟩))
      refine ok_if (fun _ => full _) (fun _ => ok_if (fun _ => full _) (fun _ => ok_if (fun _ => full _) (fun _ => ok_if (fun _ => full _) (fun _ => ok_if (fun _ => ok_nb (by omega) (ok_s ⟨rfl, rfl⟩)) (fun _ => ?_)))))
      rw [r40, c20]
      exact ok_e (fun z => z rfl) (ok_nb (by omega) (ok_s ⟨rfl, rfl⟩))
    · intro P K
      rw [qtm_step, e6]
      refine ok_e (by omega) (tk_b (x_stopHere (e := e) (N := N) h ha) (fun _ a1 w1 h1 _ => ?_))
      rw [if_neg (show ¬ q < 0 by omega)] at h1
      exact K T a1 w1 (-1 - q) wb t pr h1 (frm.refl _ _ _ _) tl0 hC (by omega) h12 (by omega) (by omega) (Or.inl ⟨by omega, Or.inl ⟨by omega, rfl⟩⟩)
  have ht2 : t < 20 := by omega
  have hpr : pr.length < 40 := by omega
  rcases lk with ⟨k, k1, k2, k3, k4, k5⟩ | ⟨⟨n1, n2, n3, n4, n5⟩, k4⟩
  rotate_left
  · -- no such letter
    refine ⟨-1 - q, R, ?_, frm.refl _ _ _ _, Rlow.refl _ _, ?_⟩
    · refine ok_eq ?_
      rw [rt_step]
      refine ok_b (ok_of ga ?_)
      dsimp only
      exact ok_e n1 (ok_e n2 (ok_e n3 (ok_e n4 (ok_t n5 (ok_nb (by omega) (ok_s ⟨rfl, rfl⟩))))))
    · intro P K
      rw [qtm_step, e6]
      refine ok_t (by omega) (tk_b (x_word5 (e := e) hN h ha) (fun y a1 w1 h1 _ => tk_b (x_takeByte (e := e) (N := N) (b := 61) h h1 (by decide)) (fun _ a2 w2 h2 _ => ?_)))
      rw [k4, pB_neg (by omega)] at h2
      refine c_bad hN h h2 (by omega) hC ht2 hpr h12 (by omega) (fun T' a' w' wc' z1 z2 => ?_)
      obtain ⟨d1, d2, d3, d4, d5, d6, _⟩ := z2
      exact K T' a' w' _ wc' (t + 1) _ z1 d1 d2 d3 (by rw [List.length_append, List.length_singleton]; omega) d4 d5 (by omega) (Or.inl ⟨by omega, Or.inl ⟨by omega, rfl⟩⟩)
  -- the letter is right
  have ql : q < len := by
    by_cases z : q < len
    · exact z
    · have g1 := (hr.2.2.2 q hq).2 (by omega)
      rw [g1] at k3
      unfold tcd at k3
      repeat (first | omega | split at k3)
  have ga1 := x_at (e := e) (N := N) (p := q + 1) hr (by omega)
  have tk := tq_word (G := G) (s := q) hq
  -- the reference behind the letter
  have rth : ∀ {P : Int → w_S → Prop}, Ok (if G (q + 1) = 61 then (if k = 4 then Rtn e N q 104 R else Rtw e N q (tcd k) R) else some (-1 - (q + 1), R)) P → Ok (E_R_term e N q R) P := by
    intro P w
    have body : ∀ c, c ≠ 104 → Ok (if G (q + 1) = 61 then Rtw e N q c R else some (-1 - (q + 1), R)) P → Ok (Rth e N q c R) P := by
      intro c hc w
      unfold Rth
      rw [r40]
      refine ok_t (by omega) (ok_nb (by omega) (ok_b (ok_of ga1 ?_)))
      dsimp only
      rw [r40]
      by_cases d : G (q + 1) = 61
      · rw [if_pos d] at w ⊢
        exact ok_nb (by omega) (ok_ib (by omega) (ok_t hc w))
      · rw [if_neg d] at w ⊢
        exact ok_nb (by omega) w
    rw [rt_step]
    refine ok_b (ok_of ga ?_)
    dsimp only
    rw [k3]
    rcases (show k = 0 ∨ k = 1 ∨ k = 2 ∨ k = 3 ∨ k = 4 by omega) with rfl | rfl | rfl | rfl | rfl
    · exact ok_t rfl (body _ (by decide) w)
    · exact ok_e (by decide) (ok_t rfl (body _ (by decide) w))
    · exact ok_e (by decide) (ok_e (by decide) (ok_t rfl (body _ (by decide) w)))
    · exact ok_e (by decide) (ok_e (by decide) (ok_e (by decide) (ok_t rfl (body _ (by decide) w))))
    · refine ok_e (by decide) (ok_e (by decide) (ok_e (by decide) (ok_e (by decide) (ok_e (by decide) ?_))))
      rw [r40]
      refine ok_t (by omega) (ok_nb (by omega) (ok_b (ok_of ga1 ?_)))
      dsimp only
      rw [r40]
      by_cases d : G (q + 1) = 61
      · rw [if_pos d] at w ⊢
        exact ok_nb (by omega) (ok_ib (by omega) w)
      · rw [if_neg d] at w ⊢
        exact ok_nb (by omega) w
  -- the class behind the letter
  have cth : ∀ {P : Int → w_S → Prop}, (∀ a2 w2, At f len a2 w2 (if G (q + 1) = 61 then q + 1 + 1 else -1 - (q + 1)) → ∀ y, (0 ≤ (if G (q + 1) = 61 then q + 1 + 1 else -1 - (q + 1)) → y = k) → Ok (Qtb e N n x0 x3 y (tp T a2 w2)) P) → Ok (Qtm e N n x0 x3 (tp T (f + q) (-1))) P := by
    intro P w
    rw [qtm_step, e6]
    refine ok_t (by omega) (tk_b (x_word5 (e := e) hN h ha) (fun y a1 w1 h1 hy => tk_b (x_takeByte (e := e) (N := N) (b := 61) h h1 (by decide)) (fun _ a2 w2 h2 _ => ?_)))
    rw [k4, pB_0 (by omega)] at h2
    refine w a2 w2 h2 y (fun _ => ?_)
    rw [k4] at h1
    have := (hy (h1.right.1 (by omega)).1).1
    rw [this, tk.2 (by rw [k4]; omega), k5]
  by_cases c61 : G (q + 1) = 61
  rotate_left
  · -- no sign
    refine ⟨-1 - (q + 1), R, ok_eq (rth (by rw [if_neg c61]; exact ok_s ⟨rfl, rfl⟩)), frm.refl _ _ _ _, Rlow.refl _ _, fun {P} K => cth (fun a2 w2 h2 y _ => ?_)⟩
    rw [if_neg c61] at h2
    refine c_bad hN h h2 (by omega) hC ht2 hpr h12 (by omega) (fun T' a' w' wc' z1 z2 => ?_)
    obtain ⟨d1, d2, d3, d4, d5, d6, _⟩ := z2
    exact K T' a' w' _ wc' (t + 1) _ z1 d1 d2 d3 (by rw [List.length_append, List.length_singleton]; omega) d4 d5 (by omega) (Or.inl ⟨by omega, Or.inl ⟨by omega, rfl⟩⟩)
  rw [if_pos c61] at rth cth
  have ql2 : q + 1 < len := by
    by_cases z : q + 1 < len
    · exact z
    · have g1 := (hr.2.2.2 (q + 1) (by omega)).2 (by omega)
      omega
  rw [show q + 1 + 1 = q + 2 by omega] at cth
  by_cases c4 : k = 4
  · -- a heading's number
    subst c4
    rw [if_pos rfl] at rth
    obtain ⟨y', R1, m1, m2, m3, m4, m5⟩ := r_num (e := e) (N := N) (t := t) (pr := pr) (ws := ws) hN hr hq (by omega) ht2 hR hpr
    refine ⟨y', R1, ?_, m2, m3, fun {P} K => cth (fun a2 w2 h2 y hy => ?_)⟩
    · obtain ⟨v, S1, w1, w2, w3⟩ := rth (P := fun v S1 => v = y' ∧ S1 = R1) (ok_of m1 ⟨rfl, rfl⟩)
      rw [w1, w2, w3]
    · have hy4 := hy (by omega)
      subst hy4
      refine c_num hN h h2 hC ht2 hpr h12 (by omega) (fun T' a' w' z z1 z2 z3 => ?_)
      rw [← m4] at z1
      obtain ⟨d1, d2, d3, d4, d5, d6, d7, d8, d9⟩ := z2
      refine K T' a' w' y' wb (t + 1) _ z1 d1 d2 d3 (by rw [List.length_append, List.length_singleton]; omega) d4 d5 (by omega) ?_
      by_cases c0 : y' < 0
      · exact Or.inl ⟨c0, Or.inl ⟨c0, rfl⟩⟩
      · obtain ⟨v1, v2, v3, v4⟩ := m5 (by omega)
        obtain ⟨u1, u2, u3, u4⟩ := z3 (z1.right.1 (by omega)).1
        exact Or.inr ⟨by omega, rfl, ht2, rfl, rfl, by omega, v1, (4, z, false, []), ⟨by show (0 : Int) ≤ 4; decide, by show (4 : Int) ≤ 4; decide, fun _ => ⟨u3, u4⟩, fun w => absurd rfl w, Nat.zero_le 4⟩, ⟨d7, fun _ => u1, fun w => absurd rfl w⟩, ⟨v2, fun _ => ⟨v3, by rw [v4, u2]⟩, fun w => absurd rfl w⟩⟩
  · -- words
    rw [if_neg c4] at rth
    have h6' : (w_put (w_put (w_put T 97 t k) 98 t (wb : Nat)) 100 t 0).1 94 6 = (t : Nat) := by
      simp only [w_put_r, reduceIte, Nat.reduceEqDiff, pt_at]
      exact h6
    generalize hT1 : w_put (w_put (w_put T 97 t k) 98 t (wb : Nat)) 100 t 0 = T1 at h6'
    have x1 : TX T1 f len G := by
      rw [← hT1]
      exact ((h.put (by decide) (by decide)).put (by decide) (by decide)).put (by decide) (by decide)
    have hc1 : HC T1 pr ws t := by
      rw [← hT1]
      refine hC.cg ?_ ?_ ?_ ?_ ?_ <;> simp only [w_put_r, reduceIte, Nat.reduceEqDiff, pt_at]
    have h98 : T1.1 98 t = (wb : Nat) := by
      rw [← hT1]
      simp only [w_put_r, reduceIte, Nat.reduceEqDiff, pt_at]
    have t12 : T1.1 94 12 = (wb : Nat) := by
      rw [← hT1]
      simp only [w_put_r, reduceIte, Nat.reduceEqDiff, pt_at]
      exact h12
    have t100 : T1.1 100 t = 0 := by
      rw [← hT1]
      simp only [w_put_r, reduceIte, Nat.reduceEqDiff, pt_at]
    obtain ⟨v, S1, w1, T', a', w', q', wc', z1, z2, z3, y', R1, r1, r2, r3, r4⟩ := x_words (e := e) (N := N) (c := tcd k) (p := q) hN x1 hr hq (by omega) h6' ht2 t12 t100 (by omega) hR hpr
    refine ⟨y', R1, ?_, r2, r3, fun {P} K => cth (fun a2 w2 h2 y hy => ?_)⟩
    · obtain ⟨v2, S2, u1, u2, u3⟩ := rth (P := fun v S1 => v = y' ∧ S1 = R1) (ok_of r1 ⟨rfl, rfl⟩)
      rw [u1, u2, u3]
    · have hyk := hy (by omega)
      subst hyk
      obtain ⟨b1, b2, _⟩ := h2.right.1 (by omega)
      subst b1 b2
      have e62 : (tp T (f + (q + 2)) (-1)).1 94 6 = (t : Nat) := by rw [tpo T _ _ (by decide)]; exact h6
      unfold Qtb
      rw [c_t1 h6 h12, hT1, e62, show (((t : Nat) : Int)).toNat = t by omega]
      refine ok_ib (by omega) (ok_t c4 (ok_b (ok_of w1 ?_)))
      subst z1
      dsimp only
      have hc2 : HC T' pr ws t := hc1.cg (z3.1.2.2 94 3 rfl rfl) (z3.1.2.1 95 rfl rfl) (z3.1.2.2 94 5 rfl rfl) (z3.1.2.1 96 rfl rfl) (z3.1.2.2 94 6 rfl rfl)
      have z35 := z3.2.2.2.2.1
      have z36 := z3.2.2.2.2.2
      refine c_fin (wb := wb) (wc' := wc') ht2 hpr hc2 (by rw [z3.1.2.1 98 rfl rfl]; exact h98) z3.2.2.2.1 ⟨by omega, by omega⟩ (fun T2 g1 g2 g3 => ?_)
      have z3' := z3
      rw [← hT1] at z3'
      obtain ⟨d1, d2, d3, d4, d5, d6, d7, d8, d9⟩ := z3'.ctm (pr := pr) (ws := ws) ht2 g1 g2 g3
      refine K T2 a' w' q' wc' (t + 1) _ z2 d1 d2 d3 (by rw [List.length_append, List.length_singleton]; omega) d4 d5 (by omega) ?_
      rcases r4 with r4 | ⟨s1, s2, s3, l, pre, l1, l2, l3, l4, l5, l6, l7, l8, l9, l10, l11⟩
      · exact Or.inl r4
      · refine Or.inr ⟨s1, s2, ht2, rfl, rfl, d6, s3, (y, 0, pre, l), ⟨k1, k2, fun w => absurd w c4, fun _ => ⟨l2, l3, l11⟩, l3⟩, ⟨d7, fun w => absurd w c4, fun _ => ⟨wb, d8, by show wb + l.length ≤ wc'; omega, ?_, ?_, ?_⟩⟩, ⟨l6, fun w => absurd w c4, fun _ => ⟨l7, l8, l9, l10⟩⟩⟩
        · rw [d9]
          show ((wc' - wb : Nat) : Int) = ((l.length : Nat) : Int)
          omega
        · rw [g1.2.1 100 rfl rfl]
          exact l5
        · intro i hi
          rw [g1.2.1 102 rfl rfl]
          exact l4 i hi
end
section
-- ev
theorem stl_cons {b : Bool} {pr ws : List Int} {x : Int} : stl b pr (x :: ws) = if x = -4 ∨ (b = true ∧ x ≠ -1) then (pr, x :: ws) else stl b (pr ++ [x]) ws := rfl
/-- a frame that leaves the tape's place alone, between states with other places -/
theorem tp_frm {L O : List Nat} {J : List (Nat × Nat)} {T S1 : w_S} {a w : Int} (h : frm L O J (tp T a w) S1) : frm L O J T (tp S1 (T.1 1 4) (T.1 1 6)) := by
  refine ⟨?_, fun b h1 h2 => ?_, fun b j h1 h2 => ?_⟩
  · show S1.2 = T.2
    rw [h.1]
    rfl
  · by_cases hb : b = 1
    · subst hb
      funext j
      have e1 := congrFun (h.2.1 1 h1 h2) j
      unfold tp at e1 ⊢
      rw [w_put_r, w_put_r, if_pos rfl, if_pos rfl, pt_at, pt_at] at e1 ⊢
      by_cases j6 : j = 6
      · rw [if_pos j6, j6]
      · rw [if_neg j6] at e1 ⊢
        by_cases j4 : j = 4
        · rw [if_pos j4, j4]
        · rw [if_neg j4] at e1 ⊢
          exact e1
    · rw [tpo _ _ _ hb, h.2.1 b h1 h2, tpo _ _ _ hb]
  · by_cases hb : b = 1
    · subst hb
      have e1 := h.2.2 1 j h1 h2
      unfold tp at e1 ⊢
      rw [w_put_r, w_put_r, if_pos rfl, if_pos rfl, pt_at, pt_at] at e1 ⊢
      by_cases j6 : j = 6
      · rw [if_pos j6, j6]
      · rw [if_neg j6] at e1 ⊢
        by_cases j4 : j = 4
        · rw [if_pos j4, j4]
        · rw [if_neg j4] at e1 ⊢
          exact e1
    · rw [tpo _ _ _ hb, h.2.2 b j h1 h2, tpo _ _ _ hb]
/-- how high the pile stands behind a program's steps, if it never wants -/
def hst (o : Option Nat) (x : Int) : Option Nat := o.bind (fun h => if 0 ≤ x then some (h + 1) else if 2 ≤ h then some (h - 1) else none)
def hg (pr : List Int) : Option Nat := pr.foldl hst (some 0)
theorem hg_snoc (pr : List Int) (x : Int) : hg (pr ++ [x]) = hst (hg pr) x := by
  unfold hg
  rw [List.foldl_append]
  rfl
/-- the program and what waits, while a question is read: du = 0 where a term is due, 1 behind one -/
def QV (pr ws : List Int) (nt du : Nat) : Prop := hg pr = some (opn ws + du) ∧ (∀ x, x ∈ pr → -3 ≤ x ∧ x < (nt : Nat)) ∧ (∀ x, x ∈ ws → -4 ≤ x ∧ x ≤ -1) ∧ pr.length + opn ws + du = 2 * nt
theorem QV.stl (b : Bool) {nt : Nat} : ∀ {ws pr : List Int}, QV pr ws nt 1 → QV (stl b pr ws).1 (stl b pr ws).2 nt 1
  | [], _, h => h
  | x :: ws, pr, h => by
    rw [stl_cons]
    split
    · exact h
    · next c =>
      have hx : ¬ x = -4 := fun z => c (Or.inl z)
      obtain ⟨h1, h2, h3, h4⟩ := h
      have h3x := h3 x List.mem_cons_self
      rw [opn, if_neg hx] at h1 h4
      refine QV.stl b ⟨?_, fun y hy => ?_, fun y hy => h3 y (List.mem_cons_of_mem _ hy), ?_⟩
      · rw [hg_snoc, h1]
        unfold hst
        rw [Option.bind_some, if_neg (by omega), if_pos (by omega)]
        congr 1
        omega
      · rcases List.mem_append.1 hy with hy | hy
        · exact h2 y hy
        · rw [List.mem_singleton.1 hy]
          omega
      · rw [List.length_append, List.length_singleton]
        omega
theorem QV.push {pr ws : List Int} {nt : Nat} {o : Int} (h : QV pr ws nt 1) (ho : -3 ≤ o ∧ o ≤ -1) : QV pr (o :: ws) nt 0 := by
  obtain ⟨h1, h2, h3, h4⟩ := h
  have e1 : opn (o :: ws) = 1 + opn ws := by
    rw [opn, if_neg (by omega)]
  refine ⟨by rw [h1, e1]; congr 1; omega, h2, fun x hx => ?_, by rw [e1]; omega⟩
  rcases List.mem_cons.1 hx with hx | hx
  · rw [hx]
    omega
  · exact h3 x hx
theorem QV.opb {pr ws : List Int} {nt : Nat} (h : QV pr ws nt 0) : QV pr (-4 :: ws) nt 0 := by
  obtain ⟨h1, h2, h3, h4⟩ := h
  have e1 : opn (-4 :: ws) = opn ws := by
    rw [opn, if_pos rfl, Nat.zero_add]
  refine ⟨by rw [h1, e1], h2, fun x hx => ?_, by rw [e1]; omega⟩
  rcases List.mem_cons.1 hx with hx | hx
  · rw [hx]
    omega
  · exact h3 x hx
theorem QV.tail {pr ws : List Int} {nt : Nat} (h : QV pr (-4 :: ws) nt 1) : QV pr ws nt 1 := by
  obtain ⟨h1, h2, h3, h4⟩ := h
  have e1 : opn (-4 :: ws) = opn ws := by
    rw [opn, if_pos rfl, Nat.zero_add]
  rw [e1] at h1 h4
  exact ⟨h1, h2, fun x hx => h3 x (List.mem_cons_of_mem _ hx), h4⟩
theorem QV.term {pr ws : List Int} {nt : Nat} (h : QV pr ws nt 0) : QV (pr ++ [((nt : Nat) : Int)]) ws (nt + 1) 1 := by
  obtain ⟨h1, h2, h3, h4⟩ := h
  refine ⟨?_, fun x hx => ?_, h3, ?_⟩
  · rw [hg_snoc, h1]
    unfold hst
    rw [Option.bind_some, if_pos (by omega)]
  · rcases List.mem_append.1 hx with hx | hx
    · have := h2 x hx
      omega
    · rw [List.mem_singleton.1 hx]
      omega
  · rw [List.length_append, List.length_singleton]
    omega
/-- the class's question ends -/
theorem x_qend {e : w_E} {N nt : Nat} {T : w_S} {f len a w q d : Int} {G : Int → Int} {pr ws : List Int} (hN : 100 ≤ N) (h : TX T f len G) (ha : At f len a w q) (hC : HC T pr ws nt) (h1 : pr.length + opn ws ≤ 40) (h2 : ws.length ≤ 48) : Ok (Qend e N d (tp T a w)) (fun _ S1 => ∃ T' a' w', S1 = tp T' a' w' ∧ At f len a' w' (if 0 < d ∧ 0 ≤ q then -1 - q else q) ∧ frm QSa [94] QSj T T' ∧ HC T' (stl false pr ws).1 (stl false pr ws).2 nt ∧ frm [95] [94] [(94, 3), (94, 5)] T T') := by
  have st : ∀ (a' w' : Int), At f len a' w' (if 0 < d ∧ 0 ≤ q then -1 - q else q) → Ok ((E_Question_settleWaiting e N 0 (tp T a' w')).bind (fun q454 => some (0, q454.2))) (fun _ S1 => ∃ T' a' w', S1 = tp T' a' w' ∧ At f len a' w' (if 0 < d ∧ 0 ≤ q then -1 - q else q) ∧ frm QSa [94] QSj T T' ∧ HC T' (stl false pr ws).1 (stl false pr ws).2 nt ∧ frm [95] [94] [(94, 3), (94, 5)] T T') := by
    intro a' w' ha'
    obtain ⟨S1, s1, s2, s3⟩ := x_settle (e := e) (N := N) (b := false) hN (hC.tpp (a := a') (w := w')) h1 h2
    refine ok_b (ok_of s1 (ok_s ?_))
    have e4 : S1.1 1 4 = a' := by rw [s2.2.1 1 rfl rfl, tp4]
    have e6 : S1.1 1 6 = w' := by rw [s2.2.1 1 rfl rfl, tp6]
    refine ⟨tp S1 (T.1 1 4) (T.1 1 6), a', w', ?_, ha', ?_, ?_, tp_frm s2⟩
    · rw [tp_tp, ← e4, ← e6]
      exact (tp_id S1).symm
    · have f1 : frm QSa [94] QSj (tp T a' w') S1 := s2.wide (fun b h => by
        simp only [List.contains_cons, List.contains_nil, Bool.or_false, Bool.or_eq_false_iff] at h ⊢
        exact h.1) (fun b h => h) (fun b j h => by
        simp only [List.contains_cons, List.contains_nil, Bool.or_false, Bool.or_eq_false_iff] at h ⊢
        exact ⟨h.1, h.2.1⟩)
      exact tp_frm f1
    · exact s3.tpp
  unfold Qend
  by_cases c : d ≤ 0
  · refine ok_t c (st a w ?_)
    rw [if_neg (fun z => by omega)]
    exact ha
  · refine ok_e c (tk_b (x_stopHere (e := e) (N := N) h ha) (fun _ a1 w1 k1 _ => st a1 w1 ?_))
    by_cases c2 : q < 0
    · rw [if_pos c2] at k1
      rw [if_neg (fun z => by omega)]
      exact k1
    · rw [if_neg c2] at k1
      rw [if_pos ⟨by omega, by omega⟩]
      exact k1
end
section
-- ew
/-- what a question that is over leaves in the class: where it stands -/
def Cend (T : w_S) (f len q : Int) (S1 : w_S) : Prop := ∃ T' a' w', S1 = tp T' a' w' ∧ At f len a' w' q ∧ frm QSa [94] QSj T T'
theorem qq_over {e : w_E} {N n : Nat} {x1 x3 : Int} {S : w_S} : El_Question_readQuestion e N (n + 1) 0 [x1, 0, x3] [] S = Qend e N x1 S := by
  rw [qt_step]
  by_cases c : 20 < x3
  · rw [if_pos c]
  · rw [if_neg c, if_pos rfl]
/-- behind a term no bracket closes and nothing joins: the question is over -/
theorem d_qcl {e : w_E} {N n nt : Nat} {T : w_S} {f len a w q d x3 : Int} {G : Int → Int} {pr ws : List Int} (hN : 100 ≤ N) (hx : -1 ≤ x3 ∧ x3 ≤ 1000) (h : TX T f len G) (ha : At f len a w q) (hC : HC T pr ws nt) (h1 : pr.length + opn ws ≤ 40) (h2 : ws.length ≤ 48) (hc : q < 0 ∨ (G q ≠ 41 ∧ G q ≠ 32)) : Ok (Qcl e N (n + 1) d x3 (tp T a w)) (fun _ S1 => ∃ T' a' w', S1 = tp T' a' w' ∧ At f len a' w' (if 0 < d ∧ 0 ≤ q then -1 - q else q) ∧ frm QSa [94] QSj T T' ∧ HC T' (stl false pr ws).1 (stl false pr ws).2 nt ∧ frm [95] [94] [(94, 3), (94, 5)] T T') := by
  have pk := x_peek (e := e) (N := N) h ha
  have p41 : (if q < 0 then (-1 : Int) else G q) ≠ 41 := by
    rcases hc with hc | hc
    · rw [if_pos hc]
      decide
    · by_cases z : q < 0
      · rw [if_pos z]
        decide
      · rw [if_neg z]
        exact hc.1
  have p32 : (if q < 0 then (-1 : Int) else G q) ≠ 32 := by
    rcases hc with hc | hc
    · rw [if_pos hc]
      decide
    · by_cases z : q < 0
      · rw [if_pos z]
        decide
      · rw [if_neg z]
        exact hc.2
  have cb : E_Question_closeBrackets e N d (tp T a w) = some (d, tp T a w) := by
    refine ok_eq ?_
    unfold E_Question_closeBrackets
    obtain ⟨m, hm⟩ : ∃ m, N = m + 1 := ⟨N - 1, by omega⟩
    rw [show El_Question_closeBrackets e N N = El_Question_closeBrackets e N (m + 1) by rw [← hm], El_Question_closeBrackets]
    by_cases c : d ≤ 0
    · exact ok_t c (ok_s ⟨rfl, rfl⟩)
    · exact ok_e c (ok_b (ok_of pk (ok_t p41 (ok_s ⟨rfl, rfl⟩))))
  unfold Qcl
  refine ok_b (ok_of cb (ok_b (ok_of pk ?_)))
  dsimp only
  refine ok_t p32 (ok_nb (by omega) ?_)
  rw [qq_over]
  exact x_qend hN h ha hC h1 h2
/-- a question that went wrong before a term -/
theorem d_head {e : w_E} {N n t wb : Nat} {T : w_S} {f len a w q d x3 : Int} {G : Int → Int} {pr ws : List Int} (hN : 2001 ≤ N) (hx : 0 ≤ x3 ∧ x3 ≤ 900) (h : TX T f len G) (ha : At f len a w q) (hq : q < 0) (hC : HC T pr ws t) (h1 : pr.length + opn ws = 2 * t) (ht : t ≤ 20) (h2 : ws.length ≤ 48) (h12 : T.1 94 12 = (wb : Nat)) (hwb : wb ≤ 4 * t) : Ok (El_Question_readQuestion e N (n + 1 + 1) 0 [d, 1, x3] [] (tp T a w)) (fun _ S1 => Cend T f len q S1) := by
  have pk := x_peek (e := e) (N := N) h ha
  rw [if_pos hq] at pk
  have h6 := hC.2.2.2.2
  have ob : E_Question_openBrackets e N d (tp T a w) = some (d, tp T a w) := by
    refine ok_eq ?_
    unfold E_Question_openBrackets
    obtain ⟨m, hm⟩ : ∃ m, N = m + 1 := ⟨N - 1, by omega⟩
    rw [show El_Question_openBrackets e N N = El_Question_openBrackets e N (m + 1) by rw [← hm], El_Question_openBrackets]
    by_cases c : 8 ≤ d
    · exact ok_t c (ok_s ⟨rfl, rfl⟩)
    · exact ok_e c (ok_b (ok_of pk (ok_t (by dsimp only; decide) (ok_s ⟨rfl, rfl⟩))))
  have fin : ∀ {T' : w_S} {pr' : List Int} {t' : Nat} {a' w' : Int}, At f len a' w' q → TX T' f len G → frm QSa [94] QSj T T' → HC T' pr' ws t' → pr'.length + opn ws ≤ 40 → Ok (Qcl e N (n + 1) d x3 (tp T' a' w')) (fun _ S1 => Cend T f len q S1) := by
    intro T' pr' t' a' w' k1 k2 k3 k4 k5
    refine (d_qcl (e := e) (N := N) (n := n) (d := d) (by omega) (by omega) k2 k1 k4 k5 h2 (Or.inl hq)).mono ?_
    intro _ S1 ⟨T2, a2, w2, z1, z2, z3, _⟩
    rw [if_neg (fun z => by omega)] at z2
    exact ⟨T2, a2, w2, z1, z2, k3.trans z3⟩
  rw [qt_step]
  by_cases c : 20 < x3
  · rw [if_pos c]
    refine (x_qend (e := e) (N := N) (d := d) (by omega) h ha hC (by omega) h2).mono ?_
    intro _ S1 ⟨T2, a2, w2, z1, z2, z3, _⟩
    rw [if_neg (fun z => by omega)] at z2
    exact ⟨T2, a2, w2, z1, z2, z3⟩
  rw [if_neg c, if_neg (by decide)]
  refine ok_b (ok_of ob ?_)
  dsimp only
  have e6 : (tp T a w).1 94 6 = (t : Nat) := by rw [tpo T _ _ (by decide)]; exact h6
  rw [qtm_step, e6]
  by_cases c2 : t = 20
  · refine ok_e (by omega) (tk_b (x_stopHere (e := e) (N := N) h ha) (fun _ a1 w1 k1 _ => ?_))
    rw [if_pos hq] at k1
    exact fin k1 h (frm.refl _ _ _ _) hC (by omega)
  · refine ok_t (by omega) (tk_b (x_word5 (e := e) hN h ha) (fun y a1 w1 k1 _ => tk_b (x_takeByte (e := e) (N := N) (b := 61) h k1 (by decide)) (fun _ a2 w2 k2 _ => ?_)))
    have pk5 : pK (wl 5) G q = q := by
      unfold pK
      rw [if_pos hq]
    rw [pk5, pB_neg hq] at k2
    refine c_bad hN h k2 hq hC (by omega) (by omega) h12 (by omega) (fun T' a' w' wc' z1 z2 => ?_)
    obtain ⟨d1, d2, d3, d4, d5, d6, _⟩ := z2
    exact fin z1 (h.cg (d1.2.1 1 rfl rfl) (d1.2.1 2 rfl rfl)) d1 d3 (by rw [List.length_append, List.length_singleton]; omega)
/-- brackets begin, in both -/
theorem l_qop {e : w_E} {N nt : Nat} {f len en : Int} {G : Int → Int} {pr : List Int} (hN : 100 ≤ N) : ∀ (k d nf nr : Nat) (T R : w_S) (q : Int) (ws : List Int), d + k = 8 → k < nf → k < nr → TX T f len G → TR R len G → 0 ≤ q → q ≤ len → HC T pr ws nt → HR R pr ws nt → brk ws = d → QV pr ws nt 0 → nt ≤ 20 → ∃ (d' : Nat) (T' : w_S) (q' : Int) (ws' : List Int), El_Question_openBrackets e N nf 0 [(d : Int)] [] (tp T (f + q) (-1)) = some ((d' : Int), tp T' (f + q') (-1)) ∧ frm [96] [94] [(94, 5)] T T' ∧ HC T' pr ws' nt ∧ 0 ≤ q' ∧ q' ≤ len ∧ d' ≤ 8 ∧ brk ws' = d' ∧ QV pr ws' nt 0 ∧ (d' = 8 ∨ G q' ≠ 40) ∧ ∀ {P : Int → w_S → Prop}, (∀ R' n', nr ≤ n' + k → frm QRa [129] QRj R R' → (∀ a, 152 ≤ a → a ≤ 156 → R'.1 a = R.1 a) → HR R' pr ws' nt → Ok (El_R_question e N n' 0 [en, (d' : Int), q', 1] [] R') P) → Ok (El_R_question e N nr 0 [en, (d : Int), q, 1] [] R) P
  | _, _, 0, _, _, _, _, _, _, h, _, _, _, _, _, _, _, _, _, _ => by omega
  | _, _, _ + 1, 0, _, _, _, _, _, _, h, _, _, _, _, _, _, _, _, _ => by omega
  | 0, d, nf + 1, nr + 1, T, R, q, ws, g1, g2, g3, g4, g5, g6, g7, g8, g9, g10, g11, g12 => by
    refine ⟨d, T, q, ws, ?_, frm.refl _ _ _ _, g8, g6, g7, by omega, g10, g11, Or.inl (by omega), fun {P} K => K R (nr + 1) (by omega) (frm.refl _ _ _ _) (fun _ _ _ => rfl) g9⟩
    refine ok_eq ?_
    rw [El_Question_openBrackets]
    exact ok_t (by omega) (ok_s ⟨rfl, rfl⟩)
  | k + 1, d, nf + 1, nr + 1, T, R, q, ws, g1, g2, g3, g4, g5, g6, g7, g8, g9, g10, g11, g12 => by
    have ha : At f len (f + q) (-1) q := ⟨by omega, by omega, Or.inl ⟨rfl, rfl⟩⟩
    have pk := x_peek (e := e) (N := N) g4 ha
    rw [if_neg (show ¬ q < 0 by omega)] at pk
    have hl2 := g5.2.2.1
    by_cases c : G q = 40
    rotate_left
    · refine ⟨d, T, q, ws, ?_, frm.refl _ _ _ _, g8, g6, g7, by omega, g10, g11, Or.inr c, fun {P} K => K R (nr + 1) (by omega) (frm.refl _ _ _ _) (fun _ _ _ => rfl) g9⟩
      refine ok_eq ?_
      rw [El_Question_openBrackets]
      exact ok_e (by omega) (ok_b (ok_of pk (ok_t c (ok_s ⟨rfl, rfl⟩))))
    have ql : q < len := by
      by_cases z : q < len
      · exact z
      · have := (g5.2.2.2 q g6).2 (by omega)
        omega
    have wl1 := ws_len ws
    have g114 := g11.2.2.2
    -- the class's bracket
    obtain ⟨_, S0, t1, a1, w1, t2, t3, _⟩ := x_takeByte (e := e) (N := N) (b := 40) g4 ha (by decide)
    rw [pB_0 g6, if_pos c] at t3
    obtain ⟨w1e, a1e, _⟩ := t3.right.1 (by omega)
    subst w1e a1e
    subst t2
    obtain ⟨S1, s1, s2, s3⟩ := x_pushW (e := e) (N := N) (x := -4) (g8.tpp (a := f + (q + 1)) (w := -1)) (by omega)
    have sid : S1 = tp (tp S1 (T.1 1 4) (T.1 1 6)) (f + (q + 1)) (-1) := by
      have e4 : S1.1 1 4 = f + (q + 1) := by rw [s2.2.1 1 rfl rfl, tp4]
      have e6 : S1.1 1 6 = -1 := by rw [s2.2.1 1 rfl rfl, tp6]
      rw [tp_tp, ← e4, ← e6]
      exact (tp_id S1).symm
    have f1 := tp_frm s2
    have hc1 : HC (tp S1 (T.1 1 4) (T.1 1 6)) pr (-4 :: ws) nt := s3.tpp
    generalize tp S1 (T.1 1 4) (T.1 1 6) = T1 at sid f1 hc1
    subst sid
    have x1 : TX T1 f len G := g4.cg (f1.2.1 1 rfl rfl) (f1.2.1 2 rfl rfl)
    -- the reference's
    have hp := g9.push (x := -4)
    have ga := x_at (e := e) (N := N) g5 g6
    generalize hR1 : w_put (w_put R 158 ws.length (-4)) 129 48 ((ws.length : Nat) + 1) = R1 at hp
    have tr1 : TR R1 len G := by
      rw [← hR1]
      exact g5.cg (by simp only [w_put_r, reduceIte, Nat.reduceEqDiff, pt_at]) (by simp only [w_put_r, reduceIte, Nat.reduceEqDiff, pt_at])
    have fr1 : frm QRa [129] QRj R R1 := by
      rw [← hR1]
      repeat (first | exact frm.refl _ _ _ _ | refine frm.put ?_ rfl | refine frm.puto ?_ rfl rfl)
    have lo1 : ∀ a, 152 ≤ a → a ≤ 156 → R1.1 a = R.1 a := fun a k1 k2 => by
      rw [← hR1, w_put_r, if_neg (by omega), w_put_r, if_neg (by omega)]
    have b1 : brk (-4 :: ws) = d + 1 := by
      rw [brk, if_pos rfl]
      omega
    obtain ⟨d', T', q', ws', r1, r2, r3, r4, r5, r6, r7, r8, r9, r10⟩ := l_qop (e := e) (N := N) (en := en) hN k (d + 1) nf nr T1 R1 (q + 1) (-4 :: ws) (by omega) (by omega) (by omega) x1 tr1 (by omega) (by omega) hc1 hp b1 g11.opb g12
    refine ⟨d', T', q', ws', ?_, f1.trans r2, r3, r4, r5, r6, r7, r8, r9, fun {P} K => ?_⟩
    · refine ok_eq ?_
      rw [El_Question_openBrackets]
      refine ok_e (by omega) (ok_b (ok_of pk (ok_e (fun z => z c) (ok_b (ok_of t1 (ok_b (ok_of s1 (ok_nb (by omega) ?_))))))))
      rw [show (d : Int) + 1 = ((d + 1 : Nat) : Int) by omega]
      exact ok_of r1 ⟨rfl, rfl⟩
    · rw [rq_step]
      refine ok_t (by decide) (ok_b (ok_of ga ?_))
      dsimp only
      rw [g9.2.2.1, show (((ws.length : Nat) : Int)).toNat = ws.length by omega, hR1]
      refine ok_e (fun z => z c) (ok_t (by omega) (ok_nb (by omega) (ok_ib (by omega) (ok_nb (by omega) (ok_nb (by omega) ?_)))))
      rw [show (d : Int) + 1 = ((d + 1 : Nat) : Int) by omega]
      exact r10 (fun R' n' k1 k2 k3 k4 => K R' n' (by omega) (fr1.trans k2) (fun a z1 z2 => by rw [k3 a z1 z2, lo1 a z1 z2]) k4)
end
