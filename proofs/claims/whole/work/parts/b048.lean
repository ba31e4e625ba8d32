section
-- gk
abbrev BCa : List Nat := [36, 38, 39, 40, 42, 43, 44, 95, 96, 97, 98, 99, 100, 101, 102]
abbrev BCj : List (Nat × Nat) := [(1, 4), (1, 6), (37, 0), (94, 3), (94, 5), (94, 6), (94, 12)]
abbrev BRa : List Nat := [152, 153, 154, 155, 156, 157, 158, 193]
abbrev BRj : List (Nat × Nat) := [(129, 3), (129, 4), (129, 40), (129, 46), (129, 48), (129, 97)]
abbrev BDa : List Nat := [4, 6, 8, 9, 10, 11, 12, 13, 14, 15, 16, 34, 36, 38, 39, 40, 42, 43, 44, 95, 96, 97, 98, 99, 100, 101, 102, 103, 104, 105, 108, 109, 110, 111, 121, 122, 123, 124, 125, 126, 127]
abbrev BDj : List (Nat × Nat) := [(1, 4), (1, 6), (3, 5), (35, 4), (37, 0), (94, 3), (94, 5), (94, 6), (94, 12), (94, 15), (106, 4), (106, 8), (120, 0)]
abbrev BEa : List Nat := [150, 152, 153, 154, 155, 156, 157, 158, 159, 160, 161, 162, 193]
abbrev BEj : List (Nat × Nat) := [(129, 3), (129, 37), (129, 40), (129, 46), (129, 48), (129, 51), (129, 55), (129, 56), (129, 57), (129, 58), (129, 97), (129, 102)]
theorem mp_get {G : Int → Int} {q0 : Int} {d j : Nat} (h : j < d) : ((List.range d).map (fun j => bsp G (qf (stq G) q0 j))).getD j bs0 = bsp G (qf (stq G) q0 j) := by
  rw [List.getD_eq_getElem?_getD, List.getElem?_map, List.getElem?_range h]
  rfl
theorem BsC.cg2 {g g' : Nat → Int} {T T' : w_S} {t2 : Nat → Int} {top : Int} {i : Nat} {s : Bst} (h : BsC g T t2 top i s) (hg : ∀ u, u < 4 * i + 4 → g' u = g u) (c : ∀ a, 37 ≤ a → a ≤ 44 → T'.1 a = T.1 a) : BsC g' T' t2 top i s := by
  obtain ⟨a1, a2, a3, a4⟩ := h
  refine ⟨by rw [hg _ (by omega)]; exact a1, fun z => by rw [hg _ (by omega)]; exact a2 z, fun z => by rw [hg _ (by omega), hg _ (by omega), hg _ (by omega)]; exact a3 z, fun z => ?_⟩
  obtain ⟨F, b1, b2, b3, b4⟩ := a4 z
  refine ⟨F, by rw [hg _ (by omega)]; exact b1, by rw [c 37 (by omega) (by omega)]; exact b2, b3, ?_⟩
  unfold DrF1 at b4 ⊢
  rw [c 38 (by omega) (by omega), c 39 (by omega) (by omega), c 40 (by omega) (by omega), c 42 (by omega) (by omega), c 43 (by omega) (by omega), c 44 (by omega) (by omega)]
  exact b4
abbrev BPa : List Nat := [34, 36, 38, 39, 40, 42, 43, 44, 95, 96, 97, 98, 99, 100, 101, 102, 103, 104, 105, 108, 109, 110, 121, 122, 123, 124, 125, 126, 127]
abbrev BPj : List (Nat × Nat) := [(1, 4), (1, 6), (35, 4), (37, 0), (94, 3), (94, 5), (94, 6), (94, 12), (94, 15), (106, 4), (106, 8), (120, 0)]
/-- batch, as both do it -/
theorem t_batch {e : w_E} {N : Nat} {S R : w_S} {f len top : Int} {G : Int → Int} {ta L E V n : Nat} (hN : 16000000 ≤ N) (h : TX S f len G) (hr : TR R len G) (h4 : S.1 1 4 = f) (h6 : S.1 1 6 = -1) (hb : ∀ p : Nat, (p : Int) < len → -128 ≤ R.1 130 p ∧ R.1 130 p ≤ 127) (hC : RelCk S R) (hst : S.1 27 2 = 0 ∨ S.1 27 2 = 1) (h96 : R.1 129 96 = S.1 27 2) (h12 : R.1 129 12 = S.1 27 1) (hd0 : 0 ≤ S.1 27 1) (hs : ∀ j, -128 ≤ S.1 2 j ∧ S.1 2 j ≤ 127) (hw : RelWk R) (hv : RelVr S R top ta L E V n) (hk : RelLk S R) (hn : RelNm S R top) (hAb : RelAb S R) (hG : RelG S R) (ht : top ≤ f + len) (b0 : 0 ≤ R.1 129 159) (b1 : R.1 129 159 ≤ (V : Int)) (hnx : R.2.2.2.1 + 150 < 899000) : Ok (E_C_runBatch e N S) (fun y S1 => Ok (E_R_doBatch e N R) (fun y' R1 => y' = y ∧ ((y < 0 ∧ frm BCa [1, 37, 94] BCj S S1 ∧ frm BRa [129] BRj R R1 ∧ R1.1 129 4 = 1) ∨ (0 ≤ y ∧ frm BDa [1, 3, 35, 37, 94, 106, 120] BDj S S1 ∧ (∃ Rm, frm BEa [129] BEj R Rm ∧ frb Rm R1) ∧ RelFn S1 R1 ∧ S1.1 106 8 = S1.1 106 4 ∧ R1.1 129 102 = 1 ∧ R1.1 129 58 = 0 ∧ (∀ j : Nat, (j : Int) < S1.1 106 4 → R1.1 196 j = S1.1 111 j) ∧ R1.2.2.2.1 ≤ R.2.2.2.1 + 150 ∧ (∃ ta' L' E' V', RelVr S1 R1 (f + len) ta' L' E' V' n ∧ ((V' : Int) = V + y ∧ R1.2.2.2.1 + V ≤ R.2.2.2.1 + V' ∧ ∀ v : Nat, V ≤ v → v < V' → R1.1 136 v = R1.1 237 ((R.1 129 159).toNat + (v - V))) ∧ 0 ≤ R1.1 129 159 ∧ R1.1 129 159 ≤ (V' : Int)) ∧ RelWk R1 ∧ (∀ u : Nat, R.1 135 u = S.1 6 u → R1.1 135 u = S1.1 6 u) ∧ R1.1 129 159 = R.1 129 159 + y ∧ ∀ u : Nat, (u : Int) < R.1 129 159 → R1.1 237 u = R.1 237 u)))) := by
  have f0 := h.2.2.1
  have l0 := h.2.2.2.1
  have lb := h.2.2.2.2.1
  have fl := h.2.2.2.2.2.1
  have n150 := hv.2.2.2.2.2.2.2.1
  unfold E_C_runBatch E_R_doBatch E_R_batchText
  have e0 : S = tp S f (-1) := by
    have k := tp_self S
    rw [h4, h6] at k
    exact k.symm
  have hq := x_ques (e := e) (N := N) (en := 10) (by omega) (Or.inr rfl) h hr
  rw [← e0] at hq
  obtain ⟨v1, S1, hv1, y', R1, hy, T', a', w', q', z1, z2, z3, z4, z5, z6⟩ := hq
  have jm : Jm f len G S := ⟨S, f, -1, 0, e0, h, ⟨by omega, by omega, Or.inl ⟨rfl, by omega⟩⟩, by unfold Bd; omega⟩
  have wl : w' ≤ len := by
    obtain ⟨T2, a2, w2, q2, j1, j2, j3, j4⟩ := pj_q (e := e) (N := N) (by omega) jm v1 S1 hv1
    have k1 : S1.1 1 6 = w' := by rw [z1]; rfl
    have k2 : S1.1 1 6 = w2 := by rw [j1]; rfl
    unfold At at j3
    unfold Bd at j4
    omega
  have bq : Bd len q' := by
    unfold At at z2
    unfold Bd
    omega
  refine ok_b (ok_of hv1 ?_)
  dsimp only
  rw [z1]
  have X' : TX T' f len G := h.cg (z3.2.1 1 rfl rfl) (z3.2.1 2 rfl rfl)
  have Y' : TR R1 len G := hr.cg (z4.2.2 129 2 rfl rfl) (z4.2.1 130 rfl rfl)
  refine ok_b ((x_takeByte (e := e) (N := N) (b := 10) X' z2 (by decide)).mono ?_)
  intro _ S2 ⟨a, w, u1, u2, _⟩
  dsimp only
  rw [u1]
  have bp : Bd len (pB G 10 q') := pB_bd h.e (by decide) bq
  refine ok_b ((x_steps (e := e) (N := N) (by omega) X' u2 bp).mono ?_)
  intro y S3 fl3
  dsimp only
  obtain ⟨T3, a3, w3, t1, t2⟩ := fl3
  -- what the reference reads
  have yq : (0 ≤ y' → pB G 10 q' = y' + 1 ∧ y' + 1 ≤ len) ∧ (y' < 0 → pB G 10 q' = y') := by
    rw [z5]
    unfold Bd at bq
    by_cases c : q' < 0
    · have : pB G 10 q' = q' := pB_neg c
      rw [this, if_neg (by omega)]
      exact ⟨fun z => by omega, fun _ => rfl⟩
    · by_cases c2 : G q' = 10
      · have e1 : pB G 10 q' = q' + 1 := by
          unfold pB
          rw [if_neg c, if_pos c2]
        rw [e1, if_neg (fun z => z.2 c2)]
        refine ⟨fun _ => ⟨rfl, ?_⟩, fun z => by omega⟩
        rcases Int.lt_or_le q' len with d | d
        · omega
        · have := h.e q' d
          omega
      · have e1 : pB G 10 q' = -1 - q' := by
          unfold pB
          rw [if_neg c, if_neg c2]
        rw [e1, if_pos ⟨by omega, c2⟩]
        exact ⟨fun z => by omega, fun _ => rfl⟩
  generalize hp : pB G 10 q' = p at *
  have hbt : ∃ (yb : Int) (R2 : w_S), (E_R_question e N 10 R).bind (fun q942 => (if 0 ≤ q942.1 then (if w_nb (q942.1 + 1) = true then El_R_batchText e N N 0 [q942.1 + 1] [] (w_put q942.2 129 97 0) else none) else some (q942.1, q942.2))) = some (yb, R2) ∧ frm BRa [129] BRj R R2 ∧ frm [193] [129] [(129, 3), (129, 97)] R1 R2 ∧ ((if p < 0 then p else rdl (stq G) len 8 0 p) < 0 → yb = (if p < 0 then p else rdl (stq G) len 8 0 p)) ∧ (0 ≤ (if p < 0 then p else rdl (stq G) len 8 0 p) → 0 ≤ yb ∧ 0 ≤ p ∧ 0 ≤ y' ∧ R2.1 129 97 = rdl (stq G) len 8 0 p ∧ ∀ j : Nat, (j : Int) < rdl (stq G) len 8 0 p → BrC (R2.1 193) G j (qf (stq G) p j)) := by
    rw [hy]
    by_cases c : 0 ≤ y'
    · obtain ⟨q1, q2⟩ := yq.1 c
      have f97 : frm [193] [129] [(129, 3), (129, 97)] R1 (w_put R1 129 97 0) := by repeat (first | exact frm.refl _ _ _ _ | refine frm.put ?_ rfl | refine frm.puto ?_ rfl rfl)
      have lb2 := l_btx (e := e) (N := N) (len := len) (q0 := p) (G := G) (by omega) 8 0 N (w_put R1 129 97 0) p (by omega) (by omega) (Y'.cg rfl rfl) (by omega) (by omega) (by simp only [w_put_r, reduceIte, Nat.reduceEqDiff, pt_at]; rfl) rfl (fun j hj => by omega)
      obtain ⟨yb, R2, hb2, g1, g2, g3⟩ := lb2
      have fr2 := f97.trans g1
      refine ⟨yb, R2, ?_, (z4.weak (by decide)).trans (fr2.weak (by decide)), fr2, ?_, ?_⟩
      · show (if 0 ≤ y' then (if w_nb (y' + 1) = true then El_R_batchText e N N 0 [y' + 1] [] (w_put R1 129 97 0) else none) else some (y', R1)) = _
        rw [if_pos c, if_pos (by rw [w_nbE]; omega), ← q1]
        exact hb2
      · rw [if_neg (by omega)]
        exact g2
      · rw [if_neg (by omega)]
        intro z
        exact ⟨(g3 z).1, by omega, c, (g3 z).2⟩
    · have q1 := yq.2 (by omega)
      refine ⟨y', R1, ?_, z4.weak (by decide), frm.refl _ _ _ _, ?_, ?_⟩
      · show (if 0 ≤ y' then (if w_nb (y' + 1) = true then El_R_batchText e N N 0 [y' + 1] [] (w_put R1 129 97 0) else none) else some (y', R1)) = _
        rw [if_neg c]
      · rw [if_pos (by omega)]
        intro _
        omega
      · rw [if_pos (by omega)]
        intro z
        omega
  obtain ⟨yb, R2, hbt1, fR2, fR12, hneg, hpos⟩ := hbt
  have db : -1 - len ≤ (if p < 0 then p else rdl (stq G) len 8 0 p) := by
    unfold Bd at bp
    split
    · omega
    · rename_i c
      exact rdl_bd l0 (fun q hq => stq_bd h.e hq) 8 0 p (by omega) (by omega)
  have fT3 : frm BCa [1, 37, 94] BCj S (tp T3 a3 w3) := ((z3.weak (by decide)).trans (t1.weak (by decide))).trans (frm.weak (L := []) (O := [1]) (J := [(1, 4), (1, 6)]) (by unfold tp; repeat (first | exact frm.refl _ _ _ _ | refine frm.put ?_ rfl | refine frm.puto ?_ rfl rfl)) (by decide))
  by_cases cd : 0 ≤ (if p < 0 then p else rdl (stq G) len 8 0 p)
  rotate_left
  · -- a wrong text
    rw [if_neg cd] at t2
    obtain ⟨y1, s1⟩ := t2
    refine ok_e (by omega) (ok_s ?_)
    refine ok_b (ok_of hbt1 ?_)
    have ye := hneg (by omega)
    refine ok_e (by dsimp only; omega) (ok_nb (by dsimp only; omega) (ok_s ⟨by dsimp only; omega, Or.inl ⟨by omega, by rw [s1]; exact fT3, ?_, by simp only [w_put_r, reduceIte, Nat.reduceEqDiff, pt_at]⟩⟩))
    exact fR2.trans (by repeat (first | exact frm.refl _ _ _ _ | refine frm.put ?_ rfl | refine frm.puto ?_ rfl rfl))
  obtain ⟨yb0, p0, y0, r97, brc⟩ := hpos cd
  rw [if_neg (show ¬ p < 0 by omega)] at cd t2 db hneg
  rw [if_pos cd] at t2
  obtain ⟨t3, t4, t5, t6, t7, t8⟩ := t2
  have pl : p ≤ len := by
    unfold Bd at bp
    omega
  generalize hd : rdl (stq G) len 8 0 p = d at *
  obtain ⟨dn, hdn⟩ : ∃ k : Nat, d = (k : Int) := ⟨d.toNat, by omega⟩
  have qin : ∀ j : Nat, j < dn → 0 ≤ qf (stq G) p j ∧ qf (stq G) p j ≤ len ∧ 0 ≤ stq G (qf (stq G) p j) := fun j hj => rdl_in (fun q a b => by have := stq_bd h.e (show Bd len q from ⟨by omega, b⟩); unfold Bd at this; omega) 8 0 p p0 pl rfl (by rw [hd]; exact cd) j (by omega) (by rw [hd]; omega)
  -- the steps
  have ssl : ((List.range dn).map (fun j => bsp G (qf (stq G) p j))).length = dn := by rw [List.length_map, List.length_range]
  have ssv : ∀ s, s ∈ (List.range dn).map (fun j => bsp G (qf (stq G) p j)) → vbs s := fun s hs' => by
    obtain ⟨j, j1, j2⟩ := List.mem_map.1 hs'
    rw [← j2]
    have := qin j (List.mem_range.1 j1)
    exact bsp_v this.1 this.2.2
  have ssg : ∀ j, j < dn → ((List.range dn).map (fun j => bsp G (qf (stq G) p j))).getD j bs0 = bsp G (qf (stq G) p j) := fun j hj => mp_get hj
  generalize (List.range dn).map (fun j => bsp G (qf (stq G) p j)) = ss at ssl ssv ssg
  have T3S : frm [36, 38, 39, 40, 42, 43, 44, 95, 96, 97, 98, 99, 100, 101, 102] [37, 94] [(37, 0), (94, 3), (94, 5), (94, 6), (94, 12)] S T3 := (z3.weak (by decide)).trans (t1.weak (by decide))
  have t6' := t6
  rw [w_cpy_arr] at t6'
  have fS3 : frm BPa [1, 35, 37, 94, 106, 120] BPj S S3 := by
    refine (T3S.weak (by decide)).trans ?_
    rw [t6']
    unfold tp
    repeat (first | exact frm.refl _ _ _ _ | refine frm.put ?_ rfl | refine frm.puto ?_ rfl rfl | refine frm.arr ?_ rfl)
  have c34 : ∀ j, j < 4 * dn → S3.1 34 j = T3.1 36 j := fun j hj => by
    rw [t6']
    show (if 0 ≤ j ∧ j < 0 + 4 * d.toNat then T3.1 36 (0 + (j - 0)) else T3.1 34 j) = _
    rw [if_pos (by omega), show 0 + (j - 0) = j by omega]
  have c3x : ∀ a, a ≠ 1 → a ≠ 34 → a ≠ 35 → S3.1 a = T3.1 a := fun a n1 n2 n3 => by
    rw [t6', w_put_f n3, w_arr_r, if_neg n2, tpo T3 a3 (-1) n1]
  have fR2' : frm [152, 153, 154, 155, 156, 157, 158, 193] [129] [(129, 3), (129, 40), (129, 46), (129, 48), (129, 97)] R R2 := (z4.weak (by decide)).trans (fR12.weak (by decide))
  have TX3 : TX S3 f len G := by
    have x1 : TX T3 f len G := X'.cg (t1.2.1 1 rfl rfl) (t1.2.1 2 rfl rfl)
    rw [t6']
    exact ((x1.tp).arr (by decide) (by decide)).put (by decide) (by decide)
  have TR2 : TR R2 len G := hr.cg (fR2'.2.2 129 2 rfl rfl) (fR2'.2.1 130 rfl rfl)
  have hQ : Qry S3 R2 f len G := by
    refine ⟨(z6 y0).cg (fun c c1 c2 => ?_) ?_ (fun c c1 c2 => ?_) ⟨fR12.2.2 129 46 rfl rfl, fR12.2.2 129 48 rfl rfl, fR12.2.2 129 40 rfl rfl⟩, TX3, TR2, fun q hq => by rw [fR2'.2.1 130 rfl rfl]; exact hb q hq⟩
    · rw [c3x c (by omega) (by omega) (by omega), t1.2.1 c (by
        simp only [List.contains_cons, List.contains_nil, Bool.or_false, Bool.or_eq_false_iff, beq_eq_false_iff_ne, ne_eq]
        omega) (by
        simp only [List.contains_cons, List.contains_nil, Bool.or_false, beq_eq_false_iff_ne, ne_eq]
        omega)]
    · rw [c3x 94 (by decide) (by decide) (by decide), t1.2.1 94 rfl rfl]
    · rw [fR12.2.1 c (by
        simp only [List.contains_cons, List.contains_nil, Bool.or_false, beq_eq_false_iff_ne, ne_eq]
        omega) (by
        simp only [List.contains_cons, List.contains_nil, Bool.or_false, beq_eq_false_iff_ne, ne_eq]
        omega)]
  have ca3 : ∀ c, 2 ≤ c ∧ c ≤ 33 → S3.1 c = S.1 c := fun c hc => fS3.2.1 c (by
    simp only [List.contains_cons, List.contains_nil, Bool.or_false, Bool.or_eq_false_iff, beq_eq_false_iff_ne, ne_eq]
    omega) (by
    simp only [List.contains_cons, List.contains_nil, Bool.or_false, Bool.or_eq_false_iff, beq_eq_false_iff_ne, ne_eq]
    omega)
  have ra2 : ∀ c, ((133 ≤ c ∧ c ≤ 151) ∨ (163 ≤ c ∧ c ≤ 192) ∨ 194 ≤ c) → R2.1 c = R.1 c := fun c hc => fR2'.2.1 c (by
    simp only [List.contains_cons, List.contains_nil, Bool.or_false, Bool.or_eq_false_iff, beq_eq_false_iff_ne, ne_eq]
    omega) (by
    simp only [List.contains_cons, List.contains_nil, Bool.or_false, beq_eq_false_iff_ne, ne_eq]
    omega)
  have hS : SrR S3 R2 f len G top ta L E V n := by
    refine ⟨hQ, hv.fr (fun a ha => ca3 a (by omega)) (by rw [ca3 3 (by omega)]) (by rw [ca3 3 (by omega)]) (by rw [ca3 27 (by omega)]; exact Int.le_refl _) (fun a ha => ra2 a (by omega)) (fR2'.2.2 129 13 rfl rfl) (fR2'.2.2 129 17 rfl rfl) (fR2'.2.2 129 23 rfl rfl) fR2'.1, hk.fr fS3 fR2' (by decide), hn.fr fS3 fR2' (by decide), hAb.fr fS3 fR2' (by decide), hG.fr fS3 fR2' (by decide), ?_⟩
    rw [fR2'.2.2 129 12 rfl rfl, ca3 27 (by omega)]
    exact h12
  refine ok_t (by omega) (ok_b ?_)
  refine (x_search (e := e) hN (by omega) hS).mono ?_
  intro _ S4 ⟨y4, R4, hy4, L', m1, m2, m3, m4, m5, m6, m7⟩
  dsimp only
  have fS4 : frm BPa [1, 35, 37, 94, 106, 120] BPj S S4 := fS3.trans (m6.weak (by decide))
  generalize hR5 : w_put R4 129 102 1 = R5
  have fR5 : frm BEa [129] BEj R R5 := ((fR2'.weak (by decide)).trans (m7.weak (by decide))).trans (by rw [← hR5]; repeat (first | exact frm.refl _ _ _ _ | refine frm.put ?_ rfl | refine frm.puto ?_ rfl rfl))
  have ca4 : ∀ c, 2 ≤ c ∧ c ≤ 33 → S4.1 c = S.1 c := fun c hc => fS4.2.1 c (by
    simp only [List.contains_cons, List.contains_nil, Bool.or_false, Bool.or_eq_false_iff, beq_eq_false_iff_ne, ne_eq]
    omega) (by
    simp only [List.contains_cons, List.contains_nil, Bool.or_false, Bool.or_eq_false_iff, beq_eq_false_iff_ne, ne_eq]
    omega)
  have ra5 : ∀ c, ((130 ≤ c ∧ c ≤ 149) ∨ (163 ≤ c ∧ c ≤ 192) ∨ 194 ≤ c) → R5.1 c = R.1 c := fun c hc => fR5.2.1 c (by
    simp only [List.contains_cons, List.contains_nil, Bool.or_false, Bool.or_eq_false_iff, beq_eq_false_iff_ne, ne_eq]
    omega) (by
    simp only [List.contains_cons, List.contains_nil, Bool.or_false, beq_eq_false_iff_ne, ne_eq]
    omega)
  have r193 : R5.1 193 = R2.1 193 := by
    rw [← hR5]
    show R4.1 193 = _
    rw [m7.2.1 193 rfl rfl]
  have s34 : S4.1 34 = S3.1 34 := m6.2.1 34 rfl rfl
  have c44 : ∀ a, 37 ≤ a → a ≤ 44 → S4.1 a = T3.1 a := fun a a1 a2 => by
    rw [m6.2.1 a (by
      simp only [List.contains_cons, List.contains_nil, Bool.or_false, Bool.or_eq_false_iff, beq_eq_false_iff_ne, ne_eq]
      omega) (by
      simp only [List.contains_cons, List.contains_nil, Bool.or_false, Bool.or_eq_false_iff, beq_eq_false_iff_ne, ne_eq]
      omega), c3x a (by omega) (by omega) (by omega)]
  have hF4 : RelFn S4 R5 := by
    have hh : RelFn S4 R4 := m2.rel (by omega) (fun u hu => by
      rw [ca4 3 (by omega), hv.2.2.2.2.2.1]
      have := m3.2 u hu
      omega)
    exact hh.cg rfl rfl rfl (by rw [← hR5]; rfl) (by rw [← hR5]; rfl)
  obtain ⟨wa, oa, hwk⟩ := hw.wrk
  have hB : BtR S4 R5 ss (f + len) ta L E V n wa oa := by
    refine ⟨(hv.up ht).fr (fun a ha => ca4 a (by omega)) (by rw [ca4 3 (by omega)]) (by rw [ca4 3 (by omega)]) (by rw [ca4 27 (by omega)]; exact Int.le_refl _) (fun a ha => ra5 a (by omega)) (fR5.2.2 129 13 rfl rfl) (fR5.2.2 129 17 rfl rfl) (fR5.2.2 129 23 rfl rfl) fR5.1, hC.fr fS4 fR5 (by decide), by rw [ca4 27 (by omega)]; exact hst, by rw [fR5.2.2 129 96 rfl rfl, ca4 27 (by omega)]; exact h96, by rw [fR5.2.2 129 12 rfl rfl, ca4 27 (by omega)]; exact h12, by rw [ca4 27 (by omega)]; exact hd0, by rw [ca4 2 (by omega)]; exact hs, hwk.cg fR5.1, ?_, ?_, by omega, by rw [c44 37 (by omega) (by omega)]; exact t7, ssv, fun j hj => ?_, fun j hj => ?_, by rw [fR5.2.2 129 159 rfl rfl]; exact b0, by rw [fR5.2.2 129 159 rfl rfl]; exact b1⟩
    · rw [m6.2.1 35 rfl rfl, t6', ssl, w_put_r, if_pos rfl, pt_at, if_pos rfl]
      exact hdn
    · rw [← hR5]
      show R4.1 129 97 = _
      rw [m7.2.2 129 97 rfl rfl, r97, ssl]
      exact hdn
    · rw [ssl] at hj
      rw [ssg j hj, ca4 2 (by omega), s34]
      have k := t8 j (by omega)
      rw [z3.2.1 2 rfl rfl] at k
      exact k.cg2 (fun u hu => c34 u (by omega)) c44
    · rw [ssl] at hj
      rw [ssg j hj, r193, ra5 130 (by omega)]
      have q := qin j hj
      exact BrC.st hr hb (brc j (by omega)) q.1 q.2.1 q.2.2
  have s4c : S4.1 106 4 = ((L'.length : Nat) : Int) := m2.1
  have lp := l_bat (e := e) (N := N) (ss := ss) (top := f + len) (n := n) (c := L'.length) hN fl (by omega) L'.length 0 N N S4 R5 0 ta L E V wa oa (by omega) (by omega) (by omega) hB hF4 s4c (by rw [fR5.1]; omega) (by omega) (by omega)
  refine lp.mono ?_
  intro y S5 lq
  refine ok_b (ok_of hbt1 ?_)
  dsimp only
  refine ok_t yb0 (ok_b (ok_of hy4 ?_))
  dsimp only
  rw [hR5]
  refine lq.mono ?_
  intro y5 R6 ⟨p1, p2⟩
  obtain ⟨o1, o2, o3, o4, o5, o6, o7, o8, ⟨ta', L2, E', V', wa', oa', o9, o10, o14, o15⟩, o11, o12, o13⟩ := p2
  have s106 : S5.1 106 4 = S4.1 106 4 := o6.2.2 106 4 rfl rfl
  have s30 : S5.1 3 0 = S4.1 3 0 := o6.2.2 3 0 rfl rfl
  refine ⟨p1, Or.inr ⟨by omega, (fS4.weak (by decide)).trans (o6.weak (by decide)), ⟨R5, fR5, o7⟩, ?_, by rw [o3, s106, s4c], ?_, ?_, fun j hj => ?_, ?_, ⟨ta', L2, E', V', o9.1, ⟨by omega, by rw [fR5.1] at o14; exact o14, fun v v1 v2 => by rw [o15 v v1 v2, fR5.2.2 129 159 rfl rfl]⟩, o9.2.2.2.2.2.2.2.2.2.2.2.2.2.2.2.1, o9.2.2.2.2.2.2.2.2.2.2.2.2.2.2.2.2⟩, o9.2.2.2.2.2.2.2.1.rel, fun u hu => o11 u ?_, ?_, fun u hu => ?_⟩⟩
  · exact hF4.cg s106 (o6.2.1 108 rfl rfl) s30 (o7.2.1 51 (by decide) (by decide) (by decide) (by decide)) (o7.1 160 (by decide) (by decide) (by decide) (by decide) (by decide) (by decide) (by decide))
  · rw [o7.2.1 102 (by decide) (by decide) (by decide) (by decide), ← hR5]
    simp only [w_put_r, reduceIte, Nat.reduceEqDiff, pt_at]
  · rw [o7.2.1 58 (by decide) (by decide) (by decide) (by decide), ← hR5]
    show R4.1 129 58 = 0
    exact m5
  · rw [s106, s4c] at hj
    exact (o4 j (by omega) (by omega)).1
  · rw [fR5.1] at o8
    omega
  · rw [ra5 135 (by omega), ca4 6 (by omega)]
    exact hu
  · rw [o12, fR5.2.2 129 159 rfl rfl]
    omega
  · rw [o13 u (by rw [fR5.2.2 129 159 rfl rfl]; exact hu), ra5 237 (by omega)]
end
section
-- gl
/-- what the last batch did to the records found, in both -/
def RelRs (S R : w_S) : Prop := (R.1 129 102 = 0 ∧ S.1 106 8 = 0) ∨ (R.1 129 102 = 1 ∧ S.1 106 8 = R.1 129 51 ∧ 0 ≤ R.1 129 51 ∧ R.1 129 51 ≤ 150 ∧ ∀ j : Nat, (j : Int) < S.1 106 8 → R.1 196 j = S.1 111 j)
theorem RelRs.cg {S R S1 R1 : w_S} (h : RelRs S R) (c8 : S1.1 106 8 = S.1 106 8) (c1 : S1.1 111 = S.1 111) (d1 : R1.1 129 102 = R.1 129 102) (d2 : R1.1 129 51 = R.1 129 51) (d3 : R1.1 196 = R.1 196) : RelRs S1 R1 := by
  unfold RelRs at h ⊢
  rw [c8, c1, d1, d2, d3]
  exact h
theorem q_result {e : w_E} {N : Nat} {S R : w_S} {x1 : Int} (h : RelRs S R) : ∃ y, E_C_result e N x1 S = some (y, S) ∧ E_R_result e N x1 R = some (y, R) := by
  unfold E_C_result E_R_result
  rcases h with ⟨h1, h2⟩ | ⟨h1, h2, h3, h4, h5⟩
  · refine ⟨-1, ?_, by rw [if_pos h1]⟩
    rw [h2]
    by_cases c1 : x1 < 0
    · rw [if_pos c1]
    · rw [if_neg c1, if_pos (by omega)]
  · rw [h2] at h5 ⊢
    by_cases c1 : x1 < 0
    · exact ⟨-1, by rw [if_pos c1], ok_eq (ok_e (by omega) (ok_nb (by omega) (ok_t c1 (ok_s ⟨rfl, rfl⟩))))⟩
    by_cases c2 : R.1 129 51 ≤ x1
    · exact ⟨-1, by rw [if_neg c1, if_pos c2], ok_eq (ok_e (by omega) (ok_nb (by omega) (ok_e c1 (ok_t (by omega) (ok_s ⟨rfl, rfl⟩)))))⟩
    refine ⟨S.1 111 x1.toNat, ok_eq (ok_e c1 (ok_e c2 (ok_ib (by omega) (ok_s ⟨rfl, rfl⟩)))), ok_eq (ok_e (by omega) (ok_nb (by omega) (ok_e c1 (ok_e (by omega) (ok_ib (by omega) (ok_s ⟨?_, rfl⟩))))))⟩
    exact h5 x1.toNat (by omega)
end
section
-- gm
abbrev HA : List Nat := [2, 4, 5, 6, 7, 8, 9, 10, 11, 12, 13, 14, 15, 16, 18, 19, 20, 21, 22, 23, 24, 25, 26, 28, 30, 31, 32, 33, 47, 48, 49, 50, 51, 52, 53, 54, 55, 56, 57, 58, 59, 60, 61, 63, 64, 65, 66, 67, 68, 69, 70, 71, 72, 73, 74, 75, 77, 78, 79, 80, 81, 83, 84, 85, 86, 87, 88, 90, 91, 92, 93]
abbrev HB : List (Nat × Nat) := [(0, 17), (0, 18), (3, 0), (3, 5), (17, 0), (17, 3), (17, 7), (27, 1), (27, 2), (27, 4), (35, 0), (35, 1), (35, 2), (35, 3), (46, 0), (46, 4), (46, 12), (62, 3), (62, 14), (76, 0), (76, 7), (76, 11), (89, 0)]
abbrev HAr : List Nat := [133, 134, 135, 136, 137, 138, 139, 140, 141, 142, 143, 144, 145, 146, 147, 148, 149, 167, 168, 169, 170, 171, 172, 173, 174, 175, 176, 177, 178, 180, 181, 182, 183, 186, 187, 188, 189, 190, 191, 197, 198, 201, 202, 204, 205, 206, 207, 208, 209, 210, 211, 213, 214, 215, 216, 217, 218, 219, 220, 221, 222, 223, 224, 225, 226, 227, 228, 229, 230, 231]
abbrev HBr : List (Nat × Nat) := [(129, 12), (129, 13), (129, 17), (129, 23), (129, 24), (129, 26), (129, 31), (129, 65), (129, 68), (129, 83), (129, 87), (129, 93), (129, 96), (129, 104), (129, 111), (129, 112), (129, 114), (129, 122), (129, 125), (129, 127), (129, 131), (129, 140), (129, 144), (129, 148)]
/-- the house: what all acts made, in both -/
def Hs (S R : w_S) (t top : Int) (ta L E V n : Nat) : Prop := RelF S.1 R.1 ∧ InvF S.1 t ∧ RelL S R t ∧ RelS S R ∧ RelB S R ∧ RelX S R ∧ RelV S R ∧ RelCk S R ∧ RelKp S R top ∧ RelMk S R ∧ RelNm S R top ∧ RelAb S R ∧ RelEx S R top ∧ RelVr S R top ta L E V n ∧ RelLk S R ∧ RelCm S R
/-- nothing of the house changes -/
def hck (L O : List Nat) (J : List (Nat × Nat)) (L' O' : List Nat) (J' : List (Nat × Nat)) : Bool := (ckA L O HA && (ckS L J HB && (ckA L' O' HAr && ckS L' J' HBr))) && (L'.all (fun b => decide (b < 238)) && O'.all (fun b => decide (b < 238)))
theorem hck_hi {L' O' : List Nat} (h : (L'.all (fun b => decide (b < 238)) && O'.all (fun b => decide (b < 238))) = true) {b : Nat} (hb : 238 ≤ b) : L'.contains b = false ∧ O'.contains b = false := by
  simp only [Bool.and_eq_true, List.all_eq_true, decide_eq_true_eq] at h
  refine ⟨?_, ?_⟩
  · cases c : L'.contains b with
    | false => rfl
    | true =>
      have := h.1 b (by simpa using c)
      omega
  · cases c : O'.contains b with
    | false => rfl
    | true =>
      have := h.2 b (by simpa using c)
      omega
theorem Hs.fr {S R S1 R1 : w_S} {t top : Int} {ta L0 E V n : Nat} {L O L' O' : List Nat} {J J' : List (Nat × Nat)} (h : Hs S R t top ta L0 E V n) (hf : frm L O J S S1) (hg : frm L' O' J' R R1) (dd : hck L O J L' O' J' = true) : Hs S1 R1 t top ta L0 E V n := by
  unfold hck at dd
  rw [Bool.and_eq_true] at dd
  obtain ⟨d1, d2⟩ := dd
  have d := ck4 d1
  have ca : ∀ a, HA.contains a = true → S1.1 a = S.1 a := fun a ha => hf.2.1 a (d.1 a ha).1 (d.1 a ha).2
  have cb : ∀ a j, HB.contains (a, j) = true → S1.1 a j = S.1 a j := fun a j ha => hf.2.2 a j (d.2.1 (a, j) ha).1 (d.2.1 (a, j) ha).2
  have ra : ∀ a, HAr.contains a = true → R1.1 a = R.1 a := fun a ha => hg.2.1 a (d.2.2.1 a ha).1 (d.2.2.1 a ha).2
  have rb : ∀ j, HBr.contains (129, j) = true → R1.1 129 j = R.1 129 j := fun j ha => hg.2.2 129 j (d.2.2.2 (129, j) ha).1 (d.2.2.2 (129, j) ha).2
  obtain ⟨h1, h2, h3, h4, h5, h6, h7, h8, h9, h10, h11, h12, h13, h14, h15, h16⟩ := h
  refine ⟨?_, ?_, h3.fr hf hg (ck4_sub d1 (by decide)), h4.fr hf hg (ck4_sub d1 (by decide)), h5.fr hf hg (ck4_sub d1 (by decide)), h6.fr hf hg (ck4_sub d1 (by decide)), h7.fr hf hg (ck4_sub d1 (by decide)), h8.fr hf hg (ck4_sub d1 (by decide)), h9.fr hf hg (ck4_sub d1 (by decide)), h10.fr hf hg (ck4_sub d1 (by decide)), h11.fr hf hg (ck4_sub d1 (by decide)), h12.fr hf hg (ck4_sub d1 (by decide)), h13.fr hf hg (ck4_sub d1 (by decide)), ?_, h15.fr hf hg (ck4_sub d1 (by decide)), h16.fr hf hg (ck4_sub d1 (by decide))⟩
  · unfold RelF at h1 ⊢
    rw [cb 76 7 rfl, cb 76 11 rfl, ca 83 rfl, ca 84 rfl, ca 85 rfl, ca 86 rfl, ca 87 rfl, ca 88 rfl, rb 140 rfl, rb 144 rfl, ra 222 rfl, ra 223 rfl, ra 224 rfl, ra 225 rfl, ra 226 rfl, ra 227 rfl]
    exact h1
  · unfold InvF at h2 ⊢
    rw [cb 76 7 rfl, cb 76 11 rfl, ca 83 rfl, ca 84 rfl, ca 85 rfl, ca 86 rfl, ca 87 rfl]
    exact h2
  · refine h14.fr (fun a ha => ?_) (cb 3 0 rfl) (cb 3 5 rfl) (by rw [cb 27 1 rfl]; exact Int.le_refl _) (fun a ha => ?_) (rb 13 rfl) (rb 17 rfl) (rb 23 rfl) hg.1
    · rcases (show a = 2 ∨ a = 4 ∨ a = 8 ∨ a = 9 ∨ a = 10 ∨ a = 11 ∨ a = 12 ∨ a = 13 ∨ a = 14 ∨ a = 15 ∨ a = 16 by omega) with rfl | rfl | rfl | rfl | rfl | rfl | rfl | rfl | rfl | rfl | rfl <;> exact ca _ rfl
    · rcases ha with ha | ha
      · rcases (show a = 136 ∨ a = 137 ∨ a = 138 ∨ a = 139 ∨ a = 140 by omega) with rfl | rfl | rfl | rfl | rfl <;> exact ra _ rfl
      · exact hg.2.1 a (hck_hi d2 ha).1 (hck_hi d2 ha).2
end
section
-- gn
theorem InvF.up {c : am} {t : Int} (h : InvF c t) : InvF c (t + 1) := by
  obtain ⟨h1, h2, h3, h4, h5, h6⟩ := h
  refine ⟨h1, h2, h3, h4, fun k k1 k2 => ?_, h6⟩
  obtain ⟨a1, a2, a3, a4, a5, a6, a7⟩ := h5 k k1 k2
  exact ⟨by omega, by omega, by omega, by omega, by omega, by omega, a7⟩
theorem Rw.top {t : Nat → Int} {top top' x : Int} {m : Nat} {b : Nat → Int} (h : Rw t top x m b) (ht : top ≤ top') : Rw t top' x m b := by
  obtain ⟨a, h1, h2, h3⟩ := h
  exact ⟨a, h1, by omega, h3⟩
theorem RelKp.top {S R : w_S} {top top' : Int} (h : RelKp S R top) (ht : top ≤ top') : RelKp S R top' := by
  obtain ⟨n, h1, h2, h3, h4⟩ := h
  refine ⟨n, h1, h2, h3, fun i hi => ?_⟩
  obtain ⟨a1, a2, a3, a4, a5, a6, m, a7, a8, a9, a10, a11⟩ := h4 i hi
  exact ⟨a1, a2, a3, a4, a5, a6, m, a7, a8, a9, a10.top ht, a11⟩
theorem RelNm.top {S R : w_S} {top top' : Int} (h : RelNm S R top) (ht : top ≤ top') : RelNm S R top' := by
  obtain ⟨h1, h2, h3, h4, h5, h6, h7, h8⟩ := h
  refine ⟨h1, h2, h3, h4, h5, h6, h7, fun k hk => ?_⟩
  obtain ⟨a1, a2, a3, a4, a5, a6, m, a7, a8, a9, a10, a11⟩ := h8 k hk
  exact ⟨a1, a2, a3, a4, a5, a6, m, a7, a8, a9, a10.top ht, a11⟩
theorem RelEx.top {S R : w_S} {top top' : Int} (h : RelEx S R top) (ht : top ≤ top') : RelEx S R top' := by
  obtain ⟨h1, h2⟩ := h
  refine ⟨h1, ?_⟩
  rcases h2 with h2 | ⟨m, a1, a2, a3, a4, a5⟩
  · exact Or.inl h2
  · exact Or.inr ⟨m, a1, a2, a3, a4, a5.top ht⟩
theorem Hs.up {S R : w_S} {t top : Int} {ta L E V n : Nat} (h : Hs S R t top ta L E V n) : Hs S R (t + 1) top ta L E V n := by
  obtain ⟨h1, h2, h3, h4⟩ := h
  exact ⟨h1, h2.up, h3.up, h4⟩
theorem Hs.top {S R : w_S} {t top top' : Int} {ta L E V n : Nat} (h : Hs S R t top ta L E V n) (ht : top ≤ top') : Hs S R t top' ta L E V n := by
  obtain ⟨h1, h2, h3, h4, h5, h6, h7, h8, h9, h10, h11, h12, h13, h14, h15, h16⟩ := h
  exact ⟨h1, h2, h3, h4, h5, h6, h7, h8, h9.top ht, h10, h11.top ht, h12, h13.top ht, h14.up ht, h15, h16⟩
/-- funds alone stay -/
theorem RelF.cg {S R S1 R1 : w_S} {t : Int} {L O L' O' : List Nat} {J J' : List (Nat × Nat)} (h : RelF S.1 R.1 ∧ InvF S.1 t) (hf : frm L O J S S1) (hg : frm L' O' J' R R1) (dd : (ckA L O [83, 84, 85, 86, 87, 88] && (ckS L J [(76, 7), (76, 11)] && (ckA L' O' [222, 223, 224, 225, 226, 227] && ckS L' J' [(129, 140), (129, 144)]))) = true) : RelF S1.1 R1.1 ∧ InvF S1.1 t := by
  have d := ck4 dd
  have ca : ∀ a, [83, 84, 85, 86, 87, 88].contains a = true → S1.1 a = S.1 a := fun a ha => hf.2.1 a (d.1 a ha).1 (d.1 a ha).2
  have cb : ∀ a j, [(76, 7), (76, 11)].contains (a, j) = true → S1.1 a j = S.1 a j := fun a j ha => hf.2.2 a j (d.2.1 (a, j) ha).1 (d.2.1 (a, j) ha).2
  have ra : ∀ a, [222, 223, 224, 225, 226, 227].contains a = true → R1.1 a = R.1 a := fun a ha => hg.2.1 a (d.2.2.1 a ha).1 (d.2.2.1 a ha).2
  have rb : ∀ j, [(129, 140), (129, 144)].contains (129, j) = true → R1.1 129 j = R.1 129 j := fun j ha => hg.2.2 129 j (d.2.2.2 (129, j) ha).1 (d.2.2.2 (129, j) ha).2
  refine ⟨?_, ?_⟩
  · have h1 := h.1
    unfold RelF at h1 ⊢
    rw [cb 76 7 rfl, cb 76 11 rfl, ca 83 rfl, ca 84 rfl, ca 85 rfl, ca 86 rfl, ca 87 rfl, ca 88 rfl, rb 140 rfl, rb 144 rfl, ra 222 rfl, ra 223 rfl, ra 224 rfl, ra 225 rfl, ra 226 rfl, ra 227 rfl]
    exact h1
  · have h2 := h.2
    unfold InvF at h2 ⊢
    rw [cb 76 7 rfl, cb 76 11 rfl, ca 83 rfl, ca 84 rfl, ca 85 rfl, ca 86 rfl, ca 87 rfl]
    exact h2
/-- the catalog alone stays -/
theorem RelVr.fr2 {S R S1 R1 : w_S} {top : Int} {ta L0 E V n : Nat} {L O L' O' : List Nat} {J J' : List (Nat × Nat)} (h : RelVr S R top ta L0 E V n) (hf : frm L O J S S1) (hg : frm L' O' J' R R1) (dd : (ckA L O [2, 4, 8, 9, 10, 11, 12, 13, 14, 15, 16] && (ckS L J [(3, 0), (3, 5), (27, 1)] && (ckA L' O' [136, 137, 138, 139, 140] && ckS L' J' [(129, 13), (129, 17), (129, 23)]))) = true) (d2 : (L'.all (fun b => decide (b < 238)) && O'.all (fun b => decide (b < 238))) = true) : RelVr S1 R1 top ta L0 E V n := by
  have d := ck4 dd
  have ca : ∀ a, [2, 4, 8, 9, 10, 11, 12, 13, 14, 15, 16].contains a = true → S1.1 a = S.1 a := fun a ha => hf.2.1 a (d.1 a ha).1 (d.1 a ha).2
  have cb : ∀ a j, [(3, 0), (3, 5), (27, 1)].contains (a, j) = true → S1.1 a j = S.1 a j := fun a j ha => hf.2.2 a j (d.2.1 (a, j) ha).1 (d.2.1 (a, j) ha).2
  have ra : ∀ a, [136, 137, 138, 139, 140].contains a = true → R1.1 a = R.1 a := fun a ha => hg.2.1 a (d.2.2.1 a ha).1 (d.2.2.1 a ha).2
  have rb : ∀ j, [(129, 13), (129, 17), (129, 23)].contains (129, j) = true → R1.1 129 j = R.1 129 j := fun j ha => hg.2.2 129 j (d.2.2.2 (129, j) ha).1 (d.2.2.2 (129, j) ha).2
  refine h.fr (fun a ha => ?_) (cb 3 0 rfl) (cb 3 5 rfl) (by rw [cb 27 1 rfl]; exact Int.le_refl _) (fun a ha => ?_) (rb 13 rfl) (rb 17 rfl) (rb 23 rfl) hg.1
  · rcases (show a = 2 ∨ a = 4 ∨ a = 8 ∨ a = 9 ∨ a = 10 ∨ a = 11 ∨ a = 12 ∨ a = 13 ∨ a = 14 ∨ a = 15 ∨ a = 16 by omega) with rfl | rfl | rfl | rfl | rfl | rfl | rfl | rfl | rfl | rfl | rfl <;> exact ca _ rfl
  · rcases ha with ha | ha
    · rcases (show a = 136 ∨ a = 137 ∨ a = 138 ∨ a = 139 ∨ a = 140 by omega) with rfl | rfl | rfl | rfl | rfl <;> exact ra _ rfl
    · exact hg.2.1 a (hck_hi d2 ha).1 (hck_hi d2 ha).2
/-- acts of lending -/
theorem hs_l {S R S1 R1 : w_S} {t top : Int} {ta L E V n : Nat} (h : Hs S R t top ta L E V n) (q : Ql S R t S1 R1) : Hs S1 R1 (t + 1) top ta L E V n := by
  obtain ⟨h1, h2, h3, h4, h5, h6, h7, h8, h9, h10, h11, h12, h13, h14, h15, h16⟩ := h
  obtain ⟨hf, hg, q3⟩ := q
  have hF := RelF.cg ⟨h1, h2⟩ hf hg (by decide)
  exact ⟨hF.1, hF.2.up, q3, h4.fr hf hg (by decide), h5.fr hf hg (by decide), h6.fr hf hg (by decide), h7.fr hf hg (by decide), h8.fr hf hg (by decide), h9.fr hf hg (by decide), h10.fr hf hg (by decide), h11.fr hf hg (by decide), h12.fr hf hg (by decide), h13.fr hf hg (by decide), h14.fr2 hf hg (by decide) (by decide), h15.fr hf hg (by decide), h16.fr hf hg (by decide)⟩
/-- acts of funds -/
theorem hs_f {S R S1 R1 : w_S} {t top : Int} {ta L E V n : Nat} (h : Hs S R t top ta L E V n) (q : Qf S R t S1 R1) : Hs S1 R1 (t + 1) top ta L E V n := by
  obtain ⟨h1, h2, h3, h4, h5, h6, h7, h8, h9, h10, h11, h12, h13, h14, h15, h16⟩ := h
  obtain ⟨hf, hg, q3, q4⟩ := q
  exact ⟨q4, q3, (h3.fr hf hg (by decide)).up, h4.fr hf hg (by decide), h5.fr hf hg (by decide), h6.fr hf hg (by decide), h7.fr hf hg (by decide), h8.fr hf hg (by decide), h9.fr hf hg (by decide), h10.fr hf hg (by decide), h11.fr hf hg (by decide), h12.fr hf hg (by decide), h13.fr hf hg (by decide), h14.fr2 hf hg (by decide) (by decide), h15.fr hf hg (by decide), h16.fr hf hg (by decide)⟩
/-- acts of stores -/
theorem hs_s {S R S1 R1 : w_S} {t top : Int} {ta L E V n : Nat} (h : Hs S R t top ta L E V n) (q : Qs S R S1 R1) : Hs S1 R1 (t + 1) top ta L E V n := by
  obtain ⟨h1, h2, h3, h4, h5, h6, h7, h8, h9, h10, h11, h12, h13, h14, h15, h16⟩ := h
  obtain ⟨hf, hg, q3⟩ := q
  have hF := RelF.cg ⟨h1, h2⟩ hf hg (by decide)
  exact ⟨hF.1, hF.2.up, (h3.fr hf hg (by decide)).up, q3, h5.fr hf hg (by decide), h6.fr hf hg (by decide), h7.fr hf hg (by decide), h8.fr hf hg (by decide), h9.fr hf hg (by decide), h10.fr hf hg (by decide), h11.fr hf hg (by decide), h12.fr hf hg (by decide), h13.fr hf hg (by decide), h14.fr2 hf hg (by decide) (by decide), h15.fr hf hg (by decide), h16.fr hf hg (by decide)⟩
/-- issues that came -/
theorem hs_b {S R S1 R1 : w_S} {t top : Int} {ta L E V n : Nat} (h : Hs S R t top ta L E V n) (q : Qb S R S1 R1) : Hs S1 R1 (t + 1) top ta L E V n := by
  obtain ⟨h1, h2, h3, h4, h5, h6, h7, h8, h9, h10, h11, h12, h13, h14, h15, h16⟩ := h
  obtain ⟨hf, hg, q3⟩ := q
  have hF := RelF.cg ⟨h1, h2⟩ hf hg (by decide)
  exact ⟨hF.1, hF.2.up, (h3.fr hf hg (by decide)).up, h4.fr hf hg (by decide), q3, h6.fr hf hg (by decide), h7.fr hf hg (by decide), h8.fr hf hg (by decide), h9.fr hf hg (by decide), h10.fr hf hg (by decide), h11.fr hf hg (by decide), h12.fr hf hg (by decide), h13.fr hf hg (by decide), h14.fr2 hf hg (by decide) (by decide), h15.fr hf hg (by decide), h16.fr hf hg (by decide)⟩
end
section
-- gn2
theorem RelT.cut {S R R1 : w_S} (h : RelT S (fcut R R1)) : RelT S R1 := h
theorem RelP.cut {S R R1 : w_S} (h : RelP S (fcut R R1)) : RelP S R1 := h
theorem RelLn.cut {S R R1 : w_S} (h : RelLn S (fcut R R1)) : RelLn S R1 := h
theorem RelBk.cut {S R R1 : w_S} (h : RelBk S (fcut R R1)) : RelBk S R1 := h
theorem RelCl.cut {S R R1 : w_S} (h : RelCl S (fcut R R1)) : RelCl S R1 := h
theorem RelS.cut {S R R1 : w_S} (h : RelS S (fcut R R1)) : RelS S R1 := h
theorem RelX.cut {S R R1 : w_S} (h : RelX S (fcut R R1)) : RelX S R1 := h
theorem RelLk.cut {S R R1 : w_S} (h : RelLk S (fcut R R1)) : RelLk S R1 := h
theorem RelRd.cut {S R R1 : w_S} {t : Int} (h : RelRd S (fcut R R1) t) : RelRd S R1 t := h
theorem RelCd.cut {S R R1 : w_S} {t : Int} (h : RelCd S (fcut R R1) t) : RelCd S R1 t := h
theorem RelLo.cut {S R R1 : w_S} {t : Int} (h : RelLo S (fcut R R1) t) : RelLo S R1 t := h
theorem RelF.cut {c : am} {R R1 : w_S} (h : RelF c (fcut R R1).1) : RelF c R1.1 := h
/-- what of the class is no part of the house -/
abbrev NA : List Nat := [29, 34, 36, 38, 39, 40, 41, 42, 43, 44, 45, 82, 95, 96, 97, 98, 99, 100, 101, 102, 103, 104, 105, 107, 108, 109, 110, 111, 112, 113, 114, 115, 116, 117, 118, 119, 121, 122, 123, 124, 125, 126, 127, 128]
abbrev NO : List Nat := [0, 1, 35, 37, 94, 106, 120]
abbrev NJ : List (Nat × Nat) := [(0, 12), (0, 13), (0, 14), (0, 15), (0, 16), (1, 1), (1, 2), (1, 3), (1, 4), (1, 5), (1, 6), (35, 4), (37, 0), (94, 3), (94, 5), (94, 6), (94, 12), (94, 15), (106, 2), (106, 4), (106, 8), (106, 9), (120, 0)]
/-- what of the reference is no part of the house -/
abbrev NR : List Nat := [130, 131, 132, 150, 151, 152, 153, 154, 155, 156, 157, 158, 159, 160, 161, 162, 163, 164, 165, 166, 179, 184, 185, 192, 193, 194, 195, 196, 199, 200, 203, 212, 232, 233, 234, 235, 236, 237]
abbrev NRj : List (Nat × Nat) := [(129, 1), (129, 2), (129, 3), (129, 4), (129, 7), (129, 8), (129, 9), (129, 10), (129, 11), (129, 37), (129, 39), (129, 40), (129, 46), (129, 48), (129, 51), (129, 55), (129, 56), (129, 57), (129, 58), (129, 59), (129, 60), (129, 97), (129, 100), (129, 102), (129, 137), (129, 138), (129, 139), (129, 159)]
theorem Rw.tape {t t' : Nat → Int} {top x : Int} {m : Nat} {b : Nat → Int} (h : Rw t top x m b) (ht : ∀ p : Nat, (p : Int) < top → t' p = t p) : Rw t' top x m b := by
  obtain ⟨a, h1, h2, h3⟩ := h
  exact ⟨a, h1, h2, fun k hk => by rw [ht (a + k) (by omega)]; exact h3 k hk⟩
/-- the class's tape changes above what is kept -/
theorem RelKp.tape {S R : w_S} {t' : Nat → Int} {top : Int} (h : RelKp S R top) (ht : ∀ p : Nat, (p : Int) < top → t' p = S.1 2 p) : RelKp (w_arr S 2 t') R top := by
  obtain ⟨n, h1, h2, h3, h4⟩ := h
  refine ⟨n, h1, h2, h3, fun i hi => ?_⟩
  obtain ⟨a1, a2, a3, a4, a5, a6, m, a7, a8, a9, a10, a11⟩ := h4 i hi
  exact ⟨a1, a2, a3, a4, a5, a6, m, a7, a8, a9, a10.tape ht, a11⟩
theorem RelNm.tape {S R : w_S} {t' : Nat → Int} {top : Int} (h : RelNm S R top) (ht : ∀ p : Nat, (p : Int) < top → t' p = S.1 2 p) : RelNm (w_arr S 2 t') R top := by
  obtain ⟨h1, h2, h3, h4, h5, h6, h7, h8⟩ := h
  refine ⟨h1, h2, h3, h4, h5, h6, h7, fun k hk => ?_⟩
  obtain ⟨a1, a2, a3, a4, a5, a6, m, a7, a8, a9, a10, a11⟩ := h8 k hk
  exact ⟨a1, a2, a3, a4, a5, a6, m, a7, a8, a9, a10.tape ht, a11⟩
theorem RelEx.tape {S R : w_S} {t' : Nat → Int} {top : Int} (h : RelEx S R top) (ht : ∀ p : Nat, (p : Int) < top → t' p = S.1 2 p) : RelEx (w_arr S 2 t') R top := by
  obtain ⟨h1, h2⟩ := h
  refine ⟨h1, ?_⟩
  rcases h2 with h2 | ⟨m, a1, a2, a3, a4, a5⟩
  · exact Or.inl h2
  · exact Or.inr ⟨m, a1, a2, a3, a4, a5.tape ht⟩
theorem RelVr.tape {S R : w_S} {t' : Nat → Int} {top : Int} {ta L E V n : Nat} (h : RelVr S R top ta L E V n) (ht : ∀ p : Nat, (p : Int) < top → t' p = S.1 2 p) : RelVr (w_arr S 2 t') R top ta L E V n := by
  obtain ⟨k1, k2, k3, k4, k5, k6, k7, k8, k9, k10, k11⟩ := h
  refine ⟨k1, k2, k3, k4, k5, k6, k7, k8, k9, k10, fun v hv => ?_⟩
  obtain ⟨a1, a2, a3, a4, a5, a6, D, b1, b2, b3, b4, b5, b6, b7⟩ := k11 v hv
  refine ⟨a1, a2, a3, a4, a5, a6, D, b1, b2, b3, b4, b5, fun F hF => ?_, b7⟩
  obtain ⟨c1, c2, c3, c4, c5⟩ := b6 F hF
  exact ⟨c1, c2, c3, c4, fun j hj => ⟨(c5 j hj).1, (c5 j hj).2.tape ht⟩⟩
theorem Hs.tape {S R : w_S} {t top : Int} {t' : Nat → Int} {ta L E V n : Nat} (h : Hs S R t top ta L E V n) (ht : ∀ p : Nat, (p : Int) < top → t' p = S.1 2 p) : Hs (w_arr S 2 t') R t top ta L E V n := by
  obtain ⟨h1, h2, h3, h4, h5, h6, h7, h8, h9, h10, h11, h12, h13, h14, h15, h16⟩ := h
  have f : frm [2] [] [] S (w_arr S 2 t') := by repeat (first | exact frm.refl _ _ _ _ | refine frm.put ?_ rfl | refine frm.puto ?_ rfl rfl | refine frm.arr ?_ rfl)
  have g : frm [] [] [] R R := frm.refl _ _ _ _
  exact ⟨h1, h2, h3.fr f g (by decide), h4.fr f g (by decide), h5.fr f g (by decide), h6.fr f g (by decide), h7.fr f g (by decide), h8.fr f g (by decide), h9.tape ht, h10.fr f g (by decide), h11.tape ht, h12.fr f g (by decide), h13.tape ht, h14.tape ht, h15.fr f g (by decide), h16.fr f g (by decide)⟩
/-- the class's house is the same, and its tape as far as it is kept; of what the class does not look at (where the heap ends) nothing is said -/
def Same (top : Int) (S S1 : w_S) : Prop := frm (2 :: NA) NO NJ (S.1, S1.2) S1 ∧ ∀ p : Nat, (p : Int) < top → S1.1 2 p = S.1 2 p
theorem Same.fm {top : Int} {S S1 : w_S} (h : frm (2 :: NA) NO NJ S S1) (k : ∀ p : Nat, (p : Int) < top → S1.1 2 p = S.1 2 p) : Same top S S1 := ⟨⟨rfl, h.2⟩, k⟩
theorem Same.refl (top : Int) (S : w_S) : Same top S S := Same.fm (frm.refl _ _ _ _) (fun _ _ => rfl)
theorem Same.sg (top : Int) (S : w_S) (z : (Nat → Nat) × (Nat → Option (Nat × Nat)) × Nat × Nat) : Same top S (S.1, z) := ⟨frm.refl _ _ _ _, fun _ _ => rfl⟩
theorem Same.trans {top : Int} {S S1 S2 : w_S} (h : Same top S S1) (k : Same top S1 S2) : Same top S S2 := ⟨⟨rfl, fun b b1 b2 => (k.1.2.1 b b1 b2).trans (h.1.2.1 b b1 b2), fun b j b1 b2 => (k.1.2.2 b j b1 b2).trans (h.1.2.2 b j b1 b2)⟩, fun p hp => (k.2 p hp).trans (h.2 p hp)⟩
theorem Same.of {top : Int} {S S1 : w_S} {L O : List Nat} {J : List (Nat × Nat)} (h : frm L O J S S1) (hL : (L.all (fun b => NA.contains b) && (O.all (fun b => NO.contains b) && J.all (fun b => NJ.contains b))) = true) : Same top S S1 := by
  have h2 : frm NA NO NJ S S1 := h.weak hL
  refine Same.fm (h2.weak (by decide)) (fun p _ => ?_)
  rw [h2.2.1 2 (by decide) (by decide)]
theorem Same.le {top top' : Int} {S S1 : w_S} (h : Same top S S1) (ht : top' ≤ top) : Same top' S S1 := ⟨h.1, fun p hp => h.2 p (by omega)⟩
theorem Hs.same {S S1 R : w_S} {t top : Int} {ta L E V n : Nat} (h : Hs S R t top ta L E V n) (k : Same top S S1) : Hs S1 R t top ta L E V n := by
  have h0 := h.tape (t' := S1.1 2) k.2
  have h1 : Hs ((w_arr S 2 (S1.1 2)).1, S1.2) R t top ta L E V n := h0
  refine h1.fr (L := NA) (O := NO) (J := NJ) (L' := []) (O' := []) (J' := []) ?_ (frm.refl _ _ _ _) (by decide)
  obtain ⟨⟨a1, a2, a3⟩, _⟩ := k
  refine ⟨rfl, fun b b1 b2 => ?_, fun b j b1 b2 => ?_⟩
  · show S1.1 b = (w_arr S 2 (S1.1 2)).1 b
    rw [w_arr_r]
    by_cases c : b = 2
    · rw [if_pos c, c]
    · rw [if_neg c]
      refine a2 b ?_ b2
      rw [List.contains_cons, b1, Bool.or_false]
      simpa using c
  · show S1.1 b j = (w_arr S 2 (S1.1 2)).1 b j
    rw [w_arr_r]
    by_cases c : b = 2
    · rw [if_pos c, c]
    · rw [if_neg c]
      refine a3 b j ?_ b2
      rw [List.contains_cons, b1, Bool.or_false]
      simpa using c
/-- the reference's house is the same; rows may have been made -/
def frn (R R1 : w_S) : Prop := (∀ b, b < 238 → NR.contains b = false → b ≠ 129 → R1.1 b = R.1 b) ∧ (∀ j, NRj.contains (129, j) = false → R1.1 129 j = R.1 129 j) ∧ R1.2.1 2 = R.2.1 2 ∧ R1.1 (R.2.1 2) = R.1 (R.2.1 2) ∧ R1.2.2.1 (R.2.1 2) = R.2.2.1 (R.2.1 2) ∧ R.2.2.2.1 ≤ R1.2.2.2.1
theorem frn.refl (R : w_S) : frn R R := ⟨fun _ _ _ _ => rfl, fun _ _ => rfl, rfl, rfl, rfl, Nat.le_refl _⟩
theorem frn.trans {R R1 R2 : w_S} (h : frn R R1) (k : frn R1 R2) : frn R R2 := by
  obtain ⟨h1, h2, h3, h4, h5, h6⟩ := h
  obtain ⟨k1, k2, k3, k4, k5, k6⟩ := k
  rw [h3] at k3 k4 k5
  exact ⟨fun b b1 b2 b3 => (k1 b b1 b2 b3).trans (h1 b b1 b2 b3), fun j hj => (k2 j hj).trans (h2 j hj), k3, k4.trans h4, k5.trans h5, by omega⟩
theorem frn.of {R R1 : w_S} {L O : List Nat} {J : List (Nat × Nat)} (h : frm L O J R R1) (hL : (L.all (fun b => NR.contains b) && (O.all (fun b => [129].contains b) && J.all (fun b => NRj.contains b))) = true) (ta : R.2.1 2 = 140 ∨ 238 ≤ R.2.1 2) : frn R R1 := by
  have h2 : frm NR [129] NRj R R1 := h.weak hL
  refine ⟨fun b b1 b2 b3 => h2.2.1 b b2 (by simpa using b3), fun j hj => h2.2.2 129 j (by decide) hj, by rw [h2.1], ?_, by rw [h2.1], by rw [h2.1]; exact Nat.le_refl _⟩
  rcases ta with ta | ta
  · rw [ta]
    exact h2.2.1 140 (by decide) (by decide)
  · have := hck_hi (L' := NR) (O' := [129]) (by decide) ta
    exact h2.2.1 _ this.1 this.2
theorem Hs.ta {S R : w_S} {t top : Int} {ta L E V n : Nat} (h : Hs S R t top ta L E V n) : R.2.1 2 = 140 ∨ 238 ≤ R.2.1 2 := by
  have h14 := h.2.2.2.2.2.2.2.2.2.2.2.2.2.1
  rw [h14.1.1]
  exact h14.2.1
theorem frn.cut {R R1 : w_S} (k : frn R R1) : frm NR [129] NRj R (fcut R R1) := by
  obtain ⟨k1, k2, k3, k4, k5, k6⟩ := k
  refine ⟨rfl, fun b h1 h2 => ?_, fun b j h1 h2 => ?_⟩
  · unfold fcut
    dsimp only
    split
    · rename_i c
      exact k1 b c h1 (by simpa using h2)
    · rfl
  · unfold fcut
    dsimp only
    split
    · rename_i c
      by_cases c9 : b = 129
      · subst c9
        exact k2 j h2
      · rw [k1 b c h1 c9]
    · rfl
theorem Hs.rf {S R R1 : w_S} {t top : Int} {ta L E V n : Nat} (h : Hs S R t top ta L E V n) (k : frn R R1) (hn : R1.2.2.2.1 ≤ 899000) : Hs S R1 t top ta L E V n := by
  have hc := frn.cut k
  obtain ⟨k1, k2, k3, k4, k5, k6⟩ := k
  have hf : frm [] [] [] S S := frm.refl _ _ _ _
  obtain ⟨h1, h2, h3, h4, h5, h6, h7, h8, h9, h10, h11, h12, h13, h14, h15, h16⟩ := h
  have hF := RelF.cg ⟨h1, h2⟩ hf hc (by decide)
  refine ⟨hF.1.cut, hF.2, (h3.fr hf hc (by decide)).cut, (h4.fr hf hc (by decide)).cut, (h5.fr hf hc (by decide)).cut, (h6.fr hf hc (by decide)).cut, ?_, (h8.fr hf hc (by decide)).cut, (h9.fr hf hc (by decide)).cut, (h10.fr hf hc (by decide)).cut, (h11.fr hf hc (by decide)).cut, (h12.fr hf hc (by decide)).cut, (h13.fr hf hc (by decide)).cut, ?_, (h15.fr hf hc (by decide)).cut, ?_⟩
  · have := h7.fr hf hc (by decide)
    exact this
  · obtain ⟨j1, j2, j3, j4, j5, j6, j7, j8, j9, j10, j11⟩ := h14
    obtain ⟨p3, p5, p6, p7, p8, p9, p10, p11, p12, p13, p15, p18⟩ := j1
    rw [p3] at k3 k4 k5
    have e6 : R1.1 136 = R.1 136 := k1 136 (by decide) (by decide) (by decide)
    have e7 : R1.1 137 = R.1 137 := k1 137 (by decide) (by decide) (by decide)
    have e8 : R1.1 138 = R.1 138 := k1 138 (by decide) (by decide) (by decide)
    have e9 : R1.1 139 = R.1 139 := k1 139 (by decide) (by decide) (by decide)
    refine ⟨⟨k3, p5, by omega, by omega, hn, p9, ?_, p11, p12, p13, ?_, fun u hu => by rw [k4]; exact p18 u hu⟩, j2, j3, ?_, j5, j6, ?_, j8, j9, fun r r1 r2 => by rw [e6]; exact j10 r r1 r2, fun v hv => ?_⟩
    · unfold e_len w_a at p10 ⊢
      rw [k5]
      exact p10
    · rw [k2 23 (by decide)]
      exact p15
    · rw [k2 17 (by decide)]
      exact j4
    · rw [k2 13 (by decide)]
      exact j7
    · rw [e6, e7]
      obtain ⟨a1, a2, a3, a4, a5, a6, D, a7⟩ := j11 v hv
      refine ⟨a1, a2, a3, a4, a5, a6, D, ?_⟩
      unfold VrD at a7 ⊢
      rw [e8, e9, k4]
      exact a7
  · have := h16.fr hf hc (by decide)
    exact this
end
section
-- go
abbrev KC : List Nat := [2, 107, 108, 111, 115, 116, 117, 118, 119, 128]
abbrev KCj : List (Nat × Nat) := [(0, 12), (0, 13), (0, 14), (0, 15), (0, 16), (1, 1), (1, 2), (1, 3), (1, 5), (106, 2), (106, 4), (106, 8)]
abbrev KR : List Nat := [130, 131, 132, 151, 160, 163, 164, 165, 166, 196, 232, 233, 234, 235, 236, 237]
abbrev KRj : List (Nat × Nat) := [(129, 1), (129, 2), (129, 7), (129, 8), (129, 9), (129, 10), (129, 11), (129, 39), (129, 51), (129, 58), (129, 59), (129, 60), (129, 102), (129, 159)]
abbrev KCb : List Nat := [2, 107, 115, 116, 117, 118, 119, 128]
abbrev KCbj : List (Nat × Nat) := [(0, 12), (0, 13), (0, 14), (0, 15), (0, 16), (1, 1), (1, 2), (1, 3), (1, 5), (106, 2)]
abbrev KRb : List Nat := [130, 131, 132, 151, 232, 233, 234, 235, 236]
abbrev KRbj : List (Nat × Nat) := [(129, 1), (129, 2), (129, 7), (129, 8), (129, 9), (129, 10), (129, 11), (129, 39)]
/-- what an act leaves alone in the class -/
def okCl (K : List Nat) (Kj : List (Nat × Nat)) (S S1 : w_S) : Prop := (∀ c, K.contains c = true → S1.1 c = S.1 c) ∧ ∀ c j, Kj.contains (c, j) = true → S1.1 c j = S.1 c j
/-- every act but a batch: texts, journal, print, tokens, what was found -/
abbrev okC (S S1 : w_S) : Prop := okCl KC KCj S S1
/-- a batch -/
abbrev okCb (S S1 : w_S) : Prop := okCl KCb KCbj S S1
/-- rows that were made elsewhere stay -/
def kpb (R R1 : w_S) : Prop := (∀ i, i ≠ 2 → i ≠ 3 → i ≠ 4 → R1.2.1 i = R.2.1 i) ∧ (∀ b, b < R.2.2.2.1 → R1.2.2.1 b = R.2.2.1 b) ∧ (R.2.2.2.1 ≤ R1.2.2.2.1 ∧ R1.2.2.2.2 + 2 * tl R ≤ R.2.2.2.2 + 2 * tl R1) ∧ (R1.2.1 2 = R.2.1 2 ∨ R.2.2.2.1 ≤ R1.2.1 2) ∧ ∀ b, 238 ≤ b → b < R.2.2.2.1 → b ≠ R.2.1 2 → R1.1 b = R.1 b
/-- .. and in the reference -/
def okRb (R R1 : w_S) : Prop := (∀ c, KRb.contains c = true → R1.1 c = R.1 c) ∧ (∀ c j, KRbj.contains (c, j) = true → R1.1 c j = R.1 c j) ∧ kpb R R1
def okR (R R1 : w_S) : Prop := (∀ c, KR.contains c = true → R1.1 c = R.1 c) ∧ (∀ c j, KRj.contains (c, j) = true → R1.1 c j = R.1 c j) ∧ kpb R R1 ∧ R1.2.1 3 = R.2.1 3 ∧ R1.2.1 4 = R.2.1 4
theorem okCl.refl (K : List Nat) (Kj : List (Nat × Nat)) (S : w_S) : okCl K Kj S S := ⟨fun _ _ => rfl, fun _ _ _ => rfl⟩
theorem okC.refl (S : w_S) : okC S S := okCl.refl _ _ S
theorem okCl.of {K : List Nat} {Kj : List (Nat × Nat)} {S S1 : w_S} {L O : List Nat} {J : List (Nat × Nat)} (h : frm L O J S S1) (d : (ckA L O K && ckS L J Kj) = true) : okCl K Kj S S1 := by
  rw [Bool.and_eq_true] at d
  refine ⟨fun c hc => ?_, fun c j hc => ?_⟩
  · have := ckA_of d.1 c hc
    exact h.2.1 c this.1 this.2
  · have := ckS_of d.2 (c, j) hc
    exact h.2.2 c j this.1 this.2
theorem okC.of {S S1 : w_S} {L O : List Nat} {J : List (Nat × Nat)} (h : frm L O J S S1) (d : (ckA L O KC && ckS L J KCj) = true) : okC S S1 := okCl.of h d
theorem okC.b {S S1 : w_S} (h : okC S S1) : okCb S S1 := ⟨fun c hc => h.1 c (by
  have : ∀ c ∈ KCb, c ∈ KC := by decide
  simpa using this c (by simpa using hc)), fun c j hc => h.2 c j (by
  have : ∀ c ∈ KCbj, c ∈ KCj := by decide
  simpa using this (c, j) (by simpa using hc))⟩
theorem okR.b {R R1 : w_S} (h : okR R R1) : okRb R R1 := ⟨fun c hc => h.1 c (by
  have : ∀ c ∈ KRb, c ∈ KR := by decide
  simpa using this c (by simpa using hc)), fun c j hc => h.2.1 c j (by
  have : ∀ c ∈ KRbj, c ∈ KRj := by decide
  simpa using this (c, j) (by simpa using hc)), h.2.2.1⟩
theorem okRb.of {R R1 : w_S} {L O : List Nat} {J : List (Nat × Nat)} (h : frm L O J R R1) (d : (ckA L O KRb && ckS L J KRbj) = true) (d2 : (L.all (fun b => decide (b < 238)) && O.all (fun b => decide (b < 238))) = true) : okRb R R1 := by
  rw [Bool.and_eq_true] at d
  refine ⟨fun c hc => ?_, fun c j hc => ?_, fun i _ _ _ => by rw [h.1], fun b _ => by rw [h.1], by rw [tl_cg h.1, h.1]; exact ⟨Nat.le_refl _, Nat.le_refl _⟩, Or.inl (by rw [h.1]), fun b hb _ _ => h.2.1 b (hck_hi d2 hb).1 (hck_hi d2 hb).2⟩
  · have := ckA_of d.1 c hc
    exact h.2.1 c this.1 this.2
  · have := ckS_of d.2 (c, j) hc
    exact h.2.2 c j this.1 this.2
theorem okR.of {R R1 : w_S} {L O : List Nat} {J : List (Nat × Nat)} (h : frm L O J R R1) (d : (ckA L O KR && ckS L J KRj) = true) (d2 : (L.all (fun b => decide (b < 238)) && O.all (fun b => decide (b < 238))) = true) : okR R R1 := by
  rw [Bool.and_eq_true] at d
  refine ⟨fun c hc => ?_, fun c j hc => ?_, ⟨fun i _ _ _ => by rw [h.1], fun b _ => by rw [h.1], by rw [tl_cg h.1, h.1]; exact ⟨Nat.le_refl _, Nat.le_refl _⟩, Or.inl (by rw [h.1]), fun b hb _ _ => h.2.1 b (hck_hi d2 hb).1 (hck_hi d2 hb).2⟩, by rw [h.1], by rw [h.1]⟩
  · have := ckA_of d.1 c hc
    exact h.2.1 c this.1 this.2
  · have := ckS_of d.2 (c, j) hc
    exact h.2.2 c j this.1 this.2
theorem okR.refused (R : w_S) : okR R (w_put R 129 4 1) := okR.of (L := []) (O := [129]) (J := [(129, 4)]) (by repeat (first | exact frm.refl _ _ _ _ | refine frm.put ?_ rfl | refine frm.puto ?_ rfl rfl)) (by decide) (by decide)
/-- what any act leaves: refused and the house stays, or done and the house is one act older -/
def PH (S R : w_S) (t top top' : Int) (ta L E V n : Nat) (y : Int) (S1 R1 : w_S) : Prop := okC S S1 ∧ okR R R1 ∧ (R1.2.2.2.1 ≤ R.2.2.2.1 ∨ R1.2.2.2.1 ≤ R.2.2.2.1 + 150 ∧ R1.2.2.2.1 + V ≤ R.2.2.2.1 + (S1.1 3 5).toNat) ∧ ((y < 0 ∧ R1.1 129 4 = 1 ∧ Same top S S1 ∧ frn R R1) ∨ (0 ≤ y ∧ R1.1 129 4 = R.1 129 4 ∧ ∃ ta' L' E' V' n', Hs S1 R1 (t + 1) top' ta' L' E' V' n' ∧ (V ≤ V' ∧ n ≤ n')))
/-- .. and a batch -/
def PHb (S R : w_S) (t top top' : Int) (ta L E V n : Nat) (y : Int) (S1 R1 : w_S) : Prop := okCb S S1 ∧ okRb R R1 ∧ (R1.2.2.2.1 ≤ R.2.2.2.1 ∨ R1.2.2.2.1 ≤ R.2.2.2.1 + 150 ∧ R1.2.2.2.1 + V ≤ R.2.2.2.1 + (S1.1 3 5).toNat) ∧ ((y < 0 ∧ R1.1 129 4 = 1 ∧ Same top S S1 ∧ frn R R1) ∨ (0 ≤ y ∧ R1.1 129 4 = R.1 129 4 ∧ ∃ ta' L' E' V' n', Hs S1 R1 (t + 1) top' ta' L' E' V' n' ∧ (V ≤ V' ∧ n ≤ n')))
theorem PH.b {S R S1 R1 : w_S} {t top top' y : Int} {ta L E V n : Nat} (h : PH S R t top top' ta L E V n y S1 R1) : PHb S R t top top' ta L E V n y S1 R1 := ⟨h.1.b, h.2.1.b, h.2.2⟩
theorem Hs.ref {S R : w_S} {t top : Int} {ta L E V n : Nat} (h : Hs S R t top ta L E V n) : Hs S (w_put R 129 4 1) t top ta L E V n := h.fr (L := []) (O := []) (J := []) (L' := []) (O' := [129]) (J' := [(129, 4)]) (frm.refl _ _ _ _) (by repeat (first | exact frm.refl _ _ _ _ | refine frm.put ?_ rfl | refine frm.puto ?_ rfl rfl)) (by decide)
/-- a refused act, and nothing happened -/
theorem PH.no {S R : w_S} {t top top' : Int} {ta L E V n : Nat} {y : Int} (h : Hs S R t top ta L E V n) (hy : y < 0) : PH S R t top top' ta L E V n y S (w_put R 129 4 1) := ⟨okC.refl S, okR.refused R, Or.inl (Nat.le_refl _), Or.inl ⟨hy, by simp only [w_put_r, reduceIte, Nat.reduceEqDiff, pt_at], Same.refl _ _, frn.of (L := []) (O := [129]) (J := [(129, 4)]) (by repeat (first | exact frm.refl _ _ _ _ | refine frm.put ?_ rfl | refine frm.puto ?_ rfl rfl)) (by decide) h.ta⟩⟩
theorem pa_l {S R S1 R1 : w_S} {t top : Int} {ta L E V n : Nat} {y y' : Int} (h : Hs S R t top ta L E V n) (q : Pa S R (fun _ => Ql S R t) y S1 y' R1) : y' = y ∧ PH S R t top top ta L E V n y S1 R1 := by
  obtain ⟨q1, q2⟩ := q
  refine ⟨q1, ?_⟩
  rcases q2 with ⟨a, b, c⟩ | ⟨a, b⟩
  · subst b
    subst c
    exact PH.no h a
  · exact ⟨okC.of b.1 (by decide), okR.of b.2.1 (by decide) (by decide), by rw [b.2.1.1]; omega, Or.inr ⟨a, b.2.1.2.2 129 4 rfl rfl, ta, L, E, V, n, hs_l h b, ⟨Nat.le_refl _, Nat.le_refl _⟩⟩⟩
theorem pa_f {S R S1 R1 : w_S} {t top : Int} {ta L E V n : Nat} {y y' : Int} (h : Hs S R t top ta L E V n) (q : Pa S R (fun _ => Qf S R t) y S1 y' R1) : y' = y ∧ PH S R t top top ta L E V n y S1 R1 := by
  obtain ⟨q1, q2⟩ := q
  refine ⟨q1, ?_⟩
  rcases q2 with ⟨a, b, c⟩ | ⟨a, b⟩
  · subst b
    subst c
    exact PH.no h a
  · exact ⟨okC.of b.1 (by decide), okR.of b.2.1 (by decide) (by decide), by rw [b.2.1.1]; omega, Or.inr ⟨a, b.2.1.2.2 129 4 rfl rfl, ta, L, E, V, n, hs_f h b, ⟨Nat.le_refl _, Nat.le_refl _⟩⟩⟩
theorem pa_s {S R S1 R1 : w_S} {t top : Int} {ta L E V n : Nat} {y y' : Int} (h : Hs S R t top ta L E V n) (q : Pa S R (fun _ => Qs S R) y S1 y' R1) : y' = y ∧ PH S R t top top ta L E V n y S1 R1 := by
  obtain ⟨q1, q2⟩ := q
  refine ⟨q1, ?_⟩
  rcases q2 with ⟨a, b, c⟩ | ⟨a, b⟩
  · subst b
    subst c
    exact PH.no h a
  · exact ⟨okC.of b.1 (by decide), okR.of b.2.1 (by decide) (by decide), by rw [b.2.1.1]; omega, Or.inr ⟨a, b.2.1.2.2 129 4 rfl rfl, ta, L, E, V, n, hs_s h b, ⟨Nat.le_refl _, Nat.le_refl _⟩⟩⟩
theorem pa_b {S R S1 R1 : w_S} {t top : Int} {ta L E V n : Nat} {y y' : Int} (h : Hs S R t top ta L E V n) (q : Pa S R (fun _ => Qb S R) y S1 y' R1) : y' = y ∧ PH S R t top top ta L E V n y S1 R1 := by
  obtain ⟨q1, q2⟩ := q
  refine ⟨q1, ?_⟩
  rcases q2 with ⟨a, b, c⟩ | ⟨a, b⟩
  · subst b
    subst c
    exact PH.no h a
  · exact ⟨okC.of b.1 (by decide), okR.of b.2.1 (by decide) (by decide), by rw [b.2.1.1]; omega, Or.inr ⟨a, b.2.1.2.2 129 4 rfl rfl, ta, L, E, V, n, hs_b h b, ⟨Nat.le_refl _, Nat.le_refl _⟩⟩⟩
end
