section
-- e1
theorem subs_le : ∀ {l : List Sfl}, (∀ s, s ∈ l → vrow s.2) → (l.flatMap sb).length ≤ 42 * l.length
  | [], _ => by simp
  | s :: l, h => by
    have h1 := (h s List.mem_cons_self).2.1
    have ih := subs_le (l := l) (fun t ht => h t (List.mem_cons_of_mem _ ht))
    rw [List.flatMap_cons, List.length_append, List.length_cons, sb, List.length_cons, List.length_cons]
    omega
theorem ser_le {f : Fdl} (h : vfd f) (h5 : f.2.2.2.length ≤ 5) : (ser f).length ≤ 217 := by
  rw [ser_len, fbd]
  split
  · next c =>
    obtain ⟨_, _, r, hr⟩ := h.2.2.2.1 c
    have := (h.2.2.1 (0, r) (by rw [hr]; exact List.mem_singleton.mpr rfl)).2.1
    rw [hr, List.flatMap_cons, List.flatMap_nil, List.append_nil]
    simp only at this ⊢
    omega
  · have := subs_le h.2.2.1
    rw [List.length_cons, List.length_cons]
    omega
/-- the name that is laid into a field of a version on a day -/
def nmo (R : w_S) (v d : Int) (F : Nat) : Option (List Int) := if lko R v (F : Int) d (R.1 129 31).toNat = 0 then none else some (nmb R (nmk R (lko R v (F : Int) d (R.1 129 31).toNat) d (R.1 129 26).toNat).toNat)
theorem lko_cg {R R1 : w_S} (h6 : R1.1 146 = R.1 146) (h7 : R1.1 147 = R.1 147) (h8 : R1.1 148 = R.1 148) (h9 : R1.1 149 = R.1 149) (v F d : Int) : ∀ n, lko R1 v F d n = lko R v F d n
  | 0 => rfl
  | n + 1 => by
    have : lkP R1 v F d n = lkP R v F d n := by
      unfold lkP
      rw [h6, h7, h9]
    rw [lko, lko, this, h8, lko_cg h6 h7 h8 h9 v F d n]
theorem nmo_fr {R R1 : w_S} {L O : List Nat} {J : List (Nat × Nat)} (h : frm L O J R R1) (hd : (ckA L O [142, 143, 144, 145, 146, 147, 148, 149] && ckS L J [(129, 31), (129, 26)]) = true) (v d : Int) (F : Nat) : nmo R1 v d F = nmo R v d F := by
  simp only [ckA, ckS, Bool.and_eq_true, List.all_eq_true, Bool.not_eq_true'] at hd
  have ar : ∀ a, a ∈ [142, 143, 144, 145, 146, 147, 148, 149] → R1.1 a = R.1 a := fun a ha => h.2.1 a (hd.1 a ha).1 (hd.1 a ha).2
  have s1 : R1.1 129 31 = R.1 129 31 := h.2.2 129 31 (hd.2 (129, 31) (by decide)).1 (hd.2 (129, 31) (by decide)).2
  have s2 : R1.1 129 26 = R.1 129 26 := h.2.2 129 26 (hd.2 (129, 26) (by decide)).1 (hd.2 (129, 26) (by decide)).2
  unfold nmo nmb nmk
  simp only [lko_cg (ar 146 (by decide)) (ar 147 (by decide)) (ar 148 (by decide)) (ar 149 (by decide)), ar 142 (by decide), ar 143 (by decide), ar 144 (by decide), ar 145 (by decide), s1, s2]
theorem ser_bd {f : Fdl} (c : ¬ f.1 < 10) {pre post : List Sfl} {s : Sfl} (h : f.2.2.2 = pre ++ s :: post) : ser f = ((tg3 f.1 ++ 32 :: f.2.1 :: f.2.2.1 :: pre.flatMap sb) ++ [36, s.1]) ++ (s.2 ++ (post.flatMap sb ++ [10])) := by
  rw [ser, fbd, if_neg c, h, List.flatMap_append, List.flatMap_cons, sb]
  simp only [List.append_assoc, List.cons_append, List.nil_append]
theorem tg3_len (t : Int) : (tg3 t).length = 3 := rfl
theorem rw36 {b : Int} (h : rwb b = true) : b ≠ 36 := by
  rintro rfl
  revert h
  decide
theorem rwb_b {b : Int} (h : rwb b = true) : 0 ≤ b ∧ b ≤ 127 := by
  unfold rwb at h
  simp only [Bool.and_eq_true, decide_eq_true_eq] at h
  omega
/-- a field comes to the page -/
theorem x_bf {e : w_E} {N ta L : Nat} {S R : w_S} {top d v x5 : Int} {f : Fdl} {P : Int → w_S → Prop} {p i n : Nat} (hN : 5000 ≤ N) (hNL : L < N) (hk : RelLk S R) (hn : RelNm S R top) (h2 : R.2.1 2 = ta) (hta : ta = 140 ∨ 238 ≤ ta) (hf : Fat R ta L p f) (h5 : f.2.2.2.length ≤ 5) (hi : i ≤ 12) (hp : (p : Int) < x5) (hx5 : x5 ≤ L) (hL : L < 16000000) (g5 : 0 ≤ R.1 129 37) (g6 : R.1 129 37 + 217 ≤ 4000) (K : ∀ R1, Pgd R (ser (lyf (nmo R v d i) f)) R1 → Ok (El_R_build e N n 0 [d, v, ((p + (ser f).length : Nat) : Int), x5, ((i + 1 : Nat) : Int)] [] R1) P) : Ok (El_R_build e N (n + 1) 0 [d, v, (p : Int), x5, (i : Int)] [] R) P := by
  have kk := hk
  obtain ⟨l1, l2, l3, l4⟩ := kk
  have nn := hn
  obtain ⟨n1, n2, n3, n4, n5, n6, n7, n8⟩ := nn
  have hff := hf
  obtain ⟨a1, a2, a3, a4, a5⟩ := hff
  have sl := ser_len f
  have s217 := ser_le a5 h5
  have c150 : ta ≠ 150 := by omega
  have c129 : ta ≠ 129 := by omega
  rw [El_R_build, h2]
  refine ok_e (by omega) (ok_b (ok_of (x_fieldEnd hNL hf) (ok_b (ok_of (x_lkR (by omega) hk) ?_))))
  dsimp only
  rw [← l1, h2, show ((p + (fbd f).length + 4 : Nat) : Int) + 1 = ((p + (ser f).length : Nat) : Int) by omega, show (i : Int) + 1 = ((i + 1 : Nat) : Int) by omega]
  have plain : lyf (nmo R v d i) f = f → Ok (E_R_copyToPage e N (p : Int) ((p + (ser f).length : Nat) : Int) ta R) (fun _ R1 => Ok (El_R_build e N n 0 [d, v, ((p + (ser f).length : Nat) : Int), x5, ((i + 1 : Nat) : Int)] [] R1) P) := by
    intro w
    rw [w] at K
    exact (x_ctp (by omega) (ser f) c150 c129 a2 a1 a4 a3 (ser_b a5) g5 (by omega) rfl rfl).mono (fun _ R1 q => K R1 q)
  by_cases c : lko R v (i : Int) d (R.1 129 31).toNat = 0
  · rw [c]
    have w : lyf (nmo R v d i) f = f := by
      unfold nmo
      rw [if_pos c]
      rfl
    exact ok_e (fun w => w rfl) (ok_nb (by omega) (ok_b ((plain w).mono (fun _ R1 q => ok_nb (by omega) q))))
  · obtain ⟨z, z1, z2⟩ := x_firstA2 (e := e) (N := N) (by omega) hNL hf
    refine ok_t c (ok_b (ok_of z1 ?_))
    dsimp only
    rw [h2]
    generalize hg : lko R v (i : Int) d (R.1 129 31).toNat = h at c
    by_cases c2 : (if f.1 < 10 then none else fsb 97 f.2.2.2) = none
    · have hz : z = -1 := by
        rcases z2 with ⟨_, z2⟩ | ⟨k, z2, _⟩
        · exact z2
        · rw [c2] at z2; cases z2
      have w : lyf (nmo R v d i) f = f := by
        unfold nmo
        rw [hg, if_neg c]
        show (f.1, f.2.1, f.2.2.1, rpl _ f.2.2.2) = f
        have fn : fsi 97 f.2.2.2 = none := by
          by_cases c3 : f.1 < 10
          · exact fsi_ctl a5 c3
          · rw [if_neg c3] at c2
            have := fsb_fsi 97 f.2.2.2
            rw [c2] at this
            cases hb : fsi 97 f.2.2.2 with
            | none => rfl
            | some k => rw [hb] at this; cases this
        rw [rpl_none _ _ fn]
      exact ok_e (by omega) (ok_nb (by omega) (ok_b ((plain w).mono (fun _ R1 q => ok_nb (by omega) q))))
    · have c3 : ¬ f.1 < 10 := fun w => c2 (by rw [if_pos w])
      obtain ⟨k, hk2, hz⟩ : ∃ k, fsb 97 f.2.2.2 = some k ∧ z = ((p + 6 + k : Nat) : Int) := by
        rw [if_neg c3] at z2
        rcases z2 with ⟨w, _⟩ | ⟨k, w1, w2⟩
        · exact absurd (by rw [if_neg c3]; exact w) c2
        · exact ⟨k, w1, w2⟩
      subst hz
      clear z2
      have lb := lko_b (v := v) (F := (i : Int)) (d := d) hk (R.1 129 31).toNat (by omega)
      rw [hg] at lb
      rcases lb with ⟨b1, b2, b3⟩ | lb
      rotate_left
      · omega
      have h1 : 1 ≤ h := by
        clear b3
        omega
      obtain ⟨j, j1, j2, j3⟩ := b3 h1
      clear b3
      have nk : 0 ≤ nmk R h d (S.1 17 3).toNat := gk_pos (k := j) (by omega) (by rw [j2]; simp [j3])
      have nkb := gk_b (fun j => decide (R.1 142 j = h) && decide (R.1 143 j ≤ d)) (S.1 17 3).toNat
      refine ok_t (by omega) (ok_b (ok_of (x_nmR (by omega) hn) ?_))
      dsimp only
      rw [h2]
      have w : lyf (nmo R v d i) f = (f.1, f.2.1, f.2.2.1, rpl (nmb R (nmk R h d (S.1 17 3).toNat).toNat) f.2.2.2) := by
        unfold nmo
        rw [hg, if_neg c, n4]
        rfl
      rw [w] at K
      have nmbk : nmk R h d (S.1 17 3).toNat = gk (fun j => decide (R.1 142 j = h) && decide (R.1 143 j ≤ d)) (S.1 17 3).toNat := rfl
      generalize hnk : nmk R h d (S.1 17 3).toNat = q0 at nk K nmbk ⊢
      obtain ⟨q, hq⟩ : ∃ q : Nat, q0 = q := ⟨q0.toNat, by omega⟩
      subst hq
      rw [show ((q : Int)).toNat = q by omega] at K ⊢
      obtain ⟨nv1, nv2⟩ := nmb_v hn (k := q) (by omega)
      have nl := nmb_len R q
      obtain ⟨_, _, _, _, _, _, m, m1, m2, m3, m4, m5⟩ := n8 q (by omega)
      generalize hr : nmb R q = r at K nv1 nl
      obtain ⟨pre, s, post, z1, z2, z3, z4⟩ := fsb_split (r := r) hk2
      rw [z4] at K
      have s1 := ser_bd c3 z1
      have s2 := ser_bd (f := (f.1, f.2.1, f.2.2.1, pre ++ (s.1, r) :: post)) c3 rfl
      rw [s2] at K
      dsimp only at K
      generalize hA : (tg3 f.1 ++ 32 :: f.2.1 :: f.2.2.1 :: pre.flatMap sb) ++ [36, s.1] = A at s1 K
      generalize hB : post.flatMap sb ++ [10] = B at s1 K
      have sl0 := ser_len f
      have n217 : A.length + (r.length + B.length) ≤ 217 := by
        have lv : vfd (lyf (some r) f) := lyf_v a5 (fun x hx => by cases hx; exact nv1)
        have := ser_le lv (by rw [lyf_sub]; exact h5)
        rw [lyf, z4, s2] at this
        rw [← hA, ← hB]
        simp only [List.length_append, List.length_cons, List.length_nil] at this ⊢
        omega
      have lA : A.length = k + 8 := by
        rw [← hA]
        simp only [List.length_append, List.length_cons, List.length_nil, tg3_len]
        omega
      have sv := a5.2.2.1 s (by rw [z1]; exact List.mem_append_right _ List.mem_cons_self)
      rw [s1] at a3 a4 sl s217
      rw [byt_app, byt_app] at a3
      rw [List.length_append, List.length_append] at a4 sl s217
      have bb := ser_b a5
      rw [s1] at bb
      -- the first piece
      refine ok_nb (by omega) (ok_b ?_)
      refine (x_ctp (e := e) (N := N) (x2 := (p : Int)) (x3 := ((p + 6 + k : Nat) : Int) + 2) (by omega) A c150 c129 a2 a1 (by omega) a3.1 (fun b hb => bb b (List.mem_append_left _ hb)) g5 (by omega) rfl (by omega)).mono ?_
      intro _ R1 P1
      have r45 : R1.1 145 = R.1 145 := P1.1.2.1 145 rfl rfl
      have r44 : R1.1 144 = R.1 144 := P1.1.2.1 144 rfl rfl
      have rta : R1.1 ta = R.1 ta := P1.1.2.1 ta (by simp only [List.contains_cons, List.contains_nil, Bool.or_false, beq_eq_false_iff_ne, ne_eq]; exact c150) (by simp only [List.contains_cons, List.contains_nil, Bool.or_false, beq_eq_false_iff_ne, ne_eq]; exact c129)
      dsimp only
      rw [r44, m3]
      refine ok_nb (by omega) (ok_ib (by omega) (ok_nb (by omega) (ok_b ?_)))
      have ps1 := P1.2.1
      have rl : r.length = m := by omega
      have l145 : e_len Tr R1 145 1 = some 9600 := rfl
      refine (x_ctp (e := e) (N := N) (x2 := 40 * (q : Int)) (x3 := 40 * (q : Int) + (m : Int)) (by omega) r (by decide) (by decide) (by decide) l145 (p := 40 * q) (by omega) (by rw [r45, ← hr]; exact nmb_byt R q) (fun b hb => rwb_b (nv1.2.2 b hb)) (by omega) (by omega) (by omega) (by omega)).mono ?_
      intro _ R2 P2
      have rta2 : R2.1 ta = R1.1 ta := P2.1.2.1 ta (by simp only [List.contains_cons, List.contains_nil, Bool.or_false, beq_eq_false_iff_ne, ne_eq]; exact c150) (by simp only [List.contains_cons, List.contains_nil, Bool.or_false, beq_eq_false_iff_ne, ne_eq]; exact c129)
      have ta2 : R2.2.1 2 = ta := by rw [P2.1.1, P1.1.1, h2]
      have len2 : e_len Tr R2 ta 1 = some L := by rw [len_cg P2.1.1, len_cg P1.1.1]; exact a1
      have ps2 := P2.2.1
      dsimp only
      rw [ta2]
      have lB : 1 ≤ B.length := by
        rw [← hB, List.length_append, List.length_singleton]
        omega
      have by2 : byt (R2.1 ta) (p + A.length) s.2 := by rw [rta2, rta]; exact a3.2.1
      have by3 : byt (R2.1 ta) (p + A.length + s.2.length) B := by rw [rta2, rta]; exact a3.2.2
      have re := l_rowEnd (e := e) (N := N) (q := ((p + (fbd f).length + 4 : Nat) : Int)) len2 a2 s.2 (p + A.length) N (fun b hb => rw36 (sv.2.2 b hb)) by2 (by omega) (by omega) ?_ (by have := sv.2.1; omega)
      rotate_left
      · cases post with
        | nil =>
          left
          rw [List.flatMap_nil, List.nil_append] at hB
          rw [← hB, List.length_singleton] at sl
          omega
        | cons t post =>
          right
          rw [List.flatMap_cons, sb, List.cons_append, List.cons_append] at hB
          rw [← hB] at by3
          exact by3.1
      rw [show ((p + A.length : Nat) : Int) = ((p + 6 + k : Nat) : Int) + 2 by omega] at re
      unfold E_R_rowEnd
      refine ok_b (ok_of re ?_)
      dsimp only
      refine ok_nb (by omega) (ok_b ?_)
      refine (x_ctp (e := e) (N := N) (x2 := ((p + A.length + s.2.length : Nat) : Int)) (x3 := ((p + (ser f).length : Nat) : Int)) (by omega) B c150 c129 a2 len2 (p := p + A.length + s.2.length) (by omega) by3 (fun b hb => bb b (List.mem_append_right _ (List.mem_append_right _ hb))) (by omega) (by omega) rfl (by omega)).mono ?_
      intro _ R3 P3
      refine ok_nb (by omega) ?_
      have K2 := K R3 (Pgd.trans g5 P1 (Pgd.trans (by omega) P2 P3))
      exact K2
end
section
-- e2
theorem l_bld {e : w_E} {N ta L : Nat} {S R0 : w_S} {top d v x5 : Int} {P : Int → w_S → Prop} (hN : 5000 ≤ N) (hNL : L < N) (hk : RelLk S R0) (hn : RelNm S R0 top) (h2 : R0.2.1 2 = ta) (hta : ta = 140 ∨ 238 ≤ ta) (hL : L < 16000000) (hl : e_len Tr R0 ta 1 = some L) (hx5 : x5 ≤ L) : ∀ (l : List Fdl) (p i nf : Nat) (R : w_S), frm [150] [129] [(129, 37)] R0 R → (∀ f, f ∈ l → vfd f ∧ f.2.2.2.length ≤ 5) → byt (R0.1 ta) p (doc l) → ((p + (doc l).length : Nat) : Int) = x5 → l.length < nf → i + l.length ≤ 12 → 0 ≤ R.1 129 37 → R.1 129 37 + 217 * (l.length : Nat) ≤ 4000 → (∀ R1, Pgd R (doc (lyd (nmo R0 v d) i l)) R1 → P 0 R1) → Ok (El_R_build e N nf 0 [d, v, (p : Int), x5, (i : Int)] [] R) P
  | _, _, _, 0, _, _, _, _, _, h, _, _, _, _ => by omega
  | [], p, i, nf + 1, R, g1, g2, g3, g4, g5, g6, g7, g8, g9 => by
    rw [El_R_build]
    rw [doc, List.flatMap_nil, List.length_nil] at g4
    exact ok_t (by omega) (ok_s (g9 R (Pgd.nil R)))
  | f :: l, p, i, nf + 1, R, g1, g2, g3, g4, g5, g6, g7, g8, g9 => by
    obtain ⟨hf, hf5⟩ := g2 f List.mem_cons_self
    rw [doc, List.flatMap_cons] at g3 g4
    rw [byt_app] at g3
    rw [List.length_append] at g4
    rw [List.length_cons] at g5 g6 g8
    have sl := ser_len f
    have rta : R.1 ta = R0.1 ta := g1.2.1 ta (by simp only [List.contains_cons, List.contains_nil, Bool.or_false, beq_eq_false_iff_ne, ne_eq]; omega) (by simp only [List.contains_cons, List.contains_nil, Bool.or_false, beq_eq_false_iff_ne, ne_eq]; omega)
    have fa : Fat R ta L p f := ⟨by rw [len_cg g1.1]; exact hl, by omega, by rw [rta]; exact g3.1, by omega, hf⟩
    have hk' : RelLk S R := hk.fr (L := []) (O := []) (J := []) (frm.refl _ _ _ _) g1 (by decide)
    have hn' : RelNm S R top := hn.fr (L := []) (O := []) (J := []) (frm.refl _ _ _ _) g1 (by decide)
    refine x_bf (top := top) hN hNL hk' hn' (by rw [g1.1]; exact h2) hta fa hf5 (by omega) (by omega) hx5 hL g7 (by omega) (fun R1 q => ?_)
    rw [nmo_fr g1 (by decide)] at q
    have q2 := q.2.1
    have lv : vfd (lyf (nmo R0 v d i) f) := lyf_v hf (fun x hx => ?_)
    have l5 := ser_le lv (by rw [lyf_sub]; exact hf5)
    refine l_bld (e := e) (P := P) hN hNL hk hn h2 hta hL hl hx5 l (p + (ser f).length) (i + 1) nf R1 (g1.trans q.1) (fun f hf => g2 f (List.mem_cons_of_mem _ hf)) g3.2 (by rw [doc]; omega) (by omega) (by omega) (by omega) (by omega) (fun R2 q3 => g9 R2 ?_)
    · rw [lyd, doc, List.flatMap_cons]
      exact Pgd.trans g7 q q3
    · unfold nmo at hx
      split at hx
      · cases hx
      · next c =>
        cases hx
        obtain ⟨n1, n2, n3, n4, n5, n6, n7, n8⟩ := hn
        have hkk := hk
        obtain ⟨l1, l2, l3, l4⟩ := hkk
        have lb := lko_b (v := v) (F := (i : Int)) (d := d) hk (R0.1 129 31).toNat (by omega)
        generalize hg : lko R0 v (i : Int) d (R0.1 129 31).toNat = h at c lb
        rcases lb with ⟨b1, b2, b3⟩ | lb
        · obtain ⟨j, j1, j2, j3⟩ := b3 (by omega)
          have nk : 0 ≤ nmk R0 h d (R0.1 129 26).toNat := gk_pos (k := j) (by omega) (by rw [j2]; simp [j3])
          have nkb := gk_b (fun j => decide (R0.1 142 j = h) && decide (R0.1 143 j ≤ d)) (R0.1 129 26).toNat
          have nke : nmk R0 h d (R0.1 129 26).toNat = gk (fun j => decide (R0.1 142 j = h) && decide (R0.1 143 j ≤ d)) (R0.1 129 26).toNat := rfl
          exact (nmb_v ⟨n1, n2, n3, n4, n5, n6, n7, n8⟩ (by omega)).1
        · omega
/-- every name that is laid is a row -/
theorem nmo_v {S R : w_S} {top v d : Int} (hk : RelLk S R) (hn : RelNm S R top) (i : Nat) : ∀ x, nmo R v d i = some x → vrow x := by
  intro x hx
  unfold nmo at hx
  split at hx
  · cases hx
  · next c =>
    cases hx
    obtain ⟨n1, n2, n3, n4, n5, n6, n7, n8⟩ := hn
    have hkk := hk
    obtain ⟨l1, l2, l3, l4⟩ := hkk
    have lb := lko_b (v := v) (F := (i : Int)) (d := d) hk (R.1 129 31).toNat (by omega)
    generalize hg : lko R v (i : Int) d (R.1 129 31).toNat = h at c lb
    rcases lb with ⟨b1, b2, b3⟩ | lb
    · obtain ⟨j, j1, j2, j3⟩ := b3 (by omega)
      have nk : 0 ≤ nmk R h d (R.1 129 26).toNat := gk_pos (k := j) (by omega) (by rw [j2]; simp [j3])
      have nkb := gk_b (fun j => decide (R.1 142 j = h) && decide (R.1 143 j ≤ d)) (R.1 129 26).toNat
      have nke : nmk R h d (R.1 129 26).toNat = gk (fun j => decide (R.1 142 j = h) && decide (R.1 143 j ≤ d)) (R.1 129 26).toNat := rfl
      exact (nmb_v ⟨n1, n2, n3, n4, n5, n6, n7, n8⟩ (by omega)).1
    · omega
theorem doc_le : ∀ {D : List Fdl}, (∀ f, f ∈ D → vfd f ∧ f.2.2.2.length ≤ 5) → (doc D).length ≤ 217 * D.length
  | [], _ => by simp [doc]
  | f :: D, h => by
    have h1 := h f List.mem_cons_self
    have h2 := ser_le h1.1 h1.2
    have ih := doc_le (D := D) (fun g hg => h g (List.mem_cons_of_mem _ hg))
    rw [doc] at ih
    rw [doc, List.flatMap_cons, List.length_append, List.length_cons]
    omega
theorem mem_of_get {D : List Fdl} {f : Fdl} (h : f ∈ D) : ∃ F, F < D.length ∧ D.getD F (0, 0, 0, []) = f := by
  obtain ⟨F, hF, e⟩ := List.getElem_of_mem h
  refine ⟨F, hF, ?_⟩
  rw [List.getD_eq_getElem?_getD, List.getElem?_eq_getElem hF, Option.getD_some, e]
/-- the reference builds the print of a record's version on a day -/
theorem x_build {e : w_E} {N v : Nat} {S R : w_S} {r d top : Int} {ta L E V n : Nat} {D : List Fdl} (hN : 16000000 ≤ N) (hv : RelVr S R top ta L E V n) (hk : RelLk S R) (hn : RelNm S R top) (hg : gk (fun j => decide (R.1 136 j = r) && decide (R.1 137 j ≤ d)) V = v) (hD : VrD S R (S.1 2) top ta E v D) : Ok (E_R_build e N r d R) (fun _ R1 => frm [150] [129] [(129, 37)] R R1 ∧ R1.1 129 37 = ((doc (lyd (nmo R v d) 0 D)).length : Nat) ∧ byt (R1.1 150) 0 (doc (lyd (nmo R v d) 0 D))) := by
  obtain ⟨k1, k2, k3, k4, k5, k6, k7, k8, k9, k10, k11⟩ := hv
  obtain ⟨D1, D2, D3, D4, D5, D6, p, D7, D8, D9, D10, D11⟩ := hD
  obtain ⟨t1, t2, t3, t4, t5, t6, t7, t8, t9, t10, t11, t12⟩ := k1
  have gb := gk_b (fun j => decide (R.1 136 j = r) && decide (R.1 137 j ≤ d)) V
  have vo := x_rvOn (e := e) (N := N) (r := r) (d := d) (by omega) k4 k5
  rw [hg] at vo
  unfold E_R_build
  refine ok_b (ok_of vo (ok_ib (by omega) ?_))
  dsimp only
  rw [show ((v : Int)).toNat = v by omega, D7, D8]
  refine ok_nb (by omega) ?_
  have f0 : frm [150] [129] [(129, 37)] R (w_put R 129 37 0) := by repeat (first | exact frm.refl _ _ _ _ | refine frm.put ?_ rfl | refine frm.puto ?_ rfl rfl)
  have e0 : (w_put R 129 37 0).1 129 37 = 0 := by simp only [w_put_r, reduceIte, Nat.reduceEqDiff, pt_at]
  refine l_bld (S := S) (top := top) (x5 := (p : Int) + ((doc D).length : Nat)) (by omega) (by omega) hk hn t1 k2 (by omega) t7 (by omega) D p 0 N _ f0 (fun f hf => ?_) D11 (by omega) (by omega) (by omega) (by omega) (by omega) (fun R1 q => ?_)
  · obtain ⟨F, hF, rfl⟩ := mem_of_get hf
    exact ⟨D5 _ hf, D4 F hF⟩
  · refine ⟨f0.trans q.1, by rw [q.2.1, e0]; omega, ?_⟩
    have := q.2.2.2
    rw [e0] at this
    exact this
end
section
-- e3
theorem fsi_lt {c : Int} : ∀ {l : List Sfl} {k : Nat}, fsi c l = some k → k < l.length
  | [], _, h => by cases h
  | s :: l, k, h => by
    rw [fsi] at h
    rw [List.length_cons]
    split at h
    · cases h; omega
    · cases h2 : fsi c l with
      | none => rw [h2] at h; cases h
      | some j =>
        rw [h2, Option.map_some, Option.some.injEq] at h
        subst h
        have := fsi_lt h2
        omega
theorem l_ly0 {e : w_E} {N nD : Nat} {S0 R : w_S} {v d : Int} {P : Int → w_S → Prop} (hk : RelLk S0 R) (hD : S0.1 120 0 = nD) (hD2 : nD ≤ 12) : ∀ (k i nf : Nat) (S : w_S), ((i + k : Nat) : Int) = S0.1 17 7 → k < nf → frm [124] [] [] S0 S → (∀ F : Nat, F < nD → S.1 124 F = lko R v (F : Int) d i) → (∀ S1 n', nf ≤ n' + k + 1 → frm [124] [] [] S0 S1 → (∀ F : Nat, F < nD → S1.1 124 F = lko R v (F : Int) d (S0.1 17 7).toNat) → Ok (El_Authority_layNames e N n' 1 [d, 0] [] S1) P) → Ok (El_Authority_layNames e N nf 0 [v, d, (i : Int)] [] S) P
  | _, _, 0, _, _, h, _, _, _ => by omega
  | 0, i, nf + 1, S, g1, g2, g3, g4, g5 => by
    rw [El_Authority_layNames, g3.2.1 17 rfl rfl]
    refine ok_t (by omega) (g5 S nf (by omega) g3 (fun F hF => ?_))
    rw [g4 F hF, show (S0.1 17 7).toNat = i by omega]
  | k + 1, i, nf + 1, S, g1, g2, g3, g4, g5 => by
    have kk := hk
    obtain ⟨l1, l2, l3, l4⟩ := kk
    obtain ⟨r1, r2, r3, r4, r5, r6, r7, r8, r9, _⟩ := l4 i (by omega)
    rw [El_Authority_layNames, g3.2.1 17 rfl rfl, g3.2.1 23 rfl rfl, g3.2.1 24 rfl rfl, g3.2.1 25 rfl rfl, g3.2.1 26 rfl rfl, g3.2.1 120 rfl rfl, show ((i : Int)).toNat = i by omega, hD]
    refine ok_e (by omega) (ok_ib (by omega) ?_)
    have nx : ∀ S2, frm [124] [] [] S0 S2 → (∀ F : Nat, F < nD → S2.1 124 F = lko R v (F : Int) d (i + 1)) → Ok (El_Authority_layNames e N nf 0 [v, d, (i : Int) + 1] [] S2) P := by
      intro S2 a b
      have := l_ly0 (e := e) (N := N) (P := P) hk hD hD2 k (i + 1) nf S2 (by omega) (by omega) a b (fun S1 n' h1 h2 h3 => g5 S1 n' (by omega) h2 h3)
      rw [show (i : Int) + 1 = ((i + 1 : Nat) : Int) by omega]
      exact this
    have no : (∀ F : Nat, F < nD → lkP R v (F : Int) d i = false) → ∀ F : Nat, F < nD → S.1 124 F = lko R v (F : Int) d (i + 1) := by
      intro a F hF
      rw [lko, a F hF, if_neg (by decide)]
      exact g4 F hF
    by_cases c1 : S0.1 23 i = v
    · refine ok_e (fun w => w c1) ?_
      by_cases c2 : d < S0.1 26 i
      · refine ok_t c2 (ok_nb (by omega) (nx S g3 (no (fun F hF => ?_))))
        unfold lkP
        rw [r4, decide_eq_false (show ¬ S0.1 26 i ≤ d by omega), Bool.and_false]
      · refine ok_e c2 ?_
        by_cases c3 : (nD : Int) ≤ S0.1 24 i
        · refine ok_t c3 (ok_nb (by omega) (nx S g3 (no (fun F hF => ?_))))
          unfold lkP
          rw [r2, decide_eq_false (show ¬ S0.1 24 i = (F : Int) by omega), Bool.and_false, Bool.false_and]
        · refine ok_e c3 (ok_ib (by omega) (ok_nb (by omega) (nx _ (frm.put g3 rfl) (fun F hF => ?_))))
          show pt (S.1 124) (S0.1 24 i).toNat (S0.1 25 i) F = _
          rw [pt_at, lko]
          unfold lkP
          rw [r1, r2, r3, r4, decide_eq_true c1, decide_eq_true (show S0.1 26 i ≤ d by omega), Bool.true_and, Bool.and_true]
          by_cases c4 : S0.1 24 i = (F : Int)
          · rw [decide_eq_true c4, if_pos (show F = (S0.1 24 i).toNat by omega), if_pos rfl]
          · rw [decide_eq_false c4, if_neg (show ¬ F = (S0.1 24 i).toNat by omega), if_neg (show ¬ (false = true) by decide)]
            exact g4 F hF
    · refine ok_t c1 (ok_nb (by omega) (nx S g3 (no (fun F hF => ?_))))
      unfold lkP
      rw [r1, decide_eq_false c1, Bool.false_and, Bool.false_and]
theorem l_ly1 {e : w_E} {N : Nat} {S0 R : w_S} {v d top : Int} {D : List Fdl} (hN : 1000 ≤ N) (hk : RelLk S0 R) (hn : RelNm S0 R top) (hD : S0.1 120 0 = (D.length : Nat)) (hD2 : D.length ≤ 12) (hs : ∀ F, F < D.length → (D.getD F (0, 0, 0, [])).2.2.2.length ≤ 5) (h4 : ∀ F : Nat, F < D.length → S0.1 124 F = lko R v (F : Int) d (R.1 129 31).toNat) : ∀ (k F nf : Nat) (S : w_S), F + k = D.length → k < nf → frm [127] [] [] S0 S → (∀ G, G < F → DrF S (S0.1 2) top G (lyf (nmo R v d G) (D.getD G (0, 0, 0, [])))) → (∀ G, F ≤ G → G < D.length → DrF S (S0.1 2) top G (D.getD G (0, 0, 0, []))) → Ok (El_Authority_layNames e N nf 1 [d, (F : Int)] [] S) (fun _ S1 => frm [127] [] [] S0 S1 ∧ ∀ G, G < D.length → DrF S1 (S0.1 2) top G (lyf (nmo R v d G) (D.getD G (0, 0, 0, []))))
  | _, _, 0, _, _, h, _, _, _ => by omega
  | 0, F, nf + 1, S, g1, g2, g3, g4, g5 => by
    rw [El_Authority_layNames, g3.2.1 120 rfl rfl, hD]
    exact ok_t (by omega) (ok_s ⟨g3, fun G hG => g4 G (by omega)⟩)
  | k + 1, F, nf + 1, S, g1, g2, g3, g4, g5 => by
    have df := g5 F (by omega) (by omega)
    have ls := hs F (by omega)
    have h4F := h4 F (by omega)
    generalize hdd : D.getD F (0, 0, 0, []) = f at df ls
    have kk := hk
    obtain ⟨l1, l2, l3, l4⟩ := kk
    have nn := hn
    obtain ⟨n1, n2, n3, n4, n5, n6, n7, n8⟩ := nn
    obtain ⟨sz, sl, slc⟩ := x_slot2 (e := e) (N := N) (c := 97) (by omega) (by omega) (by omega) df
    have nx : ∀ S2, frm [127] [] [] S0 S2 → (∀ G, G < F + 1 → DrF S2 (S0.1 2) top G (lyf (nmo R v d G) (D.getD G (0, 0, 0, [])))) → (∀ G, F + 1 ≤ G → G < D.length → DrF S2 (S0.1 2) top G (D.getD G (0, 0, 0, []))) → Ok (El_Authority_layNames e N nf 1 [d, (F : Int) + 1] [] S2) (fun _ S1 => frm [127] [] [] S0 S1 ∧ ∀ G, G < D.length → DrF S1 (S0.1 2) top G (lyf (nmo R v d G) (D.getD G (0, 0, 0, [])))) := by
      intro S2 a b c
      have := l_ly1 (e := e) (N := N) hN hk hn hD hD2 hs h4 k (F + 1) nf S2 (by omega) (by omega) a b c
      rw [show (F : Int) + 1 = ((F + 1 : Nat) : Int) by omega]
      exact this
    have same : lyf (nmo R v d F) f = f → Ok (El_Authority_layNames e N nf 1 [d, (F : Int) + 1] [] S) (fun _ S1 => frm [127] [] [] S0 S1 ∧ ∀ G, G < D.length → DrF S1 (S0.1 2) top G (lyf (nmo R v d G) (D.getD G (0, 0, 0, [])))) := by
      intro w
      refine nx S g3 (fun G hG => ?_) (fun G a b => g5 G (by omega) b)
      by_cases e1 : G = F
      · subst e1
        rw [hdd, w]
        exact df
      · exact g4 G (by omega)
    rw [El_Authority_layNames, g3.2.1 120 rfl rfl, hD]
    refine ok_e (by omega) (ok_b (ok_of sl (ok_ib (by omega) ?_)))
    dsimp only
    rw [g3.2.1 124 rfl rfl, show ((F : Int)).toNat = F by omega, h4F]
    have lb := lko_b (v := v) (F := (F : Int)) (d := d) hk (R.1 129 31).toNat (by omega)
    generalize hg : lko R v (F : Int) d (R.1 129 31).toNat = h at lb
    by_cases c : h = 0
    · refine ok_t c (ok_nb (by omega) (same ?_))
      unfold nmo
      rw [hg, if_pos c]
      rfl
    refine ok_e c ?_
    rcases lb with ⟨b1, b2, b3⟩ | lb
    rotate_left
    · omega
    cases hb : fsi 97 f.2.2.2 with
    | none =>
      have hz : sz = -1 := by
        rcases slc with ⟨_, w⟩ | ⟨k, w, _⟩
        · exact w
        · rw [hb] at w; cases w
      refine ok_t hz (ok_nb (by omega) (same ?_))
      unfold nmo
      rw [hg, if_neg c]
      show (f.1, f.2.1, f.2.2.1, rpl _ f.2.2.2) = f
      rw [rpl_none _ _ hb]
    | some j =>
      have hz : sz = ((13 * F + j : Nat) : Int) := by
        rcases slc with ⟨w, _⟩ | ⟨k, w, w2⟩
        · rw [hb] at w; cases w
        · rw [hb] at w; cases w; exact w2
      subst hz
      clear slc
      have h1 : 1 ≤ h := by
        clear b3
        omega
      obtain ⟨j0, j1, j2, j3⟩ := b3 h1
      clear b3
      have nk : 0 ≤ nmk R h d (S0.1 17 3).toNat := gk_pos (k := j0) (by omega) (by rw [j2]; simp [j3])
      have nkb := gk_b (fun j => decide (R.1 142 j = h) && decide (R.1 143 j ≤ d)) (S0.1 17 3).toNat
      have nke : nmk R h d (S0.1 17 3).toNat = gk (fun j => decide (R.1 142 j = h) && decide (R.1 143 j ≤ d)) (S0.1 17 3).toNat := rfl
      have hn' : RelNm S R top := hn.fr (L' := []) (O' := []) (J' := []) g3 (frm.refl _ _ _ _) (by decide)
      have s17 : S.1 17 = S0.1 17 := g3.2.1 17 rfl rfl
      have xn := x_nmC (e := e) (N := N) (d := d) (h := h) hN hn' (by omega) (by rw [s17]; exact b2) (by rw [s17]; exact nk)
      rw [s17] at xn
      have nm : nmo R v d F = some (nmb R (nmk R h d (S0.1 17 3).toNat).toNat) := by
        unfold nmo
        rw [hg, if_neg c, n4]
      generalize hnk : nmk R h d (S0.1 17 3).toNat = q0 at nk nke xn nm
      obtain ⟨q, hq⟩ : ∃ q : Nat, q0 = q := ⟨q0.toNat, by omega⟩
      subst hq
      rw [show ((q : Int)).toNat = q by omega] at xn nm
      have nv := nmb_v hn (k := q) (by omega)
      have jl : j < f.2.2.2.length := fsi_lt hb
      refine ok_e (by omega) (ok_b (ok_of xn (ok_ib (by omega) (ok_nb (by omega) ?_))))
      dsimp only
      rw [show (((13 * F + j : Nat) : Int)).toNat = 13 * F + j by omega]
      generalize hS : w_put S 127 (13 * F + j) (S.1 22 q) = S2
      have s2 : frm [127] [] [] S S2 := by
        rw [← hS]
        repeat (first | exact frm.refl _ _ _ _ | refine frm.put ?_ rfl | refine frm.puto ?_ rfl rfl)
      have s127 : ∀ u, S2.1 127 u = if u = 13 * F + j then S.1 22 q else S.1 127 u := fun u => by
        rw [← hS]
        show pt (S.1 127) _ _ u = _
        rw [pt_at]
      refine nx S2 (g3.trans s2) (fun G hG => ?_) (fun G a b => ?_)
      · by_cases e1 : G = F
        · subst e1
          rw [hdd, nm]
          obtain ⟨d1, d2, d3, d4, d5⟩ := df
          refine ⟨by rw [s2.2.1 121 rfl rfl]; exact d1, by rw [s2.2.1 122 rfl rfl]; exact d2, by rw [s2.2.1 123 rfl rfl]; exact d3, ?_, ?_⟩
          · rw [s2.2.1 125 rfl rfl, d4]
            show _ = (((rpl _ f.2.2.2).length : Nat) : Int)
            rw [rpl_len]
          · intro j' hj'
            have hj2 : j' < f.2.2.2.length := by
              have : j' < (rpl (nmb R q) f.2.2.2).length := hj'
              rw [rpl_len] at this
              exact this
            show S2.1 126 (13 * G + j') = ((rpl (nmb R q) f.2.2.2).getD j' (0, [])).1 ∧ Rw (S0.1 2) top (S2.1 127 (13 * G + j')) ((rpl (nmb R q) f.2.2.2).getD j' (0, [])).2.length (fun u => ((rpl (nmb R q) f.2.2.2).getD j' (0, [])).2.getD u 0)
            rw [rpl_get _ _ j j' hb hj2, s2.2.1 126 rfl rfl, s127]
            have w := d5 j' hj2
            by_cases e2 : j' = j
            · rw [if_pos e2, if_pos (by omega)]
              refine ⟨w.1, ?_⟩
              have s22 : S.1 22 = S0.1 22 := g3.2.1 22 rfl rfl
              rw [s22]
              exact nv.2
            · rw [if_neg e2, if_neg (by omega)]
              exact w
        · refine (g4 G (by omega)).congr (by rw [s2.2.1 121 rfl rfl]) (by rw [s2.2.1 122 rfl rfl]) (by rw [s2.2.1 123 rfl rfl]) (by rw [s2.2.1 125 rfl rfl]) (fun j' hj' => ⟨by rw [s2.2.1 126 rfl rfl], ?_⟩)
          rw [lyf_sub] at hj'
          have := hs G (by omega)
          rw [s127, if_neg (by omega)]
      · refine (g5 G (by omega) b).congr (by rw [s2.2.1 121 rfl rfl]) (by rw [s2.2.1 122 rfl rfl]) (by rw [s2.2.1 123 rfl rfl]) (by rw [s2.2.1 125 rfl rfl]) (fun j' hj' => ⟨by rw [s2.2.1 126 rfl rfl], ?_⟩)
        rw [s127, if_neg (by omega)]
/-- the class lays the print of a version on a day -/
theorem x_lay {e : w_E} {N v : Nat} {S R : w_S} {d top : Int} {D : List Fdl} {ta E : Nat} (hN : 1000 ≤ N) (hv : v < 400) (hk : RelLk S R) (hn : RelNm S R top) (hD : VrD S R (S.1 2) top ta E v D) : Ok (E_Catalog_copyTo e N (v : Int) S) (fun _ T => Ok (E_Authority_layNames e N (v : Int) d T) (fun _ S1 => frm [121, 122, 123, 124, 125, 126, 127] [120] [(120, 0)] S S1 ∧ Dr S1 (S.1 2) top (lyd (nmo R v d) 0 D) ∧ ∀ F : Nat, F < D.length → S1.1 124 F = lko R (v : Int) (F : Int) d (R.1 129 31).toNat)) := by
  obtain ⟨D1, D2, D3, D4, D5, D6, _⟩ := hD
  refine Ok.mono (x_copyTo (e := e) (N := N) (t2 := S.1 2) (top := top) (by omega) hv D3 D4 D1 D6) ?_
  intro _ T ⟨f1, f2, f3⟩
  have hk' : RelLk T R := hk.fr (L' := []) (O' := []) (J' := []) f1 (frm.refl _ _ _ _) (by decide)
  have hn' : RelNm T R top := hn.fr (L' := []) (O' := []) (J' := []) f1 (frm.refl _ _ _ _) (by decide)
  have t17 : T.1 17 = S.1 17 := f1.2.1 17 rfl rfl
  have t2 : T.1 2 = S.1 2 := f1.2.1 2 rfl rfl
  have kk := hk'
  obtain ⟨l1, l2, l3, _⟩ := kk
  unfold E_Authority_layNames
  refine l_ly0 (e := e) (N := N) (nD := D.length) (v := (v : Int)) (d := d) hk' f2.1 D3 (T.1 17 7).toNat 0 N T (by omega) (by omega) (frm.refl _ _ _ _) (fun F hF => by rw [f3 F hF]; rfl) ?_
  intro S1 n' hn1 q1 q2
  have hk2 : RelLk S1 R := hk'.fr (L' := []) (O' := []) (J' := []) q1 (frm.refl _ _ _ _) (by decide)
  have hn2 : RelNm S1 R top := hn'.fr (L' := []) (O' := []) (J' := []) q1 (frm.refl _ _ _ _) (by decide)
  have s2 : S1.1 2 = S.1 2 := by rw [q1.2.1 2 rfl rfl, t2]
  have key := l_ly1 (e := e) (N := N) (v := (v : Int)) (d := d) (D := D) hN hk2 hn2 (by rw [q1.2.1 120 rfl rfl]; exact f2.1) D3 D4 (fun F hF => by rw [q2 F hF, l1]) D.length 0 n' S1 (by omega) (by omega) (frm.refl _ _ _ _) (fun G hG => by omega) (fun G _ hG => by
    rw [s2]
    exact (f2.2 G hG).congr (by rw [q1.2.1 121 rfl rfl]) (by rw [q1.2.1 122 rfl rfl]) (by rw [q1.2.1 123 rfl rfl]) (by rw [q1.2.1 125 rfl rfl]) (fun j' _ => ⟨by rw [q1.2.1 126 rfl rfl], by rw [q1.2.1 127 rfl rfl]⟩))
  refine key.mono ?_
  intro _ S2 ⟨z1, z2⟩
  refine ⟨f1.trans ((q1.wide ?_ ?_ ?_).trans (z1.wide ?_ ?_ ?_)), ⟨?_, fun F hF => ?_⟩, fun F hF => ?_⟩
  · intro b h; simp at h ⊢; omega
  · intro b h; rfl
  · intro b j h; rfl
  · intro b h; simp at h ⊢; omega
  · intro b h; rfl
  · intro b j h; rfl
  · rw [z1.2.1 120 rfl rfl, q1.2.1 120 rfl rfl, f2.1, lyd_len]
  · rw [lyd_len] at hF
    rw [lyd_get _ _ _ _ hF, Nat.zero_add, ← s2]
    exact z2 F hF
  · rw [z1.2.1 124 rfl rfl, q2 F hF, l1]
end
section
-- e4
/-- bytes are written behind what was written -/
def Wr (a o j : Nat) (S : w_S) (l : List Int) (S1 : w_S) : Prop := frm [a] [o] [(o, j)] S S1 ∧ S1.1 o j = S.1 o j + (l.length : Nat) ∧ (∀ k : Nat, (k : Int) < S.1 o j → S1.1 a k = S.1 a k) ∧ byt (S1.1 a) (S.1 o j).toNat l
theorem Wr.trans {a o j : Nat} {S S1 S2 : w_S} {l m : List Int} (h0 : 0 ≤ S.1 o j) (h : Wr a o j S l S1) (k : Wr a o j S1 m S2) : Wr a o j S (l ++ m) S2 := by
  obtain ⟨a1, a2, a3, a4⟩ := h
  obtain ⟨b1, b2, b3, b4⟩ := k
  refine ⟨a1.trans b1, by rw [b2, a2, List.length_append]; omega, fun j hj => by rw [b3 j (by omega), a3 j hj], ?_⟩
  rw [byt_app]
  rw [a2, show (S.1 o j + ((l.length : Nat) : Int)).toNat = (S.1 o j).toNat + l.length by omega] at b4
  exact ⟨byt_congr a4 (fun k hk => b3 _ (by omega)), b4⟩
theorem Wr.nil (a o j : Nat) (S : w_S) : Wr a o j S [] S := ⟨frm.refl _ _ _ _, by rw [List.length_nil]; omega, fun _ _ => rfl, trivial⟩
theorem Wr.one {a o j : Nat} (hao : a ≠ o) (S : w_S) (b : Int) (h0 : 0 ≤ S.1 o j) : Wr a o j S [b] (w_put (w_put S a (S.1 o j).toNat b) o j (S.1 o j + 1)) := by
  have ra : ∀ u, (w_put (w_put S a (S.1 o j).toNat b) o j (S.1 o j + 1)).1 a u = if u = (S.1 o j).toNat then b else S.1 a u := by
    intro u
    rw [w_put_r, if_neg hao, w_put_r, if_pos rfl, pt_at]
  refine ⟨frm.puto (frm.put (frm.refl _ _ _ _) (by simp)) (by simp) (by simp), ?_, fun k hk => ?_, ?_, trivial⟩
  · rw [w_put_r, if_pos rfl, pt_at, if_pos rfl]
    rfl
  · rw [ra, if_neg (by omega)]
  · rw [ra, if_pos rfl]
theorem Wr.cons {a o j : Nat} {S S1 : w_S} {b : Int} {l : List Int} (hao : a ≠ o) (h0 : 0 ≤ S.1 o j) (k : Wr a o j (w_put (w_put S a (S.1 o j).toNat b) o j (S.1 o j + 1)) l S1) : Wr a o j S (b :: l) S1 := Wr.trans h0 (Wr.one hao S b h0) k
theorem Wr.at {a o j : Nat} (S : w_S) (b : Int) : (w_put (w_put S a (S.1 o j).toNat b) o j (S.1 o j + 1)).1 o j = S.1 o j + 1 := by
  rw [w_put_r, if_pos rfl, pt_at, if_pos rfl]
/-- the last k digits of a number -/
def dgl : Nat → Int → List Int
  | 0, _ => []
  | k + 1, x => (48 + x / (10 ^ k : Nat) % 10) :: dgl k x
theorem dgl_len : ∀ (k : Nat) (x : Int), (dgl k x).length = k
  | 0, _ => rfl
  | k + 1, x => by rw [dgl, List.length_cons, dgl_len k x]
theorem pow5 {k : Nat} (h : k ≤ 4) : 1 ≤ 10 ^ k ∧ 10 ^ k ≤ 10000 := by
  have : k = 0 ∨ k = 1 ∨ k = 2 ∨ k = 3 ∨ k = 4 := by omega
  rcases this with rfl | rfl | rfl | rfl | rfl <;> decide
theorem w_b2 {b : Int} (h1 : 0 ≤ b) (h2 : b ≤ 127) : w_b (w_b b) = b := by rw [w_b_id (x := b) (by omega) (by omega), w_b_id (by omega) (by omega)]
theorem l_wn1 {e : w_E} {N : Nat} {x m : Int} (hm : m ≤ 5) (hx : 0 ≤ x) (hx2 : x < 2147483648) : ∀ (k nf : Nat) (S : w_S) (t x4 : Int), k ≤ 5 → k < nf → x4 + k = m → 0 ≤ x4 → (∀ j, k = j + 1 → t = (10 ^ j : Nat)) → 0 ≤ S.1 106 2 → S.1 106 2 + k ≤ 3000 → Ok (El_Desk_writeNumber e N nf 1 [x, m, t, x4] [] S) (fun _ S1 => Wr 107 106 2 S (dgl k x) S1)
  | _, 0, _, _, _, _, h, _, _, _, _, _ => by omega
  | 0, nf + 1, S, t, x4, g1, g2, g3, g4, g5, g6, g7 => by
    rw [El_Desk_writeNumber]
    exact ok_t (by omega) (ok_s (Wr.nil _ _ _ S))
  | k + 1, nf + 1, S, t, x4, g1, g2, g3, g4, g5, g6, g7 => by
    have ht := g5 k rfl
    have hp := pow5 (k := k) (by omega)
    have h10 : 0 ≤ x / t % 10 ∧ x / t % 10 < 10 := by omega
    have h11 : 0 ≤ x / t := Int.ediv_nonneg hx (by omega)
    have h12 : x / t ≤ x := Int.ediv_le_self _ hx
    rw [El_Desk_writeNumber, b_div hx hx2 (by omega) (by omega), b_rem h11 (by omega) (by decide) (by decide), b_div (x := t) (by omega) (by omega) (by decide) (by decide), w_b2 (by omega) (by omega)]
    refine ok_e (by omega) (ok_e (by omega) (ok_t (by omega) (ok_nb (by omega) (ok_e (by omega) (ok_ib (by omega) (ok_nb (by omega) (ok_nb (by omega) ?_)))))))
    have ih := l_wn1 (e := e) (N := N) (m := m) hm hx hx2 k nf (w_put (w_put S 107 ((S.1 106 2).toNat) (48 + x / t % 10)) 106 2 ((S.1 106 2) + 1)) (t / 10) (x4 + 1) (by omega) (by omega) (by omega) (by omega) (fun j hj => by subst hj; rw [ht, Nat.pow_succ]; omega) (by rw [Wr.at]; omega) (by rw [Wr.at]; omega)
    refine ih.mono (fun _ S1 q => ?_)
    rw [dgl, ← ht]
    exact Wr.cons (by decide) g6 q
theorem l_wn0 {e : w_E} {N : Nat} {x m : Int} {P : Int → w_S → Prop} {S : w_S} (hm : m ≤ 5) : ∀ (k j nf : Nat) (t x4 : Int), k < nf → x4 + k = m → x4 = (j : Int) + 1 → t = (10 ^ j : Nat) → (∀ n', nf ≤ n' + k + 1 → Ok (El_Desk_writeNumber e N n' 1 [x, m, (10 ^ (j + k) : Nat), 0] [] S) P) → Ok (El_Desk_writeNumber e N nf 0 [x, m, t, x4] [] S) P
  | _, _, 0, _, _, h, _, _, _, _ => by omega
  | 0, j, nf + 1, t, x4, g1, g2, g3, g4, g5 => by
    rw [El_Desk_writeNumber, g4]
    exact ok_t (by omega) (g5 nf (by omega))
  | k + 1, j, nf + 1, t, x4, g1, g2, g3, g4, g5 => by
    have hp := pow5 (k := j) (by omega)
    rw [El_Desk_writeNumber]
    refine ok_e (by omega) (ok_nb (by omega) (ok_nb (by omega) ?_))
    exact l_wn0 hm k (j + 1) nf (t * 10) (x4 + 1) (by omega) (by omega) (by omega) (by rw [g4, Nat.pow_succ]; omega) (fun n' h => by rw [show j + 1 + k = j + (k + 1) by omega]; exact g5 n' (by omega))
theorem x_wnum {e : w_E} {N k : Nat} {x m : Int} {S : w_S} (hN : 100 ≤ N) (hm : m = (k : Int) + 1) (hk : k ≤ 4) (hx : 0 ≤ x) (hx2 : x < 2147483648) (h1 : 0 ≤ S.1 106 2) (h2 : S.1 106 2 + m ≤ 3000) : Ok (E_Desk_writeNumber e N x m S) (fun _ S1 => Wr 107 106 2 S (dgl (k + 1) x) S1) := by
  unfold E_Desk_writeNumber
  refine l_wn0 (by omega) k 0 N 1 1 (by omega) (by omega) (by omega) rfl (fun n' hn => ?_)
  rw [Nat.zero_add]
  exact l_wn1 (by omega) hx hx2 (k + 1) n' S _ 0 (by omega) (by omega) (by omega) (by omega) (fun j hj => by cases hj; rfl) h1 (by omega)
theorem l_wd1 {e : w_E} {N : Nat} {x : Int} (hx : 0 ≤ x) (hx2 : x < 2147483648) : ∀ (k nf : Nat) (S : w_S) (t : Int), k ≤ 5 → k < nf → (k = 0 → t = 0) → (∀ j, k = j + 1 → t = (10 ^ j : Nat)) → 0 ≤ S.1 129 39 → S.1 129 39 + k ≤ 4000 → Ok (El_R_writeDigits e N nf 1 [x, t] [] S) (fun _ S1 => Wr 151 129 39 S (dgl k x) S1)
  | _, 0, _, _, _, h, _, _, _, _ => by omega
  | 0, nf + 1, S, t, g1, g2, g3, g5, g6, g7 => by
    rw [El_R_writeDigits, g3 rfl]
    exact ok_t (by omega) (ok_s (Wr.nil _ _ _ S))
  | k + 1, nf + 1, S, t, g1, g2, g3, g5, g6, g7 => by
    have ht := g5 k rfl
    have hp := pow5 (k := k) (by omega)
    have h10 : 0 ≤ x / t % 10 ∧ x / t % 10 < 10 := by omega
    have h11 : 0 ≤ x / t := Int.ediv_nonneg hx (by omega)
    have h12 : x / t ≤ x := Int.ediv_le_self _ hx
    rw [El_R_writeDigits, b_div hx hx2 (by omega) (by omega), b_rem h11 (by omega) (by decide) (by decide), b_div (x := t) (by omega) (by omega) (by decide) (by decide), w_b2 (by omega) (by omega)]
    refine ok_e (by omega) (ok_t (by omega) (ok_nb (by omega) (ok_ib (by omega) (ok_nb (by omega) ?_))))
    have ih := l_wd1 (e := e) (N := N) hx hx2 k nf (w_put (w_put S 151 ((S.1 129 39).toNat) (48 + x / t % 10)) 129 39 ((S.1 129 39) + 1)) (t / 10) (by omega) (by omega) (fun h0 => by subst h0; rw [ht]; rfl) (fun j hj => by subst hj; rw [ht, Nat.pow_succ]; omega) (by rw [Wr.at]; omega) (by rw [Wr.at]; omega)
    refine ih.mono (fun _ S1 q => ?_)
    rw [dgl, ← ht]
    exact Wr.cons (by decide) g6 q
theorem l_wd0 {e : w_E} {N : Nat} {x m : Int} {P : Int → w_S → Prop} {S : w_S} (hm : m ≤ 5) : ∀ (k j nf : Nat) (t x4 : Int), k < nf → x4 + k = m → x4 = (j : Int) + 1 → t = (10 ^ j : Nat) → (∀ n', nf ≤ n' + k + 1 → Ok (El_R_writeDigits e N n' 1 [x, (10 ^ (j + k) : Nat)] [] S) P) → Ok (El_R_writeDigits e N nf 0 [x, m, t, x4] [] S) P
  | _, _, 0, _, _, h, _, _, _, _ => by omega
  | 0, j, nf + 1, t, x4, g1, g2, g3, g4, g5 => by
    rw [El_R_writeDigits, g4]
    exact ok_t (by omega) (g5 nf (by omega))
  | k + 1, j, nf + 1, t, x4, g1, g2, g3, g4, g5 => by
    have hp := pow5 (k := j) (by omega)
    rw [El_R_writeDigits]
    refine ok_e (by omega) (ok_nb (by omega) (ok_nb (by omega) ?_))
    exact l_wd0 hm k (j + 1) nf (10 * t) (x4 + 1) (by omega) (by omega) (by omega) (by rw [g4, Nat.pow_succ]; omega) (fun n' h => by rw [show j + 1 + k = j + (k + 1) by omega]; exact g5 n' (by omega))
theorem x_wdig {e : w_E} {N k : Nat} {x m : Int} {S : w_S} (hN : 100 ≤ N) (hm : m = (k : Int) + 1) (hk : k ≤ 4) (hx : 0 ≤ x) (hx2 : x < 2147483648) (h1 : 0 ≤ S.1 129 39) (h2 : S.1 129 39 + m ≤ 4000) : Ok (E_R_writeDigits e N x m S) (fun _ S1 => Wr 151 129 39 S (dgl (k + 1) x) S1) := by
  unfold E_R_writeDigits
  refine l_wd0 (by omega) k 0 N 1 1 (by omega) (by omega) (by omega) rfl (fun n' hn => ?_)
  rw [Nat.zero_add]
  exact l_wd1 hx hx2 (k + 1) n' S _ (by omega) (by omega) (fun h => by omega) (fun j hj => by cases hj; rfl) h1 (by omega)
theorem dgl_b : ∀ (k : Nat) (x b : Int), b ∈ dgl k x → 48 ≤ b ∧ b ≤ 57
  | 0, _, _, h => by cases h
  | k + 1, x, b, h => by
    rw [dgl] at h
    rcases List.mem_cons.mp h with h | h
    · rw [h]; omega
    · exact dgl_b k x b h
theorem dgl_tg3 {t : Int} (h0 : 1 ≤ t) (h1 : t ≤ 999) : dgl 3 t = tg3 t := by
  show [48 + t / (100 : Int) % 10, 48 + t / (10 : Int) % 10, 48 + t / (1 : Int) % 10] = [48 + t / 100, 48 + t / 10 % 10, 48 + t % 10]
  rw [show t / (100 : Int) % 10 = t / 100 by omega, show t / (1 : Int) % 10 = t % 10 by omega]
end
section
-- e5
/-- a field's bytes with another byte ahead of each code -/
def sbx (a : Int) (s : Sfl) : List Int := a :: s.1 :: s.2
def fbx (a : Int) (f : Fdl) : List Int := if f.1 < 10 then f.2.2.2.flatMap (fun s => s.2) else f.2.1 :: f.2.2.1 :: f.2.2.2.flatMap (sbx a)
theorem fbx_36 (f : Fdl) : fbx 36 f = fbd f := rfl
theorem sbx_len (a : Int) : ∀ l : List Sfl, (l.flatMap (sbx a)).length = (l.flatMap sb).length
  | [] => rfl
  | s :: l => by
    rw [List.flatMap_cons, List.flatMap_cons, List.length_append, List.length_append, sbx_len a l]
    rfl
theorem fbx_len (a : Int) (f : Fdl) : (fbx a f).length = (fbd f).length := by
  unfold fbx fbd
  split
  · rfl
  · rw [List.length_cons, List.length_cons, List.length_cons, List.length_cons, sbx_len]
/-- what a subfield writes, in a control field or not -/
def sbq (c : Bool) (a : Int) (s : Sfl) : List Int := if c = true then s.2 else sbx a s
theorem l_wf1 {e : w_E} {N : Nat} {F a x4 x5 : Int} {A m : Nat} {P : Int → w_S → Prop} {t2 : Nat → Int} (hm : m < 64) (hA : A + m ≤ 10240) (h5 : -1000 ≤ x5 ∧ x5 ≤ 1000) : ∀ (l : List Int) (i nf : Nat) (S : w_S), i + l.length = m → (∀ u, u < l.length → t2 (A + i + u) = l.getD u 0) → (∀ b, b ∈ l → rwb b = true) → l.length < nf → S.1 2 = t2 → 0 ≤ S.1 106 2 → S.1 106 2 + (l.length : Nat) ≤ 3000 → (∀ S1 n', nf ≤ n' + l.length + 1 → Wr 107 106 2 S l S1 → Ok (El_Desk_writeField e N n' 0 [F, a, x4, x5 + 1] [] S1) P) → Ok (El_Desk_writeField e N nf 1 [F, a, x4, x5, (A : Int) * 64 + m, (i : Int)] [] S) P
  | _, _, 0, _, _, _, _, h, _, _, _, _ => by omega
  | [], i, nf + 1, S, g1, g2, g3, g4, g5, g6, g7, g8 => by
    rw [El_Desk_writeField, b_and63 (by omega) (by omega)]
    rw [List.length_nil] at g1
    refine ok_t (by omega) (ok_nb (by omega) (g8 S nf (by rw [List.length_nil]; omega) (Wr.nil _ _ _ S)))
  | b :: l, i, nf + 1, S, g1, g2, g3, g4, g5, g6, g7, g8 => by
    rw [List.length_cons] at g1 g4 g7
    have hb := rwb_b (g3 b List.mem_cons_self)
    have h0 := g2 0 (by rw [List.length_cons]; omega)
    rw [List.getD_cons_zero, Nat.add_zero] at h0
    rw [El_Desk_writeField, b_and63 (by omega) (by omega), b_shr6 (by omega) (by omega), show ((A : Int) * 64 + m) % 64 = m by omega, show ((A : Int) * 64 + m) / 64 = A by omega, g5, show ((A : Int) + i).toNat = A + i by omega, h0, w_b2 hb.1 hb.2]
    refine ok_e (by omega) (ok_nb (by omega) (ok_ib (by omega) (ok_e (by omega) (ok_ib (by omega) (ok_nb (by omega) (ok_nb (by omega) ?_))))))
    have ih := l_wf1 (e := e) (N := N) (F := F) (a := a) (x4 := x4) (x5 := x5) (P := P) hm hA h5 l (i + 1) nf (w_put (w_put S 107 ((S.1 106 2).toNat) b) 106 2 ((S.1 106 2) + 1)) (by omega) (fun u hu => by
      have := g2 (u + 1) (by rw [List.length_cons]; omega)
      rw [List.getD_cons_succ] at this
      rw [← this, show A + (i + 1) + u = A + i + (u + 1) by omega]) (fun b' hb' => g3 b' (List.mem_cons_of_mem _ hb')) (by omega) (by simp only [w_put_r, reduceIte, Nat.reduceEqDiff, pt_at]; exact g5) (by rw [Wr.at]; omega) (by rw [Wr.at]; omega) (fun S1 n' h1 h2 => g8 S1 n' (by rw [List.length_cons]; omega) (Wr.cons (by decide) g6 h2))
    rw [show (i : Int) + 1 = ((i + 1 : Nat) : Int) by omega]
    exact ih
theorem l_wf0 {e : w_E} {N F : Nat} {a x4 top : Int} {S0 : w_S} {n : Nat} {cc : Bool} (hF : F < 20) (hn : n ≤ 13) (htop : top ≤ 10240) (ha : 0 ≤ a ∧ a ≤ 127) (h125 : S0.1 125 F = n) (hc : (cc = true ∧ x4 = 1) ∨ (cc = false ∧ x4 = 0)) : ∀ (ss : List Sfl) (j nf : Nat) (S : w_S), j + ss.length = n → 42 * ss.length < nf → (∀ i, i < ss.length → S0.1 126 (13 * F + j + i) = (ss.getD i (0, [])).1 ∧ Rw (S0.1 2) top (S0.1 127 (13 * F + j + i)) (ss.getD i (0, [])).2.length (fun u => (ss.getD i (0, [])).2.getD u 0)) → (∀ s, s ∈ ss → vrow s.2 ∧ (cc = false → cdb s.1 = true)) → frm [107] [106] [(106, 2)] S0 S → 0 ≤ S.1 106 2 → S.1 106 2 + ((ss.flatMap (sbq cc a)).length : Nat) ≤ 3000 → Ok (El_Desk_writeField e N nf 0 [(F : Int), a, x4, (j : Int)] [] S) (fun _ S1 => Wr 107 106 2 S (ss.flatMap (sbq cc a)) S1)
  | _, _, 0, _, _, h, _, _, _, _, _ => by omega
  | [], j, nf + 1, S, g1, g2, g3, g4, g5, g6, g7 => by
    rw [El_Desk_writeField, show ((F : Int)).toNat = F by omega, g5.2.1 125 rfl rfl, h125]
    rw [List.length_nil] at g1
    exact ok_ib (by omega) (ok_t (by omega) (ok_s (Wr.nil _ _ _ S)))
  | s :: ss, j, nf + 1, S, g1, g2, g3, g4, g5, g6, g7 => by
    rw [List.length_cons] at g1 g2
    rw [List.flatMap_cons, List.length_append] at g7
    obtain ⟨q1, A, q2, q3, q4⟩ := g3 0 (by rw [List.length_cons]; omega)
    rw [List.getD_cons_zero] at q1 q2 q3 q4
    rw [Nat.add_zero] at q1 q2
    obtain ⟨sv, sc⟩ := g4 s List.mem_cons_self
    obtain ⟨v1, v2, v3⟩ := sv
    have nxt : ∀ S1 n' l, nf ≤ n' + s.2.length + 1 → Wr 107 106 2 S l S1 → l = sbq cc a s → Ok (El_Desk_writeField e N n' 0 [(F : Int), a, x4, (j : Int) + 1] [] S1) (fun _ S2 => Wr 107 106 2 S ((s :: ss).flatMap (sbq cc a)) S2) := by
      intro S1 n' l h1 h2 h3
      subst h3
      have e1 := h2.2.1
      have ih := l_wf0 (e := e) (N := N) (x4 := x4) hF hn htop ha h125 hc ss (j + 1) n' S1 (by omega) (by omega) (fun i hi => by
        have := g3 (i + 1) (by rw [List.length_cons]; omega)
        rw [List.getD_cons_succ] at this
        rw [show 13 * F + (j + 1) + i = 13 * F + j + (i + 1) by omega]
        exact this) (fun t ht => g4 t (List.mem_cons_of_mem _ ht)) (g5.trans h2.1) (by omega) (by omega)
      rw [show (j : Int) + 1 = ((j + 1 : Nat) : Int) by omega]
      refine ih.mono (fun _ S2 q => ?_)
      rw [List.flatMap_cons]
      exact Wr.trans g6 h2 q
    have c127 : S.1 127 = S0.1 127 := g5.2.1 127 rfl rfl
    have c126 : S.1 126 = S0.1 126 := g5.2.1 126 rfl rfl
    have c2 : S.1 2 = S0.1 2 := g5.2.1 2 rfl rfl
    rw [El_Desk_writeField, show ((F : Int)).toNat = F by omega, g5.2.1 125 rfl rfl, h125, show ((F : Int) * 13 + j).toNat = 13 * F + j by omega, c127, c126, q1, q2]
    refine ok_ib (by omega) (ok_e (by omega) (ok_nb (by omega) (ok_nb (by omega) ?_)))
    rcases hc with ⟨c1, c3⟩ | ⟨c1, c3⟩
    · have e1 : sbq cc a s = s.2 := by rw [sbq, if_pos c1]
      rw [e1] at g7
      refine ok_t (by omega) (ok_ib (by omega) ?_)
      refine l_wf1 (e := e) (N := N) (t2 := S0.1 2) (by omega) (by omega) (by omega) s.2 0 nf S (by omega) (fun u hu => q4 u hu) v3 (by omega) c2 g6 (by omega) (fun S1 n' h1 h2 => nxt S1 n' s.2 (by omega) h2 e1.symm)
    · have e1 : sbq cc a s = a :: s.1 :: s.2 := by rw [sbq, if_neg (by rw [c1]; decide), sbx]
      rw [e1, List.length_cons, List.length_cons] at g7
      have hcd := cdb_iff.1 (sc c1)
      rw [w_b2 ha.1 ha.2, w_b2 (b := s.1) (by omega) (by omega)]
      refine ok_e (by omega) (ok_e (by omega) (ok_ib (by omega) (ok_nb (by omega) (ok_ib (by omega) (ok_e (by omega) (ok_ib (by omega) (ok_nb (by omega) ?_)))))))
      generalize hS1 : w_put (w_put S 107 ((S.1 106 2).toNat) a) 106 2 ((S.1 106 2) + 1) = Sa
      have e2 : Sa.1 106 2 = S.1 106 2 + 1 := by rw [← hS1, Wr.at]
      rw [← e2]
      refine l_wf1 (e := e) (N := N) (t2 := S0.1 2) (by omega) (by omega) (by omega) s.2 0 nf _ (by omega) (fun u hu => q4 u hu) v3 (by omega) ?_ (by rw [Wr.at]; omega) (by rw [Wr.at]; omega) (fun S1 n' h1 h2 => nxt S1 n' (a :: s.1 :: s.2) (by omega) ?_ e1.symm)
      · rw [← hS1]
        simp only [w_put_r, reduceIte, Nat.reduceEqDiff, pt_at]
        exact c2
      · refine Wr.cons (by decide) g6 ?_
        rw [hS1]
        exact Wr.cons (by decide) (by omega) h2
/-- a field of the draft is written -/
theorem x_wfield {e : w_E} {N F : Nat} {a top : Int} {S : w_S} {f : Fdl} (hN : 1000 ≤ N) (hF : F < 20) (htop : top ≤ 10240) (ha : 0 ≤ a ∧ a ≤ 127) (hv : vfd f) (h5 : f.2.2.2.length ≤ 5) (h : DrF S (S.1 2) top F f) (g6 : 0 ≤ S.1 106 2) (g7 : S.1 106 2 + ((fbx a f).length : Nat) ≤ 3000) : Ok (E_Desk_writeField e N (F : Int) a S) (fun _ S1 => Wr 107 106 2 S (fbx a f) S1) := by
  obtain ⟨d1, d2, d3, d4, d5⟩ := h
  obtain ⟨v1, v2, v3, v4, v5⟩ := hv
  unfold E_Desk_writeField
  rw [show ((F : Int)).toNat = F by omega, d1, d2, d3]
  refine ok_ib (by omega) ?_
  by_cases c : f.1 < 10
  · have e1 : fbx a f = f.2.2.2.flatMap (sbq true a) := by rw [fbx, if_pos c]; rfl
    rw [e1] at g7 ⊢
    refine ok_e (by omega) ?_
    exact l_wf0 (top := top) (n := f.2.2.2.length) hF (by omega) htop ha d4 (Or.inl ⟨rfl, rfl⟩) f.2.2.2 0 N S (by omega) (by omega) (fun i hi => d5 i hi) (fun s hs => ⟨v3 s hs, fun w => by cases w⟩) (frm.refl _ _ _ _) g6 g7
  · have e1 : fbx a f = f.2.1 :: f.2.2.1 :: f.2.2.2.flatMap (sbq false a) := by rw [fbx, if_neg c]; rfl
    rw [e1, List.length_cons, List.length_cons] at g7
    rw [e1]
    obtain ⟨i1, i2, _, i4⟩ := v5 (by omega)
    have j1 := inb_iff.1 i1
    have j2 := inb_iff.1 i2
    rw [w_b2 (b := f.2.1) (by omega) (by omega), w_b2 (b := f.2.2.1) (by omega) (by omega)]
    refine ok_t (by omega) (ok_e (by omega) (ok_ib (by omega) (ok_nb (by omega) (ok_e (by omega) (ok_ib (by omega) (ok_nb (by omega) ?_))))))
    generalize hS1 : w_put (w_put S 107 ((S.1 106 2).toNat) f.2.1) 106 2 ((S.1 106 2) + 1) = Sa
    have e2 : Sa.1 106 2 = S.1 106 2 + 1 := by rw [← hS1, Wr.at]
    rw [← e2]
    generalize hS2 : w_put (w_put Sa 107 ((Sa.1 106 2).toNat) f.2.2.1) 106 2 ((Sa.1 106 2) + 1) = Sb
    have e3 : Sb.1 106 2 = S.1 106 2 + 2 := by rw [← hS2, Wr.at]; omega
    have fr : frm [107] [106] [(106, 2)] S Sb := by
      rw [← hS2, ← hS1]
      repeat (first | exact frm.refl _ _ _ _ | refine frm.put ?_ rfl | refine frm.puto ?_ rfl rfl)
    refine (l_wf0 (top := top) (x4 := 0) (n := f.2.2.2.length) (cc := false) (S0 := S) hF (by omega) htop ha d4 (Or.inr ⟨rfl, rfl⟩) f.2.2.2 0 N Sb (by omega) (by omega) (fun i hi => d5 i hi) (fun s hs => ⟨v3 s hs, fun _ => i4 s hs⟩) fr (by omega) (by omega)).mono (fun _ S1 q => ?_)
    refine Wr.cons (by decide) g6 ?_
    rw [hS1]
    refine Wr.cons (by decide) (by omega) ?_
    rw [hS2]
    exact q
theorem DrF.fr {S S1 : w_S} {L O : List Nat} {J : List (Nat × Nat)} {t2 : Nat → Int} {top : Int} {F : Nat} {d : Fdl} (h : DrF S t2 top F d) (hf : frm L O J S S1) (hd : ckA L O [121, 122, 123, 125, 126, 127] = true) : DrF S1 t2 top F d := by
  simp only [ckA, List.all_eq_true, Bool.and_eq_true, Bool.not_eq_true'] at hd
  have ar : ∀ a, a ∈ [121, 122, 123, 125, 126, 127] → S1.1 a = S.1 a := fun a ha => hf.2.1 a (hd a ha).1 (hd a ha).2
  exact h.congr (by rw [ar 121 (by decide)]) (by rw [ar 122 (by decide)]) (by rw [ar 123 (by decide)]) (by rw [ar 125 (by decide)]) (fun j _ => ⟨by rw [ar 126 (by decide)], by rw [ar 127 (by decide)]⟩)
/-- the class writes a record's text -/
theorem l_wt {e : w_E} {N : Nat} {top : Int} {S0 : w_S} {D : List Fdl} (hN : 1000 ≤ N) (htop : top ≤ 10240) (hD2 : D.length ≤ 12) (hD : Dr S0 (S0.1 2) top D) : ∀ (l : List Fdl) (F nf : Nat) (S : w_S), F + l.length = D.length → l.length < nf → (∀ i, i < l.length → D.getD (F + i) (0, 0, 0, []) = l.getD i (0, 0, 0, [])) → (∀ f, f ∈ l → vfd f ∧ f.2.2.2.length ≤ 5) → frm [107] [106] [(106, 2)] S0 S → 0 ≤ S.1 106 2 → S.1 106 2 + ((doc l).length : Nat) ≤ 3000 → Ok (El_Desk_writeText e N nf 0 [(F : Int)] [] S) (fun _ S1 => Wr 107 106 2 S (doc l) S1)
  | _, _, 0, _, _, h, _, _, _, _, _ => by omega
  | [], F, nf + 1, S, g1, g2, g3, g4, g5, g6, g7 => by
    rw [El_Desk_writeText, g5.2.1 120 rfl rfl, hD.1]
    rw [List.length_nil] at g1
    exact ok_t (by omega) (ok_s (Wr.nil _ _ _ S))
  | f :: l, F, nf + 1, S, g1, g2, g3, g4, g5, g6, g7 => by
    rw [List.length_cons] at g1 g2
    obtain ⟨fv, f5⟩ := g4 f List.mem_cons_self
    have df := hD.2 F (by omega)
    have e0 := g3 0 (by rw [List.length_cons]; omega)
    rw [Nat.add_zero, List.getD_cons_zero] at e0
    rw [e0] at df
    have sl := ser_len f
    have c2 : S.1 2 = S0.1 2 := g5.2.1 2 rfl rfl
    rw [doc, List.flatMap_cons, List.length_append] at g7
    rw [El_Desk_writeText, g5.2.1 120 rfl rfl, hD.1, g5.2.1 121 rfl rfl, show ((F : Int)).toNat = F by omega, df.1]
    refine ok_e (by omega) (ok_ib (by omega) (ok_b ?_))
    refine (x_wnum (e := e) (N := N) (k := 2) (by omega) rfl (by omega) (by have := fv.1; omega) (by have := fv.2.1; omega) g6 (by omega)).mono ?_
    intro _ Sa wa
    have ea := wa.2.1
    rw [dgl_len] at ea
    have fa := g5.trans wa.1
    dsimp only
    rw [w_b2 (b := 32) (by decide) (by decide)]
    refine ok_e (by omega) (ok_ib (by omega) (ok_nb (by omega) (ok_b ?_)))
    generalize hSb : w_put (w_put Sa 107 ((Sa.1 106 2).toNat) 32) 106 2 ((Sa.1 106 2) + 1) = Sb
    have wb : Wr 107 106 2 Sa [32] Sb := by
      rw [← hSb]
      exact Wr.one (by decide) Sa 32 (by omega)
    have eb := wb.2.1
    rw [List.length_singleton] at eb
    have fb := fa.trans wb.1
    have xl := fbx_len 36 f
    refine (x_wfield (e := e) (N := N) (F := F) (a := 36) (top := top) (f := f) hN (by omega) htop (by decide) fv f5 (by rw [fb.2.1 2 rfl rfl]; exact df.fr fb (by decide)) (by omega) (by omega)).mono ?_
    intro _ Sc wc
    have ec := wc.2.1
    have fc := fb.trans wc.1
    dsimp only
    rw [w_b2 (b := 10) (by decide) (by decide)]
    refine ok_e (by omega) (ok_ib (by omega) (ok_nb (by omega) (ok_nb (by omega) ?_)))
    generalize hSd : w_put (w_put Sc 107 ((Sc.1 106 2).toNat) 10) 106 2 ((Sc.1 106 2) + 1) = Sd
    have wd : Wr 107 106 2 Sc [10] Sd := by
      rw [← hSd]
      exact Wr.one (by decide) Sc 10 (by omega)
    have ed := wd.2.1
    rw [List.length_singleton] at ed
    have W : Wr 107 106 2 S (ser f) Sd := by
      have := Wr.trans g6 wa (Wr.trans (by omega) wb (Wr.trans (by omega) wc wd))
      rw [dgl_tg3 fv.1 fv.2.1, fbx_36] at this
      exact this
    have ih := l_wt (e := e) (N := N) hN htop hD2 hD l (F + 1) nf Sd (by omega) (by omega) (fun i hi => by
      have := g3 (i + 1) (by rw [List.length_cons]; omega)
      rw [List.getD_cons_succ] at this
      rw [← this, show F + 1 + i = F + (i + 1) by omega]) (fun g hg => g4 g (List.mem_cons_of_mem _ hg)) (fc.trans wd.1) (by omega) (by rw [doc]; omega)
    rw [show (F : Int) + 1 = ((F + 1 : Nat) : Int) by omega]
    refine ih.mono (fun _ S1 q => ?_)
    rw [doc, List.flatMap_cons]
    exact Wr.trans g6 W q
theorem x_wtext {e : w_E} {N : Nat} {top : Int} {S : w_S} {D : List Fdl} (hN : 1000 ≤ N) (htop : top ≤ 10240) (hD2 : D.length ≤ 12) (hD : Dr S (S.1 2) top D) (hv : ∀ f, f ∈ D → vfd f ∧ f.2.2.2.length ≤ 5) (g6 : S.1 106 2 = 0) : Ok (E_Desk_writeText e N S) (fun _ S1 => Wr 107 106 2 S (doc D) S1) := by
  have := doc_le hv
  exact l_wt hN htop hD2 hD D 0 N S (by omega) (by omega) (fun i hi => by rw [Nat.zero_add]) hv (frm.refl _ _ _ _) (by omega) (by omega)
end
