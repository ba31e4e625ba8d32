section
-- g9
def bs0 : Bst := (0, 0, 0, [], fd0)
/-- a step as it may be -/
def vbs (s : Bst) : Prop := (s.1 = 0 ∨ s.1 = 1 ∨ s.1 = 2) ∧ (s.1 = 1 → 10 ≤ s.2.1 ∧ cdb s.2.2.1 = true ∧ vrow s.2.2.2.1) ∧ (s.1 = 2 → vfd s.2.2.2.2 ∧ s.2.2.2.2.2.2.2.length ≤ 5)
def apbs : List Bst → List Fdl → List Fdl
  | [], D => D
  | s :: ss, D => apbs ss (apb s D)
theorem rmt_mem {t : Int} : ∀ {D : List Fdl} {f : Fdl}, f ∈ rmt t D → f ∈ D
  | [], _, h => h
  | g :: D, f, h => by
    rw [rmt] at h
    split at h
    · exact List.mem_cons_of_mem _ (rmt_mem h)
    · rcases List.mem_cons.1 h with z | z
      · rw [z]
        exact List.mem_cons_self
      · exact List.mem_cons_of_mem _ (rmt_mem z)
theorem rmt_len {t : Int} : ∀ D : List Fdl, (rmt t D).length ≤ D.length
  | [] => Nat.le_refl _
  | g :: D => by
    rw [rmt]
    have := rmt_len (t := t) D
    split
    · rw [List.length_cons]
      omega
    · rw [List.length_cons, List.length_cons]
      omega
theorem rps_v {c : Int} {r : List Int} {Q : Sfl → Prop} (h : Q (c, r)) : ∀ {ss : List Sfl}, (∀ s, s ∈ ss → Q s) → ∀ s, s ∈ rps c r ss → Q s
  | [], _, s, hs => by
    rw [rps, List.mem_singleton] at hs
    rw [hs]
    exact h
  | u :: ss, hq, s, hs => by
    rw [rps] at hs
    split at hs
    · rcases List.mem_cons.1 hs with z | z
      · rw [z]
        exact h
      · exact hq s (List.mem_cons_of_mem _ z)
    · rcases List.mem_cons.1 hs with z | z
      · rw [z]
        exact hq u List.mem_cons_self
      · exact rps_v h (fun w hw => hq w (List.mem_cons_of_mem _ hw)) s z
theorem rps_ne (c : Int) (r : List Int) (ss : List Sfl) : rps c r ss ≠ [] := by
  cases ss with
  | nil =>
    rw [rps]
    exact fun h => by cases h
  | cons s ss =>
    rw [rps]
    split
    · exact fun h => by cases h
    · exact fun h => by cases h
theorem stf_v {c : Int} {r : List Int} {f : Fdl} (h : vfd f) (h10 : 10 ≤ f.1) (hc : cdb c = true) (hr : vrow r) : vfd (stf c r f) := by
  obtain ⟨h1, h2, h3, h4, h5⟩ := h
  obtain ⟨k1, k2, k3, k4⟩ := h5 h10
  refine ⟨h1, h2, ?_, fun z => ?_, fun _ => ⟨k1, k2, rps_ne _ _ _, ?_⟩⟩
  · exact rps_v (Q := fun s => vrow s.2) hr h3
  · have z' : f.1 < 10 := z
    omega
  · exact rps_v (Q := fun s => cdb s.1 = true) hc k4
/-- a document under a batch: so many fields at most, so many subfields -/
def vdb (m : Nat) (D : List Fdl) : Prop := D.length ≤ 12 + m ∧ ∀ f, f ∈ D → vfd f ∧ f.2.2.2.length ≤ 5 + m
theorem apb_v {m : Nat} {s : Bst} {D : List Fdl} (hs : vbs s) (h : vdb m D) : vdb (m + 1) (apb s D) := by
  obtain ⟨s0, s1, s2⟩ := hs
  obtain ⟨h1, h2⟩ := h
  unfold apb
  split
  · have := rmt_len (t := s.2.1) D
    exact ⟨by omega, fun f hf => ⟨(h2 f (rmt_mem hf)).1, by have := (h2 f (rmt_mem hf)).2; omega⟩⟩
  · split
    · rename_i c1
      obtain ⟨a1, a2, a3⟩ := s1 c1
      refine ⟨by rw [List.length_map]; omega, fun f hf => ?_⟩
      obtain ⟨g, g1, g2⟩ := List.mem_map.1 hf
      obtain ⟨b1, b2⟩ := h2 g g1
      rw [← g2]
      unfold stm
      split
      · rename_i c2
        refine ⟨stf_v b1 (by omega) a2 a3, ?_⟩
        have := stf_subs s.2.2.1 s.2.2.2.1 g.2.2.2
        show (rps s.2.2.1 s.2.2.2.1 g.2.2.2).length ≤ 5 + (m + 1)
        omega
      · exact ⟨b1, by omega⟩
    · rename_i c0 c1
      obtain ⟨a1, a2⟩ := s2 (by omega)
      refine ⟨by rw [List.length_append, List.length_singleton]; omega, fun f hf => ?_⟩
      rcases List.mem_append.1 hf with z | z
      · exact ⟨(h2 f z).1, by have := (h2 f z).2; omega⟩
      · rw [List.mem_singleton] at z
        rw [z]
        exact ⟨a1, by omega⟩
theorem twd43 (S : w_S) : e_two Tc S 43 126 = some (260, 260) := rfl
theorem twd44 (S : w_S) : e_two Tc S 44 127 = some (260, 260) := rfl
theorem twl34 (S : w_S) : e_len Tc S 34 0 = some 140 := rfl
/-- the class does the steps of a batch to the draft -/
theorem l_chg {e : w_E} {N : Nat} {x1 x2 top : Int} {t2 : Nat → Int} (hN : 1000 ≤ N) : ∀ (ss : List Bst) (i nf : Nat) (T : w_S) (D : List Fdl), i + ss.length ≤ 8 → T.1 35 4 = ((i + ss.length : Nat) : Int) → (∀ j, j < ss.length → BsC (T.1 34) T t2 top (i + j) (ss.getD j bs0)) → (∀ s, s ∈ ss → vbs s) → Dr T t2 top D → vdb i D → T.1 37 0 ≤ 8 → ss.length < nf → ∃ n' T', nf = n' + ss.length ∧ frm DRa [120] DRj T T' ∧ Dr T' t2 top (apbs ss D) ∧ vdb (i + ss.length) (apbs ss D) ∧ ∀ P, Ok (El_C_changeRecord e N n' 0 [x1, x2, ((i + ss.length : Nat) : Int)] [] T') P → Ok (El_C_changeRecord e N nf 0 [x1, x2, (i : Int)] [] T) P
  | [], i, nf, T, D, g1, g2, g3, g4, g5, g6, g7, g8 => ⟨nf, T, rfl, frm.refl _ _ _ _, g5, g6, fun P h => h⟩
  | s :: ss, i, 0, T, D, g1, g2, g3, g4, g5, g6, g7, g8 => by omega
  | s :: ss, i, nf + 1, T, D, g1, g2, g3, g4, g5, g6, g7, g8 => by
    rw [List.length_cons] at g1 g2 g3 g8
    have b0 := g3 0 (by omega)
    rw [Nat.add_zero] at b0
    have b0' : BsC (T.1 34) T t2 top i s := b0
    have vs := g4 s List.mem_cons_self
    have dv := apb_v vs g6
    obtain ⟨D1, D2⟩ := g6
    -- what comes behind this step
    have go : ∀ T1 : w_S, frm DRa [120] DRj T T1 → Dr T1 t2 top (apb s D) → (∀ P, Ok (El_C_changeRecord e N nf 0 [x1, x2, (i : Int) + 1] [] T1) P → Ok (El_C_changeRecord e N (nf + 1) 0 [x1, x2, (i : Int)] [] T) P) → ∃ n' T', nf + 1 = n' + (s :: ss).length ∧ frm DRa [120] DRj T T' ∧ Dr T' t2 top (apbs (s :: ss) D) ∧ vdb (i + (s :: ss).length) (apbs (s :: ss) D) ∧ ∀ P, Ok (El_C_changeRecord e N n' 0 [x1, x2, ((i + (s :: ss).length : Nat) : Int)] [] T') P → Ok (El_C_changeRecord e N (nf + 1) 0 [x1, x2, (i : Int)] [] T) P := fun T1 h1 h2 h3 => by
      obtain ⟨n', T', a1, a2, a3, a4, a5⟩ := l_chg hN ss (i + 1) nf T1 (apb s D) (by omega) (by rw [h1.2.1 35 rfl rfl, g2]; omega) (fun j hj => by
        have := g3 (j + 1) (by omega)
        rw [show i + (j + 1) = i + 1 + j by omega] at this
        have e1 : (s :: ss).getD (j + 1) bs0 = ss.getD j bs0 := rfl
        rw [e1] at this
        unfold BsC DrF1 at this ⊢
        rw [h1.2.1 34 rfl rfl, h1.2.1 37 rfl rfl, h1.2.1 38 rfl rfl, h1.2.1 39 rfl rfl, h1.2.1 40 rfl rfl, h1.2.1 42 rfl rfl, h1.2.1 43 rfl rfl, h1.2.1 44 rfl rfl]
        exact this) (fun u hu => g4 u (List.mem_cons_of_mem _ hu)) h2 dv (by rw [h1.2.1 37 rfl rfl]; exact g7) (by omega)
      rw [List.length_cons, show i + (ss.length + 1) = i + 1 + ss.length by omega]
      refine ⟨n', T', by omega, h1.trans a2, a3, a4, fun P h => h3 P ?_⟩
      rw [show (i : Int) + 1 = ((i + 1 : Nat) : Int) by omega]
      exact a5 P h
    obtain ⟨c1, c2, c3, c4⟩ := b0'
    obtain ⟨v0, v1, v2⟩ := vs
    have W : (((pg_sv.getD 0 []).getD 4 0).toInt) = 4 := rfl
    have x0 : ((i : Int) * 4).toNat = 4 * i := by omega
    have y1 : ((i : Int) * 4 + 1).toNat = 4 * i + 1 := by omega
    have y2 : ((i : Int) * 4 + 2).toNat = 4 * i + 2 := by omega
    have y3 : ((i : Int) * 4 + 3).toNat = 4 * i + 3 := by omega
    by_cases k0 : s.1 = 0
    · have rf := l_rmf (e := e) (N := N) (t := s.2.1) (top := top) (t2 := t2) D [] 0 N T (by decide) (by omega) (by rw [g5.1]; omega) (fun f hf => by cases hf) (fun f hf => by have := (D2 f hf).2; omega) (fun F hF => by cases hF) (fun j hj => by rw [Nat.zero_add]; exact g5.2 j hj) (by omega)
      obtain ⟨vv, T1, hr, r1, r2⟩ := rf
      have ae : apb s D = rmt s.2.1 D := by
        unfold apb
        rw [if_pos k0]
      refine go T1 r1 (by rw [ae]; exact r2) (fun P h => ?_)
      rw [El_C_changeRecord, g2, W, x0, y1, c1, c2 k0]
      refine ok_e (by omega) (ok_nb (by omega) (ok_len (twl34 _) (ok_t (by omega) (ok_t (by omega) (ok_t (by omega) (ok_nb (by omega) (ok_len (twl34 _) (ok_t (by omega) (ok_t (by omega) (ok_b ?_))))))))))
      unfold E_Draft_removeFields
      exact ok_of hr (ok_nb (by omega) h)
    by_cases k1 : s.1 = 1
    · obtain ⟨d1, d2, d3⟩ := c3 k1
      have rf := l_str (e := e) (N := N) (t := s.2.1) (c := s.2.2.1) (top := top) (t2 := t2) hN d3 D [] N T (by rw [List.length_nil]; omega) (by rw [g5.1, List.length_nil]; omega) (fun f hf => by cases hf) (fun f hf => by have := (D2 f hf).2; omega) (fun F hF => by cases hF) (fun j hj => by rw [List.length_nil, Nat.zero_add]; exact g5.2 j hj) (by omega)
      obtain ⟨vv, T1, hr, r1, r2⟩ := rf
      have ae : apb s D = D.map (stm s.2.1 s.2.2.1 s.2.2.2.1) := by
        unfold apb
        rw [if_neg k0, if_pos k1]
      refine go T1 r1 (by rw [ae]; exact r2) (fun P h => ?_)
      rw [El_C_changeRecord, g2, W, x0, y1, y2, y3, c1, d1, d2]
      refine ok_e (by omega) (ok_nb (by omega) (ok_len (twl34 _) (ok_t (by omega) (ok_t (by omega) (ok_e (by omega) (ok_t (by omega) (ok_nb (by omega) (ok_len (twl34 _) (ok_t (by omega) (ok_t (by omega) (ok_nb (by omega) (ok_len (twl34 _) (ok_t (by omega) (ok_t (by omega) (ok_nb (by omega) (ok_len (twl34 _) (ok_t (by omega) (ok_t (by omega) (ok_b ?_)))))))))))))))))))
      unfold E_Draft_setRows
      exact ok_of hr (ok_nb (by omega) h)
    · have k2 : s.1 = 2 := by omega
      obtain ⟨F, d1, d2, d3, d4⟩ := c4 k2
      obtain ⟨f1, f2, f3, f4, f5⟩ := d4
      obtain ⟨vf, vl⟩ := v2 k2
      have ae : apb s D = D ++ [s.2.2.2.2] := by
        unfold apb
        rw [if_neg k0, if_neg k1]
      have x120 : T.1 120 0 = (D.length : Nat) := g5.1
      generalize hT : w_put (w_cpy (w_cpy (w_put (w_put (w_put (w_put T 121 D.length s.2.2.2.2.1) 122 D.length s.2.2.2.2.2.1) 123 D.length s.2.2.2.2.2.2.1) 125 D.length ((s.2.2.2.2.2.2.2.length : Nat) : Int)) 43 126 (13 * F) (13 * D.length) 13) 44 127 (13 * F) (13 * D.length) 13) 120 0 ((D.length : Int) + 1) = T1
      have hT2 := hT
      rw [w_cpy_arr, w_cpy_arr] at hT2
      have fT : frm DRa [120] DRj T T1 := by
        rw [← hT2]
        repeat (first | exact frm.refl _ _ _ _ | refine frm.put ?_ rfl | refine frm.puto ?_ rfl rfl | refine frm.arr ?_ rfl)
      have cp : CpD T T1 D.length s.2.2.2.2.1 s.2.2.2.2.2.1 s.2.2.2.2.2.2.1 ((s.2.2.2.2.2.2.2.length : Nat) : Int) (fun j => T.1 43 (13 * F + j)) (fun j => T.1 44 (13 * F + j)) := by
        refine ⟨fun u => ?_, fun u => ?_, fun u => ?_, fun u => ?_, fun j => ?_, fun j => ?_⟩
        all_goals
          rw [← hT2]
          simp only [w_put_r, w_arr_r, reduceIte, Nat.reduceEqDiff, pt_at]
      refine go T1 fT ?_ (fun P h => ?_)
      · rw [ae]
        refine ⟨?_, fun G hG => ?_⟩
        · rw [← hT2]
          simp only [w_put_r, w_arr_r, reduceIte, Nat.reduceEqDiff, pt_at]
          rw [List.length_append, List.length_singleton]
          omega
        · rw [List.length_append, List.length_singleton] at hG
          by_cases e1 : G < D.length
          · rw [getD_app1 e1]
            exact cp.ne (by omega) (by have := (D2 _ (memD (d := (0, 0, 0, [])) e1)).2; omega) (g5.2 G e1)
          · have e2 : G = D.length := by omega
            subst e2
            rw [getD_app2 (Nat.le_refl _), Nat.sub_self]
            exact cp.eq (f := s.2.2.2.2) (by omega) rfl rfl rfl rfl f5
      · rw [El_C_changeRecord, g2, W, x0, y1, c1, d1, show ((F : Int)).toNat = F by omega, f1, f2, f3, f4, x120, show (((D.length : Nat) : Int)).toNat = D.length by omega, show ((F : Int) * 13).toNat = 13 * F by omega, show (((D.length : Nat) : Int) * 13).toNat = 13 * D.length by omega, hT]
        refine ok_e (by omega) (ok_nb (by omega) (ok_len (twl34 _) (ok_t (by omega) (ok_t (by omega) (ok_e (by omega) (ok_e (by omega) (ok_nb (by omega) (ok_len (twl34 _) (ok_t (by omega) (ok_t (by omega) ?_))))))))))
        refine ok_e (by omega) (ok_e (by omega) (ok_e (by omega) (ok_ib (by omega) (ok_ib (by omega) (ok_nb (by omega) (ok_nb (by omega) (ok_t rfl (ok_two (twd43 _) ?_))))))))
        refine ok_t (by omega) (ok_t (by omega) (ok_t (by omega) (ok_t (by show (F : Int) * 13 + 13 ≤ ((260 : Nat) : Int); omega) (ok_t (by show (D.length : Int) * 13 + 13 ≤ ((260 : Nat) : Int); omega) (ok_t rfl (ok_two (twd44 _) ?_))))))
        refine ok_t (by omega) (ok_t (by omega) (ok_t (by omega) (ok_t (by show (F : Int) * 13 + 13 ≤ ((260 : Nat) : Int); omega) (ok_t (by show (D.length : Int) * 13 + 13 ≤ ((260 : Nat) : Int); omega) (ok_nb (by omega) (ok_nb (by omega) h))))))
end
section
-- ga
/-- bytes put into the other row -/
theorem l_pb {e : w_E} {N a2 oa n2 x1 x3 : Nat} (hoa : oa = 194 ∨ oa = 195) (hne : a2 ≠ oa) (hn2 : n2 < 2000000000) : ∀ (l : List Int) (d nf : Nat) (S : w_S), S.2.1 4 = oa → e_len Tr S a2 1 = some n2 → e_len Tr S oa 1 = some 20000 → byt (S.1 a2) (x3 + d) l → x3 + d + l.length ≤ n2 → x1 + d + l.length ≤ 20000 → (∀ b, b ∈ l → 0 ≤ b ∧ b ≤ 127) → l.length < nf → Ok (El_R_putBytes e N nf 0 [(x1 : Int), (x3 : Int), ((x3 + d + l.length : Nat) : Int), ((x3 + d : Nat) : Int)] [a2] S) (fun y S1 => y = ((x1 + d + l.length : Nat) : Int) ∧ frm [oa] [] [] S S1 ∧ byt (S1.1 oa) (x1 + d) l ∧ ∀ u, u < x1 + d → S1.1 oa u = S.1 oa u)
  | _, _, 0, _, _, _, _, _, _, _, _, h => by omega
  | [], d, nf + 1, S, g1, g2, g3, g4, g5, g6, g7, g8 => by
    rw [El_R_putBytes, List.length_nil]
    exact ok_t (by omega) (ok_nb (by omega) (ok_nb (by omega) (ok_s ⟨by omega, frm.refl _ _ _ _, trivial, fun _ _ => rfl⟩)))
  | b :: l, d, nf + 1, S, g1, g2, g3, g4, g5, g6, g7, g8 => by
    rw [List.length_cons] at g5 g6 g8
    have hb := g7 b List.mem_cons_self
    have h0 : S.1 a2 (x3 + d) = b := g4.1
    have hfr : w_frb Tr B_R_putBytes_129 oa = false := by
      rcases hoa with rfl | rfl <;> rfl
    rw [El_R_putBytes, List.length_cons, g1, show (((x3 + d : Nat) : Int)).toNat = x3 + d by omega, h0, w_b_id (by omega) (by omega), show ((x1 : Int) + ((x3 + d : Nat) : Int) - (x3 : Int)).toNat = x1 + d by omega]
    refine ok_e (by omega) (ok_nb (by omega) (ok_nb (by omega) (ok_len g2 ?_)))
    with_reducible refine ok_t (by omega) ?_
    with_reducible refine ok_t (by omega) ?_
    refine ok_t hfr (ok_len g3 ?_)
    with_reducible refine ok_t (by omega) ?_
    refine ok_t (by show (x1 : Int) + ((x3 + d : Nat) : Int) - (x3 : Int) < ((20000 : Nat) : Int); omega) (ok_nb (by omega) ?_)
    generalize hS : w_put S oa (x1 + d) b = S2
    have f2 : frm [oa] [] [] S S2 := by
      rw [← hS]
      exact frm.put (frm.refl _ _ _ _) (by simp)
    have r2 : ∀ u, S2.1 oa u = if u = x1 + d then b else S.1 oa u := fun u => by
      rw [← hS, w_put_r, if_pos rfl, pt_at]
    have ca : S2.1 a2 = S.1 a2 := f2.2.1 a2 (by simp only [List.contains_cons, List.contains_nil, Bool.or_false, beq_eq_false_iff_ne, ne_eq]; exact hne) rfl
    have ih := l_pb (e := e) (N := N) (x1 := x1) (x3 := x3) hoa hne hn2 l (d + 1) nf S2 (by rw [f2.1]; exact g1) (by rw [len_cg f2.1]; exact g2) (by rw [len_cg f2.1]; exact g3) (by rw [ca]; exact g4.2) (by omega) (by omega) (fun c hc => g7 c (List.mem_cons_of_mem _ hc)) (by omega)
    rw [show x3 + (d + 1) + l.length = x3 + d + (l.length + 1) by omega, show ((x3 + (d + 1) : Nat) : Int) = ((x3 + d : Nat) : Int) + 1 by omega, show x1 + (d + 1) + l.length = x1 + d + (l.length + 1) by omega] at ih
    refine ih.mono ?_
    intro y S1 ⟨q1, q2, q3, q4⟩
    refine ⟨q1, f2.trans q2, ⟨?_, q3⟩, fun u hu => ?_⟩
    · rw [q4 _ (by omega), r2, if_pos rfl]
    · rw [q4 u (by omega), r2, if_neg (by omega)]
theorem x_pb {e : w_E} {N a2 oa n2 x1 x3 : Nat} {x4 : Int} {l : List Int} {S : w_S} (hN : 100000 ≤ N) (hoa : oa = 194 ∨ oa = 195) (hne : a2 ≠ oa) (hn2 : n2 < 2000000000) (g1 : S.2.1 4 = oa) (g2 : e_len Tr S a2 1 = some n2) (g3 : e_len Tr S oa 1 = some 20000) (g4 : byt (S.1 a2) x3 l) (g5 : x3 + l.length ≤ n2) (g6 : x1 + l.length ≤ 20000) (g7 : ∀ b, b ∈ l → 0 ≤ b ∧ b ≤ 127) (h4 : x4 = ((x3 + l.length : Nat) : Int)) : Ok (E_R_putBytes e N (x1 : Int) (x3 : Int) x4 a2 S) (fun y S1 => y = ((x1 + l.length : Nat) : Int) ∧ frm [oa] [] [] S S1 ∧ byt (S1.1 oa) x1 l ∧ ∀ u, u < x1 → S1.1 oa u = S.1 oa u) := by
  unfold E_R_putBytes
  have := l_pb (e := e) (N := N) (x1 := x1) (x3 := x3) hoa hne hn2 l 0 N S g1 g2 g3 g4 g5 g6 g7 (by omega)
  rw [Nat.add_zero, Nat.add_zero] at this
  rw [h4]
  exact this
theorem fm_len : ∀ {ss : List Sfl}, (∀ s, s ∈ ss → vrow s.2) → (ss.flatMap sb).length ≤ 42 * ss.length
  | [], _ => by simp
  | s :: ss, h => by
    have ih := fm_len (ss := ss) (fun u hu => h u (List.mem_cons_of_mem _ hu))
    have := (h s List.mem_cons_self).2.1
    rw [List.flatMap_cons, List.length_append, List.length_cons]
    unfold sb at ih ⊢
    rw [List.length_cons, List.length_cons]
    omega
theorem ser_le2 {f : Fdl} (h : vfd f) (h2 : f.2.2.2.length ≤ 13) : (ser f).length ≤ 553 := by
  rw [ser_len]
  unfold fbd
  obtain ⟨a1, a2, a3, a4, a5⟩ := h
  split
  · rename_i c
    obtain ⟨_, _, r, hr⟩ := a4 c
    have := (a3 (0, r) (by rw [hr]; exact List.mem_singleton.2 rfl)).2.1
    rw [hr, List.flatMap_cons, List.flatMap_nil, List.append_nil]
    dsimp only at this ⊢
    omega
  · have := fm_len a3
    rw [List.length_cons, List.length_cons]
    omega
theorem doc_le2 : ∀ {D : List Fdl}, (∀ f, f ∈ D → vfd f ∧ f.2.2.2.length ≤ 13) → (doc D).length ≤ 553 * D.length
  | [], _ => by simp [doc]
  | f :: D, h => by
    have h1 := h f List.mem_cons_self
    have h2 := ser_le2 h1.1 h1.2
    have ih := doc_le2 (D := D) (fun g hg => h g (List.mem_cons_of_mem _ hg))
    rw [doc] at ih
    rw [doc, List.flatMap_cons, List.length_append, List.length_cons]
    omega
theorem doc_app (D E : List Fdl) : doc (D ++ E) = doc D ++ doc E := by
  unfold doc
  rw [List.flatMap_append]
theorem doc_one (f : Fdl) : doc [f] = ser f := by
  unfold doc
  rw [List.flatMap_cons, List.flatMap_nil, List.append_nil]
/-- where a code's first subfield stands, and what setting its row does -/
theorem rps_split {c : Int} {r : List Int} : ∀ {ss : List Sfl} {k : Nat}, fsb c ss = some k → ∃ pre s post, ss = pre ++ s :: post ∧ s.1 = c ∧ k = (pre.flatMap sb).length ∧ rps c r ss = pre ++ (s.1, r) :: post
  | [], k, h => by cases h
  | s :: ss, k, h => by
    rw [fsb] at h
    by_cases c1 : s.1 = c
    · rw [if_pos c1] at h
      cases h
      exact ⟨[], s, ss, rfl, c1, rfl, by rw [rps, if_pos c1, ← c1]; rfl⟩
    · rw [if_neg c1] at h
      cases h2 : fsb c ss with
      | none => rw [h2] at h; cases h
      | some k' =>
        rw [h2, Option.map_some, Option.some.injEq] at h
        subst h
        obtain ⟨pre, t, post, h3, h4, h5, h6⟩ := rps_split (r := r) h2
        refine ⟨s :: pre, t, post, by rw [h3]; rfl, h4, ?_, by rw [rps, if_neg c1, h6]; rfl⟩
        rw [List.flatMap_cons, List.length_append, h5]
theorem rps_fsb {c : Int} {r : List Int} {ss : List Sfl} (h : fsb c ss = none) : rps c r ss = ss ++ [(c, r)] := by
  refine rps_none ?_
  have := fsb_fsi c ss
  rw [h] at this
  cases hh : fsi c ss with
  | none => rfl
  | some k => rw [hh] at this; cases this
end
section
-- gb
/-- a step as the reference holds it, with its bytes -/
def BrS (g h : Nat → Int) (m : Nat) (s : Bst) : Prop := g (5 * m) = s.1 ∧ (s.1 = 0 → g (5 * m + 1) = s.2.1) ∧ (s.1 = 1 → g (5 * m + 1) = s.2.1 ∧ g (5 * m + 2) = s.2.2.1 ∧ ∃ a : Nat, g (5 * m + 3) = (a : Int) ∧ g (5 * m + 4) = ((a + s.2.2.2.1.length : Nat) : Int) ∧ byt h a s.2.2.2.1 ∧ a + s.2.2.2.1.length ≤ 2000) ∧ (s.1 = 2 → ∃ a : Nat, g (5 * m + 3) = (a : Int) ∧ g (5 * m + 4) = ((a + (ser s.2.2.2.2).length : Nat) : Int) ∧ byt h a (ser s.2.2.2.2) ∧ a + (ser s.2.2.2.2).length ≤ 2000)
/-- what a step leaves of a field -/
def mv1 (s : Bst) (f : Fdl) : List Fdl := if s.1 = 0 then (if f.1 = s.2.1 then [] else [f]) else if s.1 = 1 then [stm s.2.1 s.2.2.1 s.2.2.2.1 f] else [f]
def mvl (s : Bst) : List Fdl → List Fdl
  | [] => []
  | f :: D => mv1 s f ++ mvl s D
theorem apb_mvl {s : Bst} (hs : vbs s) : ∀ D : List Fdl, apb s D = mvl s D ++ (if s.1 = 2 then [s.2.2.2.2] else []) := by
  intro D
  unfold apb
  by_cases c0 : s.1 = 0
  · rw [if_pos c0, if_neg (by omega), List.append_nil]
    induction D with
    | nil => rfl
    | cons f D ih =>
      rw [rmt, mvl, ← ih]
      unfold mv1
      rw [if_pos c0]
      split
      · rfl
      · rfl
  · rw [if_neg c0]
    by_cases c1 : s.1 = 1
    · rw [if_pos c1, if_neg (by omega), List.append_nil]
      induction D with
      | nil => rfl
      | cons f D ih =>
        rw [List.map_cons, mvl, ← ih]
        unfold mv1
        rw [if_neg c0, if_pos c1]
        rfl
    · have c2 : s.1 = 2 := by
        have := hs.1
        omega
      rw [if_neg c1, if_pos c2]
      congr 1
      induction D with
      | nil => rfl
      | cons f D ih =>
        rw [mvl, ← ih]
        unfold mv1
        rw [if_neg c0, if_neg c1]
        rfl
/-- both rows of the reference's batch: which is which -/
def Wrk (R : w_S) (wa oa : Nat) : Prop := R.2.1 3 = wa ∧ R.2.1 4 = oa ∧ (wa = 194 ∧ oa = 195 ∨ wa = 195 ∧ oa = 194) ∧ e_len Tr R wa 1 = some 20000 ∧ e_len Tr R oa 1 = some 20000
theorem Wrk.cg {R R1 : w_S} {wa oa : Nat} (h : Wrk R wa oa) (k : R1.2 = R.2) : Wrk R1 wa oa := by
  obtain ⟨h1, h2, h3, h4, h5⟩ := h
  exact ⟨by rw [k]; exact h1, by rw [k]; exact h2, h3, by rw [len_cg k]; exact h4, by rw [len_cg k]; exact h5⟩
theorem ser_none {c : Int} {r : List Int} {f : Fdl} (h10 : ¬ f.1 < 10) (h : fsb c f.2.2.2 = none) : ser (stf c r f) = (tg3 f.1 ++ 32 :: fbd f) ++ ([36, c] ++ (r ++ [10])) := by
  unfold ser stf fbd
  dsimp only
  rw [if_neg h10, if_neg h10, rps_fsb h, List.flatMap_append, List.flatMap_cons, List.flatMap_nil, List.append_nil]
  unfold sb
  simp only [List.append_assoc, List.cons_append, List.nil_append]
/-- a step done to one field, the reference -/
theorem x_mv1 {e : w_E} {N m nf n p wa oa : Nat} {R : w_S} {s : Bst} {f : Fdl} (hN : 100000 ≤ N) (hm : m < 8) (hw : Wrk R wa oa) (hp : ((p : Nat) : Int) < R.1 129 100) (hf : Fat R wa 20000 p f) (hs : BrS (R.1 193) (R.1 130) m s) (hv : vbs s) (hl : n + (doc (mv1 s f)).length ≤ 20000) : ∃ R', frm [oa] [] [] R R' ∧ byt (R'.1 oa) n (doc (mv1 s f)) ∧ (∀ u, u < n → R'.1 oa u = R.1 oa u) ∧ ∀ P, Ok (El_R_doMove e N nf 0 [5 * (m : Int), ((n + (doc (mv1 s f)).length : Nat) : Int), ((p + (ser f).length : Nat) : Int)] [] R') P → Ok (El_R_doMove e N (nf + 1) 0 [5 * (m : Int), (n : Int), (p : Int)] [] R) P := by
  have hww := hw
  obtain ⟨w1, w2, w3, w4, w5⟩ := hww
  have fv := hf.2.2.2.2
  have sl := ser_len f
  have t1 := fv.1
  have t2 := fv.2.1
  have tgl := hf.1
  have fb := hf.2.2.1
  have fle := hf.2.2.2.1
  obtain ⟨b0, b1, b2, b3⟩ := hf.tag
  have fe := x_fieldEnd (e := e) (N := N) (by omega) hf
  have hoa : oa = 194 ∨ oa = 195 := by omega
  have hne : wa ≠ oa := by omega
  have sbt := ser_b fv
  have kw : ∀ R1 : w_S, frm [oa] [] [] R R1 → ∀ c, c ≠ oa → R1.1 c = R.1 c := fun R1 h c hc => h.2.1 c (by simp only [List.contains_cons, List.contains_nil, Bool.or_false, beq_eq_false_iff_ne, ne_eq]; exact hc) rfl
  obtain ⟨s0, s1, s2, s3⟩ := hs
  obtain ⟨v0, v1, v2⟩ := hv
  have y0 : (5 * (m : Int)).toNat = 5 * m := by omega
  have y1 : (5 * (m : Int) + 1).toNat = 5 * m + 1 := by omega
  have y2 : (5 * (m : Int) + 2).toNat = 5 * m + 2 := by omega
  have y3 : (5 * (m : Int) + 3).toNat = 5 * m + 3 := by omega
  have y4 : (5 * (m : Int) + 4).toNat = 5 * m + 4 := by omega
  -- the end of each road
  have nx : ∀ (R1 : w_S) (y : Int), frm [oa] [] [] R R1 → ∀ P, Ok (El_R_doMove e N nf 0 [5 * (m : Int), y, ((p + (ser f).length : Nat) : Int)] [] R1) P → Ok ((E_R_fieldEnd e N (p : Int) (R1.2.1 3) R1).bind (fun q1166 => (if w_nb (q1166.1 + 1) = true then El_R_doMove e N nf 0 [5 * (m : Int), y, q1166.1 + 1] [] q1166.2 else none))) P := fun R1 y h P hP => by
    have hw1 := hw.cg h.1
    have hf1 : Fat R1 wa 20000 p f := ⟨hw1.2.2.2.1, hf.2.1, by rw [kw R1 h wa hne]; exact fb, fle, fv⟩
    have fe1 := x_fieldEnd (e := e) (N := N) (by omega) hf1
    rw [hw1.1]
    refine ok_b (ok_of fe1 (ok_nb (by omega) ?_))
    dsimp only
    rw [show ((p + (fbd f).length + 4 : Nat) : Int) + 1 = ((p + (ser f).length : Nat) : Int) by omega]
    exact hP
  -- the field as it is
  have cp : mv1 s f = [f] → ∃ R', frm [oa] [] [] R R' ∧ byt (R'.1 oa) n (doc (mv1 s f)) ∧ (∀ u, u < n → R'.1 oa u = R.1 oa u) ∧ ∀ P, Ok (El_R_doMove e N nf 0 [5 * (m : Int), ((n + (doc (mv1 s f)).length : Nat) : Int), ((p + (ser f).length : Nat) : Int)] [] R') P → Ok ((E_R_putBytes e N (n : Int) (p : Int) (((p + (fbd f).length + 4 : Nat) : Int) + 1) wa R).bind (fun q1165 => ((E_R_fieldEnd e N (p : Int) (q1165.2.2.1 3) q1165.2).bind (fun q1166 => (if w_nb (q1166.1 + 1) = true then El_R_doMove e N nf 0 [5 * (m : Int), q1165.1, q1166.1 + 1] [] q1166.2 else none))))) P := fun em => by
    rw [em, doc_one] at hl ⊢
    obtain ⟨yy, R', hr, r1, r2, r3, r4⟩ := x_pb (e := e) (N := N) (x1 := n) (x3 := p) (x4 := ((p + (fbd f).length + 4 : Nat) : Int) + 1) (l := ser f) hN hoa hne (by decide) w2 w4 w5 fb fle hl sbt (by omega)
    refine ⟨R', r2, r3, r4, fun P hP => ok_b (ok_of hr ?_)⟩
    dsimp only
    rw [r1]
    exact nx R' _ r2 P hP
  by_cases k2 : s.1 = 2
  · -- add: copied
    have em : mv1 s f = [f] := by
      unfold mv1
      rw [if_neg (by omega), if_neg (by omega)]
    obtain ⟨R', r1, r2, r3, r4⟩ := cp em
    refine ⟨R', r1, r2, r3, fun P hP => ?_⟩
    rw [El_R_doMove, w1]
    refine ok_e (by omega) (ok_b (ok_of fe ?_))
    dsimp only
    rw [w1, y0, s0]
    refine ok_ib (by omega) (ok_t (by omega) (ok_nb (by omega) ?_))
    exact r4 P hP
  by_cases ct : f.1 = s.2.1
  rotate_left
  · -- another tag: copied
    have em : mv1 s f = [f] := by
      unfold mv1 stm
      rw [if_neg ct, if_neg ct]
      split
      · rfl
      · split <;> rfl
    have tg : R.1 193 (5 * m + 1) = s.2.1 := by
      rcases v0 with z | z | z
      · exact s1 z
      · exact (s2 z).1
      · exact absurd z k2
    obtain ⟨R', r1, r2, r3, r4⟩ := cp em
    refine ⟨R', r1, r2, r3, fun P hP => ?_⟩
    rw [El_R_doMove, w1]
    refine ok_e (by omega) (ok_b (ok_of fe ?_))
    dsimp only
    rw [w1, y0, y1, s0, tg]
    refine ok_ib (by omega) (ok_e (by omega) ?_)
    rw [show ((p : Int)).toNat = p by omega, show ((p : Int) + 1).toNat = p + 1 by omega, show ((p : Int) + 2).toNat = p + 2 by omega, b0, b1, b2]
    (refine ok_len tgl ?_); (with_reducible refine ok_t (by omega) ?_); (with_reducible refine ok_t (by omega) (ok_nb (by omega) (ok_nb (by omega) (ok_nb (by omega) ?_)))); (refine ok_len tgl ?_); (with_reducible refine ok_t (by omega) ?_); (with_reducible refine ok_t (by omega) (ok_nb (by omega) (ok_nb (by omega) (ok_nb (by omega) (ok_nb (by omega) ?_))))); (refine ok_len tgl ?_); (with_reducible refine ok_t (by omega) ?_); (with_reducible refine ok_t (by omega) (ok_nb (by omega) (ok_nb (by omega) ?_)))
    rw [show 100 * (48 + f.1 / 100 - 48) + 10 * (48 + f.1 / 10 % 10 - 48) + (48 + f.1 % 10) - 48 = f.1 by omega]
    refine ok_nb (by omega) (ok_ib (by omega) (ok_t ct (ok_nb (by omega) ?_)))
    exact r4 P hP
  by_cases k0 : s.1 = 0
  · -- taken out
    have em : mv1 s f = [] := by
      unfold mv1
      rw [if_pos k0, if_pos ct]
    rw [em] at hl ⊢
    refine ⟨R, frm.refl _ _ _ _, trivial, fun _ _ => rfl, fun P hP => ?_⟩
    rw [El_R_doMove, w1]
    refine ok_e (by omega) (ok_b (ok_of fe ?_))
    dsimp only
    rw [w1, y0, y1, s0, s1 k0]
    refine ok_ib (by omega) (ok_e (by omega) ?_)
    rw [show ((p : Int)).toNat = p by omega, show ((p : Int) + 1).toNat = p + 1 by omega, show ((p : Int) + 2).toNat = p + 2 by omega, b0, b1, b2]
    (refine ok_len tgl ?_); (with_reducible refine ok_t (by omega) ?_); (with_reducible refine ok_t (by omega) (ok_nb (by omega) (ok_nb (by omega) (ok_nb (by omega) ?_)))); (refine ok_len tgl ?_); (with_reducible refine ok_t (by omega) ?_); (with_reducible refine ok_t (by omega) (ok_nb (by omega) (ok_nb (by omega) (ok_nb (by omega) (ok_nb (by omega) ?_))))); (refine ok_len tgl ?_); (with_reducible refine ok_t (by omega) ?_); (with_reducible refine ok_t (by omega) (ok_nb (by omega) (ok_nb (by omega) ?_)))
    rw [show 100 * (48 + f.1 / 100 - 48) + 10 * (48 + f.1 / 10 % 10 - 48) + (48 + f.1 % 10) - 48 = f.1 by omega]
    refine ok_nb (by omega) (ok_ib (by omega) (ok_e (fun z => z ct) (ok_t (by omega) ?_)))
    have := nx R (n : Int) (frm.refl _ _ _ _) P hP
    rw [w1] at this
    exact this
  -- set
  have k1 : s.1 = 1 := by omega
  obtain ⟨d1, d2, a, d3, d4, d5, d6⟩ := s2 k1
  obtain ⟨u1, u2, u3⟩ := v1 k1
  clear s1 s2 s3 v1 v2 cp
  have n10 : ¬ f.1 < 10 := by omega
  have em : mv1 s f = [stf s.2.2.1 s.2.2.2.1 f] := by
    unfold mv1 stm
    rw [if_neg k0, if_pos k1, if_pos ct]
  rw [em, doc_one] at hl ⊢
  have rb := vrow_b u3
  have fc := x_firstCode (e := e) (N := N) (c0 := s.2.2.1) (by omega) (by omega) hf
  rw [if_neg n10] at fc
  have cb : 0 ≤ s.2.2.1 ∧ s.2.2.1 ≤ 127 := by
    unfold cdb at u2
    simp only [Bool.or_eq_true, Bool.and_eq_true, decide_eq_true_eq] at u2
    omega
  cases hc : fsb s.2.2.1 f.2.2.2 with
  | some k =>
    rw [hc] at fc
    obtain ⟨pre, sf, post, q1, q2, q3, q4⟩ := rps_split (r := s.2.2.2.1) hc
    have e1 := ser_bd n10 q1
    have e2 : ser (stf s.2.2.1 s.2.2.2.1 f) = ((tg3 f.1 ++ 32 :: f.2.1 :: f.2.2.1 :: pre.flatMap sb) ++ [36, sf.1]) ++ (s.2.2.2.1 ++ (post.flatMap sb ++ [10])) := ser_bd (f := stf s.2.2.1 s.2.2.2.1 f) (s := (sf.1, s.2.2.2.1)) n10 q4
    have sv := fv.2.2.1 sf (by rw [q1]; exact List.mem_append_right _ List.mem_cons_self)
    have hA0 : ((tg3 f.1 ++ 32 :: f.2.1 :: f.2.2.1 :: pre.flatMap sb) ++ [36, sf.1]).length = k + 8 := by
      simp only [List.length_append, List.length_cons, List.length_nil, tg3_len]
      omega
    generalize hA : (tg3 f.1 ++ 32 :: f.2.1 :: f.2.2.1 :: pre.flatMap sb) ++ [36, sf.1] = A at e1 e2 hA0
    generalize hB : post.flatMap sb ++ [10] = B at e1 e2
    have lB : 1 ≤ B.length := by
      rw [← hB, List.length_append, List.length_singleton]
      omega
    have sl2 := sl
    have fb2 := fb
    have fle2 := fle
    have sbt2 := sbt
    rw [e1] at sl2 fb2 fle2 sbt2
    rw [byt_app, byt_app, hA0] at fb2
    rw [List.length_append, List.length_append, hA0] at sl2 fle2
    rw [e2, List.length_append, List.length_append, hA0] at hl
    -- the three pieces
    obtain ⟨ya, Ra, ha, ra1, ra2, ra3, ra4⟩ := x_pb (e := e) (N := N) (x1 := n) (x3 := p) (x4 := ((p + 6 + k : Nat) : Int) + 2) (l := A) hN hoa hne (by decide) w2 w4 w5 fb2.1 (by omega) (by omega) (fun b hb => sbt2 b (List.mem_append_left _ hb)) (by omega)
    have wA := hw.cg ra2.1
    obtain ⟨yb, Rb, hb, rb1, rb2, rb3, rb4⟩ := x_pb (e := e) (N := N) (S := Ra) (a2 := 130) (x1 := n + A.length) (x3 := a) (x4 := ((a + s.2.2.2.1.length : Nat) : Int)) (l := s.2.2.2.1) hN hoa (by omega) (by decide) wA.2.1 (len130 _) wA.2.2.2.2 (by rw [kw Ra ra2 130 (by omega)]; exact d5) d6 (by omega) rb rfl
    have fAB := ra2.trans rb2
    have wB := hw.cg fAB.1
    have fb3 : byt (Rb.1 wa) (p + (k + 8) + sf.2.length) B := by
      rw [kw Rb fAB wa hne]
      exact fb2.2.2
    obtain ⟨yc, Rc, hcc, rc1, rc2, rc3, rc4⟩ := x_pb (e := e) (N := N) (S := Rb) (x1 := n + A.length + s.2.2.2.1.length) (x3 := p + (k + 8) + sf.2.length) (x4 := ((p + (fbd f).length + 4 : Nat) : Int) + 1) (l := B) hN hoa hne (by decide) wB.2.1 wB.2.2.2.1 wB.2.2.2.2 fb3 (by omega) (by omega) (fun b hb => sbt2 b (List.mem_append_right _ (List.mem_append_right _ hb))) (by omega)
    have fABC := fAB.trans rc2
    have re : E_R_rowEnd e N (((p + 6 + k : Nat) : Int) + 2) ((p + (fbd f).length + 4 : Nat) : Int) wa Rb = some (((p + (k + 8) + sf.2.length : Nat) : Int), Rb) := by
      have re0 := l_rowEnd (e := e) (N := N) (S := Rb) (q := ((p + (fbd f).length + 4 : Nat) : Int)) wB.2.2.2.1 (by decide) sf.2 (p + (k + 8)) N (fun b hb => rw36 (sv.2.2 b hb)) (by rw [kw Rb fAB wa hne]; exact fb2.2.1) (by omega) (by omega) ?_ (by have := sv.2.1; omega)
      · unfold E_R_rowEnd
        rw [show ((p + 6 + k : Nat) : Int) + 2 = ((p + (k + 8) : Nat) : Int) by omega]
        exact re0
      · cases post with
        | nil =>
          left
          rw [List.flatMap_nil, List.nil_append] at hB
          rw [← hB, List.length_singleton] at sl2
          omega
        | cons t post =>
          right
          rw [List.flatMap_cons, sb, List.cons_append, List.cons_append] at hB
          rw [← hB] at fb3
          exact fb3.1
    refine ⟨Rc, fABC, ?_, fun u hu => by rw [rc4 u (by omega), rb4 u (by omega), ra4 u hu], fun P hP => ?_⟩
    · rw [e2, byt_app, byt_app]
      refine ⟨byt_congr ra3 (fun u hu => ?_), byt_congr rb3 (fun u hu => ?_), rc3⟩
      · rw [rc4 _ (by omega), rb4 _ (by omega)]
      · rw [rc4 _ (by omega)]
    rw [El_R_doMove, w1]
    refine ok_e (by omega) (ok_b (ok_of fe ?_))
    dsimp only
    rw [w1, y0, y1, y2, y3, y4, s0, d1, d2]
    refine ok_ib (by omega) (ok_e (by omega) ?_)
    rw [show ((p : Int)).toNat = p by omega, show ((p : Int) + 1).toNat = p + 1 by omega, show ((p : Int) + 2).toNat = p + 2 by omega, b0, b1, b2]
    (refine ok_len tgl ?_); (with_reducible refine ok_t (by omega) ?_); (with_reducible refine ok_t (by omega) (ok_nb (by omega) (ok_nb (by omega) (ok_nb (by omega) ?_)))); (refine ok_len tgl ?_); (with_reducible refine ok_t (by omega) ?_); (with_reducible refine ok_t (by omega) (ok_nb (by omega) (ok_nb (by omega) (ok_nb (by omega) (ok_nb (by omega) ?_))))); (refine ok_len tgl ?_); (with_reducible refine ok_t (by omega) ?_); (with_reducible refine ok_t (by omega) (ok_nb (by omega) (ok_nb (by omega) ?_)))
    rw [show 100 * (48 + f.1 / 100 - 48) + 10 * (48 + f.1 / 10 % 10 - 48) + (48 + f.1 % 10) - 48 = f.1 by omega]
    refine ok_nb (by omega) (ok_ib (by omega) (ok_e (fun z => z ct) (ok_e (fun z => z k1) (ok_nb (by omega) (ok_ib (by omega) (ok_b (ok_of fc ?_)))))))
    dsimp only
    rw [w1]
    refine ok_t (by omega) (ok_nb (by omega) (ok_b (ok_of ha (ok_nb (by omega) (ok_ib (by omega) (ok_nb (by omega) (ok_ib (by omega) (ok_b ?_))))))))
    dsimp only
    rw [kw Ra ra2 193 (by omega), d3, d4, ra1]
    refine ok_of hb (ok_b ?_)
    dsimp only
    rw [wB.1]
    refine ok_of re (ok_nb (by omega) (ok_b ?_))
    dsimp only
    rw [rb1]
    refine ok_of hcc ?_
    have := nx Rc yc fABC P (by
      rw [rc1, show n + A.length + s.2.2.2.1.length + B.length = n + (ser (stf s.2.2.1 s.2.2.2.1 f)).length by rw [e2, List.length_append, List.length_append]; omega]
      exact hP)
    exact this
  | none =>
    rw [hc] at fc
    have e2 := ser_none (r := s.2.2.2.1) n10 hc
    have e1 : ser f = (tg3 f.1 ++ 32 :: fbd f) ++ [10] := rfl
    have hA0 : (tg3 f.1 ++ 32 :: fbd f).length = (fbd f).length + 4 := by
      simp only [List.length_append, List.length_cons, tg3_len]
      omega
    generalize hA : tg3 f.1 ++ 32 :: fbd f = A at e1 e2 hA0
    have fb2 := fb
    have fle2 := fle
    have sbt2 := sbt
    rw [e1] at fb2 fle2 sbt2
    rw [byt_app, hA0] at fb2
    rw [List.length_append, hA0, List.length_singleton] at fle2
    have el : (ser (stf s.2.2.1 s.2.2.2.1 f)).length = A.length + (2 + (s.2.2.2.1.length + 1)) := by
      rw [e2]
      simp only [List.length_append, List.length_cons, List.length_nil]
    rw [el] at hl ⊢
    obtain ⟨ya, Ra, ha, ra1, ra2, ra3, ra4⟩ := x_pb (e := e) (N := N) (x1 := n) (x3 := p) (x4 := ((p + (fbd f).length + 4 : Nat) : Int)) (l := A) hN hoa hne (by decide) w2 w4 w5 fb2.1 (by omega) (by omega) (fun b hb => sbt2 b (List.mem_append_left _ hb)) (by omega)
    have wA := hw.cg ra2.1
    have bb : w_b 36 = 36 := w_b_id (by decide) (by decide)
    have bc0 : w_b s.2.2.1 = s.2.2.1 := w_b_id (by omega) (by omega)
    have bc : w_b (w_b s.2.2.1) = s.2.2.1 := by rw [bc0, bc0]
    generalize hR2 : w_put (w_put Ra oa (n + A.length) 36) oa (n + A.length + 1) s.2.2.1 = R2
    have f2 : frm [oa] [] [] Ra R2 := by
      rw [← hR2]
      exact frm.put (frm.put (frm.refl _ _ _ _) (by simp)) (by simp)
    have r2 : ∀ u, R2.1 oa u = if u = n + A.length + 1 then s.2.2.1 else if u = n + A.length then 36 else Ra.1 oa u := fun u => by
      rw [← hR2, w_put_r, if_pos rfl, pt_at, w_put_r, if_pos rfl, pt_at]
    have fA2 := ra2.trans f2
    have w2' := hw.cg fA2.1
    obtain ⟨yb, Rb, hb, rb1, rb2, rb3, rb4⟩ := x_pb (e := e) (N := N) (S := R2) (a2 := 130) (x1 := n + A.length + 2) (x3 := a) (x4 := ((a + s.2.2.2.1.length : Nat) : Int)) (l := s.2.2.2.1) hN hoa (by omega) (by decide) w2'.2.1 (len130 _) w2'.2.2.2.2 (by rw [kw R2 fA2 130 (by omega)]; exact d5) d6 (by omega) rb rfl
    have fAB := fA2.trans rb2
    have wB := hw.cg fAB.1
    have fb3 : byt (Rb.1 wa) (p + (fbd f).length + 4) [10] := by
      rw [kw Rb fAB wa hne, show p + (fbd f).length + 4 = p + ((fbd f).length + 4) by omega]
      exact fb2.2
    obtain ⟨yc, Rc, hcc, rc1, rc2, rc3, rc4⟩ := x_pb (e := e) (N := N) (S := Rb) (x1 := n + A.length + 2 + s.2.2.2.1.length) (x3 := p + (fbd f).length + 4) (x4 := ((p + (fbd f).length + 4 : Nat) : Int) + 1) (l := [10]) hN hoa hne (by decide) wB.2.1 wB.2.2.2.1 wB.2.2.2.2 fb3 (by rw [List.length_singleton]; omega) (by rw [List.length_singleton]; omega) (fun b hb => by rw [List.mem_singleton] at hb; omega) (by rw [List.length_singleton]; omega)
    have fABC := fAB.trans rc2
    rw [List.length_singleton] at rc1
    refine ⟨Rc, fABC, ?_, fun u hu => by rw [rc4 u (by omega), rb4 u (by omega), r2, if_neg (by omega), if_neg (by omega), ra4 u hu], fun P hP => ?_⟩
    · rw [e2, byt_app, byt_app, byt_app]
      refine ⟨byt_congr ra3 (fun u hu => ?_), ⟨?_, ?_, trivial⟩, ?_, ?_⟩
      · rw [rc4 _ (by omega), rb4 _ (by omega), r2, if_neg (by omega), if_neg (by omega)]
      · rw [rc4 _ (by omega), rb4 _ (by omega), r2, if_neg (by omega), if_pos rfl]
      · rw [rc4 _ (by omega), rb4 _ (by omega), r2, if_pos rfl]
      · refine byt_congr rb3 (fun u hu => ?_)
        show Rc.1 oa (n + A.length + 2 + u) = _
        rw [rc4 _ (by omega)]
      · exact rc3
    rw [El_R_doMove, w1]
    refine ok_e (by omega) (ok_b (ok_of fe ?_))
    dsimp only
    rw [w1, y0, y1, y2, y3, y4, s0, d1, d2]
    refine ok_ib (by omega) (ok_e (by omega) ?_)
    rw [show ((p : Int)).toNat = p by omega, show ((p : Int) + 1).toNat = p + 1 by omega, show ((p : Int) + 2).toNat = p + 2 by omega, b0, b1, b2]
    (refine ok_len tgl ?_); (with_reducible refine ok_t (by omega) ?_); (with_reducible refine ok_t (by omega) (ok_nb (by omega) (ok_nb (by omega) (ok_nb (by omega) ?_)))); (refine ok_len tgl ?_); (with_reducible refine ok_t (by omega) ?_); (with_reducible refine ok_t (by omega) (ok_nb (by omega) (ok_nb (by omega) (ok_nb (by omega) (ok_nb (by omega) ?_))))); (refine ok_len tgl ?_); (with_reducible refine ok_t (by omega) ?_); (with_reducible refine ok_t (by omega) (ok_nb (by omega) (ok_nb (by omega) ?_)))
    rw [show 100 * (48 + f.1 / 100 - 48) + 10 * (48 + f.1 / 10 % 10 - 48) + (48 + f.1 % 10) - 48 = f.1 by omega]
    refine ok_nb (by omega) (ok_ib (by omega) (ok_e (fun z => z ct) (ok_e (fun z => z k1) (ok_nb (by omega) (ok_ib (by omega) (ok_b (ok_of fc ?_)))))))
    dsimp only
    rw [w1]
    have hfr : w_frb Tr B_R_doMove_129 oa = false := by
      rcases hoa with rfl | rfl <;> rfl
    refine ok_e (fun z => z rfl) (ok_b (ok_of ha ?_))
    dsimp only
    have g193 : ∀ (X : w_S) (k : Nat) (x : Int), (w_put X oa k x).1 193 = X.1 193 := fun X k x => w_put_f (by omega)
    rw [wA.2.1, ra1, bb, g193, g193, kw Ra ra2 193 (by omega), d2, d3, d4, bc, show (((n + A.length : Nat) : Int)).toNat = n + A.length by omega, show (((n + A.length : Nat) : Int) + 1).toNat = n + A.length + 1 by omega, hR2]
    refine ok_t hfr (ok_len wA.2.2.2.2 ?_)
    with_reducible refine ok_t (by omega) ?_
    refine ok_t (by show ((n + A.length : Nat) : Int) < ((20000 : Nat) : Int); omega) (ok_nb (by omega) (ok_t hfr (ok_len (n := 20000) wA.2.2.2.2 ?_)))
    with_reducible refine ok_t (by omega) ?_
    refine ok_t (by show ((n + A.length : Nat) : Int) + 1 < ((20000 : Nat) : Int); omega) (ok_nb (by omega) (ok_nb (by omega) (ok_ib (by omega) (ok_nb (by omega) (ok_ib (by omega) (ok_b ?_))))))
    rw [show ((n + A.length : Nat) : Int) + 2 = ((n + A.length + 2 : Nat) : Int) by omega]
    refine ok_of hb (ok_nb (by omega) (ok_b ?_))
    dsimp only
    rw [wB.1, rb1]
    refine ok_of hcc ?_
    have := nx Rc yc fABC P (by
      rw [rc1, show n + A.length + 2 + s.2.2.2.1.length + 1 = n + (A.length + (2 + (s.2.2.2.1.length + 1))) by omega]
      exact hP)
    exact this
end
section
-- gc
theorem len_cg2 {R R1 : w_S} {b : Nat} (h : R1.2.2 = R.2.2) : e_len Tr R1 b 1 = e_len Tr R b 1 := by
  unfold e_len w_a
  rw [h]
/-- what the steps of a batch leave alone -/
def fsw (R R1 : w_S) : Prop := (∀ c, c ≠ 194 → c ≠ 195 → c ≠ 129 → R1.1 c = R.1 c) ∧ (∀ j, j ≠ 100 → R1.1 129 j = R.1 129 j) ∧ (∀ j, j ≠ 3 → j ≠ 4 → R1.2.1 j = R.2.1 j) ∧ R1.2.2 = R.2.2
theorem fsw.refl (R : w_S) : fsw R R := ⟨fun _ _ _ _ => rfl, fun _ _ => rfl, fun _ _ _ => rfl, rfl⟩
theorem fsw.trans {R R1 R2 : w_S} (h : fsw R R1) (k : fsw R1 R2) : fsw R R2 := ⟨fun c a b d => by rw [k.1 c a b d, h.1 c a b d], fun j hj => by rw [k.2.1 j hj, h.2.1 j hj], fun j a b => by rw [k.2.2.1 j a b, h.2.2.1 j a b], by rw [k.2.2.2, h.2.2.2]⟩
theorem fsw.of {R R1 : w_S} {oa : Nat} (h : frm [oa] [] [] R R1) (ho : oa = 194 ∨ oa = 195) : fsw R R1 := by
  refine ⟨fun c a b d => h.2.1 c ?_ rfl, fun j hj => h.2.2 129 j ?_ rfl, fun j a b => by rw [h.1], by rw [h.1]⟩
  · simp only [List.contains_cons, List.contains_nil, Bool.or_false, beq_eq_false_iff_ne, ne_eq]
    omega
  · simp only [List.contains_cons, List.contains_nil, Bool.or_false, beq_eq_false_iff_ne, ne_eq]
    omega
theorem l_mv {e : w_E} {N m wa oa : Nat} {s : Bst} (hN : 100000 ≤ N) (hm : m < 8) (hv : vbs s) : ∀ (l K : List Fdl) (p nf : Nat) (R : w_S), Wrk R wa oa → BrS (R.1 193) (R.1 130) m s → R.1 129 100 = ((p + (doc l).length : Nat) : Int) → byt (R.1 wa) p (doc l) → byt (R.1 oa) 0 (doc K) → (∀ f, f ∈ l → vfd f) → p + (doc l).length ≤ 20000 → (doc K).length + (doc (mvl s l)).length ≤ 20000 → l.length < nf → ∃ n' R', nf = n' + l.length ∧ frm [oa] [] [] R R' ∧ byt (R'.1 oa) 0 (doc (K ++ mvl s l)) ∧ ∀ P, Ok (El_R_doMove e N n' 0 [5 * (m : Int), (((doc (K ++ mvl s l)).length : Nat) : Int), ((p + (doc l).length : Nat) : Int)] [] R') P → Ok (El_R_doMove e N nf 0 [5 * (m : Int), (((doc K).length : Nat) : Int), (p : Int)] [] R) P
  | [], K, p, nf, R, g1, g2, g3, g4, g5, g6, g7, g8, g9 => by
    refine ⟨nf, R, rfl, frm.refl _ _ _ _, ?_, fun P h => ?_⟩
    · rw [mvl, List.append_nil]
      exact g5
    · rw [mvl, List.append_nil] at h
      exact h
  | f :: l, K, p, 0, R, g1, g2, g3, g4, g5, g6, g7, g8, g9 => by omega
  | f :: l, K, p, nf + 1, R, g1, g2, g3, g4, g5, g6, g7, g8, g9 => by
    have fv := g6 f List.mem_cons_self
    have sl := ser_len f
    rw [doc, List.flatMap_cons] at g3 g4 g7
    rw [byt_app] at g4
    rw [List.length_append] at g3 g7
    rw [mvl, doc_app, List.length_append] at g8
    rw [List.length_cons] at g9
    have hne : wa ≠ oa := by have := g1.2.2.1; omega
    have hoa : oa = 194 ∨ oa = 195 := by have := g1.2.2.1; omega
    obtain ⟨R1, a1, a2, a3, a4⟩ := x_mv1 (e := e) (nf := nf) (n := (doc K).length) (p := p) hN hm g1 (by rw [g3]; omega) ⟨g1.2.2.2.1, by decide, g4.1, by omega, fv⟩ g2 hv (by omega)
    have k1 : ∀ c, c ≠ oa → R1.1 c = R.1 c := fun c hc => a1.2.1 c (by simp only [List.contains_cons, List.contains_nil, Bool.or_false, beq_eq_false_iff_ne, ne_eq]; exact hc) rfl
    have dk : doc (K ++ mv1 s f) = doc K ++ doc (mv1 s f) := doc_app _ _
    obtain ⟨n', R', b1, b2, b3, b4⟩ := l_mv hN hm hv l (K ++ mv1 s f) (p + (ser f).length) nf R1 (g1.cg a1.1) (by rw [k1 193 (by omega), k1 130 (by omega)]; exact g2) (by rw [k1 129 (by omega), g3, doc]; omega) (by rw [k1 wa hne]; exact g4.2) (by
      rw [dk, byt_app]
      refine ⟨byt_congr g5 (fun u hu => ?_), ?_⟩
      · rw [Nat.zero_add]
        exact a3 u hu
      · rw [Nat.zero_add]
        exact a2) (fun g hg => g6 g (List.mem_cons_of_mem _ hg)) (by rw [doc]; omega) (by rw [dk, List.length_append]; omega) (by omega)
    have e1 : K ++ mvl s (f :: l) = K ++ mv1 s f ++ mvl s l := by rw [mvl, List.append_assoc]
    have e2 : (doc (f :: l)).length = (ser f).length + (doc l).length := by
      rw [doc, List.flatMap_cons, List.length_append, doc]
    rw [e1, e2, List.length_cons]
    refine ⟨n', R', by omega, a1.trans b2, b3, fun P h => a4 P ?_⟩
    rw [show (doc K).length + (doc (mv1 s f)).length = (doc (K ++ mv1 s f)).length by rw [dk, List.length_append]]
    refine b4 P ?_
    rw [show p + (ser f).length + (doc l).length = p + ((ser f).length + (doc l).length) by omega]
    exact h
/-- a step done, the reference -/
theorem x_mv {e : w_E} {N m wa oa : Nat} {s : Bst} {D : List Fdl} {R : w_S} (hN : 100000 ≤ N) (hm : m < 8) (hv : vbs s) (hw : Wrk R wa oa) (hs : BrS (R.1 193) (R.1 130) m s) (h100 : R.1 129 100 = ((doc D).length : Nat)) (hb : byt (R.1 wa) 0 (doc D)) (hD : vdb m D) : Ok (E_R_doMove e N (5 * (m : Int)) R) (fun _ R1 => Wrk R1 oa wa ∧ R1.1 129 100 = ((doc (apb s D)).length : Nat) ∧ byt (R1.1 oa) 0 (doc (apb s D)) ∧ fsw R R1) := by
  have dv := apb_v hv hD
  have d1 := doc_le2 (D := D) (fun f hf => ⟨(hD.2 f hf).1, by have := (hD.2 f hf).2; omega⟩)
  have d2 := doc_le2 (D := apb s D) (fun f hf => ⟨(dv.2 f hf).1, by have := (dv.2 f hf).2; omega⟩)
  have d3 := hD.1
  have d4 := dv.1
  have am := apb_mvl hv D
  rw [am, doc_app, List.length_append] at d2
  have hoa : oa = 194 ∨ oa = 195 := by have := hw.2.2.1; omega
  have hne : wa ≠ oa := by have := hw.2.2.1; omega
  have ml : (mvl s D).length ≤ 20 := by
    rw [am, List.length_append] at d4
    omega
  rw [← am] at d2
  have d5 : (doc (mvl s D)).length + (doc (if s.1 = 2 then [s.2.2.2.2] else [])).length ≤ 12000 := by omega
  unfold E_R_doMove
  obtain ⟨n', R1, a1, a2, a3, a4⟩ := l_mv (e := e) (N := N) hN hm hv D [] 0 N R hw hs (by rw [h100]; omega) hb trivial (fun f hf => (hD.2 f hf).1) (by omega) (by rw [show (doc []).length = 0 from rfl]; omega) (by omega)
  rw [List.nil_append] at a3 a4
  rw [Nat.zero_add] at a4
  have k1 : ∀ c, c ≠ oa → R1.1 c = R.1 c := fun c hc => a2.2.1 c (by simp only [List.contains_cons, List.contains_nil, Bool.or_false, beq_eq_false_iff_ne, ne_eq]; exact hc) rfl
  have w1 := hw.cg a2.1
  have k129 := k1 129 (by omega)
  have k193 := k1 193 (by omega)
  have k130 := k1 130 (by omega)
  have o129 : oa ≠ 129 := by omega
  have o130 : 130 ≠ oa := by omega
  have s0 := hs.1
  refine a4 _ ?_
  cases n' with
  | zero => omega
  | succ n' =>
    rw [El_R_doMove, k129, k193, h100, show (5 * (m : Int)).toNat = 5 * m by omega, show (5 * (m : Int) + 3).toNat = 5 * m + 3 by omega, show (5 * (m : Int) + 4).toNat = 5 * m + 4 by omega, s0]
    refine ok_t (by omega) (ok_ib (by omega) ?_)
    -- the rows change places
    have sw : ∀ (R2 : w_S) (x : Int) (M : List Fdl), frm [oa] [] [] R R2 → apb s D = M → x = ((doc M).length : Nat) → byt (R2.1 oa) 0 (doc M) → Wrk (w_put (w_rfp (w_rfp R2 3 (R2.2.1 4)) 4 (R2.2.1 3)) 129 100 x) oa wa ∧ (w_put (w_rfp (w_rfp R2 3 (R2.2.1 4)) 4 (R2.2.1 3)) 129 100 x).1 129 100 = ((doc (apb s D)).length : Nat) ∧ byt ((w_put (w_rfp (w_rfp R2 3 (R2.2.1 4)) 4 (R2.2.1 3)) 129 100 x).1 oa) 0 (doc (apb s D)) ∧ fsw R (w_put (w_rfp (w_rfp R2 3 (R2.2.1 4)) 4 (R2.2.1 3)) 129 100 x) := fun R2 x M h1 h2 h3 h4 => by
      have w2 := hw.cg h1.1
      refine ⟨⟨w2.2.1, w2.1, by have := w2.2.2.1; omega, w2.2.2.2.2, w2.2.2.2.1⟩, ?_, ?_, (fsw.of h1 hoa).trans ⟨fun c _ _ hc => ?_, fun j hj => ?_, fun j x3 x4 => ?_, rfl⟩⟩
      · rw [h2]
        show pt (R2.1 129) 100 x 100 = _
        rw [pt_at, if_pos rfl, h3]
      · rw [h2, w_put_f o129]
        exact h4
      · rw [w_put_f hc]
        rfl
      · show pt (R2.1 129) 100 x j = _
        rw [pt_at, if_neg hj]
      · show (if j = 4 then R2.2.1 3 else if j = 3 then R2.2.1 4 else R2.2.1 j) = R2.2.1 j
        rw [if_neg x4, if_neg x3]
    by_cases c2 : s.1 = 2
    · obtain ⟨a, b1, b2, b3, b4⟩ := hs.2.2.2 c2
      have vf := (hv.2.2 c2).1
      rw [if_pos c2] at am d5
      rw [doc_one] at d5
      refine ok_e (fun z => z c2) (ok_nb (by omega) (ok_ib (by omega) (ok_nb (by omega) (ok_ib (by omega) (ok_b ?_)))))
      rw [b1, b2]
      obtain ⟨y, R2, hr, r1, r2, r3, r4⟩ := x_pb (e := e) (N := N) (S := R1) (a2 := 130) (x1 := (doc (mvl s D)).length) (x3 := a) (x4 := ((a + (ser s.2.2.2.2).length : Nat) : Int)) (l := ser s.2.2.2.2) hN hoa o130 (by decide) w1.2.1 (len130 _) w1.2.2.2.2 (by rw [k130]; exact b3) b4 (by omega) (ser_b vf) rfl
      refine ok_of hr (ok_s ?_)
      dsimp only
      refine sw R2 y (mvl s D ++ [s.2.2.2.2]) (a2.trans r2) am (by rw [r1, doc_app, List.length_append, doc_one]) ?_
      rw [doc_app, byt_app, doc_one]
      refine ⟨byt_congr a3 (fun u hu => ?_), ?_⟩
      · rw [Nat.zero_add]
        exact r4 u hu
      · rw [Nat.zero_add]
        exact r3
    · rw [if_neg c2, List.append_nil] at am
      exact ok_t c2 (ok_s (sw R1 _ (mvl s D) a2 am rfl a3))
end
section
-- gd
theorem spl_inj {P : Int → Bool} : ∀ {a b x y : List Int} {u v : Int}, (∀ z, z ∈ a → P z = true) → (∀ z, z ∈ b → P z = true) → P u = false → P v = false → a ++ u :: x = b ++ v :: y → a = b ∧ u = v ∧ x = y
  | [], [], x, y, u, v, _, _, _, _, h => by
    rw [List.nil_append, List.nil_append] at h
    cases h
    exact ⟨rfl, rfl, rfl⟩
  | [], b0 :: b, x, y, u, v, _, hb, hu, _, h => by
    rw [List.nil_append, List.cons_append] at h
    have h1 := (List.cons.inj h).1
    have := hb b0 List.mem_cons_self
    rw [← h1, hu] at this
    cases this
  | a0 :: a, [], x, y, u, v, ha, _, _, hv, h => by
    rw [List.nil_append, List.cons_append] at h
    have h1 := (List.cons.inj h).1
    have := ha a0 List.mem_cons_self
    rw [h1, hv] at this
    cases this
  | a0 :: a, b0 :: b, x, y, u, v, ha, hb, hu, hv, h => by
    rw [List.cons_append, List.cons_append] at h
    obtain ⟨h1, h2⟩ := List.cons.inj h
    obtain ⟨k1, k2, k3⟩ := spl_inj (fun z hz => ha z (List.mem_cons_of_mem _ hz)) (fun z hz => hb z (List.mem_cons_of_mem _ hz)) hu hv h2
    exact ⟨by rw [h1, k1], k2, k3⟩
theorem fm_hd (ss : List Sfl) (x : List Int) : ∃ u y, (ss.flatMap sb) ++ 10 :: x = u :: y ∧ rwb u = false := by
  cases ss with
  | nil => exact ⟨10, x, rfl, rfl⟩
  | cons s ss => exact ⟨36, s.1 :: s.2 ++ (ss.flatMap sb ++ 10 :: x), by
      rw [List.flatMap_cons, sb]
      simp only [List.cons_append, List.append_assoc], rfl⟩
theorem fm_inj : ∀ {ss tt : List Sfl} {x y : List Int}, (∀ s, s ∈ ss → vrow s.2) → (∀ s, s ∈ tt → vrow s.2) → (ss.flatMap sb) ++ 10 :: x = (tt.flatMap sb) ++ 10 :: y → ss = tt ∧ x = y
  | [], [], x, y, _, _, h => by
    rw [List.flatMap_nil, List.nil_append, List.nil_append] at h
    exact ⟨rfl, (List.cons.inj h).2⟩
  | [], t :: tt, x, y, _, _, h => by
    rw [List.flatMap_nil, List.nil_append, List.flatMap_cons, sb, List.cons_append] at h
    have := (List.cons.inj h).1
    omega
  | s :: ss, [], x, y, _, _, h => by
    rw [List.flatMap_nil, List.nil_append, List.flatMap_cons, sb, List.cons_append] at h
    have := (List.cons.inj h).1
    omega
  | s :: ss, t :: tt, x, y, hs, ht, h => by
    rw [List.flatMap_cons, List.flatMap_cons, sb, sb, List.append_assoc, List.append_assoc, List.cons_append, List.cons_append, List.cons_append, List.cons_append] at h
    obtain ⟨_, h1⟩ := List.cons.inj h
    obtain ⟨h2, h3⟩ := List.cons.inj h1
    obtain ⟨u, u1, u2, u3⟩ := fm_hd ss x
    obtain ⟨v, v1, v2, v3⟩ := fm_hd tt y
    rw [u2, v2] at h3
    obtain ⟨k1, k2, k3⟩ := spl_inj (P := rwb) ((hs s List.mem_cons_self).2.2) ((ht t List.mem_cons_self).2.2) u3 v3 h3
    obtain ⟨m1, m2⟩ := fm_inj (fun w hw => hs w (List.mem_cons_of_mem _ hw)) (fun w hw => ht w (List.mem_cons_of_mem _ hw)) (show (ss.flatMap sb) ++ 10 :: x = (tt.flatMap sb) ++ 10 :: y by rw [u2, v2, k2, k3])
    refine ⟨?_, m2⟩
    rw [m1]
    congr 1
    exact Prod.ext h2 k1
/-- a field's bytes say the field -/
theorem ser_inj {f g : Fdl} {x y : List Int} (hf : vfd f) (hg : vfd g) (h : ser f ++ x = ser g ++ y) : f = g ∧ x = y := by
  obtain ⟨a1, a2, a3, a4, a5⟩ := hf
  obtain ⟨b1, b2, b3, b4, b5⟩ := hg
  unfold ser tg3 at h
  simp only [List.cons_append, List.nil_append, List.append_assoc, List.cons.injEq, true_and] at h
  obtain ⟨h1, h2, h3, h4⟩ := h
  have tg : f.1 = g.1 := by omega
  unfold fbd at h4
  by_cases c : f.1 < 10
  · rw [if_pos c, if_pos (show g.1 < 10 by omega)] at h4
    obtain ⟨f1, f2, r, f3⟩ := a4 c
    obtain ⟨g1, g2, r', g3⟩ := b4 (by omega)
    rw [f3, g3, List.flatMap_cons, List.flatMap_nil, List.append_nil, List.flatMap_cons, List.flatMap_nil, List.append_nil] at h4
    have v1 := a3 (0, r) (by rw [f3]; exact List.mem_singleton.2 rfl)
    have v2 := b3 (0, r') (by rw [g3]; exact List.mem_singleton.2 rfl)
    obtain ⟨k1, _, k3⟩ := spl_inj (P := rwb) v1.2.2 v2.2.2 rfl rfl h4
    have k1' : r = r' := k1
    exact ⟨Prod.ext tg (Prod.ext (by rw [f1, g1]) (Prod.ext (by rw [f2, g2]) (by rw [f3, g3, k1']))), k3⟩
  · rw [if_neg c, if_neg (show ¬ g.1 < 10 by omega)] at h4
    rw [List.cons_append, List.cons_append, List.cons_append, List.cons_append] at h4
    obtain ⟨k1, k2⟩ := List.cons.inj h4
    obtain ⟨k3, k4⟩ := List.cons.inj k2
    obtain ⟨m1, m2⟩ := fm_inj a3 b3 k4
    exact ⟨Prod.ext tg (Prod.ext k1 (Prod.ext k3 m1)), m2⟩
theorem ser_ne (f : Fdl) : ser f ≠ [] := by
  unfold ser tg3
  exact fun h => by cases h
/-- a document's bytes say the document -/
theorem doc_inj : ∀ {D E : List Fdl}, (∀ f, f ∈ D → vfd f) → (∀ f, f ∈ E → vfd f) → doc D = doc E → D = E
  | [], [], _, _, _ => rfl
  | [], g :: E, _, _, h => by
    rw [doc, doc, List.flatMap_nil, List.flatMap_cons] at h
    exact absurd (List.append_eq_nil_iff.1 h.symm).1 (ser_ne g)
  | f :: D, [], _, _, h => by
    rw [doc, doc, List.flatMap_nil, List.flatMap_cons] at h
    exact absurd (List.append_eq_nil_iff.1 h).1 (ser_ne f)
  | f :: D, g :: E, hD, hE, h => by
    rw [doc, doc, List.flatMap_cons, List.flatMap_cons] at h
    obtain ⟨k1, k2⟩ := ser_inj (hD f List.mem_cons_self) (hE g List.mem_cons_self) h
    rw [k1, doc_inj (fun w hw => hD w (List.mem_cons_of_mem _ hw)) (fun w hw => hE w (List.mem_cons_of_mem _ hw)) k2]
end
