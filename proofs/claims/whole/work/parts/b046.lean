section
-- ge
/-- a record of the right size -/
def sml : List Fdl → Bool
  | [] => true
  | f :: D => decide (f.2.2.2.length ≤ 5) && sml D
def rsz (D : List Fdl) : Bool := decide (1 ≤ D.length) && decide (D.length ≤ 12) && sml D
theorem l_rsz {e : w_E} {N : Nat} {T : w_S} {t2 : Nat → Int} {top : Int} {D : List Fdl} (hD : Dr T t2 top D) (hl : D.length ≤ 20) : ∀ (k F nf : Nat) (b : Bool), F + k = D.length → k < nf → El_Draft_hasRightSize e N nf 0 [bi b, (F : Int)] [] T = some (bi (b && sml (D.drop F)), T)
  | _, _, 0, _, _, h => by omega
  | 0, F, nf + 1, b, g1, g2 => by
    refine ok_eq ?_
    rw [El_Draft_hasRightSize, hD.1, List.drop_of_length_le (by omega), sml, Bool.and_true]
    refine ok_t (by omega) (ok_t ?_ (ok_s ⟨rfl, rfl⟩))
    cases b
    · exact Or.inl rfl
    · exact Or.inr rfl
  | k + 1, F, nf + 1, b, g1, g2 => by
    have dd : D.drop F = D.getD F (0, 0, 0, []) :: D.drop (F + 1) := drop_cons (by omega)
    have dF := hD.2 F (by omega)
    have ih := fun b => l_rsz (e := e) (N := N) hD hl k (F + 1) nf b (by omega) (by omega)
    rw [show ((F + 1 : Nat) : Int) = (F : Int) + 1 by omega] at ih
    refine ok_eq ?_
    rw [El_Draft_hasRightSize, hD.1, dd, sml, show ((F : Int)).toNat = F by omega, dF.2.2.2.1]
    refine ok_e (by omega) ?_
    cases b with
    | false =>
      refine ok_t rfl (ok_nb (by omega) (ok_of (ih false) ⟨?_, rfl⟩))
      rw [Bool.false_and, Bool.false_and]
    | true =>
      refine ok_e (by decide) (ok_ib (by omega) ?_)
      by_cases c : (D.getD F (0, 0, 0, [])).2.2.2.length ≤ 5
      · refine ok_e (by omega) (ok_nb (by omega) (ok_of (ih true) ⟨?_, rfl⟩))
        rw [decide_eq_true c, Bool.true_and, Bool.true_and]
      · refine ok_t (by omega) (ok_nb (by omega) (ok_of (ih false) ⟨?_, rfl⟩))
        rw [decide_eq_false c, Bool.false_and, Bool.and_false]
theorem x_rsz {e : w_E} {N : Nat} {T : w_S} {t2 : Nat → Int} {top : Int} {D : List Fdl} (hN : 100 ≤ N) (hD : Dr T t2 top D) (hl : D.length ≤ 20) : E_Draft_hasRightSize e N T = some (bi (rsz D), T) := by
  refine ok_eq ?_
  unfold E_Draft_hasRightSize rsz
  rw [hD.1]
  have k := fun b => l_rsz (e := e) (N := N) hD hl D.length 0 N b (by omega) (by omega)
  by_cases c1 : D.length < 1
  · refine ok_t (by omega) (ok_of (k false) ⟨?_, rfl⟩)
    rw [decide_eq_false (show ¬ 1 ≤ D.length by omega), Bool.false_and, Bool.false_and, Bool.false_and]
  refine ok_e (by omega) ?_
  by_cases c2 : 12 < D.length
  · refine ok_t (by omega) (ok_of (k false) ⟨?_, rfl⟩)
    rw [decide_eq_false (show ¬ D.length ≤ 12 by omega), Bool.and_false, Bool.false_and, Bool.false_and]
  · refine ok_e (by omega) (ok_of (k true) ⟨?_, rfl⟩)
    rw [decide_eq_true (show 1 ≤ D.length by omega), decide_eq_true (show D.length ≤ 12 by omega), List.drop_zero, Bool.true_and]
    rfl
/-- the reference counts subfields -/
theorem l_rsr1 {e : w_E} {N wa q p : Nat} {R : w_S} {x1 x2 : Int} (hN : 100000 ≤ N) (hw : R.2.1 3 = wa) (hL : e_len Tr R wa 1 = some 20000) (hq : q < 20000) (h10 : R.1 wa q = 10) : ∀ (ss : List Sfl) (u j nf : Nat), (∀ s, s ∈ ss → vrow s.2) → byt (R.1 wa) u (ss.flatMap sb) → u + (ss.flatMap sb).length = q → j + ss.length ≤ 1000 → ss.length < nf → ∃ n', nf = n' + ss.length + 1 ∧ ∀ P, Ok (if x2 = 0 then (if w_nb (x1 + 1) = true then ((E_R_fieldEnd e N (p : Int) wa R).bind (fun q1147 => (if w_nb (q1147.1 + 1) = true then El_R_isRight e N n' 0 [x1 + 1, 0, q1147.1 + 1] [] q1147.2 else none))) else none) else (if 6 ≤ ((j + ss.length : Nat) : Int) then (if w_nb (x1 + 1) = true then ((E_R_fieldEnd e N (p : Int) wa R).bind (fun q1148 => (if w_nb (q1148.1 + 1) = true then El_R_isRight e N n' 0 [x1 + 1, 0, q1148.1 + 1] [] q1148.2 else none))) else none) else (if w_nb (x1 + 1) = true then ((E_R_fieldEnd e N (p : Int) wa R).bind (fun q1149 => (if w_nb (q1149.1 + 1) = true then El_R_isRight e N n' 0 [x1 + 1, 1, q1149.1 + 1] [] q1149.2 else none))) else none))) P → Ok (El_R_isRight e N nf 1 [x1, x2, (p : Int), (q : Int), (j : Int), (u : Int)] [] R) P
  | _, _, _, 0, _, _, _, _, h => by omega
  | [], u, j, nf + 1, g1, g2, g3, g4, g5 => by
    refine ⟨nf, rfl, fun P h => ?_⟩
    rw [List.flatMap_nil, List.length_nil] at g3
    rw [List.length_nil, Nat.add_zero] at h
    rw [El_R_isRight, hw]
    exact ok_t (by omega) h
  | s :: ss, u, j, nf + 1, g1, g2, g3, g4, g5 => by
    rw [List.length_cons] at g4 g5
    rw [List.flatMap_cons] at g2 g3
    rw [byt_app] at g2
    rw [List.length_append] at g3
    have sv := g1 s List.mem_cons_self
    have l1 : (sb s).length = s.2.length + 2 := by
      unfold sb
      rw [List.length_cons, List.length_cons]
    have b3 : byt (R.1 wa) (u + 2) s.2 := by
      have := g2.1
      unfold sb at this
      exact this.2.2
    have re : E_R_rowEnd e N ((u : Int) + 2) (q : Int) wa R = some (((u + (sb s).length : Nat) : Int), R) := by
      have re0 := l_rowEnd (e := e) (N := N) (q := (q : Int)) hL (by decide) s.2 (u + 2) N (fun b hb => rw36 (sv.2.2 b hb)) b3 (by omega) (by omega) ?_ (by have := sv.2.1; omega)
      · unfold E_R_rowEnd
        rw [show (u : Int) + 2 = ((u + 2 : Nat) : Int) by omega, l1, show u + (s.2.length + 2) = u + 2 + s.2.length by omega]
        exact re0
      · cases ss with
        | nil =>
          left
          rw [List.flatMap_nil, List.length_nil] at g3
          omega
        | cons t ss =>
          right
          have h7 := g2.2
          rw [List.flatMap_cons, byt_app] at h7
          have h8 := h7.1
          unfold sb at h8
          rw [byt] at h8
          have h9 := h8.1
          rw [List.length_cons, List.length_cons, show u + (s.2.length + 1 + 1) = u + 2 + s.2.length by omega] at h9
          exact h9
    obtain ⟨n', i1, i2⟩ := l_rsr1 (e := e) (N := N) (p := p) (x1 := x1) (x2 := x2) hN hw hL hq h10 ss (u + (sb s).length) (j + 1) nf (fun t ht => g1 t (List.mem_cons_of_mem _ ht)) g2.2 (by omega) (by omega) (by omega)
    refine ⟨n', by rw [List.length_cons]; omega, fun P h => ?_⟩
    rw [El_R_isRight, hw]
    refine ok_e (by omega) (ok_nb (by omega) (ok_nb (by omega) (ok_b (ok_of re ?_))))
    dsimp only
    rw [show (j : Int) + 1 = ((j + 1 : Nat) : Int) by omega]
    refine i2 P ?_
    rw [List.length_cons] at h
    rw [show j + 1 + ss.length = j + (ss.length + 1) by omega]
    exact h
/-- the reference looks whether the record under work has the right size -/
theorem l_rsr0 {e : w_E} {N wa : Nat} {R : w_S} {ps : Int} (hN : 100000 ≤ N) (hw : R.2.1 3 = wa) (hL : e_len Tr R wa 1 = some 20000) (hps : R.1 129 100 = ps) (hps2 : ps ≤ 20000) : ∀ (D : List Fdl) (p c nf : Nat) (b : Bool), (∀ f, f ∈ D → vfd f ∧ f.2.2.2.length ≤ 13) → byt (R.1 wa) p (doc D) → ((p + (doc D).length : Nat) : Int) = ps → c + D.length ≤ 1000 → 20 * D.length < nf → El_R_isRight e N nf 0 [(c : Int), bi b, (p : Int)] [] R = some (bi (b && sml D && decide (1 ≤ c + D.length) && decide (c + D.length ≤ 12)), R)
  | _, _, _, 0, _, _, _, _, _, h => by omega
  | [], p, c, nf + 1, b, g1, g2, g3, g4, g5 => by
    rw [doc, List.flatMap_nil, List.length_nil] at g3
    refine ok_eq ?_
    rw [El_R_isRight, hps, List.length_nil, Nat.add_zero, sml, Bool.and_true]
    refine ok_t (by omega) ?_
    cases b with
    | false => exact ok_t rfl (ok_s ⟨rfl, rfl⟩)
    | true =>
      refine ok_e (by decide) ?_
      by_cases c1 : c < 1
      · refine ok_t (by omega) (ok_s ⟨?_, rfl⟩)
        rw [decide_eq_false (show ¬ 1 ≤ c by omega)]
        rfl
      refine ok_e (by omega) ?_
      by_cases c2 : 12 < c
      · refine ok_t (by omega) (ok_s ⟨?_, rfl⟩)
        rw [decide_eq_false (show ¬ c ≤ 12 by omega), Bool.and_false]
        rfl
      · refine ok_e (by omega) (ok_s ⟨?_, rfl⟩)
        rw [decide_eq_true (show 1 ≤ c by omega), decide_eq_true (show c ≤ 12 by omega)]
        rfl
  | f :: D, p, c, nf + 1, b, g1, g2, g3, g4, g5 => by
    rw [List.length_cons] at g4 g5
    obtain ⟨fv, fs⟩ := g1 f List.mem_cons_self
    have sl := ser_len f
    have t1 := fv.1
    have t2 := fv.2.1
    rw [doc, List.flatMap_cons] at g2 g3
    rw [byt_app] at g2
    rw [List.length_append] at g3
    have fa : Fat R wa 20000 p f := ⟨hL, by decide, g2.1, by omega, fv⟩
    have tgl := fa.1
    obtain ⟨b0, b1, b2, b3⟩ := fa.tag
    have fe := x_fieldEnd (e := e) (N := N) (by omega) fa
    have ih := fun (nf' : Nat) (b' : Bool) (h : 20 * D.length < nf') => l_rsr0 (e := e) hN hw hL hps hps2 D (p + (ser f).length) (c + 1) nf' b' (fun g hg => g1 g (List.mem_cons_of_mem _ hg)) g2.2 (by rw [doc]; omega) (by omega) h
    have go : ∀ (nf' : Nat) (b' : Bool), 20 * D.length < nf' → b' = (b && decide (f.2.2.2.length ≤ 5)) → Ok (if w_nb ((c : Int) + 1) = true then ((E_R_fieldEnd e N (p : Int) wa R).bind (fun q1146 => (if w_nb (q1146.1 + 1) = true then El_R_isRight e N nf' 0 [(c : Int) + 1, bi b', q1146.1 + 1] [] q1146.2 else none))) else none) (fun y S1 => y = bi (b && sml (f :: D) && decide (1 ≤ c + (D.length + 1)) && decide (c + (D.length + 1) ≤ 12)) ∧ S1 = R) := fun nf' b' h1 h2 => by
      refine ok_nb (by omega) (ok_b (ok_of fe (ok_nb (by omega) ?_)))
      dsimp only
      have k := ih nf' b' h1
      rw [show ((p + (fbd f).length + 4 : Nat) : Int) + 1 = ((p + (ser f).length : Nat) : Int) by omega, show (c : Int) + 1 = ((c + 1 : Nat) : Int) by omega]
      refine ok_of k ⟨?_, rfl⟩
      rw [h2, sml, Bool.and_assoc b, show c + 1 + D.length = c + (D.length + 1) by omega]
    refine ok_eq ?_
    rw [El_R_isRight, hps, hw, List.length_cons]
    refine ok_e (by omega) (ok_b (ok_of fe ?_))
    dsimp only
    rw [hw, show ((p : Int)).toNat = p by omega, show ((p : Int) + 1).toNat = p + 1 by omega, show ((p : Int) + 2).toNat = p + 2 by omega, b0, b1, b2]
    (refine ok_len tgl ?_); (with_reducible refine ok_t (by omega) ?_); (with_reducible refine ok_t (by omega) (ok_nb (by omega) (ok_nb (by omega) (ok_nb (by omega) ?_)))); (refine ok_len tgl ?_); (with_reducible refine ok_t (by omega) ?_); (with_reducible refine ok_t (by omega) (ok_nb (by omega) (ok_nb (by omega) (ok_nb (by omega) (ok_nb (by omega) ?_))))); (refine ok_len tgl ?_); (with_reducible refine ok_t (by omega) ?_); (with_reducible refine ok_t (by omega) (ok_nb (by omega) (ok_nb (by omega) ?_)))
    rw [show 100 * (48 + f.1 / 100 - 48) + 10 * (48 + f.1 / 10 % 10 - 48) + (48 + f.1 % 10) - 48 = f.1 by omega]
    by_cases c1 : f.1 ≤ 9
    · obtain ⟨_, _, r, hr⟩ := fv.2.2.2.1 (by omega)
      have l1 : f.2.2.2.length = 1 := by
        rw [hr]
        rfl
      refine ok_t c1 ?_
      cases b with
      | false => exact ok_t rfl (go nf false (by omega) (by rw [Bool.false_and]))
      | true => exact ok_e (by decide) (go nf true (by omega) (by rw [decide_eq_true (show f.2.2.2.length ≤ 5 by omega)]; rfl))
    · refine ok_e c1 (ok_nb (by omega) ?_)
      have fb : fbd f = f.2.1 :: f.2.2.1 :: f.2.2.2.flatMap sb := by
        unfold fbd
        rw [if_neg (by omega)]
      have by4 := (byt_app (fbd f) [10] (p + 4)).1 b3
      rw [fb] at by4
      have by6 : byt (R.1 wa) (p + 6) (f.2.2.2.flatMap sb) := by4.1.2.2
      have lf : (fbd f).length = (f.2.2.2.flatMap sb).length + 2 := by
        rw [fb, List.length_cons, List.length_cons]
      have h10 : R.1 wa (p + (fbd f).length + 4) = 10 := by
        have := by4.2.1
        rw [← fb] at this
        rw [show p + (fbd f).length + 4 = p + 4 + (fbd f).length by omega]
        exact this
      obtain ⟨n', i1, i2⟩ := l_rsr1 (e := e) (N := N) (q := p + (fbd f).length + 4) (p := p) (x1 := (c : Int)) (x2 := bi b) hN hw hL (by omega) h10 f.2.2.2 (p + 6) 0 nf fv.2.2.1 by6 (by omega) (by omega) (by omega)
      rw [show ((p + 6 : Nat) : Int) = (p : Int) + 6 by omega] at i2
      refine i2 _ ?_
      rw [Nat.zero_add]
      cases b with
      | false => exact ok_t rfl (go n' false (by omega) (by rw [Bool.false_and]))
      | true =>
        refine ok_e (by decide) ?_
        by_cases c2 : f.2.2.2.length ≤ 5
        · exact ok_e (by omega) (go n' true (by omega) (by rw [decide_eq_true c2]; rfl))
        · exact ok_t (by omega) (go n' false (by omega) (by rw [decide_eq_false c2]; rfl))
theorem x_right {e : w_E} {N wa oa m : Nat} {R : w_S} {D : List Fdl} (hN : 100000 ≤ N) (hw : Wrk R wa oa) (h100 : R.1 129 100 = ((doc D).length : Nat)) (hb : byt (R.1 wa) 0 (doc D)) (hD : vdb m D) (hm : m ≤ 8) : E_R_isRight e N R = some (bi (rsz D), R) := by
  unfold E_R_isRight rsz
  have d1 := doc_le2 (D := D) (fun f hf => ⟨(hD.2 f hf).1, by have := (hD.2 f hf).2; omega⟩)
  have d3 := hD.1
  have k := l_rsr0 (e := e) (N := N) (ps := ((doc D).length : Nat)) hN hw.1 hw.2.2.2.1 h100 (by omega) D 0 0 N true (fun f hf => ⟨(hD.2 f hf).1, by have := (hD.2 f hf).2; omega⟩) hb (by omega) (by omega) (by omega)
  rw [Nat.zero_add, Bool.true_and] at k
  rw [show (decide (1 ≤ D.length) && decide (D.length ≤ 12) && sml D) = (sml D && decide (1 ≤ D.length) && decide (D.length ≤ 12)) by cases decide (1 ≤ D.length) <;> cases decide (D.length ≤ 12) <;> cases sml D <;> rfl]
  exact k
end
section
-- gf
theorem l_isV {e : w_E} {N v wa ta L p m : Nat} {R : w_S} (hv : v < 400) (hw : R.2.1 3 = wa) (ht : R.2.1 2 = ta) (hL : e_len Tr R wa 1 = some 20000) (hT : e_len Tr R ta 1 = some L) (hL2 : L < 2000000000) (h100 : R.1 129 100 = (m : Int)) (h138 : R.1 138 v = (p : Int)) (hm : m ≤ 20000) (hpm : p + m ≤ L) : ∀ (a b : List Int) (i nf : Nat), a.length = b.length → i + a.length = m → byt (R.1 wa) i a → byt (R.1 ta) (p + i) b → a.length + 1 < nf → El_R_isVersion e N nf 0 [(v : Int), 1, (i : Int)] [] R = some ((if a = b then 1 else 0), R)
  | _, _, _, 0, _, _, _, _, h => by omega
  | [], b, i, nf + 1, g1, g2, g3, g4, g5 => by
    rw [List.length_nil] at g1 g2
    have hb : b = [] := List.length_eq_zero_iff.1 g1.symm
    rw [if_pos hb.symm]
    refine ok_eq ?_
    rw [El_R_isVersion, h100]
    exact ok_t (by omega) (ok_t (Or.inr rfl) (ok_s ⟨rfl, rfl⟩))
  | x :: a, [], i, nf + 1, g1, _, _, _, _ => by
    rw [List.length_nil, List.length_cons] at g1
    omega
  | x :: a, y :: b, i, nf + 1, g1, g2, g3, g4, g5 => by
    rw [List.length_cons, List.length_cons] at g1
    rw [List.length_cons] at g2 g5
    have k1 : R.1 wa i = x := g3.1
    have k2 : R.1 ta (p + i) = y := g4.1
    refine ok_eq ?_
    rw [El_R_isVersion, h100, hw, ht, show ((v : Int)).toNat = v by omega, h138, show ((i : Int)).toNat = i by omega, show ((p : Int) + (i : Int)).toNat = p + i by omega, k1, k2]
    refine ok_e (by omega) (ok_e (by decide) (ok_len hL ?_))
    with_reducible refine ok_t (by omega) ?_
    refine ok_t (by show (i : Int) < ((20000 : Nat) : Int); omega) (ok_ib (by omega) (ok_nb (by omega) (ok_len hT ?_)))
    with_reducible refine ok_t (by omega) ?_
    with_reducible refine ok_t (by omega) ?_
    by_cases c : x = y
    · have ih := l_isV (e := e) (N := N) hv hw ht hL hT hL2 h100 h138 hm hpm a b (i + 1) nf (by omega) (by omega) g3.2 g4.2 (by omega)
      rw [show ((i + 1 : Nat) : Int) = (i : Int) + 1 by omega] at ih
      refine ok_e (fun z => z c) (ok_nb (by omega) (ok_of ih ⟨?_, rfl⟩))
      subst c
      by_cases d : a = b
      · rw [if_pos d, if_pos (by rw [d])]
      · rw [if_neg d, if_neg (fun z => d (List.cons.inj z).2)]
    · refine ok_t c (ok_nb (by omega) ?_)
      rw [if_neg (fun z => c (List.cons.inj z).1)]
      cases nf with
      | zero => omega
      | succ nf =>
        rw [El_R_isVersion, h100]
        by_cases d : (m : Int) ≤ (i : Int) + 1
        · exact ok_t d (ok_t (Or.inl rfl) (ok_s ⟨rfl, rfl⟩))
        · exact ok_e d (ok_t rfl (ok_t (Or.inl rfl) (ok_s ⟨rfl, rfl⟩)))
theorem x_isV {e : w_E} {N v wa ta L p : Nat} {R : w_S} {a b : List Int} (hN : 100000 ≤ N) (hv : v < 400) (hw : R.2.1 3 = wa) (ht : R.2.1 2 = ta) (hL : e_len Tr R wa 1 = some 20000) (hT : e_len Tr R ta 1 = some L) (hL2 : L < 2000000000) (h100 : R.1 129 100 = (a.length : Nat)) (h138 : R.1 138 v = (p : Int)) (h139 : R.1 139 v = (b.length : Nat)) (hm : a.length ≤ 20000) (hpm : p + b.length ≤ L) (ha : byt (R.1 wa) 0 a) (hb : byt (R.1 ta) p b) : E_R_isVersion e N (v : Int) R = some ((if a = b then 1 else 0), R) := by
  refine ok_eq ?_
  unfold E_R_isVersion
  rw [show ((v : Int)).toNat = v by omega, h100, h139]
  refine ok_ib (by omega) ?_
  by_cases c : a.length = b.length
  · have k := l_isV (e := e) (N := N) (m := a.length) hv hw ht hL hT hL2 h100 h138 hm (by omega) a b 0 N c (by omega) ha hb (by omega)
    exact ok_e (by omega) (ok_of k ⟨rfl, rfl⟩)
  · have en : ¬ a = b := fun z => c (by rw [z])
    rw [if_neg en]
    refine ok_t (by omega) ?_
    cases N with
    | zero => omega
    | succ N =>
      rw [El_R_isVersion, h100]
      by_cases d : ((a.length : Nat) : Int) ≤ 0
      · exact ok_t d (ok_t (Or.inl rfl) (ok_s ⟨rfl, rfl⟩))
      · exact ok_e d (ok_t rfl (ok_t (Or.inl rfl) (ok_s ⟨rfl, rfl⟩)))
theorem rw_row {S : w_S} {top x y : Int} {a b : List Int} {e : w_E} {N : Nat} (hN : 1000 ≤ N) (htop : top ≤ 10240) (hs : ∀ j, -128 ≤ S.1 2 j ∧ S.1 2 j ≤ 127) (ha : Rw (S.1 2) top x a.length (fun u => a.getD u 0)) (hb : Rw (S.1 2) top y b.length (fun u => b.getD u 0)) (va : vrow a) (vb : vrow b) : ∃ z, E_Tape_compareRows e N x y S = some (z, S) ∧ (z = 0 ↔ a = b) := by
  obtain ⟨p, p1, p2, p3⟩ := ha
  obtain ⟨q, q1, q2, q3⟩ := hb
  have l1 := va.2.1
  have l2 := vb.2.1
  subst p1
  subst q1
  exact ⟨_, x_cmp (e := e) hN (by omega) (by omega) (by omega) (by omega) hs, row_eqv p3 q3 (by omega)⟩
theorem drop_sf {l : List Sfl} {j : Nat} (h : j < l.length) : l.drop j = l.getD j (0, []) :: l.drop (j + 1) := by
  rw [List.drop_eq_getElem_cons h, List.getD_eq_getElem?_getD, List.getElem?_eq_getElem h]
  rfl
/-- the class compares subfields -/
theorem l_sm1 {e : w_E} {N v F : Nat} {S : w_S} {top : Int} {f g : Fdl} (hN : 1000 ≤ N) (htop : top ≤ 10240) (hs : ∀ j, -128 ≤ S.1 2 j ∧ S.1 2 j ≤ 127) (hv : v < 400) (hF : F < 12) (hc : CtF S (S.1 2) top v F g) (hd : DrF S (S.1 2) top F f) (hf : ∀ s, s ∈ f.2.2.2 → vrow s.2) (hg : ∀ s, s ∈ g.2.2.2 → vrow s.2) (hl : f.2.2.2.length = g.2.2.2.length) (h5 : f.2.2.2.length ≤ 5) : ∀ (k j nf : Nat), j + k = f.2.2.2.length → k + 3 < nf → ∃ n', nf = n' + k + 1 ∧ El_Catalog_isSame e N nf 1 [(v : Int), 1, (F : Int), (v : Int) * 12 + (F : Int), (j : Int)] [] S = if f.2.2.2.drop j = g.2.2.2.drop j then El_Catalog_isSame e N n' 0 [(v : Int), 1, (F : Int) + 1] [] S else some (0, S)
  | _, _, 0, _, h => by omega
  | 0, j, nf + 1, g1, g2 => by
    refine ⟨nf, rfl, ?_⟩
    rw [List.drop_of_length_le (by omega), List.drop_of_length_le (by omega), if_pos rfl]
    rw [El_Catalog_isSame, show ((F : Int)).toNat = F by omega, hd.2.2.2.1, if_neg (by decide), if_pos (by rw [w_ibE]; omega), if_pos (by omega), if_pos (by rw [w_nbE]; omega)]
  | k + 1, j, nf + 1, g1, g2 => by
    obtain ⟨n', i1, i2⟩ := l_sm1 (e := e) (N := N) hN htop hs hv hF hc hd hf hg hl h5 k (j + 1) nf (by omega) (by omega)
    rw [show ((j + 1 : Nat) : Int) = (j : Int) + 1 by omega] at i2
    refine ⟨n', by omega, ?_⟩
    obtain ⟨d1, d2⟩ := hd.2.2.2.2 j (by omega)
    obtain ⟨c1, c2⟩ := hc.2.2.2.2 j (by omega)
    have m1 := hf _ (memD (d := (0, [])) (show j < f.2.2.2.length by omega))
    have m2 := hg _ (memD (d := (0, [])) (show j < g.2.2.2.length by omega))
    obtain ⟨z, z1, z2⟩ := rw_row (e := e) (N := N) hN htop hs c2 d2 m2 m1
    have zero : El_Catalog_isSame e N nf 1 [(v : Int), 0, (F : Int), (v : Int) * 12 + (F : Int), (j : Int) + 1] [] S = some (0, S) := by
      obtain ⟨n2, hn2⟩ : ∃ n, nf = n + 1 + 1 := ⟨nf - 2, by omega⟩
      subst hn2
      rw [El_Catalog_isSame, if_pos rfl, if_pos (by rw [w_nbE]; omega), El_Catalog_isSame, if_pos rfl, if_pos (Or.inl rfl)]
    rw [drop_sf (show j < f.2.2.2.length by omega), drop_sf (show j < g.2.2.2.length by omega)]
    rw [El_Catalog_isSame, show ((F : Int)).toNat = F by omega, hd.2.2.2.1, show (((v : Int) * 12 + (F : Int)) * 5 + (j : Int)).toNat = 5 * (12 * v + F) + j by omega, show ((F : Int) * 13 + (j : Int)).toNat = 13 * F + j by omega, c1, d1]
    rw [if_neg (by decide), if_pos (by rw [w_ibE]; omega), if_neg (by omega), if_pos (by rw [w_nbE]; omega), if_pos (by rw [w_nbE]; omega), if_pos (by rw [w_nbE]; omega), if_pos (by rw [w_nbE]; omega), if_pos (by rw [w_ibE]; omega), if_pos (by rw [w_ibE]; omega)]
    by_cases k1 : (g.2.2.2.getD j (0, [])).1 = (f.2.2.2.getD j (0, [])).1
    rotate_left
    · rw [if_pos k1, if_pos (by rw [w_nbE]; omega), zero, if_neg]
      intro h
      exact k1 (by rw [(List.cons.inj h).1])
    rw [if_neg (fun w => w k1), z1]
    show (if z ≠ 0 then (if w_nb ((j : Int) + 1) = true then El_Catalog_isSame e N nf 1 [(v : Int), 0, (F : Int), (v : Int) * 12 + (F : Int), (j : Int) + 1] [] S else none) else (if w_nb ((j : Int) + 1) = true then El_Catalog_isSame e N nf 1 [(v : Int), 1, (F : Int), (v : Int) * 12 + (F : Int), (j : Int) + 1] [] S else none)) = _
    by_cases k2 : (g.2.2.2.getD j (0, [])).2 = (f.2.2.2.getD j (0, [])).2
    · rw [if_neg (fun w => w (z2.2 k2)), if_pos (by rw [w_nbE]; omega), i2]
      have e1 : f.2.2.2.getD j (0, []) = g.2.2.2.getD j (0, []) := Prod.ext k1.symm k2.symm
      by_cases k3 : f.2.2.2.drop (j + 1) = g.2.2.2.drop (j + 1)
      · rw [if_pos k3, if_pos (by rw [e1, k3])]
      · rw [if_neg k3, if_neg (fun h => k3 (List.cons.inj h).2)]
    · rw [if_pos (fun w => k2 (z2.1 w)), if_pos (by rw [w_nbE]; omega), zero, if_neg]
      intro h
      exact k2 (by rw [(List.cons.inj h).1])
/-- the class compares a version with the draft -/
theorem l_sm0 {e : w_E} {N v : Nat} {S : w_S} {top : Int} {D E : List Fdl} (hN : 1000 ≤ N) (htop : top ≤ 10240) (hs : ∀ j, -128 ≤ S.1 2 j ∧ S.1 2 j ≤ 127) (hv : v < 400) (hD : Dr S (S.1 2) top D) (hl : D.length = E.length) (hl2 : D.length ≤ 12) (hE : ∀ F, F < E.length → CtF S (S.1 2) top v F (E.getD F (0, 0, 0, []))) (vD : ∀ f, f ∈ D → vfd f ∧ f.2.2.2.length ≤ 5) (vE : ∀ f, f ∈ E → vfd f) : ∀ (k F nf : Nat), F + k = D.length → 20 * k + 5 < nf → El_Catalog_isSame e N nf 0 [(v : Int), 1, (F : Int)] [] S = some ((if D.drop F = E.drop F then 1 else 0), S)
  | _, _, 0, _, h => by omega
  | 0, F, nf + 1, g1, g2 => by
    rw [List.drop_of_length_le (by omega), List.drop_of_length_le (by omega), if_pos rfl, El_Catalog_isSame, hD.1, if_neg (by decide), if_pos (by omega), if_pos (Or.inr rfl)]
  | k + 1, F, nf + 1, g1, g2 => by
    have ih := fun n h => l_sm0 (e := e) (N := N) hN htop hs hv hD hl hl2 hE vD vE k (F + 1) n (by omega) h
    rw [show ((F + 1 : Nat) : Int) = (F : Int) + 1 by omega] at ih
    have dF := hD.2 F (by omega)
    have cF := hE F (by omega)
    obtain ⟨fv, f5⟩ := vD _ (memD (d := (0, 0, 0, [])) (show F < D.length by omega))
    have gv := vE _ (memD (d := (0, 0, 0, [])) (show F < E.length by omega))
    have e1 : D.drop F = D.getD F (0, 0, 0, []) :: D.drop (F + 1) := drop_cons (by omega)
    have e2 : E.drop F = E.getD F (0, 0, 0, []) :: E.drop (F + 1) := drop_cons (by omega)
    rw [e1, e2]
    generalize D.getD F (0, 0, 0, []) = f at *
    generalize E.getD F (0, 0, 0, []) = g at *
    have zero : El_Catalog_isSame e N nf 1 [(v : Int), 0, (F : Int), (v : Int) * 12 + (F : Int), 0] [] S = some (0, S) := by
      obtain ⟨n2, hn2⟩ : ∃ n, nf = n + 1 + 1 := ⟨nf - 2, by omega⟩
      subst hn2
      rw [El_Catalog_isSame, if_pos rfl, if_pos (by rw [w_nbE]; omega), El_Catalog_isSame, if_pos rfl, if_pos (Or.inl rfl)]
    rw [El_Catalog_isSame, hD.1, show ((F : Int)).toNat = F by omega, show ((v : Int) * 12 + (F : Int)).toNat = 12 * v + F by omega, cF.1, cF.2.1, cF.2.2.1, cF.2.2.2.1, dF.1, dF.2.1, dF.2.2.1, dF.2.2.2.1]
    rw [if_neg (by decide), if_neg (by omega), if_pos (by rw [w_nbE]; omega), if_pos (by rw [w_nbE]; omega), if_pos (by rw [w_ibE]; omega), if_pos (by rw [w_ibE]; omega)]
    by_cases k1 : g.1 = f.1
    rotate_left
    · rw [if_pos k1, zero, if_neg]
      intro h
      exact k1 (by rw [(List.cons.inj h).1])
    rw [if_neg (fun w => w k1)]
    by_cases k2 : g.2.1 = f.2.1
    rotate_left
    · rw [if_pos k2, zero, if_neg]
      intro h
      exact k2 (by rw [(List.cons.inj h).1])
    rw [if_neg (fun w => w k2)]
    by_cases k3 : g.2.2.1 = f.2.2.1
    rotate_left
    · rw [if_pos k3, zero, if_neg]
      intro h
      exact k3 (by rw [(List.cons.inj h).1])
    rw [if_neg (fun w => w k3)]
    by_cases k4 : g.2.2.2.length = f.2.2.2.length
    rotate_left
    · rw [if_pos (by omega), zero, if_neg]
      intro h
      exact k4 (by rw [(List.cons.inj h).1])
    rw [if_neg (by omega)]
    obtain ⟨n', i1, i2⟩ := l_sm1 (e := e) (N := N) hN htop hs hv (show F < 12 by omega) cF dF fv.2.2.1 gv.2.2.1 k4.symm f5 f.2.2.2.length 0 nf (by omega) (by omega)
    rw [show ((0 : Nat) : Int) = 0 from rfl, List.drop_zero, List.drop_zero] at i2
    rw [i2]
    by_cases k5 : f.2.2.2 = g.2.2.2
    · rw [if_pos k5, ih n' (by omega)]
      have e3 : f = g := Prod.ext k1.symm (Prod.ext k2.symm (Prod.ext k3.symm k5))
      by_cases k6 : D.drop (F + 1) = E.drop (F + 1)
      · rw [if_pos k6, if_pos (by rw [e3, k6])]
      · rw [if_neg k6, if_neg (fun h => k6 (List.cons.inj h).2)]
    · rw [if_neg k5, if_neg]
      intro h
      exact k5 (by rw [(List.cons.inj h).1])
theorem x_samev {e : w_E} {N v : Nat} {S : w_S} {top : Int} {D E : List Fdl} (hN : 1000 ≤ N) (htop : top ≤ 10240) (hs : ∀ j, -128 ≤ S.1 2 j ∧ S.1 2 j ≤ 127) (hv : v < 400) (hD : Dr S (S.1 2) top D) (hl2 : D.length ≤ 12) (hE0 : S.1 10 v = (E.length : Nat)) (hE : ∀ F, F < E.length → CtF S (S.1 2) top v F (E.getD F (0, 0, 0, []))) (vD : ∀ f, f ∈ D → vfd f ∧ f.2.2.2.length ≤ 5) (vE : ∀ f, f ∈ E → vfd f) : E_Catalog_isSame e N (v : Int) S = some ((if D = E then 1 else 0), S) := by
  unfold E_Catalog_isSame
  rw [if_pos (by rw [w_ibE]; omega), show ((v : Int)).toNat = v by omega, hE0, hD.1]
  by_cases c : D.length = E.length
  · rw [if_neg (by omega)]
    have k := l_sm0 (e := e) (N := N) hN htop hs hv hD c hl2 hE vD vE D.length 0 N (by omega) (by omega)
    rw [List.drop_zero, List.drop_zero] at k
    exact k
  · have en : ¬ D = E := fun z => c (by rw [z])
    rw [if_pos (by omega), if_neg en]
    cases N with
    | zero => omega
    | succ N => rw [El_Catalog_isSame, if_pos rfl, if_pos (Or.inl rfl)]
end
section
-- gg
theorem RelVr.up {S R : w_S} {top top' : Int} {ta L E V n : Nat} (h : RelVr S R top ta L E V n) (ht : top ≤ top') : RelVr S R top' ta L E V n := by
  obtain ⟨k1, k2, k3, k4, k5, k6, k7, k8, k9, k10, k11⟩ := h
  refine ⟨k1, k2, k3, k4, k5, k6, k7, k8, k9, k10, fun v hv => ?_⟩
  obtain ⟨a1, a2, a3, a4, a5, a6, D, a7⟩ := k11 v hv
  exact ⟨a1, a2, a3, a4, a5, a6, D, a7.up ht⟩
/-- the rows of a batch change places: the catalog stays -/
theorem RelVr.sw {S S1 R R1 : w_S} {top : Int} {ta L E V n : Nat} (h : RelVr S R top ta L E V n) (c : ∀ a, (a = 2 ∨ a = 4 ∨ (8 ≤ a ∧ a ≤ 16)) → S1.1 a = S.1 a) (c0 : S1.1 3 = S.1 3) (c27 : S1.1 27 = S.1 27) (d : ∀ a, ((136 ≤ a ∧ a ≤ 140) ∨ 238 ≤ a) → R1.1 a = R.1 a) (d1 : ∀ j, (j = 13 ∨ j = 17 ∨ j = 23) → R1.1 129 j = R.1 129 j) (e2 : R1.2.1 2 = R.2.1 2) (e3 : R1.2.2 = R.2.2) : RelVr S1 R1 top ta L E V n := by
  -- a state with the rows where they were
  have h0 : RelVr S (R.1, R1.2) top ta L E V n := by
    obtain ⟨k1, k2, k3⟩ := h
    refine ⟨?_, k2, k3⟩
    obtain ⟨p3, p5, p6, p7, p8, p9, p10, p11, p12, p13, p15, p18⟩ := k1
    exact ⟨by show R1.2.1 2 = ta; rw [e2]; exact p3, p5, by show ta < R1.2.2.2.1; rw [e3]; exact p6, by show 238 ≤ R1.2.2.2.1; rw [e3]; exact p7, by show R1.2.2.2.1 ≤ 899000; rw [e3]; exact p8, p9, by rw [len_cg2 (R1 := (R.1, R1.2)) (R := R) e3]; exact p10, p11, p12, p13, p15, p18⟩
  exact h0.fr c (by rw [c0]) (by rw [c0]) (by rw [c27]; exact Int.le_refl _) d (d1 13 (by omega)) (d1 17 (by omega)) (d1 23 (by omega)) rfl
/-- what a batch leaves alone in the reference; versions that were stay, new ones are of today -/
def frb (R R1 : w_S) : Prop := (∀ c, c < 238 → (c < 135 ∨ 140 < c) → c ≠ 194 → c ≠ 195 → c ≠ 196 → c ≠ 237 → c ≠ 129 → R1.1 c = R.1 c) ∧ (∀ j, j ≠ 17 → j ≠ 23 → j ≠ 100 → j ≠ 159 → R1.1 129 j = R.1 129 j) ∧ (∀ i, i ≠ 2 → i ≠ 3 → i ≠ 4 → R1.2.1 i = R.2.1 i) ∧ (∀ b, b < R.2.2.2.1 → R1.2.2.1 b = R.2.2.1 b) ∧ (R.2.2.2.1 ≤ R1.2.2.2.1 ∧ R1.2.2.2.2 + 2 * tl R ≤ R.2.2.2.2 + 2 * tl R1) ∧ (R1.2.1 2 = R.2.1 2 ∨ R.2.2.2.1 ≤ R1.2.1 2) ∧ (∀ b, 238 ≤ b → b < R.2.2.2.1 → b ≠ R.2.1 2 → R1.1 b = R.1 b) ∧ (∀ u : Nat, (u : Int) < R.1 129 17 → R1.1 136 u = R.1 136 u ∧ R1.1 137 u = R.1 137 u) ∧ R.1 129 17 ≤ R1.1 129 17 ∧ ∀ u : Nat, R.1 129 17 ≤ (u : Int) → (u : Int) < R1.1 129 17 → R1.1 137 u = R.1 129 12
theorem frb.refl (R : w_S) : frb R R := ⟨fun _ _ _ _ _ _ _ _ => rfl, fun _ _ _ _ _ => rfl, fun _ _ _ _ => rfl, fun _ _ => rfl, ⟨Nat.le_refl _, Nat.le_refl _⟩, Or.inl rfl, fun _ _ _ _ => rfl, fun _ _ => ⟨rfl, rfl⟩, Int.le_refl _, fun u h1 h2 => by omega⟩
theorem frb.trans {R R1 R2 : w_S} (h : frb R R1) (k : frb R1 R2) : frb R R2 := by
  obtain ⟨a1, a2, h1, h2, h3, h4, h5, h6, h7, h9⟩ := h
  obtain ⟨b1, b2, k1, k2, k3, k4, k5, k6, k7, k9⟩ := k
  have h8 := a2 12 (by decide) (by decide) (by decide) (by decide)
  refine ⟨fun c c1 c2 c3 c4 c5 c6 c7 => (b1 c c1 c2 c3 c4 c5 c6 c7).trans (a1 c c1 c2 c3 c4 c5 c6 c7), fun j j1 j2 j3 j4 => (b2 j j1 j2 j3 j4).trans (a2 j j1 j2 j3 j4), fun i i1 i2 i3 => (k1 i i1 i2 i3).trans (h1 i i1 i2 i3), fun b hb => (k2 b (by omega)).trans (h2 b hb), by omega, ?_, fun b c1 c2 c3 => (k5 b c1 (by omega) ?_).trans (h5 b c1 c2 c3), fun u hu => ?_, by omega, fun u u1 u2 => ?_⟩
  · rcases k4 with k4 | k4
    · rw [k4]
      exact h4
    · right
      omega
  · rcases h4 with h4 | h4
    · rw [h4]
      exact c3
    · omega
  · obtain ⟨c1, c2⟩ := h6 u hu
    obtain ⟨d1, d2⟩ := k6 u (by omega)
    exact ⟨d1.trans c1, d2.trans c2⟩
  · by_cases c : (u : Int) < R1.1 129 17
    · rw [(k6 u c).2]
      exact h9 u u1 c
    · rw [k9 u (by omega) u2]
      exact h8
theorem frb.sw {R R1 : w_S} (h : fsw R R1) : frb R R1 := by
  obtain ⟨h1, h2, h3, h4⟩ := h
  have e17 := h2 17 (by decide)
  exact ⟨fun c _ _ c3 c4 _ _ c7 => h1 c c3 c4 c7, fun j _ _ j3 _ => h2 j j3, fun i _ i2 i3 => h3 i i2 i3, fun b _ => by rw [h4], ⟨by rw [h4]; exact Nat.le_refl _, by rw [show tl R1 = tl R by unfold tl e_len w_a; rw [h3 2 (by decide) (by decide), h4], h4]; exact Nat.le_refl _⟩, Or.inl (h3 2 (by decide) (by decide)), fun b b1 _ _ => h1 b (by omega) (by omega) (by omega), fun u _ => by rw [h1 136 (by decide) (by decide) (by decide), h1 137 (by decide) (by decide) (by decide)]; exact ⟨rfl, rfl⟩, by rw [e17]; exact Int.le_refl _, fun u u1 u2 => by omega⟩
theorem frb.w {R R1 : w_S} (h : frw [135, 136, 137, 138, 139, 140] [129] [(129, 17), (129, 23)] R R1) : frb R R1 := by
  obtain ⟨h1, h2, k1, k2, k3, k4, k5, k6, k7, k8, k9⟩ := h
  refine ⟨fun c c1 c2 _ _ _ _ c7 => h1 c c1 ?_ ?_, fun j j1 j2 _ _ => h2 129 j (by decide) rfl ?_, fun i i1 _ _ => k1 i i1, k2, k3, k4, k5, k6, k7, k9⟩
  · simp only [List.contains_cons, List.contains_nil, Bool.or_false, Bool.or_eq_false_iff, beq_eq_false_iff_ne, ne_eq]
    omega
  · simp only [List.contains_cons, List.contains_nil, Bool.or_false, beq_eq_false_iff_ne, ne_eq]
    omega
  · simp only [List.contains_cons, List.contains_nil, Bool.or_false, Bool.or_eq_false_iff, beq_eq_false_iff_ne, ne_eq, Prod.mk.injEq, not_and]
    omega
theorem frb.put {R R1 : w_S} {c k : Nat} {x : Int} (h : frb R R1) (hc : c = 196 ∨ c = 237 ∨ (c = 129 ∧ k = 159)) : frb R (w_put R1 c k x) := by
  refine h.trans ⟨fun b b1 b2 b3 b4 b5 b6 b7 => w_put_f (by omega), fun j j1 j2 j3 j4 => ?_, fun _ _ _ _ => rfl, fun _ _ => rfl, ⟨Nat.le_refl _, Nat.le_refl _⟩, Or.inl rfl, fun b b1 _ _ => w_put_f (by omega), fun u _ => by rw [w_put_f (show 136 ≠ c by omega), w_put_f (show 137 ≠ c by omega)]; exact ⟨rfl, rfl⟩, ?_, fun u u1 u2 => ?_⟩
  rotate_left
  · have e17 : (w_put R1 c k x).1 129 17 = R1.1 129 17 := by
      by_cases e1 : 129 = c
      · subst e1
        show pt (R1.1 129) k x 17 = _
        rw [pt_at, if_neg (by omega)]
      · rw [w_put_f e1]
    rw [e17]
    exact Int.le_refl _
  · have e17 : (w_put R1 c k x).1 129 17 = R1.1 129 17 := by
      by_cases e1 : 129 = c
      · subst e1
        show pt (R1.1 129) k x 17 = _
        rw [pt_at, if_neg (by omega)]
      · rw [w_put_f e1]
    rw [e17] at u2
    omega
  by_cases e1 : 129 = c
  · subst e1
    show pt (R1.1 129) k x j = _
    rw [pt_at, if_neg (by omega)]
  · rw [w_put_f e1]
theorem Wrk.rel {R : w_S} {wa oa : Nat} (h : Wrk R wa oa) : RelWk R := by
  obtain ⟨h1, h2, h3, h4, h5⟩ := h
  rcases h3 with ⟨a, b⟩ | ⟨a, b⟩
  · subst a
    subst b
    exact ⟨Or.inl ⟨h1, h2⟩, h4, h5⟩
  · subst a
    subst b
    exact ⟨Or.inr ⟨h1, h2⟩, h5, h4⟩
theorem RelWk.wrk {R : w_S} (h : RelWk R) : ∃ wa oa, Wrk R wa oa := by
  obtain ⟨h1, h2, h3⟩ := h
  rcases h1 with ⟨a, b⟩ | ⟨a, b⟩
  · exact ⟨194, 195, a, b, Or.inl ⟨rfl, rfl⟩, h2, h3⟩
  · exact ⟨195, 194, a, b, Or.inr ⟨rfl, rfl⟩, h3, h2⟩
/-- the reference does all steps to the record under work -/
theorem l_mvs {e : w_E} {N : Nat} {x2 x3 x4 : Int} (hN : 100000 ≤ N) : ∀ (ss : List Bst) (m nf wa oa : Nat) (R : w_S) (D : List Fdl), m + ss.length ≤ 8 → R.1 129 97 = ((m + ss.length : Nat) : Int) → (∀ j, j < ss.length → BrS (R.1 193) (R.1 130) (m + j) (ss.getD j bs0)) → (∀ s, s ∈ ss → vbs s) → Wrk R wa oa → R.1 129 100 = ((doc D).length : Nat) → byt (R.1 wa) 0 (doc D) → vdb m D → ss.length < nf → ∃ n' R' wa' oa', nf = n' + ss.length ∧ Wrk R' wa' oa' ∧ R'.1 129 100 = ((doc (apbs ss D)).length : Nat) ∧ byt (R'.1 wa') 0 (doc (apbs ss D)) ∧ fsw R R' ∧ ∀ P, Ok (El_R_doBatch e N n' 1 [x2, x3, x4, ((m + ss.length : Nat) : Int)] [] R') P → Ok (El_R_doBatch e N nf 1 [x2, x3, x4, (m : Int)] [] R) P
  | [], m, nf, wa, oa, R, D, g1, g2, g3, g4, g5, g6, g7, g8, g9 => ⟨nf, R, wa, oa, rfl, g5, g6, g7, fsw.refl R, fun P h => h⟩
  | s :: ss, m, 0, wa, oa, R, D, g1, g2, g3, g4, g5, g6, g7, g8, g9 => by omega
  | s :: ss, m, nf + 1, wa, oa, R, D, g1, g2, g3, g4, g5, g6, g7, g8, g9 => by
    rw [List.length_cons] at g1 g2 g3 g9
    have b0 := g3 0 (by omega)
    rw [Nat.add_zero] at b0
    have b0' : BrS (R.1 193) (R.1 130) m s := b0
    have vs := g4 s List.mem_cons_self
    obtain ⟨v, R1, hr, r1, r2, r3, r4⟩ := x_mv (e := e) (N := N) hN (show m < 8 by omega) vs g5 b0' g6 g7 g8
    obtain ⟨n', R', wa', oa', a1, a2, a3, a4, a5, a6⟩ := l_mvs (e := e) (N := N) (x2 := x2) (x3 := x3) (x4 := x4) hN ss (m + 1) nf oa wa R1 (apb s D) (by omega) (by rw [r4.2.1 97 (by decide), g2]; omega) (fun j hj => by
      have := g3 (j + 1) (by omega)
      rw [show m + (j + 1) = m + 1 + j by omega] at this
      rw [r4.1 193 (by decide) (by decide) (by decide), r4.1 130 (by decide) (by decide) (by decide)]
      exact this) (fun u hu => g4 u (List.mem_cons_of_mem _ hu)) r1 r2 r3 (apb_v vs g8) (by omega)
    rw [List.length_cons, show m + (ss.length + 1) = m + 1 + ss.length by omega]
    refine ⟨n', R', wa', oa', by omega, a2, a3, a4, r4.trans a5, fun P h => ?_⟩
    rw [El_R_doBatch, g2]
    refine ok_e (by omega) (ok_nb (by omega) (ok_b (ok_of hr (ok_nb (by omega) ?_))))
    rw [show (m : Int) + 1 = ((m + 1 : Nat) : Int) by omega]
    exact a6 P h
theorem apbs_v : ∀ {ss : List Bst} {m : Nat} {D : List Fdl}, (∀ s, s ∈ ss → vbs s) → vdb m D → vdb (m + ss.length) (apbs ss D)
  | [], _, _, _, h => h
  | s :: ss, m, D, hs, h => by
    rw [List.length_cons, show m + (ss.length + 1) = m + 1 + ss.length by omega]
    exact apbs_v (fun u hu => hs u (List.mem_cons_of_mem _ hu)) (apb_v (hs s List.mem_cons_self) h)
theorem sml_mem : ∀ {D : List Fdl}, sml D = true → ∀ f, f ∈ D → f.2.2.2.length ≤ 5
  | [], _, f, hf => by cases hf
  | g :: D, h, f, hf => by
    rw [sml, Bool.and_eq_true, decide_eq_true_eq] at h
    rcases List.mem_cons.1 hf with z | z
    · rw [z]
      exact h.1
    · exact sml_mem h.2 f z
end
