section
-- gh
def btT (e : w_E) (N n : Nat) (x2 x3 x4 : Int) (S : w_S) : e_R := ((E_R_isVersion e N x4 S).bind (fun q1152 => (if q1152.1 = 0 then (if (q1152.2.1 129 17) ≠ 400 then (if w_ib x3 150 = true then (if ((w_put q1152.2 196 x3.toNat 1).1 196 x3.toNat) = 1 then ((E_R_addVersion e N (q1152.2.1 160 x3.toNat) (q1152.2.1 129 100) (q1152.2.2.1 3) (w_put q1152.2 196 x3.toNat 1)).bind (fun q1153 => (if w_ib (q1153.2.1 129 159) 400 = true then (if w_nb ((q1153.2.1 129 159) + 1) = true then (if w_nb (x2 + 1) = true then (if w_nb (x3 + 1) = true then El_R_doBatch e N n 0 [x2 + 1, x3 + 1] [] (w_put (w_put q1153.2 237 ((q1153.2.1 129 159).toNat) (q1153.2.1 160 x3.toNat)) 129 159 ((q1153.2.1 129 159) + 1)) else none) else none) else none) else none))) else (if w_nb (x3 + 1) = true then El_R_doBatch e N n 0 [x2, x3 + 1] [] (w_put q1152.2 196 x3.toNat 1) else none)) else none) else (if w_ib x3 150 = true then (if ((w_put q1152.2 196 x3.toNat 2).1 196 x3.toNat) = 1 then ((E_R_addVersion e N (q1152.2.1 160 x3.toNat) (q1152.2.1 129 100) (q1152.2.2.1 3) (w_put q1152.2 196 x3.toNat 2)).bind (fun q1154 => (if w_ib (q1154.2.1 129 159) 400 = true then (if w_nb ((q1154.2.1 129 159) + 1) = true then (if w_nb (x2 + 1) = true then (if w_nb (x3 + 1) = true then El_R_doBatch e N n 0 [x2 + 1, x3 + 1] [] (w_put (w_put q1154.2 237 ((q1154.2.1 129 159).toNat) (q1154.2.1 160 x3.toNat)) 129 159 ((q1154.2.1 129 159) + 1)) else none) else none) else none) else none))) else (if w_nb (x3 + 1) = true then El_R_doBatch e N n 0 [x2, x3 + 1] [] (w_put q1152.2 196 x3.toNat 2) else none)) else none)) else (if w_ib x3 150 = true then (if ((w_put q1152.2 196 x3.toNat 0).1 196 x3.toNat) = 1 then ((E_R_addVersion e N (q1152.2.1 160 x3.toNat) (q1152.2.1 129 100) (q1152.2.2.1 3) (w_put q1152.2 196 x3.toNat 0)).bind (fun q1155 => (if w_ib (q1155.2.1 129 159) 400 = true then (if w_nb ((q1155.2.1 129 159) + 1) = true then (if w_nb (x2 + 1) = true then (if w_nb (x3 + 1) = true then El_R_doBatch e N n 0 [x2 + 1, x3 + 1] [] (w_put (w_put q1155.2 237 ((q1155.2.1 129 159).toNat) (q1155.2.1 160 x3.toNat)) 129 159 ((q1155.2.1 129 159) + 1)) else none) else none) else none) else none))) else (if w_nb (x3 + 1) = true then El_R_doBatch e N n 0 [x2, x3 + 1] [] (w_put q1152.2 196 x3.toNat 0) else none)) else none))))
def ccT (e : w_E) (N : Nat) (x1 x2 : Int) (S : w_S) : e_R := ((E_Catalog_isSame e N x2 S).bind (fun q568 => (if q568.1 = 0 then (if (q568.2.1 3 5) < 400 then ((E_Catalog_addVersion e N x1 (q568.2.1 27 1) q568.2).bind (fun q570 => some (1, q570.2))) else some (2, q568.2)) else some (0, q568.2))))
theorem Wrk.kp {R R1 : w_S} {wa oa : Nat} (h : Wrk R wa oa) (k : kpx R R1) (hn : 238 ≤ R.2.2.2.1) : Wrk R1 wa oa := by
  obtain ⟨h1, h2, h3, h4, h5⟩ := h
  refine ⟨by rw [k.1 3 (by decide)]; exact h1, by rw [k.1 4 (by decide)]; exact h2, h3, ?_, ?_⟩
  · unfold e_len w_a at h4 ⊢
    rw [k.2.1 wa (by omega)]
    exact h4
  · unfold e_len w_a at h5 ⊢
    rw [k.2.1 oa (by omega)]
    exact h5
abbrev CBa : List Nat := [4, 6, 8, 9, 10, 11, 12, 13, 14, 15, 16, 121, 122, 123, 124, 125, 126, 127]
abbrev CBj : List (Nat × Nat) := [(3, 5), (120, 0)]
/-- all that a batch's change of a record leans on -/
def BtR (S R : w_S) (ss : List Bst) (top : Int) (ta L E V n wa oa : Nat) : Prop := RelVr S R top ta L E V n ∧ RelCk S R ∧ (S.1 27 2 = 0 ∨ S.1 27 2 = 1) ∧ R.1 129 96 = S.1 27 2 ∧ R.1 129 12 = S.1 27 1 ∧ 0 ≤ S.1 27 1 ∧ (∀ j, -128 ≤ S.1 2 j ∧ S.1 2 j ≤ 127) ∧ Wrk R wa oa ∧ S.1 35 4 = (ss.length : Nat) ∧ R.1 129 97 = (ss.length : Nat) ∧ ss.length ≤ 8 ∧ S.1 37 0 ≤ 8 ∧ (∀ s, s ∈ ss → vbs s) ∧ (∀ j, j < ss.length → BsC (S.1 34) S (S.1 2) top j (ss.getD j bs0)) ∧ (∀ j, j < ss.length → BrS (R.1 193) (R.1 130) j (ss.getD j bs0)) ∧ 0 ≤ R.1 129 159 ∧ R.1 129 159 ≤ (V : Int)
/-- what a version more leans on, in the class: the draft T1 holds what the steps made -/
def ChA (e : w_E) (N : Nat) (S R : w_S) (ss : List Bst) (top : Int) (ta E V r : Nat) (S1 : w_S) : Prop := ∃ (v : Nat) (D : List Fdl) (T1 : w_S) (z : Int), v < V ∧ S.1 4 r = (v : Int) ∧ E_R_versionOn e N (r : Int) (R.1 129 12) R = some ((v : Int), R) ∧ VrD S R (S.1 2) top ta E v D ∧ (∀ a, (a < 120 ∨ 127 < a) → T1.1 a = S.1 a) ∧ Dr T1 (S.1 2) top (apbs ss D) ∧ E_Catalog_addVersion e N (r : Int) (S.1 27 1) T1 = some (z, S1) ∧ 1 ≤ (apbs ss D).length ∧ (apbs ss D).length ≤ 12 ∧ ∀ f, f ∈ apbs ss D → vfd f ∧ f.2.2.2.length ≤ 5
def ChP (e : w_E) (N : Nat) (S R : w_S) (ss : List Bst) (top : Int) (ta E V n i r : Nat) (y : Int) (S1 R1 : w_S) : Prop := (y = 0 ∨ y = 1 ∨ y = 2) ∧ R1.1 196 = pt (R.1 196) i y ∧ (∃ ta' L' E' V' wa' oa', BtR S1 R1 ss top ta' L' E' V' n wa' oa' ∧ V' = V + (if y = 1 then 1 else 0) ∧ R1.2.2.2.1 + V ≤ R.2.2.2.1 + V') ∧ frm CBa [3, 120] CBj S S1 ∧ frb R R1 ∧ R1.2.2.2.1 ≤ R.2.2.2.1 + 1 ∧ (y = 1 → S1.1 6 = pt (S.1 6) r (S.1 27 1) ∧ R1.1 135 = pt (R.1 135) r (S.1 27 1) ∧ R1.1 237 = pt (R.1 237) (R.1 129 159).toNat (r : Int) ∧ R1.1 129 159 = R.1 129 159 + 1) ∧ (y ≠ 1 → S1.1 6 = S.1 6 ∧ R1.1 135 = R.1 135 ∧ R1.1 237 = R.1 237 ∧ R1.1 129 159 = R.1 129 159 ∧ ∀ a, (a < 120 ∨ 127 < a) → S1.1 a = S.1 a) ∧ (y = 1 → R1.1 136 V = (r : Int) ∧ ChA e N S R ss top ta E V r S1)
theorem BsC.cg {T T' : w_S} {t2 : Nat → Int} {top : Int} {i : Nat} {s : Bst} (h : BsC (T.1 34) T t2 top i s) (c : ∀ a, (a = 34 ∨ (37 ≤ a ∧ a ≤ 44)) → T'.1 a = T.1 a) : BsC (T'.1 34) T' t2 top i s := by
  unfold BsC DrF1 at h ⊢
  rw [c 34 (by omega), c 37 (by omega), c 38 (by omega), c 39 (by omega), c 40 (by omega), c 42 (by omega), c 43 (by omega), c 44 (by omega)]
  exact h
theorem x_chg {e : w_E} {N nf r i : Nat} {S R : w_S} {ss : List Bst} {top x2 : Int} {ta L E V n wa oa : Nat} (hN : 16000000 ≤ N) (htop : top ≤ 10240) (h : BtR S R ss top ta L E V n wa oa) (h1 : 1 ≤ r) (h2 : r ≤ n) (hi : i < 150) (h160 : R.1 160 i = (r : Int)) (h51 : (i : Int) < R.1 129 51) (hnx : R.2.2.2.1 < 899000) (hx0 : 0 ≤ x2) (hx2 : x2 ≤ 150) (hnf : 20 < nf) : ∃ y S1 n' R1, E_C_changeRecord e N (r : Int) S = some (y, S1) ∧ nf ≤ n' + 20 ∧ (∀ P, Ok (El_R_doBatch e N n' 0 [x2 + (if y = 1 then 1 else 0), (i : Int) + 1] [] R1) P → Ok (El_R_doBatch e N nf 0 [x2, (i : Int)] [] R) P) ∧ ChP e N S R ss top ta E V n i r y S1 R1 := by
  obtain ⟨hv, hC, hst, h96, h12, hd0, hs, hw, s354, r97, sl8, s37, vss, bC, bR, b0, b1⟩ := h
  have hvv := hv
  obtain ⟨k1, k2, k3, k4, k5, k6, k7, k8, k9, k10, k11⟩ := hvv
  clear k10 k11
  obtain ⟨v, D, w1, w2, w3, w4, hD⟩ := x_today (e := e) (N := N) (by omega) hv h12 h1 h2
  have hDD := hD
  obtain ⟨D1, D2, D3, D4, D5, D6, p, D7, D8, D9, D10, D11⟩ := hDD
  have dv0 : ∀ f, f ∈ D → vfd f ∧ f.2.2.2.length ≤ 5 := fun f hf => by
    obtain ⟨F, hF, rfl⟩ := mem_of_get hf
    exact ⟨D5 _ hf, D4 F hF⟩
  have vd0 : vdb 0 D := ⟨by omega, fun f hf => ⟨(dv0 f hf).1, (dv0 f hf).2⟩⟩
  have vd1 := apbs_v vss vd0
  rw [Nat.zero_add] at vd1
  -- the class lays the version out and does the steps
  obtain ⟨y0, T, hT, t1, t2, _⟩ := x_copyTo (e := e) (N := N) (v := v) (top := top) (t2 := S.1 2) (D := D) (S := S) (by omega) (by omega) D3 D4 D1 D6
  have cT : ∀ a, (a < 120 ∨ 127 < a) → T.1 a = S.1 a := fun a ha => t1.2.1 a (by
    simp only [List.contains_cons, List.contains_nil, Bool.or_false, Bool.or_eq_false_iff, beq_eq_false_iff_ne, ne_eq]
    omega) (by
    simp only [List.contains_cons, List.contains_nil, Bool.or_false, beq_eq_false_iff_ne, ne_eq]
    omega)
  obtain ⟨n1, T1, a1, a2, a3, a4, a5⟩ := l_chg (e := e) (N := N) (x1 := (r : Int)) (x2 := (v : Int)) (top := top) (t2 := S.1 2) (by omega) ss 0 N T D (by omega) (by rw [cT 35 (by omega), s354, Nat.zero_add]) (fun j hj => by
    rw [Nat.zero_add]
    exact (bC j hj).cg (fun a ha => cT a (by omega))) vss t2 vd0 (by rw [cT 37 (by omega)]; exact s37) (by omega)
  rw [Nat.zero_add] at a4 a5
  have cT1 : ∀ a, (a < 120 ∨ 127 < a) → T1.1 a = S.1 a := fun a ha => by
    rw [a2.2.1 a (by
      simp only [List.contains_cons, List.contains_nil, Bool.or_false, Bool.or_eq_false_iff, beq_eq_false_iff_ne, ne_eq]
      omega) (by
      simp only [List.contains_cons, List.contains_nil, Bool.or_false, beq_eq_false_iff_ne, ne_eq]
      omega), cT a ha]
  have fT1 : frm CBa [3, 120] CBj S T1 := (t1.weak (by decide)).trans (a2.weak (by decide))
  -- the reference does so
  obtain ⟨y1, R0, hR0, r1, r2, r3⟩ := x_tkv (e := e) (N := N) hN hv hw.rel (show v < 400 by omega) hD
  rw [hw.1] at r1 r3
  have w194 : wa = 194 ∨ wa = 195 := by have := hw.2.2.1; omega
  have sw0 : fsw R R0 := by
    refine ⟨fun c c1 c2 c3 => r1.2.1 c ?_ ?_, fun j hj => r1.2.2 129 j ?_ ?_, fun j _ _ => by rw [r1.1], by rw [r1.1]⟩
    · simp only [List.contains_cons, List.contains_nil, Bool.or_false, beq_eq_false_iff_ne, ne_eq]
      omega
    · simp only [List.contains_cons, List.contains_nil, Bool.or_false, beq_eq_false_iff_ne, ne_eq]
      omega
    · simp only [List.contains_cons, List.contains_nil, Bool.or_false, beq_eq_false_iff_ne, ne_eq]
      omega
    · simp only [List.contains_cons, List.contains_nil, Bool.or_false, beq_eq_false_iff_ne, ne_eq, Prod.mk.injEq, not_and]
      omega
  obtain ⟨nf0, hnf0⟩ : ∃ q, nf = q + 1 := ⟨nf - 1, by omega⟩
  subst hnf0
  obtain ⟨n2, R1, wa', oa', m1, m2, m3, m4, m5, m6⟩ := l_mvs (e := e) (N := N) (x2 := x2) (x3 := (i : Int)) (x4 := (v : Int)) (by omega) ss 0 nf0 wa oa R0 D (by omega) (by rw [sw0.2.1 97 (by decide), r97, Nat.zero_add]) (fun j hj => by
    rw [sw0.1 193 (by decide) (by decide) (by decide), sw0.1 130 (by decide) (by decide) (by decide), Nat.zero_add]
    exact bR j hj) vss (hw.cg r1.1) r2 r3 vd0 (by omega)
  rw [Nat.zero_add] at m6
  have sw1 : fsw R R1 := sw0.trans m5
  have hv1 : RelVr T1 R1 top ta L E V n := hv.sw (fun a ha => cT1 a (by omega)) (cT1 3 (by omega)) (cT1 27 (by omega)) (fun a ha => sw1.1 a (by omega) (by omega) (by omega)) (fun j hj => sw1.2.1 j (by omega)) (sw1.2.2.1 2 (by decide) (by decide)) sw1.2.2.2
  generalize hD' : apbs ss D = D' at a3 a4 m3 m4 vd1
  -- nothing added
  have keep : ∀ y : Int, (y = 0 ∨ y = 2) → ChP e N S R ss top ta E V n i r y T1 (w_put R1 196 i y) := fun y hy => by
    have cR : ∀ a, a ≠ 196 → (w_put R1 196 i y).1 a = R1.1 a := fun a ha => w_put_f ha
    refine ⟨by omega, ?_, ⟨ta, L, E, V, wa', oa', ⟨?_, ?_, by rw [cT1 27 (by omega)]; exact hst, ?_, ?_, by rw [cT1 27 (by omega)]; exact hd0, by rw [cT1 2 (by omega)]; exact hs, m2.cg rfl, by rw [cT1 35 (by omega)]; exact s354, ?_, sl8, by rw [cT1 37 (by omega)]; exact s37, vss, fun j hj => ?_, fun j hj => ?_, ?_, ?_⟩, by rw [if_neg (by omega), Nat.add_zero], by show R1.2.2.2.1 + V ≤ _; rw [sw1.2.2.2]; exact Nat.le_refl _⟩, fT1, (frb.sw sw1).put (Or.inl rfl), ?_, fun z => by omega, fun _ => ⟨cT1 6 (by omega), ?_, ?_, ?_, cT1⟩, fun z => by omega⟩
    · show pt (R1.1 196) i y = _
      rw [sw1.1 196 (by decide) (by decide) (by decide)]
    · exact hv1.sw (fun _ _ => rfl) rfl rfl (fun a ha => cR a (by omega)) (fun j hj => by rw [cR 129 (by decide)]) rfl rfl
    · unfold RelCk at hC ⊢
      rw [cT1 35 (by omega), cT1 32 (by omega), cR 129 (by decide), cR 191 (by decide), sw1.2.1 93 (by decide), sw1.1 191 (by decide) (by decide) (by decide)]
      exact hC
    · rw [cR 129 (by decide), sw1.2.1 96 (by decide), cT1 27 (by omega)]
      exact h96
    · rw [cR 129 (by decide), sw1.2.1 12 (by decide), cT1 27 (by omega)]
      exact h12
    · rw [cR 129 (by decide), sw1.2.1 97 (by decide)]
      exact r97
    · rw [cT1 2 (by omega)]
      exact (bC j hj).cg (fun a ha => cT1 a (by omega))
    · rw [cR 193 (by decide), cR 130 (by decide), sw1.1 193 (by decide) (by decide) (by decide), sw1.1 130 (by decide) (by decide) (by decide)]
      exact bR j hj
    · rw [cR 129 (by decide), sw1.2.1 159 (by decide)]
      exact b0
    · rw [cR 129 (by decide), sw1.2.1 159 (by decide)]
      exact b1
    · show R1.2.2.2.1 ≤ _
      rw [sw1.2.2.2]
      omega
    · rw [cR 135 (by decide), sw1.1 135 (by decide) (by decide) (by decide)]
    · rw [cR 237 (by decide), sw1.1 237 (by decide) (by decide) (by decide)]
    · rw [cR 129 (by decide), sw1.2.1 159 (by decide)]
  have hs1 : ∀ j, -128 ≤ T1.1 2 j ∧ T1.1 2 j ≤ 127 := by
    rw [cT1 2 (by omega)]
    exact hs
  have a3' : Dr T1 (T1.1 2) top D' := by
    rw [cT1 2 (by omega)]
    exact a3
  have dl20 : D'.length ≤ 20 := by have := vd1.1; omega
  have d13 : ∀ f, f ∈ D' → vfd f ∧ f.2.2.2.length ≤ 13 := fun f hf => ⟨(vd1.2 f hf).1, by have := (vd1.2 f hf).2; omega⟩
  have dle := doc_le2 d13
  have xr := x_rsz (e := e) (N := N) (by omega) a3' dl20
  have xq := x_right (e := e) (N := N) (m := ss.length) (by omega) m2 m3 m4 vd1 sl8
  have rl : (ss.length : Int) ≤ 8 := by omega
  have n1p : 1 ≤ n1 := by omega
  obtain ⟨q1, hq1⟩ : ∃ q, n1 = q + 1 := ⟨n1 - 1, by omega⟩
  obtain ⟨q2, hq2⟩ : ∃ q, n2 = q + 1 := ⟨n2 - 1, by omega⟩
  subst hq1
  subst hq2
  -- up to the size, the class
  have clA : ∀ (y : Int) (S1 : w_S), Ok (if bi (rsz D') = 0 then (some ((2 : Int), T1) : e_R) else (if (T1.1 27 2) = 0 then ccT e N (r : Int) (v : Int) T1 else ((E_RuleBook_isAnyBroken e N T1).bind (fun q571 => (if q571.1 = 0 then ccT e N (r : Int) (v : Int) q571.2 else some (2, q571.2)))))) (fun y' S' => y' = y ∧ S' = S1) → E_C_changeRecord e N (r : Int) S = some (y, S1) := fun y S1 hh => by
    refine ok_eq ?_
    unfold E_C_changeRecord
    rw [show ((r : Int)).toNat = r by omega, w2]
    refine ok_ib (by omega) (ok_b (ok_of hT (a5 _ ?_)))
    rw [El_C_changeRecord, cT1 35 (by omega), s354]
    refine ok_t (by omega) (ok_b (ok_of xr ?_))
    exact hh
  -- up to the size, the reference
  have rfA : ∀ P, Ok (if bi (rsz D') = 0 then (if w_ib (i : Int) 150 = true then (if w_nb ((i : Int) + 1) = true then El_R_doBatch e N q2 0 [x2, (i : Int) + 1] [] (w_put R1 196 i 2) else none) else none) else (if (R1.1 129 96) = 0 then btT e N q2 x2 (i : Int) (v : Int) R1 else ((E_R_firstBroken e N (R1.1 129 100) 0 (R1.2.1 3) R1).bind (fun q1156 => (if q1156.1 ≠ (-1) then (if w_ib (i : Int) 150 = true then (if w_nb ((i : Int) + 1) = true then El_R_doBatch e N q2 0 [x2, (i : Int) + 1] [] (w_put q1156.2 196 i 2) else none) else none) else btT e N q2 x2 (i : Int) (v : Int) q1156.2))))) P → Ok (El_R_doBatch e N (nf0 + 1) 0 [x2, (i : Int)] [] R) P := fun P hh => by
    rw [El_R_doBatch, show ((i : Int)).toNat = i by omega, h160]
    refine ok_e (by omega) (ok_ib (by omega) (ok_b (ok_of w3 (ok_b (ok_of hR0 (m6 P ?_))))))
    rw [El_R_doBatch, sw1.2.1 97 (by decide), r97, show ((i : Int)).toNat = i by omega]
    refine ok_t (by omega) (ok_b (ok_of xq ?_))
    dsimp only
    by_cases c : bi (rsz D') = 0
    · rw [if_pos c] at hh
      refine ok_t c ?_
      refine ok_ib (by omega) (ok_e ?_ ?_)
      · rw [w_put_r, if_pos rfl, pt_at, if_pos rfl]
        decide
      · obtain ⟨vv, SS, e1, e2⟩ := hh
        rw [if_pos (show w_ib (i : Int) 150 = true by rw [w_ibE]; omega)] at e1
        exact ⟨vv, SS, e1, e2⟩
    · rw [if_neg c] at hh
      refine ok_e c ?_
      by_cases c2 : R1.1 129 96 = 0
      · rw [if_pos c2] at hh
        exact ok_t c2 hh
      · rw [if_neg c2] at hh
        refine ok_e c2 ?_
        obtain ⟨vv, SS, e1, e2⟩ := hh
        cases hfb : E_R_firstBroken e N (R1.1 129 100) 0 (R1.2.1 3) R1 with
        | none => rw [hfb] at e1; cases e1
        | some q =>
          rw [hfb] at e1
          refine ok_b (ok_of (rfl : some q = some (q.1, q.2)) ?_)
          dsimp only
          have e1' : (if q.1 ≠ (-1) then (if w_ib (i : Int) 150 = true then (if w_nb ((i : Int) + 1) = true then El_R_doBatch e N q2 0 [x2, (i : Int) + 1] [] (w_put q.2 196 i 2) else none) else none) else btT e N q2 x2 (i : Int) (v : Int) q.2) = some (vv, SS) := e1
          by_cases c3 : q.1 = -1
          · rw [if_neg (fun z => z c3)] at e1'
            exact ok_e (fun z => z c3) ⟨vv, SS, e1', e2⟩
          · rw [if_pos c3, if_pos (show w_ib (i : Int) 150 = true by rw [w_ibE]; omega)] at e1'
            refine ok_t c3 (ok_ib (by omega) (ok_e ?_ ⟨vv, SS, e1', e2⟩))
            rw [w_put_r, if_pos rfl, pt_at, if_pos rfl]
            decide
  have fail : ∀ P, Ok (El_R_doBatch e N q2 0 [x2 + (if (2 : Int) = 1 then 1 else 0), (i : Int) + 1] [] (w_put R1 196 i 2)) P → Ok (if w_ib (i : Int) 150 = true then (if w_nb ((i : Int) + 1) = true then El_R_doBatch e N q2 0 [x2, (i : Int) + 1] [] (w_put R1 196 i 2) else none) else none) P := fun P hh => by
    rw [if_neg (by decide), Int.add_zero] at hh
    exact ok_ib (by omega) (ok_nb (by omega) hh)
  by_cases cz : rsz D' = true
  rotate_left
  · -- too much, or nothing
    have bz : bi (rsz D') = 0 := by
      cases hh : rsz D' with
      | true => exact absurd hh cz
      | false => rfl
    refine ⟨2, T1, q2, w_put R1 196 i 2, clA 2 T1 (ok_t bz (ok_s ⟨rfl, rfl⟩)), by omega, fun P hh => rfA P (ok_t bz (fail P hh)), keep 2 (Or.inr rfl)⟩
  have bz : ¬ bi (rsz D') = 0 := by
    rw [cz]
    decide
  have cz2 := cz
  unfold rsz at cz2
  simp only [Bool.and_eq_true, decide_eq_true_eq] at cz2
  obtain ⟨⟨dl1, dl12⟩, dsm⟩ := cz2
  have d5 : ∀ f, f ∈ D' → vfd f ∧ f.2.2.2.length ≤ 5 := fun f hf => ⟨(vd1.2 f hf).1, sml_mem dsm f hf⟩
  have xs := x_samev (e := e) (N := N) (v := v) (E := D) (by omega) htop hs1 (by omega) a3' dl12 (by rw [cT1 10 (by omega)]; exact D1) (fun F hF => by
    have := D6 F hF
    unfold CtF at this ⊢
    rw [cT1 2 (by omega), cT1 11 (by omega), cT1 12 (by omega), cT1 13 (by omega), cT1 14 (by omega), cT1 15 (by omega), cT1 16 (by omega)]
    exact this) d5 D5
  have hta : ta ≠ 194 ∧ ta ≠ 195 ∧ ta ≠ 129 ∧ ta ≠ 196 := by omega
  have tx := hv1.1
  have xv := x_isV (e := e) (N := N) (v := v) (p := p) (a := doc D') (b := doc D) (by omega) (by omega) m2.1 tx.1 m2.2.2.2.1 tx.2.2.2.2.2.2.1 (by have := tx.2.2.2.2.2.2.2.2.2.1; omega) m3 (by rw [sw1.1 138 (by decide) (by decide) (by decide)]; exact D7) (by rw [sw1.1 139 (by decide) (by decide) (by decide)]; exact D8) (by omega) (by have := tx.2.2.2.2.2.2.2.2.1; omega) m4 (by rw [sw1.1 ta hta.1 hta.2.1 hta.2.2.1]; exact D11)
  have eqv : (doc D' = doc D) ↔ (D' = D) := ⟨fun z => doc_inj (fun f hf => (vd1.2 f hf).1) D5 z, fun z => by rw [z]⟩
  -- the tails: what both do where no rule is broken
  have tails : ∃ y S1 R2, ccT e N (r : Int) (v : Int) T1 = some (y, S1) ∧ (∀ P, Ok (El_R_doBatch e N q2 0 [x2 + (if y = 1 then 1 else 0), (i : Int) + 1] [] R2) P → Ok (btT e N q2 x2 (i : Int) (v : Int) R1) P) ∧ ChP e N S R ss top ta E V n i r y S1 R2 := by
    have i196 : ∀ z : Int, (w_put R1 196 i z).1 196 i = z := fun z => by rw [w_put_r, if_pos rfl, pt_at, if_pos rfl]
    by_cases cs : D' = D
    · -- as it was
      refine ⟨0, T1, w_put R1 196 i 0, ?_, fun P hh => ?_, keep 0 (Or.inl rfl)⟩
      · refine ok_eq ?_
        unfold ccT
        rw [if_pos cs] at xs
        exact ok_b (ok_of xs (ok_e (show ¬ (1 : Int) = 0 by decide) (ok_s ⟨rfl, rfl⟩)))
      · unfold btT
        rw [if_pos (eqv.2 cs)] at xv
        rw [if_neg (by decide), Int.add_zero] at hh
        rw [show ((i : Int)).toNat = i by omega]
        refine ok_b (ok_of xv (ok_e (show ¬ (1 : Int) = 0 by decide) (ok_ib (by omega) (ok_e ?_ (ok_nb (by omega) hh)))))
        dsimp only
        rw [i196]
        decide
    rw [if_neg cs] at xs
    rw [if_neg (fun z => cs (eqv.1 z))] at xv
    have e17 : R1.1 129 17 = (V : Int) := by rw [sw1.2.1 17 (by decide)]; exact k4
    have e35 : T1.1 3 5 = (V : Int) := by rw [cT1 3 (by omega)]; exact k3
    by_cases c4 : V = 400
    · -- no room
      refine ⟨2, T1, w_put R1 196 i 2, ?_, fun P hh => ?_, keep 2 (Or.inr rfl)⟩
      · refine ok_eq ?_
        unfold ccT
        refine ok_b (ok_of xs (ok_t rfl (ok_e ?_ (ok_s ⟨rfl, rfl⟩))))
        dsimp only
        rw [e35]
        omega
      · unfold btT
        rw [if_neg (by decide), Int.add_zero] at hh
        rw [show ((i : Int)).toNat = i by omega]
        refine ok_b (ok_of xv (ok_t rfl (ok_e ?_ (ok_ib (by omega) (ok_e ?_ (ok_nb (by omega) hh))))))
        · dsimp only
          rw [e17]
          omega
        · dsimp only
          rw [i196]
          decide
    -- a version more
    have wab : wa' < 238 ∧ wa' ≠ 140 ∧ wa' ≠ 196 := by have := m2.2.2.1; omega
    have lnw : e_len Tr (w_put R1 196 i 1) wa' 1 = some 20000 := m2.2.2.2.1
    have bw : byt ((w_put R1 196 i 1).1 wa') 0 (doc D') := by
      rw [w_put_f wab.2.2]
      exact m4
    obtain ⟨z1, S2, x1, x2', z2, R2, x3, x4, x5, x6, ta', L', x7⟩ := both_add (e := e) (N := N) (a2 := wa') (m := 20000) (S := T1) (R := R1) (Sm := T1) (Rm := w_put R1 196 i 1) (top := top) (top' := top) (d := S.1 27 1) (n1 := n) (r := r) (D := D') (by omega) hv1 (by omega) (Int.le_refl _) h1 h2 (Or.inl rfl) k8 hd0 (by rw [cT1 27 (by omega)]; exact Int.le_refl _) (by have := doc_le d5; omega) (by rw [sw1.2.2.2]; exact hnx) (fun _ _ => rfl) rfl (by rw [cT1 3 (by omega)]; exact k6) rfl (fun _ _ _ _ => rfl) (by rw [if_pos rfl]) (fun a ha => w_put_f (by omega)) (by show R1.1 129 12 = _; rw [sw1.2.1 12 (by decide)]; exact h12) (by show R1.1 129 13 = _; rw [sw1.2.1 13 (by decide)]; exact k7) rfl rfl rfl a3' dl1 dl12 (fun F hF => (d5 _ (memD hF)).2) (fun f hf => (d5 f hf).1) wab.1 wab.2.1 (by omega) (by decide) lnw bw (fun u hu => by
      rw [show u = 0 + u by omega, byt_at bw u hu]
      have := doc_b (fun f hf => (d5 f hf).1) _ (memD (d := 0) hu)
      omega)
    have R1nx : 238 ≤ R1.2.2.2.1 := tx.2.2.2.1
    have e159 : R2.1 129 159 = R.1 129 159 := by
      rw [x6.2.1 129 159 (by decide) rfl rfl]
      show R1.1 129 159 = _
      rw [sw1.2.1 159 (by decide)]
    have e160 : R2.1 160 i = (r : Int) := by
      rw [x6.1 160 (by decide) rfl rfl]
      show R1.1 160 i = _
      rw [sw1.1 160 (by decide) (by decide) (by decide)]
      exact h160
    have kS : ∀ a, (a < 120 ∨ 127 < a) → a ≠ 3 → a ≠ 4 → a ≠ 6 → (a < 8 ∨ 16 < a) → S2.1 a = S.1 a := fun a ha n3 n4 n6 n8 => by
      rw [x2'.1.2.1 a (by
        simp only [List.contains_cons, List.contains_nil, Bool.or_false, Bool.or_eq_false_iff, beq_eq_false_iff_ne, ne_eq]
        omega) (by
        simp only [List.contains_cons, List.contains_nil, Bool.or_false, beq_eq_false_iff_ne, ne_eq]
        omega), cT1 a ha]
    generalize hR3 : w_put (w_put R2 237 (R.1 129 159).toNat (r : Int)) 129 159 (R.1 129 159 + 1) = R3
    have fb3 : frb R R3 := by
      rw [← hR3]
      exact ((((frb.sw sw1).put (c := 196) (k := i) (x := 1) (Or.inl rfl)).trans (frb.w x6)).put (Or.inr (Or.inl rfl))).put (Or.inr (Or.inr ⟨rfl, rfl⟩))
    have c3 : ∀ a, a ≠ 129 → a ≠ 237 → R3.1 a = R2.1 a := fun a h129 h237 => by
      rw [← hR3, w_put_f h129, w_put_f h237]
    have c3o : ∀ j, j ≠ 159 → R3.1 129 j = R2.1 129 j := fun j hj => by
      rw [← hR3]
      show pt (R2.1 129) 159 _ j = _
      rw [pt_at, if_neg hj]
    have k2' := x7.2.1
    refine ⟨1, S2, R3, ?_, fun P hh => ?_, Or.inr (Or.inl rfl), ?_, ⟨ta', L', E + (doc D').length, V + 1, wa', oa', ⟨?_, ?_, by rw [kS 27 (by omega) (by omega) (by omega) (by omega) (by omega)]; exact hst, ?_, ?_, by rw [kS 27 (by omega) (by omega) (by omega) (by omega) (by omega)]; exact hd0, by rw [kS 2 (by omega) (by omega) (by omega) (by omega) (by omega)]; exact hs, ?_, by rw [kS 35 (by omega) (by omega) (by omega) (by omega) (by omega)]; exact s354, ?_, sl8, by rw [kS 37 (by omega) (by omega) (by omega) (by omega) (by omega)]; exact s37, vss, fun j hj => ?_, fun j hj => ?_, ?_, ?_⟩, by rw [if_pos rfl], ?_⟩, fT1.trans (x2'.1.weak (by decide)), fb3, ?_, fun _ => ⟨?_, ?_, ?_, ?_⟩, fun z => absurd rfl z, fun _ => ⟨?_, v, D, T1, z1, w1, w2, w3, hD, cT1, by rw [hD']; exact a3, x1, by rw [hD']; exact dl1, by rw [hD']; exact dl12, by rw [hD']; exact d5⟩⟩
    · refine ok_eq ?_
      unfold ccT
      refine ok_b (ok_of xs (ok_t rfl (ok_t ?_ (ok_b ?_))))
      · dsimp only
        rw [e35]
        omega
      · dsimp only
        rw [cT1 27 (by omega)]
        exact ok_of x1 (ok_s ⟨rfl, rfl⟩)
    · unfold btT
      rw [if_pos rfl] at hh
      rw [show ((i : Int)).toNat = i by omega]
      refine ok_b (ok_of xv (ok_t rfl (ok_t ?_ (ok_ib (by omega) (ok_t ?_ (ok_b ?_))))))
      · dsimp only
        rw [e17]
        omega
      · dsimp only
        exact i196 1
      · dsimp only
        rw [sw1.1 160 (by decide) (by decide) (by decide), h160, m3, m2.1]
        refine ok_of x3 ?_
        rw [e159, e160]
        refine ok_ib (by omega) (ok_nb (by omega) (ok_nb (by omega) (ok_nb (by omega) ?_)))
        rw [hR3]
        exact hh
    · rw [c3 196 (by decide) (by decide), x6.1 196 (by decide) rfl rfl]
      show pt (R1.1 196) i 1 = _
      rw [sw1.1 196 (by decide) (by decide) (by decide)]
    · exact x7.sw (fun _ _ => rfl) rfl rfl (fun a ha => c3 a (by omega) (by omega)) (fun j hj => c3o j (by omega)) (by rw [← hR3]; rfl) (by rw [← hR3]; rfl)
    · unfold RelCk at hC ⊢
      rw [kS 35 (by omega) (by omega) (by omega) (by omega) (by omega), kS 32 (by omega) (by omega) (by omega) (by omega) (by omega), fb3.2.1 93 (by decide) (by decide) (by decide) (by decide), fb3.1 191 (by decide) (by decide) (by decide) (by decide) (by decide) (by decide) (by decide)]
      exact hC
    · rw [fb3.2.1 96 (by decide) (by decide) (by decide) (by decide), kS 27 (by omega) (by omega) (by omega) (by omega) (by omega)]
      exact h96
    · rw [fb3.2.1 12 (by decide) (by decide) (by decide) (by decide), kS 27 (by omega) (by omega) (by omega) (by omega) (by omega)]
      exact h12
    · exact ((m2.cg (R1 := w_put R1 196 i 1) rfl).kp x6.2.2 R1nx).cg (by rw [← hR3]; rfl)
    · rw [fb3.2.1 97 (by decide) (by decide) (by decide) (by decide)]
      exact r97
    · rw [kS 2 (by omega) (by omega) (by omega) (by omega) (by omega)]
      exact (bC j hj).cg (fun a ha => kS a (by omega) (by omega) (by omega) (by omega) (by omega))
    · rw [fb3.1 193 (by decide) (by decide) (by decide) (by decide) (by decide) (by decide) (by decide), fb3.1 130 (by decide) (by decide) (by decide) (by decide) (by decide) (by decide) (by decide)]
      exact bR j hj
    · rw [← hR3]
      simp only [w_put_r, reduceIte, Nat.reduceEqDiff, pt_at]
      omega
    · rw [← hR3]
      simp only [w_put_r, reduceIte, Nat.reduceEqDiff, pt_at]
      omega
    · rw [← hR3]
      show R2.2.2.2.1 + V ≤ _
      rw [← sw1.2.2.2]
      omega
    · rw [← hR3]
      show R2.2.2.2.1 ≤ _
      rw [← sw1.2.2.2]
      exact x4
    · rw [x2'.2.2.2.2.2.1, cT1 6 (by omega)]
    · rw [c3 135 (by decide) (by decide), x5]
      show pt (R1.1 135) r _ = _
      rw [sw1.1 135 (by decide) (by decide) (by decide)]
    · rw [← hR3]
      show pt (R2.1 237) _ _ = _
      rw [x6.1 237 (by decide) rfl rfl]
      show pt (R1.1 237) _ _ = _
      rw [sw1.1 237 (by decide) (by decide) (by decide)]
    · rw [← hR3]
      simp only [w_put_r, reduceIte, Nat.reduceEqDiff, pt_at]
    · rw [c3 136 (by decide) (by decide)]
      have g10 := (x7.2.2.2.2.2.2.2.2.2.1 r h1 h2).1
      rw [x2'.2.2.2.1, pt_at, if_pos rfl, gk] at g10
      by_cases cc : R2.1 136 V = (r : Int)
      · exact cc
      · rw [if_neg (by simpa using cc)] at g10
        have := (gk_b (fun k => decide (R2.1 136 k = (r : Int))) V).2
        omega
  obtain ⟨y, S1, R2, u1, u2, u3⟩ := tails
  have e96 : R1.1 129 96 = S.1 27 2 := by
    rw [sw1.2.1 96 (by decide)]
    exact h96
  have t272 : T1.1 27 2 = S.1 27 2 := by rw [cT1 27 (by omega)]
  rcases hst with st | st
  · -- not strict
    refine ⟨y, S1, q2, R2, clA y S1 (ok_e bz (ok_t (by rw [t272]; exact st) (ok_of u1 ⟨rfl, rfl⟩))), by omega, fun P hh => rfA P (ok_e bz (ok_t (by rw [e96]; exact st) (u2 P hh))), u3⟩
  -- strict
  obtain ⟨nc, c1, c2, c3, c4⟩ := hC
  obtain ⟨yb, yb', f1, f2, f3⟩ := l_any (e := e) (N := N) (a1 := wa') (m := 20000) (n := nc) (T := T1) (R := R1) (top := top) (t2 := T1.1 2) (D := D') (by omega) (by omega) m2.2.2.2.1 (by decide) htop c1 (by rw [cT1 35 (by omega)]; exact c2) (by rw [sw1.2.1 93 (by decide)]; exact c3) (fun j hj => by
    rw [sw1.1 191 (by decide) (by decide) (by decide), cT1 32 (by omega)]
    obtain ⟨g1, g2, g3, g4, g5, g6, g7⟩ := c4 j hj
    exact ⟨g1, g2, g5, g6, fun z => ⟨(g7 z).1, (g7 z).2.1⟩⟩) a3' m4 (by omega) dl20 d13 nc 0 N N (by omega) (by omega) (by omega)
  have fC : E_RuleBook_isAnyBroken e N T1 = some (yb, T1) := f1
  have fR : E_R_firstBroken e N (R1.1 129 100) 0 (R1.2.1 3) R1 = some (yb', R1) := by
    rw [m3, m2.1]
    exact f2
  rcases f3 with ⟨g1, g2⟩ | ⟨g1, g2⟩
  · refine ⟨2, T1, q2, w_put R1 196 i 2, clA 2 T1 (ok_e bz (ok_e (by rw [t272]; omega) (ok_b (ok_of fC (ok_e (by dsimp only; omega) (ok_s ⟨rfl, rfl⟩)))))), by omega, fun P hh => rfA P (ok_e bz (ok_e (by rw [e96]; omega) (ok_b (ok_of fR (ok_t (by dsimp only; omega) (fail P hh)))))), keep 2 (Or.inr rfl)⟩
  · refine ⟨y, S1, q2, R2, clA y S1 (ok_e bz (ok_e (by rw [t272]; omega) (ok_b (ok_of fC (ok_t g1 (ok_of u1 ⟨rfl, rfl⟩)))))), by omega, fun P hh => rfA P (ok_e bz (ok_e (by rw [e96]; omega) (ok_b (ok_of fR (ok_e (fun z => z g2) (u2 P hh)))))), u3⟩
end
section
-- gi
abbrev CLa : List Nat := [4, 6, 8, 9, 10, 11, 12, 13, 14, 15, 16, 111, 121, 122, 123, 124, 125, 126, 127]
abbrev CLj : List (Nat × Nat) := [(3, 5), (106, 8), (120, 0)]
/-- what a batch leaves, from its i-th record on -/
def BtP (S R : w_S) (ss : List Bst) (top : Int) (V n c i : Nat) (x2 y : Int) (S1 R1 : w_S) : Prop := x2 ≤ y ∧ y ≤ x2 + ((c - i : Nat) : Int) ∧ S1.1 106 8 = (c : Int) ∧ (∀ j, i ≤ j → j < c → R1.1 196 j = S1.1 111 j ∧ 0 ≤ S1.1 111 j ∧ S1.1 111 j ≤ 2) ∧ (∀ j, j < i → S1.1 111 j = S.1 111 j ∧ R1.1 196 j = R.1 196 j) ∧ frm CLa [3, 106, 120] CLj S S1 ∧ frb R R1 ∧ R1.2.2.2.1 ≤ R.2.2.2.1 + (c - i) ∧ (∃ ta' L' E' V' wa' oa', BtR S1 R1 ss top ta' L' E' V' n wa' oa' ∧ (V' : Int) = V + (y - x2) ∧ R1.2.2.2.1 + V ≤ R.2.2.2.1 + V' ∧ ∀ v : Nat, V ≤ v → v < V' → R1.1 136 v = R1.1 237 ((R.1 129 159).toNat + (v - V))) ∧ (∀ u : Nat, R.1 135 u = S.1 6 u → R1.1 135 u = S1.1 6 u) ∧ R1.1 129 159 = R.1 129 159 + (y - x2) ∧ ∀ u : Nat, (u : Int) < R.1 129 159 → R1.1 237 u = R.1 237 u
theorem BtR.cg {S R S1 R1 : w_S} {ss : List Bst} {top : Int} {ta L E V n wa oa : Nat} (h : BtR S R ss top ta L E V n wa oa) (c : ∀ a, a < 100 → S1.1 a = S.1 a) (d : ∀ a, (a = 130 ∨ (136 ≤ a ∧ a ≤ 140) ∨ (191 ≤ a ∧ a ≤ 193) ∨ 238 ≤ a) → R1.1 a = R.1 a) (d1 : ∀ j, (j = 12 ∨ j = 13 ∨ j = 17 ∨ j = 23 ∨ j = 93 ∨ j = 96 ∨ j = 97 ∨ j = 159) → R1.1 129 j = R.1 129 j) (e2 : R1.2 = R.2) : BtR S1 R1 ss top ta L E V n wa oa := by
  obtain ⟨hv, hC, hst, h96, h12, hd0, hs, hw, s354, r97, sl8, s37, vss, bC, bR, b0, b1⟩ := h
  refine ⟨hv.sw (fun a ha => c a (by omega)) (c 3 (by omega)) (c 27 (by omega)) (fun a ha => d a (by omega)) (fun j hj => d1 j (by omega)) (by rw [e2]) (by rw [e2]), ?_, by rw [c 27 (by omega)]; exact hst, by rw [d1 96 (by omega), c 27 (by omega)]; exact h96, by rw [d1 12 (by omega), c 27 (by omega)]; exact h12, by rw [c 27 (by omega)]; exact hd0, by rw [c 2 (by omega)]; exact hs, hw.cg e2, by rw [c 35 (by omega)]; exact s354, by rw [d1 97 (by omega)]; exact r97, sl8, by rw [c 37 (by omega)]; exact s37, vss, fun j hj => by rw [c 2 (by omega)]; exact (bC j hj).cg (fun a ha => c a (by omega)), fun j hj => by rw [d 193 (by omega), d 130 (by omega)]; exact bR j hj, by rw [d1 159 (by omega)]; exact b0, by rw [d1 159 (by omega)]; exact b1⟩
  unfold RelCk at hC ⊢
  rw [c 35 (by omega), c 32 (by omega), d1 93 (by omega), d 191 (by omega)]
  exact hC
theorem l_bat {e : w_E} {N : Nat} {ss : List Bst} {top : Int} {n c : Nat} (hN : 16000000 ≤ N) (htop : top ≤ 10240) (hc : c ≤ 150) : ∀ (k i nf nr : Nat) (S R : w_S) (x2 : Int) (ta L E V wa oa : Nat), i + k = c → k < nf → 30 * k < nr → BtR S R ss top ta L E V n wa oa → RelFn S R → S.1 106 4 = (c : Int) → R.2.2.2.1 + k < 899000 → 0 ≤ x2 → x2 ≤ (i : Int) → Ok (El_C_runBatch e N nf 0 [x2, (i : Int)] [] S) (fun y S1 => Ok (El_R_doBatch e N nr 0 [x2, (i : Int)] [] R) (fun y' R1 => y' = y ∧ BtP S R ss top V n c i x2 y S1 R1))
  | _, _, 0, _, _, _, _, _, _, _, _, _, _, _, h, _, _, _, _, _, _, _ => by omega
  | _, _, _, 0, _, _, _, _, _, _, _, _, _, _, _, h, _, _, _, _, _, _ => by omega
  | 0, i, nf + 1, nr + 1, S, R, x2, ta, L, E, V, wa, oa, g1, g2, g3, hB, hF, g4, g5, g6, g7 => by
    rw [El_C_runBatch, g4]
    refine ok_t (by omega) (ok_s ?_)
    rw [El_R_doBatch, hF.1, g4]
    refine ok_t (by omega) (ok_s ⟨rfl, by omega, by omega, by simp only [w_put_r, reduceIte, Nat.reduceEqDiff, pt_at], fun j j1 j2 => by omega, fun j _ => ⟨rfl, rfl⟩, by repeat (first | exact frm.refl _ _ _ _ | refine frm.put ?_ rfl | refine frm.puto ?_ rfl rfl), frb.refl R, by omega, ⟨ta, L, E, V, wa, oa, hB.cg (fun a ha => w_put_f (by omega)) (fun _ _ => rfl) (fun _ _ => rfl) rfl, by omega, Nat.le_refl _, fun v v1 v2 => by omega⟩, fun u hu => hu, by omega, fun _ _ => rfl⟩)
  | k + 1, i, nf + 1, nr + 1, S, R, x2, ta, L, E, V, wa, oa, g1, g2, g3, hB, hF, g4, g5, g6, g7 => by
    obtain ⟨f1, f2, f3, f4⟩ := hF
    obtain ⟨j1, j2, j3⟩ := f4 i (by omega)
    have n3 : S.1 3 0 = (n : Nat) := hB.1.2.2.2.2.2.1
    obtain ⟨r, hr⟩ : ∃ r : Nat, S.1 108 i = (r : Int) := ⟨(S.1 108 i).toNat, by omega⟩
    obtain ⟨y, S1, n', R1, c1, c2, c3, c4⟩ := x_chg (e := e) (N := N) (nf := nr + 1) (r := r) (i := i) (x2 := x2) hN htop hB (by omega) (by omega) (by omega) (by rw [j1, hr]) (by rw [f1]; omega) (by omega) g6 (by omega) (by omega)
    obtain ⟨y0, p196, ⟨ta', L', E', V', wa', oa', hB1, hV, nxv⟩, fS, fR, nx, p1, p2, p3⟩ := c4
    have s106 : S1.1 106 = S.1 106 := fS.2.1 106 rfl rfl
    have s108 : S1.1 108 = S.1 108 := fS.2.1 108 rfl rfl
    have s111 : S1.1 111 = S.1 111 := fS.2.1 111 rfl rfl
    generalize hS2 : w_put S1 111 i y = S2
    have c2' : ∀ a, a ≠ 111 → S2.1 a = S1.1 a := fun a ha => by rw [← hS2]; exact w_put_f ha
    have i111 : S2.1 111 i = y := by rw [← hS2, w_put_r, if_pos rfl, pt_at, if_pos rfl]
    have o111 : ∀ j, j ≠ i → S2.1 111 j = S.1 111 j := fun j hj => by rw [← hS2, w_put_r, if_pos rfl, pt_at, if_neg hj, s111]
    have hB2 : BtR S2 R1 ss top ta' L' E' V' n wa' oa' := hB1.cg (fun a ha => c2' a (by omega)) (fun _ _ => rfl) (fun _ _ => rfl) rfl
    have s30 : S1.1 3 0 = S.1 3 0 := fS.2.2 3 0 rfl rfl
    have hF2 : RelFn S2 R1 := by
      refine ⟨?_, ?_, ?_, fun q hq => ?_⟩
      · rw [c2' 106 (by decide), s106, fR.2.1 51 (by decide) (by decide) (by decide) (by decide)]
        exact f1
      · rw [c2' 106 (by decide), s106]
        exact f2
      · rw [c2' 106 (by decide), s106]
        exact f3
      · rw [c2' 106 (by decide), s106] at hq
        rw [c2' 108 (by decide), s108, c2' 3 (by decide), s30, fR.1 160 (by decide) (by decide) (by decide) (by decide) (by decide) (by decide) (by decide)]
        exact f4 q hq
    have fS2 : frm CLa [3, 106, 120] CLj S S2 := (fS.weak (by decide)).trans (by rw [← hS2]; repeat (first | exact frm.refl _ _ _ _ | refine frm.put ?_ rfl | refine frm.puto ?_ rfl rfl))
    have ih := fun (x : Int) (hx0 : 0 ≤ x) (hx1 : x ≤ ((i + 1 : Nat) : Int)) => l_bat (e := e) (N := N) hN htop hc k (i + 1) nf n' S2 R1 x ta' L' E' V' wa' oa' (by omega) (by omega) (by omega) hB2 hF2 (by rw [c2' 106 (by decide), s106]; exact g4) (by omega) hx0 hx1
    have i1e : ((i + 1 : Nat) : Int) = (i : Int) + 1 := by omega
    rw [i1e] at ih
    have fin : ∀ (x z : Int) (S3 R3 : w_S), x = x2 + (if y = 1 then 1 else 0) → BtP S2 R1 ss top V' n c (i + 1) x z S3 R3 → BtP S R ss top V n c i x2 z S3 R3 := fun x z S3 R3 hx hp => by
      obtain ⟨b1, b2, b3, b4, b5, b6, b7, b8, ⟨tb, Lb, Eb, Vb, wb, ob, b9, b10, b14, b15⟩, b11, b12, b13⟩ := hp
      have xb : x2 ≤ x ∧ x ≤ x2 + 1 := by
        rw [hx]
        split <;> omega
      refine ⟨by omega, by omega, b3, fun j h1 h2 => ?_, fun j hj => ?_, fS2.trans b6, fR.trans b7, by omega, ⟨tb, Lb, Eb, Vb, wb, ob, b9, ?_, by omega, fun v v1 v2 => ?_⟩, fun u hu => b11 u ?_, ?_, fun u hu => ?_⟩
      · by_cases ej : j = i
        · subst ej
          obtain ⟨q1, q2⟩ := b5 j (by omega)
          rw [q1, q2, i111, p196, pt_at, if_pos rfl]
          exact ⟨rfl, by omega, by omega⟩
        · exact b4 j (by omega) h2
      · obtain ⟨q1, q2⟩ := b5 j (by omega)
        rw [q1, q2, o111 j (by omega), p196, pt_at, if_neg (by omega)]
        exact ⟨rfl, rfl⟩
      · by_cases e1 : y = 1
        · rw [if_pos e1] at hx hV
          omega
        · rw [if_neg e1] at hx hV
          omega
      · have z0 := hB.2.2.2.2.2.2.2.2.2.2.2.2.2.2.2.1
        have z1 := hB1.1.2.2.2.1
        by_cases e1 : y = 1
        · obtain ⟨_, _, q3, q4⟩ := p1 e1
          rw [if_pos e1] at hV
          by_cases ev : v = V
          · subst ev
            rw [(b7.2.2.2.2.2.2.2.1 v (by rw [z1]; omega)).1, (p3 e1).1, Nat.sub_self, Nat.add_zero, b13 _ (by rw [q4]; omega), q3, pt_at, if_pos rfl]
          · rw [b15 v (by omega) v2, q4, show (R.1 129 159 + 1).toNat + (v - V') = (R.1 129 159).toNat + (v - V) by omega]
        · obtain ⟨_, _, q3, q4, _⟩ := p2 e1
          rw [if_neg e1] at hV
          rw [b15 v (by omega) v2, q4, show V' = V by omega]
      · rw [c2' 6 (by decide)]
        by_cases e1 : y = 1
        · obtain ⟨q1, q2, _, _⟩ := p1 e1
          rw [q1, q2, pt_at, pt_at]
          split
          · rfl
          · exact hu
        · obtain ⟨q1, q2, _, _⟩ := p2 e1
          rw [q1, q2]
          exact hu
      · rw [b12]
        by_cases e1 : y = 1
        · rw [(p1 e1).2.2.2]
          rw [if_pos e1] at hx
          omega
        · rw [(p2 e1).2.2.2.1]
          rw [if_neg e1] at hx
          omega
      · by_cases e1 : y = 1
        · obtain ⟨_, _, q3, q4⟩ := p1 e1
          rw [b13 u (by rw [q4]; omega), q3, pt_at, if_neg (by omega)]
        · obtain ⟨_, _, q3, q4, _⟩ := p2 e1
          rw [b13 u (by rw [q4]; exact hu), q3]
    rw [El_C_runBatch, g4, show ((i : Int)).toNat = i by omega, hr]
    refine ok_e (by omega) (ok_ib (by omega) (ok_b (ok_of c1 ?_)))
    dsimp only
    rw [hS2, i111]
    by_cases e1 : y = 1
    · refine ok_e (fun z => z e1) (ok_nb (by omega) (ok_nb (by omega) ((ih (x2 + 1) (by omega) (by omega)).mono ?_)))
      intro z S3 hh
      refine c3 _ ?_
      rw [if_pos e1]
      refine hh.mono ?_
      intro z' R3 ⟨h1, h2⟩
      exact ⟨h1, fin _ _ _ _ (by rw [if_pos e1]) h2⟩
    · refine ok_t e1 (ok_nb (by omega) (ok_nb (by omega) ((ih (x2 + 0) (by omega) (by omega)).mono ?_)))
      intro z S3 hh
      refine c3 _ ?_
      rw [if_neg e1]
      refine hh.mono ?_
      intro z' R3 ⟨h1, h2⟩
      exact ⟨h1, fin _ _ _ _ (by rw [if_neg e1]) h2⟩
end
section
-- gj
theorem rdl_in {P : Int → Int} {len q0 : Int} (hP : ∀ q, 0 ≤ q → q ≤ len → P q ≤ len) : ∀ (k i : Nat) (q : Int), 0 ≤ q → q ≤ len → q = qf P q0 i → 0 ≤ rdl P len k i q → ∀ j : Nat, i ≤ j → (j : Int) < rdl P len k i q → 0 ≤ qf P q0 j ∧ qf P q0 j ≤ len ∧ 0 ≤ P (qf P q0 j)
  | 0, i, q, h0, hl, hq, hr, j, h1, h2 => by
    rw [rdl] at hr h2
    split at h2
    · omega
    · omega
  | k + 1, i, q, h0, hl, hq, hr, j, h1, h2 => by
    rw [rdl] at hr h2
    split at h2
    · omega
    · rename_i c1
      rw [if_neg c1] at hr
      split at h2
      · rename_i c2
        rw [if_pos c2] at hr
        omega
      · rename_i c2
        rw [if_neg c2] at hr
        by_cases e1 : j = i
        · subst e1
          rw [← hq]
          exact ⟨h0, hl, by omega⟩
        · exact rdl_in hP k (i + 1) (P q) (by omega) (hP q h0 hl) (by rw [hq]; rfl) hr j (by omega) h2
theorem pT_lo {G : Int → Int} {lo s : Int} (h : 0 ≤ pT G lo s) : lo ≤ vl G s 3 := by
  have h0 := pT_ge h
  unfold pT at h
  rw [if_neg (by omega)] at h
  split at h
  · omega
  · split at h
    · omega
    · omega
theorem bsp_v {G : Int → Int} {q : Int} (h0 : 0 ≤ q) (h : 0 ≤ stq G q) : vbs (bsp G q) := by
  have sk := skd_bd G q
  unfold stq at h
  by_cases cs : sts G q < 0
  · rw [if_pos cs] at h
    omega
  rw [if_neg cs] at h
  have s4 := (sts_ge (show 0 ≤ sts G q by omega)).2
  unfold bsp
  by_cases c0 : skd G q = 0
  · rw [if_pos c0]
    exact ⟨Or.inl rfl, fun z => (by cases z), fun z => (by cases z)⟩
  rw [if_neg c0] at h ⊢
  by_cases c1 : skd G q = 1
  · rw [if_pos c1] at h ⊢
    obtain ⟨t1, t2, t3, t4, t5, t6, t7, t8, t9⟩ := set_ge h
    rw [s4] at t2 t5 t8
    refine ⟨Or.inr (Or.inl rfl), fun _ => ⟨?_, ?_, ?_⟩, fun z => (by cases z)⟩
    · exact pT_lo (show 0 ≤ pT G 10 (q + 4) by omega)
    · rw [show q + 4 + 4 = q + 8 by omega] at t5
      exact t5
    · rw [show q + 4 + 6 = q + 10 by omega] at t8
      exact rowL_v t8
  · rw [if_neg c1] at h ⊢
    rw [s4] at h
    exact ⟨Or.inr (Or.inr rfl), fun z => (by cases z), fun _ => ⟨(fld_ser h).2.2, Fld_subs G (q + 4)⟩⟩
theorem tr_byt {R : w_S} {len : Int} {G : Int → Int} (h : TR R len G) (hb : ∀ p : Nat, (p : Int) < len → -128 ≤ R.1 130 p ∧ R.1 130 p ≤ 127) {l : List Int} {p : Int} (h0 : 0 ≤ p) (hl : p + (l.length : Nat) ≤ len) (hg : gby G p l) (hv : ∀ b, b ∈ l → 0 ≤ b ∧ b ≤ 127) : byt (R.1 130) p.toNat l := by
  refine byt_of (fun k hk => ?_)
  have g := gby_at hg k hk
  have m := hv _ (memD (d := 0) hk)
  have t := (h.2.2.2 (p + k) (by omega)).1 (by omega)
  have r := hb (p.toNat + k) (by omega)
  have a := b_and255 (R.1 130 (p.toNat + k)) r.1 r.2
  have t1 := t.1
  rw [show (p + (k : Int)).toNat = p.toNat + k by omega, a, g] at t1
  rw [← g]
  split at t1 <;> omega
theorem BrC.st {R : w_S} {len q : Int} {G : Int → Int} {g : Nat → Int} {m : Nat} (h : TR R len G) (hb : ∀ p : Nat, (p : Int) < len → -128 ≤ R.1 130 p ∧ R.1 130 p ≤ 127) (hc : BrC g G m q) (h0 : 0 ≤ q) (hl : q ≤ len) (hs : 0 ≤ stq G q) : BrS g (R.1 130) m (bsp G q) := by
  obtain ⟨c1, c2, c3, c4⟩ := hc
  have lb : len ≤ 2000 := h.2.2.1
  have sk := skd_bd G q
  have sb := stq_bd h.e (show Bd len q from ⟨by omega, hl⟩)
  unfold Bd at sb
  have hs0 := hs
  unfold stq at hs
  by_cases cs : sts G q < 0
  · rw [if_pos cs] at hs
    omega
  rw [if_neg cs] at hs
  have s4 := (sts_ge (show 0 ≤ sts G q by omega)).2
  unfold bsp
  by_cases k0 : skd G q = 0
  · rw [if_pos k0]
    refine ⟨by rw [c1, k0], fun _ => c2 k0, fun z => (by cases z), fun z => (by cases z)⟩
  rw [if_neg k0] at hs ⊢
  by_cases k1 : skd G q = 1
  · rw [if_pos k1] at hs ⊢
    obtain ⟨t1, t2, t3, t4, t5, t6, t7, t8, t9⟩ := set_ge hs
    have e1 : stq G q = q + 10 + (nw rwb G 40 (q + 10) : Nat) + 1 := by
      unfold stq
      rw [if_neg cs, if_neg k0, if_pos k1, t9, s4, show q + 4 + 6 = q + 10 by omega]
    obtain ⟨d1, d2, d3, d4⟩ := c3 k1
    rw [s4, show q + 4 + 6 = q + 10 by omega] at t8
    refine ⟨by rw [c1, k1], fun z => (by cases z), fun _ => ⟨d1, d2, (q + 10).toNat, by rw [d3]; omega, ?_, ?_, ?_⟩, fun z => (by cases z)⟩
    · rw [d4]
      show _ = (((q + 10).toNat + (rowL G (q + 10)).length : Nat) : Int)
      rw [rowL_len]
      omega
    · exact tr_byt h hb (by omega) (by rw [rowL_len]; omega) (rowL_g G (q + 10)) (vrow_b (rowL_v t8))
    · show (q + 10).toNat + (rowL G (q + 10)).length ≤ 2000
      rw [rowL_len]
      omega
  · rw [if_neg k1] at hs ⊢
    rw [s4] at hs
    obtain ⟨u1, u2, u3⟩ := fld_ser hs
    have e1 : stq G q = q + 4 + ((ser (Fld G (q + 4))).length : Nat) := by
      unfold stq
      rw [if_neg cs, if_neg k0, if_neg k1, s4, u2]
    obtain ⟨d1, d2⟩ := c4 (by omega)
    refine ⟨by rw [c1]; show skd G q = 2; omega, fun z => (by cases z), fun z => (by cases z), fun _ => ⟨(q + 4).toNat, by rw [d1]; omega, ?_, ?_, ?_⟩⟩
    · rw [d2, e1]
      show _ = (((q + 4).toNat + (ser (Fld G (q + 4))).length : Nat) : Int)
      omega
    · exact tr_byt h hb (by omega) (by show q + 4 + (((ser (Fld G (q + 4))).length : Nat) : Int) ≤ len; omega) u1 (ser_b u3)
    · show (q + 4).toNat + (ser (Fld G (q + 4))).length ≤ 2000
      omega
end
