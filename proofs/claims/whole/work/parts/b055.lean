section
-- hd
/-- all that the change of a record leans on when a batch is done again -/
def BtQ (S R : w_S) (ss : List Bst) (top : Int) (ta L E V n wa oa : Nat) : Prop := RelVr S R top ta L E V n ∧ RelCk S R ∧ (S.1 27 2 = 0 ∨ S.1 27 2 = 1) ∧ R.1 129 96 = S.1 27 2 ∧ R.1 129 12 = S.1 27 1 ∧ 0 ≤ S.1 27 1 ∧ (∀ j, -128 ≤ S.1 2 j ∧ S.1 2 j ≤ 127) ∧ Wrk R wa oa ∧ S.1 35 4 = (ss.length : Nat) ∧ R.1 129 97 = (ss.length : Nat) ∧ ss.length ≤ 8 ∧ S.1 37 0 ≤ 8 ∧ (∀ s, s ∈ ss → vbs s) ∧ (∀ j, j < ss.length → BsC (S.1 34) S (S.1 2) top j (ss.getD j bs0)) ∧ (∀ j, j < ss.length → BrS (R.1 193) (R.1 130) j (ss.getD j bs0))
theorem BtQ.cg {S R S1 R1 : w_S} {ss : List Bst} {top : Int} {ta L E V n wa oa : Nat} (h : BtQ S R ss top ta L E V n wa oa) (c : ∀ a, a < 100 → S1.1 a = S.1 a) (d : ∀ a, (a = 130 ∨ (136 ≤ a ∧ a ≤ 140) ∨ (191 ≤ a ∧ a ≤ 193) ∨ 238 ≤ a) → R1.1 a = R.1 a) (d1 : ∀ j, (j = 12 ∨ j = 13 ∨ j = 17 ∨ j = 23 ∨ j = 93 ∨ j = 96 ∨ j = 97) → R1.1 129 j = R.1 129 j) (e2 : R1.2 = R.2) : BtQ S1 R1 ss top ta L E V n wa oa := by
  obtain ⟨hv, hC, hst, h96, h12, hd0, hs, hw, s354, r97, sl8, s37, vss, bC, bR⟩ := h
  refine ⟨hv.sw (fun a ha => c a (by omega)) (c 3 (by omega)) (c 27 (by omega)) (fun a ha => d a (by omega)) (fun j hj => d1 j (by omega)) (by rw [e2]) (by rw [e2]), ?_, by rw [c 27 (by omega)]; exact hst, by rw [d1 96 (by omega), c 27 (by omega)]; exact h96, by rw [d1 12 (by omega), c 27 (by omega)]; exact h12, by rw [c 27 (by omega)]; exact hd0, by rw [c 2 (by omega)]; exact hs, hw.cg e2, by rw [c 35 (by omega)]; exact s354, by rw [d1 97 (by omega)]; exact r97, sl8, by rw [c 37 (by omega)]; exact s37, vss, fun j hj => by rw [c 2 (by omega)]; exact (bC j hj).cg (fun a ha => c a (by omega)), fun j hj => by rw [d 193 (by omega), d 130 (by omega)]; exact bR j hj⟩
  unfold RelCk at hC ⊢
  rw [c 35 (by omega), c 32 (by omega), d1 93 (by omega), d 191 (by omega)]
  exact hC
theorem BtQ.r {S R : w_S} {ss : List Bst} {top : Int} {ta L E V n wa oa : Nat} (h : BtQ S R ss top ta L E V n wa oa) (b0 : 0 ≤ R.1 129 159) (b1 : R.1 129 159 ≤ (V : Int)) : BtR S R ss top ta L E V n wa oa := by
  obtain ⟨hv, hC, hst, h96, h12, hd0, hs, hw, s354, r97, sl8, s37, vss, bC, bR⟩ := h
  exact ⟨hv, hC, hst, h96, h12, hd0, hs, hw, s354, r97, sl8, s37, vss, bC, bR, b0, b1⟩
theorem l_mvr {e : w_E} {N : Nat} {x1 x2 x3 : Int} (hN : 100000 ≤ N) : ∀ (ss : List Bst) (m nf wa oa : Nat) (R : w_S) (D : List Fdl), m + ss.length ≤ 8 → R.1 129 97 = ((m + ss.length : Nat) : Int) → (∀ j, j < ss.length → BrS (R.1 193) (R.1 130) (m + j) (ss.getD j bs0)) → (∀ s, s ∈ ss → vbs s) → Wrk R wa oa → R.1 129 100 = ((doc D).length : Nat) → byt (R.1 wa) 0 (doc D) → vdb m D → ss.length < nf → ∃ n' R' wa' oa', nf = n' + ss.length ∧ Wrk R' wa' oa' ∧ R'.1 129 100 = ((doc (apbs ss D)).length : Nat) ∧ byt (R'.1 wa') 0 (doc (apbs ss D)) ∧ fsw R R' ∧ ∀ P, Ok (El_R_repeats e N n' 1 [x1, x2, x3, ((m + ss.length : Nat) : Int)] [] R') P → Ok (El_R_repeats e N nf 1 [x1, x2, x3, (m : Int)] [] R) P
  | [], m, nf, wa, oa, R, D, g1, g2, g3, g4, g5, g6, g7, g8, g9 => ⟨nf, R, wa, oa, rfl, g5, g6, g7, fsw.refl R, fun P h => h⟩
  | s :: ss, m, 0, wa, oa, R, D, g1, g2, g3, g4, g5, g6, g7, g8, g9 => by omega
  | s :: ss, m, nf + 1, wa, oa, R, D, g1, g2, g3, g4, g5, g6, g7, g8, g9 => by
    rw [List.length_cons] at g1 g2 g3 g9
    have b0 := g3 0 (by omega)
    rw [Nat.add_zero] at b0
    have b0' : BrS (R.1 193) (R.1 130) m s := b0
    have vs := g4 s List.mem_cons_self
    obtain ⟨v, R1, hr, r1, r2, r3, r4⟩ := x_mv (e := e) (N := N) hN (show m < 8 by omega) vs g5 b0' g6 g7 g8
    obtain ⟨n', R', wa', oa', a1, a2, a3, a4, a5, a6⟩ := l_mvr (e := e) (N := N) (x1 := x1) (x2 := x2) (x3 := x3) hN ss (m + 1) nf oa wa R1 (apb s D) (by omega) (by rw [r4.2.1 97 (by decide), g2]; omega) (fun j hj => by
      have := g3 (j + 1) (by omega)
      rw [show m + (j + 1) = m + 1 + j by omega] at this
      rw [r4.1 193 (by decide) (by decide) (by decide), r4.1 130 (by decide) (by decide) (by decide)]
      exact this) (fun u hu => g4 u (List.mem_cons_of_mem _ hu)) r1 r2 r3 (apb_v vs g8) (by omega)
    rw [List.length_cons, show m + (ss.length + 1) = m + 1 + ss.length by omega]
    refine ⟨n', R', wa', oa', by omega, a2, a3, a4, r4.trans a5, fun P h => ?_⟩
    rw [El_R_repeats, g2]
    refine ok_e (by omega) (ok_nb (by omega) (ok_b (ok_of hr (ok_nb (by omega) ?_))))
    rw [show (m : Int) + 1 = ((m + 1 : Nat) : Int) by omega]
    exact a6 P h
/-- one record of a batch that is done again -/
theorem x_rpt {e : w_E} {N nz r jz : Nat} {S Z S1 Zg : w_S} {ss : List Bst} {top xf xm : Int} {ta L E V n wa oa tg Eg : Nat} (hN : 16000000 ≤ N) (hB : BtQ S Z ss top ta L E V n wa oa) (h1 : 1 ≤ r) (h2 : r ≤ n) (hV : V < 400) (hj : jz < 400) (h237 : Z.1 237 jz = (r : Int)) (hx : (jz : Int) < xf + xm) (hx2 : xf + xm ≤ 1000) (hx0 : 0 ≤ xf + xm) (hnx : Z.2.2.2.1 < 899000) (hnz : 20 < nz) (hA : ChA e N S Zg ss top tg Eg V r S1) (vg : ∀ v D, VrD S Zg (S.1 2) top tg Eg v D → VrD S Z (S.1 2) top ta E v D) : ∃ n' Z1, nz ≤ n' + 20 ∧ (∀ P, Ok (El_R_repeats e N n' 0 [xf, xm, (jz : Int) + 1] [] Z1) P → Ok (El_R_repeats e N nz 0 [xf, xm, (jz : Int)] [] Z) P) ∧ (∃ ta' L' E' wa' oa', BtQ S1 Z1 ss top ta' L' E' (V + 1) n wa' oa') ∧ frb Z Z1 ∧ Z1.2.2.2.1 ≤ Z.2.2.2.1 + 1 ∧ Z1.1 135 = pt (Z.1 135) r (S.1 27 1) ∧ S1.1 6 = pt (S.1 6) r (S.1 27 1) ∧ Z1.1 237 = Z.1 237 ∧ Z1.1 129 159 = Z.1 129 159 := by
  obtain ⟨v, D, T1, z, a1, a2, _, hDg, cT1, hdr, hadd, dl1, dl12, d5⟩ := hA
  have hD := vg v D hDg
  obtain ⟨hv, hC, hst, h96, h12, hd0, hs, hw, s354, r97, sl8, s37, vss, bC, bR⟩ := hB
  have hvv := hv
  obtain ⟨k1, k2, k3, k4, k5, k6, k7, k8, k9, k10, k11⟩ := hvv
  clear k10 k11
  obtain ⟨v', D', w1, w2, w3, w4, _⟩ := x_today (e := e) (N := N) (by omega) hv h12 h1 h2
  have hvv' : v' = v := by
    rw [a2] at w2
    omega
  subst hvv'
  have hDD := hD
  obtain ⟨D1, D2, D3, D4, D5, D6, p, D7, D8, D9, D10, D11⟩ := hDD
  have dv0 : ∀ f, f ∈ D → vfd f ∧ f.2.2.2.length ≤ 5 := fun f hf => by
    obtain ⟨F, hF, rfl⟩ := mem_of_get hf
    exact ⟨D5 _ hf, D4 F hF⟩
  have vd0 : vdb 0 D := ⟨by omega, fun f hf => ⟨(dv0 f hf).1, (dv0 f hf).2⟩⟩
  obtain ⟨y1, R0, hR0, r1, r2, r3⟩ := x_tkv (e := e) (N := N) hN hv hw.rel (show v' < 400 by omega) hD
  rw [hw.1] at r1 r3
  have w194 : wa = 194 ∨ wa = 195 := by have := hw.2.2.1; omega
  have sw0 : fsw Z R0 := by
    refine ⟨fun c c1 c2 c3 => r1.2.1 c ?_ ?_, fun j hj => r1.2.2 129 j ?_ ?_, fun j _ _ => by rw [r1.1], by rw [r1.1]⟩
    · simp only [List.contains_cons, List.contains_nil, Bool.or_false, beq_eq_false_iff_ne, ne_eq]
      omega
    · simp only [List.contains_cons, List.contains_nil, Bool.or_false, beq_eq_false_iff_ne, ne_eq]
      omega
    · simp only [List.contains_cons, List.contains_nil, Bool.or_false, beq_eq_false_iff_ne, ne_eq]
      omega
    · simp only [List.contains_cons, List.contains_nil, Bool.or_false, beq_eq_false_iff_ne, ne_eq, Prod.mk.injEq, not_and]
      omega
  obtain ⟨nf0, hnf0⟩ : ∃ q, nz = q + 1 := ⟨nz - 1, by omega⟩
  subst hnf0
  obtain ⟨n2, R1, wa', oa', m1, m2, m3, m4, m5, m6⟩ := l_mvr (e := e) (N := N) (x1 := xf) (x2 := xm) (x3 := (jz : Int)) (by omega) ss 0 nf0 wa oa R0 D (by omega) (by rw [sw0.2.1 97 (by decide), r97, Nat.zero_add]) (fun j hj => by
    rw [sw0.1 193 (by decide) (by decide) (by decide), sw0.1 130 (by decide) (by decide) (by decide), Nat.zero_add]
    exact bR j hj) vss (hw.cg r1.1) r2 r3 vd0 (by omega)
  rw [Nat.zero_add] at m6
  have sw1 : fsw Z R1 := sw0.trans m5
  have hv1 : RelVr T1 R1 top ta L E V n := hv.sw (fun a ha => cT1 a (by omega)) (cT1 3 (by omega)) (cT1 27 (by omega)) (fun a ha => sw1.1 a (by omega) (by omega) (by omega)) (fun j hj => sw1.2.1 j (by omega)) (sw1.2.2.1 2 (by decide) (by decide)) sw1.2.2.2
  generalize hD' : apbs ss D = D' at m3 m4 hdr dl1 dl12 d5
  have a3' : Dr T1 (T1.1 2) top D' := by
    rw [cT1 2 (by omega)]
    exact hdr
  have wab : wa' < 238 ∧ wa' ≠ 140 ∧ wa' ≠ 196 := by have := m2.2.2.1; omega
  have tx := hv1.1
  obtain ⟨z1, S2, x1, x2', z2, R2, x3, x4, x5, x6, ta', L', x7⟩ := both_add (e := e) (N := N) (a2 := wa') (m := 20000) (S := T1) (R := R1) (Sm := T1) (Rm := R1) (top := top) (top' := top) (d := S.1 27 1) (n1 := n) (r := r) (D := D') (by omega) hv1 (by omega) (Int.le_refl _) h1 h2 (Or.inl rfl) k8 hd0 (by rw [cT1 27 (by omega)]; exact Int.le_refl _) (by have := doc_le d5; omega) (by rw [sw1.2.2.2]; exact hnx) (fun _ _ => rfl) rfl (by rw [cT1 3 (by omega)]; exact k6) rfl (fun _ _ _ _ => rfl) (by rw [if_pos rfl]) (fun a ha => rfl) (by rw [sw1.2.1 12 (by decide)]; exact h12) (by rw [sw1.2.1 13 (by decide)]; exact k7) rfl rfl rfl a3' dl1 dl12 (fun F hF => (d5 _ (memD hF)).2) (fun f hf => (d5 f hf).1) wab.1 wab.2.1 (by have := doc_le d5; omega) (by decide) m2.2.2.2.1 m4 (fun u hu => by
    rw [show u = 0 + u by omega, byt_at m4 u hu]
    have := doc_b (fun f hf => (d5 f hf).1) _ (memD (d := 0) hu)
    omega)
  rw [hadd] at x1
  obtain ⟨rfl, rfl⟩ := Prod.mk.inj (Option.some.inj x1)
  have R1nx : 238 ≤ R1.2.2.2.1 := tx.2.2.2.1
  obtain ⟨q2, hq2⟩ : ∃ q, n2 = q + 1 := ⟨n2 - 1, by omega⟩
  subst hq2
  have kS : ∀ a, (a < 120 ∨ 127 < a) → a ≠ 3 → a ≠ 4 → a ≠ 6 → (a < 8 ∨ 16 < a) → S1.1 a = S.1 a := fun a ha n3 n4 n6 n8 => by
    rw [x2'.1.2.1 a (by
      simp only [List.contains_cons, List.contains_nil, Bool.or_false, Bool.or_eq_false_iff, beq_eq_false_iff_ne, ne_eq]
      omega) (by
      simp only [List.contains_cons, List.contains_nil, Bool.or_false, beq_eq_false_iff_ne, ne_eq]
      omega), cT1 a ha]
  have fb3 : frb Z R2 := (frb.sw sw1).trans (frb.w x6)
  have e237 : R2.1 237 = Z.1 237 := by rw [x6.1 237 (by decide) rfl rfl, sw1.1 237 (by decide) (by decide) (by decide)]
  have e159 : R2.1 129 159 = Z.1 129 159 := by rw [x6.2.1 129 159 (by decide) rfl rfl, sw1.2.1 159 (by decide)]
  refine ⟨q2, R2, by omega, fun P hh => ?_, ⟨ta', L', E + (doc D').length, wa', oa', ⟨x7, ?_, by rw [kS 27 (by omega) (by omega) (by omega) (by omega) (by omega)]; exact hst, ?_, ?_, by rw [kS 27 (by omega) (by omega) (by omega) (by omega) (by omega)]; exact hd0, by rw [kS 2 (by omega) (by omega) (by omega) (by omega) (by omega)]; exact hs, m2.kp x6.2.2 R1nx, by rw [kS 35 (by omega) (by omega) (by omega) (by omega) (by omega)]; exact s354, ?_, sl8, by rw [kS 37 (by omega) (by omega) (by omega) (by omega) (by omega)]; exact s37, vss, fun j hj => ?_, fun j hj => ?_⟩⟩, fb3, ?_, ?_, ?_, e237, e159⟩
  · rw [El_R_repeats, show ((jz : Int)).toNat = jz by omega, h237]
    refine ok_nb (by omega) (ok_e (by omega) (ok_ib (by omega) (ok_b (ok_of w3 (ok_b (ok_of hR0 (m6 P ?_)))))))
    rw [El_R_repeats, sw1.2.1 97 (by decide), r97, show ((jz : Int)).toNat = jz by omega, sw1.1 237 (by decide) (by decide) (by decide), h237, m3, m2.1]
    refine ok_t (by omega) (ok_ib (by omega) (ok_b (ok_of x3 (ok_nb (by omega) ?_))))
    exact hh
  · unfold RelCk at hC ⊢
    rw [kS 35 (by omega) (by omega) (by omega) (by omega) (by omega), kS 32 (by omega) (by omega) (by omega) (by omega) (by omega), fb3.2.1 93 (by decide) (by decide) (by decide) (by decide), fb3.1 191 (by decide) (by decide) (by decide) (by decide) (by decide) (by decide) (by decide)]
    exact hC
  · rw [fb3.2.1 96 (by decide) (by decide) (by decide) (by decide), kS 27 (by omega) (by omega) (by omega) (by omega) (by omega)]
    exact h96
  · rw [fb3.2.1 12 (by decide) (by decide) (by decide) (by decide), kS 27 (by omega) (by omega) (by omega) (by omega) (by omega)]
    exact h12
  · rw [fb3.2.1 97 (by decide) (by decide) (by decide) (by decide)]
    exact r97
  · rw [kS 2 (by omega) (by omega) (by omega) (by omega) (by omega)]
    exact (bC j hj).cg (fun a ha => kS a (by omega) (by omega) (by omega) (by omega) (by omega))
  · rw [fb3.1 193 (by decide) (by decide) (by decide) (by decide) (by decide) (by decide) (by decide), fb3.1 130 (by decide) (by decide) (by decide) (by decide) (by decide) (by decide) (by decide)]
    exact bR j hj
  · rw [← sw1.2.2.2]
    exact x4
  · rw [x5, sw1.1 135 (by decide) (by decide) (by decide)]
  · rw [x2'.2.2.2.2.2.1, cT1 6 (by omega)]
/-- what a batch done again leaves -/
def RpP (S Z : w_S) (ss : List Bst) (top : Int) (V n : Nat) (d : Int) (S1 Z1 : w_S) : Prop := (∃ ta' L' E' V' wa' oa', BtQ S1 Z1 ss top ta' L' E' V' n wa' oa' ∧ (V' : Int) = V + d ∧ Z1.2.2.2.1 + V ≤ Z.2.2.2.1 + V') ∧ frb Z Z1 ∧ Z1.1 237 = Z.1 237 ∧ Z1.1 129 159 = Z.1 129 159 ∧ ∀ u : Nat, Z.1 135 u = S.1 6 u → Z1.1 135 u = S1.1 6 u
theorem l_rep {e : w_E} {N : Nat} {ss : List Bst} {top xf xm : Int} {n c : Nat} (hN : 16000000 ≤ N) (htop : top ≤ 10240) (hc : c ≤ 150) (hx0 : 0 ≤ xf + xm) (hx2 : xf + xm ≤ 400) : ∀ (k i nf nr nz jz : Nat) (S R Z : w_S) (x2 : Int) (ta L E V wa oa tb Lb Eb wb ob : Nat), i + k = c → k < nf → 30 * k < nr → 30 * k < nz → BtR S R ss top ta L E V n wa oa → RelFn S R → BtQ S Z ss top tb Lb Eb V n wb ob → S.1 106 4 = (c : Int) → R.2.2.2.1 + k < 899000 → Z.2.2.2.1 + k < 899000 → 0 ≤ x2 → x2 ≤ (i : Int) → Ok (El_C_runBatch e N nf 0 [x2, (i : Int)] [] S) (fun y S1 => Ok (El_R_doBatch e N nr 0 [x2, (i : Int)] [] R) (fun y' R1 => BtP S R ss top V n c i x2 y S1 R1 ∧ ((jz : Int) + (y - x2) = xf + xm → (∀ v : Nat, V ≤ v → (v : Int) < V + (y - x2) → R1.1 136 v = Z.1 237 (jz + (v - V))) → Ok (El_R_repeats e N nz 0 [xf, xm, (jz : Int)] [] Z) (fun _ Z1 => RpP S Z ss top V n (y - x2) S1 Z1)))) := by
  intro k
  induction k with
  | zero =>
    intro i nf nr nz jz S R Z x2 ta L E V wa oa tb Lb Eb wb ob g1 g2 g3 g3b hB hF hZ g4 g5 g5b g6 g7
    obtain ⟨nf, rfl⟩ : ∃ q, nf = q + 1 := ⟨nf - 1, by omega⟩
    obtain ⟨nr, rfl⟩ : ∃ q, nr = q + 1 := ⟨nr - 1, by omega⟩
    obtain ⟨nz, rfl⟩ : ∃ q, nz = q + 1 := ⟨nz - 1, by omega⟩
    obtain ⟨y, S1, q1, y', R1, q2, _, q4⟩ := l_bat (e := e) (N := N) hN htop hc 0 i (nf + 1) (nr + 1) S R x2 ta L E V wa oa g1 g2 g3 hB hF g4 g5 g6 g7
    refine ok_of q1 (ok_of q2 ⟨q4, fun w1 w2 => ?_⟩)
    have yx : y = x2 := by
      have := q4.1
      have := q4.2.1
      omega
    rw [El_C_runBatch, g4, if_pos (by omega)] at q1
    obtain ⟨_, rfl⟩ := Prod.mk.inj (Option.some.inj q1)
    rw [El_R_repeats]
    refine ok_nb (by omega) (ok_t (by omega) (ok_s ⟨⟨tb, Lb, Eb, V, wb, ob, hZ.cg (fun a ha => w_put_f (by omega)) (fun _ _ => rfl) (fun _ _ => rfl) rfl, by omega, Nat.le_refl _⟩, frb.refl Z, rfl, rfl, fun u hu => ?_⟩))
    rw [w_put_f (by decide)]
    exact hu
  | succ k ihk =>
    intro i nf nr nz jz S R Z x2 ta L E V wa oa tb Lb Eb wb ob g1 g2 g3 g3b hB hF hZ g4 g5 g5b g6 g7
    obtain ⟨nf, rfl⟩ : ∃ q, nf = q + 1 := ⟨nf - 1, by omega⟩
    obtain ⟨nr, rfl⟩ : ∃ q, nr = q + 1 := ⟨nr - 1, by omega⟩
    obtain ⟨nz, rfl⟩ : ∃ q, nz = q + 1 := ⟨nz - 1, by omega⟩
    obtain ⟨yb, Sb, qb1, yb', Rb, qb2, _, qb4⟩ := l_bat (e := e) (N := N) hN htop hc (k + 1) i (nf + 1) (nr + 1) S R x2 ta L E V wa oa g1 g2 g3 hB hF g4 g5 g6 g7
    refine ok_of qb1 (ok_of qb2 ⟨qb4, fun w1 w2 => ?_⟩)
    obtain ⟨f1, f2, f3, f4⟩ := hF
    obtain ⟨j1, j2, j3⟩ := f4 i (by omega)
    have n3 : S.1 3 0 = (n : Nat) := hB.1.2.2.2.2.2.1
    obtain ⟨r, hr⟩ : ∃ r : Nat, S.1 108 i = (r : Int) := ⟨(S.1 108 i).toNat, by omega⟩
    obtain ⟨y, S1, n', R1, c1, c2, c3, c4⟩ := x_chg (e := e) (N := N) (nf := nr + 1) (r := r) (i := i) (x2 := x2) hN htop hB (by omega) (by omega) (by omega) (by rw [j1, hr]) (by rw [f1]; omega) (by omega) g6 (by omega) (by omega)
    -- the same record, with the state of the batch that is done again
    generalize hZg : w_put (w_put (w_put Z 160 i (r : Int)) 129 51 ((i : Int) + 1)) 129 159 0 = Zg
    have cZ : ∀ a, a ≠ 160 → a ≠ 129 → Zg.1 a = Z.1 a := fun a a1 a2 => by rw [← hZg, w_put_f a2, w_put_f a2, w_put_f a1]
    have oZ : ∀ u, u ≠ 51 → u ≠ 159 → Zg.1 129 u = Z.1 129 u := fun u hu hu2 => by
      rw [← hZg, w_put_r, if_pos rfl, pt_at, if_neg hu2, w_put_r, if_pos rfl, pt_at, if_neg hu, w_put_f (by decide)]
    have z159 : Zg.1 129 159 = 0 := by rw [← hZg, w_put_r, if_pos rfl, pt_at, if_pos rfl]
    have eZ : Zg.2 = Z.2 := by rw [← hZg]; rfl
    have hBg : BtR S Zg ss top tb Lb Eb V n wb ob := (hZ.cg (fun _ _ => rfl) (fun a ha => cZ a (by omega) (by omega)) (fun u hu => oZ u (by omega) (by omega)) eZ).r (by omega) (by omega)
    obtain ⟨yg, Sg, ng, Rg, d1, d2, d3, d4⟩ := x_chg (e := e) (N := N) (nf := nr + 1) (r := r) (i := i) (x2 := x2) hN htop hBg (by omega) (by omega) (by omega) (by rw [← hZg, w_put_f (by decide), w_put_f (by decide), w_put_r, if_pos rfl, pt_at, if_pos rfl]) (by rw [← hZg, w_put_r, if_pos rfl, pt_at, if_neg (by decide), w_put_r, if_pos rfl, pt_at, if_pos rfl]; omega) (by rw [eZ]; omega) g6 (by omega) (by omega)
    rw [c1] at d1
    obtain ⟨rfl, rfl⟩ := Prod.mk.inj (Option.some.inj d1)
    obtain ⟨y0, p196, ⟨ta', L', E', V', wa', oa', hB1, hV, nxv⟩, fS, fR, nx, p1, p2, p3⟩ := c4
    obtain ⟨_, _, ⟨tg, Lg, Eg, Vg, wg, og, hBz, hVg, _⟩, _, _, _, pg1, pg2, pg3⟩ := d4
    have s106 : S1.1 106 = S.1 106 := fS.2.1 106 rfl rfl
    have s108 : S1.1 108 = S.1 108 := fS.2.1 108 rfl rfl
    generalize hS2 : w_put S1 111 i y = S2
    have c2' : ∀ a, a ≠ 111 → S2.1 a = S1.1 a := fun a ha => by rw [← hS2]; exact w_put_f ha
    have i111 : S2.1 111 i = y := by rw [← hS2, w_put_r, if_pos rfl, pt_at, if_pos rfl]
    have hB2 : BtR S2 R1 ss top ta' L' E' V' n wa' oa' := hB1.cg (fun a ha => c2' a (by omega)) (fun _ _ => rfl) (fun _ _ => rfl) rfl
    have s30 : S1.1 3 0 = S.1 3 0 := fS.2.2 3 0 rfl rfl
    have hF2 : RelFn S2 R1 := by
      refine ⟨?_, ?_, ?_, fun q hq => ?_⟩
      · rw [c2' 106 (by decide), s106, fR.2.1 51 (by decide) (by decide) (by decide) (by decide)]
        exact f1
      · rw [c2' 106 (by decide), s106]
        exact f2
      · rw [c2' 106 (by decide), s106]
        exact f3
      · rw [c2' 106 (by decide), s106] at hq
        rw [c2' 108 (by decide), s108, c2' 3 (by decide), s30, fR.1 160 (by decide) (by decide) (by decide) (by decide) (by decide) (by decide) (by decide)]
        exact f4 q hq
    have i1e : ((i + 1 : Nat) : Int) = (i : Int) + 1 := by omega
    have vgz : ∀ v D, VrD S Zg (S.1 2) top tb Eb v D → VrD S Z (S.1 2) top tb Eb v D := fun v D hh => by
      have ht := hZ.1.2.1
      have h129 := hZ.1.1.2.1
      unfold VrD at hh ⊢
      rw [cZ 138 (by decide) (by decide), cZ 139 (by decide) (by decide), cZ tb (by omega) h129] at hh
      exact hh
    have clA : ∀ (z : Int) (S3 : w_S), El_C_runBatch e N nf 0 [x2 + (if y = 1 then 1 else 0), (i : Int) + 1] [] S2 = some (z, S3) → El_C_runBatch e N (nf + 1) 0 [x2, (i : Int)] [] S = some (z, S3) := fun z S3 hz => by
      refine ok_eq ?_
      rw [El_C_runBatch, g4, show ((i : Int)).toNat = i by omega, hr]
      refine ok_e (by omega) (ok_ib (by omega) (ok_b (ok_of c1 ?_)))
      dsimp only
      rw [hS2, i111]
      by_cases e1 : y = 1
      · rw [if_pos e1] at hz
        exact ok_e (fun z => z e1) (ok_nb (by omega) (ok_nb (by omega) (ok_of hz ⟨rfl, rfl⟩)))
      · rw [if_neg e1] at hz
        exact ok_t e1 (ok_nb (by omega) (ok_nb (by omega) (ok_of hz ⟨rfl, rfl⟩)))
    have i1b : ∀ q : Int, El_C_runBatch e N nf 0 [q, ((i + 1 : Nat) : Int)] [] S2 = El_C_runBatch e N nf 0 [q, (i : Int) + 1] [] S2 := fun q => by rw [i1e]
    obtain ⟨z, S3, b1, z', R3, b2, bz, b4⟩ := l_bat (e := e) (N := N) hN htop hc k (i + 1) nf n' S2 R1 (x2 + (if y = 1 then 1 else 0)) ta' L' E' V' wa' oa' (by omega) (by omega) (by omega) hB2 hF2 (by rw [c2' 106 (by decide), s106]; exact g4) (by omega) (by split <;> omega) (by split <;> omega)
    rw [i1e] at b1 b2
    have cz := clA z S3 b1
    rw [qb1] at cz
    obtain ⟨rfl, rfl⟩ := Prod.mk.inj (Option.some.inj cz)
    have rz : El_R_doBatch e N (nr + 1) 0 [x2, (i : Int)] [] R = some (z', R3) := ok_eq (c3 _ (ok_of b2 ⟨rfl, rfl⟩))
    rw [qb2] at rz
    obtain ⟨rfl, rfl⟩ := Prod.mk.inj (Option.some.inj rz)
    have zlo := b4.1
    have b46 := b4.2.2.2.2.2.2.1
    have v17 : R1.1 129 17 = (V' : Int) := hB1.1.2.2.2.1
    have ihg := fun (nz' jz' : Nat) (Z1 : w_S) (t1 t2 t3 t4 t5 : Nat) (h1 : 30 * k < nz') (h2 : BtQ S2 Z1 ss top t1 t2 t3 V' n t4 t5) (h3 : Z1.2.2.2.1 + k < 899000) => ihk (i + 1) nf n' nz' jz' S2 R1 Z1 (x2 + (if y = 1 then 1 else 0)) ta' L' E' V' wa' oa' t1 t2 t3 t4 t5 (by omega) (by omega) (by omega) h1 hB2 hF2 h2 (by rw [c2' 106 (by decide), s106]; exact g4) (by omega) h3 (by split <;> omega) (by split <;> omega)
    rw [i1e] at ihg
    by_cases e1 : y = 1
    · -- a version more
      rw [if_pos e1] at hV hVg zlo b1 b2 b4 ihg
      obtain ⟨p136, hA⟩ := pg3 e1
      have h237 : Z.1 237 jz = (r : Int) := by
        have := w2 V (Nat.le_refl V) (by omega)
        rw [Nat.sub_self, Nat.add_zero] at this
        rw [← this, (b46.2.2.2.2.2.2.2.1 V (by omega)).1]
        exact (p3 e1).1
      have hV4 : V' ≤ 400 := hB1.1.2.2.2.2.1
      obtain ⟨nz2, Z1, s1, s2, ⟨t1, t2, t3, t4, t5, hBZ⟩, s4, s5, s6, s7, s8, s9⟩ := x_rpt (e := e) (N := N) (nz := nz + 1) (r := r) (jz := jz) (xf := xf) (xm := xm) hN hZ (by omega) (by omega) (by omega) (by omega) h237 (by omega) (by omega) hx0 (by omega) (by omega) hA vgz
      have hBZ2 : BtQ S2 Z1 ss top t1 t2 t3 V' n t4 t5 := by
        rw [hV]
        exact hBZ.cg (fun a ha => c2' a (by omega)) (fun _ _ => rfl) (fun _ _ => rfl) rfl
      obtain ⟨z2, S4, i1, z3, R4, i2, _, i4⟩ := ihg nz2 (jz + 1) Z1 t1 t2 t3 t4 t5 (by omega) hBZ2 (by omega)
      rw [b1] at i1
      obtain ⟨rfl, rfl⟩ := Prod.mk.inj (Option.some.inj i1)
      rw [b2] at i2
      obtain ⟨rfl, rfl⟩ := Prod.mk.inj (Option.some.inj i2)
      have fin := i4 (by omega) (fun v v1 v2 => by
        rw [w2 v (by omega) (by omega), s8, show jz + 1 + (v - V') = jz + (v - V) by omega])
      rw [show ((jz + 1 : Nat) : Int) = (jz : Int) + 1 by omega] at fin
      refine s2 _ (fin.mono (fun _ Z3 q => ?_))
      obtain ⟨⟨u1, u2, u3, u4, u5, u6, q1, q2, q3⟩, q4, q5, q6, q7⟩ := q
      refine ⟨⟨u1, u2, u3, u4, u5, u6, q1, by omega, by omega⟩, s4.trans q4, q5.trans s8, q6.trans s9, fun u hu => q7 u ?_⟩
      rw [c2' 6 (by decide), s6, s7, pt_at, pt_at]
      split
      · rfl
      · exact hu
    · rw [if_neg e1] at hV hVg zlo b1 b2 b4 ihg
      obtain ⟨_, _, _, _, ca⟩ := p2 e1
      have hBZ2 : BtQ S2 Z ss top tb Lb Eb V' n wb ob := by
        rw [hV, Nat.add_zero]
        exact hZ.cg (fun a ha => by rw [c2' a (by omega), ca a (by omega)]) (fun _ _ => rfl) (fun _ _ => rfl) rfl
      obtain ⟨z2, S4, i1, z3, R4, i2, _, i4⟩ := ihg (nz + 1) jz Z tb Lb Eb wb ob (by omega) hBZ2 (by omega)
      rw [b1] at i1
      obtain ⟨rfl, rfl⟩ := Prod.mk.inj (Option.some.inj i1)
      rw [b2] at i2
      obtain ⟨rfl, rfl⟩ := Prod.mk.inj (Option.some.inj i2)
      have fin := i4 (by omega) (fun v v1 v2 => by
        rw [w2 v (by omega) (by omega), show v - V' = v - V by omega])
      refine fin.mono (fun _ Z3 q => ?_)
      obtain ⟨⟨u1, u2, u3, u4, u5, u6, q1, q2, q3⟩, q4, q5, q6, q7⟩ := q
      refine ⟨⟨u1, u2, u3, u4, u5, u6, q1, by omega, by omega⟩, q4, q5, q6, fun u hu => q7 u ?_⟩
      rw [c2' 6 (by decide), ca 6 (by omega)]
      exact hu
end
section
-- he
theorem t_rep {e : w_E} {N : Nat} {S R Z : w_S} {f len top : Int} {G : Int → Int} {ta L E V n : Nat} (hN : 16000000 ≤ N) (h : TX S f len G) (hr : TR R len G) (h4 : S.1 1 4 = f) (h6 : S.1 1 6 = -1) (hb : ∀ p : Nat, (p : Int) < len → -128 ≤ R.1 130 p ∧ R.1 130 p ≤ 127) (hC : RelCk S R) (hst : S.1 27 2 = 0 ∨ S.1 27 2 = 1) (h96 : R.1 129 96 = S.1 27 2) (h12 : R.1 129 12 = S.1 27 1) (hd0 : 0 ≤ S.1 27 1) (hs : ∀ j, -128 ≤ S.1 2 j ∧ S.1 2 j ≤ 127) (hw : RelWk R) (hv : RelVr S R top ta L E V n) (hk : RelLk S R) (hn : RelNm S R top) (hAb : RelAb S R) (hG : RelG S R) (ht : top ≤ f + len) (b0 : 0 ≤ R.1 129 159) (b1 : R.1 129 159 ≤ (V : Int)) (hnx : R.2.2.2.1 + 150 < 899000) (hZ1 : ∀ a, a ≠ 129 → Z.1 a = R.1 a) (hZ2 : ∀ u, u ≠ 159 → Z.1 129 u = R.1 129 u) (hZ3 : Z.2 = R.2) : Ok (E_C_runBatch e N S) (fun y S1 => Ok (E_R_doBatch e N R) (fun y' R1 => 0 ≤ y → frm BDa [1, 3, 35, 37, 94, 106, 120] BDj S S1 ∧ ∃ yb R2, E_R_batchText e N Z = some (yb, R2) ∧ frm [152, 153, 154, 155, 156, 157, 158, 193] [129] [(129, 3), (129, 40), (129, 46), (129, 48), (129, 97)] Z R2 ∧ ∀ fr : Nat, (fr : Int) + y ≤ 400 → (∀ v : Nat, V ≤ v → (v : Int) < V + y → R1.1 136 v = R.1 237 (fr + (v - V))) → Ok (El_R_repeats e N N 0 [(fr : Int), y, (fr : Int)] [] R2) (fun _ Z1 => (∃ ta' L' E' V', RelVr S1 Z1 (f + len) ta' L' E' V' n ∧ (V' : Int) = V + y ∧ Z1.2.2.2.1 + V ≤ R.2.2.2.1 + V') ∧ frb R2 Z1 ∧ RelWk Z1 ∧ Z1.1 237 = Z.1 237 ∧ Z1.1 129 159 = Z.1 129 159 ∧ ∀ u : Nat, R.1 135 u = S.1 6 u → Z1.1 135 u = S1.1 6 u))) := by
  have f0 := h.2.2.1
  have l0 := h.2.2.2.1
  have lb := h.2.2.2.2.1
  have fl := h.2.2.2.2.2.1
  have n150 := hv.2.2.2.2.2.2.2.1
  unfold E_C_runBatch E_R_doBatch E_R_batchText
  have e0 : S = tp S f (-1) := by
    have k := tp_self S
    rw [h4, h6] at k
    exact k.symm
  have hq := x_ques (e := e) (N := N) (en := 10) (by omega) (Or.inr rfl) h hr
  rw [← e0] at hq
  obtain ⟨v1, S1, hv1, y', R1, hy, T', a', w', q', z1, z2, z3, z4, z5, z6⟩ := hq
  have hrz : TR Z len G := hr.cg (hZ2 2 (by decide)) (hZ1 130 (by decide))
  have hqz := x_ques (e := e) (N := N) (en := 10) (by omega) (Or.inr rfl) h hrz
  rw [← e0] at hqz
  obtain ⟨v1z, S1z, hv1z, yz', R1z, hyz, Tz, az, wz, qz, g1, g2, g3, g4, g5, g6⟩ := hqz
  rw [hv1] at hv1z
  obtain ⟨rfl, rfl⟩ := Prod.mk.inj (Option.some.inj hv1z)
  have hqq : qz = q' := by
    have k1 : S1.1 1 6 = w' := by rw [z1]; rfl
    have k2 : S1.1 1 6 = wz := by rw [g1]; rfl
    have k3 : S1.1 1 4 = a' := by rw [z1]; rfl
    have k4 : S1.1 1 4 = az := by rw [g1]; rfl
    unfold At at z2 g2
    omega
  have yzz : y' = yz' := by rw [g5, z5, hqq]
  subst yzz
  clear g1 g2 g3 g5 g6
  have jm : Jm f len G S := ⟨S, f, -1, 0, e0, h, ⟨by omega, by omega, Or.inl ⟨rfl, by omega⟩⟩, by unfold Bd; omega⟩
  have wl : w' ≤ len := by
    obtain ⟨T2, a2, w2, q2, j1, j2, j3, j4⟩ := pj_q (e := e) (N := N) (by omega) jm v1 S1 hv1
    have k1 : S1.1 1 6 = w' := by rw [z1]; rfl
    have k2 : S1.1 1 6 = w2 := by rw [j1]; rfl
    unfold At at j3
    unfold Bd at j4
    omega
  have bq : Bd len q' := by
    unfold At at z2
    unfold Bd
    omega
  refine ok_b (ok_of hv1 ?_)
  dsimp only
  rw [z1]
  have X' : TX T' f len G := h.cg (z3.2.1 1 rfl rfl) (z3.2.1 2 rfl rfl)
  have Y' : TR R1 len G := hr.cg (z4.2.2 129 2 rfl rfl) (z4.2.1 130 rfl rfl)
  refine ok_b ((x_takeByte (e := e) (N := N) (b := 10) X' z2 (by decide)).mono ?_)
  intro _ S2 ⟨a, w, u1, u2, _⟩
  dsimp only
  rw [u1]
  have bp : Bd len (pB G 10 q') := pB_bd h.e (by decide) bq
  refine ok_b ((x_steps (e := e) (N := N) (by omega) X' u2 bp).mono ?_)
  intro y S3 fl3
  dsimp only
  obtain ⟨T3, a3, w3, t1, t2⟩ := fl3
  -- what the reference reads
  have yq : (0 ≤ y' → pB G 10 q' = y' + 1 ∧ y' + 1 ≤ len) ∧ (y' < 0 → pB G 10 q' = y') := by
    rw [z5]
    unfold Bd at bq
    by_cases c : q' < 0
    · have : pB G 10 q' = q' := pB_neg c
      rw [this, if_neg (by omega)]
      exact ⟨fun z => by omega, fun _ => rfl⟩
    · by_cases c2 : G q' = 10
      · have e1 : pB G 10 q' = q' + 1 := by
          unfold pB
          rw [if_neg c, if_pos c2]
        rw [e1, if_neg (fun z => z.2 c2)]
        refine ⟨fun _ => ⟨rfl, ?_⟩, fun z => by omega⟩
        rcases Int.lt_or_le q' len with d | d
        · omega
        · have := h.e q' d
          omega
      · have e1 : pB G 10 q' = -1 - q' := by
          unfold pB
          rw [if_neg c, if_neg c2]
        rw [e1, if_pos ⟨by omega, c2⟩]
        exact ⟨fun z => by omega, fun _ => rfl⟩
  generalize hp : pB G 10 q' = p at *
  have hbtg : ∀ (R R1 : w_S), E_R_question e N 10 R = some (y', R1) → TR R1 len G → frm QRa [129] QRj R R1 → ∃ (yb : Int) (R2 : w_S), (E_R_question e N 10 R).bind (fun q942 => (if 0 ≤ q942.1 then (if w_nb (q942.1 + 1) = true then El_R_batchText e N N 0 [q942.1 + 1] [] (w_put q942.2 129 97 0) else none) else some (q942.1, q942.2))) = some (yb, R2) ∧ frm BRa [129] BRj R R2 ∧ frm [193] [129] [(129, 3), (129, 97)] R1 R2 ∧ ((if p < 0 then p else rdl (stq G) len 8 0 p) < 0 → yb = (if p < 0 then p else rdl (stq G) len 8 0 p)) ∧ (0 ≤ (if p < 0 then p else rdl (stq G) len 8 0 p) → 0 ≤ yb ∧ 0 ≤ p ∧ 0 ≤ y' ∧ R2.1 129 97 = rdl (stq G) len 8 0 p ∧ ∀ j : Nat, (j : Int) < rdl (stq G) len 8 0 p → BrC (R2.1 193) G j (qf (stq G) p j)) := by
    intro R R1 hy Y' z4
    rw [hy]
    by_cases c : 0 ≤ y'
    · obtain ⟨q1, q2⟩ := yq.1 c
      have f97 : frm [193] [129] [(129, 3), (129, 97)] R1 (w_put R1 129 97 0) := by repeat (first | exact frm.refl _ _ _ _ | refine frm.put ?_ rfl | refine frm.puto ?_ rfl rfl)
      have lb2 := l_btx (e := e) (N := N) (len := len) (q0 := p) (G := G) (by omega) 8 0 N (w_put R1 129 97 0) p (by omega) (by omega) (Y'.cg rfl rfl) (by omega) (by omega) (by simp only [w_put_r, reduceIte, Nat.reduceEqDiff, pt_at]; rfl) rfl (fun j hj => by omega)
      obtain ⟨yb, R2, hb2, g1, g2, g3⟩ := lb2
      have fr2 := f97.trans g1
      refine ⟨yb, R2, ?_, (z4.weak (by decide)).trans (fr2.weak (by decide)), fr2, ?_, ?_⟩
      · show (if 0 ≤ y' then (if w_nb (y' + 1) = true then El_R_batchText e N N 0 [y' + 1] [] (w_put R1 129 97 0) else none) else some (y', R1)) = _
        rw [if_pos c, if_pos (by rw [w_nbE]; omega), ← q1]
        exact hb2
      · rw [if_neg (by omega)]
        exact g2
      · rw [if_neg (by omega)]
        intro z
        exact ⟨(g3 z).1, by omega, c, (g3 z).2⟩
    · have q1 := yq.2 (by omega)
      refine ⟨y', R1, ?_, z4.weak (by decide), frm.refl _ _ _ _, ?_, ?_⟩
      · show (if 0 ≤ y' then (if w_nb (y' + 1) = true then El_R_batchText e N N 0 [y' + 1] [] (w_put R1 129 97 0) else none) else some (y', R1)) = _
        rw [if_neg c]
      · rw [if_pos (by omega)]
        intro _
        omega
      · rw [if_pos (by omega)]
        intro z
        omega
  have hbt := hbtg R R1 hy Y' z4
  have hbtz := hbtg Z R1z hyz (hrz.cg (g4.2.2 129 2 rfl rfl) (g4.2.1 130 rfl rfl)) g4
  clear hbtg
  obtain ⟨ybz, R2z, hbt1z, _, fR12z, _, hposz⟩ := hbtz
  obtain ⟨yb, R2, hbt1, fR2, fR12, hneg, hpos⟩ := hbt
  have db : -1 - len ≤ (if p < 0 then p else rdl (stq G) len 8 0 p) := by
    unfold Bd at bp
    split
    · omega
    · rename_i c
      exact rdl_bd l0 (fun q hq => stq_bd h.e hq) 8 0 p (by omega) (by omega)
  have fT3 : frm BCa [1, 37, 94] BCj S (tp T3 a3 w3) := ((z3.weak (by decide)).trans (t1.weak (by decide))).trans (frm.weak (L := []) (O := [1]) (J := [(1, 4), (1, 6)]) (by unfold tp; repeat (first | exact frm.refl _ _ _ _ | refine frm.put ?_ rfl | refine frm.puto ?_ rfl rfl)) (by decide))
  by_cases cd : 0 ≤ (if p < 0 then p else rdl (stq G) len 8 0 p)
  rotate_left
  · -- a wrong text
    rw [if_neg cd] at t2
    obtain ⟨y1, s1⟩ := t2
    refine ok_e (by omega) (ok_s ?_)
    refine ok_b (ok_of hbt1 ?_)
    have ye := hneg (by omega)
    exact ok_e (by dsimp only; omega) (ok_nb (by dsimp only; omega) (ok_s (fun z => by omega)))
  obtain ⟨_, _, _, r97z, brcz⟩ := hposz cd
  obtain ⟨yb0, p0, y0, r97, brc⟩ := hpos cd
  rw [if_neg (show ¬ p < 0 by omega)] at cd t2 db hneg
  rw [if_pos cd] at t2
  obtain ⟨t3, t4, t5, t6, t7, t8⟩ := t2
  have pl : p ≤ len := by
    unfold Bd at bp
    omega
  generalize hd : rdl (stq G) len 8 0 p = d at *
  obtain ⟨dn, hdn⟩ : ∃ k : Nat, d = (k : Int) := ⟨d.toNat, by omega⟩
  have qin : ∀ j : Nat, j < dn → 0 ≤ qf (stq G) p j ∧ qf (stq G) p j ≤ len ∧ 0 ≤ stq G (qf (stq G) p j) := fun j hj => rdl_in (fun q a b => by have := stq_bd h.e (show Bd len q from ⟨by omega, b⟩); unfold Bd at this; omega) 8 0 p p0 pl rfl (by rw [hd]; exact cd) j (by omega) (by rw [hd]; omega)
  -- the steps
  have ssl : ((List.range dn).map (fun j => bsp G (qf (stq G) p j))).length = dn := by rw [List.length_map, List.length_range]
  have ssv : ∀ s, s ∈ (List.range dn).map (fun j => bsp G (qf (stq G) p j)) → vbs s := fun s hs' => by
    obtain ⟨j, j1, j2⟩ := List.mem_map.1 hs'
    rw [← j2]
    have := qin j (List.mem_range.1 j1)
    exact bsp_v this.1 this.2.2
  have ssg : ∀ j, j < dn → ((List.range dn).map (fun j => bsp G (qf (stq G) p j))).getD j bs0 = bsp G (qf (stq G) p j) := fun j hj => mp_get hj
  generalize (List.range dn).map (fun j => bsp G (qf (stq G) p j)) = ss at ssl ssv ssg
  have T3S : frm [36, 38, 39, 40, 42, 43, 44, 95, 96, 97, 98, 99, 100, 101, 102] [37, 94] [(37, 0), (94, 3), (94, 5), (94, 6), (94, 12)] S T3 := (z3.weak (by decide)).trans (t1.weak (by decide))
  have t6' := t6
  rw [w_cpy_arr] at t6'
  have fS3 : frm BPa [1, 35, 37, 94, 106, 120] BPj S S3 := by
    refine (T3S.weak (by decide)).trans ?_
    rw [t6']
    unfold tp
    repeat (first | exact frm.refl _ _ _ _ | refine frm.put ?_ rfl | refine frm.puto ?_ rfl rfl | refine frm.arr ?_ rfl)
  have c34 : ∀ j, j < 4 * dn → S3.1 34 j = T3.1 36 j := fun j hj => by
    rw [t6']
    show (if 0 ≤ j ∧ j < 0 + 4 * d.toNat then T3.1 36 (0 + (j - 0)) else T3.1 34 j) = _
    rw [if_pos (by omega), show 0 + (j - 0) = j by omega]
  have c3x : ∀ a, a ≠ 1 → a ≠ 34 → a ≠ 35 → S3.1 a = T3.1 a := fun a n1 n2 n3 => by
    rw [t6', w_put_f n3, w_arr_r, if_neg n2, tpo T3 a3 (-1) n1]
  have fR2' : frm [152, 153, 154, 155, 156, 157, 158, 193] [129] [(129, 3), (129, 40), (129, 46), (129, 48), (129, 97)] R R2 := (z4.weak (by decide)).trans (fR12.weak (by decide))
  have TX3 : TX S3 f len G := by
    have x1 : TX T3 f len G := X'.cg (t1.2.1 1 rfl rfl) (t1.2.1 2 rfl rfl)
    rw [t6']
    exact ((x1.tp).arr (by decide) (by decide)).put (by decide) (by decide)
  have TR2 : TR R2 len G := hr.cg (fR2'.2.2 129 2 rfl rfl) (fR2'.2.1 130 rfl rfl)
  have hQ : Qry S3 R2 f len G := by
    refine ⟨(z6 y0).cg (fun c c1 c2 => ?_) ?_ (fun c c1 c2 => ?_) ⟨fR12.2.2 129 46 rfl rfl, fR12.2.2 129 48 rfl rfl, fR12.2.2 129 40 rfl rfl⟩, TX3, TR2, fun q hq => by rw [fR2'.2.1 130 rfl rfl]; exact hb q hq⟩
    · rw [c3x c (by omega) (by omega) (by omega), t1.2.1 c (by
        simp only [List.contains_cons, List.contains_nil, Bool.or_false, Bool.or_eq_false_iff, beq_eq_false_iff_ne, ne_eq]
        omega) (by
        simp only [List.contains_cons, List.contains_nil, Bool.or_false, beq_eq_false_iff_ne, ne_eq]
        omega)]
    · rw [c3x 94 (by decide) (by decide) (by decide), t1.2.1 94 rfl rfl]
    · rw [fR12.2.1 c (by
        simp only [List.contains_cons, List.contains_nil, Bool.or_false, beq_eq_false_iff_ne, ne_eq]
        omega) (by
        simp only [List.contains_cons, List.contains_nil, Bool.or_false, beq_eq_false_iff_ne, ne_eq]
        omega)]
  have ca3 : ∀ c, 2 ≤ c ∧ c ≤ 33 → S3.1 c = S.1 c := fun c hc => fS3.2.1 c (by
    simp only [List.contains_cons, List.contains_nil, Bool.or_false, Bool.or_eq_false_iff, beq_eq_false_iff_ne, ne_eq]
    omega) (by
    simp only [List.contains_cons, List.contains_nil, Bool.or_false, Bool.or_eq_false_iff, beq_eq_false_iff_ne, ne_eq]
    omega)
  have ra2 : ∀ c, ((133 ≤ c ∧ c ≤ 151) ∨ (163 ≤ c ∧ c ≤ 192) ∨ 194 ≤ c) → R2.1 c = R.1 c := fun c hc => fR2'.2.1 c (by
    simp only [List.contains_cons, List.contains_nil, Bool.or_false, Bool.or_eq_false_iff, beq_eq_false_iff_ne, ne_eq]
    omega) (by
    simp only [List.contains_cons, List.contains_nil, Bool.or_false, beq_eq_false_iff_ne, ne_eq]
    omega)
  have hS : SrR S3 R2 f len G top ta L E V n := by
    refine ⟨hQ, hv.fr (fun a ha => ca3 a (by omega)) (by rw [ca3 3 (by omega)]) (by rw [ca3 3 (by omega)]) (by rw [ca3 27 (by omega)]; exact Int.le_refl _) (fun a ha => ra2 a (by omega)) (fR2'.2.2 129 13 rfl rfl) (fR2'.2.2 129 17 rfl rfl) (fR2'.2.2 129 23 rfl rfl) fR2'.1, hk.fr fS3 fR2' (by decide), hn.fr fS3 fR2' (by decide), hAb.fr fS3 fR2' (by decide), hG.fr fS3 fR2' (by decide), ?_⟩
    rw [fR2'.2.2 129 12 rfl rfl, ca3 27 (by omega)]
    exact h12
  refine ok_t (by omega) (ok_b ?_)
  refine (x_search (e := e) hN (by omega) hS).mono ?_
  intro _ S4 ⟨y4, R4, hy4, L', m1, m2, m3, m4, m5, m6, m7⟩
  dsimp only
  have fS4 : frm BPa [1, 35, 37, 94, 106, 120] BPj S S4 := fS3.trans (m6.weak (by decide))
  generalize hR5 : w_put R4 129 102 1 = R5
  have fR5 : frm BEa [129] BEj R R5 := ((fR2'.weak (by decide)).trans (m7.weak (by decide))).trans (by rw [← hR5]; repeat (first | exact frm.refl _ _ _ _ | refine frm.put ?_ rfl | refine frm.puto ?_ rfl rfl))
  have ca4 : ∀ c, 2 ≤ c ∧ c ≤ 33 → S4.1 c = S.1 c := fun c hc => fS4.2.1 c (by
    simp only [List.contains_cons, List.contains_nil, Bool.or_false, Bool.or_eq_false_iff, beq_eq_false_iff_ne, ne_eq]
    omega) (by
    simp only [List.contains_cons, List.contains_nil, Bool.or_false, Bool.or_eq_false_iff, beq_eq_false_iff_ne, ne_eq]
    omega)
  have ra5 : ∀ c, ((130 ≤ c ∧ c ≤ 149) ∨ (163 ≤ c ∧ c ≤ 192) ∨ 194 ≤ c) → R5.1 c = R.1 c := fun c hc => fR5.2.1 c (by
    simp only [List.contains_cons, List.contains_nil, Bool.or_false, Bool.or_eq_false_iff, beq_eq_false_iff_ne, ne_eq]
    omega) (by
    simp only [List.contains_cons, List.contains_nil, Bool.or_false, beq_eq_false_iff_ne, ne_eq]
    omega)
  have r193 : R5.1 193 = R2.1 193 := by
    rw [← hR5]
    show R4.1 193 = _
    rw [m7.2.1 193 rfl rfl]
  have s34 : S4.1 34 = S3.1 34 := m6.2.1 34 rfl rfl
  have c44 : ∀ a, 37 ≤ a → a ≤ 44 → S4.1 a = T3.1 a := fun a a1 a2 => by
    rw [m6.2.1 a (by
      simp only [List.contains_cons, List.contains_nil, Bool.or_false, Bool.or_eq_false_iff, beq_eq_false_iff_ne, ne_eq]
      omega) (by
      simp only [List.contains_cons, List.contains_nil, Bool.or_false, Bool.or_eq_false_iff, beq_eq_false_iff_ne, ne_eq]
      omega), c3x a (by omega) (by omega) (by omega)]
  have hF4 : RelFn S4 R5 := by
    have hh : RelFn S4 R4 := m2.rel (by omega) (fun u hu => by
      rw [ca4 3 (by omega), hv.2.2.2.2.2.1]
      have := m3.2 u hu
      omega)
    exact hh.cg rfl rfl rfl (by rw [← hR5]; rfl) (by rw [← hR5]; rfl)
  obtain ⟨wa, oa, hwk⟩ := hw.wrk
  have hB : BtR S4 R5 ss (f + len) ta L E V n wa oa := by
    refine ⟨(hv.up ht).fr (fun a ha => ca4 a (by omega)) (by rw [ca4 3 (by omega)]) (by rw [ca4 3 (by omega)]) (by rw [ca4 27 (by omega)]; exact Int.le_refl _) (fun a ha => ra5 a (by omega)) (fR5.2.2 129 13 rfl rfl) (fR5.2.2 129 17 rfl rfl) (fR5.2.2 129 23 rfl rfl) fR5.1, hC.fr fS4 fR5 (by decide), by rw [ca4 27 (by omega)]; exact hst, by rw [fR5.2.2 129 96 rfl rfl, ca4 27 (by omega)]; exact h96, by rw [fR5.2.2 129 12 rfl rfl, ca4 27 (by omega)]; exact h12, by rw [ca4 27 (by omega)]; exact hd0, by rw [ca4 2 (by omega)]; exact hs, hwk.cg fR5.1, ?_, ?_, by omega, by rw [c44 37 (by omega) (by omega)]; exact t7, ssv, fun j hj => ?_, fun j hj => ?_, by rw [fR5.2.2 129 159 rfl rfl]; exact b0, by rw [fR5.2.2 129 159 rfl rfl]; exact b1⟩
    · rw [m6.2.1 35 rfl rfl, t6', ssl, w_put_r, if_pos rfl, pt_at, if_pos rfl]
      exact hdn
    · rw [← hR5]
      show R4.1 129 97 = _
      rw [m7.2.2 129 97 rfl rfl, r97, ssl]
      exact hdn
    · rw [ssl] at hj
      rw [ssg j hj, ca4 2 (by omega), s34]
      have k := t8 j (by omega)
      rw [z3.2.1 2 rfl rfl] at k
      exact k.cg2 (fun u hu => c34 u (by omega)) c44
    · rw [ssl] at hj
      rw [ssg j hj, r193, ra5 130 (by omega)]
      have q := qin j hj
      exact BrC.st hr hb (brc j (by omega)) q.1 q.2.1 q.2.2
  have s4c : S4.1 106 4 = ((L'.length : Nat) : Int) := m2.1
  have fRz : frm [152, 153, 154, 155, 156, 157, 158, 193] [129] [(129, 3), (129, 40), (129, 46), (129, 48), (129, 97)] Z R2z := (g4.weak (by decide)).trans (fR12z.weak (by decide))
  have hB2 : BtQ S4 R2z ss (f + len) ta L E V n wa oa := by
    have cz : ∀ a, a ≠ 129 → a ≠ 193 → (a < 152 ∨ 158 < a) → R2z.1 a = R.1 a := fun a a1 a2 a3 => by
      rw [fRz.2.1 a (by
        simp only [List.contains_cons, List.contains_nil, Bool.or_false, Bool.or_eq_false_iff, beq_eq_false_iff_ne, ne_eq]
        omega) (by
        simp only [List.contains_cons, List.contains_nil, Bool.or_false, beq_eq_false_iff_ne, ne_eq]
        omega), hZ1 a a1]
    have c9 : ∀ u, (u = 12 ∨ u = 13 ∨ u = 17 ∨ u = 23 ∨ u = 93 ∨ u = 96) → R2z.1 129 u = R5.1 129 u := fun u hu => by
      rcases hu with rfl | rfl | rfl | rfl | rfl | rfl
      all_goals rw [fRz.2.2 129 _ rfl rfl, hZ2 _ (by decide), fR5.2.2 129 _ rfl rfl]
    have e5 : R2z.2 = R5.2 := by rw [fRz.1, hZ3, fR5.1]
    obtain ⟨b1', b2', b3', b4', b5', b6', b7', b8', b9', b10', b11', b12', b13', b14', b15', b16', b17'⟩ := hB
    refine ⟨b1'.sw (fun _ _ => rfl) rfl rfl (fun a ha => by rw [cz a (by omega) (by omega) (by omega), ra5 a (by omega)]) (fun u hu => c9 u (by omega)) (by rw [e5]) (by rw [e5]), ?_, b3', by rw [c9 96 (by omega)]; exact b4', by rw [c9 12 (by omega)]; exact b5', b6', b7', b8'.cg e5, b9', ?_, b11', b12', b13', b14', fun q hq => ?_⟩
    · unfold RelCk at b2' ⊢
      rw [c9 93 (by omega), cz 191 (by decide) (by decide) (by omega), ← ra5 191 (by omega)]
      exact b2'
    · rw [r97z, ssl]
      exact hdn
    · rw [ssl] at hq
      rw [ssg q hq, cz 130 (by decide) (by decide) (by omega)]
      have k := qin q hq
      have := BrC.st hrz (fun p hp => by rw [hZ1 130 (by decide)]; exact hb p hp) (brcz q (by omega)) k.1 k.2.1 k.2.2
      rw [hZ1 130 (by decide)] at this
      exact this
  have lp0 := l_bat (e := e) (N := N) (ss := ss) (top := f + len) (n := n) (c := L'.length) hN fl (by omega) L'.length 0 N N S4 R5 0 ta L E V wa oa (by omega) (by omega) (by omega) hB hF4 s4c (by rw [fR5.1]; omega) (by omega) (by omega)
  obtain ⟨yl, Sl, l1, yl', Rl, l2, l3, l4⟩ := lp0
  refine ok_of l1 ?_
  refine ok_b (ok_of hbt1 ?_)
  dsimp only
  refine ok_t yb0 (ok_b (ok_of hy4 ?_))
  dsimp only
  rw [hR5]
  refine ok_of l2 (fun y00 => ⟨(fS4.weak (by decide)).trans (l4.2.2.2.2.2.1.weak (by decide)), ybz, R2z, hbt1z, fRz, fun fr q1 q2 => ?_⟩)
  obtain ⟨y6, S6, i1, y7, R7, i2, _, i4⟩ := l_rep (e := e) (N := N) (ss := ss) (top := f + len) (n := n) (c := L'.length) (xf := (fr : Int)) (xm := yl) hN fl (by omega) (by omega) q1 L'.length 0 N N N fr S4 R5 R2z 0 ta L E V wa oa ta L E wa oa (by omega) (by omega) (by omega) (by omega) hB hF4 hB2 s4c (by rw [fR5.1]; omega) (by rw [fRz.1, hZ3]; omega) (by omega) (by omega)
  rw [l1] at i1
  obtain ⟨rfl, rfl⟩ := Prod.mk.inj (Option.some.inj i1)
  rw [l2] at i2
  obtain ⟨rfl, rfl⟩ := Prod.mk.inj (Option.some.inj i2)
  refine (i4 (by omega) (fun v v1 v2 => by rw [q2 v v1 (by omega), fRz.2.1 237 rfl rfl, hZ1 237 (by decide)])).mono (fun _ Z1 q => ?_)
  obtain ⟨⟨u1, u2, u3, u4, u5, u6, w1, w2, w3⟩, w4, w5, w6, w7⟩ := q
  refine ⟨⟨u1, u2, u3, u4, w1.1, by omega, by rw [fRz.1, hZ3] at w3; exact w3⟩, w4, w1.2.2.2.2.2.2.2.1.rel, by rw [w5, fRz.2.1 237 rfl rfl], by rw [w6, fRz.2.2 129 159 rfl rfl], fun u hu => w7 u ?_⟩
  rw [fRz.2.1 135 rfl rfl, hZ1 135 (by decide), ca4 6 (by omega)]
  exact hu
end
section
-- hf
theorem dsp_mono {e : w_E} {N : Nat} : ∀ n : Nat, (∀ (x1 x2 : Int) (S : w_S) (y : Int) (S1 : w_S), El_R_doDispose e N n 0 [x1, x2] [] S = some (y, S1) → x1 ≤ y) ∧ ∀ (x1 x2 x3 : Int) (S : w_S) (y : Int) (S1 : w_S), El_R_doDispose e N n 1 [x1, x2, x3] [] S = some (y, S1) → x1 + 1 ≤ y
  | 0 => ⟨fun _ _ _ _ _ h => (by cases h), fun _ _ _ _ _ _ h => (by cases h)⟩
  | n + 1 => by
    obtain ⟨i0, i1⟩ := dsp_mono (e := e) (N := N) n
    refine ⟨fun x1 x2 S y S1 h => ?_, fun x1 x2 x3 S y S1 h => ?_⟩
    · rw [El_R_doDispose] at h
      split at h
      · obtain ⟨rfl, _⟩ := Prod.mk.inj (Option.some.inj h)
        exact Int.le_refl _
      · obtain ⟨v, T, _, h⟩ := bind_inv h
        dsimp only at h
        split at h
        · have := i1 _ _ _ _ _ _ h
          omega
        · split at h
          · exact i0 _ _ _ _ _ h
          · cases h
    · rw [El_R_doDispose] at h
      split at h
      · split at h
        · split at h
          · split at h
            · exact i0 _ _ _ _ _ h
            · cases h
          · cases h
        · cases h
      · split at h
        · split at h
          · split at h
            · exact i1 _ _ _ _ _ _ h
            · cases h
          · split at h
            · split at h
              · exact i1 _ _ _ _ _ _ h
              · cases h
            · split at h
              · exact i1 _ _ _ _ _ _ h
              · cases h
        · cases h
/-- nothing may go: the reference's house stays -/
theorem l_disp0 {e : w_E} {N : Nat} {t top : Int} {ta L E V n : Nat} (hN : 16000000 ≤ N) (htop : top ≤ 10240) : ∀ (k r c nr : Nat) (S R : w_S) (R1 : w_S), RelD S R t top ta L E V n → 1 ≤ r → (r : Int) + k = S.1 3 0 + 1 → El_R_doDispose e N nr 0 [(c : Int), (r : Int)] [] R = some ((c : Int), R1) → frm [150] [129] [(129, 37)] R R1
  | _, _, _, 0, _, _, _, _, _, _, h => by cases h
  | 0, r, c, nr + 1, S, R, R1, g1, g2, g3, h => by
    have hG := g1.1.2.2.2.1
    rw [El_R_doDispose, hG.1, if_pos (by omega)] at h
    obtain ⟨_, rfl⟩ := Prod.mk.inj (Option.some.inj h)
    exact frm.refl _ _ _ _
  | k + 1, r, c, nr + 1, S, R, R1, g1, g2, g3, h => by
    have hG := g1.1.2.2.2.1
    have h150 := hG.2.2.1
    obtain ⟨b, ⟨y, S2, q1, q2, q3⟩, ⟨y', R2, p1, p2, p3⟩, _⟩ := RelD.may (e := e) hN htop g1 g2 (by omega)
    have g1' := g1.ask q3 p3
    have s3 : S2.1 3 0 = S.1 3 0 := by rw [q3.2.1 3 rfl rfl]
    rw [El_R_doDispose, hG.1, if_neg (by omega), p1] at h
    subst q2 p2
    cases b with
    | false =>
      have bf : bi false = 0 := rfl
      rw [Option.bind_some] at h
      dsimp only at h
      rw [if_neg (fun z => z bf), if_pos (by rw [w_nbE]; omega), show (r : Int) + 1 = ((r + 1 : Nat) : Int) by omega] at h
      exact p3.trans (l_disp0 hN htop k (r + 1) c nr S2 R2 R1 g1' (by omega) (by omega) h)
    | true =>
      have bt : bi true ≠ 0 := by decide
      rw [Option.bind_some] at h
      dsimp only at h
      rw [if_pos bt] at h
      have := (dsp_mono nr).2 _ _ _ _ _ _ h
      omega
theorem dis0 {e : w_E} {N : Nat} {S R R1 : w_S} {t top : Int} {ta L E V n : Nat} (hN : 16000000 ≤ N) (htop : top ≤ 10240) (hs : ∀ j, -128 ≤ S.1 2 j ∧ S.1 2 j ≤ 127) (hh : Hs S R t top ta L E V n) (h : E_R_doDispose e N R = some (0, R1)) : frm [150] [129] [(129, 37)] R R1 := by
  have hG := hh.2.2.1.2.2.2.1
  exact l_disp0 hN htop (S.1 3 0).toNat 1 0 N S R R1 ⟨hh.2.2.1, hh.2.2.2.2.1, hh.2.2.2.2.2.2.1, hh.2.2.2.2.2.2.2.2.2.2.2.2.2.1, hh.2.2.2.2.2.2.2.2.2.2.2.2.2.2.1, hh.2.2.2.2.2.2.2.2.2.2.1, hh.2.2.2.2.2.2.2.2.1, hs⟩ (by omega) (by have := hG.2.1; omega) h
/-- versions more, in both: the house is one act older -/
theorem hs_bt {S R S1 Rm R1 : w_S} {t top top' : Int} {ta L E V n ta' L' E' V' : Nat} (hH : Hs S R t top ta L E V n) (htop : top ≤ top') (hf : frm BDa [1, 3, 35, 37, 94, 106, 120] BDj S S1) (fm : frm BEa [129] BEj R Rm) (fb : frb Rm R1) (q3 : RelVr S1 R1 top' ta' L' E' V' n) (ch : ∀ u : Nat, R.1 135 u = S.1 6 u → R1.1 135 u = S1.1 6 u) : Hs S1 R1 (t + 1) top' ta' L' E' V' n ∧ kpb R R1 := by
  have dy := hH.day
  have hH2 := hH.top htop
  clear hH
  obtain ⟨h1, h2, h3, h4', h5, h6', h7, h8, h9, h10, h11, h12, h13, h14, h15, h16⟩ := hH2
  have hc : frm (BEa ++ FBa) [129] (BEj ++ FBj) R (fcut Rm R1) := (fm.weak (by decide)).trans (fb.cut.weak (by decide))
  have hF := RelF.cg ⟨h1, h2⟩ hf hc (by decide)
  have e6 : Rm.1 136 = R.1 136 := fm.2.1 136 rfl rfl
  have e7 : Rm.1 137 = R.1 137 := fm.2.1 137 rfl rfl
  have e17 : Rm.1 129 17 = R.1 129 17 := fm.2.2 129 17 rfl rfl
  have e12 : Rm.1 129 12 = R.1 129 12 := fm.2.2 129 12 rfl rfl
  have hV : RelV S1 R1 := fun k k1 k2 => by
    have k2' : (k : Int) ≤ S.1 3 0 := by
      rw [← hf.2.2 3 0 rfl rfl]
      exact k2
    obtain ⟨a1, a2, a3⟩ := h7 k k1 k2'
    rw [hf.2.1 7 rfl rfl, fb.1 201 (by decide) (by decide) (by decide) (by decide) (by decide) (by decide) (by decide), fm.2.1 201 rfl rfl]
    exact ⟨ch k a1, a2, a3⟩
  have kb : kpb R R1 := by
    obtain ⟨_, _, f1, f2, f3, f4, f5, _⟩ := fb
    rw [fm.1] at f1 f2 f3 f4 f5
    rw [tl_cg fm.1] at f3
    refine ⟨f1, f2, f3, f4, fun b b1 b2 b3 => ?_⟩
    rw [f5 b b1 b2 b3]
    exact fm.2.1 b (by
      simp only [List.contains_cons, List.contains_nil, Bool.or_false, Bool.or_eq_false_iff, beq_eq_false_iff_ne, ne_eq]
      omega) (by
      simp only [List.contains_cons, List.contains_nil, Bool.or_false, beq_eq_false_iff_ne, ne_eq]
      omega)
  have hCm : RelCm S1 R1 := fun r r1 r2 => by
    obtain ⟨_, _, _, _, _, _, _, f6, f7, f9⟩ := fb
    rw [e17] at f6 f7 f9
    rw [e6, e7] at f6
    rw [e12] at f9
    have n1 : R1.1 129 13 = (n : Int) := q3.2.2.2.2.2.2.1
    exact h16.kp h14 dy.1 f6 f7 f9 r1 (by omega) (by
      have := hc.2.1 133 rfl rfl
      rw [cut_at (by decide)] at this
      rw [this])
  exact ⟨⟨hF.1.cut, hF.2.up, ((h3.fr hf hc (by decide)).up).cut, (h4'.fr hf hc (by decide)).cut, (h5.fr hf hc (by decide)).cut, (h6'.fr hf hc (by decide)).cut, hV, (h8.fr hf hc (by decide)).cut, (h9.fr hf hc (by decide)).cut, (h10.fr hf hc (by decide)).cut, (h11.fr hf hc (by decide)).cut, (h12.fr hf hc (by decide)).cut, (h13.fr hf hc (by decide)).cut, q3, (h15.fr hf hc (by decide)).cut, hCm⟩, kb⟩
/-- which record a version is of, the class says -/
theorem vr_136 {S R R1 : w_S} {top top' : Int} {ta L E V n ta' L' E' V' n' : Nat} (h : RelVr S R top ta L E V n) (h1 : RelVr S R1 top' ta' L' E' V' n') : ∀ v, v < V → R1.1 136 v = R.1 136 v := by
  have eV : V' = V := by
    have a := h.2.2.1
    have b := h1.2.2.1
    omega
  have en : n' = n := by
    have a := h.2.2.2.2.2.1
    have b := h1.2.2.2.2.2.1
    omega
  subst eV
  subst en
  have key : ∀ d v, v + d = V' → v < V' → R1.1 136 v = R.1 136 v := by
    intro d
    induction d using Nat.strongRecOn with
    | ind d ih =>
      intro v hv hlt
      obtain ⟨r, hr⟩ : ∃ r : Nat, R.1 136 v = (r : Int) := ⟨(R.1 136 v).toNat, by have := (h.2.2.2.2.2.2.2.2.2.2 v hlt).2.2.2.2.1; omega⟩
      have rb := (h.2.2.2.2.2.2.2.2.2.2 v hlt).2.2.2.2
      -- the next version of that record, if there is one
      by_cases c : ∃ w, v < w ∧ w < V' ∧ R.1 136 w = (r : Int) ∧ ∀ u, v < u → u < w → R.1 136 u ≠ (r : Int)
      · obtain ⟨w, w1, w2, w3, w4⟩ := c
        have e1 := (h.2.2.2.2.2.2.2.2.2.2 w w2).1
        have e2 := (h1.2.2.2.2.2.2.2.2.2.2 w w2).1
        have iw := ih (V' - w) (by omega) w (by omega) w2
        rw [iw, w3] at e2
        rw [w3] at e1
        have g1 : gk (fun j => decide (R.1 136 j = (r : Int))) w = (v : Int) := by
          rcases gk_spec (fun j => decide (R.1 136 j = (r : Int))) w with ⟨_, z⟩ | ⟨q, q1, q2, q3, q4⟩
          · have := z v w1
            simp [hr] at this
          · by_cases d1 : q = v
            · rw [q2, d1]
            · exfalso
              rcases Nat.lt_or_gt_of_ne d1 with d2 | d2
              · have := q4 v d2 w1
                simp [hr] at this
              · exact w4 q d2 q1 (by simpa using q3)
        rw [g1] at e1
        rw [e1] at e2
        rcases gk_spec (fun j => decide (R1.1 136 j = (r : Int))) w with ⟨z, _⟩ | ⟨q, q1, q2, q3, q4⟩
        · omega
        · have : q = v := by omega
          subst this
          rw [hr]
          simpa using q3
      · have e1 := (h.2.2.2.2.2.2.2.2.2.1 r (by omega) (by omega)).1
        have e2 := (h1.2.2.2.2.2.2.2.2.2.1 r (by omega) (by omega)).1
        have last : ∀ u, v < u → u < V' → R.1 136 u ≠ (r : Int) := by
          intro u u1 u2 u3
          -- the least one
          have : ∀ m u, u = v + 1 + m → u < V' → R.1 136 u = (r : Int) → False := by
            intro m
            induction m using Nat.strongRecOn with
            | ind m im =>
              intro u hu hu2 hu3
              refine c ⟨u, by omega, hu2, hu3, fun u' a1 a2 a3 => ?_⟩
              exact im (u' - v - 1) (by omega) u' (by omega) (by omega) a3
          exact this (u - v - 1) u (by omega) u2 u3
        have g1 : gk (fun j => decide (R.1 136 j = (r : Int))) V' = (v : Int) := by
          rcases gk_spec (fun j => decide (R.1 136 j = (r : Int))) V' with ⟨_, z⟩ | ⟨q, q1, q2, q3, q4⟩
          · have := z v hlt
            simp [hr] at this
          · by_cases d1 : q = v
            · rw [q2, d1]
            · exfalso
              rcases Nat.lt_or_gt_of_ne d1 with d2 | d2
              · have := q4 v d2 hlt
                simp [hr] at this
              · exact last q d2 q1 (by simpa using q3)
        rw [g1] at e1
        rw [e1] at e2
        rcases gk_spec (fun j => decide (R1.1 136 j = (r : Int))) V' with ⟨z, _⟩ | ⟨q, q1, q2, q3, q4⟩
        · omega
        · have : q = v := by omega
          subst this
          rw [hr]
          simpa using q3
  exact fun v hv => key (V' - v) v (by omega) hv
end
