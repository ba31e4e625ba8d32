section
-- dk
theorem CtF.up {T : w_S} {t2 : Nat → Int} {top top' : Int} {v F : Nat} {d : Fdl} (h : CtF T t2 top v F d) (ht : top ≤ top') : CtF T t2 top' v F d := ⟨h.1, h.2.1, h.2.2.1, h.2.2.2.1, fun j hj => ⟨(h.2.2.2.2 j hj).1, (h.2.2.2.2 j hj).2.up ht (fun _ _ => rfl)⟩⟩
theorem VrD.up {S R : w_S} {t2 : Nat → Int} {top top' : Int} {ta E v : Nat} {D : List Fdl} (h : VrD S R t2 top ta E v D) (ht : top ≤ top') : VrD S R t2 top' ta E v D := by
  obtain ⟨h1, h2, h3, h4, h5, h6, h7⟩ := h
  exact ⟨h1, h2, h3, h4, h5, fun F hF => (h6 F hF).up ht, h7⟩
/-- a version more -/
theorem vr_add {S R S1 R1 : w_S} {top top' d : Int} {ta L E V n n1 r ta' L' : Nat} {D : List Fdl} (h : RelVr S R top ta L E V n) (hV : V < 400) (ht : top ≤ top') (hr1 : 1 ≤ r) (hr2 : r ≤ n1) (hn : n1 = n ∨ (n1 = n + 1 ∧ r = n1)) (hn1 : n1 ≤ 150) (hd : 0 ≤ d) (hd2 : d ≤ S.1 27 1) (tx : Tx0 R1 ta' L' (E + (doc D).length)) (hta : ta' = 140 ∨ 238 ≤ ta') (hD : (doc D).length ≤ 2604) (c27 : S1.1 27 1 = S.1 27 1) (c2 : S1.1 2 = S.1 2) (c0 : S1.1 3 0 = n1) (c5 : S1.1 3 5 = (V : Int) + 1) (d13 : R1.1 129 13 = n1) (d17 : R1.1 129 17 = (V : Int) + 1) (c4 : ∀ b : Nat, 1 ≤ b → b ≤ n1 → S1.1 4 b = if b = r then (V : Int) else S.1 4 b) (c8 : ∀ u : Nat, u ≤ V → S1.1 8 u = if u = V then (if n1 = n then S.1 4 r else -1) else S.1 8 u) (c9 : S1.1 9 = pt (S.1 9) V d) (c10 : S1.1 10 = pt (S.1 10) V (D.length : Nat)) (e1 : ∀ u, u < 12 * V → S1.1 11 u = S.1 11 u ∧ S1.1 12 u = S.1 12 u ∧ S1.1 13 u = S.1 13 u ∧ S1.1 14 u = S.1 14 u) (e2 : ∀ u, u < 60 * V → S1.1 15 u = S.1 15 u ∧ S1.1 16 u = S.1 16 u) (d136 : R1.1 136 = pt (R.1 136) V (r : Int)) (d137 : R1.1 137 = pt (R.1 137) V d) (d138 : R1.1 138 = pt (R.1 138) V (E : Int)) (d139 : R1.1 139 = pt (R.1 139) V ((doc D).length : Nat)) (dt : ∀ u, u < E → R1.1 ta' u = R.1 ta u) (dn : byt (R1.1 ta') E (doc D)) (l1 : 1 ≤ D.length) (l2 : D.length ≤ 12) (l3 : ∀ F, F < D.length → (D.getD F (0, 0, 0, [])).2.2.2.length ≤ 5) (l4 : ∀ f, f ∈ D → vfd f) (l5 : ∀ F, F < D.length → CtF S1 (S.1 2) top' V F (D.getD F (0, 0, 0, []))) : RelVr S1 R1 top' ta' L' (E + (doc D).length) (V + 1) n1 := by
  obtain ⟨k1, k2, k3, k4, k5, k6, k7, k8, k9, k10, k11⟩ := h
  have p1 : pt (R.1 136) V (r : Int) V = r := if_pos rfl
  have p2 : ∀ k, k ≠ V → pt (R.1 136) V (r : Int) k = R.1 136 k := fun k hk => if_neg hk
  refine ⟨tx, hta, by rw [c5]; omega, by rw [d17]; omega, by omega, c0, d13, hn1, by omega, fun b b1 b2 => ?_, fun v hv => ?_⟩
  · rw [c4 b b1 b2, gk, d136, p1]
    by_cases g : b = r
    · rw [if_pos g, if_pos (decide_eq_true (show (r : Int) = b by omega))]
      exact ⟨rfl, by omega⟩
    · rw [if_neg g, if_neg (by rw [decide_eq_true_eq]; omega)]
      obtain ⟨q1, q2⟩ := k10 b b1 (by omega)
      refine ⟨?_, q2⟩
      rw [q1]
      refine gk_congr _ (fun k hk => ?_)
      rw [p2 k (by omega)]
  · rw [c8 v (by omega), c9, c2, c27, d136, d137]
    by_cases g : v = V
    · subst g
      rw [if_pos rfl, p1]
      refine ⟨?_, ?_, ?_, ?_, by omega, by omega, D, ?_⟩
      · rcases hn with hn | ⟨hn, hn'⟩
        · rw [if_pos hn, (k10 r hr1 (by omega)).1]
          refine gk_congr _ (fun j hj => ?_)
          rw [p2 j (by omega)]
        · rw [if_neg (by omega)]
          refine (gk_none _ (fun j hj => ?_)).symm
          rw [p2 j (by omega)]
          have := (k11 j hj).2.2.2.2.2.1
          exact decide_eq_false (by omega)
      · rw [pt_at, pt_at, if_pos rfl, if_pos rfl]
      · rw [pt_at, if_pos rfl]
        exact hd
      · rw [pt_at, if_pos rfl]
        exact hd2
      · refine ⟨by rw [c10, pt_at, if_pos rfl], l1, l2, l3, l4, l5, E, by rw [d138, pt_at, if_pos rfl], by rw [d139, pt_at, if_pos rfl], by omega, by omega, dn⟩
    · rw [if_neg g, p2 v g]
      obtain ⟨q1, q2, q3, q4, q5, q6, D', q7⟩ := k11 v (by omega)
      have m1 : pt (R.1 137) V d v = R.1 137 v := if_neg g
      rw [m1]
      refine ⟨?_, ?_, q3, q4, q5, by omega, D', ?_⟩
      · rw [q1]
        refine gk_congr _ (fun j hj => ?_)
        rw [p2 j (by omega)]
      · rw [pt_at, if_neg g]
        exact q2
      · exact (q7.up ht).congr (by omega) (by rw [c10, pt_at, if_neg g]) (fun u hu => e1 u (by omega)) (fun u hu => e2 u (by omega)) (by rw [d138, pt_at, if_neg g]) (by rw [d139, pt_at, if_neg g]) dt
end
section
-- dl
theorem vput_hi {S : w_S} {v r b : Nat} {d E m : Int} (h : 140 ≤ b) : (vput S v r d E m).1 b = S.1 b := by
  unfold vput
  rw [w_put_r, if_neg (by omega), w_put_r, if_neg (by omega), w_put_r, if_neg (by omega), w_put_r, if_neg (by omega), w_put_r, if_neg (by omega), w_put_r, if_neg (by omega), w_put_r, if_neg (by omega)]
/-- what addVersion leaves, as the relations want it -/
theorem Av.tx {S S1 : w_S} {a2 ta v r E size L : Nat} {d : Int} (h : Av S a2 ta v r E size d S1) (t : Tx0 S ta L E) (h7 : ta = 140 ∨ 238 ≤ ta) (hn : S1.2.2.2.1 ≤ 899000) (h16 : S.1 129 17 = (v : Int)) (h17 : S.1 129 12 = d) : ∃ ta' L', Tx0 S1 ta' L' (E + size) ∧ (ta' = 140 ∨ 238 ≤ ta') ∧ (∀ u, u < E → S1.1 ta' u = S.1 ta u) ∧ (∀ u, u < size → S1.1 ta' (E + u) = w_b (S.1 a2 u)) ∧ S1.1 136 = pt (S.1 136) v (r : Int) ∧ S1.1 137 = pt (S.1 137) v d ∧ S1.1 138 = pt (S.1 138) v (E : Int) ∧ S1.1 139 = pt (S.1 139) v (size : Int) ∧ S1.1 135 = pt (S.1 135) r d ∧ S1.1 129 17 = (v : Int) + 1 ∧ frw [135, 136, 137, 138, 139, 140] [129] [(129, 17), (129, 23)] S S1 := by
  obtain ⟨S0, ta', L', i2, i3, i4, i5, i6, i7, i7b, i8, i9, i10, i11, i12, i13, i14⟩ := h
  obtain ⟨p3, p5, p6, p7, p8, p9, p10, p11, p12, p13, p15, p18⟩ := t
  have t1 : ta' = 140 ∨ 238 ≤ ta' := by
    rcases i8 with i8 | i8 <;> omega
  have low : ∀ b, b < 238 → b ≠ 140 → S0.1 b = S.1 b := fun b hb hc => i11 b (by omega) (by omega)
  have nx : S1.2.2.2.1 = S0.2.2.2.1 := by
    rw [i2]
    rfl
  have r1 : ∀ u, u < E → S1.1 ta' u = S.1 ta u := fun u hu => by
    rw [i2, vput_hi (by omega), i9 u hu]
  have r2 : ∀ u, u < size → S1.1 ta' (E + u) = w_b (S.1 a2 u) := fun u hu => by
    rw [i2, vput_hi (by omega), i10 u hu]
  have fr : frm [135, 136, 137, 138, 139] [129] [(129, 17), (129, 23)] S0 S1 := by
    rw [i2]
    unfold vput
    repeat (first | exact frm.refl _ _ _ _ | refine frm.put ?_ rfl | refine frm.puto ?_ rfl rfl | refine frm.arr ?_ rfl)
  refine ⟨ta', L', ⟨?_, by omega, by omega, by omega, hn, ?_, ?_, ?_, i6, ?_, ?_, ?_⟩, t1, r1, r2, ?_, ?_, ?_, ?_, ?_, ?_, ?_⟩
  · rw [i2]
    exact i3
  · rcases i8 with i8 | i8
    · rw [i8]
      exact p9
    · exact frb_new (by omega)
  · rw [i2]
    exact i5
  · have := i7b L p10
    omega
  · rcases i7 with i7 | i7
    · omega
    · rw [p10] at i7
      have := Option.some.inj i7
      omega
  · rw [i2]
    show (E : Int) + (size : Int) = ((E + size : Nat) : Int)
    omega
  · intro u hu
    by_cases c : u < E
    · rw [r1 u c]
      exact p18 u c
    · have w := r2 (u - E) (by omega)
      rw [show E + (u - E) = u by omega] at w
      rw [w]
      unfold w_b
      omega
  · rw [i2, ← low 136 (by omega) (by omega)]
    rfl
  · rw [i2, ← low 137 (by omega) (by omega)]
    rfl
  · rw [i2, ← low 138 (by omega) (by omega)]
    rfl
  · rw [i2, ← low 139 (by omega) (by omega)]
    rfl
  · rw [i2, ← low 135 (by omega) (by omega)]
    rfl
  · rw [i2]
    rfl
  · refine ⟨fun b hb h1 h2 => ?_, fun b j hb h1 h2 => ?_, ?_⟩
    · have h3 : [135, 136, 137, 138, 139].contains b = false := by
        simp at h1 ⊢
        omega
      have h4 : b ≠ 140 := by
        simp at h1
        omega
      rw [fr.2.1 b h3 h2, low b hb h4]
    · have h3 : [135, 136, 137, 138, 139].contains b = false := by
        simp at h1 ⊢
        omega
      have h4 : b ≠ 140 := by
        simp at h1
        omega
      rw [fr.2.2 b j h3 h2, low b hb h4]
    · refine ⟨fun i hi => by rw [i2]; exact i4 i hi, fun b hb => by rw [i2]; exact i12 b hb, ⟨by omega, ?_⟩, ?_, fun b b1 b2 b3 => ?_, fun u hu => ?_, ?_, ?_, fun u u1 u2 => ?_⟩
      · have q1 : tl S1 = L' := tl_of (a := ta') (by rw [i2]; exact i3) (by rw [i2]; exact i5)
        have q2 : S1.2.2.2.2 = S0.2.2.2.2 := by
          rw [i2]
          rfl
        rw [q1, tl_of p3 p10, q2]
        exact (i7b L p10).2
      · rw [i2]
        show S0.2.1 2 = _ ∨ _ ≤ S0.2.1 2
        rw [i3, p3]
        exact i8
      · rw [fr.2.1 b (by simp; omega) (by simp; omega), i11 b b2 (by rw [p3] at b3; exact b3)]
      · rw [h16] at hu
        have e6 : S1.1 136 u = if u = v then (r : Int) else S0.1 136 u := by
          rw [i2]
          rfl
        have e7 : S1.1 137 u = if u = v then d else S0.1 137 u := by
          rw [i2]
          rfl
        rw [e6, e7, if_neg (by omega), if_neg (by omega), low 136 (by omega) (by omega), low 137 (by omega) (by omega)]
        exact ⟨rfl, rfl⟩
      · have e8 : S1.1 129 17 = (v : Int) + 1 := by
          rw [i2]
          rfl
        rw [e8, h16]
        omega
      · rw [fr.2.2 129 12 rfl rfl, low 129 (by omega) (by omega)]
      · have e8 : S1.1 129 17 = (v : Int) + 1 := by
          rw [i2]
          rfl
        rw [h16] at u1
        rw [e8] at u2
        have e7 : S1.1 137 u = if u = v then d else S0.1 137 u := by
          rw [i2]
          rfl
        rw [e7, if_pos (by omega), h17]
end
section
-- dm
theorem len_cg {R R1 : w_S} {b : Nat} (h : R1.2 = R.2) : e_len Tr R1 b 1 = e_len Tr R b 1 := by
  unfold e_len w_a
  rw [h]
theorem Tx0.fr {R R1 : w_S} {ta L E : Nat} (h : Tx0 R ta L E) (d2 : R1.2 = R.2) (dt : R1.1 ta = R.1 ta) (d23 : R1.1 129 23 = R.1 129 23) : Tx0 R1 ta L E := by
  obtain ⟨p3, p5, p6, p7, p8, p9, p10, p11, p12, p13, p15, p18⟩ := h
  refine ⟨by rw [d2]; exact p3, p5, by rw [d2]; exact p6, by rw [d2]; exact p7, by rw [d2]; exact p8, p9, by rw [len_cg d2]; exact p10, p11, p12, p13, by rw [d23]; exact p15, by rw [dt]; exact p18⟩
/-- what leaves the catalog alone leaves the relation -/
theorem RelVr.fr {S R S1 R1 : w_S} {top : Int} {ta L E V n : Nat} (h : RelVr S R top ta L E V n) (c : ∀ a, (a = 2 ∨ a = 4 ∨ (8 ≤ a ∧ a ≤ 16)) → S1.1 a = S.1 a) (c0 : S1.1 3 0 = S.1 3 0) (c5 : S1.1 3 5 = S.1 3 5) (c27 : S.1 27 1 ≤ S1.1 27 1) (d : ∀ a, ((136 ≤ a ∧ a ≤ 140) ∨ 238 ≤ a) → R1.1 a = R.1 a) (d13 : R1.1 129 13 = R.1 129 13) (d17 : R1.1 129 17 = R.1 129 17) (d23 : R1.1 129 23 = R.1 129 23) (d2 : R1.2 = R.2) : RelVr S1 R1 top ta L E V n := by
  obtain ⟨k1, k2, k3, k4, k5, k6, k7, k8, k9, k10, k11⟩ := h
  refine ⟨k1.fr d2 (d ta (by omega)) d23, k2, by rw [c5, k3], by rw [d17, k4], k5, by rw [c0, k6], by rw [d13, k7], k8, k9, ?_, ?_⟩
  · rw [c 4 (by omega), d 136 (by omega)]
    exact k10
  · intro v hv
    obtain ⟨q1, q2, q3, q4, q5, q6, D, q7⟩ := k11 v hv
    rw [c 8 (by omega), c 9 (by omega), c 2 (by omega), d 136 (by omega), d 137 (by omega)]
    refine ⟨q1, q2, q3, by omega, q5, q6, D, q7.congr (Nat.le_refl _) (by rw [c 10 (by omega)]) (fun u _ => ?_) (fun u _ => ?_) (by rw [d 138 (by omega)]) (by rw [d 139 (by omega)]) (fun u _ => by rw [d ta (by omega)])⟩
    · rw [c 11 (by omega), c 12 (by omega), c 13 (by omega), c 14 (by omega)]
      exact ⟨rfl, rfl, rfl, rfl⟩
    · rw [c 15 (by omega), c 16 (by omega)]
      exact ⟨rfl, rfl⟩
/-- both sides' addVersion: from states in which the record is known already -/
theorem both_add {e : w_E} {N a2 m : Nat} {S R Sm Rm : w_S} {top top' d : Int} {ta L E V n n1 r : Nat} {D : List Fdl} (hN : 2000000 ≤ N) (h : RelVr S R top ta L E V n) (hV : V < 400) (ht : top ≤ top') (hr1 : 1 ≤ r) (hr2 : r ≤ n1) (hn : n1 = n ∨ (n1 = n + 1 ∧ r = n1)) (hn1 : n1 ≤ 150) (hd : 0 ≤ d) (hd2 : d ≤ S.1 27 1) (hD : (doc D).length ≤ 2604) (hnx : R.2.2.2.1 < 899000) (c : ∀ a, (a = 2 ∨ (8 ≤ a ∧ a ≤ 16)) → Sm.1 a = S.1 a) (c27 : Sm.1 27 1 = S.1 27 1) (c0 : Sm.1 3 0 = n1) (c5 : Sm.1 3 5 = S.1 3 5) (c4 : ∀ b : Nat, 1 ≤ b → b ≤ n1 → b ≠ r → Sm.1 4 b = S.1 4 b) (c4r : Sm.1 4 r = if n1 = n then S.1 4 r else -1) (b : ∀ a, ((136 ≤ a ∧ a ≤ 140) ∨ 238 ≤ a) → Rm.1 a = R.1 a) (d12 : Rm.1 129 12 = d) (d13 : Rm.1 129 13 = n1) (d17 : Rm.1 129 17 = R.1 129 17) (d23 : Rm.1 129 23 = R.1 129 23) (d2 : Rm.2 = R.2) (hdr : Dr Sm (S.1 2) top' D) (l1 : 1 ≤ D.length) (l2 : D.length ≤ 12) (l3 : ∀ F, F < D.length → (D.getD F (0, 0, 0, [])).2.2.2.length ≤ 5) (l4 : ∀ f, f ∈ D → vfd f) (ha2 : a2 < 238) (ha3 : a2 ≠ 140) (hm : (doc D).length ≤ m) (hm2 : m < 2000000000) (ham : e_len Tr Rm a2 1 = some m) (hb : byt (Rm.1 a2) 0 (doc D)) (hbb : ∀ u, u < (doc D).length → -128 ≤ Rm.1 a2 u ∧ Rm.1 a2 u ≤ 127) : Ok (E_Catalog_addVersion e N (r : Int) d Sm) (fun _ S1 => Cav Sm (S.1 2) top' D V r d S1 ∧ Ok (E_R_addVersion e N (r : Int) ((doc D).length : Nat) a2 Rm) (fun _ R1 => R1.2.2.2.1 ≤ R.2.2.2.1 + 1 ∧ R1.1 135 = pt (Rm.1 135) r d ∧ frw [135, 136, 137, 138, 139, 140] [129] [(129, 17), (129, 23)] Rm R1 ∧ ∃ ta' L', RelVr S1 R1 top' ta' L' (E + (doc D).length) (V + 1) n1)) := by
  have hh := h
  obtain ⟨k1, k2, k3, k4, k5, k6, k7, k8, k9, k10, k11⟩ := hh
  clear k10 k11
  refine Ok.mono (x_cav (e := e) (N := N) (v := V) (by omega) hV (by omega) l2 l3 (by rw [c5, k3]) hdr) ?_
  intro y S1 g
  refine ⟨g, ?_⟩
  have tx := k1.fr (R1 := Rm) d2 (b ta (by omega)) d23
  obtain ⟨R1, x1, x2, x3⟩ := x_addVersion (e := e) (N := N) (a2 := a2) (m := m) (r := r) (v := V) (E := E) (size := (doc D).length) (ta := ta) (L := L) (d := d) hN (by omega) hV hm hm2 (by omega) (by omega) (by omega) (by omega) tx ham (by rw [d17, k4]) d12
  rw [d2] at x2
  obtain ⟨ta', L', t1, t2, t3, t4, t5, t6, t7, t8, t9, t10, t11⟩ := x3.tx tx k2 (by omega) (by rw [d17]; exact k4) d12
  refine ok_of x1 ⟨x2, t9, t11, ta', L', ?_⟩
  obtain ⟨g1, g2, g3, g4, g5, g6, g7, g8, g9, g10⟩ := g
  refine vr_add h hV ht hr1 hr2 hn hn1 hd hd2 t1 t2 hD ?_ ?_ ?_ g2 ?_ t10 ?_ ?_ ?_ ?_ ?_ ?_ ?_ ?_ ?_ ?_ ?_ ?_ l1 l2 l3 l4 g8
  · rw [g1.2.1 27 rfl rfl, c27]
  · rw [g1.2.1 2 rfl rfl, c 2 (by omega)]
  · rw [g1.2.2 3 0 rfl rfl, c0]
  · rw [t11.2.1 129 13 (by omega) rfl rfl, d13]
  · intro z z1 z2
    rw [g4, pt_at]
    by_cases q : z = r
    · rw [if_pos q, if_pos q]
    · rw [if_neg q, if_neg q]
      exact c4 z z1 z2 q
  · intro u hu
    rw [g3, pt_at, c 8 (by omega), c4r]
  · rw [g5, c 9 (by omega)]
  · rw [g7, c 10 (by omega)]
  · intro u hu
    have := g9 u hu
    rw [c 11 (by omega), c 12 (by omega), c 13 (by omega), c 14 (by omega)] at this
    exact this
  · intro u hu
    have := g10 u hu
    rw [c 15 (by omega), c 16 (by omega)] at this
    exact this
  · rw [t5, b 136 (by omega)]
  · rw [t6, b 137 (by omega)]
  · rw [t7, b 138 (by omega)]
  · rw [t8, b 139 (by omega)]
  · intro u hu
    rw [t3 u hu, b ta (by omega)]
  · refine byt_congr hb (fun k hk => ?_)
    rw [t4 k hk, w_b_id (hbb k hk).1 (hbb k hk).2, Nat.zero_add]
end
section
-- dn
theorem rcl_subs (G : Int → Int) (len : Int) : ∀ (k i : Nat) (q : Int) (f : Fdl), f ∈ rcl G len k i q → f.2.2.2.length ≤ 5 := by
  intro k
  induction k with
  | zero =>
    intro i q f hf
    rw [rcl] at hf
    cases hf
  | succ k ih =>
    intro i q f hf
    rw [rcl] at hf
    split at hf
    · cases hf
    · rcases List.mem_cons.1 hf with hf | hf
      · rw [hf]
        exact Fld_subs G q
      · exact ih _ _ f hf
/-- what a text that is a record says -/
theorem rec_doc {S R : w_S} {f len : Int} {G : Int → Int} (h : TX S f len G) (hr : TR R len G) (hB : TB S R f len) (c0 : 0 ≤ rcq G len 12 0 0) : (((doc (rcl G len 12 0 0)).length : Nat) : Int) = len ∧ byt (R.1 130) 0 (doc (rcl G len 12 0 0)) ∧ (∀ f, f ∈ rcl G len 12 0 0 → vfd f) ∧ 1 ≤ (rcl G len 12 0 0).length ∧ (rcl G len 12 0 0).length ≤ 12 ∧ ∀ F, F < (rcl G len 12 0 0).length → ((rcl G len 12 0 0).getD F (0, 0, 0, [])).2.2.2.length ≤ 5 := by
  have l0 : 0 ≤ len := hr.2.1
  have hb : ∀ p, 0 ≤ p → p ≤ len → fqC G p ≤ len := fun p p0 p1 => by
    have bd := fqR_bd hr.e (show Bd len p from ⟨by omega, p1⟩)
    rw [← fq_eq] at bd
    unfold Bd at bd
    omega
  obtain ⟨g1, g2, g3, g4, g5⟩ := rcl_g (G := G) (len := len) 12 0 0 (by omega) l0 c0 hb
  have hlen : (((doc (rcl G len 12 0 0)).length : Nat) : Int) = len := by omega
  refine ⟨hlen, doc_tape h hB g4 g1 hlen, g4, by omega, rcl_len G len 12 0 0, fun F hF => ?_⟩
  have : (rcl G len 12 0 0).getD F (0, 0, 0, []) = (rcl G len 12 0 0)[F] := by
    rw [List.getD_eq_getElem?_getD, List.getElem?_eq_getElem hF]
    rfl
  rw [this]
  exact rcl_subs G len 12 0 0 _ (List.getElem_mem hF)
end
section
-- do
/-- the class's act -/
def Crec (e : w_E) (N : Nat) (S : w_S) : e_R := ((E_C_readNewVersion e N  S).bind (fun q126 => (if q126.1 = 0 then (if 150 ≤ (q126.2.1 3 0) then some ((-4), q126.2) else (if (q126.2.1 3 5) < 400 then ((E_Catalog_addRecord e N (q126.2.1 27 1) q126.2).bind (fun q158 => some (q158.1, q158.2))) else some ((-4), q126.2))) else some (q126.1, q126.2))))
/-- the reference's, behind the text and the rules -/
theorem r_rec {e : w_E} {N : Nat} {S R : w_S} {len : Int} {G : Int → Int} {z : Int} {P : Int → w_S → Prop} (hN : 10000 ≤ N) (hr : TR R len G) (hst : R.1 129 96 = S.1 27 2) (hs : S.1 27 2 = 0 ∨ S.1 27 2 = 1) (hq : 0 ≤ rcq G len 12 0 0) (hz : E_R_firstBroken e N (R.1 129 2) 0 130 R = some (z, R)) (ok : S.1 27 2 = 0 ∨ z = -1) (full : R.1 129 13 = 150 ∨ R.1 129 17 = 400 → P (-4) (w_put R 129 4 1)) (go : R.1 129 13 ≠ 150 → R.1 129 17 ≠ 400 → Ok (if w_nb ((R.1 129 13) + 1) = true then (if w_ib ((R.1 129 13) + 1) 151 = true then ((E_R_addVersion e N ((R.1 129 13) + 1) (R.1 129 2) 130 (w_put (w_put (w_put (w_put R 129 13 ((R.1 129 13) + 1)) 133 (((R.1 129 13) + 1).toNat) (R.1 129 12)) 134 (((R.1 129 13) + 1).toNat) (-1)) 201 (((R.1 129 13) + 1).toNat) 0)).bind (fun q695 => some (q695.2.1 129 13, q695.2))) else none) else none) P) : Ok (E_R_doRecord e N R) P := by
  unfold E_R_doRecord
  refine ok_b (ok_of (x_recordText (e := e) (by omega) hr) ?_)
  dsimp only
  have rest : Ok (if (R.1 129 13) = 150 then some ((-4), (w_put R 129 4 1)) else (if (R.1 129 17) ≠ 400 then (if w_nb ((R.1 129 13) + 1) = true then (if w_ib ((R.1 129 13) + 1) 151 = true then ((E_R_addVersion e N ((R.1 129 13) + 1) (R.1 129 2) 130 (w_put (w_put (w_put (w_put R 129 13 ((R.1 129 13) + 1)) 133 (((R.1 129 13) + 1).toNat) (R.1 129 12)) 134 (((R.1 129 13) + 1).toNat) (-1)) 201 (((R.1 129 13) + 1).toNat) 0)).bind (fun q695 => some (q695.2.1 129 13, q695.2))) else none) else none) else some ((-4), (w_put R 129 4 1)))) P := by
    by_cases a : R.1 129 13 = 150
    · exact ok_t a (ok_s (full (Or.inl a)))
    · refine ok_e a ?_
      by_cases b : R.1 129 17 = 400
      · exact ok_e (by omega) (ok_s (full (Or.inr b)))
      · exact ok_t b (go a b)
  refine ok_t hq ?_
  by_cases c : R.1 129 96 = 0
  · exact ok_t c rest
  · refine ok_e c (ok_b (ok_of hz ?_))
    dsimp only
    exact ok_t (by omega) rest
end
section
-- dp
theorem rcq_bd {R : w_S} {len : Int} {G : Int → Int} (hr : TR R len G) : ∀ (k i : Nat) (q : Int), 0 ≤ q → q ≤ len → -3000 ≤ rcq G len k i q := by
  have lb := hr.2.2.1
  intro k
  induction k with
  | zero =>
    intro i q q0 q1
    rw [rcq]
    split <;> omega
  | succ k ih =>
    intro i q q0 q1
    have bd := fqR_bd hr.e (show Bd len q from ⟨by omega, q1⟩)
    rw [← fq_eq] at bd
    unfold Bd at bd
    rw [rcq]
    split
    · omega
    · split
      · omega
      · exact ih (i + 1) _ (by omega) (by omega)
theorem Dr.tp {T : w_S} {a w : Int} {t2 : Nat → Int} {top : Int} {D : List Fdl} (h : Dr T t2 top D) : Dr (tp T a w) t2 top D := by
  unfold Dr DrF at h ⊢
  rw [tpo T a w (by decide : 120 ≠ 1), tpo T a w (by decide : 121 ≠ 1), tpo T a w (by decide : 122 ≠ 1), tpo T a w (by decide : 123 ≠ 1), tpo T a w (by decide : 125 ≠ 1), tpo T a w (by decide : 126 ≠ 1), tpo T a w (by decide : 127 ≠ 1)]
  exact h
theorem tp_fr {S T : w_S} {a w : Int} (h : frm [121, 122, 123, 125, 126, 127] [120] [(120, 0)] S T) : frm [121, 122, 123, 125, 126, 127] [1, 120] [(120, 0), (1, 4), (1, 6)] S (tp T a w) := by
  refine frm.puto (frm.puto (h.wide (fun _ h => h) (fun b hb => ?_) (fun b j hb => ?_)) rfl rfl) rfl rfl
  · simp only [List.contains_cons, List.contains_nil, Bool.or_false, Bool.or_eq_false_iff] at hb ⊢
    exact hb.2
  · simp only [List.contains_cons, List.contains_nil, Bool.or_false, Bool.or_eq_false_iff] at hb ⊢
    exact hb.1
end
section
-- dq
/-- a record is filed -/
theorem t_record {e : w_E} {N : Nat} {S R : w_S} {f len top : Int} {G : Int → Int} {ta L E V n : Nat} (hN : 2000000 ≤ N) (h : TX S f len G) (hr : TR R len G) (h4 : S.1 1 4 = f) (h6 : S.1 1 6 = -1) (hB : TB S R f len) (hC : RelCk S R) (hs : S.1 27 2 = 0 ∨ S.1 27 2 = 1) (hst : R.1 129 96 = S.1 27 2) (hv : RelVr S R top ta L E V n) (ht : top ≤ f + len) (hd : R.1 129 12 = S.1 27 1) (hd0 : 0 ≤ S.1 27 1) (hnx : R.2.2.2.1 < 899000) : Ok (Crec e N S) (fun y S1 => Ok (E_R_doRecord e N R) (fun y' R1 => y' = y ∧ ((y < 0 ∧ frm [121, 122, 123, 125, 126, 127] [1, 120] [(120, 0), (1, 4), (1, 6)] S S1 ∧ R1 = w_put R 129 4 1) ∨ (y = (n : Int) + 1 ∧ n < 150 ∧ V < 400 ∧ frm [4, 5, 6, 7, 8, 9, 10, 11, 12, 13, 14, 15, 16, 121, 122, 123, 125, 126, 127] [1, 3, 120] [(120, 0), (1, 4), (1, 6), (3, 0), (3, 5)] S S1 ∧ frw [133, 134, 135, 136, 137, 138, 139, 140, 201] [129] [(129, 13), (129, 17), (129, 23)] R R1 ∧ S1.1 5 = pt (S.1 5) (n + 1) (-1) ∧ S1.1 6 = pt (S.1 6) (n + 1) (S.1 27 1) ∧ S1.1 7 = pt (S.1 7) (n + 1) 0 ∧ R1.1 133 = pt (R.1 133) (n + 1) (S.1 27 1) ∧ R1.1 134 = pt (R.1 134) (n + 1) (-1) ∧ R1.1 135 = pt (R.1 135) (n + 1) (S.1 27 1) ∧ R1.1 201 = pt (R.1 201) (n + 1) 0 ∧ R1.2.2.2.1 ≤ R.2.2.2.1 + 1 ∧ ∃ ta' L' E', RelVr S1 R1 (f + len) ta' L' E' (V + 1) (n + 1))))) := by
  have rb := rcq_bd hr 12 0 0 (by omega) hr.2.1
  obtain ⟨z, hz, y, S1, e1, T', a', w', q1, q2, q3⟩ := x_newV (e := e) (N := N) (by omega) h hr h4 h6 hB hC hs
  subst q1
  have fr := tp_fr (a := a') (w := w') q2
  have hh := hv
  obtain ⟨k1, k2, k3, k4, k5, k6, k7, k8, k9, k10, k11⟩ := hh
  clear k10 k11
  unfold Crec
  refine ok_b (ok_of e1 ?_)
  dsimp only
  rcases q3 with ⟨c, cy⟩ | ⟨c, c1, c2, c3⟩ | ⟨c, c1, c2, c3, c4⟩
  · refine ok_e (by omega) (ok_s ?_)
    unfold E_R_doRecord
    refine ok_b (ok_of (x_recordText (e := e) (by omega) hr) ?_)
    dsimp only
    refine ok_e (by omega) (ok_nb (by omega) (ok_s ⟨by omega, Or.inl ⟨by omega, fr, rfl⟩⟩))
  · refine ok_e (by omega) (ok_s ?_)
    unfold E_R_doRecord
    refine ok_b (ok_of (x_recordText (e := e) (by omega) hr) ?_)
    dsimp only
    have hz' : E_R_firstBroken e N (R.1 129 2) 0 130 R = some (z, R) := by
      rcases hz with hz | hz
      · exact hz
      · omega
    refine ok_t c (ok_e (by omega) (ok_b (ok_of hz' ?_)))
    dsimp only
    exact ok_e (by omega) (ok_s ⟨by omega, Or.inl ⟨by omega, fr, rfl⟩⟩)
  · have hz' : E_R_firstBroken e N (R.1 129 2) 0 130 R = some (z, R) := by
      rcases hz with hz | hz
      · exact hz
      · omega
    obtain ⟨g1, g2, g3, g4, g5, g6⟩ := rec_doc h hr hB c
    have b30 : (tp T' a' w').1 3 0 = n := by rw [fr.2.1 3 rfl rfl, k6]
    have b35 : (tp T' a' w').1 3 5 = V := by rw [fr.2.1 3 rfl rfl, k3]
    have b27 : (tp T' a' w').1 27 1 = S.1 27 1 := by rw [fr.2.1 27 rfl rfl]
    have dr := c4.tp (a := a') (w := w')
    generalize tp T' a' w' = T at fr b30 b35 b27 dr
    refine ok_t c2 ?_
    rw [b30, b35, b27]
    by_cases a : (150 : Int) ≤ n
    · refine ok_t a (ok_s ?_)
      exact r_rec (S := S) (by omega) hr hst hs c hz' c1 (fun _ => ⟨rfl, Or.inl ⟨by omega, fr, rfl⟩⟩) (fun q _ => by omega)
    · refine ok_e a ?_
      by_cases b : (V : Int) < 400
      · refine ok_t b ?_
        have fm : frm [4, 5, 7] [3] [(3, 0)] T (w_put (w_put (w_put (w_put T 3 0 ((n : Int) + 1)) 4 (n + 1) (-1)) 5 (n + 1) (-1)) 7 (n + 1) 0) := by repeat (first | exact frm.refl _ _ _ _ | refine frm.put ?_ rfl | refine frm.puto ?_ rfl rfl | refine frm.arr ?_ rfl)
        have m4 : (w_put (w_put (w_put (w_put T 3 0 ((n : Int) + 1)) 4 (n + 1) (-1)) 5 (n + 1) (-1)) 7 (n + 1) 0).1 4 = pt (T.1 4) (n + 1) (-1) := rfl
        have m5 : (w_put (w_put (w_put (w_put T 3 0 ((n : Int) + 1)) 4 (n + 1) (-1)) 5 (n + 1) (-1)) 7 (n + 1) 0).1 5 = pt (T.1 5) (n + 1) (-1) := rfl
        have m7 : (w_put (w_put (w_put (w_put T 3 0 ((n : Int) + 1)) 4 (n + 1) (-1)) 5 (n + 1) (-1)) 7 (n + 1) 0).1 7 = pt (T.1 7) (n + 1) 0 := rfl
        have m0 : (w_put (w_put (w_put (w_put T 3 0 ((n : Int) + 1)) 4 (n + 1) (-1)) 5 (n + 1) (-1)) 7 (n + 1) 0).1 3 0 = (n : Int) + 1 := rfl
        have ar : ∀ P, Ok (E_Catalog_addVersion e N (((n + 1 : Nat) : Int)) (S.1 27 1) (w_put (w_put (w_put (w_put T 3 0 ((n : Int) + 1)) 4 (n + 1) (-1)) 5 (n + 1) (-1)) 7 (n + 1) 0)) (fun _ S2 => P (S2.1 3 0) S2) → Ok ((E_Catalog_addRecord e N (S.1 27 1) T).bind (fun q158 => some (q158.1, q158.2))) P := by
          intro P hp
          obtain ⟨y1, S2, x1, x2⟩ := hp
          have w : E_Catalog_addRecord e N (S.1 27 1) T = some (S2.1 3 0, S2) := by
            refine ok_eq ?_
            unfold E_Catalog_addRecord
            rw [b30, show ((n : Int) + 1).toNat = n + 1 by omega]
            refine ok_nb (by omega) (ok_ib (by omega) (ok_b (ok_of x1 (ok_s ⟨rfl, rfl⟩))))
          exact ok_b (ok_of w (ok_s x2))
        refine ar _ ?_
        clear ar
        generalize w_put (w_put (w_put (w_put T 3 0 ((n : Int) + 1)) 4 (n + 1) (-1)) 5 (n + 1) (-1)) 7 (n + 1) 0 = Sm at fm m4 m5 m7 m0 ⊢
        have fq : frm [133, 134, 201] [129] [(129, 13)] R (w_put (w_put (w_put (w_put R 129 13 ((n : Int) + 1)) 133 (n + 1) (R.1 129 12)) 134 (n + 1) (-1)) 201 (n + 1) 0) := by repeat (first | exact frm.refl _ _ _ _ | refine frm.put ?_ rfl | refine frm.puto ?_ rfl rfl | refine frm.arr ?_ rfl)
        have n3 : (w_put (w_put (w_put (w_put R 129 13 ((n : Int) + 1)) 133 (n + 1) (R.1 129 12)) 134 (n + 1) (-1)) 201 (n + 1) 0).1 133 = pt (R.1 133) (n + 1) (R.1 129 12) := rfl
        have n4 : (w_put (w_put (w_put (w_put R 129 13 ((n : Int) + 1)) 133 (n + 1) (R.1 129 12)) 134 (n + 1) (-1)) 201 (n + 1) 0).1 134 = pt (R.1 134) (n + 1) (-1) := rfl
        have n5 : (w_put (w_put (w_put (w_put R 129 13 ((n : Int) + 1)) 133 (n + 1) (R.1 129 12)) 134 (n + 1) (-1)) 201 (n + 1) 0).1 201 = pt (R.1 201) (n + 1) 0 := rfl
        have n0 : (w_put (w_put (w_put (w_put R 129 13 ((n : Int) + 1)) 133 (n + 1) (R.1 129 12)) 134 (n + 1) (-1)) 201 (n + 1) 0).1 129 13 = (n : Int) + 1 := rfl
        have go : ∀ P, Ok (E_R_addVersion e N ((n + 1 : Nat) : Int) (((doc (rcl G len 12 0 0)).length : Nat) : Int) 130 (w_put (w_put (w_put (w_put R 129 13 ((n : Int) + 1)) 133 (n + 1) (R.1 129 12)) 134 (n + 1) (-1)) 201 (n + 1) 0)) (fun _ R2 => P (R2.1 129 13) R2) → Ok (E_R_doRecord e N R) P := by
          intro P hp
          refine r_rec (S := S) (by omega) hr hst hs c hz' c1 (fun q => by omega) (fun _ _ => ?_)
          rw [k7, hr.1, show ((n : Int) + 1).toNat = n + 1 by omega, ← g1]
          obtain ⟨y1, R2, x1, x2⟩ := hp
          exact ok_nb (by omega) (ok_ib (by omega) (ok_b (ok_of x1 (ok_s x2))))
        generalize w_put (w_put (w_put (w_put R 129 13 ((n : Int) + 1)) 133 (n + 1) (R.1 129 12)) 134 (n + 1) (-1)) 201 (n + 1) 0 = Rm at fq n3 n4 n5 n0 go
        have lb := hr.2.2.1
        have r130 : Rm.1 130 = R.1 130 := fq.2.1 130 rfl rfl
        have hdr : Dr Sm (S.1 2) (f + len) (rcl G len 12 0 0) := ⟨by rw [fm.2.1 120 rfl rfl]; exact dr.1, fun F hF => (dr.2 F hF).congr (by rw [fm.2.1 121 rfl rfl]) (by rw [fm.2.1 122 rfl rfl]) (by rw [fm.2.1 123 rfl rfl]) (by rw [fm.2.1 125 rfl rfl]) (fun j _ => ⟨by rw [fm.2.1 126 rfl rfl], by rw [fm.2.1 127 rfl rfl]⟩)⟩
        have t4 : T.1 4 = S.1 4 := fr.2.1 4 rfl rfl
        have B := both_add (e := e) (N := N) (a2 := 130) (m := 2000) (S := S) (R := R) (Sm := Sm) (Rm := Rm) (top := top) (top' := f + len) (d := S.1 27 1) (n1 := n + 1) (r := n + 1) (D := rcl G len 12 0 0) hN hv (by omega) ht (by omega) (by omega) (Or.inr ⟨rfl, rfl⟩) (by omega) hd0 (by omega) (by omega) hnx (fun x hx => by
          rcases (show x = 2 ∨ x = 8 ∨ x = 9 ∨ x = 10 ∨ x = 11 ∨ x = 12 ∨ x = 13 ∨ x = 14 ∨ x = 15 ∨ x = 16 by omega) with rfl | rfl | rfl | rfl | rfl | rfl | rfl | rfl | rfl | rfl <;> rw [fm.2.1 _ rfl rfl, fr.2.1 _ rfl rfl]) (by rw [fm.2.1 27 rfl rfl, b27]) (by rw [m0]; omega) (by rw [fm.2.2 3 5 rfl rfl, b35, k3]) (fun x x1 x2 x3 => by rw [m4, pt_at, if_neg x3, t4]) (by rw [m4, pt_at, if_pos rfl, if_neg (by omega)]) (fun x hx => fq.2.1 x (by
            simp only [List.contains_cons, List.contains_nil, Bool.or_false, Bool.or_eq_false_iff, beq_eq_false_iff_ne]
            omega) (by
            simp only [List.contains_cons, List.contains_nil, Bool.or_false, beq_eq_false_iff_ne]
            omega)) (by rw [fq.2.2 129 12 rfl rfl, hd]) (by rw [n0]; omega) (by rw [fq.2.2 129 17 rfl rfl]) (by rw [fq.2.2 129 23 rfl rfl]) fq.1 hdr g4 g5 g6 g3 (by omega) (by omega) (by omega) (by omega) (len130 Rm) (by rw [r130]; exact g2) (fun u hu => by rw [r130]; exact (hB u (by omega)).2)
        refine Ok.mono B ?_
        intro y1 S2 ⟨x1, x2⟩
        refine go _ (Ok.mono x2 ?_)
        intro y2 R2 ⟨x3, x4, x5, ta', L', x6⟩
        have z0 : S2.1 3 0 = (n : Int) + 1 := by rw [x1.1.2.2 3 0 rfl rfl, m0]
        refine ⟨by rw [x5.2.1 129 13 (by omega) rfl rfl, n0, z0], Or.inr ⟨z0, by omega, by omega, ?_, ?_, ?_, ?_, ?_, ?_, ?_, ?_, ?_, x3, ta', L', _, x6⟩⟩
        · refine frm.trans (frm.trans (fr.wide ?_ ?_ ?_) (fm.wide ?_ ?_ ?_)) (x1.1.wide ?_ ?_ ?_) <;> first
            | (intro x hx
               simp only [List.contains_cons, List.contains_nil, Bool.or_false, Bool.or_eq_false_iff] at hx ⊢
               simp only [hx, and_self])
            | (intro x x' hx
               simp only [List.contains_cons, List.contains_nil, Bool.or_false, Bool.or_eq_false_iff] at hx ⊢
               simp only [hx, and_self])
        · refine ⟨fun x xb y1 y2 => ?_, fun x j xb y1 y2 => ?_, (kpx.of fq.1 (fun x hx => fq.2.1 x (by simp; omega) (by simp; omega)) (fq.2.1 136 rfl rfl) (fq.2.1 137 rfl rfl) (fq.2.2 129 17 rfl rfl) (fq.2.2 129 12 rfl rfl)).trans x5.2.2⟩
          · simp only [List.contains_cons, List.contains_nil, Bool.or_false, Bool.or_eq_false_iff] at y1 y2
            rw [x5.1 x xb (by simp only [List.contains_cons, List.contains_nil, Bool.or_false, Bool.or_eq_false_iff, y1, and_self]) (by simp only [List.contains_cons, List.contains_nil, Bool.or_false, y2]), fq.2.1 x (by simp only [List.contains_cons, List.contains_nil, Bool.or_false, Bool.or_eq_false_iff, y1, and_self]) (by simp only [List.contains_cons, List.contains_nil, Bool.or_false, y2])]
          · simp only [List.contains_cons, List.contains_nil, Bool.or_false, Bool.or_eq_false_iff] at y1 y2
            rw [x5.2.1 x j xb (by simp only [List.contains_cons, List.contains_nil, Bool.or_false, Bool.or_eq_false_iff, y1, and_self]) (by simp only [List.contains_cons, List.contains_nil, Bool.or_false, Bool.or_eq_false_iff, y2, and_self]), fq.2.2 x j (by simp only [List.contains_cons, List.contains_nil, Bool.or_false, Bool.or_eq_false_iff, y1, and_self]) (by simp only [List.contains_cons, List.contains_nil, Bool.or_false, y2])]
        · rw [x1.1.2.1 5 rfl rfl, m5, fr.2.1 5 rfl rfl]
        · rw [x1.2.2.2.2.2.1, fm.2.1 6 rfl rfl, fr.2.1 6 rfl rfl]
        · rw [x1.1.2.1 7 rfl rfl, m7, fr.2.1 7 rfl rfl]
        · rw [x5.1 133 (by omega) rfl rfl, n3, hd]
        · rw [x5.1 134 (by omega) rfl rfl, n4]
        · rw [x4, fq.2.1 135 rfl rfl]
        · rw [x5.1 201 (by omega) rfl rfl, n5]
      · refine ok_e b (ok_s ?_)
        exact r_rec (S := S) (by omega) hr hst hs c hz' c1 (fun _ => ⟨rfl, Or.inl ⟨by omega, fr, rfl⟩⟩) (fun _ q => by omega)
end
section
-- dr
/-- how many below -/
def kn (P : Nat → Bool) : Nat → Nat
  | 0 => 0
  | n + 1 => kn P n + if P n = true then 1 else 0
theorem kn_le (P : Nat → Bool) : ∀ n, kn P n ≤ n
  | 0 => Nat.le_refl 0
  | n + 1 => by
    have := kn_le P n
    rw [kn]
    split <;> omega
theorem l_vof {e : w_E} {N V : Nat} {S : w_S} {P : Nat → Bool} (h8 : ∀ v, v < V → P v = true → S.1 8 v = gk P v) (hV : V ≤ 400) : ∀ (m nf x2 : Nat), m ≤ V → m < nf → x2 + kn P m ≤ 400 → El_Catalog_versionsOf e N nf 0 [(x2 : Int), gk P m] [] S = some (((x2 + kn P m : Nat) : Int), S)
  | _, 0, _, _, h, _ => by omega
  | 0, nf + 1, x2, _, _, _ => by
    refine ok_eq ?_
    rw [El_Catalog_versionsOf]
    exact ok_t rfl (ok_s ⟨rfl, rfl⟩)
  | m + 1, nf + 1, x2, g1, g2, g3 => by
    by_cases c : P m = true
    · have k1 : gk P (m + 1) = m := by rw [gk, if_pos c]
      have k2 : kn P (m + 1) = kn P m + 1 := by rw [kn, if_pos c]
      rw [k2] at g3
      have ih := l_vof (e := e) (N := N) h8 hV m nf (x2 + 1) (by omega) (by omega) (by omega)
      rw [k1, k2]
      refine ok_eq ?_
      rw [El_Catalog_versionsOf]
      refine ok_e (by omega) (ok_e (by omega) (ok_ib (by omega) (ok_nb (by omega) ?_)))
      rw [show ((m : Int)).toNat = m by omega, h8 m (by omega) c]
      exact ok_of ih ⟨by omega, rfl⟩
    · have k1 : gk P (m + 1) = gk P m := by rw [gk, if_neg c]
      have k2 : kn P (m + 1) = kn P m := by rw [kn, if_neg c, Nat.add_zero]
      rw [k1, k2]
      rw [k2] at g3
      exact l_vof (e := e) (N := N) h8 hV m (nf + 1) x2 (by omega) (by omega) g3
end
section
-- ds
theorem l_red {e : w_E} {N V : Nat} {x1 : Int} {R : w_S} (hV : V ≤ 400) (h : R.1 129 17 = V) : ∀ (m i nf : Nat), i + m = V → m < nf → El_R_doEdit e N nf 0 [x1, ((kn (fun k => decide (R.1 136 k = x1)) i : Nat) : Int), (i : Int)] [] R = some (((kn (fun k => decide (R.1 136 k = x1)) V : Nat) : Int), R)
  | _, _, 0, _, h => by omega
  | 0, i, nf + 1, g1, _ => by
    refine ok_eq ?_
    rw [El_R_doEdit, h]
    refine ok_t (by omega) (ok_s ⟨?_, rfl⟩)
    rw [show i = V by omega]
  | m + 1, i, nf + 1, g1, g2 => by
    have kb := kn_le (fun k => decide (R.1 136 k = x1)) i
    have ih := l_red (e := e) (N := N) (x1 := x1) hV h m (i + 1) nf (by omega) (by omega)
    refine ok_eq ?_
    rw [El_R_doEdit, h, show ((i : Int)).toNat = i by omega]
    refine ok_e (by omega) (ok_ib (by omega) ?_)
    by_cases c : R.1 136 i = x1
    · have k2 : kn (fun k => decide (R.1 136 k = x1)) (i + 1) = kn (fun k => decide (R.1 136 k = x1)) i + 1 := by rw [kn, if_pos (decide_eq_true c)]
      rw [k2] at ih
      exact ok_e (fun z => z c) (ok_nb (by omega) (ok_nb (by omega) (ok_of ih ⟨rfl, rfl⟩)))
    · have k2 : kn (fun k => decide (R.1 136 k = x1)) (i + 1) = kn (fun k => decide (R.1 136 k = x1)) i := by rw [kn, if_neg (by rw [decide_eq_true_eq]; exact c), Nat.add_zero]
      rw [k2] at ih
      refine ok_t c (ok_nb (by omega) (ok_nb (by omega) ?_))
      rw [Int.add_zero]
      exact ok_of ih ⟨rfl, rfl⟩
end
section
-- dt
/-- a record is edited -/
theorem t_edit {e : w_E} {N : Nat} {S R : w_S} {x1 f len top : Int} {G : Int → Int} {ta L E V n : Nat} (hN : 2000000 ≤ N) (h : TX S f len G) (hr : TR R len G) (h4 : S.1 1 4 = f) (h6 : S.1 1 6 = -1) (hB : TB S R f len) (hC : RelCk S R) (hs : S.1 27 2 = 0 ∨ S.1 27 2 = 1) (hst : R.1 129 96 = S.1 27 2) (hG : RelG S R) (hv : RelVr S R top ta L E V n) (ht : top ≤ f + len) (hd : R.1 129 12 = S.1 27 1) (hd0 : 0 ≤ S.1 27 1) (hnx : R.2.2.2.1 < 899000) : Ok (E_C_editRecord e N x1 S) (fun y S1 => Ok (E_R_doEdit e N x1 R) (fun y' R1 => y' = y ∧ ((y < 0 ∧ frm [121, 122, 123, 125, 126, 127] [1, 120] [(120, 0), (1, 4), (1, 6)] S S1 ∧ R1 = w_put R 129 4 1) ∨ (0 ≤ y ∧ 1 ≤ x1 ∧ x1 ≤ n ∧ V < 400 ∧ frm [4, 6, 8, 9, 10, 11, 12, 13, 14, 15, 16, 121, 122, 123, 125, 126, 127] [1, 3, 120] [(120, 0), (1, 4), (1, 6), (3, 5)] S S1 ∧ frw [135, 136, 137, 138, 139, 140] [129] [(129, 17), (129, 23)] R R1 ∧ S1.1 6 = pt (S.1 6) x1.toNat (S.1 27 1) ∧ R1.1 135 = pt (R.1 135) x1.toNat (S.1 27 1) ∧ R1.2.2.2.1 ≤ R.2.2.2.1 + 1 ∧ ∃ ta' L' E', RelVr S1 R1 (f + len) ta' L' E' (V + 1) n)))) := by
  have hh := hv
  obtain ⟨k1, k2, k3, k4, k5, k6, k7, k8, k9, k10, k11⟩ := hh
  clear k10 k11
  by_cases ok : 1 ≤ x1 ∧ x1 ≤ S.1 3 0 ∧ S.1 5 x1.toNat = -1
  · have ir := x_isRec1 (e := e) (N := N) hG ok
    obtain ⟨o1, o2, o3⟩ := ok
    obtain ⟨r, hrr⟩ : ∃ r : Nat, x1 = r := ⟨x1.toNat, by omega⟩
    subst hrr
    rw [show ((r : Int)).toNat = r by omega] at o3 ⊢
    have rb := rcq_bd hr 12 0 0 (by omega) hr.2.1
    obtain ⟨z, hz, y, S1, e1, T', a', w', q1, q2, q3⟩ := x_newV (e := e) (N := N) (by omega) h hr h4 h6 hB hC hs
    subst q1
    have fr := tp_fr (a := a') (w := w') q2
    unfold E_C_editRecord
    rw [show ((r : Int)).toNat = r by omega]
    refine ok_e (by omega) (ok_e (by omega) (ok_ib (by omega) (ok_e (fun w => w o3) (ok_b (ok_of e1 ?_)))))
    dsimp only
    have bad : ∀ P, (rcq G len 12 0 0 < 0 → P (-999 + rcq G len 12 0 0) (w_put R 129 4 1)) → (0 ≤ rcq G len 12 0 0 → S.1 27 2 = 1 → 0 ≤ z → P (-12) (w_put R 129 4 1)) → (0 ≤ rcq G len 12 0 0 → (S.1 27 2 = 0 ∨ z = -1) → R.1 129 17 = 400 → P (-4) (w_put R 129 4 1)) → (0 ≤ rcq G len 12 0 0 → (S.1 27 2 = 0 ∨ z = -1) → R.1 129 17 ≠ 400 → Ok ((E_R_addVersion e N (r : Int) (R.1 129 2) 130 R).bind (fun q720 => El_R_doEdit e N N 0 [(r : Int), 0, 0] [] q720.2)) P) → (S.1 27 2 = 1 → 0 ≤ rcq G len 12 0 0 → 0 ≤ z ∨ z = -1) → Ok (E_R_doEdit e N (r : Int) R) P := by
      intro P p1 p2 p3 p4 p5
      unfold E_R_doEdit
      refine ok_b (ok_of ir ?_)
      dsimp only
      refine ok_t (by omega) (ok_b (ok_of (x_recordText (e := e) (by omega) hr) ?_))
      dsimp only
      by_cases c : 0 ≤ rcq G len 12 0 0
      · refine ok_t c ?_
        have rest : (S.1 27 2 = 0 ∨ z = -1) → Ok (if (R.1 129 17) ≠ 400 then ((E_R_addVersion e N (r : Int) (R.1 129 2) 130 R).bind (fun q720 => El_R_doEdit e N N 0 [(r : Int), 0, 0] [] q720.2)) else some ((-4), (w_put R 129 4 1))) P := by
          intro w
          by_cases b : R.1 129 17 = 400
          · exact ok_e (fun k => k b) (ok_s (p3 c w b))
          · exact ok_t b (p4 c w b)
        by_cases d : R.1 129 96 = 0
        · exact ok_t d (rest (Or.inl (by omega)))
        · have hz' : E_R_firstBroken e N (R.1 129 2) 0 130 R = some (z, R) := by
            rcases hz with hz | hz
            · exact hz
            · omega
          refine ok_e d (ok_b (ok_of hz' ?_))
          dsimp only
          by_cases b : z = -1
          · exact ok_t b (rest (Or.inr b))
          · exact ok_e b (ok_s (p2 c (by omega) (by have := p5 (by omega) c; omega)))
      · exact ok_e c (ok_nb (by omega) (ok_s (p1 (by omega))))
    rcases q3 with ⟨c, cy⟩ | ⟨c, c1, c2, c3⟩ | ⟨c, c1, c2, c3, c4⟩
    · exact ok_e (by omega) (ok_s (bad _ (fun _ => ⟨by omega, Or.inl ⟨by omega, fr, rfl⟩⟩) (fun q => by omega) (fun q => by omega) (fun q => by omega) (fun _ q => by omega)))
    · exact ok_e (by omega) (ok_s (bad _ (fun q => by omega) (fun _ _ _ => ⟨by omega, Or.inl ⟨by omega, fr, rfl⟩⟩) (fun _ q => by omega) (fun _ q => by omega) (fun _ _ => Or.inl c2)))
    · obtain ⟨g1, g2, g3, g4, g5, g6⟩ := rec_doc h hr hB c
      have b35 : (tp T' a' w').1 3 5 = V := by rw [fr.2.1 3 rfl rfl, k3]
      have b30 : (tp T' a' w').1 3 0 = n := by rw [fr.2.1 3 rfl rfl, k6]
      have b27 : (tp T' a' w').1 27 1 = S.1 27 1 := by rw [fr.2.1 27 rfl rfl]
      have dr := c4.tp (a := a') (w := w')
      generalize tp T' a' w' = T at fr b30 b35 b27 dr
      refine ok_t c2 ?_
      rw [b35, b27]
      by_cases b : (V : Int) < 400
      · refine ok_t b ?_
        have lb := hr.2.2.1
        have t4 : T.1 4 = S.1 4 := fr.2.1 4 rfl rfl
        obtain ⟨y1, S2, x1, x2, y2, R2, x3, x4, x5, x6, ta', L', x7⟩ := both_add (e := e) (N := N) (a2 := 130) (m := 2000) (S := S) (R := R) (Sm := T) (Rm := R) (top := top) (top' := f + len) (d := S.1 27 1) (n1 := n) (r := r) (D := rcl G len 12 0 0) hN hv (by omega) ht (by omega) (by omega) (Or.inl rfl) k8 hd0 (by omega) (by omega) hnx (fun x hx => by
          rcases (show x = 2 ∨ x = 8 ∨ x = 9 ∨ x = 10 ∨ x = 11 ∨ x = 12 ∨ x = 13 ∨ x = 14 ∨ x = 15 ∨ x = 16 by omega) with rfl | rfl | rfl | rfl | rfl | rfl | rfl | rfl | rfl | rfl <;> rw [fr.2.1 _ rfl rfl]) b27 b30 (by rw [b35, k3]) (fun x _ _ _ => by rw [t4]) (by rw [t4, if_pos rfl]) (fun _ _ => rfl) hd k7 rfl rfl rfl dr g4 g5 g6 g3 (by omega) (by omega) (by omega) (by omega) (len130 R) g2 (fun u hu => (hB u (by omega)).2)
        have hh := x7
        obtain ⟨j1, j2, j3, j4, j5, j6, j7, j8, j9, j10, j11⟩ := hh
        have kb := kn_le (fun k => decide (R2.1 136 k = (r : Int))) (V + 1)
        have vo : E_Catalog_versionsOf e N (r : Int) S2 = some (((0 + kn (fun k => decide (R2.1 136 k = (r : Int))) (V + 1) : Nat) : Int), S2) := by
          refine ok_eq ?_
          unfold E_Catalog_versionsOf
          rw [show ((r : Int)).toNat = r by omega, (j10 r (by omega) (by omega)).1]
          refine ok_ib (by omega) ?_
          refine ok_of (l_vof (e := e) (N := N) (V := V + 1) (fun v hv' pv => ?_) (by omega) (V + 1) N 0 (by omega) (by omega) (by omega)) ⟨rfl, rfl⟩
          rw [(j11 v hv').1]
          have pv' : R2.1 136 v = (r : Int) := of_decide_eq_true pv
          rw [pv']
        have rd := l_red (e := e) (N := N) (x1 := (r : Int)) (R := R2) (V := V + 1) (by omega) j4 (V + 1) 0 N (by omega) (by omega)
        refine ok_b (ok_of x1 ?_)
        dsimp only
        refine ok_b (ok_of vo ?_)
        dsimp only
        refine ok_s ?_
        refine bad _ (fun q => by omega) (fun _ _ _ => by omega) (fun _ _ q => by omega) (fun _ _ _ => ?_) (fun _ _ => Or.inr (by omega))
        rw [hr.1, ← g1]
        refine ok_b (ok_of x3 ?_)
        dsimp only
        refine ok_of rd ⟨by omega, Or.inr ⟨by omega, by omega, by omega, by omega, ?_, x6, ?_, x5, x4, ta', L', E + (doc (rcl G len 12 0 0)).length, by rw [g1]; exact x7⟩⟩
        · refine frm.trans (fr.wide ?_ ?_ ?_) (x2.1.wide ?_ ?_ ?_) <;> first
            | (intro x hx
               simp only [List.contains_cons, List.contains_nil, Bool.or_false, Bool.or_eq_false_iff] at hx ⊢
               simp only [hx, and_self])
            | (intro x x' hx
               simp only [List.contains_cons, List.contains_nil, Bool.or_false, Bool.or_eq_false_iff] at hx ⊢
               simp only [hx, and_self])
        · rw [x2.2.2.2.2.2.1, fr.2.1 6 rfl rfl]
      · refine ok_e b (ok_s ?_)
        exact bad _ (fun q => by omega) (fun _ _ _ => by omega) (fun _ _ _ => ⟨by omega, Or.inl ⟨by omega, fr, rfl⟩⟩) (fun _ _ q => by omega) (fun _ _ => Or.inr (by omega))
  · have ir := x_isRec0 (e := e) (N := N) hG ok
    have fr0 : frm [121, 122, 123, 125, 126, 127] [1, 120] [(120, 0), (1, 4), (1, 6)] S S := frm.refl _ _ _ _
    have rf : Ok (E_R_doEdit e N x1 R) (fun y' R1 => y' = -1 ∧ R1 = w_put R 129 4 1) := by
      unfold E_R_doEdit
      refine ok_b (ok_of ir ?_)
      dsimp only
      exact ok_e (fun w => w rfl) (ok_s ⟨rfl, rfl⟩)
    have fin : Ok (E_R_doEdit e N x1 R) (fun y' R1 => y' = -1 ∧ (((-1 : Int) < 0 ∧ frm [121, 122, 123, 125, 126, 127] [1, 120] [(120, 0), (1, 4), (1, 6)] S S ∧ R1 = w_put R 129 4 1) ∨ (0 ≤ (-1 : Int) ∧ 1 ≤ x1 ∧ x1 ≤ n ∧ V < 400 ∧ frm [4, 6, 8, 9, 10, 11, 12, 13, 14, 15, 16, 121, 122, 123, 125, 126, 127] [1, 3, 120] [(120, 0), (1, 4), (1, 6), (3, 5)] S S ∧ frw [135, 136, 137, 138, 139, 140] [129] [(129, 17), (129, 23)] R R1 ∧ S.1 6 = pt (S.1 6) x1.toNat (S.1 27 1) ∧ R1.1 135 = pt (R.1 135) x1.toNat (S.1 27 1) ∧ R1.2.2.2.1 ≤ R.2.2.2.1 + 1 ∧ ∃ ta' L' E', RelVr S R1 (f + len) ta' L' E' (V + 1) n))) := Ok.mono rf (fun y' R1 w => ⟨w.1, Or.inl ⟨by omega, fr0, w.2⟩⟩)
    unfold E_C_editRecord
    by_cases a : x1 < 1
    · exact ok_t a (ok_s fin)
    · refine ok_e a ?_
      by_cases b : S.1 3 0 < x1
      · exact ok_t b (ok_s fin)
      · exact ok_e b (ok_ib (by omega) (ok_t (fun w => ok ⟨by omega, by omega, w⟩) (ok_s fin)))
end
section
-- du
theorem l_dr2 {e : w_E} {N : Nat} {R : w_S} {x1 : Int} {P : Int → w_S → Prop} (h0 : 0 ≤ R.1 129 127 ∧ R.1 129 127 ≤ 200) : ∀ (k n i : Nat) (b : Bool), k < n → (i : Int) + k = R.1 129 127 → Ok (if bi (b || anyb (fun j => decide (R.1 214 j = x1)) i k) = 0 then (if w_ib x1 151 = true then some (1, (w_put (w_put R 134 x1.toNat (R.1 129 12)) 135 x1.toNat (R.1 129 12))) else none) else some ((-3), (w_put R 129 4 1))) P → Ok (El_R_doDrop e N n 2 [x1, bi b, (i : Int)] [] R) P
  | _, 0, _, _, h, _, _ => by omega
  | 0, n + 1, i, b, g1, g2, g3 => by
    rw [anyb, Bool.or_false] at g3
    rw [El_R_doDrop]
    exact ok_t (by omega) g3
  | k + 1, n + 1, i, b, g1, g2, g3 => by
    rw [anyb] at g3
    rw [El_R_doDrop, show ((i : Int)).toNat = i by omega]
    refine ok_e (by omega) ?_
    cases b with
    | true =>
      refine ok_t (by decide) (ok_nb (by omega) ?_)
      exact l_dr2 (e := e) (N := N) h0 k n (i + 1) true (by omega) (by omega) (by rw [Bool.true_or] at g3 ⊢; exact g3)
    | false =>
      refine ok_e (fun w => w rfl) (ok_ib (by omega) ?_)
      by_cases c : R.1 214 i = x1
      · rw [decide_eq_true c, Bool.true_or] at g3
        refine ok_e (fun w => w c) (ok_nb (by omega) ?_)
        exact l_dr2 (e := e) (N := N) h0 k n (i + 1) true (by omega) (by omega) (by rw [Bool.true_or]; exact g3)
      · rw [decide_eq_false c, Bool.false_or] at g3
        refine ok_t c (ok_nb (by omega) ?_)
        exact l_dr2 (e := e) (N := N) h0 k n (i + 1) false (by omega) (by omega) g3
theorem l_dr1 {e : w_E} {N m : Nat} {R : w_S} {x1 : Int} {P : Int → w_S → Prop} (h0 : 0 ≤ R.1 129 131 ∧ R.1 129 131 ≤ 20) : ∀ (k n i : Nat) (b : Bool), k + m < n → 1 ≤ i → (i : Int) + k = R.1 129 131 + 1 → (∀ n', m ≤ n' → Ok (El_R_doDrop e N n' 2 [x1, bi (b || anyb (fun j => decide (R.1 217 j = x1)) i k), 0] [] R) P) → Ok (El_R_doDrop e N n 1 [x1, bi b, (i : Int)] [] R) P
  | _, 0, _, _, h, _, _, _ => by omega
  | 0, n + 1, i, b, g1, _, g2, g3 => by
    have g4 := g3 n (by omega)
    rw [anyb, Bool.or_false] at g4
    rw [El_R_doDrop]
    exact ok_t (by omega) g4
  | k + 1, n + 1, i, b, g1, g0, g2, g3 => by
    rw [anyb] at g3
    rw [El_R_doDrop, show ((i : Int)).toNat = i by omega]
    refine ok_e (by omega) ?_
    cases b with
    | true =>
      refine ok_t (by decide) (ok_nb (by omega) ?_)
      exact l_dr1 (e := e) (N := N) (m := m) h0 k n (i + 1) true (by omega) (by omega) (by omega) (by rw [Bool.true_or] at g3 ⊢; exact g3)
    | false =>
      refine ok_e (fun w => w rfl) (ok_ib (by omega) ?_)
      by_cases c : R.1 217 i = x1
      · rw [decide_eq_true c, Bool.true_or] at g3
        refine ok_e (fun w => w c) (ok_nb (by omega) ?_)
        exact l_dr1 (e := e) (N := N) (m := m) h0 k n (i + 1) true (by omega) (by omega) (by omega) (by rw [Bool.true_or]; exact g3)
      · rw [decide_eq_false c, Bool.false_or] at g3
        refine ok_t c (ok_nb (by omega) ?_)
        exact l_dr1 (e := e) (N := N) (m := m) h0 k n (i + 1) false (by omega) (by omega) (by omega) g3
theorem l_dr0 {e : w_E} {N m : Nat} {R : w_S} {x1 : Int} {P : Int → w_S → Prop} (h0 : 0 ≤ R.1 129 68 ∧ R.1 129 68 ≤ 200) : ∀ (k n i : Nat) (b : Bool), k + m < n → 1 ≤ i → (i : Int) + k = R.1 129 68 + 1 → (∀ n', m ≤ n' → Ok (El_R_doDrop e N n' 1 [x1, bi (b || anyb (fun j => decide (R.1 169 j = x1) && !decide (R.1 171 j = 3)) i k), 1] [] R) P) → Ok (El_R_doDrop e N n 0 [x1, bi b, (i : Int)] [] R) P
  | _, 0, _, _, h, _, _, _ => by omega
  | 0, n + 1, i, b, g1, _, g2, g3 => by
    have g4 := g3 n (by omega)
    rw [anyb, Bool.or_false] at g4
    rw [El_R_doDrop]
    exact ok_t (by omega) g4
  | k + 1, n + 1, i, b, g1, g0, g2, g3 => by
    rw [anyb] at g3
    rw [El_R_doDrop, show ((i : Int)).toNat = i by omega]
    refine ok_e (by omega) ?_
    cases b with
    | true =>
      refine ok_t (by decide) (ok_nb (by omega) ?_)
      exact l_dr0 (e := e) (N := N) (m := m) h0 k n (i + 1) true (by omega) (by omega) (by omega) (by rw [Bool.true_or] at g3 ⊢; exact g3)
    | false =>
      refine ok_e (fun w => w rfl) (ok_ib (by omega) ?_)
      by_cases c : R.1 169 i = x1
      · refine ok_e (fun w => w c) ?_
        by_cases d : R.1 171 i = 3
        · rw [decide_eq_true c, decide_eq_true d, Bool.not_true, Bool.and_false, Bool.false_or] at g3
          refine ok_t d (ok_nb (by omega) ?_)
          exact l_dr0 (e := e) (N := N) (m := m) h0 k n (i + 1) false (by omega) (by omega) (by omega) g3
        · rw [decide_eq_true c, decide_eq_false d, Bool.not_false, Bool.and_true, Bool.true_or] at g3
          refine ok_e d (ok_nb (by omega) ?_)
          exact l_dr0 (e := e) (N := N) (m := m) h0 k n (i + 1) true (by omega) (by omega) (by omega) (by rw [Bool.true_or]; exact g3)
      · rw [decide_eq_false c, Bool.false_and, Bool.false_or] at g3
        refine ok_t c (ok_nb (by omega) ?_)
        exact l_dr0 (e := e) (N := N) (m := m) h0 k n (i + 1) false (by omega) (by omega) (by omega) g3
end
section
-- dv
/-- a record is dropped -/
theorem t_drop {e : w_E} {N : Nat} {S R : w_S} {x1 : Int} (hN : 1000 ≤ N) (hG : RelG S R) (hQ : RelQ S R) (hCs : RelCs S R) (hCd : RelCd S R 0) (hB : RelB S R) : Ok (E_C_dropRecord e N x1 S) (fun y S1 => Ok (E_R_doDrop e N x1 R) (fun y' R1 => Pa S R (fun _ S1 R1 => 1 ≤ x1 ∧ x1 ≤ S.1 3 0 ∧ S.1 5 x1.toNat = -1 ∧ S1 = w_put (w_put S 5 x1.toNat (S.1 27 1)) 6 x1.toNat (S.1 27 1) ∧ R1 = w_put (w_put R 134 x1.toNat (R.1 129 12)) 135 x1.toNat (R.1 129 12)) y S1 y' R1)) := by
  have hG' := hG
  obtain ⟨g1, g2, g3, _⟩ := hG'
  obtain ⟨q1, q2, q3, q4, q5, _⟩ := hQ
  obtain ⟨c1, c2, c3, c4⟩ := hCs
  obtain ⟨b1, b2, b3, b4⟩ := hB
  unfold E_C_dropRecord E_R_doDrop
  by_cases ok : 1 ≤ x1 ∧ x1 ≤ S.1 3 0 ∧ S.1 5 x1.toNat = -1
  · have ir := x_isRec1 (e := e) (N := N) hG ok
    obtain ⟨o1, o2, o3⟩ := ok
    have e1 : anyb (fun j => decide (R.1 169 j = x1) && !decide (R.1 171 j = 3)) 1 (R.1 129 68).toNat = anyb (fun j => decide (S.1 63 j = x1) && !decide (S.1 65 j = 3)) 1 (S.1 62 3).toNat := by
      rw [c1]
      refine anyb_congr _ _ (fun k k1 k2 => ?_)
      rw [(c4 k k1 (by omega)).1, (hCd k k1 (by omega) (by omega)).1.1]
    have e2 : anyb (fun j => decide (R.1 217 j = x1)) 1 (R.1 129 131).toNat = anyb (fun j => decide (S.1 77 j = x1)) 1 (S.1 76 0).toNat := by
      rw [b1]
      refine anyb_congr _ _ (fun k k1 k2 => ?_)
      rw [(b4 k k1 (by omega)).1]
    have e3 : (anyb (fun j => decide (R.1 214 j = x1)) 0 (R.1 129 127).toNat = true) ↔ ¬ (((qof x1 (QC S.1)).length : Int) ≤ 0) := by
      rw [anyb_true]
      constructor
      · rintro ⟨k, k1, k2, k3⟩ w
        have m := (qst_mem (QR R.1)).mpr (lf_mem_of (qr R.1) (Nat.zero_le k) k2)
        rw [← q4] at m
        have m2 : qr R.1 k ∈ qof x1 (QC S.1) := List.mem_filter.mpr ⟨m, k3⟩
        have := List.length_pos_of_mem m2
        omega
      · intro w
        obtain ⟨z, hz⟩ := List.exists_mem_of_length_pos (l := qof x1 (QC S.1)) (by omega)
        have hz2 := List.mem_filter.mp hz
        rw [q4] at hz2
        obtain ⟨k, k1, k2, k3⟩ := lf_mem ((qst_mem _).mp hz2.1)
        refine ⟨k, k1, k2, ?_⟩
        have := hz2.2
        rw [k3] at this
        exact this
    refine ok_e (by omega) (ok_e (by omega) (ok_ib (by omega) (ok_e (fun w => w o3) (ok_b (ok_of (x_hasLeft hN ⟨c2, c3⟩) ?_)))))
    have rr : ∀ {P : Int → w_S → Prop}, Ok (if bi (anyb (fun j => decide (S.1 63 j = x1) && !decide (S.1 65 j = 3)) 1 (S.1 62 3).toNat || anyb (fun j => decide (S.1 77 j = x1)) 1 (S.1 76 0).toNat || anyb (fun j => decide (R.1 214 j = x1)) 0 (R.1 129 127).toNat) = 0 then (if w_ib x1 151 = true then some (1, (w_put (w_put R 134 x1.toNat (R.1 129 12)) 135 x1.toNat (R.1 129 12))) else none) else some ((-3), (w_put R 129 4 1))) P → Ok ((E_R_isRecord e N x1 R).bind (fun q724 => (if q724.1 ≠ 0 then El_R_doDrop e N N 0 [x1, 0, 1] [] q724.2 else some ((-1), (w_put q724.2 129 4 1))))) P := by
      intro P hp
      refine ok_b (ok_of ir ?_)
      dsimp only
      refine ok_t (by decide) ?_
      refine l_dr0 (m := 300) (by omega) (R.1 129 68).toNat N 1 false (by omega) (by omega) (by omega) (fun n' hn' => ?_)
      refine l_dr1 (m := 201) (by omega) (R.1 129 131).toNat n' 1 _ (by omega) (by omega) (by omega) (fun n'' hn'' => ?_)
      refine l_dr2 (by omega) (R.1 129 127).toNat n'' 0 _ (by omega) (by omega) ?_
      rw [Bool.false_or, e1, e2]
      exact hp
    cases f1 : anyb (fun j => decide (S.1 63 j = x1) && !decide (S.1 65 j = 3)) 1 (S.1 62 3).toNat with
    | true =>
      rw [f1] at rr
      refine ok_t (by dsimp only; decide) (ok_s (rr ?_))
      rw [Bool.true_or, Bool.true_or]
      exact ok_e (by decide) (ok_s ⟨rfl, Or.inl ⟨by decide, rfl, rfl⟩⟩)
    | false =>
      rw [f1] at rr
      have hs := ok_eq (l_hasSerial (e := e) (N := N) (S := S) (x1 := x1) ⟨b2, b3⟩ (S.1 76 0).toNat N 1 (by omega) (by omega) (by omega))
      rw [show (1 : Int).toNat = 1 from rfl] at hs
      refine ok_e (by dsimp only; decide) (ok_b (ok_of hs ?_))
      cases f2 : anyb (fun j => decide (S.1 77 j = x1)) 1 (S.1 76 0).toNat with
      | true =>
        rw [f2] at rr
        refine ok_t (by dsimp only; decide) (ok_s (rr ?_))
        rw [Bool.false_or, Bool.true_or]
        exact ok_e (by decide) (ok_s ⟨rfl, Or.inl ⟨by decide, rfl, rfl⟩⟩)
      | false =>
        rw [f2] at rr
        refine ok_e (by dsimp only; decide) (ok_b (ok_of (x_qlen hN ⟨q1, q2⟩) ?_))
        rw [Bool.false_or, Bool.false_or] at rr
        by_cases f3 : ((qof x1 (QC S.1)).length : Int) ≤ 0
        · have f4 : anyb (fun j => decide (R.1 214 j = x1)) 0 (R.1 129 127).toNat = false := by
            cases f5 : anyb (fun j => decide (R.1 214 j = x1)) 0 (R.1 129 127).toNat with
            | false => rfl
            | true => exact absurd f3 (e3.mp f5)
          rw [f4] at rr
          refine ok_t f3 (ok_s (rr ?_))
          exact ok_t (by decide) (ok_ib (by omega) (ok_s ⟨rfl, Or.inr ⟨by decide, o1, o2, o3, rfl, rfl⟩⟩))
        · rw [e3.mpr f3] at rr
          refine ok_e f3 (ok_s (rr ?_))
          exact ok_e (by decide) (ok_s ⟨rfl, Or.inl ⟨by decide, rfl, rfl⟩⟩)
  · have ir := x_isRec0 (e := e) (N := N) hG ok
    have rr : Ok ((E_R_isRecord e N x1 R).bind (fun q724 => (if q724.1 ≠ 0 then El_R_doDrop e N N 0 [x1, 0, 1] [] q724.2 else some ((-1), (w_put q724.2 129 4 1))))) (fun y' R1 => Pa S R (fun _ S1 R1 => 1 ≤ x1 ∧ x1 ≤ S.1 3 0 ∧ S.1 5 x1.toNat = -1 ∧ S1 = w_put (w_put S 5 x1.toNat (S.1 27 1)) 6 x1.toNat (S.1 27 1) ∧ R1 = w_put (w_put R 134 x1.toNat (R.1 129 12)) 135 x1.toNat (R.1 129 12)) (-1) S y' R1) := by
      refine ok_b (ok_of ir (ok_e (fun w => w rfl) (ok_s ⟨rfl, Or.inl ⟨by decide, rfl, rfl⟩⟩)))
    by_cases a1 : x1 < 1
    · exact ok_t a1 (ok_s rr)
    · refine ok_e a1 ?_
      by_cases a2 : S.1 3 0 < x1
      · exact ok_t a2 (ok_s rr)
      · refine ok_e a2 (ok_ib (by omega) ?_)
        exact ok_t (fun w => ok ⟨by omega, by omega, w⟩) (ok_s rr)
end
