section
-- hg
/-- a text of the log laid on the tape -/
def cpc (S : w_S) (sa F j m : Nat) : w_S := w_arr S 130 (fun u => if j ≤ u ∧ u < m then w_b (S.1 sa (F + u)) else S.1 130 u)
theorem cpc_0 (S : w_S) (sa F m : Nat) : cpc S sa F m m = S := by
  unfold cpc
  refine w_ext (fun c j => ?_) rfl
  rw [w_arr_r]
  by_cases h : c = 130
  · rw [if_pos h, if_neg (by omega), h]
  · rw [if_neg h]
theorem cpc_s (S : w_S) {sa F j m : Nat} (hs : sa ≠ 130) (h : j < m) : cpc (w_put S 130 j (w_b (S.1 sa (F + j)))) sa F (j + 1) m = cpc S sa F j m := by
  unfold cpc
  refine w_ext (fun c u => ?_) rfl
  simp only [w_arr_r, w_put_r, if_neg hs, reduceIte]
  by_cases hc : c = 130
  · rw [if_pos hc, if_pos hc]
    by_cases h1 : u = j
    · subst h1
      rw [if_neg (by omega), if_pos (by omega), pt_at, if_pos rfl]
    · rw [pt_at, if_neg h1]
      by_cases h2 : j ≤ u ∧ u < m
      · rw [if_pos h2, if_pos (by omega)]
      · rw [if_neg h2, if_neg (by omega)]
  · rw [if_neg hc, if_neg hc, if_neg hc]
theorem l_ag1 {e : w_E} {N sa Ls F len : Nat} {x1 x2 x3 : Int} {k : Nat} (hk : k < 512) (hl : len ≤ 2000) (hF : F + len ≤ Ls) (hL : Ls < 16000000) (hs : sa = 132 ∨ 238 ≤ sa) : ∀ (m i nf : Nat) (S : w_S), i + m = len → m < nf → S.1 129 2 = (len : Int) → S.2.1 0 = 131 → S.2.1 1 = sa → e_len Tr S 131 0 = some 3584 → e_len Tr S sa 1 = some Ls → S.1 131 (7 * k + 5) = (F : Int) → ∃ n', nf = n' + m ∧ El_R_again e N nf 1 [x1, x2, x3, 7 * (k : Int), (i : Int)] [] S = El_R_again e N n' 1 [x1, x2, x3, 7 * (k : Int), (len : Int)] [] (cpc S sa F i len)
  | 0, i, nf, S, g1, g2, g3, g4, g5, g6, g7, g8 => by
    have : i = len := by omega
    subst this
    exact ⟨nf, by omega, by rw [cpc_0]⟩
  | m + 1, i, 0, S, g1, g2, g3, g4, g5, g6, g7, g8 => by omega
  | m + 1, i, nf + 1, S, g1, g2, g3, g4, g5, g6, g7, g8 => by
    have ih := l_ag1 (e := e) (N := N) (Ls := Ls) (x1 := x1) (x2 := x2) (x3 := x3) hk hl hF hL hs m (i + 1) nf (w_put S 130 i (w_b (S.1 sa (F + i)))) (by omega) (by omega) (by rw [w_put_f (by decide)]; exact g3) g4 g5 g6 g7 (by rw [w_put_f (by decide)]; exact g8)
    obtain ⟨n', n1, n2⟩ := ih
    rw [cpc_s S (by omega) (by omega), show ((i + 1 : Nat) : Int) = (i : Int) + 1 by omega] at n2
    refine ⟨n', by omega, ?_⟩
    rw [← n2, El_R_again, g3, g4, g5, if_neg (by omega), if_pos (by rw [w_nbE]; omega), g6]
    rw [Option.bind_some, show (7 * (k : Int) + 5).toNat = 7 * k + 5 by omega, g8, if_pos (by omega), if_pos (by omega), if_pos (by rw [w_nbE]; omega), g7, Option.bind_some, if_pos (by omega), if_pos (by omega), if_pos (by rw [w_ibE]; omega), if_pos (by rw [w_nbE]; omega), show ((i : Int)).toNat = i by omega, show ((F : Int) + (i : Int)).toNat = F + i by omega]
theorem frm.sym {L O : List Nat} {J : List (Nat × Nat)} {S S' : w_S} (h : frm L O J S S') : frm L O J S' S := ⟨h.1.symm, fun b h1 h2 => (h.2.1 b h1 h2).symm, fun b j h1 h2 => (h.2.2 b j h1 h2).symm⟩
/-- the reference while it does acts again -/
def AgI (e : w_E) (N : Nat) (j T : Nat → Int) (R0 : w_S) (sa Ls k : Nat) (Z : w_S) : Prop := Al e N j T k Z ∧ (Z.1 131 = R0.1 131 ∧ Z.1 sa = R0.1 sa ∧ Z.1 237 = R0.1 237) ∧ Sd Z sa Ls ∧ sa ≠ Z.2.1 2 ∧ Wk2 Z ∧ (Z.2.2.2.1 ≤ R0.2.2.2.1 + (Z.1 129 17).toNat ∧ Z.2.2.2.2 + 2 * tl R0 ≤ R0.2.2.2.2 + 2 * tl Z) ∧ (∀ u, u = 8 ∨ u = 9 ∨ u = 10 ∨ u = 11 → Z.1 129 u = R0.1 129 u)
theorem AgI.fr {e : w_E} {N sa Ls k : Nat} {j T : Nat → Int} {R0 Z Z1 : w_S} {L O : List Nat} {J : List (Nat × Nat)} (h : AgI e N j T R0 sa Ls k Z) (hg : frm L O J Z Z1) (d : (L.all (fun b => [130, 150, 152, 153, 154, 155, 156, 157, 158, 193].contains b) && (O.all (fun b => [129].contains b) && J.all (fun b => [(129, 2), (129, 3), (129, 4), (129, 37), (129, 40), (129, 46), (129, 48), (129, 97), (129, 159)].contains b))) = true) (ta : Z.2.1 2 = 140 ∨ 238 ≤ Z.2.1 2) (nx : Z.2.2.2.1 ≤ 899000) : AgI e N j T R0 sa Ls k Z1 := by
  have hg2 := hg.weak d
  obtain ⟨h1, ⟨h2, h3, h4⟩, h5, h6, h7, h8, h9⟩ := h
  have e2 : Z1.2 = Z.2 := hg.1
  have rsa : Z1.1 sa = Z.1 sa := by
    rcases h5.2.2.1 with z | z
    · rw [z]
      exact hg2.2.1 132 (by decide) (by decide)
    · have := hck_hi (L' := [130, 150, 152, 153, 154, 155, 156, 157, 158, 193]) (O' := [129]) (by decide) z
      exact hg2.2.1 sa this.1 this.2
  refine ⟨h1.rf (frn.of hg2 (by decide) ta) (by rw [e2]; exact nx), ⟨by rw [hg2.2.1 131 (by decide) (by decide)]; exact h2, by rw [rsa]; exact h3, by rw [hg2.2.1 237 (by decide) (by decide)]; exact h4⟩, ?_, by rw [e2]; exact h6, h7.cg e2, by rw [tl_cg e2, e2, hg2.2.2 129 17 (by decide) (by decide)]; exact h8, fun u hu => ?_⟩
  · obtain ⟨t1, t2, t3, t4, t5, t6, t7, t8⟩ := h5
    refine ⟨by rw [e2]; exact t1, by rw [e2]; exact t2, t3, by rw [e2]; exact t4, ?_, t6, t7, ?_⟩
    · unfold e_len w_a at t5 ⊢
      rw [e2]
      exact t5
    · unfold e_len w_a at t8 ⊢
      rw [e2]
      exact t8
  · rw [← h9 u hu]
    rcases hu with rfl | rfl | rfl | rfl <;> exact hg2.2.2 129 _ (by decide) (by decide)
/-- what the reference is before an act is done again -/
def AgT (e : w_E) (N : Nat) (j T : Nat → Int) (R0 : w_S) (sa Ls k : Nat) (Z : w_S) : Prop := AgI e N j T R0 sa Ls k Z ∧ Z.2.2.2.1 + 150 < 899000 ∧ Z.1 129 4 = 0 ∧ (32 ≤ j (6 * k) → Z.1 129 2 = j (6 * k + 5) ∧ ∀ p : Nat, (p : Int) < j (6 * k + 5) → Z.1 130 p = T ((kp j k).toNat + p))
/-- an act that is no batch, done again -/
theorem ag_act {e : w_E} {N sa Ls k : Nat} {j T : Nat → Int} {R0 Z C1 : w_S} (hN : 16000000 ≤ N) (hj : Eok j k) (h42 : j (6 * k) ≠ 42) (hZ : AgT e N j T R0 sa Ls k Z) (hC1 : Rch e N j T (k + 1) C1) : ∃ y' Z1, E_R_perform e N (km (j (6 * k))) (j (6 * k + 1)) (j (6 * k + 2)) (j (6 * k + 3)) (j (6 * k + 4)) Z = some (y', Z1) ∧ AgI e N j T R0 sa Ls (k + 1) Z1 ∧ Z.1 129 17 ≤ Z1.1 129 17 := by
  obtain ⟨hI, nx, z4, htx⟩ := hZ
  obtain ⟨h1, ⟨h2, h3, h4⟩, h5, h6, h7, h8, h9⟩ := hI
  obtain ⟨C, C', y, C2, c1, c2, c3, c4, c5, c6, c7, c8⟩ := hC1
  have hX : Rdy j T k Z := ⟨nx, z4, h7.1, fun z => absurd z h42, fun z => absurd z h42, htx⟩
  obtain ⟨ta, L, E, V, n, hH, y2, S1, q1, y', Z1, q2, q3⟩ := r_tan hN hj hX h1 c1 c2 c3 c4 c5
  rw [c6] at q1
  obtain ⟨rfl, rfl⟩ := Prod.mk.inj (Option.some.inj q1)
  obtain ⟨pA, pH, pO, pB⟩ := q3
  obtain ⟨oc, or⟩ := pO (Or.inl h42)
  obtain ⟨_, _, gnx, pH⟩ := pH
  rcases pH with ⟨z, _⟩ | ⟨_, r4, ta', L', E', V', n', hH1, hV, hn⟩
  · omega
  have v17 : Z.1 129 17 = (V : Int) := hH.2.2.2.2.2.2.2.2.2.2.2.2.2.1.2.2.2.1
  have v17b : Z1.1 129 17 = (V' : Int) := hH1.2.2.2.2.2.2.2.2.2.2.2.2.2.1.2.2.2.1
  have v35 : C2.1 3 5 = (V' : Int) := hH1.2.2.2.2.2.2.2.2.2.2.2.2.2.1.2.2.1
  have z40 : Z1.1 129 4 = 0 := r4.trans z4
  obtain ⟨⟨w1, w2, w3, w4, w5⟩, w6, w7⟩ := or.2.2
  have hn238 : 238 ≤ Z.2.2.2.1 := hH.2.2.2.2.2.2.2.2.2.2.2.2.2.1.1.2.2.2.1
  obtain ⟨t1, t2, t3, t4, t5, t6, t7, t8⟩ := h5
  refine ⟨y', Z1, q2, ⟨r_all hN hj hX h1 q2 z40, ⟨by rw [or.1 131 rfl]; exact h2, ?_, by rw [or.1 237 rfl]; exact h4⟩, ⟨by rw [w1 0 (by decide) (by decide) (by decide)]; exact t1, by rw [w1 1 (by decide) (by decide) (by decide)]; exact t2, t3, by omega, ?_, t6, t7, ?_⟩, ?_, h7.kp w6 w7 (fun b hb => w2 b (by omega)), by omega, fun u hu => ?_⟩, by omega⟩
  · rcases t3 with z | z
    · rw [z, or.1 132 rfl, ← z]
      exact h3
    · rw [w5 sa z t4 h6]
      exact h3
  · unfold e_len w_a at t5 ⊢
    rw [w2 sa t4]
    exact t5
  · unfold e_len w_a at t8 ⊢
    rw [w2 131 (by omega)]
    exact t8
  · rcases w4 with z | z
    · rw [z]
      exact h6
    · omega
  · rw [← h9 u hu]
    rcases hu with rfl | rfl | rfl | rfl <;> exact or.2.1 129 _ rfl
/-- a dispose that took nothing, left out -/
theorem ag_skip {e : w_E} {N sa Ls k : Nat} {j T : Nat → Int} {R0 R Z C1 : w_S} (hN : 16000000 ≤ N) (hj : Eok j k) (h31 : j (6 * k) = 31) (hZ : AgT e N j T R0 sa Ls k Z) (hG : Gh e N j T R k) (hg : R.1 131 (7 * k + 1) ≤ 0) (hC1 : Rch e N j T (k + 1) C1) : AgI e N j T R0 sa Ls (k + 1) Z := by
  have h42 : j (6 * k) ≠ 42 := by omega
  obtain ⟨hI, nx, z4, htx⟩ := hZ
  have hI0 := hI
  obtain ⟨h1, h2, h5, h6, h7, h8, h9⟩ := hI
  have hX : Rdy j T k Z := ⟨nx, z4, h7.1, fun z => absurd z h42, fun z => absurd z h42, htx⟩
  obtain ⟨X, X1, yx, x1, x2, x3, x4, x5, _⟩ := hG
  refine ⟨fun D1 hD1 => ?_, h2, h5, h6, h7, h8, h9⟩
  obtain ⟨C, C', y, C2, c1, c2, c3, c4, c5, c6, c7, c8⟩ := hD1
  obtain ⟨ta, L, E, V, n, hH, y2, S1, q1, y', Z1, q2, q3⟩ := r_tan hN hj hX h1 c1 c2 c3 c4 c5
  obtain ⟨_, _, _, _, _, _, y3, S3, p1, yx2, X2, p2, p3⟩ := r_tan hN hj x1 x2 c1 c2 c3 c4 c5
  rw [c6] at q1 p1
  obtain ⟨rfl, rfl⟩ := Prod.mk.inj (Option.some.inj q1)
  obtain ⟨rfl, rfl⟩ := Prod.mk.inj (Option.some.inj p1)
  rw [x3] at p2
  obtain ⟨rfl, rfl⟩ := Prod.mk.inj (Option.some.inj p2)
  have e1 := p3.1.1 (by omega) (by omega)
  have e2 := q3.1.1 (by omega) (by omega)
  have e3 := x5 h31
  have y0 : y = 0 := by omega
  have hy' : y' = 0 := by omega
  rw [h31, show km 31 = 44 from rfl] at q2
  simp only [pr_44] at q2
  rw [hy'] at q2
  have fd := dis0 hN (by have := hj.2.2.2.2.2.2.1; have : kp j (k + 1) = kp j k + j (6 * k + 5) := rfl; have := hj.2.2.2.1; omega) c5 hH q2
  rcases q3.2.1.2.2.2 with ⟨z, _⟩ | ⟨_, _, ta', L', E', V', n', hH1, _⟩
  · omega
  · exact ⟨ta', L', E', V', n', (hH1.rf (frn.of fd.sym (by decide) hH1.ta) (by omega)).same c8⟩
/-- a batch, done again: its records, as they were recorded -/
theorem ag_bat {e : w_E} {N sa Ls k : Nat} {j T : Nat → Int} {R0 Z C1 : w_S} (hN : 16000000 ≤ N) (hj : Eok j k) (h42 : j (6 * k) = 42) (hZ : AgT e N j T R0 sa Ls k Z) (hG : Gh e N j T R0 k) (h400 : R0.1 131 (7 * k + 1) + R0.1 131 (7 * k + 2) ≤ 400) (hC1 : Rch e N j T (k + 1) C1) : ∃ y' Z1, E_R_repeats e N (R0.1 131 (7 * k + 1)) (R0.1 131 (7 * k + 2)) Z = some (y', Z1) ∧ AgI e N j T R0 sa Ls (k + 1) Z1 ∧ R0.1 131 (7 * k + 1) + R0.1 131 (7 * k + 2) ≤ Z1.1 129 17 ∧ 0 ≤ R0.1 131 (7 * k + 1) + R0.1 131 (7 * k + 2) := by
  obtain ⟨hI, nx, z4, htx⟩ := hZ
  have hI0 := hI
  obtain ⟨h1, ⟨h2, h3, h4⟩, h5, h6, h7, h8, h9⟩ := hI
  obtain ⟨X, X1, yx, x1, x2, x3, x4, _, x6⟩ := hG
  obtain ⟨g1, g2, g3, g4, g5⟩ := x6 h42
  have taZ : Z.2.1 2 = 140 ∨ 238 ≤ Z.2.1 2 := by
    obtain ⟨C, C', y, C2, c1, _⟩ := hC1
    obtain ⟨_, _, _, _, _, hh⟩ := h1 C c1
    exact hh.ta
  -- the state with nothing recorded
  have fh : frm [] [129] [(129, 159)] Z (w_put Z 129 159 0) := by repeat (first | exact frm.refl _ _ _ _ | refine frm.put ?_ rfl | refine frm.puto ?_ rfl rfl)
  generalize hZh : w_put Z 129 159 0 = Zh at fh
  have z159 : Zh.1 129 159 = 0 := by rw [← hZh, w_put_r, if_pos rfl, pt_at, if_pos rfl]
  have oh : ∀ u, u ≠ 159 → Zh.1 129 u = Z.1 129 u := fun u hu => by rw [← hZh, w_put_r, if_pos rfl, pt_at, if_neg hu]
  have ch : ∀ a, a ≠ 129 → Zh.1 a = Z.1 a := fun a ha => by rw [← hZh, w_put_f ha]
  have eh : Zh.2 = Z.2 := fh.1
  have hAh : Al e N j T k Zh := h1.rf (frn.of fh (by decide) taZ) (by rw [eh]; omega)
  have hXh : ∀ V : Nat, Zh.1 129 17 = (V : Int) → Rdy j T k Zh := fun V hV => ⟨by rw [eh]; exact nx, by rw [oh 4 (by decide)]; exact z4, h7.1.cg eh, fun _ => by omega, fun _ => by omega, fun z => by rw [oh 2 (by decide), ch 130 (by decide)]; exact htx z⟩
  have kk : kp j (k + 1) = kp j k + j (6 * k + 5) := rfl
  -- one state of the class
  have one : ∀ D1, Rch e N j T (k + 1) D1 → ∃ y' Z1, E_R_repeats e N (R0.1 131 (7 * k + 1)) (R0.1 131 (7 * k + 2)) Z = some (y', Z1) ∧ (∃ ta L E V n, Hs D1 Z1 ((k + 1 : Nat) : Int) (kp j (k + 1)) ta L E V n) ∧ kpb Z Z1 ∧ (∀ a, (a = 131 ∨ a = 132) → Z1.1 a = Z.1 a) ∧ Z1.1 237 = Z.1 237 ∧ RelWk Z1 ∧ Z1.2.2.2.1 + (Z.1 129 17).toNat ≤ Z.2.2.2.1 + (Z1.1 129 17).toNat ∧ (∀ u, u = 8 ∨ u = 9 ∨ u = 10 ∨ u = 11 → Z1.1 129 u = Z.1 129 u) ∧ R0.1 131 (7 * k + 1) + R0.1 131 (7 * k + 2) ≤ Z1.1 129 17 ∧ 0 ≤ R0.1 131 (7 * k + 1) + R0.1 131 (7 * k + 2) := by
    intro D1 hD1
    obtain ⟨C, C', y, C2, c1, c2, c3, c4, c5, c6, c7, c8⟩ := hD1
    obtain ⟨_, _, _, V0, _, hH0⟩ := hAh C c1
    have v0 : Zh.1 129 17 = (V0 : Int) := hH0.2.2.2.2.2.2.2.2.2.2.2.2.2.1.2.2.2.1
    obtain ⟨ta, L, E, V, n, hH, y2, S1, q1, y', Zd, q2, q3⟩ := r_tan hN hj (hXh V0 v0) hAh c1 c2 c3 c4 c5
    obtain ⟨tx, Lx, Ex, Vx, nx2, hHx, y3, S3, p1, yx2, X2, p2, p3⟩ := r_tan hN hj x1 x2 c1 c2 c3 c4 c5
    rw [c6] at q1 p1
    obtain ⟨rfl, rfl⟩ := Prod.mk.inj (Option.some.inj q1)
    obtain ⟨rfl, rfl⟩ := Prod.mk.inj (Option.some.inj p1)
    rw [x3] at p2
    obtain ⟨rfl, rfl⟩ := Prod.mk.inj (Option.some.inj p2)
    have pbx := p3.2.2.2 h42 c7
    have hv := hH.2.2.2.2.2.2.2.2.2.2.2.2.2.1
    have hvx := hHx.2.2.2.2.2.2.2.2.2.2.2.2.2.1
    have eV : Vx = V := by
      have a := hv.2.2.1
      have b := hvx.2.2.1
      omega
    subst eV
    rcases q3.2.1.2.2.2 with ⟨z, _⟩ | ⟨_, _, td, Ld, Ed, Vd, nd, hHd, hVd, hnd⟩
    · omega
    rcases p3.2.1.2.2.2 with ⟨z, _⟩ | ⟨_, _, tx', Lx', Ex', Vx', nx', hHx1, _, _⟩
    · omega
    have hvd := hHd.2.2.2.2.2.2.2.2.2.2.2.2.2.1
    have hvx1 := hHx1.2.2.2.2.2.2.2.2.2.2.2.2.2.1
    have e136 := vr_136 hvd hvx1
    obtain ⟨_, _, _, _, b5, b6, b7, b8⟩ := pbx
    have v17d : C2.1 3 5 = (Vd : Int) := hvd.2.2.1
    have v17x : C2.1 3 5 = (Vx' : Int) := hvx1.2.2.1
    have v17x2 : X1.1 129 17 = (Vx' : Int) := hvx1.2.2.2.1
    have zV : Z.1 129 17 = (Vx : Int) := by
      rw [← oh 17 (by decide)]
      exact hv.2.2.2.1
    have x159 := x1.2.2.2.2.1 h42
    have x159b := x1.2.2.2.1 h42
    have xV : X.1 129 17 = (Vx : Int) := hvx.2.2.2.1
    obtain ⟨fr, hfr⟩ : ∃ q : Nat, R0.1 131 (7 * k + 1) = (q : Int) := ⟨(R0.1 131 (7 * k + 1)).toNat, by omega⟩
    have hmy : R0.1 131 (7 * k + 2) = y := by omega
    -- the class's and the reference's run
    obtain ⟨j1, j2, j3, j4, j5, j6, j7, j8⟩ := hj
    rw [kk] at j7 c4
    rw [h42] at c6
    have hb0 : ∀ p, -128 ≤ C'.1 2 p ∧ C'.1 2 p ≤ 127 := c5
    obtain ⟨t10a, t10b⟩ := htx (by omega)
    have t10 : ∀ p : Nat, (p : Int) < j (6 * k + 5) → Zh.1 130 p = C'.1 2 ((kp j k).toNat + p) := fun p hp => by
      rw [ch 130 (by decide), t10b p hp, c4 _ (by omega)]
    have tx1 : TX C' (kp j k) (j (6 * k + 5)) (txt Zh (j (6 * k + 5))) := by
      refine ⟨c3.1, c3.2.1, j6, j4, j5, j7, fun p hp => ⟨fun hl => ?_, fun hl => ?_⟩⟩
      · have k1 := t10 p.toNat (by omega)
        have k2 := hb0 ((kp j k).toNat + p.toNat)
        have k4 := b_and255 (C'.1 2 ((kp j k).toNat + p.toNat)) k2.1 k2.2
        rw [show (kp j k + p).toNat = (kp j k).toNat + p.toNat by omega]
        unfold txt
        rw [if_pos hl, k1]
        exact ⟨k2.1, k2.2, rfl, k4⟩
      · unfold txt
        rw [if_neg (by omega)]
    have tr1 : TR Zh (j (6 * k + 5)) (txt Zh (j (6 * k + 5))) := by
      refine ⟨by rw [oh 2 (by decide)]; exact t10a, j4, j5, fun p hp => ⟨fun hl => ?_, fun hl => ?_⟩⟩
      · have k1 := t10 p.toNat (by omega)
        have k2 := hb0 ((kp j k).toNat + p.toNat)
        have k4 := b_and255 (C'.1 2 ((kp j k).toNat + p.toNat)) k2.1 k2.2
        unfold txt
        rw [if_pos hl]
        refine ⟨rfl, ?_⟩
        rw [k1, k4]
        split <;> omega
      · unfold txt
        rw [if_neg (by omega)]
    have hbz : ∀ p : Nat, (p : Int) < j (6 * k + 5) → -128 ≤ Zh.1 130 p ∧ Zh.1 130 p ≤ 127 := fun p hp => by
      rw [t10 p hp]
      exact hb0 _
    have dy := hH.day
    have hL := hH.2.2.1
    obtain ⟨y4, S4, r1, y5, Zd2, r2, r3⟩ := t_rep (e := e) (N := N) (Z := Z) hN tx1 tr1 c3.2.2.1 c3.2.2.2 hbz hH.2.2.2.2.2.2.2.1 hH.2.2.2.2.2.1.2 hH.2.2.2.2.2.1.1 dy.1 dy.2.1 hb0 (h7.1.cg eh) hv hH.2.2.2.2.2.2.2.2.2.2.2.2.2.2.1 hH.2.2.2.2.2.2.2.2.2.2.1 hH.2.2.2.2.2.2.2.2.2.2.2.1 hL.2.2.2.1 (by omega) (by omega) (by omega) (by rw [eh]; exact nx) (fun a ha => (ch a ha).symm) (fun u hu => (oh u hu).symm) eh.symm
    simp only [pc_42] at c6
    rw [c6] at r1
    obtain ⟨rfl, rfl⟩ := Prod.mk.inj (Option.some.inj r1)
    rw [h42, show km 42 = 41 from rfl] at q2
    simp only [pr_41] at q2
    rw [q2] at r2
    obtain ⟨rfl, rfl⟩ := Prod.mk.inj (Option.some.inj r2)
    obtain ⟨fS, yb, R2, w1, w2, w3⟩ := r3 c7
    have w4 := w3 fr (by omega) (fun v v1 v2 => by
      have q := b8 v v1 (by omega)
      rw [← e136 v (by omega), q, ← g5 _ (by omega) (by omega), ch 237 (by decide), h4, show (X.1 129 159).toNat = fr by omega])
    obtain ⟨yr, Z1, w5, ⟨ta1, L1, E1, V1, m1, m2, m3⟩, m4, m5, m6, m7, m8⟩ := w4
    have hb2 := hs_bt (Rm := R2) (hH.rf (frn.of fh.sym (by decide) hH.ta) (by omega)) (show kp j k ≤ kp j k + j (6 * k + 5) by omega) fS (w2.weak (by decide)) m4 m1 (fun u hu => m8 u (by rw [ch 135 (by decide)]; exact hu))
    have z17 : Z1.1 129 17 = (V1 : Int) := m1.2.2.2.1
    rw [eh] at m3
    by_cases y0 : y = 0
    · -- nothing was changed
      have e2 : Z1 = R2 := by
        obtain ⟨N1, hN1⟩ : ∃ q, N = q + 1 := ⟨N - 1, by omega⟩
        rw [y0, hN1, El_R_repeats, if_pos (by rw [w_nbE]; omega), if_pos (by omega)] at w5
        exact (Prod.mk.inj (Option.some.inj w5)).2.symm
      subst e2
      have w2s := w2.sym
      refine ⟨0, Z, ?_, ?_, ⟨fun _ _ _ _ => rfl, fun _ _ => rfl, ⟨Nat.le_refl _, Nat.le_refl _⟩, Or.inl rfl, fun _ _ _ _ => rfl⟩, fun _ _ => rfl, rfl, h7.1, Nat.le_refl _, fun _ _ => rfl, by omega, by omega⟩
      · unfold E_R_repeats
        rw [hmy, y0, if_neg (fun z => z rfl)]
      · exact ⟨ta1, L1, E1, V1, n, (hb2.1.rf (frn.of w2s (by decide) hb2.1.ta) (by omega)).same c8⟩
    · refine ⟨yr, Z1, ?_, ⟨ta1, L1, E1, V1, n, hb2.1.same c8⟩, hb2.2, fun a ha => ?_, by rw [m6], m5, by omega, fun u hu => ?_, by omega, by omega⟩
      · refine ok_eq ?_
        unfold E_R_repeats
        rw [hmy, hfr]
        exact ok_t y0 (ok_b (ok_of w1 (ok_of w5 ⟨rfl, rfl⟩)))
      · rcases ha with rfl | rfl
        · rw [m4.1 131 (by decide) (by decide) (by decide) (by decide) (by decide) (by decide) (by decide), w2.2.1 131 rfl rfl]
        · rw [m4.1 132 (by decide) (by decide) (by decide) (by decide) (by decide) (by decide) (by decide), w2.2.1 132 rfl rfl]
      · rw [m4.2.1 u (by omega) (by omega) (by omega) (by omega)]
        rcases hu with rfl | rfl | rfl | rfl <;> exact w2.2.2 129 _ rfl rfl
  obtain ⟨y', Z1, o1, _, ⟨w1, w2, w3, w4, w5⟩, o4, o5, o6, o7, o8, o9, o10⟩ := one C1 hC1
  have n238 : 238 ≤ Z.2.2.2.1 := by
    obtain ⟨C, C', y, C2, c1, _⟩ := hC1
    obtain ⟨_, _, _, _, _, hh⟩ := h1 C c1
    exact hh.2.2.2.2.2.2.2.2.2.2.2.2.2.1.1.2.2.2.1
  have z17p : 0 ≤ Z.1 129 17 := by
    obtain ⟨C, C', y, C2, c1, _⟩ := hC1
    obtain ⟨_, _, _, V, _, hh⟩ := h1 C c1
    have := hh.2.2.2.2.2.2.2.2.2.2.2.2.2.1.2.2.2.1
    omega
  obtain ⟨t1, t2, t3, t4, t5, t6, t7, t8⟩ := h5
  refine ⟨y', Z1, o1, ⟨fun D1 hD1 => ?_, ⟨by rw [o4 131 (Or.inl rfl)]; exact h2, ?_, by rw [o5]; exact h4⟩, ⟨by rw [w1 0 (by decide) (by decide) (by decide)]; exact t1, by rw [w1 1 (by decide) (by decide) (by decide)]; exact t2, t3, by omega, ?_, t6, t7, ?_⟩, ?_, ⟨o6, fun b hb => by rw [w2 b (by omega)]; exact h7.2 b hb⟩, by omega, fun u hu => by rw [o8 u hu]; exact h9 u hu⟩, o9, o10⟩
  · obtain ⟨y2, Z2, p1, p2, _⟩ := one D1 hD1
    rw [o1] at p1
    obtain ⟨rfl, rfl⟩ := Prod.mk.inj (Option.some.inj p1)
    exact p2
  · rcases t3 with z | z
    · rw [z, o4 132 (Or.inr rfl), ← z]
      exact h3
    · rw [w5 sa z t4 h6]
      exact h3
  · rw [len_at (w2 sa t4)]
    exact t5
  · rw [len_at (w2 131 (by omega))]
    exact t8
  · rcases w4 with z | z
    · rw [z]
      exact h6
    · omega
end
section
-- hh
theorem km_41 {c : Int} (h0 : 0 ≤ c) (h1 : c ≤ 44) : (km c = 41 ↔ c = 42) ∧ (km c = 44 ↔ c = 31) := by
  rcases (show c = 0 ∨ c = 1 ∨ c = 2 ∨ c = 3 ∨ c = 4 ∨ c = 5 ∨ c = 6 ∨ c = 7 ∨ c = 8 ∨ c = 9 ∨ c = 10 ∨ c = 11 ∨ c = 12 ∨ c = 13 ∨ c = 14 ∨ c = 15 ∨ c = 16 ∨ c = 17 ∨ c = 18 ∨ c = 19 ∨ c = 20 ∨ c = 21 ∨ c = 22 ∨ c = 23 ∨ c = 24 ∨ c = 25 ∨ c = 26 ∨ c = 27 ∨ c = 28 ∨ c = 29 ∨ c = 30 ∨ c = 31 ∨ c = 32 ∨ c = 33 ∨ c = 34 ∨ c = 35 ∨ c = 36 ∨ c = 37 ∨ c = 38 ∨ c = 39 ∨ c = 40 ∨ c = 41 ∨ c = 42 ∨ c = 43 ∨ c = 44 by omega) with rfl | rfl | rfl | rfl | rfl | rfl | rfl | rfl | rfl | rfl | rfl | rfl | rfl | rfl | rfl | rfl | rfl | rfl | rfl | rfl | rfl | rfl | rfl | rfl | rfl | rfl | rfl | rfl | rfl | rfl | rfl | rfl | rfl | rfl | rfl | rfl | rfl | rfl | rfl | rfl | rfl | rfl | rfl | rfl | rfl
  all_goals decide
theorem l_again {e : w_E} {N t many sa Ls : Nat} {j T : Nat → Int} {R0 S0 : w_S} (hN : 16000000 ≤ N) (hm : many ≤ t) (ht : t ≤ 512) (hE : ∀ k, k < t → Eok j k) (hEn : ∀ k, k < t → Ent j (R0.1 131) k) (hG : ∀ k, k < t → Gh e N j T R0 k) (hMo : Mo j (R0.1 131) t) (hS : Rch e N j T t S0) (hsd : ∀ p : Nat, (p : Int) < kp j t → R0.1 sa p = T p) (hLs : kp j t ≤ (Ls : Int)) (hb : ∀ p, -128 ≤ T p ∧ T p ≤ 127) (nx0 : R0.2.2.2.1 ≤ 256238) (h400 : R0.1 129 159 ≤ 400) : ∀ (m k nf : Nat) (x2 : Int) (Z : w_S), k + m = many → 2100 * m < nf → AgI e N j T R0 sa Ls k Z → 0 ≤ x2 → x2 ≤ Z.1 129 17 → (∀ u, u < k → j (6 * u) = 42 → R0.1 131 (7 * u + 1) + R0.1 131 (7 * u + 2) ≤ x2) → Ok (El_R_again e N nf 0 [(many : Int), x2, (k : Int)] [] Z) (fun _ Z1 => ∃ Zm xb, Z1 = w_put (w_put Zm 129 159 xb) 129 7 (many : Int) ∧ AgI e N j T R0 sa Ls many Zm ∧ 0 ≤ xb ∧ xb ≤ Zm.1 129 17 ∧ ∀ u, u < many → j (6 * u) = 42 → R0.1 131 (7 * u + 1) + R0.1 131 (7 * u + 2) ≤ xb) := by
  intro m
  induction m with
  | zero =>
    intro k nf x2 Z g1 g2 g3 g4 g5 g6
    obtain ⟨nf, rfl⟩ : ∃ q, nf = q + 1 := ⟨nf - 1, by omega⟩
    have : k = many := by omega
    subst this
    rw [El_R_again]
    exact ok_t (by omega) (ok_s ⟨Z, x2, rfl, g3, g4, g5, g6⟩)
  | succ m ih =>
    intro k nf x2 Z g1 g2 g3 g4 g5 g6
    obtain ⟨nf, rfl⟩ : ∃ q, nf = q + 1 := ⟨nf - 1, by omega⟩
    have E1 := hE k (by omega)
    have En := hEn k (by omega)
    have hGk := hG k (by omega)
    obtain ⟨C1, hC1⟩ := hS.dn (show k + 1 ≤ t by omega)
    obtain ⟨Ck, hCk⟩ := hS.dn (show k ≤ t by omega)
    obtain ⟨ta0, L0, E0, V0, n0, hh0⟩ := g3.1 Ck hCk
    have taZ := hh0.ta
    have v17 : Z.1 129 17 = (V0 : Int) := hh0.2.2.2.2.2.2.2.2.2.2.2.2.2.1.2.2.2.1
    have v400 : V0 ≤ 400 := hh0.2.2.2.2.2.2.2.2.2.2.2.2.2.1.2.2.2.2.1
    have hI := g3
    obtain ⟨i1, ⟨i2, i3, i4⟩, ⟨t1, t2, t3, t4, t5, t6, t7, t8⟩, i6, i7, i8, i9⟩ := g3
    obtain ⟨e1, e2, e3, e4, e5, e6, e7, e8⟩ := E1
    obtain ⟨n1, n2, n3, n4, n5, n6, n7, n8, n9⟩ := En
    have kk : kp j (k + 1) = kp j k + j (6 * k + 5) := rfl
    have kle : kp j (k + 1) ≤ kp j t := kp_le (fun i hi => (hE i hi).2.2.2.1) (by omega)
    obtain ⟨len, hlen⟩ : ∃ q : Nat, j (6 * k + 5) = (q : Int) := ⟨(j (6 * k + 5)).toNat, by omega⟩
    obtain ⟨F, hF⟩ : ∃ q : Nat, kp j k = (q : Int) := ⟨(kp j k).toNat, by omega⟩
    -- the text is laid
    obtain ⟨n', m1, m2⟩ := l_ag1 (e := e) (N := N) (sa := sa) (Ls := Ls) (F := F) (len := len) (x1 := (many : Int)) (x2 := x2) (x3 := (k : Int)) (k := k) (by omega) (by omega) (by omega) (by omega) t3 len 0 nf (w_put Z 129 2 (len : Int)) (by omega) (by omega) (by rw [w_put_r, if_pos rfl, pt_at, if_pos rfl]) t1 t2 t8 t5 (by rw [w_put_f (by decide), i2, n4, hF])
    generalize hZc : cpc (w_put Z 129 2 (len : Int)) sa F 0 len = Zc at m2
    generalize hZt : w_put Zc 129 4 0 = Zt
    have fZ : frm [130] [129] [(129, 2), (129, 4)] Z Zt := by
      rw [← hZt, ← hZc]
      unfold cpc
      repeat (first | exact frm.refl _ _ _ _ | refine frm.put ?_ rfl | refine frm.puto ?_ rfl rfl | refine frm.arr ?_ rfl)
    have hIt : AgI e N j T R0 sa Ls k Zt := hI.fr fZ (by decide) taZ (by omega)
    have e2t : Zt.2 = Z.2 := fZ.1
    have c2 : Zc.1 129 2 = (len : Int) := by
      rw [← hZc]
      unfold cpc
      rw [w_arr_r, if_neg (by decide), w_put_r, if_pos rfl, pt_at, if_pos rfl]
    have hTt : AgT e N j T R0 sa Ls k Zt := by
      refine ⟨hIt, by rw [e2t]; omega, by rw [← hZt, w_put_r, if_pos rfl, pt_at, if_pos rfl], fun _ => ⟨?_, fun p hp => ?_⟩⟩
      · rw [← hZt, w_put_r, if_pos rfl, pt_at, if_neg (by decide), c2, hlen]
      · rw [← hZt, w_put_f (by decide), ← hZc]
        unfold cpc
        rw [w_arr_r, if_pos rfl, if_pos (by omega), w_put_f (by omega), i3, hF, show ((F : Int)).toNat = F by omega, hsd _ (by omega), w_b_id (hb _).1 (hb _).2]
    have c0 : Zc.2.1 0 = 131 := by
      rw [← hZc]
      exact t1
    have l131 : Zt.1 131 = R0.1 131 := hIt.2.1.1
    have hl : e_len Tr Zt 131 0 = some 3584 := hIt.2.2.1.2.2.2.2.2.2.2
    have km1 := (km_41 n1 n2).1
    have km2 := (km_41 n1 n2).2
    have x70 : (7 * (k : Int)).toNat = 7 * k := by omega
    have x71 : (7 * (k : Int) + 1).toNat = 7 * k + 1 := by omega
    have x72 : (7 * (k : Int) + 2).toNat = 7 * k + 2 := by omega
    have x73 : (7 * (k : Int) + 3).toNat = 7 * k + 3 := by omega
    have x74 : (7 * (k : Int) + 4).toNat = 7 * k + 4 := by omega
    have k1e : ((k + 1 : Nat) : Int) = (k : Int) + 1 := by omega
    -- up to there
    have front : ∀ P, Ok (El_R_again e N (n' ) 1 [(many : Int), x2, (k : Int), 7 * (k : Int), (len : Int)] [] Zc) P → Ok (El_R_again e N (nf + 1) 0 [(many : Int), x2, (k : Int)] [] Z) P := fun P hP => by
      rw [El_R_again, t1, show (7 * (k : Int) + 6).toNat = 7 * k + 6 by omega, i2, n5, hlen]
      refine ok_e (by omega) (ok_nb (by omega) (ok_nb (by omega) (ok_len t8 ?_)))
      with_reducible refine ok_t (by omega) (ok_t (by omega) ?_)
      have m3 : El_R_again e N nf 1 [(many : Int), x2, (k : Int), 7 * (k : Int), 0] [] (w_put Z 129 2 (len : Int)) = _ := m2
      rw [m3]
      exact hP
    refine front _ ?_
    obtain ⟨n'', rfl⟩ : ∃ q, n' = q + 1 := ⟨n' - 1, by omega⟩
    rw [El_R_again, c2, hZt, c0, l131, x70, x71, x72, x73, x74]
    refine ok_t (by omega) (ok_len hl ?_)
    with_reducible refine ok_t (by omega) (ok_t (by omega) ?_)
    by_cases k42 : j (6 * k) = 42
    · -- a batch
      have q41 : R0.1 131 (7 * k) = 41 := by rw [n3]; exact km1.2 k42
      have hend : R0.1 131 (7 * k + 1) + R0.1 131 (7 * k + 2) ≤ 400 := by
        obtain ⟨X, X1, _, _, _, _, _, _, g⟩ := hGk
        obtain ⟨a1, a2, a3, _⟩ := g k42
        omega
      obtain ⟨y', Z1, r1, r2, r3, r4⟩ := ag_bat hN (hE k (by omega)) k42 hTt hGk hend hC1
      have z0 : Z1.2.1 0 = 131 := r2.2.2.1.1
      have hl1 : e_len Tr Z1 131 0 = some 3584 := r2.2.2.1.2.2.2.2.2.2.2
      have z131 : Z1.1 131 = R0.1 131 := r2.2.1.1
      refine ok_e (fun z => z q41) (ok_nb (by omega) (ok_len hl ?_))
      with_reducible refine ok_t (by omega) (ok_t (by omega) (ok_nb (by omega) ?_))
      refine ok_len hl ?_
      with_reducible refine ok_t (by omega) (ok_t (by omega) ?_)
      refine ok_b (ok_of r1 ?_)
      dsimp only
      rw [z0, z131]
      refine ok_len hl1 ?_
      with_reducible refine ok_t (by omega) (ok_t (by omega) ?_)
      refine ok_len hl1 ?_
      with_reducible refine ok_t (by omega) (ok_t (by omega) (ok_nb (by omega) (ok_nb (by omega) ?_)))
      have := ih (k + 1) n'' (R0.1 131 (7 * k + 1) + R0.1 131 (7 * k + 2)) Z1 (by omega) (by omega) r2 r4 r3 (fun u hu hz => by
        by_cases cu : u = k
        · subst cu
          exact Int.le_refl _
        · have h1 := hMo u k (by omega) (by omega) hz k42
          obtain ⟨X, X1, _, _, _, _, _, _, g⟩ := hGk
          obtain ⟨a1, a2, a3, a4, _⟩ := g k42
          omega)
      rw [k1e] at this
      exact this
    · have q41 : R0.1 131 (7 * k) ≠ 41 := fun z => k42 (km1.1 (by rw [← n3]; exact z))
      refine ok_t q41 (ok_len hl ?_)
      with_reducible refine ok_t (by omega) (ok_t (by omega) ?_)
      by_cases k31 : j (6 * k) = 31
      · have q44 : R0.1 131 (7 * k) = 44 := by rw [n3]; exact km2.2 k31
        refine ok_e (fun z => z q44) (ok_nb (by omega) (ok_len hl ?_))
        with_reducible refine ok_t (by omega) (ok_t (by omega) ?_)
        by_cases c0 : R0.1 131 (7 * k + 1) ≤ 0
        · -- a dispose that took nothing
          have r2 := ag_skip hN (hE k (by omega)) k31 hTt hGk c0 hC1
          refine ok_t c0 (ok_nb (by omega) ?_)
          have := ih (k + 1) n'' x2 Zt (by omega) (by omega) r2 g4 (by rw [fZ.2.2 129 17 rfl rfl]; exact g5) (fun u hu hz => g6 u (by
            by_cases cu : u = k
            · subst cu
              exact absurd hz k42
            · omega) hz)
          rw [k1e] at this
          exact this
        · obtain ⟨y', Z1, r1, r2, r3⟩ := ag_act hN (hE k (by omega)) k42 hTt hC1
          rw [k31, show km 31 = 44 from rfl] at r1
          simp only [pr_44] at r1
          refine ok_e c0 (ok_len hl ?_)
          with_reducible refine ok_t (by omega) (ok_t (by omega) ?_)
          refine ok_len hl ?_
          with_reducible refine ok_t (by omega) (ok_t (by omega) (ok_nb (by omega) ?_))
          refine ok_len hl ?_
          with_reducible refine ok_t (by omega) (ok_t (by omega) (ok_nb (by omega) ?_))
          refine ok_len hl ?_
          with_reducible refine ok_t (by omega) (ok_t (by omega) (ok_nb (by omega) ?_))
          refine ok_len hl ?_
          with_reducible refine ok_t (by omega) (ok_t (by omega) ?_)
          rw [q44]
          simp only [pr_44]
          refine ok_b (ok_of r1 (ok_nb (by omega) ?_))
          have := ih (k + 1) n'' x2 Z1 (by omega) (by omega) r2 g4 (by have := fZ.2.2 129 17 rfl rfl; omega) (fun u hu hz => g6 u (by
            by_cases cu : u = k
            · subst cu
              exact absurd hz k42
            · omega) hz)
          rw [k1e] at this
          exact this
      · have q44 : R0.1 131 (7 * k) ≠ 44 := fun z => k31 (km2.1 (by rw [← n3]; exact z))
        obtain ⟨y', Z1, r1, r2, r3⟩ := ag_act hN (hE k (by omega)) k42 hTt hC1
        obtain ⟨b1, b2, b3, b4⟩ := n9 k42 k31
        rw [← n3, ← b1, ← b2, ← b3, ← b4] at r1
        refine ok_t q44 (ok_len hl ?_)
        with_reducible refine ok_t (by omega) (ok_t (by omega) (ok_nb (by omega) ?_))
        refine ok_len hl ?_
        with_reducible refine ok_t (by omega) (ok_t (by omega) (ok_nb (by omega) ?_))
        refine ok_len hl ?_
        with_reducible refine ok_t (by omega) (ok_t (by omega) (ok_nb (by omega) ?_))
        refine ok_len hl ?_
        with_reducible refine ok_t (by omega) (ok_t (by omega) (ok_nb (by omega) ?_))
        refine ok_len hl ?_
        with_reducible refine ok_t (by omega) (ok_t (by omega) ?_)
        refine ok_b (ok_of r1 (ok_nb (by omega) ?_))
        have := ih (k + 1) n'' x2 Z1 (by omega) (by omega) r2 g4 (by have := fZ.2.2 129 17 rfl rfl; omega) (fun u hu hz => g6 u (by
          by_cases cu : u = k
          · subst cu
            exact absurd hz k42
          · omega) hz)
        rw [k1e] at this
        exact this
end
section
-- hi
theorem Core.eok {e : w_E} {N i t sa Ls : Nat} {S R : w_S} (h : Core e N i S R t sa Ls) (ht : t ≤ 512) : ∀ k, k < t → Eok (S.1 128) k := fun k hk => by
  have ln := h.lens
  obtain ⟨h1, h2, h3, h4, h5, h6, _, h8, _⟩ := h
  obtain ⟨n1, n2, n3, n4, n5, n6, n7, n8, n9⟩ := h8 k hk
  have k0 : 0 ≤ kp (S.1 128) k := kpj_ge (fun i hi => ln i (by omega))
  have k1 := kp_le ln (show k + 1 ≤ t by omega)
  exact ⟨by omega, n1, n2, n6, n7, k0, by omega, n8⟩
/-- what a rewind leaves in the class -/
def RwC (e : w_E) (N : Nat) (S' : w_S) (left : Nat) (S1 : w_S) : Prop := Rch e N (S'.1 128) (S'.1 2) left S1 ∧ S1.1 128 = S'.1 128 ∧ S1.1 2 = S'.1 2 ∧ S1.1 1 1 = kp (S'.1 128) left ∧ S1.1 1 2 = 0 ∧ S1.1 0 12 = (left : Int) ∧ S1.1 106 2 = 0 ∧ S1.1 106 4 = 0 ∧ S1.1 106 8 = 0 ∧ (∀ s : Nat, 1 ≤ s → s ≤ 10 → S1.1 115 s = 0) ∧ ∀ x, x = 13 ∨ x = 14 ∨ x = 15 ∨ x = 16 → S1.1 0 x = S'.1 0 x
/-- the numbers of acts before a rewind -/
def NmR (S' R' : w_S) (left : Nat) : Prop := R'.1 129 8 = S'.1 0 13 ∧ R'.1 129 9 = S'.1 0 14 ∧ R'.1 129 10 = S'.1 0 15 ∧ R'.1 129 11 = S'.1 0 16 ∧ 0 ≤ S'.1 0 14 ∧ S'.1 0 14 ≤ S'.1 0 13 ∧ S'.1 0 13 ≤ (left : Int) ∧ S'.1 0 16 = -1
theorem y_fin {e : w_E} {N i1 t sa Ls left : Nat} {S' R' S1 Y : w_S} (hN : 16000000 ≤ N) (hC : Core e N i1 S' R' t sa Ls) (ht : t ≤ 512) (hi : i1 ≤ 512) (hnx : R'.2.2.2.1 + 400 ≤ 238 + 500 * i1) (h20 : S'.1 1 1 ≤ 20 * (i1 : Int)) (hl : left ≤ t) (hn : NmR S' R' left) (hS : RwC e N S' left S1) (hY : AgI e N (S'.1 128) (S'.1 2) R' sa Ls left Y) (y7 : Y.1 129 7 = (left : Int)) (y0 : 0 ≤ Y.1 129 159) (y1 : Y.1 129 159 ≤ Y.1 129 17) (ye : ∀ u, u < left → S'.1 128 (6 * u) = 42 → R'.1 131 (7 * u + 1) + R'.1 131 (7 * u + 2) ≤ Y.1 129 159) : Ok (E_R_forgetAsked e N Y) (fun _ Z => Inv e N i1 S1 Z ∧ Z.1 129 7 = (left : Int)) := by
  have ln := hC.lens
  obtain ⟨h1, h2, h3, h4, h5, h6, ⟨h7, h7b, h7c, h7d⟩, h8, h9, h10, h11, h12, h13⟩ := hC
  obtain ⟨s1, s2, s3, s4, s5, s6, s7, s8, s9, s10, s11⟩ := hS
  obtain ⟨a1, ⟨a2, a3, a4⟩, a5, a6, a7, a8, a9⟩ := hY
  refine (x_fga (by omega)).mono (fun _ Z ⟨f, z1, z39, z51, z102, z58, z232⟩ => ?_)
  have e2 : Z.2 = Y.2 := f.1
  obtain ⟨ta, L, E, V, n, hh⟩ := a1 S1 s1
  have v17 : Y.1 129 17 = (V : Int) := hh.2.2.2.2.2.2.2.2.2.2.2.2.2.1.2.2.2.1
  have v400 : V ≤ 400 := hh.2.2.2.2.2.2.2.2.2.2.2.2.2.1.2.2.2.2.1
  have fn : frn Y Z := frn.of f (by decide) hh.ta
  have nxZ : Z.2.2.2.1 ≤ 238 + 500 * i1 := by rw [e2]; omega
  have nx9 : Z.2.2.2.1 ≤ 899000 := by omega
  have z131 : Z.1 131 = R'.1 131 := by rw [f.2.1 131 rfl rfl]; exact a2
  have z237 : Z.1 237 = R'.1 237 := by rw [f.2.1 237 rfl rfl]; exact a4
  have z159 : Z.1 129 159 = Y.1 129 159 := f.2.2 129 159 rfl rfl
  have z17 : Z.1 129 17 = Y.1 129 17 := f.2.2 129 17 rfl rfl
  have zsa : Z.1 sa = R'.1 sa := by
    rw [← a3]
    rcases a5.2.2.1 with z | z
    · rw [z]
      exact f.2.1 132 rfl rfl
    · have := hck_hi (L' := [232]) (O' := [129]) (by decide) z
      exact f.2.1 sa this.1 this.2
  have kle := kp_le ln hl
  have al := a1.rf fn nx9
  have zr : ∀ u, u = 8 ∨ u = 9 ∨ u = 10 ∨ u = 11 → Z.1 129 u = R'.1 129 u := fun u hu => by
    rw [← a9 u hu]
    rcases hu with rfl | rfl | rfl | rfl <;> exact f.2.2 129 _ rfl rfl
  have z7 : Z.1 129 7 = (left : Int) := by rw [f.2.2 129 7 rfl rfl]; exact y7
  refine ⟨⟨left, sa, Ls, ⟨s6, by omega, by rw [s2]; exact s4, by rw [s2]; omega, fun p => by rw [s3]; exact h5 p, ⟨nxZ, by rw [tl_cg e2, e2]; omega⟩, ⟨?_, by rw [e2]; exact a6, by rw [s2]; omega, fun p hp => ?_⟩, fun u hu => ?_, ⟨by omega, by omega⟩, ?_, ?_, fun u hu => ?_, ?_⟩, ?_, ⟨?_, ?_⟩, ⟨?_, ?_, ?_, Or.inl ⟨z102, s9⟩, a7.cg e2⟩, ?_⟩, z7⟩
  · obtain ⟨t1, t2, t3, t4, t5, t6, t7, t8⟩ := a5
    exact ⟨by rw [e2]; exact t1, by rw [e2]; exact t2, t3, by rw [e2]; exact t4, by rw [len_at (show Z.2.2.1 sa = Y.2.2.1 sa by rw [e2])]; exact t5, t6, t7, by rw [len_at (show Z.2.2.1 131 = Y.2.2.1 131 by rw [e2])]; exact t8⟩
  · rw [s2] at hp
    rw [zsa, s3]
    exact h7d p (by omega)
  · rw [s2, z131]
    exact h8 u (by omega)
  · rw [s2, s3]
    exact s1
  · rw [s2, s3]
    exact al
  · rw [s2, s3]
    refine (h12 u (by omega)).cg (fun _ _ => rfl) (fun i hi => ln i (by omega)) (fun _ _ => rfl) (by rw [z131]) (by rw [z131]) (fun z => ?_)
    rw [z159, z237]
    exact ⟨ye u hu z, fun _ _ => rfl⟩
  · rw [s2, z131]
    exact fun k m a b => h13 k m a (by omega)
  · obtain ⟨n1, n2, n3, n4, n5, n6, n7, n8⟩ := hn
    unfold Num RelM
    rw [z7, s6, zr 8 (by omega), zr 9 (by omega), zr 10 (by omega), zr 11 (by omega), s11 13 (by omega), s11 14 (by omega), s11 15 (by omega), s11 16 (by omega)]
    exact ⟨⟨rfl, n1, n2, n3, n4, by omega, by omega, by omega, by omega, by omega, by omega⟩, n5, n6, n7, Or.inl n8⟩
  · have k0 : 0 ≤ kp (S'.1 128) left := kpj_ge (fun i hi => ln i (by omega))
    exact ⟨by rw [z1, s5], by omega, by omega, by omega, by omega, fun p hp => by omega⟩
  · omega
  · intro s q1 q2
    rw [s10 s q1 q2, z232 s (by omega)]
    exact ⟨rfl, Or.inl rfl, fun z => absurd rfl z⟩
  · exact ⟨by rw [z39, s7], by omega, by omega, fun k hk => by omega⟩
  · exact ⟨by rw [z51, s8], by omega, by omega, fun k hk => by omega⟩
  · refine ⟨ta, L, E, V, n, ?_, Or.inl z58⟩
    rw [s2]
    exact hh.rf fn nx9
/-- the reference forgets, and does so many acts again -/
theorem x_again {e : w_E} {N i1 t sa Ls left : Nat} {S' R' : w_S} (hN : 16000000 ≤ N) (hC : Core e N i1 S' R' t sa Ls) (ht : t ≤ 512) (hi : i1 ≤ 512) (hnx : R'.2.2.2.1 ≤ 256238) (hl : left ≤ t) (hwk : Wk2 R') : Ok (E_R_again e N (left : Int) R') (fun _ Y => AgI e N (S'.1 128) (S'.1 2) R' sa Ls left Y ∧ Y.1 129 7 = (left : Int) ∧ 0 ≤ Y.1 129 159 ∧ Y.1 129 159 ≤ Y.1 129 17 ∧ ∀ u, u < left → S'.1 128 (6 * u) = 42 → R'.1 131 (7 * u + 1) + R'.1 131 (7 * u + 2) ≤ Y.1 129 159) := by
  have hE := hC.eok ht
  obtain ⟨h1, h2, h3, h4, h5, h6, ⟨h7, h7b, h7c, h7d⟩, h8, h9, h10, h11, h12, h13⟩ := hC
  obtain ⟨ta, L, E, V, n, hh⟩ := h11 S' h10
  have hv := hh.2.2.2.2.2.2.2.2.2.2.2.2.2.1
  unfold E_R_again
  refine ok_b ((x_forget (by omega)).mono (fun _ Z ⟨f, fg⟩ => ?_))
  dsimp only
  have e2 : Z.2 = R'.2 := f.1
  have tx : Tx0 Z ta L 0 := by
    obtain ⟨p3, p5, p6, p7, p8, p9, p10, p11, p12, p13, p15, p18⟩ := hv.1
    exact ⟨by rw [e2]; exact p3, p5, by rw [e2]; exact p6, by rw [e2]; exact p7, by rw [e2]; exact p8, p9, by rw [len_at (show Z.2.2.1 ta = R'.2.2.1 ta by rw [e2])]; exact p10, p11, by omega, p13, fg.2.2.2.1, fun u hu => by omega⟩
  have g17 : Z.1 129 17 = 0 := fg.2.2.1
  have hI : AgI e N (S'.1 128) (S'.1 2) R' sa Ls 0 Z := by
    refine ⟨fun C hC => ⟨ta, L, 0, 0, 0, hs0 hC fg tx hv.2.1⟩, ⟨f.2.1 131 rfl rfl, ?_, f.2.1 237 rfl rfl⟩, ?_, by rw [e2]; exact h7b, hwk.cg e2, by rw [tl_cg e2, e2]; omega, fun u hu => ?_⟩
    · rcases h7.2.2.1 with z | z
      · rw [z]
        exact f.2.1 132 rfl rfl
      · have := hck_hi (L' := [229]) (O' := [129]) (by decide) z
        exact f.2.1 sa this.1 this.2
    · obtain ⟨t1, t2, t3, t4, t5, t6, t7, t8⟩ := h7
      exact ⟨by rw [e2]; exact t1, by rw [e2]; exact t2, t3, by rw [e2]; exact t4, by rw [len_at (show Z.2.2.1 sa = R'.2.2.1 sa by rw [e2])]; exact t5, t6, t7, by rw [len_at (show Z.2.2.1 131 = R'.2.2.1 131 by rw [e2])]; exact t8⟩
    · rcases hu with rfl | rfl | rfl | rfl <;> exact f.2.2 129 _ rfl rfl
  have v17 : R'.1 129 17 = (V : Int) := hv.2.2.2.1
  have v400 : V ≤ 400 := hv.2.2.2.2.1
  have key := l_again (e := e) (N := N) (R0 := R') (S0 := S') hN hl ht hE h8 h12 h13 h10 h7d h7c h5 hnx (by omega) left 0 N 0 Z (by omega) (by omega) hI (by omega) (by omega) (fun u hu => by omega)
  refine Ok.mono (show Ok (El_R_again e N N 0 [(left : Int), 0, 0] [] Z) _ from key) (fun _ Y ⟨Zm, xb, y1, y2, y3, y4, y5⟩ => ?_)
  obtain ⟨C, hC'⟩ := h10.dn hl
  obtain ⟨tm, Lm, Em, Vm, nm, hm⟩ := y2.1 C hC'
  have fY : frm [] [129] [(129, 159), (129, 7)] Zm Y := by
    rw [y1]
    repeat (first | exact frm.refl _ _ _ _ | refine frm.put ?_ rfl | refine frm.puto ?_ rfl rfl)
  have eY : Y.2 = Zm.2 := fY.1
  have nm9 : Zm.2.2.2.1 ≤ 899000 := hm.2.2.2.2.2.2.2.2.2.2.2.2.2.1.1.2.2.2.2.1
  have Y159 : Y.1 129 159 = xb := by
    rw [y1]
    simp only [w_put_r, reduceIte, Nat.reduceEqDiff, pt_at]
  have Y7 : Y.1 129 7 = (left : Int) := by
    rw [y1]
    simp only [w_put_r, reduceIte, Nat.reduceEqDiff, pt_at]
  have Y17 : Y.1 129 17 = Zm.1 129 17 := fY.2.2 129 17 rfl rfl
  obtain ⟨b1, ⟨b2, b3, b4⟩, b5, b6, b7, b8, b9⟩ := y2
  refine ⟨⟨b1.rf (frn.of fY (by decide) hm.ta) (by rw [eY]; exact nm9), ⟨by rw [fY.2.1 131 rfl rfl]; exact b2, ?_, by rw [fY.2.1 237 rfl rfl]; exact b4⟩, ?_, by rw [eY]; exact b6, b7.cg eY, by rw [tl_cg eY, eY, Y17]; exact b8, fun u hu => ?_⟩, Y7, by omega, by omega, fun u hu hz => by rw [Y159]; exact y5 u hu hz⟩
  · rw [← b3]
    rcases b5.2.2.1 with z | z
    · rw [z]
      exact fY.2.1 132 rfl rfl
    · have := hck_hi (L' := []) (O' := [129]) (by decide) z
      exact fY.2.1 sa this.1 this.2
  · obtain ⟨t1, t2, t3, t4, t5, t6, t7, t8⟩ := b5
    exact ⟨by rw [eY]; exact t1, by rw [eY]; exact t2, t3, by rw [eY]; exact t4, by rw [len_at (show Y.2.2.1 sa = Zm.2.2.1 sa by rw [eY])]; exact t5, t6, t7, by rw [len_at (show Y.2.2.1 131 = Zm.2.2.1 131 by rw [eY])]; exact t8⟩
  · rw [← b9 u hu]
    rcases hu with rfl | rfl | rfl | rfl <;> exact fY.2.2 129 _ rfl rfl
/-- a rewind in the class, and what the reference does there -/
theorem t_rew {e : w_E} {N i t sa Ls left : Nat} {S R S' R' : w_S} (hN : 16000000 ≤ N) (hi : i < 512) (hC : Core e N i S R t sa Ls) (ht : t ≤ 512) (h20 : S.1 1 1 ≤ 20 * (i : Int)) (hl : left ≤ t) (hwk : Wk2 R) (hm : R.1 129 7 = (t : Int)) (fS : frm [] [0] [(0, 13), (0, 15), (0, 16)] S S') (fR : frm [] [129] [(129, 8), (129, 10), (129, 11)] R R') (hn : NmR S' R' left) : Ok (E_C_rewind e N (left : Int) S') (fun _ S1 => S1.1 0 12 = (left : Int) ∧ (t ≤ left → Ok (E_R_forgetAsked e N R') (fun _ Z => Inv e N (i + 1) S1 Z ∧ Z.1 129 7 = (left : Int))) ∧ Ok (E_R_again e N (left : Int) R') (fun _ Y => Ok (E_R_forgetAsked e N Y) (fun _ Z => Inv e N (i + 1) S1 Z ∧ Z.1 129 7 = (left : Int)))) := by
  have c2 : S'.1 2 = S.1 2 := fS.2.1 2 rfl rfl
  have hC' : Core e N (i + 1) S' R' t sa Ls := hC.q (fS.weak (by decide)) (fun p _ => by rw [c2]) (fun p => by rw [c2]; exact hC.2.2.2.2.1 p) (fR.weak (by decide))
  have nx0 := hC.2.2.2.2.2.1
  have e2 : R'.2 = R.2 := fR.1
  have hG := hC'.2.2.2.2.2.2.2.2.2.2.2.1
  refine (x_rewind (R := R') hN hl ht (hC'.eok ht) hG hC'.2.2.2.2.1).mono (fun _ S1 hS => ?_)
  have hS' : RwC e N S' left S1 := hS
  have h20' : S'.1 1 1 ≤ 20 * ((i + 1 : Nat) : Int) := by
    rw [fS.2.2 1 1 rfl rfl]
    omega
  refine ⟨hS.2.2.2.2.2.1, fun hle => ?_, ?_⟩
  · have : left = t := by omega
    subst this
    obtain ⟨h1, h2, h3, h4, h5, h6, ⟨h7, h7b, h7c, h7d⟩, h8, h9, h10, h11, h12, h13⟩ := hC'
    have hI : AgI e N (S'.1 128) (S'.1 2) R' sa Ls left R' := ⟨h11, ⟨rfl, rfl, rfl⟩, h7, h7b, hwk.cg e2, by omega, fun _ _ => rfl⟩
    exact y_fin hN ⟨h1, h2, h3, h4, h5, h6, ⟨h7, h7b, h7c, h7d⟩, h8, h9, h10, h11, h12, h13⟩ ht (by omega) (by rw [e2]; omega) h20' (Nat.le_refl _) hn hS' hI (by rw [fR.2.2 129 7 rfl rfl]; exact hm) h9.1 h9.2 (fun u hu hz => by
      obtain ⟨X, X1, _, _, _, _, _, _, g⟩ := h12 u hu
      obtain ⟨g1, g2, g3, _⟩ := g hz
      omega)
  · refine (x_again hN hC' ht (by omega) (by rw [e2]; omega) hl (hwk.cg e2)).mono (fun _ Y ⟨y1, y2, y3, y4, y5⟩ => ?_)
    exact y_fin hN hC' ht (by omega) (by rw [e2]; omega) h20' hl hn hS' y1 y2 y3 y4 y5
theorem m_power {e : w_E} {N i : Nat} {S R : w_S} {x1 : Int} (hN : 16000000 ≤ N) (hi : i < 512) (h : Inv e N i S R) : Ok (E_C_power e N x1 S) (fun y S1 => Ok (E_R_power e N x1 R) (fun y' R1 => y' = y ∧ Inv e N (i + 1) S1 R1)) := by
  have h0 := h
  obtain ⟨t, sa, Ls, hC, ⟨hM, m1, m2, m3, m4⟩, ⟨htp, h20⟩, hask, hval⟩ := h
  obtain ⟨r7, r8, r9, r10, r11, a6, a7, a8, a9, a10, a11⟩ := hM
  have h12 := hC.1
  have ht : t ≤ 512 := by omega
  have h20' : S.1 1 1 ≤ 20 * (i : Int) := by
    have := htp.2.1
    omega
  have hm : R.1 129 7 = (t : Int) := by omega
  obtain ⟨l1, hl1⟩ : ∃ q : Nat, S.1 0 13 = (q : Int) := ⟨(S.1 0 13).toNat, by omega⟩
  obtain ⟨l2, hl2⟩ : ∃ q : Nat, S.1 0 14 = (q : Int) := ⟨(S.1 0 14).toNat, by omega⟩
  unfold E_C_power E_R_power
  by_cases c1 : x1 < 0
  · exact ok_t c1 (ok_s (ok_t c1 (ok_s ⟨rfl, h0.up⟩)))
  refine ok_e c1 ?_
  by_cases c2 : x1 ≤ 1000
  rotate_left
  · exact ok_e c2 (ok_s (ok_e c1 (ok_t (by omega) (ok_s ⟨rfl, h0.up⟩))))
  refine ok_t c2 ?_
  rw [r7, r8, r9, r10, h12]
  -- no sync since, or all of it laid
  have A : Ok ((E_C_rewind e N (S.1 0 13) (w_put (w_put S 0 15 0) 0 16 (-1))).bind (fun q1658 => some (q1658.2.1 0 12, q1658.2))) (fun y S1 => (if ((t : Int)) ≤ (S.1 0 13) then Ok ((E_R_forgetAsked e N  (w_put (w_put (w_put R 129 8 (S.1 0 13)) 129 10 0) 129 11 (-1))).bind (fun q1666 => some (q1666.2.1 129 7, q1666.2))) (fun y' R1 => y' = y ∧ Inv e N (i + 1) S1 R1) else Ok ((E_R_again e N (S.1 0 13) (w_put (w_put (w_put R 129 8 (S.1 0 13)) 129 10 0) 129 11 (-1))).bind (fun q1667 => ((E_R_forgetAsked e N  q1667.2).bind (fun q1677 => some (q1677.2.1 129 7, q1677.2))))) (fun y' R1 => y' = y ∧ Inv e N (i + 1) S1 R1))) := by
    rw [hl1]
    refine ok_b ((t_rew (S' := w_put (w_put S 0 15 0) 0 16 (-1)) (R' := w_put (w_put (w_put R 129 8 (l1 : Int)) 129 10 0) 129 11 (-1)) hN hi hC ht h20' (show l1 ≤ t by omega) hask.2.2.2.2 hm (by repeat (first | exact frm.refl _ _ _ _ | refine frm.put ?_ rfl | refine frm.puto ?_ rfl rfl)) (by repeat (first | exact frm.refl _ _ _ _ | refine frm.put ?_ rfl | refine frm.puto ?_ rfl rfl)) ?_).mono (fun _ S1 ⟨q1, q2, q3⟩ => ok_s ?_))
    · unfold NmR
      simp only [w_put_r, reduceIte, Nat.reduceEqDiff, pt_at]
      exact ⟨hl1.symm, r9, trivial, trivial, by omega, by omega, by omega, trivial⟩
    · dsimp only
      split
      · rename_i c
        exact ok_b ((q2 (by omega)).mono (fun _ Z ⟨p1, p2⟩ => ok_s ⟨by dsimp only; rw [p2, q1], p1⟩))
      · exact ok_b (q3.mono (fun _ Y k => ok_b (k.mono (fun _ Z ⟨p1, p2⟩ => ok_s ⟨by dsimp only; rw [p2, q1], p1⟩))))
  by_cases c3 : S.1 0 15 = 0
  · refine ok_t c3 (A.mono (fun y S1 k => ok_e c1 (ok_e (by omega) (ok_t c3 ?_))))
    split at k
    · rename_i c
      exact ok_t c k
    · rename_i c
      exact ok_e c k
  · refine ok_e c3 ?_
    by_cases c4 : 1000 ≤ x1
    · refine ok_t c4 (A.mono (fun y S1 k => ok_e c1 (ok_e (by omega) (ok_e c3 (ok_t c4 ?_)))))
      split at k
      · rename_i c
        exact ok_t c k
      · rename_i c
        exact ok_e c k
    · refine ok_e c4 ?_
      rw [hl2]
      refine ok_b ((t_rew (S' := w_put (w_put (w_put S 0 13 (l2 : Int)) 0 15 0) 0 16 (-1)) (R' := w_put (w_put (w_put R 129 8 (l2 : Int)) 129 10 0) 129 11 (-1)) hN hi hC ht h20' (show l2 ≤ t by omega) hask.2.2.2.2 hm (by repeat (first | exact frm.refl _ _ _ _ | refine frm.put ?_ rfl | refine frm.puto ?_ rfl rfl)) (by repeat (first | exact frm.refl _ _ _ _ | refine frm.put ?_ rfl | refine frm.puto ?_ rfl rfl)) ?_).mono (fun _ S1 ⟨q1, q2, q3⟩ => ok_s ?_))
      · unfold NmR
        simp only [w_put_r, reduceIte, Nat.reduceEqDiff, pt_at]
        exact ⟨trivial, r9, trivial, trivial, by omega, by omega, by omega, trivial⟩
      · dsimp only
        refine ok_e c1 (ok_e (by omega) (ok_e c3 (ok_e c4 ?_)))
        by_cases c5 : (t : Int) ≤ (l2 : Int)
        · exact ok_t c5 (ok_b ((q2 (by omega)).mono (fun _ Z ⟨p1, p2⟩ => ok_s ⟨by dsimp only; rw [p2, q1], p1⟩)))
        · exact ok_e c5 (ok_b (q3.mono (fun _ Y k => ok_b (k.mono (fun _ Z ⟨p1, p2⟩ => ok_s ⟨by dsimp only; rw [p2, q1], p1⟩)))))
theorem m_done {e : w_E} {N i : Nat} {S R : w_S} {x1 : Int} (hN : 16000000 ≤ N) (hi : i < 512) (h : Inv e N i S R) : Ok (E_C_done e N x1 S) (fun y S1 => Ok (E_R_done e N x1 R) (fun y' R1 => y' = y ∧ Inv e N (i + 1) S1 R1)) := by
  have h0 := h
  obtain ⟨t, sa, Ls, hC, ⟨hM, m1, m2, m3, m4⟩, ⟨htp, h20⟩, hask, hval⟩ := h
  obtain ⟨r7, r8, r9, r10, r11, a6, a7, a8, a9, a10, a11⟩ := hM
  have h12 := hC.1
  have ht : t ≤ 512 := by omega
  have h20' : S.1 1 1 ≤ 20 * (i : Int) := by
    have := htp.2.1
    omega
  have hm : R.1 129 7 = (t : Int) := by omega
  unfold E_C_done E_R_done
  rw [r7, r11]
  by_cases c1 : S.1 0 16 = -1
  · exact ok_e (fun z => z c1) (ok_s (ok_e (fun z => z c1) (ok_s ⟨rfl, h0.up⟩)))
  have m4' : S.1 0 13 ≤ S.1 0 16 ∧ S.1 0 16 ≤ (t : Int) := by
    rcases m4 with z | z
    · exact absurd z c1
    · exact z
  refine ok_t c1 (ok_nb (by omega) ?_)
  by_cases c2 : x1 = 0
  rotate_left
  · refine ok_t c2 (ok_s (ok_t c1 (ok_nb (by omega) (ok_e c2 (ok_s ⟨rfl, ?_⟩)))))
    have hf : frm [] [0] [(0, 16)] S (w_put S 0 16 (-1)) := by repeat (first | exact frm.refl _ _ _ _ | refine frm.put ?_ rfl | refine frm.puto ?_ rfl rfl)
    have hg : frm [] [129] [(129, 11)] R (w_put R 129 11 (-1)) := by repeat (first | exact frm.refl _ _ _ _ | refine frm.put ?_ rfl | refine frm.puto ?_ rfl rfl)
    refine h0.q hf hg (by decide) (by decide) (fun t' ht' z => ?_) (fun z => ⟨z.fr hf hg (by decide), ?_⟩) (fun z => z.fr hf hg (by decide)) (fun _ _ z => z.fr hf hg (by decide) (by decide) (by decide))
    · obtain ⟨_, z1, z2, z3, z4⟩ := z
      unfold Num RelM
      simp only [w_put_r, reduceIte, Nat.reduceEqDiff, pt_at]
      exact ⟨⟨r7, r8, r9, r10, trivial, a6, a7, a8, a9, by omega, by omega⟩, z1, z2, z3, Or.inl trivial⟩
    · rw [hf.2.1 1 rfl rfl]
      exact Int.le_refl _
  refine ok_e (fun z => z c2) ?_
  obtain ⟨l1, hl1⟩ : ∃ q : Nat, S.1 0 16 = (q : Int) := ⟨(S.1 0 16).toNat, by omega⟩
  rw [hl1]
  refine ok_b ((t_rew (S' := w_put S 0 16 (-1)) (R' := w_put R 129 11 (-1)) hN hi hC ht h20' (show l1 ≤ t by omega) hask.2.2.2.2 hm (by repeat (first | exact frm.refl _ _ _ _ | refine frm.put ?_ rfl | refine frm.puto ?_ rfl rfl)) (by repeat (first | exact frm.refl _ _ _ _ | refine frm.put ?_ rfl | refine frm.puto ?_ rfl rfl)) ?_).mono (fun _ S1 ⟨q1, q2, q3⟩ => ok_s ?_))
  · unfold NmR
    simp only [w_put_r, reduceIte, Nat.reduceEqDiff, pt_at]
    exact ⟨r8, r9, r10, trivial, by omega, by omega, by omega, trivial⟩
  · dsimp only
    refine ok_t (by omega) (ok_nb (by omega) (ok_t c2 ?_))
    by_cases c5 : S.1 0 12 - (l1 : Int) ≤ 0
    · exact ok_t c5 (ok_b ((q2 (by omega)).mono (fun _ Z ⟨p1, p2⟩ => ok_s ⟨rfl, p1⟩)))
    · exact ok_e c5 (ok_b (q3.mono (fun _ Y k => ok_b (k.mono (fun _ Z ⟨p1, p2⟩ => ok_s ⟨rfl, p1⟩)))))
end
section
-- hj
theorem q_find2 {e : w_E} {N : Nat} {S R : w_S} {top : Int} {ta L E V n : Nat} (hN : 16000000 ≤ N) (htop : top ≤ 10240) (ht : RelTp S R) (hv : RelVr S R top ta L E V n) (hk : RelLk S R) (hn : RelNm S R top) (hAb : RelAb S R) (hG : RelG S R) (hd : R.1 129 12 = S.1 27 1) : Ok (E_C_find e N S) (fun y S1 => Ok (E_R_find e N R) (fun y' R1 => y' = y ∧ S1.1 1 2 = 0 ∧ R1.1 129 1 = 0 ∧ frm QFa [1, 94, 106, 120] QFj S S1 ∧ frm QGa [129] QGj R R1 ∧ ((RelFn S1 R1 ∧ S1.1 106 8 = 0 ∧ R1.1 129 58 = 0 ∧ R1.1 129 102 = 0) ∨ (S1.1 106 = S.1 106 ∧ S1.1 108 = S.1 108 ∧ R1.1 160 = R.1 160 ∧ R1.1 129 51 = R.1 129 51 ∧ R1.1 129 58 = R.1 129 58 ∧ R1.1 129 102 = R.1 129 102)))) := by
  have n150 := hv.2.2.2.2.2.2.2.1
  unfold E_C_find E_R_find E_Tape_openText E_R_takeTape
  have htt := ht
  obtain ⟨t1, t2, t3, t4, t5, t6⟩ := htt
  refine ok_b (ok_nb (by omega) (ok_s ?_))
  dsimp only
  generalize hT : w_put (w_put (w_put (w_put (w_put S 1 3 (S.1 1 1)) 1 4 (S.1 1 1)) 1 5 (S.1 1 1 + S.1 1 2)) 1 6 (-1)) 1 2 0 = T
  generalize hR0 : w_put (w_put R 129 2 (R.1 129 1)) 129 1 0 = R0
  have T2 : T.1 2 = S.1 2 := by rw [← hT]; rfl
  have fS0 : frm QFa [1, 94, 106, 120] QFj S T := by
    rw [← hT]
    repeat (first | exact frm.refl _ _ _ _ | refine frm.put ?_ rfl | refine frm.puto ?_ rfl rfl)
  have fR0 : frm QGa [129] QGj R R0 := by
    rw [← hR0]
    repeat (first | exact frm.refl _ _ _ _ | refine frm.put ?_ rfl | refine frm.puto ?_ rfl rfl)
  have X : TX T (S.1 1 1) (S.1 1 2) (txt R (S.1 1 2)) := tx_open ht T2 (by rw [← hT]; rfl) (by rw [← hT]; rfl)
  have Y : TR R0 (S.1 1 2) (txt R (S.1 1 2)) := by
    rw [← hR0]
    exact tr_open ht
  have e0 : T = tp T (S.1 1 1) (-1) := by
    have k := tp_self T
    rw [show T.1 1 4 = S.1 1 1 by rw [← hT]; rfl, show T.1 1 6 = -1 by rw [← hT]; rfl] at k
    exact k.symm
  have hq := x_ques (e := e) (N := N) (en := -1) (by omega) (Or.inl rfl) X Y
  rw [← e0] at hq
  obtain ⟨v1, S1, hv1, y', R1, hy, T', a', w', q', z1, z2, z3, z4, z5, z6⟩ := hq
  have jm : Jm (S.1 1 1) (S.1 1 2) (txt R (S.1 1 2)) T := ⟨T, S.1 1 1, -1, 0, e0, X, ⟨by omega, by omega, Or.inl ⟨rfl, by omega⟩⟩, by unfold Bd; omega⟩
  have wl : w' ≤ S.1 1 2 := by
    obtain ⟨T2, a2, w2, q2, j1, j2, j3, j4⟩ := pj_q (e := e) (N := N) (by omega) jm v1 S1 hv1
    have k1 : S1.1 1 6 = w' := by rw [z1]; rfl
    have k2 : S1.1 1 6 = w2 := by rw [j1]; rfl
    unfold At at j3
    unfold Bd at j4
    omega
  refine ok_b (ok_of hv1 ?_)
  dsimp only
  have X' : TX T' (S.1 1 1) (S.1 1 2) (txt R (S.1 1 2)) := X.cg (z3.2.1 1 rfl rfl) (z3.2.1 2 rfl rfl)
  have Y' : TR R1 (S.1 1 2) (txt R (S.1 1 2)) := Y.cg (z4.2.2 129 2 rfl rfl) (z4.2.1 130 rfl rfl)
  rw [z1]
  refine ok_b ((x_takeEnd X' z2).mono ?_)
  intro _ S2 ⟨a, w, u1, u2, _⟩
  have hpe : pE (txt R (S.1 1 2)) q' = y' := by
    rw [z5]
    unfold pE
    by_cases c : q' < 0
    · rw [if_pos c, if_neg (by omega)]
    · rw [if_neg c]
      by_cases c2 : txt R (S.1 1 2) q' = -1
      · rw [if_pos c2, if_neg (fun z => z.2 c2)]
      · rw [if_neg c2, if_pos ⟨by omega, c2⟩]
  have yb : -1 - S.1 1 2 ≤ y' := by
    unfold At at z2
    rw [z5]
    split <;> omega
  rw [hpe] at u2
  obtain ⟨v1, v2, v3⟩ := u2
  have fS2 : frm QFa [1, 94, 106, 120] QFj S S2 := by
    rw [u1]
    exact fS0.trans ((z3.weak (by decide)).trans (frm.weak (L := []) (O := [1]) (J := [(1, 4), (1, 6)]) (by unfold tp; repeat (first | exact frm.refl _ _ _ _ | refine frm.put ?_ rfl | refine frm.puto ?_ rfl rfl)) (by decide)))
  have fR1 : frm QGa [129] QGj R R1 := fR0.trans (z4.weak (by decide))
  have ok1 : ∀ b, b ≠ 1 → S2.1 b = T'.1 b := fun b hb => by rw [u1]; exact tpo T' a w hb
  dsimp only
  rw [show S2.1 1 6 = w by rw [u1]; rfl]
  have len : S.1 1 2 ≤ 2000 := t3
  rcases v3 with ⟨w1, w2⟩ | ⟨w1, w2⟩
  rotate_left
  · -- a wrong question
    refine ok_t (by omega) (ok_nb (by omega) (ok_s ?_))
    refine ok_b (ok_s ?_)
    refine ok_b (show Ok _ _ from ⟨_, _, hy, ?_⟩)
    dsimp only
    refine ok_e (by omega) (ok_nb (by omega) (ok_s ⟨by omega, ?_, ?_, fS2, fR1, Or.inr ⟨?_, ?_, ?_, ?_, ?_, ?_⟩⟩))
    · rw [u1]
      exact (z3.2.2 1 2 rfl rfl).trans (by rw [← hT]; rfl)
    · rw [z4.2.2 129 1 rfl rfl, ← hR0]; rfl
    · rw [ok1 106 (by decide), z3.2.1 106 rfl rfl, ← hT]; rfl
    · rw [ok1 108 (by decide), z3.2.1 108 rfl rfl, ← hT]; rfl
    · rw [z4.2.1 160 rfl rfl, ← hR0]; rfl
    · rw [z4.2.2 129 51 rfl rfl, ← hR0]; rfl
    · rw [z4.2.2 129 58 rfl rfl, ← hR0]; rfl
    · rw [z4.2.2 129 102 rfl rfl, ← hR0]; rfl
  have hqs := z6 (by omega)
  subst w1
  refine ok_e (fun z => z rfl) ?_
  generalize hR2 : w_put R1 129 102 0 = R2
  have fR2 : frm QGa [129] QGj R R2 := fR1.trans (by rw [← hR2]; repeat (first | exact frm.refl _ _ _ _ | refine frm.put ?_ rfl | refine frm.puto ?_ rfl rfl))
  have hQ : Qry S2 R2 (S.1 1 1) (S.1 1 2) (txt R (S.1 1 2)) := by
    refine ⟨hqs.cg (fun c c1 c2 => ok1 c (by omega)) (ok1 94 (by decide)) (fun c c1 c2 => ?_) ⟨?_, ?_, ?_⟩, ?_, ?_, fun p hp => ?_⟩
    · rw [← hR2]
      exact w_put_f (by omega)
    · rw [← hR2]; rfl
    · rw [← hR2]; rfl
    · rw [← hR2]; rfl
    · rw [u1]
      exact X'.tp
    · exact Y'.cg (by rw [← hR2]; rfl) (by rw [← hR2]; rfl)
    · rw [show R2.1 130 = R1.1 130 by rw [← hR2]; rfl, z4.2.1 130 rfl rfl, ← hR0]
      exact (t6 p hp).2
  have hS : SrR S2 R2 (S.1 1 1) (S.1 1 2) (txt R (S.1 1 2)) top ta L E V n := by
    have ca : ∀ c, 2 ≤ c ∧ c ≤ 27 → S2.1 c = S.1 c := fun c hc => fS2.2.1 c (by
      simp only [List.contains_cons, List.contains_nil, Bool.or_false, Bool.or_eq_false_iff, beq_eq_false_iff_ne, ne_eq]
      omega) (by
      simp only [List.contains_cons, List.contains_nil, Bool.or_false, Bool.or_eq_false_iff, beq_eq_false_iff_ne, ne_eq]
      omega)
    have ra : ∀ c, ((136 ≤ c ∧ c ≤ 149) ∨ 238 ≤ c) → R2.1 c = R.1 c := fun c hc => fR2.2.1 c (by
      simp only [List.contains_cons, List.contains_nil, Bool.or_false, Bool.or_eq_false_iff, beq_eq_false_iff_ne, ne_eq]
      omega) (by
      simp only [List.contains_cons, List.contains_nil, Bool.or_false, beq_eq_false_iff_ne, ne_eq]
      omega)
    refine ⟨hQ, hv.fr (fun a ha => ca a (by omega)) (by rw [ca 3 (by omega)]) (by rw [ca 3 (by omega)]) (by rw [ca 27 (by omega)]; exact Int.le_refl _) (fun a ha => ra a (by omega)) (fR2.2.2 129 13 rfl rfl) (fR2.2.2 129 17 rfl rfl) (fR2.2.2 129 23 rfl rfl) fR2.1, hk.fr fS2 fR2 (by decide), hn.fr fS2 fR2 (by decide), hAb.fr fS2 fR2 (by decide), hG.fr fS2 fR2 (by decide), ?_⟩
    rw [fR2.2.2 129 12 rfl rfl, ca 27 (by omega)]
    exact hd
  refine ok_b ((x_search (e := e) hN htop hS).mono ?_)
  intro _ S3 ⟨y3, R3, hy3, L', m1, m2, m3, m4, m5, m6, m7⟩
  refine ok_s ?_
  refine ok_b (ok_s ?_)
  refine ok_b (show Ok _ _ from ⟨_, _, hy, ?_⟩)
  dsimp only
  refine ok_t (by omega) ?_
  rw [hR2]
  refine ok_b (show Ok _ _ from ⟨_, _, hy3, ?_⟩)
  refine ok_s ⟨by rw [m1, m2.1], ?_, ?_, fS2.trans (m6.weak (by decide)), fR2.trans (m7.weak (by decide)), Or.inl ⟨m2.rel (by omega) (fun y hy => ?_), m4, m5, ?_⟩⟩
  · rw [m6.2.1 1 rfl rfl, u1]
    exact (z3.2.2 1 2 rfl rfl).trans (by rw [← hT]; rfl)
  · rw [m7.2.2 129 1 rfl rfl, ← hR2]
    show R1.1 129 1 = 0
    rw [z4.2.2 129 1 rfl rfl, ← hR0]; rfl
  · rw [m6.2.1 3 rfl rfl, fS2.2.1 3 rfl rfl, hv.2.2.2.2.2.1]
    have := m3.2 y hy
    omega
  · rw [m7.2.2 129 102 rfl rfl, ← hR2]
    simp only [w_put_r, reduceIte, Nat.reduceEqDiff, pt_at]
theorem m_find {e : w_E} {N i : Nat} {S R : w_S} (hN : 16000000 ≤ N) (h : Inv e N i S R) : Ok (E_C_find e N S) (fun y S1 => Ok (E_R_find e N R) (fun y' R1 => y' = y ∧ Inv e N (i + 1) S1 R1)) := by
  have h0 := h
  obtain ⟨t, sa, Ls, hC, hnum, ⟨htp, h20⟩, hA, hval⟩ := h0
  obtain ⟨ta, L, E, V, n, hh, hva⟩ := hval
  refine (q_find2 hN hC.2.2.2.1 htp hh.2.2.2.2.2.2.2.2.2.2.2.2.2.1 hh.2.2.2.2.2.2.2.2.2.2.2.2.2.2.1 hh.2.2.2.2.2.2.2.2.2.2.1 hh.2.2.2.2.2.2.2.2.2.2.2.1 hh.2.2.1.2.2.2.1 hh.day.1).mono (fun y S1 k => k.mono (fun y' R1 r => ?_))
  obtain ⟨r1, s12, r11, hf, hg, hd⟩ := r
  have c128 : S1.1 128 = S.1 128 := hf.2.1 128 rfl rfl
  refine ⟨r1, h.q hf hg (by decide) (by decide) (fun _ _ z => z.fr hf hg (by decide)) (fun z => ⟨?_, ?_⟩) (fun z => ?_) (fun t' z0 z => ?_)⟩
  · obtain ⟨p1, p2, p3, p4, p5, p6⟩ := z
    have k1 : S1.1 1 1 = S.1 1 1 := hf.2.2 1 1 rfl rfl
    exact ⟨by rw [r11, s12], by omega, by omega, by omega, by omega, fun p hp => by omega⟩
  · have := z.2.1
    omega
  · obtain ⟨h1, h2, h3, h4, h5⟩ := z
    refine ⟨h1.fr hf hg (by decide), h2.fr hf hg (by decide), ?_, ?_, h5.cg hg.1⟩
    · rcases hd with ⟨d1, _⟩ | ⟨d1, d2, d3, d4, d5, d6⟩
      · exact d1
      · exact h3.cg (by rw [d1]) d2 (hf.2.2 3 0 rfl rfl) d4 d3
    · rcases hd with ⟨d1, d2, d3, d4⟩ | ⟨d1, d2, d3, d4, d5, d6⟩
      · exact Or.inl ⟨d4, d2⟩
      · exact h4.cg (by rw [d1]) (hf.2.1 111 rfl rfl) d6 d4 (hg.2.1 196 rfl rfl)
  · have ht : t' = t := by
      have := hC.1
      omega
    subst ht
    have fn : frn R R1 := frn.of hg (by decide) hh.ta
    refine ⟨ta, L, E, V, n, ?_, ?_⟩
    · rw [c128]
      exact (hh.same (Same.of hf (by decide))).rf fn (by rw [hg.1]; exact hh.2.2.2.2.2.2.2.2.2.2.2.2.2.1.1.2.2.2.2.1)
    · rcases hd with ⟨_, _, d3, _⟩ | ⟨d1, d2, d3, d4, d5, d6⟩
      · exact Or.inl d3
      · rw [c128]
        refine hva.cg (fun a ha => ?_) (by rw [d1]) (fun a ha => ?_) (hg.2.2 129 12 rfl rfl) d5 (hg.2.2 129 59 rfl rfl) (hg.2.2 129 60 rfl rfl) (fun v d F => nmo_fn fn v d F)
        · rcases (show a = 2 ∨ a = 4 ∨ a = 5 ∨ a = 8 ∨ a = 9 ∨ a = 10 ∨ a = 11 ∨ a = 12 ∨ a = 13 ∨ a = 14 ∨ a = 15 ∨ a = 16 ∨ a = 108 by omega) with rfl | rfl | rfl | rfl | rfl | rfl | rfl | rfl | rfl | rfl | rfl | rfl | rfl
          all_goals first | exact d2 | exact hf.2.1 _ rfl rfl
        · have hta : R.2.1 2 = ta := hh.2.2.2.2.2.2.2.2.2.2.2.2.2.1.1.1
          rcases ha with ha | ha | ha
          · rcases (show a = 136 ∨ a = 137 ∨ a = 138 ∨ a = 139 ∨ a = 140 ∨ a = 141 ∨ a = 142 ∨ a = 143 ∨ a = 144 ∨ a = 145 ∨ a = 146 ∨ a = 147 ∨ a = 148 ∨ a = 149 by omega) with rfl | rfl | rfl | rfl | rfl | rfl | rfl | rfl | rfl | rfl | rfl | rfl | rfl | rfl
            all_goals exact hg.2.1 _ rfl rfl
          · rw [ha, ← hta]
            exact fn.2.2.2.1
          · rcases (show a = 163 ∨ a = 164 ∨ a = 165 by omega) with rfl | rfl | rfl
            all_goals exact hg.2.1 _ rfl rfl
end
section
-- hk
/-- the invariant asks nothing of the class's other half -/
theorem Inv.sg {e : w_E} {N i : Nat} {S R : w_S} (h : Inv e N i S R) (z : (Nat → Nat) × (Nat → Option (Nat × Nat)) × Nat × Nat) : Inv e N i (S.1, z) R := by
  obtain ⟨t, sa, Ls, ⟨c1, c2, c3, c4, c5, c6, c7, c8, c9, c10, c11⟩, nm, tp, ak, ta, L, E, V, n, hs, va⟩ := h
  refine ⟨t, sa, Ls, ⟨c1, c2, c3, c4, c5, c6, c7, c8, c9, ?_, c11⟩, nm, tp, ak, ta, L, E, V, n, ?_, va⟩
  · exact Rch.same c10 (Same.sg _ _ _)
  · exact hs.same (Same.sg _ _ _)
theorem Inv.dead {e : w_E} {N i : Nat} {S R : w_S} (h : Inv e N i S R) : ∀ a, a < 129 → R.2.2.1 a = none := by
  obtain ⟨t, sa, Ls, _, _, _, ak, _⟩ := h
  exact fun a ha => ak.2.2.2.2.2 a (by omega)
end
