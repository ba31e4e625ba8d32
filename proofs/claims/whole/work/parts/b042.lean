section
-- fv
/-- the row that a field gives to the values of a tag -/
def fva (t : Int) (f : Fdl) : Option (List Int) := if f.1 = t then far f else none
def av1 (t r : Int) (f : Fdl) (l : List Vl) : List Vl := match fva t f with
  | some s => adv s r l
  | none => l
def avs (t r : Int) : List Fdl → List Vl → List Vl
  | [], l => l
  | f :: D, l => avs t r D (av1 t r f l)
theorem far_row {f : Fdl} (hv : vfd f) {s : List Int} (h : far f = some s) : vrow s := by
  unfold far at h
  cases w : fsi 97 f.2.2.2 with
  | none => rw [w] at h; cases h
  | some k =>
    rw [w] at h
    cases h
    exact hv.2.2.1 _ (memD (d := (0, [])) (fsi_lt w))
theorem fva_row {t : Int} {f : Fdl} (hv : vfd f) {s : List Int} (h : fva t f = some s) : vrow s := by
  unfold fva at h
  split at h
  · exact far_row hv h
  · cases h
def vbd (A : Nat) (l : List Vl) : Prop := l.length ≤ A ∧ ∀ v, v ∈ l → vok A v
theorem vbd.up {A B : Nat} {l : List Vl} (h : vbd A l) (hl : A ≤ B) : vbd B l := ⟨Nat.le_trans h.1 hl, fun v hv => ⟨(h.2 v hv).1, (h.2 v hv).2.1, by have := (h.2 v hv).2.2; omega⟩⟩
theorem av1_bd {t r : Int} {f : Fdl} {l : List Vl} {A : Nat} (hv : vfd f) (h : vbd A l) : vbd (A + 1) (av1 t r f l) := by
  unfold av1
  split
  next s hs =>
    have := adv_len s r l
    have := h.1
    exact ⟨by omega, adv_ok (fva_row hv hs) l h.2⟩
  next => exact h.up (by omega)
theorem avs_bd {t r : Int} : ∀ {D : List Fdl} {l : List Vl} {A : Nat}, (∀ f, f ∈ D → vfd f) → vbd A l → vbd (A + D.length) (avs t r D l)
  | [], _, _, _, h => h
  | f :: D, l, A, hv, h => by
    have := avs_bd (t := t) (r := r) (D := D) (fun g hg => hv g (List.mem_cons_of_mem _ hg)) (av1_bd (t := t) (r := r) (hv f List.mem_cons_self) h)
    rw [avs, List.length_cons]
    exact this.up (by omega)
theorem l_avC {e : w_E} {N : Nat} {top t r : Int} {D : List Fdl} (hN : 2000 ≤ N) (htop : top ≤ 10240) (hDl : D.length ≤ 12) (hv : ∀ f, f ∈ D → vfd f ∧ f.2.2.2.length ≤ 5) : ∀ (k F nf A : Nat) (S : w_S) (l : List Vl), F + k = D.length → k < nf → Dr S (S.1 2) top D → (∀ j, -128 ≤ S.1 2 j ∧ S.1 2 j ≤ 127) → S.1 106 9 = (l.length : Nat) → vbd A l → A + k ≤ 1800 → Hvc S top 0 l → Ok (El_Desk_addValues e N nf 0 [t, r, (F : Int)] [] S) (fun _ S1 => frm [112, 113, 114] [106] VCj S S1 ∧ S1.1 106 9 = ((avs t r (D.drop F) l).length : Nat) ∧ Hvc S1 top 0 (avs t r (D.drop F) l))
  | _, _, 0, _, _, _, _, h, _, _, _, _, _, _ => by omega
  | 0, F, nf + 1, A, S, l, g1, g2, hD, hs, g3, g4, g5, g6 => by
    rw [El_Desk_addValues, hD.1, List.drop_of_length_le (by omega)]
    exact ok_t (by omega) (ok_s ⟨frm.refl _ _ _ _, g3, g6⟩)
  | k + 1, F, nf + 1, A, S, l, g1, g2, hD, hs, g3, g4, g5, g6 => by
    have dF := hD.2 F (by omega)
    have mem := memD (l := D) (i := F) (d := (0, 0, 0, [])) (by omega)
    have dd : D.drop F = D.getD F (0, 0, 0, []) :: D.drop (F + 1) := drop_cons (by omega)
    obtain ⟨fv, f5⟩ := hv _ mem
    rw [El_Desk_addValues, hD.1]
    generalize hf : D.getD F (0, 0, 0, []) = f at *
    have ih := fun A' S' l' => l_avC (e := e) (t := t) (r := r) hN htop hDl hv k (F + 1) nf A' S' l' (by omega) (by omega)
    rw [show ((F + 1 : Nat) : Int) = (F : Int) + 1 by omega] at ih
    obtain ⟨z, z1, z2⟩ := x_slot2 (e := e) (N := N) (c := 97) (by omega) (show F < 20 by omega) (by omega) dF
    obtain ⟨d1, d2, d3, d4, d5⟩ := dF
    refine ok_e (by omega) (ok_b (ok_of z1 ?_))
    dsimp only
    rw [show ((F : Int)).toNat = F by omega, d1, dd, avs]
    refine ok_ib (by omega) ?_
    have skip : fva t f = none → Ok (if w_nb ((F : Int) + 1) = true then El_Desk_addValues e N nf 0 [t, r, (F : Int) + 1] [] S else none) (fun _ S1 => frm [112, 113, 114] [106] VCj S S1 ∧ S1.1 106 9 = ((avs t r (D.drop (F + 1)) (av1 t r f l)).length : Nat) ∧ Hvc S1 top 0 (avs t r (D.drop (F + 1)) (av1 t r f l))) := fun w => by
      have w2 : av1 t r f l = l := by
        unfold av1
        rw [w]
      rw [w2]
      exact ok_nb (by omega) (ih (A + 1) S l hD hs g3 (g4.up (by omega)) (by omega) g6)
    by_cases c1 : f.1 = t
    rotate_left
    · exact ok_t c1 (skip (by unfold fva; rw [if_neg c1]))
    refine ok_e (fun w => w c1) ?_
    rcases z2 with ⟨w1, w2⟩ | ⟨j, w1, w2⟩
    · refine ok_t w2 (skip ?_)
      unfold fva
      rw [if_pos c1]
      unfold far
      rw [w1]
      rfl
    have kl := fsi_lt w1
    obtain ⟨_, hrw⟩ := d5 j kl
    have sv := fv.2.2.1 _ (memD (d := (0, [])) kl)
    have fr : fva t f = some (f.2.2.2.getD j (0, [])).2 := by
      unfold fva far
      rw [if_pos c1, w1]
      rfl
    generalize (f.2.2.2.getD j (0, [])).2 = s at *
    have ae : av1 t r f l = adv s r l := by
      unfold av1
      rw [fr]
    subst w2
    rw [show (((13 * F + j : Nat) : Int)).toNat = 13 * F + j by omega]
    refine ok_e (by omega) (ok_ib (by omega) (ok_b ?_))
    unfold E_Desk_addValue
    have al := g4.1
    refine (l_adC (e := e) (N := N) (A := A) (r := r) (by omega) htop hs hrw sv (by omega) l 0 N (by rw [g3]; omega) (by omega) g4.2 g6 (by omega)).mono ?_
    intro _ S1 ⟨q1, q2, q3, _⟩
    dsimp only
    have t2 : S1.1 2 = S.1 2 := q1.2.1 2 rfl rfl
    rw [ae]
    have al2 := adv_len s r l
    refine ok_nb (by omega) ((ih (A + 1) S1 (adv s r l) (by
      rw [t2]
      refine hD.cg (q1.2.2 120 0 rfl rfl) (fun c c1 c2 => q1.2.1 c ?_ ?_)
      · simp only [List.contains_cons, List.contains_nil, Bool.or_false, Bool.or_eq_false_iff, beq_eq_false_iff_ne, ne_eq]
        omega
      · simp only [List.contains_cons, List.contains_nil, Bool.or_false, beq_eq_false_iff_ne, ne_eq]
        omega) (by rw [t2]; exact hs) (by rw [q2, Nat.zero_add]) (by
      rw [← ae]
      exact av1_bd fv g4) (by omega) q3).mono ?_)
    intro _ S2 ⟨p1, p2, p3⟩
    exact ⟨q1.trans p1, p2, p3⟩
theorem l_gv2 {e : w_E} {N k : Nat} {t r ps : Int} (hN : 5000 ≤ N) (hps : ps ≤ 4000) (hr1 : 1 ≤ r) (hk : k < 150) : ∀ (D : List Fdl) (p nf A : Nat) (R : w_S) (l : List Vl), R.1 129 37 = ps → (∀ f, f ∈ D → vfd f) → byt (R.1 150) p (doc D) → ((p + (doc D).length : Nat) : Int) = ps → D.length < nf → R.1 129 60 = (l.length : Nat) → vbd A l → A + D.length ≤ 1800 → Hvr R 0 l → ∃ n' R', nf ≤ n' + D.length + 1 ∧ frm VRa [129] VRj R R' ∧ R'.1 129 60 = ((avs t r D l).length : Nat) ∧ Hvr R' 0 (avs t r D l) ∧ ∀ P, Ok (El_R_gatherValues e N n' 0 [t, ((k + 1 : Nat) : Int)] [] R') P → Ok (El_R_gatherValues e N nf 2 [t, (k : Int), r, (p : Int)] [] R) P
  | _, _, 0, _, _, _, _, _, _, _, h, _, _, _, _ => by omega
  | [], p, nf + 1, A, R, l, hp, g1, g2, g3, g4, g5, g6, g7, g8 => by
    rw [doc, List.flatMap_nil, List.length_nil] at g3
    refine ⟨nf, R, by rw [List.length_nil]; omega, frm.refl _ _ _ _, g5, g8, fun P h => ?_⟩
    rw [El_R_gatherValues, hp]
    refine ok_t (by omega) (ok_nb (by omega) ?_)
    rw [show (k : Int) + 1 = ((k + 1 : Nat) : Int) by omega]
    exact h
  | f :: D, p, nf + 1, A, R, l, hp, g1, g2, g3, g4, g5, g6, g7, g8 => by
    rw [List.length_cons] at g4 g7
    have fv := g1 f List.mem_cons_self
    have sl := ser_len f
    have t1 := fv.1
    have t2 := fv.2.1
    rw [doc, List.flatMap_cons] at g2 g3
    rw [byt_app] at g2
    rw [List.length_append] at g3
    have fa : Fat R 150 4000 p f := ⟨rfl, by decide, g2.1, by omega, fv⟩
    have tgl := fa.1
    obtain ⟨b0, b1, b2, b3⟩ := fa.tag
    have fe := x_fieldEnd (e := e) (N := N) (by omega) fa
    have ih := fun R' l' => l_gv2 (e := e) (N := N) (k := k) (t := t) (r := r) (ps := ps) hN hps hr1 hk D (p + (ser f).length) nf (A + 1) R' l'
    -- the tree up to the tag
    have head : ∀ P, Ok (if f.1 ≠ t then ((E_R_fieldEnd e N (p : Int) 150 R).bind (fun q1368 => (if w_nb (q1368.1 + 1) = true then El_R_gatherValues e N nf 2 [t, (k : Int), r, q1368.1 + 1] [] q1368.2 else none))) else ((E_R_firstA e N (p : Int) ((p + (fbd f).length + 4 : Nat) : Int) 150 R).bind (fun q1369 => (if q1369.1 < 0 then ((E_R_fieldEnd e N (p : Int) 150 q1369.2).bind (fun q1370 => (if w_nb (q1370.1 + 1) = true then El_R_gatherValues e N nf 2 [t, (k : Int), r, q1370.1 + 1] [] q1370.2 else none))) else (if w_nb (q1369.1 + 2) = true then ((E_R_rowEnd e N (q1369.1 + 2) ((p + (fbd f).length + 4 : Nat) : Int) 150 q1369.2).bind (fun q1371 => ((E_R_addValue e N r (q1369.1 + 2) q1371.1 q1371.2).bind (fun q1372 => ((E_R_fieldEnd e N (p : Int) 150 q1372.2).bind (fun q1374 => (if w_nb (q1374.1 + 1) = true then El_R_gatherValues e N nf 2 [t, (k : Int), r, q1374.1 + 1] [] q1374.2 else none))))))) else none))))) P → Ok (El_R_gatherValues e N (nf + 1) 2 [t, (k : Int), r, (p : Int)] [] R) P := by
      intro P h
      rw [El_R_gatherValues, hp]
      refine ok_e (by omega) (ok_b (ok_of fe ?_))
      dsimp only
      rw [show ((p : Int)).toNat = p by omega, show ((p : Int) + 1).toNat = p + 1 by omega, show ((p : Int) + 2).toNat = p + 2 by omega, b0, b1, b2]
      (refine ok_len tgl ?_); (with_reducible refine ok_t (by omega) ?_); (with_reducible refine ok_t (by omega) (ok_nb (by omega) (ok_nb (by omega) (ok_nb (by omega) ?_)))); (refine ok_len tgl ?_); (with_reducible refine ok_t (by omega) ?_); (with_reducible refine ok_t (by omega) (ok_nb (by omega) (ok_nb (by omega) (ok_nb (by omega) (ok_nb (by omega) ?_))))); (refine ok_len tgl ?_); (with_reducible refine ok_t (by omega) ?_); (with_reducible refine ok_t (by omega) (ok_nb (by omega) (ok_nb (by omega) ?_)))
      rw [show 100 * (48 + f.1 / 100 - 48) + 10 * (48 + f.1 / 10 % 10 - 48) + (48 + f.1 % 10) - 48 = f.1 by omega]
      exact h
    have skip : fva t f = none → (∀ P, Ok ((E_R_fieldEnd e N (p : Int) 150 R).bind (fun q1368 => (if w_nb (q1368.1 + 1) = true then El_R_gatherValues e N nf 2 [t, (k : Int), r, q1368.1 + 1] [] q1368.2 else none))) P → Ok (El_R_gatherValues e N (nf + 1) 2 [t, (k : Int), r, (p : Int)] [] R) P) → ∃ n' R', nf + 1 ≤ n' + (f :: D).length + 1 ∧ frm VRa [129] VRj R R' ∧ R'.1 129 60 = ((avs t r (f :: D) l).length : Nat) ∧ Hvr R' 0 (avs t r (f :: D) l) ∧ ∀ P, Ok (El_R_gatherValues e N n' 0 [t, ((k + 1 : Nat) : Int)] [] R') P → Ok (El_R_gatherValues e N (nf + 1) 2 [t, (k : Int), r, (p : Int)] [] R) P := fun w h0 => by
      have w2 : av1 t r f l = l := by
        unfold av1
        rw [w]
      rw [avs, w2]
      obtain ⟨n', R', i1, i2, i3, i4, i5⟩ := ih R l hp (fun g hg => g1 g (List.mem_cons_of_mem _ hg)) g2.2 (by rw [doc]; omega) (by omega) g5 (g6.up (by omega)) (by omega) g8
      refine ⟨n', R', by rw [List.length_cons]; omega, i2, i3, i4, fun P h => h0 P ?_⟩
      refine ok_b (ok_of fe (ok_nb (by omega) ?_))
      dsimp only
      rw [show ((p + (fbd f).length + 4 : Nat) : Int) + 1 = ((p + (ser f).length : Nat) : Int) by omega]
      exact i5 P h
    by_cases c1 : f.1 = t
    rotate_left
    · exact skip (by unfold fva; rw [if_neg c1]) (fun P h => head P (ok_t c1 h))
    obtain ⟨z, z1, z2⟩ := x_aRow (e := e) (N := N) (by omega) (by omega) fa
    rcases z2 with ⟨w1, w2⟩ | ⟨j, s, w1, w2, w3, w4, w5, w6, w7⟩
    · refine skip (by unfold fva; rw [if_pos c1]; exact w1) (fun P h => head P (ok_e (fun w => w c1) (ok_b (ok_of z1 ?_))))
      exact ok_t (by omega) h
    subst w1
    have s1 := w4.1
    have fr : fva t f = some s := by
      unfold fva
      rw [if_pos c1]
      exact w3
    have ae : av1 t r f l = adv s r l := by
      unfold av1
      rw [fr]
    have al := g6.1
    have al2 := adv_len s r l
    have ad := l_adR (e := e) (N := N) (A := A) (x2 := p + 6 + j + 2) (r := r) (by omega) w5 (by omega) w4 (by omega) hr1 l 0 N (by rw [g5]; omega) (by omega) g6.2 g8 (by omega)
    obtain ⟨va, R1, had, q1, q2, q3, _, _⟩ := ad
    have e150 : R1.1 150 = R.1 150 := q1.2.1 150 rfl rfl
    have fa1 : Fat R1 150 4000 p f := ⟨rfl, by decide, by rw [e150]; exact g2.1, by omega, fv⟩
    have fe1 := x_fieldEnd (e := e) (N := N) (by omega) fa1
    obtain ⟨n', R', i1, i2, i3, i4, i5⟩ := ih R1 (adv s r l) (by rw [q1.2.2 129 37 rfl rfl]; exact hp) (fun g hg => g1 g (List.mem_cons_of_mem _ hg)) (by rw [e150]; exact g2.2) (by rw [doc]; omega) (by omega) (by rw [q2, Nat.zero_add]) (by rw [← ae]; exact av1_bd fv g6) (by omega) q3
    rw [avs, ae]
    refine ⟨n', R', by rw [List.length_cons]; omega, q1.trans i2, i3, i4, fun P h => head P (ok_e (fun w => w c1) (ok_b (ok_of z1 ?_)))⟩
    dsimp only
    refine ok_e (by omega) (ok_nb (by omega) (ok_b (ok_of w7 (ok_b ?_))))
    dsimp only
    unfold E_R_addValue
    rw [show ((p + 6 + j : Nat) : Int) + 2 = ((p + 6 + j + 2 : Nat) : Int) by omega]
    refine ok_of had (ok_b (ok_of fe1 (ok_nb (by omega) ?_)))
    dsimp only
    rw [show ((p + (fbd f).length + 4 : Nat) : Int) + 1 = ((p + (ser f).length : Nat) : Int) by omega]
    exact i5 P h
end
section
-- fw
/-- what a record says today -/
def DocT (S R : w_S) (top : Int) (ta E V : Nat) (r : Int) (D' : List Fdl) : Prop := ∃ (v : Nat) (D : List Fdl), v < V ∧ S.1 4 r.toNat = (v : Nat) ∧ gk (fun j => decide (R.1 136 j = r) && decide (R.1 137 j ≤ R.1 129 12)) V = (v : Nat) ∧ VrD S R (S.1 2) top ta E v D ∧ D' = lyd (nmo R (v : Int) (R.1 129 12)) 0 D
/-- all that values lean on -/
def VlR (S R : w_S) (top : Int) (ta L E V n : Nat) (Ds : Nat → List Fdl) : Prop := RelVr S R top ta L E V n ∧ RelLk S R ∧ RelNm S R top ∧ RelG S R ∧ RelFn S R ∧ R.1 129 12 = S.1 27 1 ∧ (∀ j, -128 ≤ S.1 2 j ∧ S.1 2 j ≤ 127) ∧ ∀ k : Nat, (k : Int) < S.1 106 4 → S.1 5 (S.1 108 k).toNat = -1 → DocT S R top ta E V (S.1 108 k) (Ds k)
abbrev VSa : List Nat := [112, 113, 114, 121, 122, 123, 124, 125, 126, 127]
abbrev VSj : List (Nat × Nat) := [(106, 9), (120, 0)]
abbrev VTa : List Nat := [150, 163, 164, 165, 166]
abbrev VTj : List (Nat × Nat) := [(129, 37), (129, 60)]
theorem RelFn.cg {S R S1 R1 : w_S} (h : RelFn S R) (c1 : S1.1 106 4 = S.1 106 4) (c2 : S1.1 108 = S.1 108) (c3 : S1.1 3 0 = S.1 3 0) (d1 : R1.1 129 51 = R.1 129 51) (d2 : R1.1 160 = R.1 160) : RelFn S1 R1 := by
  unfold RelFn at h ⊢
  rw [c1, c2, c3, d1, d2]
  exact h
theorem DocT.cg {S R S1 R1 : w_S} {top : Int} {ta E V : Nat} {r : Int} {D : List Fdl} (h : DocT S R top ta E V r D) (c : ∀ a, (a = 2 ∨ a = 4 ∨ (8 ≤ a ∧ a ≤ 16)) → S1.1 a = S.1 a) (d : ∀ a, ((136 ≤ a ∧ a ≤ 149) ∨ a = ta) → R1.1 a = R.1 a) (d12 : R1.1 129 12 = R.1 129 12) (hn : ∀ v d F, nmo R1 v d F = nmo R v d F) : DocT S1 R1 top ta E V r D := by
  obtain ⟨v, D0, h1, h2, h3, h4, h5⟩ := h
  refine ⟨v, D0, h1, by rw [c 4 (by omega)]; exact h2, by rw [d 136 (by omega), d 137 (by omega), d12]; exact h3, ?_, ?_⟩
  · unfold VrD CtF at h4 ⊢
    rw [c 2 (by omega), c 10 (by omega), c 11 (by omega), c 12 (by omega), c 13 (by omega), c 14 (by omega), c 15 (by omega), c 16 (by omega), d 138 (by omega), d 139 (by omega), d ta (by omega)]
    exact h4
  · rw [h5, d12, show nmo R1 (v : Int) (R.1 129 12) = nmo R (v : Int) (R.1 129 12) from funext (fun F => hn _ _ F)]
theorem VlR.fr {S R S1 R1 : w_S} {top : Int} {ta L E V n : Nat} {Ds : Nat → List Fdl} (h : VlR S R top ta L E V n Ds) (hf : frm VSa [106, 120] VSj S S1) (hg : frm VTa [129] VTj R R1) : VlR S1 R1 top ta L E V n Ds := by
  obtain ⟨h2, h3, h4, h5, h6, h7, h8, h9⟩ := h
  have ca : ∀ c, (2 ≤ c ∧ c ≤ 27) → S1.1 c = S.1 c := fun c hc => hf.2.1 c (by
    simp only [List.contains_cons, List.contains_nil, Bool.or_false, Bool.or_eq_false_iff, beq_eq_false_iff_ne, ne_eq]
    omega) (by
    simp only [List.contains_cons, List.contains_nil, Bool.or_false, Bool.or_eq_false_iff, beq_eq_false_iff_ne, ne_eq]
    omega)
  have ra : ∀ c, ((136 ≤ c ∧ c ≤ 149) ∨ 238 ≤ c) → R1.1 c = R.1 c := fun c hc => hg.2.1 c (by
    simp only [List.contains_cons, List.contains_nil, Bool.or_false, Bool.or_eq_false_iff, beq_eq_false_iff_ne, ne_eq]
    omega) (by
    simp only [List.contains_cons, List.contains_nil, Bool.or_false, beq_eq_false_iff_ne, ne_eq]
    omega)
  have hta := h2.2.1
  refine ⟨h2.fr (fun a ha => ca a (by omega)) (by rw [ca 3 (by omega)]) (by rw [ca 3 (by omega)]) (by rw [ca 27 (by omega)]; exact Int.le_refl _) (fun a ha => ra a (by omega)) (hg.2.2 129 13 rfl rfl) (hg.2.2 129 17 rfl rfl) (hg.2.2 129 23 rfl rfl) hg.1, h3.fr hf hg (by decide), h4.fr hf hg (by decide), h5.fr hf hg (by decide), h6.cg (hf.2.2 106 4 rfl rfl) (hf.2.1 108 rfl rfl) (by rw [ca 3 (by omega)]) (hg.2.2 129 51 rfl rfl) (hg.2.1 160 rfl rfl), ?_, by rw [ca 2 (by omega)]; exact h8, fun k hk h => ?_⟩
  · rw [hg.2.2 129 12 rfl rfl, ca 27 (by omega)]
    exact h7
  · rw [hf.2.2 106 4 rfl rfl] at hk
    rw [ca 5 (by omega), hf.2.1 108 rfl rfl] at h
    rw [hf.2.1 108 rfl rfl]
    exact (h9 k hk h).cg (fun a ha => ca a (by omega)) (fun a ha => ra a (by omega)) (hg.2.2 129 12 rfl rfl) (fun v d F => nmo_fr hg (by decide) v d F)
/-- the values of the first so many records found -/
def gvl (g5 g8 : Nat → Int) (t : Int) (Ds : Nat → List Fdl) : Nat → List Vl
  | 0 => []
  | k + 1 => if g5 (g8 k).toNat = -1 then avs t (g8 k) (Ds k) (gvl g5 g8 t Ds k) else gvl g5 g8 t Ds k
theorem DocT.v {S R : w_S} {top : Int} {ta L E V n : Nat} {Ds : Nat → List Fdl} {r : Int} {D : List Fdl} (h : VlR S R top ta L E V n Ds) (hD : DocT S R top ta E V r D) : D.length ≤ 12 ∧ ∀ f, f ∈ D → vfd f ∧ f.2.2.2.length ≤ 5 := by
  obtain ⟨v, D0, h1, h2, h3, h4, h5⟩ := hD
  obtain ⟨D1, D2, D3, D4, D5, D6, _⟩ := h4
  rw [h5, lyd_len]
  refine ⟨D3, lyd_v h.2.1 h.2.2.1 (fun f hf => ?_)⟩
  obtain ⟨F, hF, rfl⟩ := mem_of_get hf
  exact ⟨D5 _ hf, D4 F hF⟩
theorem gvl_bd {S R : w_S} {top t : Int} {ta L E V n : Nat} {Ds : Nat → List Fdl} (h : VlR S R top ta L E V n Ds) : ∀ k : Nat, (k : Int) ≤ S.1 106 4 → vbd (12 * k) (gvl (S.1 5) (S.1 108) t Ds k)
  | 0, _ => ⟨Nat.zero_le _, fun v hv => by cases hv⟩
  | k + 1, hk => by
    have ih := gvl_bd (t := t) h k (by omega)
    rw [gvl]
    split
    next c =>
      obtain ⟨d1, d2⟩ := DocT.v h (h.2.2.2.2.2.2.2 k (by omega) c)
      exact (avs_bd (fun f hf => (d2 f hf).1) ih).up (by omega)
    next => exact ih.up (by omega)
/-- the class gathers -/
theorem l_cv {e : w_E} {N : Nat} {R : w_S} {top t x2 x3 : Int} {ta L E V n : Nat} {Ds : Nat → List Fdl} {g5 g8 : Nat → Int} {cnt : Nat} (hN : 16000000 ≤ N) (htop : top ≤ 10240) : ∀ (m k nf : Nat) (S : w_S), S.1 5 = g5 → S.1 108 = g8 → S.1 106 4 = (cnt : Nat) → k + m = cnt → m < nf → VlR S R top ta L E V n Ds → S.1 106 9 = ((gvl g5 g8 t Ds k).length : Nat) → Hvc S top 0 (gvl g5 g8 t Ds k) → ∃ n' S', nf ≤ n' + m ∧ frm VSa [106, 120] VSj S S' ∧ S'.1 106 9 = ((gvl g5 g8 t Ds cnt).length : Nat) ∧ Hvc S' top 0 (gvl g5 g8 t Ds cnt) ∧ ∀ P, Ok (El_C_value e N n' 0 [t, x2, x3, (cnt : Int)] [] S') P → Ok (El_C_value e N nf 0 [t, x2, x3, (k : Int)] [] S) P
  | 0, k, nf, S, h5, h8, hc, g1, g2, hV, g3, g4 => by
    rw [show k = cnt by omega] at g3 g4 ⊢
    exact ⟨nf, S, by omega, frm.refl _ _ _ _, g3, g4, fun P h => h⟩
  | m + 1, k, 0, S, h5, h8, hc, g1, g2, hV, g3, g4 => by omega
  | m + 1, k, nf + 1, S, h5, h8, hc, g1, g2, hV, g3, g4 => by
    have bd := gvl_bd (t := t) hV k (by rw [hc]; omega)
    rw [h5, h8] at bd
    have hVV := hV
    obtain ⟨v1, v2, v3, v4, v5, v6, v7, v8⟩ := hVV
    obtain ⟨_, f1, f2, f3⟩ := v5
    obtain ⟨f4, f5, f6⟩ := f3 k (by rw [hc]; omega)
    have G := v4.2.2.1
    have g0 := v4.2.1
    have docs := v8 k (by rw [hc]; omega)
    rw [h8] at f5 f6 docs
    rw [h5] at docs
    have ih := fun S' => l_cv (e := e) (R := R) (top := top) (t := t) (x2 := x2) (x3 := x3) (ta := ta) (L := L) (E := E) (V := V) (n := n) (Ds := Ds) (g5 := g5) (g8 := g8) (cnt := cnt) hN htop m (k + 1) nf S'
    rw [show ((k + 1 : Nat) : Int) = (k : Int) + 1 by omega] at ih
    by_cases c : g5 (g8 k).toNat = -1
    rotate_left
    · have ge : gvl g5 g8 t Ds (k + 1) = gvl g5 g8 t Ds k := by rw [gvl, if_neg c]
      obtain ⟨n', S', i1, i2, i3, i4, i5⟩ := ih S h5 h8 hc (by omega) (by omega) hV (by rw [ge]; exact g3) (by rw [ge]; exact g4)
      refine ⟨n', S', by omega, i2, i3, i4, fun P h => ?_⟩
      rw [El_C_value, hc, h5, h8, show ((k : Int)).toNat = k by omega]
      exact ok_e (by omega) (ok_ib (by omega) (ok_e (by omega) (ok_e (by omega) (ok_ib (by omega) (ok_t c (ok_nb (by omega) (i5 P h)))))))
    have hD := docs c
    obtain ⟨dl, dv⟩ := DocT.v hV hD
    have hDD := hD
    obtain ⟨v, D0, w1, w2, w3, w4, w5⟩ := hDD
    have k5 := v1.2.2.2.2.1
    have ly := x_lay (e := e) (N := N) (d := S.1 27 1) (by omega) (show v < 400 by omega) v2 v3 w4
    rw [v6] at w5
    rw [← w5] at ly
    obtain ⟨y1, T, hT, y2, S2, hS2, s1, s2, _⟩ := ly
    have t2 : S2.1 2 = S.1 2 := s1.2.1 2 rfl rfl
    have ge : gvl g5 g8 t Ds (k + 1) = avs t (g8 k) (Ds k) (gvl g5 g8 t Ds k) := by rw [gvl, if_pos c]
    have av := l_avC (e := e) (N := N) (top := top) (t := t) (r := g8 k) (D := Ds k) (by omega) htop dl dv (Ds k).length 0 N (12 * k) S2 (gvl g5 g8 t Ds k) (by omega) (by omega) (by rw [t2]; exact s2) (by rw [t2]; exact v7) (by rw [s1.2.1 106 rfl rfl]; exact g3) bd (by omega) (g4.cg t2 (fun j _ _ => by rw [s1.2.1 112 rfl rfl, s1.2.1 113 rfl rfl, s1.2.1 114 rfl rfl]; exact ⟨rfl, rfl, rfl⟩))
    obtain ⟨y3, S3, hS3, q1, q2, q3⟩ := av
    rw [List.drop_zero, ← ge] at q2 q3
    have f3' : frm VSa [106, 120] VSj S S3 := (s1.weak (by decide)).trans (q1.weak (by decide))
    obtain ⟨n', S', i1, i2, i3, i4, i5⟩ := ih S3 (by rw [f3'.2.1 5 rfl rfl]; exact h5) (by rw [f3'.2.1 108 rfl rfl]; exact h8) (by rw [f3'.2.2 106 4 rfl rfl]; exact hc) (by omega) (by omega) (hV.fr f3' (frm.refl _ _ _ _)) q2 q3
    refine ⟨n', S', by omega, f3'.trans i2, i3, i4, fun P h => ?_⟩
    rw [El_C_value, hc, h5, h8, show ((k : Int)).toNat = k by omega, w2]
    refine ok_e (by omega) (ok_ib (by omega) (ok_e (by omega) (ok_e (by omega) (ok_ib (by omega) (ok_e (fun z => z c) (ok_b (ok_of hT (ok_b (ok_of hS2 (ok_b ?_))))))))))
    unfold E_Desk_addValues
    exact ok_of hS3 (ok_nb (by omega) (i5 P h))
/-- the reference gathers -/
theorem l_rv {e : w_E} {N : Nat} {S : w_S} {top t : Int} {ta L E V n : Nat} {Ds : Nat → List Fdl} {cnt : Nat} (hN : 16000000 ≤ N) (hc : S.1 106 4 = (cnt : Nat)) : ∀ (m k nf : Nat) (R : w_S), k + m = cnt → 20 * m < nf → VlR S R top ta L E V n Ds → R.1 129 60 = ((gvl (S.1 5) (S.1 108) t Ds k).length : Nat) → Hvr R 0 (gvl (S.1 5) (S.1 108) t Ds k) → ∃ n' R', nf ≤ n' + 20 * m ∧ frm VTa [129] VTj R R' ∧ R'.1 129 60 = ((gvl (S.1 5) (S.1 108) t Ds cnt).length : Nat) ∧ Hvr R' 0 (gvl (S.1 5) (S.1 108) t Ds cnt) ∧ ∀ P, Ok (El_R_gatherValues e N n' 0 [t, (cnt : Int)] [] R') P → Ok (El_R_gatherValues e N nf 0 [t, (k : Int)] [] R) P
  | 0, k, nf, R, g1, g2, hV, g3, g4 => by
    rw [show k = cnt by omega] at g3 g4 ⊢
    exact ⟨nf, R, by omega, frm.refl _ _ _ _, g3, g4, fun P h => h⟩
  | m + 1, k, 0, R, g1, g2, hV, g3, g4 => by omega
  | m + 1, k, nf + 1, R, g1, g2, hV, g3, g4 => by
    have bd := gvl_bd (t := t) hV k (by rw [hc]; omega)
    have hVV := hV
    obtain ⟨v1, v2, v3, v4, v5, v6, v7, v8⟩ := hVV
    obtain ⟨f0, f1, f2, f3⟩ := v5
    obtain ⟨f4, f5, f6⟩ := f3 k (by rw [hc]; omega)
    have G := v4.2.2.1
    have docs := v8 k (by rw [hc]; omega)
    have gr := (v4.2.2.2 (S.1 108 k).toNat (by omega) (by
      have : S.1 108 k ≤ S.1 3 0 := f6
      show (((S.1 108 k).toNat : Nat) : Int) ≤ S.1 3 0
      omega)).1
    have G' : S.1 3 0 ≤ 150 := G
    have ih := fun R' nf' => l_rv (e := e) (S := S) (top := top) (t := t) (ta := ta) (L := L) (E := E) (V := V) (n := n) (Ds := Ds) (cnt := cnt) hN hc m (k + 1) nf' R'
    by_cases c : S.1 5 (S.1 108 k).toNat = -1
    rotate_left
    · have ge : gvl (S.1 5) (S.1 108) t Ds (k + 1) = gvl (S.1 5) (S.1 108) t Ds k := by rw [gvl, if_neg c]
      obtain ⟨n', R', i1, i2, i3, i4, i5⟩ := ih R nf (by omega) (by omega) hV (by rw [ge]; exact g3) (by rw [ge]; exact g4)
      refine ⟨n', R', by omega, i2, i3, i4, fun P h => ?_⟩
      rw [show ((k + 1 : Nat) : Int) = (k : Int) + 1 by omega] at i5
      rw [El_R_gatherValues, f0, hc, show ((k : Int)).toNat = k by omega, f4, show R.1 134 (S.1 108 k).toNat = S.1 5 (S.1 108 k).toNat from gr]
      exact ok_e (by omega) (ok_ib (by omega) (ok_ib (by omega) (ok_e c (ok_nb (by omega) (i5 P h)))))
    have hD := docs c
    obtain ⟨dl, dv⟩ := DocT.v hV hD
    obtain ⟨v, D0, w1, w2, w3, w4, w5⟩ := hD
    have bu := x_build (e := e) (N := N) hN v1 v2 v3 w3 w4
    rw [← w5] at bu
    obtain ⟨y1, R1, hR1, b1, b2, b3⟩ := bu
    have dle := doc_le dv
    have ge : gvl (S.1 5) (S.1 108) t Ds (k + 1) = avs t (S.1 108 k) (Ds k) (gvl (S.1 5) (S.1 108) t Ds k) := by rw [gvl, if_pos c]
    obtain ⟨n1, R2, j1, j2, j3, j4, j5⟩ := l_gv2 (e := e) (N := N) (k := k) (t := t) (r := S.1 108 k) (ps := ((doc (Ds k)).length : Nat)) (by omega) (by omega) f5 (by omega) (Ds k) 0 nf (12 * k) R1 (gvl (S.1 5) (S.1 108) t Ds k) b2 (fun f hf => (dv f hf).1) b3 (by omega) (by omega) (by rw [b1.2.2 129 60 rfl rfl]; exact g3) bd (by omega) (g4.cg (fun u hu => (bd.2 u hu).1.2.1) (fun j _ _ => by rw [b1.2.1 164 rfl rfl, b1.2.1 165 rfl rfl, b1.2.1 166 rfl rfl]; exact ⟨rfl, rfl, rfl⟩) (fun j _ _ => by rw [b1.2.1 163 rfl rfl]))
    rw [← ge] at j3 j4
    have f2' : frm VTa [129] VTj R R2 := (b1.weak (by decide)).trans (j2.weak (by decide))
    obtain ⟨n', R', i1, i2, i3, i4, i5⟩ := ih R2 n1 (by omega) (by omega) (hV.fr (frm.refl _ _ _ _) f2') j3 j4
    refine ⟨n', R', by omega, f2'.trans i2, i3, i4, fun P h => ?_⟩
    rw [El_R_gatherValues, f0, hc, show ((k : Int)).toNat = k by omega, f4, show R.1 134 (S.1 108 k).toNat = S.1 5 (S.1 108 k).toNat from gr]
    refine ok_e (by omega) (ok_ib (by omega) (ok_ib (by omega) (ok_t c (ok_b (ok_of hR1 ?_)))))
    dsimp only
    exact j5 P (i5 P h)
end
section
-- fx
/-- the order of rows, byte by byte -/
def rlt : List Int → List Int → Bool
  | [], [] => false
  | [], _ :: _ => true
  | _ :: _, [] => false
  | a :: l, b :: m => if a = b then rlt l m else decide (a < b)
theorem rlt_irr : ∀ a : List Int, rlt a a = false
  | [] => rfl
  | x :: a => by
    rw [rlt, if_pos rfl]
    exact rlt_irr a
theorem rlt_tr : ∀ {a b c : List Int}, rlt a b = true → rlt b c = true → rlt a c = true
  | [], [], _, h, _ => by cases h
  | [], _ :: _, [], _, h => by cases h
  | [], _ :: _, _ :: _, _, _ => rfl
  | _ :: _, [], _, h, _ => by cases h
  | _ :: _, _ :: _, [], _, h => by cases h
  | x :: a, y :: b, z :: c, h1, h2 => by
    rw [rlt] at h1 h2 ⊢
    by_cases c1 : x = y
    · rw [if_pos c1] at h1
      by_cases c2 : y = z
      · rw [if_pos c2] at h2
        rw [if_pos (c1.trans c2)]
        exact rlt_tr h1 h2
      · rw [if_neg c2] at h2
        have := of_decide_eq_true h2
        rw [if_neg (by omega)]
        exact decide_eq_true (by omega)
    · rw [if_neg c1] at h1
      have q1 := of_decide_eq_true h1
      by_cases c2 : y = z
      · rw [if_neg (by omega)]
        exact decide_eq_true (by omega)
      · rw [if_neg c2] at h2
        have := of_decide_eq_true h2
        rw [if_neg (by omega)]
        exact decide_eq_true (by omega)
theorem rlt_tot : ∀ {a b : List Int}, a ≠ b → rlt a b = false → rlt b a = true
  | [], [], h, _ => absurd rfl h
  | [], _ :: _, _, h => by cases h
  | _ :: _, [], _, _ => rfl
  | x :: a, y :: b, h, g => by
    rw [rlt] at g ⊢
    by_cases c1 : x = y
    · rw [if_pos c1] at g
      rw [if_pos c1.symm]
      exact rlt_tot (fun z => h (by rw [c1, z])) g
    · rw [if_neg c1] at g
      have := of_decide_eq_false g
      rw [if_neg (by omega)]
      exact decide_eq_true (by omega)
/-- a value ahead of another -/
def vah (u v : Vl) : Bool := decide (v.2.1 < u.2.1) || (decide (u.2.1 = v.2.1) && rlt u.1 v.1)
theorem vah_irr (u : Vl) : vah u u = false := by
  unfold vah
  rw [rlt_irr, Bool.and_false, Bool.or_false]
  exact decide_eq_false (by omega)
theorem vah_tr {u v w : Vl} (h1 : vah u v = true) (h2 : vah v w = true) : vah u w = true := by
  unfold vah at h1 h2 ⊢
  simp only [Bool.or_eq_true, Bool.and_eq_true, decide_eq_true_eq] at h1 h2 ⊢
  rcases h1 with h1 | ⟨h1, g1⟩
  · rcases h2 with h2 | ⟨h2, g2⟩
    · left; omega
    · left; omega
  · rcases h2 with h2 | ⟨h2, g2⟩
    · left; omega
    · right
      exact ⟨by omega, rlt_tr g1 g2⟩
theorem vah_tot {u v : Vl} (h : u.1 ≠ v.1) (g : vah u v = false) : vah v u = true := by
  unfold vah at g ⊢
  simp only [Bool.or_eq_false_iff, Bool.and_eq_false_iff, decide_eq_false_iff_not, Bool.or_eq_true, Bool.and_eq_true, decide_eq_true_eq] at g ⊢
  by_cases c : u.2.1 = v.2.1
  · right
    refine ⟨c.symm, rlt_tot h ?_⟩
    rcases g.2 with z | z
    · exact absurd c z
    · exact z
  · left; omega
/-- rows told apart -/
def dst : List Vl → Prop
  | [] => True
  | v :: l => (∀ u, u ∈ l → u.1 ≠ v.1) ∧ dst l
theorem adv_mem {row : List Int} {r : Int} : ∀ {l : List Vl} {u : Vl}, u ∈ adv row r l → u.1 = row ∨ ∃ w, w ∈ l ∧ w.1 = u.1
  | [], u, h => by
    rw [adv, List.mem_singleton] at h
    exact Or.inl (by rw [h])
  | v :: l, u, h => by
    rw [adv] at h
    split at h
    · rcases List.mem_cons.1 h with z | z
      · exact Or.inl (by rw [z])
      · exact Or.inr ⟨u, List.mem_cons_of_mem _ z, rfl⟩
    · rcases List.mem_cons.1 h with z | z
      · exact Or.inr ⟨v, List.mem_cons_self, by rw [z]⟩
      · rcases adv_mem z with w | ⟨w, w1, w2⟩
        · exact Or.inl w
        · exact Or.inr ⟨w, List.mem_cons_of_mem _ w1, w2⟩
theorem adv_dst {row : List Int} {r : Int} : ∀ {l : List Vl}, dst l → dst (adv row r l)
  | [], _ => ⟨fun u h => (by cases h), trivial⟩
  | v :: l, h => by
    rw [adv]
    split
    next c => exact ⟨fun u hu => by dsimp only; rw [← c]; exact h.1 u hu, h.2⟩
    next c =>
      refine ⟨fun u hu => ?_, adv_dst h.2⟩
      rcases adv_mem hu with w | ⟨w, w1, w2⟩
      · rw [w]
        exact fun z => c z.symm
      · rw [← w2]
        exact h.1 w w1
theorem avs_dst {t r : Int} : ∀ {D : List Fdl} {l : List Vl}, dst l → dst (avs t r D l)
  | [], _, h => h
  | f :: D, l, h => by
    rw [avs]
    refine avs_dst ?_
    unfold av1
    split
    · exact adv_dst h
    · exact h
theorem gvl_dst {g5 g8 : Nat → Int} {t : Int} {Ds : Nat → List Fdl} : ∀ k : Nat, dst (gvl g5 g8 t Ds k)
  | 0 => trivial
  | k + 1 => by
    rw [gvl]
    split
    · exact avs_dst (gvl_dst k)
    · exact gvl_dst k
theorem dst.get : ∀ {l : List Vl}, dst l → ∀ {i j : Nat}, i < l.length → j < l.length → i ≠ j → (l.getD i vl0).1 ≠ (l.getD j vl0).1
  | [], _, _, _, h, _, _ => by cases h
  | v :: l, h, 0, 0, _, _, h3 => absurd rfl h3
  | v :: l, h, 0, j + 1, _, h2, _ => fun z => h.1 _ (memD (d := vl0) (Nat.lt_of_succ_lt_succ h2)) z.symm
  | v :: l, h, i + 1, 0, h1, _, _ => fun z => h.1 _ (memD (d := vl0) (Nat.lt_of_succ_lt_succ h1)) z
  | v :: l, h, i + 1, j + 1, h1, h2, h3 => dst.get h.2 (Nat.lt_of_succ_lt_succ h1) (Nat.lt_of_succ_lt_succ h2) (fun z => h3 (by rw [z]))
theorem Hvc.get {S : w_S} {top : Int} : ∀ {l : List Vl} {p : Nat}, Hvc S top p l → ∀ {i : Nat}, i < l.length → Vc1 S top (p + i) (l.getD i vl0)
  | [], _, _, _, h => by cases h
  | v :: l, p, h, 0, _ => h.1
  | v :: l, p, h, i + 1, h1 => by
    have := Hvc.get h.2 (i := i) (Nat.lt_of_succ_lt_succ h1)
    rw [show p + (i + 1) = p + 1 + i by omega]
    exact this
/-- the reference's values as they lie, the last record left out -/
def Vs1 (R : w_S) (p : Nat) (v : Vl) : Prop := byt (R.1 163) (40 * p) v.1 ∧ R.1 164 p = (v.1.length : Nat) ∧ R.1 165 p = v.2.1
theorem Hvr.get {R : w_S} : ∀ {l : List Vl} {p : Nat}, Hvr R p l → ∀ {i : Nat}, i < l.length → Vs1 R (p + i) (l.getD i vl0)
  | [], _, _, _, h => by cases h
  | v :: l, p, h, 0, _ => ⟨h.1.1, h.1.2.1, h.1.2.2.1⟩
  | v :: l, p, h, i + 1, h1 => by
    have := Hvr.get h.2 (i := i) (Nat.lt_of_succ_lt_succ h1)
    rw [show p + (i + 1) = p + 1 + i by omega]
    exact this
/-- the same values, in whatever order -/
def Pm (f g : Nat → Vl) (n : Nat) : Prop := ∀ q : Vl → Bool, cnt (fun k => q (f k)) 0 n = cnt (fun k => q (g k)) 0 n
def swp (f : Nat → Vl) (i j : Nat) : Nat → Vl := fun k => if k = i then f j else if k = j then f i else f k
def trp (i j k : Nat) : Nat := if k = i then j else if k = j then i else k
theorem trp_trp (i j k : Nat) : trp i j (trp i j k) = k := by
  unfold trp
  by_cases c1 : k = i
  · rw [if_pos c1]
    by_cases c2 : j = i
    · rw [if_pos c2]; omega
    · rw [if_neg c2, if_pos rfl]; omega
  · rw [if_neg c1]
    by_cases c2 : k = j
    · rw [if_pos c2, if_pos rfl]; omega
    · rw [if_neg c2, if_neg c1, if_neg c2]
theorem trp_lt {i j k n : Nat} (hi : i < n) (hj : j < n) (hk : k < n) : trp i j k < n := by
  unfold trp
  split
  · exact hj
  · split
    · exact hi
    · exact hk
theorem swp_trp (f : Nat → Vl) (i j k : Nat) : swp f i j k = f (trp i j k) := by
  unfold swp trp
  split
  · rfl
  · split <;> rfl
theorem pm_swp {f g : Nat → Vl} {n i j : Nat} (h : Pm f g n) (hi : i < n) (hj : j < n) : Pm (swp f i j) g n := by
  intro q
  rw [← h q]
  refine cnt_bij (f := trp i j) (g := trp i j) (fun k _ h2 h3 => ?_) (fun k _ h2 h3 => ?_)
  · rw [swp_trp] at h3
    exact ⟨Nat.zero_le _, by have := trp_lt hi hj (show k < n by omega); omega, h3, trp_trp i j k⟩
  · refine ⟨Nat.zero_le _, by have := trp_lt hi hj (show k < n by omega); omega, ?_, trp_trp i j k⟩
    show q (swp f i j (trp i j k)) = true
    rw [swp_trp, trp_trp]
    exact h3
end
section
-- fy
theorem l_vah {e : w_E} {N i j : Nat} {R : w_S} {m1 m2 : Nat} (hi : i < 1800) (hj : j < 1800) (h1 : m1 ≤ 40) (h2 : m2 ≤ 40) (k1 : R.1 164 i = (m1 : Nat)) (k2 : R.1 164 j = (m2 : Nat)) : ∀ (a b : List Int) (x nf : Nat), x + a.length = m1 → x + b.length = m2 → byt (R.1 163) (40 * i + x) a → byt (R.1 163) (40 * j + x) b → a.length < nf → El_R_isValueAhead e N nf 0 [(i : Int), (j : Int), (x : Int)] [] R = some (bi (rlt a b), R)
  | _, _, _, 0, _, _, _, _, h => by omega
  | [], [], x, nf + 1, g1, g2, g3, g4, g5 => by
    rw [List.length_nil] at g1 g2
    refine ok_eq ?_
    rw [El_R_isValueAhead, show ((i : Int)).toNat = i by omega, show ((j : Int)).toNat = j by omega, k1, k2]
    exact ok_ib (by omega) (ok_t (by omega) (ok_t (by omega) (ok_ib (by omega) (ok_t (by omega) (ok_s ⟨rfl, rfl⟩)))))
  | [], y :: b, x, nf + 1, g1, g2, g3, g4, g5 => by
    rw [List.length_nil] at g1
    rw [List.length_cons] at g2
    refine ok_eq ?_
    rw [El_R_isValueAhead, show ((i : Int)).toNat = i by omega, show ((j : Int)).toNat = j by omega, k1, k2]
    exact ok_ib (by omega) (ok_t (by omega) (ok_t (by omega) (ok_ib (by omega) (ok_e (by omega) (ok_s ⟨rfl, rfl⟩)))))
  | z :: a, [], x, nf + 1, g1, g2, g3, g4, g5 => by
    rw [List.length_nil] at g2
    rw [List.length_cons] at g1
    refine ok_eq ?_
    rw [El_R_isValueAhead, show ((i : Int)).toNat = i by omega, show ((j : Int)).toNat = j by omega, k1, k2]
    exact ok_ib (by omega) (ok_e (by omega) (ok_ib (by omega) (ok_t (by omega) (ok_e (by omega) (ok_e (by omega) (ok_s ⟨rfl, rfl⟩))))))
  | z :: a, y :: b, x, nf + 1, g1, g2, g3, g4, g5 => by
    rw [List.length_cons] at g1 g2 g5
    have b1 : R.1 163 (40 * i + x) = z := g3.1
    have b2 : R.1 163 (40 * j + x) = y := g4.1
    refine ok_eq ?_
    rw [El_R_isValueAhead, show ((i : Int)).toNat = i by omega, show ((j : Int)).toNat = j by omega, k1, k2, show (40 * (i : Int) + (x : Int)).toNat = 40 * i + x by omega, show (40 * (j : Int) + (x : Int)).toNat = 40 * j + x by omega, b1, b2, rlt]
    refine ok_ib (by omega) (ok_e (by omega) (ok_ib (by omega) (ok_e (by omega) (ok_nb (by omega) (ok_nb (by omega) (ok_ib (by omega) (ok_nb (by omega) (ok_nb (by omega) (ok_ib (by omega) ?_)))))))))
    by_cases c : z = y
    · rw [if_pos c]
      have ih := l_vah (e := e) (N := N) hi hj h1 h2 k1 k2 a b (x + 1) nf (by omega) (by omega) g3.2 g4.2 (by omega)
      rw [show ((x + 1 : Nat) : Int) = (x : Int) + 1 by omega] at ih
      exact ok_e (fun w => w c) (ok_nb (by omega) (ok_of ih ⟨rfl, rfl⟩))
    · rw [if_neg c]
      refine ok_t c (ok_e (by omega) (ok_t (by omega) ?_))
      by_cases d : z < y
      · exact ok_e (by omega) (ok_s ⟨by rw [decide_eq_true d]; rfl, rfl⟩)
      · exact ok_t (by omega) (ok_s ⟨by rw [decide_eq_false d]; rfl, rfl⟩)
theorem x_vah {e : w_E} {N i j : Nat} {R : w_S} {u v : Vl} (hN : 1000 ≤ N) (hi : i < 1800) (hj : j < 1800) (hu : Vs1 R i u) (hv : Vs1 R j v) (u40 : u.1.length ≤ 40) (v40 : v.1.length ≤ 40) : E_R_isValueAhead e N (i : Int) (j : Int) R = some (bi (vah u v), R) := by
  obtain ⟨u1, u2, u3⟩ := hu
  obtain ⟨v1, v2, v3⟩ := hv
  refine ok_eq ?_
  unfold E_R_isValueAhead vah
  rw [show ((i : Int)).toNat = i by omega, show ((j : Int)).toNat = j by omega, u3, v3]
  refine ok_ib (by omega) (ok_ib (by omega) ?_)
  by_cases c : u.2.1 = v.2.1
  · refine ok_t c (ok_of (l_vah (x := 0) hi hj u40 v40 u2 v2 u.1 v.1 N (by omega) (by omega) u1 v1 (by omega)) ⟨?_, rfl⟩)
    rw [decide_eq_false (show ¬ v.2.1 < u.2.1 by omega), decide_eq_true c, Bool.false_or, Bool.true_and]
  · refine ok_e c ?_
    rw [decide_eq_false c, Bool.false_and, Bool.or_false]
    by_cases d : v.2.1 < u.2.1
    · exact ok_e (by omega) (ok_s ⟨by rw [decide_eq_true d]; rfl, rfl⟩)
    · exact ok_t (by omega) (ok_s ⟨by rw [decide_eq_false d]; rfl, rfl⟩)
theorem l_svl {e : w_E} {N i j : Nat} (hi : i < 1800) (hj : j < 1800) (hij : i ≠ j) : ∀ (m x nf : Nat) (R : w_S), x + m = 40 → m < nf → Ok (El_R_swapValues e N nf 0 [(i : Int), (j : Int), (x : Int)] [] R) (fun _ R1 => frm [163] [] [] R R1 ∧ ∀ z, R1.1 163 z = if 40 * i + x ≤ z ∧ z < 40 * i + 40 then w_b (R.1 163 (z - 40 * i + 40 * j)) else if 40 * j + x ≤ z ∧ z < 40 * j + 40 then w_b (R.1 163 (z - 40 * j + 40 * i)) else R.1 163 z)
  | _, _, 0, _, _, h => by omega
  | 0, x, nf + 1, R, g1, g2 => by
    rw [El_R_swapValues]
    refine ok_t (by omega) (ok_s ⟨frm.refl _ _ _ _, fun z => ?_⟩)
    rw [if_neg (by omega), if_neg (by omega)]
  | m + 1, x, nf + 1, R, g1, g2 => by
    rw [El_R_swapValues, show (40 * (i : Int) + (x : Int)).toNat = 40 * i + x by omega, show (40 * (j : Int) + (x : Int)).toNat = 40 * j + x by omega]
    refine ok_e (by omega) (ok_nb (by omega) (ok_nb (by omega) (ok_ib (by omega) (ok_nb (by omega) (ok_nb (by omega) (ok_ib (by omega) (ok_nb (by omega) ?_)))))))
    generalize hR : w_put (w_put R 163 (40 * i + x) (w_b (R.1 163 (40 * j + x)))) 163 (40 * j + x) (w_b (R.1 163 (40 * i + x))) = R2
    have f2 : frm [163] [] [] R R2 := by
      rw [← hR]
      repeat (first | exact frm.refl _ _ _ _ | refine frm.put ?_ rfl | refine frm.puto ?_ rfl rfl)
    have a2 : ∀ z, R2.1 163 z = if z = 40 * j + x then w_b (R.1 163 (40 * i + x)) else if z = 40 * i + x then w_b (R.1 163 (40 * j + x)) else R.1 163 z := fun z => by
      rw [← hR]
      simp only [w_put_r, reduceIte, Nat.reduceEqDiff, pt_at]
    have ih := l_svl (e := e) (N := N) hi hj hij m (x + 1) nf R2 (by omega) (by omega)
    rw [show ((x + 1 : Nat) : Int) = (x : Int) + 1 by omega] at ih
    refine ih.mono ?_
    intro _ R1 ⟨q1, q2⟩
    refine ⟨f2.trans q1, fun z => ?_⟩
    rw [q2 z, a2 z, a2 (z - 40 * i + 40 * j), a2 (z - 40 * j + 40 * i)]
    by_cases c1 : 40 * i + x ≤ z ∧ z < 40 * i + 40
    · rw [if_pos c1]
      by_cases c2 : z = 40 * i + x
      · rw [if_neg (by omega), if_neg (by omega), if_neg (by omega), if_pos c2]
        rw [show z - 40 * i + 40 * j = 40 * j + x by omega]
      · rw [if_pos (by omega), if_neg (by omega), if_neg (by omega)]
    · rw [if_neg c1, if_neg (by omega)]
      by_cases c3 : 40 * j + x ≤ z ∧ z < 40 * j + 40
      · rw [if_pos c3]
        by_cases c2 : z = 40 * j + x
        · rw [if_neg (by omega), if_pos c2]
          rw [show z - 40 * j + 40 * i = 40 * i + x by omega]
        · rw [if_pos (by omega), if_neg (by omega), if_neg (by omega)]
      · rw [if_neg c3, if_neg (by omega), if_neg (by omega), if_neg (by omega)]
def Vsl (R : w_S) (n : Nat) (f : Nat → Vl) : Prop := ∀ k, k < n → Vs1 R k (f k) ∧ vrow (f k).1
theorem x_swv {e : w_E} {N i j n : Nat} {R : w_S} {f : Nat → Vl} (hN : 1000 ≤ N) (hn : n ≤ 1800) (hi : i < n) (hj : j < n) (hij : i ≠ j) (h : Vsl R n f) : Ok (E_R_swapValues e N (i : Int) (j : Int) R) (fun _ R1 => frm [163, 164, 165] [] [] R R1 ∧ Vsl R1 n (swp f i j)) := by
  unfold E_R_swapValues
  rw [show ((i : Int)).toNat = i by omega, show ((j : Int)).toNat = j by omega]
  generalize hR : w_put (w_put (w_put (w_put R 164 i (R.1 164 j)) 164 j (R.1 164 i)) 165 i (R.1 165 j)) 165 j (R.1 165 i) = R2
  have f2 : frm [163, 164, 165] [] [] R R2 := by
    rw [← hR]
    repeat (first | exact frm.refl _ _ _ _ | refine frm.put ?_ rfl | refine frm.puto ?_ rfl rfl)
  have a4 : ∀ z, R2.1 164 z = if z = j then R.1 164 i else if z = i then R.1 164 j else R.1 164 z := fun z => by
    rw [← hR]
    simp only [w_put_r, reduceIte, Nat.reduceEqDiff, pt_at]
  have a5 : ∀ z, R2.1 165 z = if z = j then R.1 165 i else if z = i then R.1 165 j else R.1 165 z := fun z => by
    rw [← hR]
    simp only [w_put_r, reduceIte, Nat.reduceEqDiff, pt_at]
  have a3 : R2.1 163 = R.1 163 := by
    rw [← hR]
    rfl
  refine ok_ib (by omega) (ok_ib (by omega) ((l_svl (x := 0) (by omega) (by omega) hij 40 N R2 (by omega) (by omega)).mono ?_))
  intro _ R1 ⟨q1, q2⟩
  refine ⟨f2.trans (q1.weak (by decide)), fun k hk => ?_⟩
  unfold Vs1
  rw [q1.2.1 164 rfl rfl, q1.2.1 165 rfl rfl, a4, a5]
  unfold swp
  by_cases c1 : k = i
  · rw [if_pos c1, if_neg (by omega), if_pos c1, if_neg (by omega), if_pos c1]
    obtain ⟨⟨u1, u2, u3⟩, u4⟩ := h j hj
    refine ⟨⟨?_, u2, u3⟩, u4⟩
    refine byt_of (fun z hz => ?_)
    have l40 := u4.2.1
    have rb := vrow_b u4 _ (memD (d := 0) hz)
    rw [q2, if_pos (by omega), a3, show 40 * k + z - 40 * i + 40 * j = 40 * j + z by omega, byt_at u1 z hz, w_b_id (by omega) (by omega)]
  · rw [if_neg c1, if_neg c1, if_neg c1]
    by_cases c2 : k = j
    · rw [if_pos c2, if_pos c2, if_pos c2]
      obtain ⟨⟨u1, u2, u3⟩, u4⟩ := h i hi
      refine ⟨⟨?_, u2, u3⟩, u4⟩
      refine byt_of (fun z hz => ?_)
      have l40 := u4.2.1
      have rb := vrow_b u4 _ (memD (d := 0) hz)
      rw [q2, if_neg (by omega), if_pos (by omega), a3, show 40 * k + z - 40 * j + 40 * i = 40 * i + z by omega, byt_at u1 z hz, w_b_id (by omega) (by omega)]
    · rw [if_neg c2, if_neg c2, if_neg c2]
      obtain ⟨⟨u1, u2, u3⟩, u4⟩ := h k hk
      refine ⟨⟨?_, u2, u3⟩, u4⟩
      refine byt_of (fun z hz => ?_)
      have l40 := u4.2.1
      rw [q2, if_neg (by omega), if_neg (by omega), a3]
      exact byt_at u1 z hz
end
section
-- fz
/-- first of all from a place on -/
def bstf (f : Nat → Vl) (x b y : Nat) : Prop := x ≤ b ∧ b < y ∧ ∀ k, x ≤ k → k < y → k ≠ b → vah (f b) (f k) = true
theorem l_srt3 {e : w_E} {N n x : Nat} {t : Int} {R : w_S} {f : Nat → Vl} (hN : 1000 ≤ N) (hn : n ≤ 1800) (h6 : R.1 129 60 = (n : Nat)) (h : Vsl R n f) (hd : ∀ i j, i < n → j < n → i ≠ j → (f i).1 ≠ (f j).1) : ∀ (m y b nf : Nat), y + m = n → m < nf → bstf f x b y → ∃ n' R' b', nf ≤ n' + m + 1 ∧ frm [163, 164, 165] [] [] R R' ∧ bstf f x b' n ∧ Vsl R' n (swp f x b') ∧ ∀ P, Ok (El_R_gatherValues e N n' 1 [t, ((x + 1 : Nat) : Int)] [] R') P → Ok (El_R_gatherValues e N nf 3 [t, (x : Int), (b : Int), (y : Int)] [] R) P
  | _, _, _, 0, _, h, _ => by omega
  | 0, y, b, nf + 1, g1, g2, g3 => by
    rw [show y = n by omega] at g3 ⊢
    have b1 := g3.1
    have b2 := g3.2.1
    by_cases c : b = x
    · refine ⟨nf, R, b, by omega, frm.refl _ _ _ _, g3, fun k hk => ?_, fun P hP => ?_⟩
      · have : swp f x b k = f k := by
          unfold swp
          rw [c]
          split
          next w => rw [w]
          next => rfl
        rw [this]
        exact h k hk
      · rw [El_R_gatherValues, h6]
        refine ok_t (by omega) (ok_t (by omega) (ok_nb (by omega) ?_))
        rw [show (x : Int) + 1 = ((x + 1 : Nat) : Int) by omega]
        exact hP
    · obtain ⟨v, R', hs, q1, q2⟩ := x_swv (e := e) (N := N) hN hn (show x < n by omega) b2 (fun z => c z.symm) h
      refine ⟨nf, R', b, by omega, q1, g3, q2, fun P hP => ?_⟩
      rw [El_R_gatherValues, h6]
      refine ok_t (by omega) (ok_e (by omega) (ok_b (ok_of hs (ok_nb (by omega) ?_))))
      rw [show (x : Int) + 1 = ((x + 1 : Nat) : Int) by omega]
      exact hP
  | m + 1, y, b, nf + 1, g1, g2, g3 => by
    obtain ⟨b1, b2, b3⟩ := g3
    have hy := h y (by omega)
    have hb := h b (by omega)
    have xa := x_vah (e := e) (N := N) hN (show y < 1800 by omega) (show b < 1800 by omega) hy.1 hb.1 hy.2.2.1 hb.2.2.1
    have ih := fun b' => l_srt3 (e := e) (t := t) (x := x) hN hn h6 h hd m (y + 1) b' nf (by omega) (by omega)
    rw [show ((y + 1 : Nat) : Int) = (y : Int) + 1 by omega] at ih
    cases c : vah (f y) (f b) with
    | false =>
      have ab := vah_tot (hd y b (by omega) (by omega) (by omega)) c
      obtain ⟨n', R', b', i1, i2, i3, i4, i5⟩ := ih b ⟨b1, by omega, fun k k1 k2 k3 => by
        by_cases ky : k = y
        · rw [ky]; exact ab
        · exact b3 k k1 (by omega) k3⟩
      refine ⟨n', R', b', by omega, i2, i3, i4, fun P hP => ?_⟩
      rw [El_R_gatherValues, h6]
      refine ok_e (by omega) (ok_b (ok_of xa ?_))
      rw [c]
      exact ok_t rfl (ok_nb (by omega) (i5 P hP))
    | true =>
      obtain ⟨n', R', b', i1, i2, i3, i4, i5⟩ := ih y ⟨by omega, by omega, fun k k1 k2 k3 => by
        by_cases kb : k = b
        · rw [kb]; exact c
        · exact vah_tr c (b3 k k1 (by omega) kb)⟩
      refine ⟨n', R', b', by omega, i2, i3, i4, fun P hP => ?_⟩
      rw [El_R_gatherValues, h6]
      refine ok_e (by omega) (ok_b (ok_of xa ?_))
      rw [c]
      exact ok_e (show ¬ (1 : Int) = 0 by decide) (ok_nb (by omega) (i5 P hP))
/-- in order up to a place -/
def vsrt (f : Nat → Vl) (x n : Nat) : Prop := ∀ i k, i < x → i < k → k < n → vah (f i) (f k) = true
theorem l_srt1 {e : w_E} {N n : Nat} {t : Int} {g : Nat → Vl} (hN : 1000 ≤ N) (hn : n ≤ 1800) : ∀ (m x nf : Nat) (R : w_S) (f : Nat → Vl), x + m = n → 2000 * m < nf → R.1 129 60 = (n : Nat) → Vsl R n f → (∀ i j, i < n → j < n → i ≠ j → (f i).1 ≠ (f j).1) → Pm f g n → vsrt f x n → Ok (El_R_gatherValues e N nf 1 [t, (x : Int)] [] R) (fun _ R1 => frm [163, 164, 165] [129] [(129, 58), (129, 59)] R R1 ∧ R1.1 129 58 = 1 ∧ R1.1 129 59 = t ∧ ∃ f', Vsl R1 n f' ∧ Pm f' g n ∧ vsrt f' n n)
  | _, _, 0, _, _, _, h, _, _, _, _, _ => by omega
  | 0, x, nf + 1, R, f, g1, g2, g3, g4, g5, g6, g7 => by
    rw [El_R_gatherValues, g3]
    rw [show x = n by omega] at g7
    refine ok_t (by omega) (ok_s ⟨by repeat (first | exact frm.refl _ _ _ _ | refine frm.put ?_ rfl | refine frm.puto ?_ rfl rfl), by simp only [w_put_r, reduceIte, Nat.reduceEqDiff, pt_at], by simp only [w_put_r, reduceIte, Nat.reduceEqDiff, pt_at], f, fun k hk => ?_, g6, g7⟩)
    obtain ⟨⟨u1, u2, u3⟩, u4⟩ := g4 k hk
    exact ⟨⟨u1, u2, u3⟩, u4⟩
  | m + 1, x, nf + 1, R, f, g1, g2, g3, g4, g5, g6, g7 => by
    rw [El_R_gatherValues, g3]
    refine ok_e (by omega) (ok_nb (by omega) ?_)
    rw [show (x : Int) + 1 = ((x + 1 : Nat) : Int) by omega]
    obtain ⟨n', R', b', i1, i2, i3, i4, i5⟩ := l_srt3 (e := e) (t := t) (x := x) hN hn g3 g4 g5 m (x + 1) x nf (by omega) (by omega) ⟨Nat.le_refl _, by omega, fun k k1 k2 k3 => by omega⟩
    obtain ⟨b1, b2, b3⟩ := i3
    refine i5 _ ?_
    refine (l_srt1 hN hn m (x + 1) n' R' (swp f x b') (by omega) (by omega) (by rw [i2.2.1 129 rfl rfl]; exact g3) i4 (fun i j hi hj hij => ?_) (pm_swp g6 (by omega) b2) (fun i k h1 h2 h3 => ?_)).mono ?_
    · rw [swp_trp, swp_trp]
      refine g5 _ _ (trp_lt (by omega) b2 hi) (trp_lt (by omega) b2 hj) (fun z => hij ?_)
      rw [← trp_trp x b' i, z, trp_trp]
    · rw [swp_trp, swp_trp]
      by_cases c : i = x
      · have e1 : trp x b' i = b' := by
          unfold trp
          rw [if_pos c]
        rw [e1]
        have tl := trp_lt (i := x) (j := b') (by omega) b2 h3
        refine b3 _ ?_ tl (fun z => ?_)
        · unfold trp
          split
          · omega
          · split <;> omega
        · have : trp x b' k = trp x b' i := by rw [z, e1]
          have h9 := trp_trp x b' k
          rw [this, trp_trp] at h9
          omega
      · have e1 : trp x b' i = i := by
          unfold trp
          rw [if_neg c, if_neg (by omega)]
        rw [e1]
        refine g7 i _ (by omega) ?_ (trp_lt (by omega) b2 h3)
        unfold trp
        split
        · omega
        · split <;> omega
    · intro _ R1 ⟨q1, q2, q3, q4⟩
      exact ⟨(i2.weak (by decide)).trans q1, q2, q3, q4⟩
theorem cmr_rlt {g h : Nat → Int} {m n : Nat} : ∀ (k i : Nat) (a b : List Int), i + a.length = m → i + b.length = n → a.length ≤ k → (∀ z, z < a.length → g (i + z) = a.getD z 0) → (∀ z, z < b.length → h (i + z) = b.getD z 0) → (cmr g h m n k i < 0 ↔ rlt a b = true)
  | 0, i, [], [], h1, h2, _, _, _ => by
    rw [List.length_nil] at h1 h2
    rw [cmr, rlt]
    constructor
    · intro z; omega
    · intro z; cases z
  | 0, i, [], y :: b, h1, h2, _, _, _ => by
    rw [List.length_nil] at h1
    rw [List.length_cons] at h2
    rw [cmr, rlt]
    constructor
    · intro z; rfl
    · intro z; omega
  | 0, i, x :: a, _, _, _, h, _, _ => by
    rw [List.length_cons] at h
    omega
  | k + 1, i, [], [], h1, h2, _, _, _ => by
    rw [List.length_nil] at h1 h2
    rw [cmr, rlt, if_pos (by omega)]
    constructor
    · intro z; omega
    · intro z; cases z
  | k + 1, i, [], y :: b, h1, h2, _, _, _ => by
    rw [List.length_nil] at h1
    rw [List.length_cons] at h2
    rw [cmr, rlt, if_pos (by omega)]
    constructor
    · intro z; rfl
    · intro z; omega
  | k + 1, i, x :: a, [], h1, h2, _, _, _ => by
    rw [List.length_nil] at h2
    rw [List.length_cons] at h1
    rw [cmr, rlt, if_pos (by omega)]
    constructor
    · intro z; omega
    · intro z; cases z
  | k + 1, i, x :: a, y :: b, h1, h2, h3, h4, h5 => by
    rw [List.length_cons] at h1 h2 h3
    have e1 : g i = x := h4 0 (by rw [List.length_cons]; omega)
    have e2 : h i = y := h5 0 (by rw [List.length_cons]; omega)
    rw [cmr, rlt, if_neg (by omega), e1, e2]
    by_cases c : x = y
    · rw [if_pos c, if_pos c]
      refine cmr_rlt k (i + 1) a b (by omega) (by omega) (by omega) (fun z hz => ?_) (fun z hz => ?_)
      · have := h4 (z + 1) (by rw [List.length_cons]; omega)
        rw [show i + 1 + z = i + (z + 1) by omega]
        exact this
      · have := h5 (z + 1) (by rw [List.length_cons]; omega)
        rw [show i + 1 + z = i + (z + 1) by omega]
        exact this
    · rw [if_neg c, if_neg c, decide_eq_true_eq]
      constructor <;> intro z <;> omega
def Vcl (S : w_S) (top : Int) (n : Nat) (g : Nat → Vl) : Prop := ∀ k, k < n → Vc1 S top k (g k) ∧ vok 1800 (g k)
theorem l_vr1 {e : w_E} {N n x : Nat} {S : w_S} {top x1 : Int} {g : Nat → Vl} (hN : 1000 ≤ N) (htop : top ≤ 10240) (hs : ∀ j, -128 ≤ S.1 2 j ∧ S.1 2 j ≤ 127) (hn : n ≤ 1800) (hx : x < n) (h9 : S.1 106 9 = (n : Nat)) (h : Vcl S top n g) : ∀ (m y nf : Nat) (c : Int), y + m = n → m < nf → 0 ≤ c → c ≤ (y : Int) → ∃ n', nf = n' + m + 1 ∧ ∀ P, Ok (if c + cnt (fun k => vah (g k) (g x)) y m ≠ x1 then El_Desk_valueOfRank e N n' 0 [x1, ((x + 1 : Nat) : Int)] [] S else some ((x : Int), S)) P → Ok (El_Desk_valueOfRank e N nf 1 [x1, (x : Int), c, (y : Int)] [] S) P
  | _, _, 0, _, _, h, _, _ => by omega
  | 0, y, nf + 1, c, g1, g2, g3, g4 => by
    refine ⟨nf, rfl, fun P hP => ?_⟩
    rw [cnt, Int.add_zero] at hP
    rw [El_Desk_valueOfRank, h9]
    refine ok_t (by omega) ?_
    by_cases d : c = x1
    · rw [if_neg (fun z => z d)] at hP
      exact ok_e (fun z => z d) hP
    · rw [if_pos d] at hP
      refine ok_t d (ok_nb (by omega) ?_)
      rw [show (x : Int) + 1 = ((x + 1 : Nat) : Int) by omega]
      exact hP
  | m + 1, y, nf + 1, c, g1, g2, g3, g4 => by
    have ih := fun c' => l_vr1 (e := e) (x1 := x1) hN htop hs hn hx h9 h m (y + 1) nf c' (by omega) (by omega)
    rw [show ((y + 1 : Nat) : Int) = (y : Int) + 1 by omega] at ih
    obtain ⟨⟨⟨a, a1, a2, a3⟩, u2, u3⟩, u4, u5, u6⟩ := h y (by omega)
    obtain ⟨⟨⟨b, b1, b2, b3⟩, v2, v3⟩, v4, v5, v6⟩ := h x hx
    have la := u4.2.1
    have lb := v4.2.1
    have key : ∀ bb : Bool, vah (g y) (g x) = bb → ∃ n', nf = n' + m + 1 ∧ ∀ P, Ok (if c + cnt (fun k => vah (g k) (g x)) y (m + 1) ≠ x1 then El_Desk_valueOfRank e N n' 0 [x1, ((x + 1 : Nat) : Int)] [] S else some ((x : Int), S)) P → Ok (El_Desk_valueOfRank e N nf 1 [x1, (x : Int), c + bi bb, (y : Int) + 1] [] S) P := fun bb hb => by
      obtain ⟨n', i1, i2⟩ := ih (c + bi bb) (by cases bb <;> unfold bi <;> simp only [reduceIte, Bool.false_eq_true] <;> omega) (by cases bb <;> unfold bi <;> simp only [reduceIte, Bool.false_eq_true] <;> omega)
      refine ⟨n', i1, fun P hP => i2 P ?_⟩
      rw [cnt, hb, ← Int.add_assoc] at hP
      exact hP
    rw [El_Desk_valueOfRank, h9, show ((x : Int)).toNat = x by omega, show ((y : Int)).toNat = y by omega, u2, v2, a1, b1]
    have cm := x_cmp (e := e) (N := N) (S := S) (a := a) (b := b) (m := (g y).1.length) (n := (g x).1.length) hN (by omega) (by omega) (by omega) (by omega) hs
    have cr := cmr_rlt (g := fun j => S.1 2 (a + j)) (h := fun j => S.1 2 (b + j)) (m := (g y).1.length) (n := (g x).1.length) 64 0 (g y).1 (g x).1 (by omega) (by omega) (by omega) (fun z hz => by rw [Nat.zero_add]; exact a3 z hz) (fun z hz => by rw [Nat.zero_add]; exact b3 z hz)
    by_cases c1 : (g x).2.1 < (g y).2.1
    · obtain ⟨n', i1, i2⟩ := key true (by unfold vah; rw [decide_eq_true c1, Bool.true_or])
      refine ⟨n', by omega, fun P hP => ?_⟩
      exact ok_e (by omega) (ok_ib (by omega) (ok_ib (by omega) (ok_nb (by omega) (ok_t (by omega) (ok_nb (by omega) (ok_nb (by omega) (i2 P hP)))))))
    by_cases c2 : (g y).2.1 = (g x).2.1
    rotate_left
    · obtain ⟨n', i1, i2⟩ := key false (by unfold vah; rw [decide_eq_false c1, decide_eq_false c2]; rfl)
      refine ⟨n', by omega, fun P hP => ?_⟩
      have := i2 P hP
      rw [show c + bi false = c from Int.add_zero c] at this
      exact ok_e (by omega) (ok_ib (by omega) (ok_ib (by omega) (ok_nb (by omega) (ok_e (by omega) (ok_t (by omega) (ok_nb (by omega) this))))))
    · have e1 : vah (g y) (g x) = rlt (g y).1 (g x).1 := by
        unfold vah
        rw [decide_eq_false c1, decide_eq_true c2, Bool.false_or, Bool.true_and]
      cases d : rlt (g y).1 (g x).1 with
      | true =>
        obtain ⟨n', i1, i2⟩ := key true (by rw [e1, d])
        have cz := cr.2 d
        refine ⟨n', by omega, fun P hP => ?_⟩
        refine ok_e (by omega) (ok_ib (by omega) (ok_ib (by omega) (ok_nb (by omega) (ok_e (by omega) (ok_e (by omega) (ok_b (ok_of cm ?_)))))))
        exact ok_e (by omega) (ok_nb (by omega) (ok_nb (by omega) (i2 P hP)))
      | false =>
        obtain ⟨n', i1, i2⟩ := key false (by rw [e1, d])
        have cz : ¬ cmr (fun j => S.1 2 (a + j)) (fun j => S.1 2 (b + j)) (g y).1.length (g x).1.length 64 0 < 0 := fun z => by
          have := cr.1 z
          rw [d] at this
          cases this
        refine ⟨n', by omega, fun P hP => ?_⟩
        have := i2 P hP
        rw [show c + bi false = c from Int.add_zero c] at this
        refine ok_e (by omega) (ok_ib (by omega) (ok_ib (by omega) (ok_nb (by omega) (ok_e (by omega) (ok_e (by omega) (ok_b (ok_of cm ?_)))))))
        exact ok_t (by omega) (ok_nb (by omega) this)
theorem l_vr0 {e : w_E} {N n : Nat} {S : w_S} {top x1 : Int} {g : Nat → Vl} (hN : 1000 ≤ N) (htop : top ≤ 10240) (hs : ∀ j, -128 ≤ S.1 2 j ∧ S.1 2 j ≤ 127) (hn : n ≤ 1800) (h9 : S.1 106 9 = (n : Nat)) (h : Vcl S top n g) : ∀ (m x nf : Nat), x + m = n → 2000 * m < nf → Ok (El_Desk_valueOfRank e N nf 0 [x1, (x : Int)] [] S) (fun y S1 => S1 = S ∧ ((y = -1 ∧ ∀ k, x ≤ k → k < n → cnt (fun j => vah (g j) (g k)) 0 n ≠ x1) ∨ ∃ k, k < n ∧ y = (k : Int) ∧ cnt (fun j => vah (g j) (g k)) 0 n = x1))
  | _, _, 0, _, h => by omega
  | 0, x, nf + 1, g1, g2 => by
    rw [El_Desk_valueOfRank, h9]
    exact ok_t (by omega) (ok_s ⟨rfl, Or.inl ⟨rfl, fun k k1 k2 => by omega⟩⟩)
  | m + 1, x, nf + 1, g1, g2 => by
    rw [El_Desk_valueOfRank, h9]
    refine ok_e (by omega) ?_
    obtain ⟨n', i1, i2⟩ := l_vr1 (e := e) (x1 := x1) hN htop hs hn (show x < n by omega) h9 h n 0 nf 0 (by omega) (by omega) (by omega) (by omega)
    refine i2 _ ?_
    rw [Int.zero_add]
    by_cases c : cnt (fun k => vah (g k) (g x)) 0 n = x1
    · rw [if_neg (fun z => z c)]
      exact ok_s ⟨rfl, Or.inr ⟨x, by omega, rfl, c⟩⟩
    · rw [if_pos c]
      refine (l_vr0 hN htop hs hn h9 h m (x + 1) n' (by omega) (by omega)).mono ?_
      intro y S1 ⟨q1, q2⟩
      refine ⟨q1, ?_⟩
      rcases q2 with ⟨q3, q4⟩ | q3
      · refine Or.inl ⟨q3, fun k k1 k2 => ?_⟩
        by_cases ck : k = x
        · rw [ck]; exact c
        · exact q4 k (by omega) k2
      · exact Or.inr q3
end
