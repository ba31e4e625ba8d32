section
-- f9
theorem x_stands {e : w_E} {N t p : Nat} {R : w_S} {pre : Bool} {l : List (List Int)} {r : List Int} (hN : 40000 ≤ N) (ht : t < 20) (hW : RW R t pre l) (h1 : byt (R.1 150) p r) (h2 : p + r.length ≤ 4000) (h3 : ∀ b, b ∈ r → 0 ≤ b ∧ b ≤ 127) : E_R_stands e N (t : Int) (p : Int) ((p + r.length : Nat) : Int) R = some (bi (mt pre l (wds r)), R) := by
  have w3 := hW.2.2.1
  have h := l_st0 (e := e) (N := N) ht hW l.length 0 N r p (by omega) h1 h2 h3 (by omega)
  rw [List.drop_zero, Nat.add_zero] at h
  unfold E_R_stands
  refine ok_eq (ok_nb (by omega) ?_)
  rw [show (4 * (t : Int)) = ((4 * t : Nat) : Int) by omega]
  exact ok_of h ⟨rfl, rfl⟩
theorem l_rm {e : w_E} {N t x2 : Nat} {R : w_S} {pre : Bool} {l : List (List Int)} (hN : 40000 ≤ N) (ht : t < 20) (hW : RW R t pre l) : ∀ (r : List Int) (p nf : Nat) (pv : Bool), byt (R.1 150) p r → p + r.length ≤ 4000 → (∀ b, b ∈ r → 0 ≤ b ∧ b ≤ 127) → x2 ≤ p → (p = x2 → pv = false) → (p ≠ x2 → pv = wby (R.1 150 (p - 1)) ∧ 0 ≤ R.1 150 (p - 1) ∧ R.1 150 (p - 1) ≤ 127) → r.length < nf → El_R_rowMeets e N nf 0 [(t : Int), (x2 : Int), ((p + r.length : Nat) : Int), (p : Int)] [] R = some (bi (rmm pre l pv r), R)
  | _, _, 0, _, _, _, _, _, _, _, h => by omega
  | [], p, nf + 1, pv, g1, g2, g3, g4, g5, g6, g7 => by
    refine ok_eq ?_
    rw [El_R_rowMeets, rmm]
    exact ok_t (by rw [List.length_nil]; omega) (ok_s ⟨rfl, rfl⟩)
  | b :: r, p, nf + 1, pv, g1, g2, g3, g4, g5, g6, g7 => by
    have hb := g3 b List.mem_cons_self
    have gb : R.1 150 p = b := g1.1
    have st := x_stands (e := e) (p := p) hN ht hW g1 g2 g3
    rw [List.length_cons] at g2 g7 st ⊢
    have ih := l_rm (e := e) (x2 := x2) hN ht hW r (p + 1) nf (wby b) g1.2 (by omega) (fun x hx => g3 x (List.mem_cons_of_mem _ hx)) (by omega) (fun z => by omega) (fun _ => by rw [Nat.add_sub_cancel, gb]; exact ⟨rfl, hb⟩) (by omega)
    rw [show ((p + 1 + r.length : Nat) : Int) = ((p + (r.length + 1) : Nat) : Int) by omega, show ((p + 1 : Nat) : Int) = (p : Int) + 1 by omega] at ih
    refine ok_eq ?_
    rw [El_R_rowMeets, show ((p : Int)).toNat = p by omega, gb, rmm]
    refine ok_e (by omega) (ok_ib (by omega) (ok_b (ok_of (x_isLet hb) ?_)))
    dsimp only
    have wl := wby_ltr b
    generalize rmm pre l (wby b) r = y0 at ih ⊢
    have nx : ∀ b0 : Bool, b0 = y0 → Ok (if w_nb ((p : Int) + 1) = true then El_R_rowMeets e N nf 0 [(t : Int), (x2 : Int), ((p + (r.length + 1) : Nat) : Int), (p : Int) + 1] [] R else none) (fun y S1 => y = bi b0 ∧ S1 = R) := fun b0 h0 => by
      rw [h0]
      exact ok_nb (by omega) (ok_of ih ⟨rfl, rfl⟩)
    have sd : Ok ((E_R_stands e N (t : Int) (p : Int) ((p + (r.length + 1) : Nat) : Int) R).bind (fun q1093 => (if q1093.1 = 0 then (if w_nb ((p : Int) + 1) = true then El_R_rowMeets e N nf 0 [(t : Int), (x2 : Int), ((p + (r.length + 1) : Nat) : Int), (p : Int) + 1] [] q1093.2 else none) else some (1, q1093.2)))) (fun y S1 => y = bi (mt pre l (wds (b :: r)) || y0) ∧ S1 = R) := by
      refine ok_b (ok_of st ?_)
      dsimp only
      cases mt pre l (wds (b :: r)) with
      | false => exact ok_t rfl (nx _ (Bool.false_or y0))
      | true => exact ok_e (by decide) (ok_s ⟨by rw [Bool.true_or]; rfl, rfl⟩)
    have body : wby b = true → Ok (if (p : Int) = (x2 : Int) then ((E_R_stands e N (t : Int) (p : Int) ((p + (r.length + 1) : Nat) : Int) R).bind (fun q1093 => (if q1093.1 = 0 then (if w_nb ((p : Int) + 1) = true then El_R_rowMeets e N nf 0 [(t : Int), (x2 : Int), ((p + (r.length + 1) : Nat) : Int), (p : Int) + 1] [] q1093.2 else none) else some (1, q1093.2)))) else (if w_nb ((p : Int) - 1) = true then (if w_ib ((p : Int) - 1) 4000 = true then ((E_R_isLetter e N (R.1 150 (((p : Int) - 1).toNat)) R).bind (fun q1096 => (if q1096.1 ≠ 0 then (if w_nb ((p : Int) + 1) = true then El_R_rowMeets e N nf 0 [(t : Int), (x2 : Int), ((p + (r.length + 1) : Nat) : Int), (p : Int) + 1] [] q1096.2 else none) else (if (R.1 150 (((p : Int) - 1).toNat)) < 48 then ((E_R_stands e N (t : Int) (p : Int) ((p + (r.length + 1) : Nat) : Int) q1096.2).bind (fun q1097 => (if q1097.1 = 0 then (if w_nb ((p : Int) + 1) = true then El_R_rowMeets e N nf 0 [(t : Int), (x2 : Int), ((p + (r.length + 1) : Nat) : Int), (p : Int) + 1] [] q1097.2 else none) else some (1, q1097.2)))) else (if 57 < (R.1 150 (((p : Int) - 1).toNat)) then ((E_R_stands e N (t : Int) (p : Int) ((p + (r.length + 1) : Nat) : Int) q1096.2).bind (fun q1098 => (if q1098.1 = 0 then (if w_nb ((p : Int) + 1) = true then El_R_rowMeets e N nf 0 [(t : Int), (x2 : Int), ((p + (r.length + 1) : Nat) : Int), (p : Int) + 1] [] q1098.2 else none) else some (1, q1098.2)))) else (if w_nb ((p : Int) + 1) = true then El_R_rowMeets e N nf 0 [(t : Int), (x2 : Int), ((p + (r.length + 1) : Nat) : Int), (p : Int) + 1] [] q1096.2 else none)))))) else none) else none)) (fun y S1 => y = bi ((wby b && (!pv && mt pre l (wds (b :: r)))) || y0) ∧ S1 = R) := by
      intro z
      rw [z, Bool.true_and]
      by_cases c : p = x2
      · rw [g5 c, Bool.not_false, Bool.true_and]
        exact ok_t (by omega) sd
      · obtain ⟨h1, h2⟩ := g6 c
        refine ok_e (by omega) (ok_nb (by omega) (ok_ib (by omega) ?_))
        rw [show ((p : Int) - 1).toNat = p - 1 by omega, h1]
        generalize R.1 150 (p - 1) = c0 at h2 ⊢
        refine ok_b (ok_of (x_isLet h2) ?_)
        dsimp only
        have wl0 := wby_ltr c0
        have yes : wby c0 = true → (!wby c0 && mt pre l (wds (b :: r)) || y0) = y0 := fun z => by
          rw [z, Bool.not_true, Bool.false_and, Bool.false_or]
        have no : wby c0 = false → (!wby c0 && mt pre l (wds (b :: r)) || y0) = (mt pre l (wds (b :: r)) || y0) := fun z => by
          rw [z, Bool.not_false, Bool.true_and]
        cases hl : ltr c0 with
        | true =>
          rw [hl, Bool.true_or] at wl0
          exact ok_t (by decide) (nx _ (yes wl0))
        | false =>
          rw [hl, Bool.false_or] at wl0
          refine ok_e (by decide) ?_
          by_cases c1 : c0 < 48
          · rw [no (by rw [wl0, decide_eq_false (by omega), Bool.false_and])]
            exact ok_t c1 sd
          refine ok_e c1 ?_
          by_cases c2 : 57 < c0
          · rw [no (by rw [wl0, decide_eq_false (show ¬ c0 ≤ 57 by omega), Bool.and_false])]
            exact ok_t c2 sd
          · exact ok_e c2 (nx _ (yes (by rw [wl0, decide_eq_true (by omega), decide_eq_true (by omega), Bool.true_and])))
    have skip : wby b = false → Ok (if w_nb ((p : Int) + 1) = true then El_R_rowMeets e N nf 0 [(t : Int), (x2 : Int), ((p + (r.length + 1) : Nat) : Int), (p : Int) + 1] [] R else none) (fun y S1 => y = bi ((wby b && (!pv && mt pre l (wds (b :: r)))) || y0) ∧ S1 = R) := fun z => by
      refine nx _ ?_
      rw [z, Bool.false_and, Bool.false_or]
    cases hl : ltr b with
    | true =>
      rw [hl, Bool.true_or] at wl
      exact ok_t (by decide) (body wl)
    | false =>
      rw [hl, Bool.false_or] at wl
      refine ok_e (by decide) ?_
      by_cases c1 : b < 48
      · exact ok_t c1 (skip (by rw [wl, decide_eq_false (by omega), Bool.false_and]))
      refine ok_e c1 ?_
      by_cases c2 : 57 < b
      · exact ok_t c2 (skip (by rw [wl, decide_eq_false (show ¬ b ≤ 57 by omega), Bool.and_false]))
      · exact ok_e c2 (body (by rw [wl, decide_eq_true (by omega), decide_eq_true (by omega), Bool.true_and]))
/-- the reference: a row meets a term where the words stand among its own -/
theorem x_rm {e : w_E} {N t p : Nat} {R : w_S} {pre : Bool} {l : List (List Int)} {r : List Int} (hN : 40000 ≤ N) (ht : t < 20) (hW : RW R t pre l) (h1 : byt (R.1 150) p r) (h2 : p + r.length ≤ 4000) (h3 : ∀ b, b ∈ r → 0 ≤ b ∧ b ≤ 127) : E_R_rowMeets e N (t : Int) (p : Int) ((p + r.length : Nat) : Int) R = some (bi (sfx pre l (wds r)), R) := by
  rw [← (rmm_eq pre l r).1]
  exact l_rm (e := e) hN ht hW r p N false h1 h2 h3 (Nat.le_refl _) (fun _ => rfl) (fun z => absurd rfl z) (by omega)
end
section
-- fa
theorem vrow_b {r : List Int} (h : vrow r) : ∀ b, b ∈ r → 0 ≤ b ∧ b ≤ 127 := fun b hb => rwb_b (h.2.2 b hb)
theorem l_fm {e : w_E} {N t q : Nat} {R : w_S} {pre : Bool} {lw : List (List Int)} (hN : 40000 ≤ N) (ht : t < 20) (hW : RW R t pre lw) (hq : q ≤ 4000) : ∀ (ss : List Sfl) (p nf : Nat), (∀ s, s ∈ ss → vrow s.2) → byt (R.1 150) p (ss.flatMap sb) → p + (ss.flatMap sb).length = q → ss.length < nf → El_R_fieldMeets e N nf 0 [(t : Int), (q : Int), (p : Int)] [] R = some (bi (anyR pre lw ss), R)
  | _, _, 0, _, _, _, h => by omega
  | [], p, nf + 1, h1, h2, h3, h4 => by
    rw [List.flatMap_nil, List.length_nil] at h3
    refine ok_eq ?_
    rw [El_R_fieldMeets, anyR]
    exact ok_t (by omega) (ok_s ⟨rfl, rfl⟩)
  | s :: ss, p, nf + 1, h1, h2, h3, h4 => by
    rw [List.flatMap_cons] at h2 h3
    rw [List.length_append] at h3
    rw [byt_app] at h2
    obtain ⟨h5, h6⟩ := h2
    have vr := h1 s (List.mem_cons_self ..)
    have l1 : (sb s).length = s.2.length + 2 := by
      unfold sb
      rw [List.length_cons, List.length_cons]
    unfold sb at h5
    rw [byt, byt] at h5
    obtain ⟨b1, b2, b3⟩ := h5
    rw [List.length_cons] at h4
    have re := l_rowEnd (e := e) (N := N) (q := (q : Int)) (S := R) (a0 := 150) (n := 4000) rfl (by decide) s.2 (p + 2) N (fun b hb => rw36 (vr.2.2 b hb)) b3 (by omega) (by omega) (by
      cases ss with
      | nil =>
        rw [List.flatMap_nil, List.length_nil] at h3
        left
        omega
      | cons s2 ss2 =>
        right
        rw [List.flatMap_cons, byt_app] at h6
        have h7 := h6.1
        unfold sb at h7
        rw [byt] at h7
        have := h7.1
        rw [List.length_cons, List.length_cons, show p + (s.2.length + 1 + 1) = p + 2 + s.2.length by omega] at this
        exact this) (by have := vr.2.1; omega)
    have re' : E_R_rowEnd e N ((p : Int) + 2) (q : Int) 150 R = some (((p + 2 + s.2.length : Nat) : Int), R) := by
      unfold E_R_rowEnd
      rw [show (p : Int) + 2 = ((p + 2 : Nat) : Int) by omega]
      exact re
    have rm := x_rm (e := e) (p := p + 2) hN ht hW b3 (by omega) (vrow_b vr)
    rw [show ((p + 2 : Nat) : Int) = (p : Int) + 2 by omega] at rm
    have ih := l_fm (e := e) hN ht hW hq ss (p + (sb s).length) nf (fun x hx => h1 x (List.mem_cons_of_mem _ hx)) h6 (by omega) (by omega)
    rw [show p + (sb s).length = p + 2 + s.2.length by omega] at ih
    refine ok_eq ?_
    rw [El_R_fieldMeets, anyR]
    refine ok_e (by omega) (ok_nb (by omega) (ok_b (ok_of re' ?_)))
    dsimp only
    refine ok_b (ok_of rm ?_)
    dsimp only
    cases sfx pre lw (wds s.2) with
    | true => exact ok_e (by decide) (ok_s ⟨by rw [Bool.true_or]; rfl, rfl⟩)
    | false =>
      rw [Bool.false_or]
      refine ok_t rfl (ok_b (ok_of re' ?_))
      exact ok_of ih ⟨rfl, rfl⟩
theorem x_fm {e : w_E} {N t p : Nat} {R : w_S} {pre : Bool} {lw : List (List Int)} {f : Fdl} (hN : 40000 ≤ N) (ht : t < 20) (hW : RW R t pre lw) (h : Fat R 150 4000 p f) : E_R_fieldMeets e N (t : Int) (p : Int) ((p + (fbd f).length + 4 : Nat) : Int) R = some (bi (anyR pre lw f.2.2.2), R) := by
  obtain ⟨b0, b1, b2, b3⟩ := h.tag
  obtain ⟨tgl, h2, h3, h4, h5⟩ := h
  have sl := ser_len f
  have t1 := h5.1
  have t2 := h5.2.1
  refine ok_eq ?_
  unfold E_R_fieldMeets
  rw [show ((p : Int)).toNat = p by omega, show ((p : Int) + 1).toNat = p + 1 by omega, show ((p : Int) + 2).toNat = p + 2 by omega, b0, b1, b2]
  (refine ok_len tgl ?_); (with_reducible refine ok_t (by omega) ?_); (with_reducible refine ok_t (by omega) (ok_nb (by omega) (ok_nb (by omega) (ok_nb (by omega) ?_)))); (refine ok_len tgl ?_); (with_reducible refine ok_t (by omega) ?_); (with_reducible refine ok_t (by omega) (ok_nb (by omega) (ok_nb (by omega) (ok_nb (by omega) (ok_nb (by omega) ?_))))); (refine ok_len tgl ?_); (with_reducible refine ok_t (by omega) ?_); (with_reducible refine ok_t (by omega) (ok_nb (by omega) (ok_nb (by omega) ?_)))
  rw [show 100 * (48 + f.1 / 100 - 48) + 10 * (48 + f.1 / 10 % 10 - 48) + (48 + f.1 % 10) - 48 = f.1 by omega]
  by_cases c : f.1 < 10
  · obtain ⟨r, hr⟩ := (h5.2.2.2.1 c).2.2
    have fb : fbd f = r := by
      unfold fbd
      rw [if_pos c, hr]
      show r ++ [] = r
      rw [List.append_nil]
    have vr : vrow r := h5.2.2.1 (0, r) (by rw [hr]; exact List.mem_cons_self)
    have rm := x_rm (e := e) (p := p + 4) (r := r) hN ht hW (by rw [← fb]; exact ((byt_app (fbd f) [10] (p + 4)).1 b3).1) (by rw [← fb]; omega) (vrow_b vr)
    rw [show p + 4 + r.length = p + (fbd f).length + 4 by rw [fb]; omega, show ((p + 4 : Nat) : Int) = (p : Int) + 4 by omega] at rm
    refine ok_e (by omega) (ok_nb (by omega) (ok_b (ok_of rm ?_)))
    dsimp only
    rw [hr, anyR, anyR, Bool.or_false]
    exact ok_t (by cases sfx pre lw (wds r) <;> decide) (ok_s ⟨rfl, rfl⟩)
  · have fb : fbd f = f.2.1 :: f.2.2.1 :: f.2.2.2.flatMap sb := by
      unfold fbd
      rw [if_neg c]
    have b4 : byt (R.1 150) (p + 6) (f.2.2.2.flatMap sb) := by
      have := ((byt_app (fbd f) [10] (p + 4)).1 b3).1
      rw [fb, byt, byt] at this
      exact this.2.2
    have lf : (fbd f).length = (f.2.2.2.flatMap sb).length + 2 := by
      rw [fb, List.length_cons, List.length_cons]
    have nsub : f.2.2.2.length ≤ (f.2.2.2.flatMap sb).length := by
      generalize f.2.2.2 = ss
      induction ss with
      | nil => exact Nat.le_refl _
      | cons s ss ih =>
        rw [List.flatMap_cons, List.length_append, List.length_cons]
        have : 1 ≤ (sb s).length := by
          unfold sb
          rw [List.length_cons]
          omega
        omega
    have key := l_fm (e := e) (q := p + (fbd f).length + 4) hN ht hW (by omega) f.2.2.2 (p + 6) N h5.2.2.1 b4 (by omega) (by omega)
    rw [show ((p + 6 : Nat) : Int) = (p : Int) + 6 by omega] at key
    exact ok_t (by omega) (ok_nb (by omega) (ok_of key ⟨rfl, rfl⟩))
/-- the reference: does a record on the page meet a term with words? -/
theorem l_mtw {e : w_E} {N t : Nat} {R : w_S} {pre : Bool} {lw : List (List Int)} {k v : Int} {ps : Int} (hN : 40000 ≤ N) (ht : t < 20) (hW : RW R t pre lw) (h152 : R.1 152 t = tcd k) (hk : 0 ≤ k ∧ k ≤ 3) (hp : R.1 129 37 = ps) (hps : ps ≤ 4000) : ∀ (D : List Fdl) (p i nf : Nat), (∀ f, f ∈ D → vfd f) → byt (R.1 150) p (doc D) → ((p + (doc D).length : Nat) : Int) = ps → i + D.length ≤ 1000 → D.length < nf → El_R_meets e N nf 0 [(t : Int), v, (i : Int), (p : Int)] [] R = some (bi (dcm k pre lw D), R)
  | _, _, _, 0, _, _, _, _, h => by omega
  | [], p, i, nf + 1, g1, g2, g3, g4, g5 => by
    rw [doc, List.flatMap_nil, List.length_nil] at g3
    refine ok_eq ?_
    rw [El_R_meets, hp, dcm]
    exact ok_t (by omega) (ok_s ⟨rfl, rfl⟩)
  | f :: D, p, i, nf + 1, g1, g2, g3, g4, g5 => by
    rw [List.length_cons] at g4 g5
    have fv := g1 f List.mem_cons_self
    have sl := ser_len f
    have t1 := fv.1
    have t2 := fv.2.1
    rw [doc, List.flatMap_cons] at g2 g3
    rw [byt_app] at g2
    rw [List.length_append] at g3
    have fa : Fat R 150 4000 p f := ⟨rfl, by decide, g2.1, by omega, fv⟩
    have tgl := fa.1
    obtain ⟨b0, b1, b2, b3⟩ := fa.tag
    have fm := x_fm (e := e) hN ht hW fa
    have fe := x_fieldEnd (e := e) (N := N) (by omega) fa
    have ih := l_mtw (e := e) (v := v) hN ht hW h152 hk hp hps D (p + (ser f).length) (i + 1) nf (fun g hg => g1 g (List.mem_cons_of_mem _ hg)) g2.2 (by rw [doc]; omega) (by omega) (by omega)
    rw [show ((i + 1 : Nat) : Int) = (i : Int) + 1 by omega] at ih
    have nx : ∀ b0 : Bool, b0 = dcm k pre lw D → Ok (if w_nb ((i : Int) + 1) = true then ((E_R_fieldEnd e N (p : Int) 150 R).bind (fun q1106 => (if w_nb (q1106.1 + 1) = true then El_R_meets e N nf 0 [(t : Int), v, (i : Int) + 1, q1106.1 + 1] [] q1106.2 else none))) else none) (fun y S1 => y = bi b0 ∧ S1 = R) := fun b0 h0 => by
      rw [h0]
      refine ok_nb (by omega) (ok_b (ok_of fe (ok_nb (by omega) ?_)))
      dsimp only
      rw [show ((p + (fbd f).length + 4 : Nat) : Int) + 1 = ((p + (ser f).length : Nat) : Int) by omega]
      exact ok_of ih ⟨rfl, rfl⟩
    have yes : tld k f.1 = true → Ok ((E_R_fieldEnd e N (p : Int) 150 R).bind (fun q1089 => ((E_R_fieldMeets e N (t : Int) (p : Int) q1089.1 q1089.2).bind (fun q1090 => (if q1090.1 = 0 then (if w_nb ((i : Int) + 1) = true then ((E_R_fieldEnd e N (p : Int) 150 q1090.2).bind (fun q1106 => (if w_nb (q1106.1 + 1) = true then El_R_meets e N nf 0 [(t : Int), v, (i : Int) + 1, q1106.1 + 1] [] q1106.2 else none))) else none) else some (1, q1090.2)))))) (fun y S1 => y = bi ((tld k f.1 && anyR pre lw f.2.2.2) || dcm k pre lw D) ∧ S1 = R) := fun z => by
      rw [z, Bool.true_and]
      refine ok_b (ok_of fe ?_)
      dsimp only
      refine ok_b (ok_of fm ?_)
      dsimp only
      cases anyR pre lw f.2.2.2 with
      | true => exact ok_e (by decide) (ok_s ⟨by rw [Bool.true_or]; rfl, rfl⟩)
      | false => exact ok_t rfl (nx _ (Bool.false_or _))
    have no : tld k f.1 = false → Ok (if w_nb ((i : Int) + 1) = true then ((E_R_fieldEnd e N (p : Int) 150 R).bind (fun q1106 => (if w_nb (q1106.1 + 1) = true then El_R_meets e N nf 0 [(t : Int), v, (i : Int) + 1, q1106.1 + 1] [] q1106.2 else none))) else none) (fun y S1 => y = bi ((tld k f.1 && anyR pre lw f.2.2.2) || dcm k pre lw D) ∧ S1 = R) := fun z => nx _ (by rw [z, Bool.false_and, Bool.false_or])
    refine ok_eq ?_
    rw [El_R_meets, hp, show ((t : Int)).toNat = t by omega, h152, show ((p : Int)).toNat = p by omega, show ((p : Int) + 1).toNat = p + 1 by omega, show ((p : Int) + 2).toNat = p + 2 by omega, b0, b1, b2, dcm]
    refine ok_e (by omega) (ok_ib (by omega) (ok_t hW.2.2.2.1 ?_))
    (refine ok_len tgl ?_); (with_reducible refine ok_t (by omega) ?_); (with_reducible refine ok_t (by omega) (ok_nb (by omega) (ok_nb (by omega) (ok_nb (by omega) ?_)))); (refine ok_len tgl ?_); (with_reducible refine ok_t (by omega) ?_); (with_reducible refine ok_t (by omega) (ok_nb (by omega) (ok_nb (by omega) (ok_nb (by omega) (ok_nb (by omega) ?_))))); (refine ok_len tgl ?_); (with_reducible refine ok_t (by omega) ?_); (with_reducible refine ok_t (by omega) (ok_nb (by omega) (ok_nb (by omega) ?_)))
    rw [show 100 * (48 + f.1 / 100 - 48) + 10 * (48 + f.1 / 10 % 10 - 48) + (48 + f.1 % 10) - 48 = f.1 by omega]
    rcases (show k = 0 ∨ k = 1 ∨ k = 2 ∨ k = 3 by omega) with rfl | rfl | rfl | rfl
    · refine ok_e (by decide) ?_
      by_cases c1 : f.1 = 245
      · exact ok_e (fun z => z c1) (yes (decide_eq_true c1))
      · exact ok_t c1 (no (decide_eq_false c1))
    · refine ok_t (by decide) (ok_e (by decide) ?_)
      by_cases c1 : f.1 = 100
      · refine ok_t c1 (yes ?_)
        show (decide (f.1 = 100) || _) = true
        rw [decide_eq_true c1, Bool.true_or]
      · refine ok_e c1 ?_
        by_cases c2 : f.1 = 700
        · refine ok_e (fun z => z c2) (yes ?_)
          show (decide (f.1 = 100) || decide (f.1 = 700)) = true
          rw [decide_eq_true c2, Bool.or_true]
        · refine ok_t c2 (no ?_)
          show (decide (f.1 = 100) || decide (f.1 = 700)) = false
          rw [decide_eq_false c1, decide_eq_false c2]
          rfl
    · refine ok_t (by decide) (ok_t (by decide) (ok_e (by decide) ?_))
      by_cases c1 : f.1 = 650
      · exact ok_e (fun z => z c1) (yes (decide_eq_true c1))
      · exact ok_t c1 (no (decide_eq_false c1))
    · exact ok_t (by decide) (ok_t (by decide) (ok_t (by decide) (yes rfl)))
end
section
-- fb
/-- is one of so many fields linked to a heading, or to one under it? -/
def hdm (g : Nat → Int) (hd : Int) (lk : Nat → Int) : Nat → Nat → Bool
  | _, 0 => false
  | F, n + 1 => hit g hd 81 (lk F) || hdm g hd lk (F + 1) n
/-- the class: a term with a heading -/
theorem l_tmh {e : w_E} {N t nD : Nat} {T R : w_S} {hd : Int} {lk : Nat → Int} (hN : 1000 ≤ N) (h : RelAb T R) (hh : 1 ≤ hd) (ht : t < 20) (h1 : T.1 101 t = hd) (h2 : T.1 120 0 = (nD : Nat)) (h3 : nD ≤ 20) (h4 : ∀ F, F < nD → T.1 124 F = lk F ∧ 0 ≤ lk F ∧ lk F ≤ T.1 17 0) : ∀ (k F nf : Nat), F + k = nD → k < nf → El_Question_isTermMet e N nf 1 [(t : Int), (F : Int)] [] T = some (bi (hdm (T.1 18) hd lk F k), T)
  | _, _, 0, _, h => by omega
  | 0, F, nf + 1, g1, g2 => by
    refine ok_eq ?_
    rw [El_Question_isTermMet, h2, hdm]
    exact ok_t (by omega) (ok_s ⟨rfl, rfl⟩)
  | k + 1, F, nf + 1, g1, g2 => by
    obtain ⟨q1, q2, q3⟩ := h4 F (by omega)
    have ih := l_tmh (e := e) hN h hh ht h1 h2 h3 h4 k (F + 1) nf (by omega) (by omega)
    have un := x_under (e := e) hN h (show hd ≠ 0 by omega) q2 q3
    rw [show ((F + 1 : Nat) : Int) = (F : Int) + 1 by omega] at ih
    refine ok_eq ?_
    rw [El_Question_isTermMet, h2, show ((t : Int)).toNat = t by omega, h1, show ((F : Int)).toNat = F by omega, q1, hdm]
    refine ok_e (by omega) (ok_ib (by omega) (ok_ib (by omega) (ok_b (ok_of un ?_))))
    dsimp only
    cases hit (T.1 18) hd 81 (lk F) with
    | true => exact ok_e (by decide) (ok_s ⟨by rw [Bool.true_or]; rfl, rfl⟩)
    | false =>
      rw [Bool.false_or]
      exact ok_t rfl (ok_nb (by omega) (ok_of ih ⟨rfl, rfl⟩))
/-- the reference climbs from a heading -/
theorem l_hd1 {e : w_E} {N t : Nat} {S R : w_S} {hd v i p : Int} {P : Int → w_S → Prop} (h : RelAb S R) (ht : t < 20) (h1 : R.1 154 t = hd) (hh : 1 ≤ hd) : ∀ (m nf : Nat) (x : Int), m < nf → 0 ≤ x → x ≤ S.1 17 0 → wk (S.1 18) m x = 0 → (hit (S.1 18) hd (m + 1) x = true → P 1 R) → (hit (S.1 18) hd (m + 1) x = false → ∀ n', nf ≤ n' + m + 1 → Ok (if w_nb (i + 1) = true then ((E_R_fieldEnd e N p 150 R).bind (fun q1123 => (if w_nb (q1123.1 + 1) = true then El_R_meets e N n' 0 [(t : Int), v, i + 1, q1123.1 + 1] [] q1123.2 else none))) else none) P) → Ok (El_R_meets e N nf 1 [(t : Int), v, i, p, x] [] R) P
  | _, 0, _, h, _, _, _, _, _ => by omega
  | m, nf + 1, x, g2, g3, g4, g5, g6, g7 => by
    have hk := h
    obtain ⟨k1, k2, k3, k4, k5⟩ := hk
    rw [El_R_meets, show ((t : Int)).toNat = t by omega, h1]
    rw [hit] at g6 g7
    by_cases c : x = 0
    · rw [if_pos c] at g7
      exact ok_t (by omega) (g7 rfl nf (by omega))
    · rw [if_neg c] at g6 g7
      refine ok_e (by omega) (ok_ib (by omega) ?_)
      by_cases d : x = hd
      · rw [if_pos d] at g6
        exact ok_e (fun z => z d) (ok_s (g6 rfl))
      · rw [if_neg d] at g6 g7
        obtain ⟨q0, q⟩ := k4 x.toNat (by omega) (by omega)
        refine ok_t d (ok_ib (by omega) ?_)
        rw [q0]
        cases m with
        | zero => exact absurd g5 c
        | succ m =>
          rw [wk, if_neg c] at g5
          exact l_hd1 (e := e) (S := S) h ht h1 hh m nf (S.1 18 x.toNat) (by omega) q.1 q.2 g5 g6 (fun z n' hn' => g7 z n' (by omega))
theorem hit_80 {S R : w_S} {hd x : Int} (h : RelAb S R) (h0 : 0 ≤ x) (h1 : x ≤ S.1 17 0) : wk (S.1 18) 80 x = 0 := h.w80 h0 h1
/-- the reference: a term with a heading -/
theorem l_mth {e : w_E} {N t : Nat} {S R : w_S} {hd v d ps : Int} (hN : 40000 ≤ N) (h : RelAb S R) (hk : RelLk S R) (ht : t < 20) (h153 : R.1 153 t = 3) (h154 : R.1 154 t = hd) (hh : 1 ≤ hd) (hd12 : R.1 129 12 = d) (hp : R.1 129 37 = ps) (hps : ps ≤ 4000) : ∀ (D : List Fdl) (p i nf : Nat), (∀ f, f ∈ D → vfd f) → byt (R.1 150) p (doc D) → ((p + (doc D).length : Nat) : Int) = ps → i + D.length ≤ 1000 → 90 * D.length < nf → El_R_meets e N nf 0 [(t : Int), v, (i : Int), (p : Int)] [] R = some (bi (hdm (S.1 18) hd (fun F => lko R v (F : Int) d (S.1 17 7).toNat) i D.length), R)
  | _, _, _, 0, _, _, _, _, h => by omega
  | [], p, i, nf + 1, g1, g2, g3, g4, g5 => by
    rw [doc, List.flatMap_nil, List.length_nil] at g3
    refine ok_eq ?_
    rw [El_R_meets, hp, List.length_nil, hdm]
    exact ok_t (by omega) (ok_s ⟨rfl, rfl⟩)
  | f :: D, p, i, nf + 1, g1, g2, g3, g4, g5 => by
    rw [List.length_cons] at g4 g5
    have fv := g1 f List.mem_cons_self
    have sl := ser_len f
    rw [doc, List.flatMap_cons] at g2 g3
    rw [byt_app] at g2
    rw [List.length_append] at g3
    have fa : Fat R 150 4000 p f := ⟨rfl, by decide, g2.1, by omega, fv⟩
    have fe := x_fieldEnd (e := e) (N := N) (by omega) fa
    have lkr := x_lkR (e := e) (N := N) (v := v) (F := (i : Int)) (d := d) (by omega) hk
    have hkk := hk
    obtain ⟨_, k2, _⟩ := hkk
    rcases lko_b (v := v) (F := (i : Int)) (d := d) hk (S.1 17 7).toNat (by omega) with ⟨b1, b2, _⟩ | q
    rotate_left
    · have := h.2.1
      omega
    refine ok_eq ?_
    rw [El_R_meets, hp, show ((t : Int)).toNat = t by omega, h153, hd12, List.length_cons, hdm]
    refine ok_e (by omega) (ok_ib (by omega) (ok_e (by decide) (ok_b (ok_of lkr ?_))))
    dsimp only
    refine l_hd1 (S := S) h ht h154 hh 80 nf _ (by omega) b1 b2 (h.w80 b1 b2) (fun z => ?_) (fun z n' hn' => ?_)
    · rw [show hit (S.1 18) hd 81 (lko R v (i : Int) d (S.1 17 7).toNat) = true from z, Bool.true_or]
      exact ⟨rfl, rfl⟩
    · rw [show hit (S.1 18) hd 81 (lko R v (i : Int) d (S.1 17 7).toNat) = false from z, Bool.false_or]
      have ih := l_mth (e := e) (v := v) hN h hk ht h153 h154 hh hd12 hp hps D (p + (ser f).length) (i + 1) n' (fun g hg => g1 g (List.mem_cons_of_mem _ hg)) g2.2 (by rw [doc]; omega) (by omega) (by omega)
      refine ok_nb (by omega) (ok_b (ok_of fe (ok_nb (by omega) ?_)))
      dsimp only
      rw [show ((p + (fbd f).length + 4 : Nat) : Int) + 1 = ((p + (ser f).length : Nat) : Int) by omega, show (i : Int) + 1 = ((i + 1 : Nat) : Int) by omega]
      exact ok_of ih ⟨rfl, rfl⟩
/-- the bytes of a term's words -/
def twd (G : Int → Int) (x : Wd) : List Int := (List.range x.2).map (fun u : Nat => G (x.1 + (u : Nat)))
def twl (G : Int → Int) (d : Trm) : List (List Int) := d.2.2.2.map (twd G)
theorem twd_len (G : Int → Int) (x : Wd) : (twd G x).length = x.2 := by
  unfold twd
  rw [List.length_map, List.length_range]
theorem twd_get (G : Int → Int) (x : Wd) {u : Nat} (h : u < x.2) : (twd G x).getD u 0 = G (x.1 + (u : Nat)) := by
  unfold twd
  rw [getD_map' (d := 0) (by rw [List.length_range]; exact h), List.getD_eq_getElem?_getD, List.getElem?_range h, Option.getD_some]
theorem twl_get {G : Int → Int} {d : Trm} {w : Nat} (h : w < d.2.2.2.length) : (twl G d).getD w [] = twd G (d.2.2.2.getD w (0, 0)) := by
  unfold twl
  exact getD_map' h
theorem memD {α : Type} {l : List α} {i : Nat} {d : α} (h : i < l.length) : l.getD i d ∈ l := by
  rw [List.getD_eq_getElem?_getD, List.getElem?_eq_getElem h, Option.getD_some]
  exact List.getElem_mem _
theorem tm_qw {T : w_S} {f len : Int} {G : Int → Int} {t wc : Nat} {d : Trm} (hT : TX T f len G) (hv : vtm G len d) (h : TmC T f t wc d) (h4 : d.1 ≠ 4) (hwc : wc ≤ 80) : QW T t d.2.2.1 (twl G d) := by
  obtain ⟨_, _, hw⟩ := h
  obtain ⟨wb, w1, w2, w3, w4, w5⟩ := hw h4
  obtain ⟨_, _, _, v4, v5⟩ := hv
  obtain ⟨v6, v7, v8⟩ := v4 h4
  obtain ⟨_, _, t3, t4, _, t5, t6⟩ := hT
  have ll : (twl G d).length = d.2.2.2.length := List.length_map ..
  refine ⟨by rw [ll]; exact w3, by omega, by omega, w4, wb, w1, by omega, fun w hw => ?_⟩
  rw [ll] at hw
  obtain ⟨y1, y2, y3, y4, y5⟩ := v8 _ (memD (d := (0, 0)) hw)
  rw [twl_get hw, twd_len]
  have z := w5 w hw
  generalize hx : d.2.2.2.getD w (0, 0) = x at *
  refine ⟨(f + x.1).toNat, by rw [z, show (((f + x.1).toNat : Nat) : Int) = f + x.1 by omega], by omega, by omega, by omega, fun u hu => ?_⟩
  rw [twd_get G x hu]
  have q := (t6 (x.1 + (u : Nat)) (by omega)).1 (by omega)
  have cb := y5 u hu
  unfold cdb at cb
  simp only [Bool.or_eq_true, Bool.and_eq_true, decide_eq_true_eq] at cb
  rw [show (f + (x.1 + (u : Nat))).toNat = (f + x.1).toNat + u by omega] at q
  obtain ⟨_, _, _, q4⟩ := q
  split at q4 <;> omega
theorem tm_rw {R : w_S} {len : Int} {G : Int → Int} {t : Nat} {d : Trm} (hR : TR R len G) (hB : ∀ p : Nat, (p : Int) < len → -128 ≤ R.1 130 p ∧ R.1 130 p ≤ 127) (hv : vtm G len d) (h : TmR R t d) (h4 : d.1 ≠ 4) : RW R t d.2.2.1 (twl G d) := by
  obtain ⟨_, _, hw⟩ := h
  obtain ⟨w1, w2, w3, w4⟩ := hw h4
  obtain ⟨_, _, _, v4, v5⟩ := hv
  obtain ⟨v6, v7, v8⟩ := v4 h4
  obtain ⟨_, _, t3, t4⟩ := hR
  have ll : (twl G d).length = d.2.2.2.length := List.length_map ..
  refine ⟨by rw [ll]; exact w1, by omega, by omega, w2, w3, fun w hw => ?_⟩
  rw [ll] at hw
  obtain ⟨y1, y2, y3, y4, y5⟩ := v8 _ (memD (d := (0, 0)) hw)
  rw [twl_get hw, twd_len]
  obtain ⟨z1, z2⟩ := w4 w hw
  generalize hx : d.2.2.2.getD w (0, 0) = x at *
  refine ⟨x.1.toNat, by rw [z1]; omega, z2, by omega, by omega, by omega, fun u hu => ?_⟩
  rw [twd_get G x hu]
  have q := (t4 (x.1 + (u : Nat)) (by omega)).1 (by omega)
  have cb := y5 u hu
  unfold cdb at cb
  simp only [Bool.or_eq_true, Bool.and_eq_true, decide_eq_true_eq] at cb
  rw [show (x.1 + (u : Nat)).toNat = x.1.toNat + u by omega] at q
  obtain ⟨b1, b2⟩ := hB (x.1.toNat + u) (by omega)
  have q1 := q.1
  rw [b_and255 _ b1 b2] at q1
  split at q1 <;> omega
end
section
-- fc
/-- a pile of answers -/
def bstk (g : Nat → Int) : List Bool → Prop
  | [] => True
  | b :: s => g s.length = bi b ∧ bstk g s
theorem bstk_low {g g' : Nat → Int} : ∀ {s : List Bool}, (∀ j, j < s.length → g' j = g j) → bstk g s → bstk g' s
  | [], _, _ => trivial
  | b :: s, h, k => ⟨by rw [h _ (by rw [List.length_cons]; omega)]; exact k.1, bstk_low (fun j hj => h j (by rw [List.length_cons]; omega)) k.2⟩
theorem bstk_put {g : Nat → Int} {s : List Bool} {n : Nat} (b : Bool) (hn : n = s.length) (h : bstk g s) : bstk (pt g n (bi b)) (b :: s) := by
  subst hn
  refine ⟨by rw [pt_at, if_pos rfl], bstk_low (fun j hj => ?_) h⟩
  rw [pt_at, if_neg (by omega)]
def opv (x : Int) (a b : Bool) : Bool := if x = -1 then a && b else if x = -2 then a || b else a && !b
def stp (x : Int) : List Bool → List Bool
  | b :: a :: r => opv x a b :: r
  | s => s
def evs (tv : Nat → Bool) : List Int → List Bool → List Bool
  | [], s => s
  | x :: pr, s => evs tv pr (if 0 ≤ x then tv x.toNat :: s else stp x s)
theorem evs_push {tv : Nat → Bool} {x : Int} {pr : List Int} {s : List Bool} (h : 0 ≤ x) : evs tv (x :: pr) s = evs tv pr (tv x.toNat :: s) := by
  rw [evs, if_pos h]
theorem evs_op {tv : Nat → Bool} {x : Int} {pr : List Int} {a b : Bool} {r : List Bool} (h : ¬ 0 ≤ x) : evs tv (x :: pr) (b :: a :: r) = evs tv pr (opv x a b :: r) := by
  rw [evs, if_neg h, stp]
theorem hst_none : ∀ (l : List Int), l.foldl hst none = none
  | [] => rfl
  | _ :: l => by
    rw [List.foldl_cons]
    exact hst_none l
theorem hst_ge : ∀ (l : List Int) (h : Nat), l.foldl hst (some h) = some 1 → h ≤ 1 + l.length
  | [], h, g => by
    rw [List.foldl_nil, Option.some.injEq] at g
    omega
  | x :: l, h, g => by
    rw [List.foldl_cons] at g
    unfold hst at g
    rw [Option.bind_some] at g
    rw [List.length_cons]
    split at g
    · have := hst_ge l (h + 1) g
      omega
    · split at g
      · have := hst_ge l (h - 1) g
        omega
      · have n := hst_none l
        unfold hst at n
        rw [n] at g
        cases g
theorem hst_push {x : Int} {l : List Int} {h : Nat} (g : (x :: l).foldl hst (some h) = some 1) (hx : 0 ≤ x) : l.foldl hst (some (h + 1)) = some 1 := by
  rw [List.foldl_cons] at g
  unfold hst at g ⊢
  rw [Option.bind_some, if_pos hx] at g
  exact g
theorem hst_op {x : Int} {l : List Int} {h : Nat} (g : (x :: l).foldl hst (some h) = some 1) (hx : ¬ 0 ≤ x) : 2 ≤ h ∧ l.foldl hst (some (h - 1)) = some 1 := by
  rw [List.foldl_cons] at g
  by_cases c : 2 ≤ h
  · refine ⟨c, ?_⟩
    unfold hst at g ⊢
    rw [Option.bind_some, if_neg hx, if_pos c] at g
    exact g
  · exfalso
    have n := hst_none l
    unfold hst at g n
    rw [Option.bind_some, if_neg hx, if_neg c, n] at g
    cases g
theorem two_of {s : List Bool} (h : 2 ≤ s.length) : ∃ b a r, s = b :: a :: r := by
  cases s with
  | nil => rw [List.length_nil] at h; omega
  | cons b s =>
    cases s with
    | nil => rw [List.length_singleton] at h; omega
    | cons a r => exact ⟨b, a, r, rfl⟩
theorem bi_0 (b : Bool) : (bi b = 0 ↔ b = false) ∧ (bi b = 1 ↔ b = true) ∧ (bi b = 0 ∨ bi b = 1) := by
  cases b <;> decide
/-- the class: is a record met by a program? -/
theorem l_met {e : w_E} {N nt L : Nat} {T : w_S} {tv : Nat → Bool} (hL : L ≤ 40) (h3 : T.1 94 3 = (L : Nat)) (htm : ∀ S, frm [103] [] [] T S → ∀ x : Int, 0 ≤ x → x < (nt : Nat) → E_Question_isTermMet e N x S = some (bi (tv x.toNat), S)) : ∀ (rest : List Int) (i nf : Nat) (s : List Bool) (S : w_S), frm [103] [] [] T S → byt (T.1 95) i rest → i + rest.length = L → bstk (S.1 103) s → s.length ≤ i → rest.foldl hst (some s.length) = some 1 → (∀ x, x ∈ rest → -3 ≤ x ∧ x < (nt : Nat)) → rest.length < nf → Ok (El_Question_isMet e N nf 0 [((s.length : Nat) : Int), (i : Int)] [] S) (fun y S1 => y = bi ((evs tv rest s).headD false) ∧ frm [103] [] [] T S1)
  | _, _, 0, _, _, _, _, _, _, _, _, _, h => by omega
  | [], i, nf + 1, s, S, g1, g2, g3, g4, g5, g6, g7, g8 => by
    rw [List.foldl_nil, Option.some.injEq] at g6
    rw [List.length_nil] at g3
    obtain ⟨b, rfl⟩ : ∃ b, s = [b] := List.length_eq_one_iff.1 g6
    have e94 : S.1 94 3 = (L : Nat) := by rw [g1.2.1 94 rfl rfl]; exact h3
    have e0 : S.1 103 0 = bi b := g4.1
    rw [El_Question_isMet, e94, e0]
    refine ok_t (by omega) (ok_e (by rw [List.length_singleton]; omega) ?_)
    cases b with
    | false => exact ok_t rfl (ok_s ⟨rfl, g1⟩)
    | true => exact ok_e (by decide) (ok_s ⟨rfl, g1⟩)
  | x :: rest, i, nf + 1, s, S, g1, g2, g3, g4, g5, g6, g7, g8 => by
    rw [List.length_cons] at g3 g8
    have e94 : S.1 94 3 = (L : Nat) := by rw [g1.2.1 94 rfl rfl]; exact h3
    have e95 : S.1 95 i = x := by rw [g1.2.1 95 rfl rfl]; exact g2.1
    have hx := g7 x List.mem_cons_self
    have ge := hst_ge _ _ g6
    rw [List.length_cons] at ge
    rw [El_Question_isMet, e94, show ((i : Int)).toNat = i by omega, e95]
    refine ok_e (by omega) (ok_ib (by omega) ?_)
    have nx : ∀ (s' : List Bool) (n : Nat) (b : Bool), n = s'.length → bstk (S.1 103) s' → s'.length + 1 ≤ i + 1 → rest.foldl hst (some (s'.length + 1)) = some 1 → Ok (El_Question_isMet e N nf 0 [((n + 1 : Nat) : Int), (i : Int) + 1] [] (w_put S 103 n (bi b))) (fun y S1 => y = bi ((evs tv rest (b :: s')).headD false) ∧ frm [103] [] [] T S1) := fun s' n b hn k1 k2 k3 => by
      have f1 : frm [103] [] [] T (w_put S 103 n (bi b)) := by
        refine frm.trans g1 ?_
        repeat (first | exact frm.refl _ _ _ _ | refine frm.put ?_ rfl | refine frm.puto ?_ rfl rfl)
      have := l_met (e := e) hL h3 htm rest (i + 1) nf (b :: s') (w_put S 103 n (bi b)) f1 g2.2 (by omega) (by
        show bstk (pt (S.1 103) n (bi b)) _
        exact bstk_put b hn k1) (by rw [List.length_cons]; omega) (by rw [List.length_cons]; exact k3) (fun y hy => g7 y (List.mem_cons_of_mem _ hy)) (by omega)
      rw [List.length_cons, ← hn, show ((i + 1 : Nat) : Int) = (i : Int) + 1 by omega] at this
      exact this
    by_cases c : 0 ≤ x
    · have k3 := hst_push g6 c
      have ge2 := hst_ge _ _ k3
      rw [evs_push c]
      refine ok_e (by omega) (ok_e (by omega) (ok_b (ok_of (htm S g1 x c hx.2) ?_)))
      dsimp only
      refine ok_t (bi_0 _).2.2 (ok_ib (by omega) (ok_nb (by omega) (ok_nb (by omega) ?_)))
      rw [show (((s.length : Nat) : Int)).toNat = s.length by omega, show ((s.length : Nat) : Int) + 1 = ((s.length + 1 : Nat) : Int) by omega]
      exact nx s s.length _ rfl g4 (by omega) k3
    · obtain ⟨h2, k3⟩ := hst_op g6 c
      obtain ⟨b, a, r, rfl⟩ := two_of h2
      obtain ⟨hb, ha, hr⟩ := g4
      rw [List.length_cons] at hb
      rw [List.length_cons, List.length_cons] at k3 ge g5 ⊢
      rw [evs_op c]
      refine ok_t (by omega) (ok_e (by omega) (ok_nb (by omega) (ok_nb (by omega) (ok_ib (by omega) (ok_ib (by omega) ?_)))))
      rw [show (((r.length + 1 + 1 : Nat) : Int) + -1 - 1).toNat = r.length by omega, show (((r.length + 1 + 1 : Nat) : Int) + -1).toNat = r.length + 1 by omega, ha, hb, show ((r.length + 1 + 1 : Nat) : Int) + -1 = ((r.length + 1 : Nat) : Int) by omega]
      have fin : ∀ v : Bool, v = opv x a b → ∀ z : Int, z = bi v → Ok (if w_nb ((i : Int) + 1) = true then El_Question_isMet e N nf 0 [((r.length + 1 : Nat) : Int), (i : Int) + 1] [] (w_put S 103 r.length z) else none) (fun y S1 => y = bi ((evs tv rest (opv x a b :: r)).headD false) ∧ frm [103] [] [] T S1) := fun v hv z hz => by
        subst hz
        rw [← hv]
        exact ok_nb (by omega) (nx r r.length v rfl hr (by omega) (by rw [show r.length + 1 = r.length + 1 + 1 - 1 by omega]; exact k3))
      unfold opv at fin ⊢
      rcases (show x = -1 ∨ x = -2 ∨ x = -3 by omega) with rfl | rfl | rfl
      · refine ok_t (by decide) ?_
        cases a with
        | false => exact ok_t rfl (fin false rfl 0 rfl)
        | true =>
          refine ok_e (by decide) (ok_t (by decide) ?_)
          cases b with
          | false => exact ok_t rfl (fin false rfl 0 rfl)
          | true => exact ok_e (by decide) (fin true rfl 1 rfl)
      · refine ok_e (by decide) ?_
        cases a with
        | true => exact ok_t (by decide) (fin true rfl 1 rfl)
        | false =>
          refine ok_e (by decide) ?_
          cases b with
          | false => exact ok_t rfl (fin false rfl 0 rfl)
          | true => exact ok_e (by decide) (fin true rfl 1 rfl)
      · refine ok_t (by decide) ?_
        cases a with
        | false => exact ok_t rfl (fin false rfl 0 rfl)
        | true =>
          refine ok_e (by decide) (ok_e (by decide) ?_)
          cases b with
          | true => exact ok_t rfl (fin false rfl 0 rfl)
          | false => exact ok_e (by decide) (fin true rfl 1 rfl)
/-- the reference: does a record answer a program? -/
theorem l_ans {e : w_E} {N nt L : Nat} {T : w_S} {rec : Int} {tv : Nat → Bool} (hL : L ≤ 40) (h3 : T.1 129 46 = (L : Nat)) (htm : ∀ S, frm [159] [] [] T S → ∀ x : Int, 0 ≤ x → x < (nt : Nat) → E_R_meets e N x rec S = some (bi (tv x.toNat), S)) : ∀ (rest : List Int) (i nf : Nat) (s : List Bool) (S : w_S), frm [159] [] [] T S → byt (T.1 157) i rest → i + rest.length = L → bstk (S.1 159) s → s.length ≤ i → rest.foldl hst (some s.length) = some 1 → (∀ x, x ∈ rest → -3 ≤ x ∧ x < (nt : Nat)) → rest.length < nf → Ok (El_R_answersAll e N nf 0 [rec, ((s.length : Nat) : Int), (i : Int)] [] S) (fun y S1 => y = bi ((evs tv rest s).headD false) ∧ frm [159] [] [] T S1)
  | _, _, 0, _, _, _, _, _, _, _, _, _, h => by omega
  | [], i, nf + 1, s, S, g1, g2, g3, g4, g5, g6, g7, g8 => by
    rw [List.foldl_nil, Option.some.injEq] at g6
    rw [List.length_nil] at g3
    obtain ⟨b, rfl⟩ : ∃ b, s = [b] := List.length_eq_one_iff.1 g6
    have e94 : S.1 129 46 = (L : Nat) := by rw [g1.2.1 129 rfl rfl]; exact h3
    have e0 : S.1 159 0 = bi b := g4.1
    rw [El_R_answersAll, e94, e0]
    exact ok_t (by omega) (ok_t (bi_0 b).2.2 (ok_s ⟨rfl, g1⟩))
  | x :: rest, i, nf + 1, s, S, g1, g2, g3, g4, g5, g6, g7, g8 => by
    rw [List.length_cons] at g3 g8
    have e94 : S.1 129 46 = (L : Nat) := by rw [g1.2.1 129 rfl rfl]; exact h3
    have e95 : S.1 157 i = x := by rw [g1.2.1 157 rfl rfl]; exact g2.1
    have hx := g7 x List.mem_cons_self
    have ge := hst_ge _ _ g6
    rw [List.length_cons] at ge
    rw [El_R_answersAll, e94, show ((i : Int)).toNat = i by omega, e95]
    refine ok_e (by omega) (ok_ib (by omega) ?_)
    have nx : ∀ (s' : List Bool) (n : Nat) (b : Bool), n = s'.length → bstk (S.1 159) s' → s'.length + 1 ≤ i + 1 → rest.foldl hst (some (s'.length + 1)) = some 1 → Ok (El_R_answersAll e N nf 0 [rec, ((n + 1 : Nat) : Int), (i : Int) + 1] [] (w_put S 159 n (bi b))) (fun y S1 => y = bi ((evs tv rest (b :: s')).headD false) ∧ frm [159] [] [] T S1) := fun s' n b hn k1 k2 k3 => by
      have f1 : frm [159] [] [] T (w_put S 159 n (bi b)) := by
        refine frm.trans g1 ?_
        repeat (first | exact frm.refl _ _ _ _ | refine frm.put ?_ rfl | refine frm.puto ?_ rfl rfl)
      have := l_ans (e := e) hL h3 htm rest (i + 1) nf (b :: s') (w_put S 159 n (bi b)) f1 g2.2 (by omega) (by
        show bstk (pt (S.1 159) n (bi b)) _
        exact bstk_put b hn k1) (by rw [List.length_cons]; omega) (by rw [List.length_cons]; exact k3) (fun y hy => g7 y (List.mem_cons_of_mem _ hy)) (by omega)
      rw [List.length_cons, ← hn, show ((i + 1 : Nat) : Int) = (i : Int) + 1 by omega] at this
      exact this
    by_cases c : 0 ≤ x
    · have k3 := hst_push g6 c
      have ge2 := hst_ge _ _ k3
      rw [evs_push c]
      refine ok_e (by omega) (ok_b (ok_of (htm S g1 x c hx.2) ?_))
      dsimp only
      refine ok_t (bi_0 _).2.2 (ok_ib (by omega) (ok_nb (by omega) (ok_nb (by omega) ?_)))
      rw [show (((s.length : Nat) : Int)).toNat = s.length by omega, show ((s.length : Nat) : Int) + 1 = ((s.length + 1 : Nat) : Int) by omega]
      exact nx s s.length _ rfl g4 (by omega) k3
    · obtain ⟨h2, k3⟩ := hst_op g6 c
      obtain ⟨b, a, r, rfl⟩ := two_of h2
      obtain ⟨hb, ha, hr⟩ := g4
      rw [List.length_cons] at hb
      rw [List.length_cons, List.length_cons] at k3 ge g5 ⊢
      rw [evs_op c]
      refine ok_t (by omega) (ok_nb (by omega) (ok_ib (by omega) (ok_nb (by omega) (ok_ib (by omega) ?_))))
      rw [show (((r.length + 1 + 1 : Nat) : Int) + -1 - 1).toNat = r.length by omega, show (((r.length + 1 + 1 : Nat) : Int) + -1).toNat = r.length + 1 by omega, ha, hb, show ((r.length + 1 + 1 : Nat) : Int) + -1 = ((r.length + 1 : Nat) : Int) by omega]
      have fin : ∀ v : Bool, v = opv x a b → ∀ z : Int, z = bi v → Ok (if w_nb ((i : Int) + 1) = true then El_R_answersAll e N nf 0 [rec, ((r.length + 1 : Nat) : Int), (i : Int) + 1] [] (w_put S 159 r.length z) else none) (fun y S1 => y = bi ((evs tv rest (opv x a b :: r)).headD false) ∧ frm [159] [] [] T S1) := fun v hv z hz => by
        subst hz
        rw [← hv]
        exact ok_nb (by omega) (nx r r.length v rfl hr (by omega) (by rw [show r.length + 1 = r.length + 1 + 1 - 1 by omega]; exact k3))
      unfold opv at fin ⊢
      rcases (show x = -1 ∨ x = -2 ∨ x = -3 by omega) with rfl | rfl | rfl
      · refine ok_e (by decide) ?_
        cases a with
        | false => exact ok_t rfl (fin false rfl 0 rfl)
        | true =>
          refine ok_e (by decide) ?_
          cases b with
          | false => exact ok_t rfl (fin false rfl 0 rfl)
          | true => exact ok_e (by decide) (fin true rfl 1 rfl)
      · refine ok_t (by decide) (ok_e (by decide) ?_)
        cases a with
        | true => exact ok_t (by decide) (fin true rfl 1 rfl)
        | false =>
          refine ok_e (by decide) ?_
          cases b with
          | false => exact ok_t rfl (fin false rfl 0 rfl)
          | true => exact ok_e (by decide) (fin true rfl 1 rfl)
      · refine ok_t (by decide) (ok_t (by decide) ?_)
        cases a with
        | false => exact ok_t rfl (fin false rfl 0 rfl)
        | true =>
          refine ok_e (by decide) ?_
          cases b with
          | true => exact ok_t (by decide) (fin false rfl 0 rfl)
          | false => exact ok_e (by decide) (fin true rfl 1 rfl)
end
section
-- fd
theorem rws_len : ∀ (D : List Fdl) (F : Nat), (∀ f, f ∈ D → f.2.2.2.length ≤ 5) → (rws F D).length ≤ 5 * D.length
  | [], F, _ => by
    rw [rws]
    exact Nat.le_refl _
  | f :: D, F, h => by
    have := rws_len D (F + 1) (fun g hg => h g (List.mem_cons_of_mem _ hg))
    have := h f List.mem_cons_self
    rw [rws, List.length_append, srw_len, List.length_cons]
    omega
theorem rws_in : ∀ {D : List Fdl} {F : Nat} {r : Nat × List Int}, (∀ f, f ∈ D → f.2.2.2.length ≤ 5) → r ∈ rws F D → r.1 < 13 * (F + D.length) ∧ ∃ f, f ∈ D ∧ ∃ s, s ∈ f.2.2.2 ∧ r.2 = s.2
  | [], F, r, _, h => by
    rw [rws] at h
    cases h
  | f :: D, F, r, hv, h => by
    rw [rws] at h
    rw [List.length_cons]
    rcases List.mem_append.1 h with h | h
    · have a := srw_slot h
      have b := hv f List.mem_cons_self
      obtain ⟨s, s1, s2⟩ := srw_in h
      exact ⟨by omega, f, List.mem_cons_self, s, s1, s2⟩
    · obtain ⟨a, g, g1, g2⟩ := rws_in (fun g hg => hv g (List.mem_cons_of_mem _ hg)) h
      exact ⟨by omega, g, List.mem_cons_of_mem _ g1, g2⟩
/-- is a term met by a record? -/
def tmv (g : Nat → Int) (lk : Nat → Int) (G : Int → Int) (D : List Fdl) (d : Trm) : Bool := if d.1 = 4 then hdm g d.2.1 lk 0 D.length else dcm d.1 d.2.2.1 (twl G d) D
/-- the class: a term against the record in hand -/
theorem x_ctm {e : w_E} {N t wc : Nat} {T R : w_S} {f len top : Int} {G : Int → Int} {t2 lk : Nat → Int} {D : List Fdl} {d : Trm} (hN : 2000 ≤ N) (ht : t < 20) (hT : TX T f len G) (hv : vtm G len d) (h : TmC T f t wc d) (hwc : wc ≤ 80) (hS : SwB T (aws (rws 0 D))) (hD : Dr T t2 top D) (hDl : D.length ≤ 12) (hDv : ∀ f, f ∈ D → vfd f ∧ f.2.2.2.length ≤ 5) (hAb : RelAb T R) (hlk : ∀ F, F < D.length → T.1 124 F = lk F ∧ 0 ≤ lk F ∧ lk F ≤ T.1 17 0) : E_Question_isTermMet e N (t : Int) T = some (bi (tmv (T.1 18) lk G D d), T) := by
  obtain ⟨v1, v2, v3, v4, v5⟩ := hv
  refine ok_eq ?_
  unfold E_Question_isTermMet tmv
  rw [show ((t : Int)).toNat = t by omega, h.1]
  refine ok_ib (by omega) ?_
  by_cases c : d.1 = 4
  · rw [if_pos c]
    have key := l_tmh (e := e) (N := N) (hd := d.2.1) (lk := lk) (by omega) hAb (v3 c).1 ht (h.2.1 c) hD.1 (by omega) hlk D.length 0 N (by omega) (by omega)
    exact ok_e (fun z => z c) (ok_of key ⟨rfl, rfl⟩)
  · rw [if_neg c]
    have five : ∀ f, f ∈ D → f.2.2.2.length ≤ 5 := fun f hf => (hDv f hf).2
    have rin : ∀ r, r ∈ rws 0 D → r.1 < 260 ∧ r.2.length ≤ 40 := fun r hr => by
      obtain ⟨a, g, g1, s, s1, s2⟩ := rws_in five hr
      have := (hDv g g1).1.2.2.1 s s1
      rw [s2]
      exact ⟨by omega, this.2.1⟩
    have al := aws_len (fun r hr => (rin r hr).2)
    have rl := rws_len D 0 five
    have qw := tm_qw hT ⟨v1, v2, v3, v4, v5⟩ h c hwc
    have key := l_tm0 (e := e) (N := N) (p := d.1) (by omega) ht qw hS (fun x hx => by
      obtain ⟨r, r1, r2, r3⟩ := aws_mem hx
      exact ⟨(wds_wby r3).1, by rw [r2]; exact (rin r r1).1⟩) (by omega) h.1 (by omega) (aws (rws 0 D)).length 0 N (by omega) (by omega)
    rw [List.drop_zero, tmS_doc D 0 (fun f hf => by have := five f hf; omega) (fun i hi => by rw [Nat.zero_add]; exact (hD.2 i hi).1)] at key
    exact ok_t c (ok_of key ⟨rfl, rfl⟩)
/-- the reference: a term against the record on the page -/
theorem x_rtm {e : w_E} {N t : Nat} {S R : w_S} {len v d0 r : Int} {G : Int → Int} {D : List Fdl} {d : Trm} (hN : 40000 ≤ N) (ht : t < 20) (hR : TR R len G) (hB : ∀ p : Nat, (p : Int) < len → -128 ≤ R.1 130 p ∧ R.1 130 p ≤ 127) (hv : vtm G len d) (h : TmR R t d) (hDl : D.length ≤ 12) (hDv : ∀ f, f ∈ D → vfd f) (hp : R.1 129 37 = ((doc D).length : Nat)) (hps : (doc D).length ≤ 4000) (hby : byt (R.1 150) 0 (doc D)) (hAb : RelAb S R) (hk : RelLk S R) (hd12 : R.1 129 12 = d0) (hvo : E_R_versionOn e N r (R.1 129 12) R = some (v, R)) : E_R_meets e N (t : Int) r R = some (bi (tmv (S.1 18) (fun F => lko R v (F : Int) d0 (S.1 17 7).toNat) G D d), R) := by
  obtain ⟨v1, v2, v3, v4, v5⟩ := hv
  refine ok_eq ?_
  unfold E_R_meets tmv
  refine ok_b (ok_of hvo ?_)
  dsimp only
  by_cases c : d.1 = 4
  · rw [if_pos c]
    obtain ⟨w1, w2⟩ := h.2.1 c
    have key := l_mth (e := e) (N := N) (v := v) hN hAb hk ht w1 w2 (v3 c).1 hd12 hp (by omega) D 0 0 N hDv hby (by omega) (by omega) (by omega)
    exact ok_of key ⟨rfl, rfl⟩
  · rw [if_neg c]
    have rw0 := tm_rw hR hB ⟨v1, v2, v3, v4, v5⟩ h c
    have key := l_mtw (e := e) (N := N) (v := v) (k := d.1) hN ht rw0 h.1 (by omega) hp (by omega) D 0 0 N hDv hby (by omega) (by omega) (by omega)
    exact ok_of key ⟨rfl, rfl⟩
end
section
-- fe
/-- a question, read by both, and its text -/
def Qry (S R : w_S) (f len : Int) (G : Int → Int) : Prop := Qst S R f len G ∧ TX S f len G ∧ TR R len G ∧ ∀ p : Nat, (p : Int) < len → -128 ≤ R.1 130 p ∧ R.1 130 p ≤ 127
theorem TmC.cg {T T' : w_S} {f : Int} {t wc : Nat} {d : Trm} (h : TmC T f t wc d) (a : ∀ c, 97 ≤ c → c ≤ 102 → T'.1 c = T.1 c) : TmC T' f t wc d := by
  unfold TmC WdC at h ⊢
  rw [a 97 (by omega) (by omega), a 98 (by omega) (by omega), a 99 (by omega) (by omega), a 100 (by omega) (by omega), a 101 (by omega) (by omega), a 102 (by omega) (by omega)]
  exact h
theorem TmR.cg {R R' : w_S} {t : Nat} {d : Trm} (h : TmR R t d) (a : ∀ c, 152 ≤ c → c ≤ 156 → R'.1 c = R.1 c) : TmR R' t d := by
  unfold TmR WdR at h ⊢
  rw [a 152 (by omega) (by omega), a 153 (by omega) (by omega), a 154 (by omega) (by omega), a 155 (by omega) (by omega), a 156 (by omega) (by omega)]
  exact h
theorem Qry.cg {S R S1 R1 : w_S} {f len : Int} {G : Int → Int} (h : Qry S R f len G) (a : ∀ c, (c = 1 ∨ c = 2 ∨ (95 ≤ c ∧ c ≤ 102)) → S1.1 c = S.1 c) (b : S1.1 94 3 = S.1 94 3 ∧ S1.1 94 5 = S.1 94 5 ∧ S1.1 94 6 = S.1 94 6) (a' : ∀ c, (c = 130 ∨ (152 ≤ c ∧ c ≤ 158)) → R1.1 c = R.1 c) (b' : R1.1 129 2 = R.1 129 2 ∧ R1.1 129 46 = R.1 129 46 ∧ R1.1 129 48 = R.1 129 48 ∧ R1.1 129 40 = R.1 129 40) : Qry S1 R1 f len G := by
  obtain ⟨⟨pr, nt, wb, tms, q1, q2, q3, q4, q5, q6, q7, q8, q9⟩, h2, h3, h4⟩ := h
  refine ⟨⟨pr, nt, wb, tms, ?_, ?_, q3, q4, q5, q6, q7, q8, fun i hi => ?_⟩, h2.cg (a 1 (by omega)) (a 2 (by omega)), h3.cg b'.1 (a' 130 (by omega)), fun p hp => ?_⟩
  · exact q1.cg b.1 (a 95 (by omega)) b.2.1 (a 96 (by omega)) b.2.2
  · unfold HR at q2 ⊢
    rw [b'.2.1, b'.2.2.1, b'.2.2.2, a' 157 (by omega), a' 158 (by omega)]
    exact q2
  · obtain ⟨z1, z2, z3⟩ := q9 i hi
    exact ⟨z1, z2.cg (fun c c1 c2 => a c (by omega)), z3.cg (fun c c1 c2 => a' c (by omega))⟩
  · rw [a' 130 (by omega)]
    exact h4 p hp
theorem Dr.cg {T T' : w_S} {t2 : Nat → Int} {top : Int} {D : List Fdl} (h : Dr T t2 top D) (h0 : T'.1 120 0 = T.1 120 0) (a : ∀ c, 121 ≤ c → c ≤ 127 → T'.1 c = T.1 c) : Dr T' t2 top D := by
  unfold Dr DrF at h ⊢
  rw [h0, a 121 (by omega) (by omega), a 122 (by omega) (by omega), a 123 (by omega) (by omega), a 125 (by omega) (by omega), a 126 (by omega) (by omega), a 127 (by omega) (by omega)]
  exact h
abbrev CMa : List Nat := [103, 104, 105, 121, 122, 123, 124, 125, 126, 127]
abbrev CMj : List (Nat × Nat) := [(94, 15), (120, 0)]
/-- a question against a record, in both -/
theorem x_ismet {e : w_E} {N r : Nat} {S R : w_S} {f len top : Int} {G : Int → Int} {ta L E V n : Nat} (hN : 16000000 ≤ N) (hq : Qry S R f len G) (hv : RelVr S R top ta L E V n) (hk : RelLk S R) (hn : RelNm S R top) (hAb : RelAb S R) (hd : R.1 129 12 = S.1 27 1) (htop : top ≤ 10240) (h1 : 1 ≤ r) (h2 : r ≤ n) : ∃ (b : Bool) (D : List Fdl), D.length ≤ 12 ∧ (∀ f, f ∈ D → vfd f ∧ f.2.2.2.length ≤ 5) ∧ (doc D).length ≤ 4000 ∧ Ok (E_Catalog_copyTo e N (S.1 4 r) S) (fun _ S1 => Ok (E_Authority_layNames e N (S.1 4 r) (S.1 27 1) S1) (fun _ S2 => Ok (E_Question_splitWords e N S2) (fun _ S3 => Ok (E_Question_isMet e N S3) (fun y S4 => y = bi b ∧ frm CMa [94, 120] CMj S S4 ∧ Dr S4 (S.1 2) top D)))) ∧ Ok (E_R_build e N (r : Int) (R.1 129 12) R) (fun _ R1 => Ok (E_R_answersAll e N (r : Int) R1) (fun y R2 => y = bi b ∧ frm [150, 159] [129] [(129, 37)] R R2 ∧ R2.1 129 37 = ((doc D).length : Nat) ∧ byt (R2.1 150) 0 (doc D))) := by
  obtain ⟨⟨pr, nt, wb, tms, q1, q2, q3, q4, q5, q6, q7, q8, q9⟩, hT, hR, hB⟩ := hq
  obtain ⟨v, D, w1, w2, w3, w4, hD⟩ := x_today (e := e) (N := N) (by omega) hv hd h1 (by omega)
  have hvv := hv
  obtain ⟨_, _, _, k4, k5, _, _, _, _, _, _⟩ := hvv
  have bd := x_build (e := e) (N := N) hN hv hk hn w4 hD
  have ly := x_lay (e := e) (N := N) (d := S.1 27 1) (by omega) (show v < 400 by omega) hk hn hD
  have hDD := hD
  obtain ⟨D1, D2, D3, D4, D5, D6, _⟩ := hDD
  rw [hd] at bd
  have dv : ∀ f, f ∈ lyd (nmo R (v : Int) (S.1 27 1)) 0 D → vfd f ∧ f.2.2.2.length ≤ 5 := lyd_v hk hn (fun f hf => by
    obtain ⟨F, hF, rfl⟩ := mem_of_get hf
    exact ⟨D5 _ hf, D4 F hF⟩)
  have dl : (lyd (nmo R (v : Int) (S.1 27 1)) 0 D).length = D.length := lyd_len ..
  rw [← dl] at ly
  generalize hD' : lyd (nmo R (v : Int) (S.1 27 1)) 0 D = D' at bd ly dv dl
  have dle := doc_le dv
  have k31 := hk.1
  rw [k31] at ly
  refine ⟨(evs (fun t => tmv (S.1 18) (fun F => lko R (v : Int) (F : Int) (S.1 27 1) (S.1 17 7).toNat) G D' (tms.getD t t0)) pr []).headD false, D', by omega, dv, by omega, ?_, ?_⟩
  · rw [w2]
    refine ly.mono ?_
    intro _ T lt
    refine lt.mono ?_
    intro _ S2 ⟨s1, s2, s3⟩
    have t2 : S2.1 2 = S.1 2 := s1.2.1 2 rfl rfl
    refine (x_swords (e := e) (N := N) (by omega) htop (by omega) (by rw [t2]; exact s2) dv).mono ?_
    intro _ S3 ⟨u1, u2⟩
    have f3 : frm [104, 105, 121, 122, 123, 124, 125, 126, 127] [94, 120] [(94, 15), (120, 0)] S S3 := (s1.weak (by decide)).trans (u1.weak (by decide))
    have dr3 : Dr S3 (S.1 2) top D' := s2.cg (u1.2.2 120 0 rfl rfl) (fun c c1 c2 => u1.2.1 c (by
      simp only [List.contains_cons, List.contains_nil, Bool.or_false, Bool.or_eq_false_iff, beq_eq_false_iff_ne, ne_eq]
      omega) (by
      simp only [List.contains_cons, List.contains_nil, Bool.or_false, beq_eq_false_iff_ne, ne_eq]
      omega))
    have key := l_met (e := e) (N := N) (nt := nt) (L := pr.length) (T := S3) (tv := fun t => tmv (S.1 18) (fun F => lko R (v : Int) (F : Int) (S.1 27 1) (S.1 17 7).toNat) G D' (tms.getD t t0)) q6 (by rw [f3.2.2 94 3 rfl rfl]; exact q1.1) (fun S' hS' x hx hx2 => ?_) pr 0 N [] S3 (frm.refl _ _ _ _) (by rw [f3.2.1 95 rfl rfl]; exact q1.2.1) (by omega) trivial (Nat.le_refl _) q3 q4 (by omega)
    · unfold E_Question_isMet
      refine key.mono ?_
      intro y S4 ⟨z1, z2⟩
      refine ⟨z1, (f3.weak (by decide)).trans (z2.weak (by decide)), dr3.cg (z2.2.2 120 0 rfl rfl) (fun c c1 c2 => z2.2.1 c (by
        simp only [List.contains_cons, List.contains_nil, Bool.or_false, beq_eq_false_iff_ne, ne_eq]
        omega) rfl)⟩
    · have f4 : frm CMa [94, 120] CMj S S' := (f3.weak (by decide)).trans (hS'.weak (by decide))
      have e18 : S'.1 18 = S.1 18 := f4.2.1 18 rfl rfl
      have e17 : S'.1 17 = S.1 17 := f4.2.1 17 rfl rfl
      obtain ⟨z1, z2, z3⟩ := q9 x.toNat (by omega)
      have z2' : TmC S' f x.toNat wb (tms.getD x.toNat t0) := z2.cg (fun c c1 c2 => f4.2.1 c (by
        simp only [List.contains_cons, List.contains_nil, Bool.or_false, Bool.or_eq_false_iff, beq_eq_false_iff_ne, ne_eq]
        omega) (by
        simp only [List.contains_cons, List.contains_nil, Bool.or_false, Bool.or_eq_false_iff, beq_eq_false_iff_ne, ne_eq]
        omega))
      have sw' : SwB S' (aws (rws 0 D')) := by
        unfold SwB at u2 ⊢
        rw [hS'.2.1 94 rfl rfl, hS'.2.1 104 rfl rfl, hS'.2.1 105 rfl rfl, hS'.2.1 2 rfl rfl]
        exact u2
      have dr' : Dr S' (S.1 2) top D' := dr3.cg (hS'.2.2 120 0 rfl rfl) (fun c c1 c2 => hS'.2.1 c (by
        simp only [List.contains_cons, List.contains_nil, Bool.or_false, beq_eq_false_iff_ne, ne_eq]
        omega) rfl)
      have ab' : RelAb S' R := by
        unfold RelAb at hAb ⊢
        rw [e18, e17]
        exact hAb
      have key := x_ctm (e := e) (N := N) (t := x.toNat) (R := R) (t2 := S.1 2) (top := top) (lk := fun F => lko R (v : Int) (F : Int) (S.1 27 1) (S.1 17 7).toNat) (by omega) (by omega) (hT.cg (f4.2.1 1 rfl rfl) (f4.2.1 2 rfl rfl)) z1 z2' q7 sw' dr' (by omega) dv ab' (fun F hF => by
        rw [e17, hS'.2.1 124 rfl rfl, u1.2.1 124 rfl rfl]
        refine ⟨s3 F hF, ?_⟩
        rcases lko_b (v := (v : Int)) (F := (F : Int)) (d := S.1 27 1) hk (S.1 17 7).toNat (by have := hk.2.1; omega) with z | z
        · exact ⟨z.1, z.2.1⟩
        · have := hAb.2.1
          omega)
      rw [e18, show ((x.toNat : Nat) : Int) = x by omega] at key
      exact key
  · rw [hd]
    refine bd.mono ?_
    intro _ R1 ⟨r1, r2, r3⟩
    have key := l_ans (e := e) (N := N) (nt := nt) (L := pr.length) (T := R1) (rec := (r : Int)) (tv := fun t => tmv (S.1 18) (fun F => lko R (v : Int) (F : Int) (S.1 27 1) (S.1 17 7).toNat) G D' (tms.getD t t0)) q6 (by rw [r1.2.2 129 46 rfl rfl]; exact q2.1) (fun S' hS' x hx hx2 => ?_) pr 0 N [] R1 (frm.refl _ _ _ _) (by rw [r1.2.1 157 rfl rfl]; exact q2.2.1) (by omega) trivial (Nat.le_refl _) q3 q4 (by omega)
    · unfold E_R_answersAll
      refine key.mono ?_
      intro y R2 ⟨z1, z2⟩
      exact ⟨z1, (r1.weak (by decide)).trans (z2.weak (by decide)), by rw [z2.2.1 129 rfl rfl]; exact r2, by rw [z2.2.1 150 rfl rfl]; exact r3⟩
    · have f4 : frm [150, 159] [129] [(129, 37)] R S' := (r1.weak (by decide)).trans (hS'.weak (by decide))
      obtain ⟨z1, z2, z3⟩ := q9 x.toNat (by omega)
      have z3' : TmR S' x.toNat (tms.getD x.toNat t0) := z3.cg (fun c c1 c2 => f4.2.1 c (by
        simp only [List.contains_cons, List.contains_nil, Bool.or_false, Bool.or_eq_false_iff, beq_eq_false_iff_ne, ne_eq]
        omega) (by
        simp only [List.contains_cons, List.contains_nil, Bool.or_false, beq_eq_false_iff_ne, ne_eq]
        omega))
      have ab' : RelAb S S' := by
        unfold RelAb at hAb ⊢
        rw [f4.2.1 141 rfl rfl, f4.2.2 129 24 rfl rfl]
        exact hAb
      have lk' : RelLk S S' := by
        unfold RelLk at hk ⊢
        rw [f4.2.2 129 31 rfl rfl, f4.2.1 146 rfl rfl, f4.2.1 147 rfl rfl, f4.2.1 148 rfl rfl, f4.2.1 149 rfl rfl, f4.2.1 142 rfl rfl, f4.2.1 143 rfl rfl]
        exact hk
      have vo : E_R_versionOn e N (r : Int) (S'.1 129 12) S' = some ((v : Int), S') := by
        have := x_rvOn (e := e) (N := N) (R := S') (r := (r : Int)) (d := S'.1 129 12) (V := V) (by omega) (by rw [f4.2.2 129 17 rfl rfl]; exact k4) k5
        rw [this, f4.2.2 129 12 rfl rfl, f4.2.1 136 rfl rfl, f4.2.1 137 rfl rfl, w4]
      have key := x_rtm (e := e) (N := N) (t := x.toNat) (S := S) (R := S') (v := (v : Int)) (d0 := S.1 27 1) (r := (r : Int)) (G := G) (len := len) (D := D') (by omega) (by omega) (hR.cg (f4.2.2 129 2 rfl rfl) (f4.2.1 130 rfl rfl)) (by rw [f4.2.1 130 rfl rfl]; exact hB) z1 z3' (by omega) (fun f hf => (dv f hf).1) (by rw [hS'.2.1 129 rfl rfl]; exact r2) (by omega) (by rw [hS'.2.1 150 rfl rfl]; exact r3) ab' lk' (by rw [f4.2.2 129 12 rfl rfl]; exact hd) vo
      rw [show (fun F : Nat => lko S' (v : Int) (F : Int) (S.1 27 1) (S.1 17 7).toNat) = (fun F : Nat => lko R (v : Int) (F : Int) (S.1 27 1) (S.1 17 7).toNat) from funext (fun F => lko_cg (f4.2.1 146 rfl rfl) (f4.2.1 147 rfl rfl) (f4.2.1 148 rfl rfl) (f4.2.1 149 rfl rfl) _ _ _ _), show ((x.toNat : Nat) : Int) = x by omega] at key
      exact key
end
