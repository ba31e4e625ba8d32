section
-- fl
theorem l_rd0 {e : w_E} {N u : Nat} {ps : Int} (hN : 5000 ≤ N) (hu : u < 150) (hps : ps ≤ 3900) : ∀ (D : List Fdl) (p nf : Nat) (R : w_S), R.1 129 37 = ps → R.1 162 u = -1 → (∀ f, f ∈ D → vfd f) → byt (R.1 150) p (doc D) → ((p + (doc D).length : Nat) : Int) = ps → D.length + 50 < nf → Ok (El_R_readTitle e N nf 0 [(u : Int), (p : Int)] [] R) (fun _ R1 => Trs R u (ttl D) R1)
  | _, _, 0, _, _, _, _, _, _, h => by omega
  | [], p, nf + 1, R, hp, h2, g1, g2, g3, g4 => by
    rw [doc, List.flatMap_nil, List.length_nil] at g3
    rw [El_R_readTitle, hp]
    exact ok_t (by omega) (ok_s ⟨frm.refl _ _ _ _, fun _ _ => rfl, fun _ _ => rfl, fun _ => h2, fun a ha => by cases ha⟩)
  | f :: D, p, nf + 1, R, hp, h2, g1, g2, g3, g4 => by
    rw [List.length_cons] at g4
    have fv := g1 f List.mem_cons_self
    have sl := ser_len f
    have t1 := fv.1
    have t2 := fv.2.1
    rw [doc, List.flatMap_cons] at g2 g3
    rw [byt_app] at g2
    rw [List.length_append] at g3
    have fa : Fat R 150 4000 p f := ⟨rfl, by decide, g2.1, by omega, fv⟩
    have tgl := fa.1
    obtain ⟨b0, b1, b2, b3⟩ := fa.tag
    have fe := x_fieldEnd (e := e) (N := N) (by omega) fa
    have nxe : ttl (f :: D) = ttl D → Ok ((E_R_fieldEnd e N (p : Int) 150 R).bind (fun q1126 => (if w_nb (q1126.1 + 1) = true then El_R_readTitle e N nf 0 [(u : Int), q1126.1 + 1] [] q1126.2 else none))) (fun _ R1 => Trs R u (ttl (f :: D)) R1) := by
      intro w
      refine ok_b (ok_of fe (ok_nb (by omega) ?_))
      dsimp only
      rw [show ((p + (fbd f).length + 4 : Nat) : Int) + 1 = ((p + (ser f).length : Nat) : Int) by omega, w]
      exact l_rd0 hN hu hps D (p + (ser f).length) nf R hp h2 (fun g hg => g1 g (List.mem_cons_of_mem _ hg)) g2.2 (by rw [doc]; omega) (by omega)
    rw [El_R_readTitle, hp, show ((u : Int)).toNat = u by omega, h2]
    refine ok_e (by omega) (ok_ib (by omega) (ok_e (by decide) (ok_b (ok_of fe ?_))))
    dsimp only
    rw [show ((p : Int)).toNat = p by omega, show ((p : Int) + 1).toNat = p + 1 by omega, show ((p : Int) + 2).toNat = p + 2 by omega, b0, b1, b2]
    (refine ok_len tgl ?_); (with_reducible refine ok_t (by omega) ?_); (with_reducible refine ok_t (by omega) (ok_nb (by omega) (ok_nb (by omega) (ok_nb (by omega) ?_)))); (refine ok_len tgl ?_); (with_reducible refine ok_t (by omega) ?_); (with_reducible refine ok_t (by omega) (ok_nb (by omega) (ok_nb (by omega) (ok_nb (by omega) (ok_nb (by omega) ?_))))); (refine ok_len tgl ?_); (with_reducible refine ok_t (by omega) ?_); (with_reducible refine ok_t (by omega) (ok_nb (by omega) (ok_nb (by omega) ?_)))
    rw [show 100 * (48 + f.1 / 100 - 48) + 10 * (48 + f.1 / 10 % 10 - 48) + (48 + f.1 % 10) - 48 = f.1 by omega]
    by_cases c1 : f.1 = 245
    rotate_left
    · refine ok_t c1 (nxe ?_)
      rw [ttl, if_neg (fun z => c1 z.1)]
    refine ok_e (fun w => w c1) ?_
    obtain ⟨z, z1, z2⟩ := x_aRow (e := e) (N := N) (by omega) (by omega) fa
    refine ok_b (ok_of z1 ?_)
    dsimp only
    rcases z2 with ⟨w1, w2⟩ | ⟨k, s, w1, w2, w3, w4, w5, w6, w7⟩
    · refine ok_e (by omega) (nxe ?_)
      rw [ttl, if_neg (fun z => z.2 w1)]
    · subst w1
      have s40 := w4.2.1
      have s1 := w4.1
      have tt : ttl (f :: D) = some (s.drop (nfc f)) := by
        rw [ttl, if_pos ⟨c1, by rw [w3]; exact fun z => by cases z⟩, w3]
        rfl
      have i2 : R.1 150 (p + 5) = f.2.2.1 := by
        have := ((byt_app (fbd f) [10] (p + 4)).1 b3).1
        unfold fbd at this
        rw [if_neg w2] at this
        exact this.2.1
      have n9 : nfc f ≤ 9 := by
        unfold nfc
        split <;> omega
      have sd : (s.drop (nfc f)).length = s.length - nfc f := List.length_drop
      -- the title is laid down
      have lay : ∀ (n' : Nat) (m : Int), nf = n' → m = ((s.drop (nfc f)).length : Nat) → Ok (El_R_readTitle e N n' 1 [(u : Int), (p : Int), ((p + 6 + k + 2 + nfc f : Nat) : Int), 0] [] (w_put R 162 u m)) (fun _ R1 => Trs R u (ttl (f :: D)) R1) := by
        intro n' m hn' hm
        subst hn' hm
        generalize hR : w_put R 162 u (((s.drop (nfc f)).length : Nat) : Int) = R1
        have f1 : frm [161, 162] [] [] R R1 := by
          rw [← hR]
          repeat (first | exact frm.refl _ _ _ _ | refine frm.put ?_ rfl | refine frm.puto ?_ rfl rfl)
        have a1 : ∀ j, R1.1 162 j = if j = u then (((s.drop (nfc f)).length : Nat) : Int) else R.1 162 j := fun j => by
          rw [← hR]
          show pt (R.1 162) _ _ j = _
          rw [pt_at]
        have a61 : R1.1 161 = R.1 161 := by
          rw [← hR]
          rfl
        have fa1 : Fat R1 150 4000 p f := by
          unfold Fat at fa ⊢
          rw [f1.2.1 150 rfl rfl]
          exact ⟨rfl, fa.2⟩
        have hby : byt (R1.1 150) (p + 6 + k + 2 + nfc f + ([] : List Int).length) (s.drop (nfc f)) := by
          rw [f1.2.1 150 rfl rfl, List.length_nil, Nat.add_zero]
          by_cases c : nfc f ≤ s.length
          · exact byt_drop w5 c
          · rw [List.drop_of_length_le (by omega)]
            trivial
        refine l_rd1 (e := e) (x5 := p + 6 + k + 2 + nfc f) hN hu (s.drop (nfc f)) [] nf R1 fa1 (by rw [a1, if_pos rfl, List.length_nil, Nat.zero_add]) hby trivial (by rw [List.length_nil]; omega) (by rw [List.length_nil]; omega) (fun b hb => ?_) (by omega) (fun n' R' hn' k1 k2 k3 => ?_)
        · rw [List.nil_append] at hb
          exact vrow_b w4 b (List.mem_of_mem_drop hb)
        · rw [List.nil_append] at k3
          have fin : Trs R u (ttl (f :: D)) R' := by
            refine ⟨f1.trans (k1.weak (by decide)), fun c hc => ?_, fun j hj => ?_, fun z => (by rw [tt] at z; cases z), fun a ha => ?_⟩
            · rw [k1.2.1 162 rfl rfl, a1, if_neg hc]
            · rw [k2 j hj, a61]
            · rw [tt, Option.some.injEq] at ha
              rw [← ha]
              exact k3
          cases n' with
          | zero => omega
          | succ n' =>
            rw [El_R_readTitle, show ((u : Int)).toNat = u by omega, k3.1]
            by_cases c : R'.1 129 37 ≤ ((p + (ser f).length : Nat) : Int)
            · exact ok_t c (ok_s fin)
            · exact ok_e c (ok_ib (by omega) (ok_t (by omega) (ok_s fin)))
      refine ok_t (by omega) (ok_nb (by omega) (ok_nb (by omega) (ok_ib (by omega) ?_)))
      rw [show ((p : Int) + 5).toNat = p + 5 by omega, i2]
      have go : ∀ x : Int, x = (nfc f : Nat) → Ok (if w_nb (((((p + 6 + k : Nat) : Int) + 2)) + x) = true then ((E_R_rowEnd e N ((((p + 6 + k : Nat) : Int) + 2)) ((p + (fbd f).length + 4 : Nat) : Int) 150 R).bind (fun q1128 => (if q1128.1 ≤ (((((p + 6 + k : Nat) : Int) + 2)) + x) then El_R_readTitle e N nf 1 [(u : Int), (p : Int), ((((p + 6 + k : Nat) : Int) + 2)) + x, 0] [] (w_put q1128.2 162 u 0) else (if w_nb (q1128.1 - (((((p + 6 + k : Nat) : Int) + 2)) + x)) = true then El_R_readTitle e N nf 1 [(u : Int), (p : Int), ((((p + 6 + k : Nat) : Int) + 2)) + x, 0] [] (w_put q1128.2 162 u (q1128.1 - (((((p + 6 + k : Nat) : Int) + 2)) + x))) else none)))) else none) (fun _ R1 => Trs R u (ttl (f :: D)) R1) := by
        intro x hx
        subst hx
        refine ok_nb (by omega) (ok_b (ok_of w7 ?_))
        dsimp only
        rw [show ((p + 6 + k : Nat) : Int) + 2 + (nfc f : Nat) = ((p + 6 + k + 2 + nfc f : Nat) : Int) by omega]
        by_cases c : s.length ≤ nfc f
        · exact ok_t (by omega) (lay nf 0 rfl (by omega))
        · exact ok_e (by omega) (ok_nb (by omega) (lay nf _ rfl (by omega)))
      have nf0 : ¬ (48 ≤ f.2.2.1 ∧ f.2.2.1 ≤ 57) → (0 : Int) = (nfc f : Nat) := fun q => by
        unfold nfc
        rw [if_neg q]
        rfl
      have nf1 : (48 ≤ f.2.2.1 ∧ f.2.2.1 ≤ 57) → f.2.2.1 - 48 = (nfc f : Nat) := fun q => by
        unfold nfc
        rw [if_pos q]
        omega
      by_cases d1 : f.2.2.1 < 48
      · exact ok_t d1 (go 0 (nf0 (by omega)))
      refine ok_e d1 ?_
      by_cases d2 : 57 < f.2.2.1
      · exact ok_t d2 (go 0 (nf0 (by omega)))
      · exact ok_e d2 (ok_nb (by omega) (go (f.2.2.1 - 48) (nf1 (by omega))))
end
section
-- fm
theorem x_rdt {e : w_E} {N u : Nat} {R : w_S} {D : List Fdl} (hN : 5000 ≤ N) (hu : u < 150) (hD : D.length ≤ 12) (hp : R.1 129 37 = ((doc D).length : Nat)) (hps : (doc D).length ≤ 3900) (hv : ∀ f, f ∈ D → vfd f) (hb : byt (R.1 150) 0 (doc D)) : Ok (E_R_readTitle e N (u : Int) R) (fun _ R1 => Trs R u (ttl D) R1) := by
  unfold E_R_readTitle
  rw [show ((u : Int)).toNat = u by omega]
  generalize hR : w_put R 162 u (-1) = R1
  have f1 : frm [161, 162] [] [] R R1 := by
    rw [← hR]
    repeat (first | exact frm.refl _ _ _ _ | refine frm.put ?_ rfl | refine frm.puto ?_ rfl rfl)
  have a1 : ∀ j, R1.1 162 j = if j = u then -1 else R.1 162 j := fun j => by
    rw [← hR]
    show pt (R.1 162) _ _ j = _
    rw [pt_at]
  have a61 : R1.1 161 = R.1 161 := by
    rw [← hR]
    rfl
  refine ok_ib (by omega) ((l_rd0 (e := e) (N := N) (ps := ((doc D).length : Nat)) hN hu (by omega) D 0 N R1 (by rw [f1.2.1 129 rfl rfl]; exact hp) (by rw [a1, if_pos rfl]) hv (by rw [f1.2.1 150 rfl rfl]; exact hb) (by omega) (by omega)).mono ?_)
  intro _ R2 ⟨z1, z2, z3, z4, z5⟩
  refine ⟨f1.trans z1, fun c hc => ?_, fun j hj => ?_, z4, z5⟩
  · rw [z2 c hc, a1, if_neg hc]
  · rw [z3 j hj, a61]
/-- a title as the class points at it -/
def Tcl (t2 : Nat → Int) (o : Option (List Int)) (x3 x4 : Int) : Prop := (o = none → x3 = -1) ∧ ∀ a, o = some a → ∃ p : Nat, x3 = (p : Nat) ∧ x4 = ((p + a.length : Nat) : Int) ∧ byt t2 p a ∧ p + a.length ≤ 10240 ∧ a.length ≤ 40 ∧ ∀ b, b ∈ a → 0 ≤ b ∧ b ≤ 127
theorem byt_of2 {g : Nat → Int} : ∀ {l : List Int} {p : Nat}, (∀ k, k < l.length → g (p + k) = l.getD k 0) → byt g p l
  | [], _, _ => trivial
  | b :: l, p, h => by
    refine ⟨?_, byt_of2 (fun k hk => ?_)⟩
    · have := h 0 (by rw [List.length_cons]; omega)
      rw [List.getD_cons_zero, Nat.add_zero] at this
      exact this
    · have := h (k + 1) (by rw [List.length_cons]; omega)
      rw [List.getD_cons_succ] at this
      rw [← this, show p + 1 + k = p + (k + 1) by omega]
/-- the class looks for a record's title, from the last field on -/
theorem l_fr0 {e : w_E} {N : Nat} {S : w_S} {x1 top : Int} {D : List Fdl} {P : Int → w_S → Prop} (hN : 1000 ≤ N) (htop : top ≤ 10240) (hD : Dr S (S.1 2) top D) (hDl : D.length ≤ 12) (hv : ∀ f, f ∈ D → vfd f ∧ f.2.2.2.length ≤ 5) (K : ∀ n' x3 x4, N ≤ n' + 14 → Tcl (S.1 2) (ttl D) x3 x4 → Ok (El_Desk_fileRecord e N n' 1 [x1, x3, x4, S.1 106 4] [] S) P) : ∀ (F nf : Nat) (x3 x4 : Int), F ≤ D.length → N + F ≤ nf + D.length → Tcl (S.1 2) (ttl (D.drop F)) x3 x4 → Ok (El_Desk_fileRecord e N nf 0 [x1, x3, x4, (F : Int) - 1] [] S) P
  | _, 0, _, _, _, h, _ => by omega
  | 0, nf + 1, x3, x4, g1, g2, g3 => by
    rw [El_Desk_fileRecord]
    rw [List.drop_zero] at g3
    exact ok_t (by omega) (K nf x3 x4 (by omega) g3)
  | F + 1, nf + 1, x3, x4, g1, g2, g3 => by
    have dF := hD.2 F (by omega)
    have mem := memD (l := D) (i := F) (d := (0, 0, 0, [])) (by omega)
    have dd : D.drop F = D.getD F (0, 0, 0, []) :: D.drop (F + 1) := drop_cons (by omega)
    obtain ⟨fv, f5⟩ := hv _ mem
    have ih := l_fr0 hN htop hD hDl hv K F nf
    generalize hf : D.getD F (0, 0, 0, []) = f at *
    obtain ⟨z, z1, z2⟩ := x_slot2 (e := e) (N := N) (c := 97) hN (show F < 20 by omega) (by omega) dF
    obtain ⟨d1, d2, d3, d4, d5⟩ := dF
    rw [El_Desk_fileRecord, show ((F + 1 : Nat) : Int) - 1 = (F : Int) by omega]
    refine ok_e (by omega) (ok_b (ok_of z1 ?_))
    dsimp only
    rw [show ((F : Int)).toNat = F by omega, d1, d3]
    have skip : ttl (D.drop F) = ttl (D.drop (F + 1)) → Ok (if w_nb ((F : Int) + (-1)) = true then El_Desk_fileRecord e N nf 0 [x1, x3, x4, (F : Int) + (-1)] [] S else none) P := fun w => by
      refine ok_nb (by omega) ?_
      rw [show (F : Int) + (-1) = (F : Int) - 1 by omega]
      exact ih x3 x4 (by omega) (by omega) (by rw [w]; exact g3)
    refine ok_ib (by omega) ?_
    by_cases c1 : f.1 = 245
    rotate_left
    · refine ok_t c1 (skip ?_)
      rw [dd, ttl, if_neg (fun w => c1 w.1)]
    refine ok_e (fun w => w c1) ?_
    rcases z2 with ⟨w1, w2⟩ | ⟨k, w1, w2⟩
    · refine ok_t w2 (skip ?_)
      rw [dd, ttl, if_neg (fun w => w.2 (by unfold far; rw [w1]; rfl))]
    · have kl := fsi_lt w1
      obtain ⟨_, A, a1, a2, a3⟩ := d5 k kl
      have sv := fv.2.2.1 _ (memD (d := (0, [])) kl)
      have fr : far f = some (f.2.2.2.getD k (0, [])).2 := by
        unfold far
        rw [w1]
        rfl
      generalize (f.2.2.2.getD k (0, [])).2 = s at *
      have s40 := sv.2.1
      have tt : ttl (D.drop F) = some (s.drop (nfc f)) := by
        rw [dd, ttl, if_pos ⟨c1, by rw [fr]; exact fun w => by cases w⟩, fr]
        rfl
      have sd : (s.drop (nfc f)).length = s.length - nfc f := List.length_drop
      obtain ⟨r1, r2⟩ := and63_row (p := A) (n := s.length) (by omega) (by omega)
      have i2 := (fv.2.2.2.2 (by omega)).2.1
      have hby : byt (S.1 2) A s := byt_of2 a3
      subst w2
      rw [show (((13 * F + k : Nat) : Int)).toNat = 13 * F + k by omega, a1, r1, r2]
      have go : ∀ x : Int, x = (nfc f : Nat) → Ok (if w_ib ((13 * F + k : Nat) : Int) 260 = true then (if w_nb (((A : Nat) : Int) + ((s.length : Nat) : Int)) = true then (if w_nb (((A : Nat) : Int) + x) = true then (if w_nb ((F : Int) + (-1)) = true then El_Desk_fileRecord e N nf 0 [x1, min (((A : Nat) : Int) + ((s.length : Nat) : Int)) (((A : Nat) : Int) + x), ((A : Nat) : Int) + ((s.length : Nat) : Int), (F : Int) + (-1)] [] S else none) else none) else none) else none) P := by
        intro x hx
        subst hx
        have n9 : nfc f ≤ 9 := by
          unfold nfc
          split <;> omega
        refine ok_ib (by omega) (ok_nb (by omega) (ok_nb (by omega) (ok_nb (by omega) ?_)))
        rw [show (F : Int) + (-1) = (F : Int) - 1 by omega]
        refine ih _ _ (by omega) (by omega) ?_
        rw [tt]
        refine ⟨fun w => (by cases w), fun a ha => ?_⟩
        rw [Option.some.injEq] at ha
        subst ha
        by_cases c : nfc f ≤ s.length
        · exact ⟨A + nfc f, by omega, by omega, byt_drop hby c, by omega, by omega, fun b hb => vrow_b sv b (List.mem_of_mem_drop hb)⟩
        · exact ⟨A + s.length, by omega, by omega, by rw [List.drop_of_length_le (by omega)]; trivial, by omega, by omega, fun b hb => vrow_b sv b (List.mem_of_mem_drop hb)⟩
      refine ok_e (by omega) ?_
      unfold inb at i2
      simp only [Bool.or_eq_true, Bool.and_eq_true, decide_eq_true_eq] at i2
      by_cases c3 : f.2.2.1 = 32
      · refine ok_e (fun w => w c3) (go 0 ?_)
        unfold nfc
        rw [if_neg (by omega)]
        rfl
      · refine ok_t c3 (ok_nb (by omega) (go (f.2.2.1 - 48) ?_))
        unfold nfc
        rw [if_pos (by omega)]
        omega
end
section
-- fn
/-- a record found, with its title -/
abbrev Fo : Type := Nat × Option (List Int)
abbrev fo0 : Fo := (0, none)
def cmpO : Option (List Int) → Option (List Int) → Int
  | none, none => 0
  | none, some _ => 1
  | some _, none => -1
  | some a, some b => cmpT 41 a b
/-- found records as the class keeps them from a place on -/
def Hcl (S : w_S) (p : Nat) (l : List Fo) : Prop := ∀ i, i < l.length → S.1 108 (p + i) = (((l.getD i fo0).1 : Nat) : Int) ∧ Tcl (S.1 2) (l.getD i fo0).2 (S.1 109 (p + i)) (S.1 110 (p + i))
/-- the same in the reference -/
def Hr1 (R : w_S) (k : Nat) (x : Fo) : Prop := R.1 160 k = ((x.1 : Nat) : Int) ∧ (x.2 = none → R.1 162 k = -1) ∧ ∀ a, x.2 = some a → Ttl R k a
def Hrl (R : w_S) (p : Nat) (l : List Fo) : Prop := ∀ i, i < l.length → Hr1 R (p + i) (l.getD i fo0)
/-- a record is laid into its place among those before (last first) and those behind -/
def insl (x : Fo) : List Fo → List Fo → List Fo
  | [], T => x :: T
  | y :: V, T => if 0 ≤ cmpO x.2 y.2 then (y :: V).reverse ++ x :: T else insl x V (y :: T)
theorem insl_len (x : Fo) : ∀ (V T : List Fo), (insl x V T).length = V.length + T.length + 1
  | [], T => by
    rw [insl, List.length_cons, List.length_nil]
    omega
  | y :: V, T => by
    rw [insl]
    split
    · rw [List.length_append, List.length_reverse, List.length_cons, List.length_cons]
      omega
    · rw [insl_len x V (y :: T), List.length_cons, List.length_cons]
      omega
theorem insl_mem {x z : Fo} : ∀ {V T : List Fo}, z ∈ insl x V T → z = x ∨ z ∈ V ∨ z ∈ T
  | [], T, h => by
    rw [insl] at h
    rcases List.mem_cons.1 h with h | h
    · exact Or.inl h
    · exact Or.inr (Or.inr h)
  | y :: V, T, h => by
    rw [insl] at h
    split at h
    · rcases List.mem_append.1 h with h | h
      · exact Or.inr (Or.inl (List.mem_reverse.1 h))
      · rcases List.mem_cons.1 h with h | h
        · exact Or.inl h
        · exact Or.inr (Or.inr h)
    · rcases insl_mem h with h | h | h
      · exact Or.inl h
      · exact Or.inr (Or.inl (List.mem_cons_of_mem _ h))
      · rcases List.mem_cons.1 h with h | h
        · rw [h]
          exact Or.inr (Or.inl List.mem_cons_self)
        · exact Or.inr (Or.inr h)
theorem Hcl.cons {S : w_S} {p : Nat} {x : Fo} {l : List Fo} : Hcl S p (x :: l) ↔ (S.1 108 p = ((x.1 : Nat) : Int) ∧ Tcl (S.1 2) x.2 (S.1 109 p) (S.1 110 p)) ∧ Hcl S (p + 1) l := by
  constructor
  · intro h
    refine ⟨h 0 (by rw [List.length_cons]; omega), fun i hi => ?_⟩
    have := h (i + 1) (by rw [List.length_cons]; omega)
    rw [List.getD_cons_succ, show p + (i + 1) = p + 1 + i by omega] at this
    exact this
  · intro ⟨h1, h2⟩ i hi
    cases i with
    | zero => exact h1
    | succ i =>
      rw [List.getD_cons_succ, show p + (i + 1) = p + 1 + i by omega]
      exact h2 i (by rw [List.length_cons] at hi; omega)
theorem Hcl.app {S : w_S} : ∀ {l m : List Fo} {p : Nat}, Hcl S p (l ++ m) ↔ Hcl S p l ∧ Hcl S (p + l.length) m
  | [], m, p => by
    rw [List.nil_append, List.length_nil, Nat.add_zero]
    exact ⟨fun h => ⟨fun i hi => by rw [List.length_nil] at hi; omega, h⟩, fun h => h.2⟩
  | x :: l, m, p => by
    rw [List.cons_append, Hcl.cons, Hcl.cons, Hcl.app, List.length_cons, show p + (l.length + 1) = p + 1 + l.length by omega]
    exact ⟨fun ⟨a, b, c⟩ => ⟨⟨a, b⟩, c⟩, fun ⟨⟨a, b⟩, c⟩ => ⟨a, b, c⟩⟩
theorem Hcl.cg {S S1 : w_S} {p : Nat} {l : List Fo} (h : Hcl S p l) (h2 : S1.1 2 = S.1 2) (a : ∀ k, p ≤ k → k < p + l.length → S1.1 108 k = S.1 108 k ∧ S1.1 109 k = S.1 109 k ∧ S1.1 110 k = S.1 110 k) : Hcl S1 p l := fun i hi => by
  obtain ⟨a1, a2, a3⟩ := a (p + i) (by omega) (by omega)
  rw [h2, a1, a2, a3]
  exact h i hi
theorem Hrl.cons {R : w_S} {p : Nat} {x : Fo} {l : List Fo} : Hrl R p (x :: l) ↔ Hr1 R p x ∧ Hrl R (p + 1) l := by
  constructor
  · intro h
    refine ⟨h 0 (by rw [List.length_cons]; omega), fun i hi => ?_⟩
    have := h (i + 1) (by rw [List.length_cons]; omega)
    rw [List.getD_cons_succ, show p + (i + 1) = p + 1 + i by omega] at this
    exact this
  · intro ⟨h1, h2⟩ i hi
    cases i with
    | zero => exact h1
    | succ i =>
      rw [List.getD_cons_succ, show p + (i + 1) = p + 1 + i by omega]
      exact h2 i (by rw [List.length_cons] at hi; omega)
theorem Hrl.app {R : w_S} : ∀ {l m : List Fo} {p : Nat}, Hrl R p (l ++ m) ↔ Hrl R p l ∧ Hrl R (p + l.length) m
  | [], m, p => by
    rw [List.nil_append, List.length_nil, Nat.add_zero]
    exact ⟨fun h => ⟨fun i hi => by rw [List.length_nil] at hi; omega, h⟩, fun h => h.2⟩
  | x :: l, m, p => by
    rw [List.cons_append, Hrl.cons, Hrl.cons, Hrl.app, List.length_cons, show p + (l.length + 1) = p + 1 + l.length by omega, and_assoc]
/-- the class compares two titles, none being last -/
theorem x_cct {e : w_E} {N : Nat} {S : w_S} {o1 o2 : Option (List Int)} {x1 x2 x3 x4 : Int} (hN : 30000 ≤ N) (h1 : Tcl (S.1 2) o1 x1 x2) (h2 : Tcl (S.1 2) o2 x3 x4) : Ok (E_Desk_compareTitles e N x1 x2 x3 x4 S) (fun y S1 => sg y = cmpO o1 o2 ∧ S1 = S) := by
  unfold E_Desk_compareTitles
  cases o1 with
  | none =>
    refine ok_t (h1.1 rfl) ?_
    cases o2 with
    | none => exact ok_e (fun z => z (h2.1 rfl)) (ok_s ⟨rfl, rfl⟩)
    | some b =>
      obtain ⟨p, p1, _⟩ := h2.2 b rfl
      exact ok_t (by omega) (ok_s ⟨rfl, rfl⟩)
  | some a =>
    obtain ⟨p, p1, p2, p3, p4, p5, p6⟩ := h1.2 a rfl
    refine ok_e (by omega) ?_
    cases o2 with
    | none => exact ok_e (fun z => z (h2.1 rfl)) (ok_s ⟨rfl, rfl⟩)
    | some b =>
      obtain ⟨q, q1, q2, q3, q4, q5, q6⟩ := h2.2 b rfl
      refine ok_t (by omega) ?_
      rw [p1, p2, q1, q2]
      exact l_ct hN 41 0 N a b p q (by omega) (by omega) p3 q3 p6 q6 p4 q4
/-- the class lays a record found into its place -/
theorem l_fr1 {e : w_E} {N : Nat} {x : Fo} {x3 x4 : Int} {n : Nat} (hN : 30000 ≤ N) (hn : n < 150) : ∀ (V T : List Fo) (nf : Nat) (S : w_S), V.length + T.length = n → S.1 106 4 = (n : Nat) → Tcl (S.1 2) x.2 x3 x4 → Hcl S 0 V.reverse → Hcl S (V.length + 1) T → V.length < nf → Ok (El_Desk_fileRecord e N nf 1 [((x.1 : Nat) : Int), x3, x4, ((V.length : Nat) : Int)] [] S) (fun _ S1 => frm [108, 109, 110] [106] [(106, 4)] S S1 ∧ S1.1 106 4 = ((n + 1 : Nat) : Int) ∧ Hcl S1 0 (insl x V T))
  | _, _, 0, _, _, _, _, _, _, h => by omega
  | V, T, nf + 1, S, g1, g2, g3, g4, g5, g6 => by
    -- put down here
    have put : ∀ (A B : List Fo), A ++ B = V.reverse ++ x :: T → A = V.reverse → Ok (if w_ib ((V.length : Nat) : Int) 150 = true then (if w_nb ((S.1 106 4) + 1) = true then some (0, (w_put (w_put (w_put (w_put S 108 (((V.length : Nat) : Int)).toNat ((x.1 : Nat) : Int)) 109 (((V.length : Nat) : Int)).toNat x3) 110 (((V.length : Nat) : Int)).toNat x4) 106 4 ((S.1 106 4) + 1))) else none) else none) (fun _ S1 => frm [108, 109, 110] [106] [(106, 4)] S S1 ∧ S1.1 106 4 = ((n + 1 : Nat) : Int) ∧ Hcl S1 0 (V.reverse ++ x :: T)) := by
      intro A B _ _
      rw [g2, show (((V.length : Nat) : Int)).toNat = V.length by omega]
      refine ok_ib (by omega) (ok_nb (by omega) (ok_s ?_))
      generalize hS : w_put (w_put (w_put (w_put S 108 V.length ((x.1 : Nat) : Int)) 109 V.length x3) 110 V.length x4) 106 4 (((n : Nat) : Int) + 1) = S1
      have f1 : frm [108, 109, 110] [106] [(106, 4)] S S1 := by
        rw [← hS]
        repeat (first | exact frm.refl _ _ _ _ | refine frm.put ?_ rfl | refine frm.puto ?_ rfl rfl)
      have a8 : ∀ k, S1.1 108 k = if k = V.length then ((x.1 : Nat) : Int) else S.1 108 k := fun k => by
        rw [← hS]
        show pt (S.1 108) _ _ k = _
        rw [pt_at]
      have a9 : ∀ k, S1.1 109 k = if k = V.length then x3 else S.1 109 k := fun k => by
        rw [← hS]
        show pt (S.1 109) _ _ k = _
        rw [pt_at]
      have a10 : ∀ k, S1.1 110 k = if k = V.length then x4 else S.1 110 k := fun k => by
        rw [← hS]
        show pt (S.1 110) _ _ k = _
        rw [pt_at]
      have t2 : S1.1 2 = S.1 2 := f1.2.1 2 rfl rfl
      refine ⟨f1, by rw [← hS]; simp only [w_put_r, reduceIte, Nat.reduceEqDiff, pt_at]; omega, ?_⟩
      rw [Hcl.app, List.length_reverse, Nat.zero_add, Hcl.cons]
      refine ⟨g4.cg t2 (fun k k1 k2 => ?_), ⟨?_, ?_⟩, g5.cg t2 (fun k k1 k2 => ?_)⟩
      · rw [List.length_reverse] at k2
        rw [a8, a9, a10, if_neg (by omega), if_neg (by omega), if_neg (by omega)]
        exact ⟨rfl, rfl, rfl⟩
      · rw [a8, if_pos rfl]
      · rw [t2, a9, a10, if_pos rfl, if_pos rfl]
        exact g3
      · rw [a8, a9, a10, if_neg (by omega), if_neg (by omega), if_neg (by omega)]
        exact ⟨rfl, rfl, rfl⟩
    cases V with
    | nil =>
      rw [El_Desk_fileRecord, insl]
      exact ok_t (by rw [List.length_nil]; omega) (put [] (x :: T) rfl rfl)
    | cons y V =>
      have lv : (y :: V).length = V.length + 1 := List.length_cons
      have g4' := g4
      rw [List.reverse_cons, Hcl.app, List.length_reverse, Nat.zero_add, Hcl.cons] at g4'
      obtain ⟨v1, ⟨v2, v3⟩, _⟩ := g4'
      rw [El_Desk_fileRecord, show (((y :: V).length : Int) - 1).toNat = V.length by omega]
      refine ok_e (by omega) (ok_nb (by omega) (ok_ib (by omega) (ok_b ((x_cct (e := e) (N := N) hN g3 v3).mono ?_))))
      intro z S0 ⟨z1, z2⟩
      subst z2
      dsimp only
      rw [insl]
      have zz := sg_0 z
      by_cases c : 0 ≤ z
      · rw [if_pos (show 0 ≤ cmpO x.2 y.2 by
          rw [← z1]
          unfold sg
          split
          · omega
          · split <;> omega)]
        exact ok_t c (put (y :: V).reverse (x :: T) rfl rfl)
      · rw [if_neg (show ¬ 0 ≤ cmpO x.2 y.2 by
          rw [← z1, zz.2.1.2 (by omega)]
          omega)]
        refine ok_e c (ok_ib (by omega) (ok_nb (by omega) ?_))
        rw [show (((y :: V).length : Nat) : Int).toNat = V.length + 1 by omega, v2, show (((y :: V).length : Nat) : Int) + (-1) = ((V.length : Nat) : Int) by omega]
        generalize hS : w_put (w_put (w_put S0 108 (V.length + 1) ((y.1 : Nat) : Int)) 109 (V.length + 1) (S0.1 109 V.length)) 110 (V.length + 1) (S0.1 110 V.length) = S1
        have f1 : frm [108, 109, 110] [106] [(106, 4)] S0 S1 := by
          rw [← hS]
          repeat (first | exact frm.refl _ _ _ _ | refine frm.put ?_ rfl | refine frm.puto ?_ rfl rfl)
        have a8 : ∀ k, S1.1 108 k = if k = V.length + 1 then ((y.1 : Nat) : Int) else S0.1 108 k := fun k => by
          rw [← hS]
          show pt (S0.1 108) _ _ k = _
          rw [pt_at]
        have a9 : ∀ k, S1.1 109 k = if k = V.length + 1 then S0.1 109 V.length else S0.1 109 k := fun k => by
          rw [← hS]
          show pt (S0.1 109) _ _ k = _
          rw [pt_at]
        have a10 : ∀ k, S1.1 110 k = if k = V.length + 1 then S0.1 110 V.length else S0.1 110 k := fun k => by
          rw [← hS]
          show pt (S0.1 110) _ _ k = _
          rw [pt_at]
        have t2 : S1.1 2 = S0.1 2 := f1.2.1 2 rfl rfl
        have t6 : S1.1 106 4 = S0.1 106 4 := by
          rw [← hS]
          rfl
        have ih := l_fr1 (e := e) (N := N) (x := x) (x3 := x3) (x4 := x4) hN hn V (y :: T) nf S1 (by rw [List.length_cons]; omega) (by rw [t6]; exact g2) (by rw [t2]; exact g3) (v1.cg t2 (fun k k1 k2 => by
          rw [List.length_reverse] at k2
          rw [a8, a9, a10, if_neg (by omega), if_neg (by omega), if_neg (by omega)]
          exact ⟨rfl, rfl, rfl⟩)) (by
          rw [Hcl.cons, a8, a9, a10, if_pos rfl, if_pos rfl, if_pos rfl, t2]
          refine ⟨⟨rfl, v3⟩, g5.cg t2 (fun k k1 k2 => ?_)⟩
          rw [a8, a9, a10, if_neg (by omega), if_neg (by omega), if_neg (by omega)]
          exact ⟨rfl, rfl, rfl⟩) (by omega)
        exact ih.mono (fun _ S2 ⟨y1, y2, y3⟩ => ⟨f1.trans y1, y2, y3⟩)
end
section
-- fo
theorem l_swp {e : w_E} {N u w : Nat} (hu : u < 150) (hw : w < 150) (huw : w < u) : ∀ (m i nf : Nat) (S : w_S), i + m = 40 → m < nf → Ok (El_R_swapFound e N nf 0 [(u : Int), (w : Int), (i : Int)] [] S) (fun _ S1 => frm [161] [] [] S S1 ∧ ∀ q, S1.1 161 q = if 40 * u + i ≤ q ∧ q < 40 * u + 40 then w_b (S.1 161 (q - 40 * u + 40 * w)) else if 40 * w + i ≤ q ∧ q < 40 * w + 40 then w_b (S.1 161 (q - 40 * w + 40 * u)) else S.1 161 q)
  | _, _, 0, _, _, h => by omega
  | 0, i, nf + 1, S, g1, g2 => by
    rw [El_R_swapFound]
    refine ok_t (by omega) (ok_s ⟨frm.refl _ _ _ _, fun q => ?_⟩)
    rw [if_neg (by omega), if_neg (by omega)]
  | m + 1, i, nf + 1, S, g1, g2 => by
    rw [El_R_swapFound, show (40 * (u : Int) + (i : Int)).toNat = 40 * u + i by omega, show (40 * (w : Int) + (i : Int)).toNat = 40 * w + i by omega]
    refine ok_e (by omega) (ok_nb (by omega) (ok_nb (by omega) (ok_ib (by omega) (ok_nb (by omega) (ok_nb (by omega) (ok_ib (by omega) (ok_nb (by omega) ?_)))))))
    generalize hS : w_put (w_put S 161 (40 * u + i) (w_b (S.1 161 (40 * w + i)))) 161 (40 * w + i) (w_b (S.1 161 (40 * u + i))) = S1
    have f1 : frm [161] [] [] S S1 := by
      rw [← hS]
      repeat (first | exact frm.refl _ _ _ _ | refine frm.put ?_ rfl | refine frm.puto ?_ rfl rfl)
    have a1 : ∀ q, S1.1 161 q = if q = 40 * w + i then w_b (S.1 161 (40 * u + i)) else if q = 40 * u + i then w_b (S.1 161 (40 * w + i)) else S.1 161 q := fun q => by
      rw [← hS]
      show pt (pt (S.1 161) _ _) _ _ q = _
      rw [pt_at, pt_at]
    rw [show (i : Int) + 1 = ((i + 1 : Nat) : Int) by omega]
    refine (l_swp (e := e) (N := N) hu hw huw m (i + 1) nf S1 (by omega) (by omega)).mono ?_
    intro _ S2 ⟨z1, z2⟩
    refine ⟨f1.trans z1, fun q => ?_⟩
    rw [z2 q]
    by_cases c1 : q = 40 * u + i
    · rw [if_neg (show ¬ (40 * u + (i + 1) ≤ q ∧ q < 40 * u + 40) by omega), if_neg (show ¬ (40 * w + (i + 1) ≤ q ∧ q < 40 * w + 40) by omega), if_pos (show 40 * u + i ≤ q ∧ q < 40 * u + 40 by omega), a1, if_neg (by omega), if_pos c1, show q - 40 * u + 40 * w = 40 * w + i by omega]
    by_cases c2 : q = 40 * w + i
    · rw [if_neg (show ¬ (40 * u + (i + 1) ≤ q ∧ q < 40 * u + 40) by omega), if_neg (show ¬ (40 * w + (i + 1) ≤ q ∧ q < 40 * w + 40) by omega), if_neg (show ¬ (40 * u + i ≤ q ∧ q < 40 * u + 40) by omega), if_pos (show 40 * w + i ≤ q ∧ q < 40 * w + 40 by omega), a1, if_pos c2, show q - 40 * w + 40 * u = 40 * u + i by omega]
    by_cases c3 : 40 * u + i ≤ q ∧ q < 40 * u + 40
    · rw [if_pos (show 40 * u + (i + 1) ≤ q ∧ q < 40 * u + 40 by omega), if_pos c3, a1, if_neg (by omega), if_neg (by omega)]
    · rw [if_neg (show ¬ (40 * u + (i + 1) ≤ q ∧ q < 40 * u + 40) by omega), if_neg c3]
      by_cases c4 : 40 * w + i ≤ q ∧ q < 40 * w + 40
      · rw [if_pos (show 40 * w + (i + 1) ≤ q ∧ q < 40 * w + 40 by omega), if_pos c4, a1, if_neg (by omega), if_neg (by omega)]
      · rw [if_neg (show ¬ (40 * w + (i + 1) ≤ q ∧ q < 40 * w + 40) by omega), if_neg c4, a1, if_neg c2, if_neg c1]
theorem byt_at2 {g : Nat → Int} : ∀ {l : List Int} {p k : Nat}, byt g p l → k < l.length → g (p + k) = l.getD k 0
  | [], _, _, _, h => by rw [List.length_nil] at h; omega
  | b :: l, p, 0, h, _ => h.1
  | b :: l, p, k + 1, h, hk => by
    rw [List.getD_cons_succ, show p + (k + 1) = p + 1 + k by omega]
    exact byt_at2 h.2 (by rw [List.length_cons] at hk; omega)
/-- two records found change places, in the reference -/
theorem x_swp {e : w_E} {N u w : Nat} {R : w_S} {x y : Fo} (hN : 1000 ≤ N) (hu : u < 150) (huw : w < u) (hx : Hr1 R u x) (hy : Hr1 R w y) : Ok (E_R_swapFound e N (u : Int) (w : Int) R) (fun _ R1 => frm [160, 161, 162] [] [] R R1 ∧ Hr1 R1 u y ∧ Hr1 R1 w x ∧ ∀ k z, k ≠ u → k ≠ w → Hr1 R k z → Hr1 R1 k z) := by
  unfold E_R_swapFound
  rw [show ((u : Int)).toNat = u by omega, show ((w : Int)).toNat = w by omega]
  refine ok_ib (by omega) (ok_ib (by omega) ?_)
  generalize hS : w_put (w_put (w_put (w_put R 160 u (R.1 160 w)) 160 w (R.1 160 u)) 162 u (R.1 162 w)) 162 w (R.1 162 u) = R0
  have f0 : frm [160, 161, 162] [] [] R R0 := by
    rw [← hS]
    repeat (first | exact frm.refl _ _ _ _ | refine frm.put ?_ rfl | refine frm.puto ?_ rfl rfl)
  have a0 : ∀ q, R0.1 160 q = if q = w then R.1 160 u else if q = u then R.1 160 w else R.1 160 q := fun q => by
    rw [← hS]
    show pt (pt (R.1 160) _ _) _ _ q = _
    rw [pt_at, pt_at]
  have a2 : ∀ q, R0.1 162 q = if q = w then R.1 162 u else if q = u then R.1 162 w else R.1 162 q := fun q => by
    rw [← hS]
    show pt (pt (R.1 162) _ _) _ _ q = _
    rw [pt_at, pt_at]
  have a1 : R0.1 161 = R.1 161 := by
    rw [← hS]
    rfl
  refine (l_swp (e := e) (N := N) hu (by omega) huw 40 0 N R0 (by omega) (by omega)).mono ?_
  intro _ R1 ⟨z1, z2⟩
  have e0 : R1.1 160 = R0.1 160 := z1.2.1 160 rfl rfl
  have e2 : R1.1 162 = R0.1 162 := z1.2.1 162 rfl rfl
  have mv : ∀ (k k' : Nat) (a : List Int), (∀ q, q < 40 → R1.1 161 (40 * k + q) = w_b (R.1 161 (40 * k' + q))) → R1.1 162 k = R.1 162 k' → Ttl R k' a → Ttl R1 k a := fun k k' a h1 h2 h3 => by
    obtain ⟨t1, t2, t3, t4⟩ := h3
    refine ⟨by rw [h2]; exact t1, byt_of2 (fun i hi => ?_), t3, t4⟩
    have m := t4 _ (memD (d := 0) hi)
    rw [h1 i (by omega), byt_at2 t2 hi, w_b_id (by omega) (by omega)]
  refine ⟨f0.trans (z1.weak (by decide)), ⟨?_, fun h => ?_, fun a ha => ?_⟩, ⟨?_, fun h => ?_, fun a ha => ?_⟩, fun k z k1 k2 kz => ⟨?_, fun h => ?_, fun a ha => ?_⟩⟩
  · rw [e0, a0, if_neg (by omega), if_pos rfl]
    exact hy.1
  · rw [e2, a2, if_neg (by omega), if_pos rfl]
    exact hy.2.1 h
  · refine mv u w a (fun q hq => ?_) (by rw [e2, a2, if_neg (by omega), if_pos rfl]) (hy.2.2 a ha)
    rw [z2, if_pos (by omega), a1, show 40 * u + q - 40 * u + 40 * w = 40 * w + q by omega]
  · rw [e0, a0, if_pos rfl]
    exact hx.1
  · rw [e2, a2, if_pos rfl]
    exact hx.2.1 h
  · refine mv w u a (fun q hq => ?_) (by rw [e2, a2, if_pos rfl]) (hx.2.2 a ha)
    rw [z2, if_neg (by omega), if_pos (by omega), a1, show 40 * w + q - 40 * w + 40 * u = 40 * u + q by omega]
  · rw [e0, a0, if_neg k2, if_neg k1]
    exact kz.1
  · rw [e2, a2, if_neg k2, if_neg k1]
    exact kz.2.1 h
  · obtain ⟨t1, t2, t3, t4⟩ := kz.2.2 a ha
    refine ⟨by rw [e2, a2, if_neg k2, if_neg k1]; exact t1, byt_congr t2 (fun i hi => ?_), t3, t4⟩
    rw [z2, if_neg (by omega), if_neg (by omega), a1]
abbrev ELj : List (Nat × Nat) := [(129, 55), (129, 56), (129, 57)]
/-- is a record found ahead of one before it? -/
theorem x_ahd {e : w_E} {N u w : Nat} {R : w_S} {x y : Fo} (hN : 1000 ≤ N) (hu : u < 150) (hw : w < 150) (hx : Hr1 R u x) (hy : Hr1 R w y) (hxy : y.1 ≤ x.1) : Ok (E_R_isAhead e N (u : Int) (w : Int) R) (fun z R1 => z = bi (decide (cmpO x.2 y.2 < 0)) ∧ frm [] [129] ELj R R1) := by
  obtain ⟨x1, x2, x3⟩ := hx
  obtain ⟨y1, y2, y3⟩ := hy
  unfold E_R_isAhead
  rw [show ((u : Int)).toNat = u by omega, show ((w : Int)).toNat = w by omega]
  refine ok_ib (by omega) ?_
  cases ho : x.2 with
  | none =>
    have := x2 ho
    refine ok_t (by omega) (ok_ib (by omega) ?_)
    cases hp : y.2 with
    | none =>
      have := y2 hp
      exact ok_e (by omega) (ok_t (by omega) (ok_s ⟨rfl, frm.refl _ _ _ _⟩))
    | some b =>
      have := (y3 b hp).1
      exact ok_t (by omega) (ok_s ⟨rfl, frm.refl _ _ _ _⟩)
  | some a =>
    have ta := x3 a ho
    have := ta.1
    refine ok_e (by omega) (ok_ib (by omega) ?_)
    cases hp : y.2 with
    | none =>
      have := y2 hp
      exact ok_e (by omega) (ok_s ⟨rfl, frm.refl _ _ _ _⟩)
    | some b =>
      have tb := y3 b hp
      have := tb.1
      refine ok_t (by omega) (ok_b ((x_rt (e := e) (N := N) hN hu hw ta tb).mono ?_))
      intro z R1 ⟨z1, z2⟩
      dsimp only
      have zz := sg_0 z
      rw [z2.2.1 160 rfl rfl]
      show Ok _ (fun z' R2 => z' = bi (decide (cmpT 41 a b < 0)) ∧ frm [] [129] ELj R R2)
      rw [← z1]
      by_cases c : z = 0
      · rw [zz.1.2 c]
        exact ok_t c (ok_t (by omega) (ok_s ⟨rfl, z2⟩))
      · refine ok_e c ?_
        by_cases d : 0 ≤ z
        · rw [zz.2.2.2 (by omega)]
          exact ok_t d (ok_s ⟨rfl, z2⟩)
        · rw [zz.2.1.2 (by omega)]
          exact ok_e d (ok_s ⟨rfl, z2⟩)
theorem Hr1.cg {R R1 : w_S} {k : Nat} {x : Fo} (h : Hr1 R k x) (h0 : R1.1 160 = R.1 160) (h1 : R1.1 161 = R.1 161) (h2 : R1.1 162 = R.1 162) : Hr1 R1 k x := by
  unfold Hr1 Ttl at h ⊢
  rw [h0, h1, h2]
  exact h
/-- the reference lays a record found into its place -/
theorem l_fa1 {e : w_E} {N : Nat} {x : Fo} {x1 : Int} {P : Int → w_S → Prop} (hN : 1000 ≤ N) : ∀ (V T : List Fo) (nf : Nat) (R : w_S), V.length + T.length < 150 → (∀ y, y ∈ V → y.1 ≤ x.1) → Hrl R 0 V.reverse → Hr1 R V.length x → Hrl R (V.length + 1) T → V.length < nf → (∀ n' R', nf ≤ n' + V.length + 1 → frm [160, 161, 162] [129] ELj R R' → Hrl R' 0 (insl x V T) → Ok (if w_nb (x1 + 1) = true then El_R_findAll e N n' 0 [x1 + 1] [] R' else none) P) → Ok (El_R_findAll e N nf 1 [x1, ((V.length : Nat) : Int)] [] R) P
  | _, _, 0, _, _, _, _, _, _, h, _ => by omega
  | [], T, nf + 1, R, g1, g2, g3, g4, g5, g6, K => by
    rw [El_R_findAll]
    refine ok_t (by rw [List.length_nil]; omega) (K nf R (by omega) (frm.refl _ _ _ _) ?_)
    rw [insl, Hrl.cons]
    exact ⟨g4, g5⟩
  | y :: V, T, nf + 1, R, g1, g2, g3, g4, g5, g6, K => by
    have lv : (y :: V).length = V.length + 1 := List.length_cons
    have g3' := g3
    rw [List.reverse_cons, Hrl.app, List.length_reverse, Nat.zero_add, Hrl.cons] at g3'
    obtain ⟨v1, v2, _⟩ := g3'
    have yx := g2 y List.mem_cons_self
    rw [El_R_findAll, show ((y :: V).length : Int) - 1 = ((V.length : Nat) : Int) by omega]
    refine ok_e (by omega) (ok_nb (by omega) (ok_b ((x_ahd (e := e) (N := N) (u := (y :: V).length) (w := V.length) hN (by omega) (by omega) g4 v2 yx).mono ?_)))
    intro z R1 ⟨z1, f1⟩
    subst z1
    dsimp only
    have cg : ∀ k t, Hr1 R k t → Hr1 R1 k t := fun k t h => h.cg (f1.2.1 160 rfl rfl) (f1.2.1 161 rfl rfl) (f1.2.1 162 rfl rfl)
    rw [insl] at K
    by_cases c : 0 ≤ cmpO x.2 y.2
    · rw [decide_eq_false (by omega)]
      rw [if_pos c] at K
      refine ok_t rfl (K nf R1 (by omega) (f1.weak (by decide)) ?_)
      rw [Hrl.app, Hrl.cons, List.length_reverse, Nat.zero_add]
      exact ⟨fun i hi => cg _ _ (g3 i hi), cg _ _ g4, fun i hi => cg _ _ (g5 i hi)⟩
    · rw [decide_eq_true (by omega)]
      rw [if_neg c] at K
      refine ok_e (by decide) (ok_b ((x_swp (e := e) (N := N) (u := (y :: V).length) (w := V.length) hN (by omega) (by omega) (cg _ _ g4) (cg _ _ v2)).mono ?_))
      intro _ R2 ⟨f2, s1, s2, s3⟩
      dsimp only
      refine ok_nb (by omega) ?_
      rw [show ((y :: V).length : Int) + (-1) = ((V.length : Nat) : Int) by omega]
      have f12 : frm [160, 161, 162] [129] ELj R R2 := (f1.weak (by decide)).trans (f2.weak (by decide))
      refine l_fa1 hN V (y :: T) nf R2 (by rw [List.length_cons]; omega) (fun t ht => g2 t (List.mem_cons_of_mem _ ht)) (fun i hi => ?_) s2 ?_ (by omega) (fun n' R' hn' k1 k2 => K n' R' (by omega) (f12.trans k1) k2)
      · have := v1 i hi
        rw [List.length_reverse] at hi
        exact s3 _ _ (by omega) (by omega) (cg _ _ this)
      · rw [Hrl.cons, ← lv]
        exact ⟨s1, fun i hi => s3 _ _ (by omega) (by omega) (cg _ _ (g5 i hi))⟩
end
section
-- fp
/-- the reference lays a record found into its place, and goes on to the next -/
theorem l_fa2 {e : w_E} {N : Nat} {x : Fo} {x1 : Int} (hN : 1000 ≤ N) : ∀ (V T : List Fo) (nf : Nat) (R : w_S), V.length + T.length < 150 → (∀ y, y ∈ V → y.1 ≤ x.1) → Hrl R 0 V.reverse → Hr1 R V.length x → Hrl R (V.length + 1) T → V.length < nf → ∃ n' R', nf ≤ n' + V.length + 1 ∧ frm [160, 161, 162] [129] ELj R R' ∧ Hrl R' 0 (insl x V T) ∧ ∀ P, Ok (if w_nb (x1 + 1) = true then El_R_findAll e N n' 0 [x1 + 1] [] R' else none) P → Ok (El_R_findAll e N nf 1 [x1, ((V.length : Nat) : Int)] [] R) P
  | _, _, 0, _, _, _, _, _, _, h => by omega
  | [], T, nf + 1, R, g1, g2, g3, g4, g5, g6 => by
    refine ⟨nf, R, by omega, frm.refl _ _ _ _, ?_, fun P k => ?_⟩
    · rw [insl, Hrl.cons]
      exact ⟨g4, g5⟩
    · rw [El_R_findAll]
      exact ok_t (by rw [List.length_nil]; omega) k
  | y :: V, T, nf + 1, R, g1, g2, g3, g4, g5, g6 => by
    have lv : (y :: V).length = V.length + 1 := List.length_cons
    have g3' := g3
    rw [List.reverse_cons, Hrl.app, List.length_reverse, Nat.zero_add, Hrl.cons] at g3'
    obtain ⟨v1, v2, _⟩ := g3'
    have yx := g2 y List.mem_cons_self
    obtain ⟨z, R1, ha, z1, f1⟩ := x_ahd (e := e) (N := N) (u := (y :: V).length) (w := V.length) hN (by omega) (by omega) g4 v2 yx
    subst z1
    have cg : ∀ k t, Hr1 R k t → Hr1 R1 k t := fun k t h => h.cg (f1.2.1 160 rfl rfl) (f1.2.1 161 rfl rfl) (f1.2.1 162 rfl rfl)
    rw [insl]
    by_cases c : 0 ≤ cmpO x.2 y.2
    · rw [decide_eq_false (by omega)] at ha
      rw [if_pos c]
      refine ⟨nf, R1, by omega, f1.weak (by decide), ?_, fun P k => ?_⟩
      · rw [Hrl.app, Hrl.cons, List.length_reverse, Nat.zero_add]
        exact ⟨fun i hi => cg _ _ (g3 i hi), cg _ _ g4, fun i hi => cg _ _ (g5 i hi)⟩
      · rw [El_R_findAll, show ((y :: V).length : Int) - 1 = ((V.length : Nat) : Int) by omega]
        exact ok_e (by omega) (ok_nb (by omega) (ok_b (ok_of ha (ok_t rfl k))))
    · rw [decide_eq_true (by omega)] at ha
      rw [if_neg c]
      obtain ⟨s0, R2, hs, f2, s1, s2, s3⟩ := x_swp (e := e) (N := N) (u := (y :: V).length) (w := V.length) hN (by omega) (by omega) (cg _ _ g4) (cg _ _ v2)
      have f12 : frm [160, 161, 162] [129] ELj R R2 := (f1.weak (by decide)).trans (f2.weak (by decide))
      obtain ⟨n', R', n1, k1, k2, k3⟩ := l_fa2 (e := e) (N := N) (x := x) (x1 := x1) hN V (y :: T) nf R2 (by rw [List.length_cons]; omega) (fun t ht => g2 t (List.mem_cons_of_mem _ ht)) (fun i hi => by
        have := v1 i hi
        rw [List.length_reverse] at hi
        exact s3 _ _ (by omega) (by omega) (cg _ _ this)) s2 (by
        rw [Hrl.cons, ← lv]
        exact ⟨s1, fun i hi => s3 _ _ (by omega) (by omega) (cg _ _ (g5 i hi))⟩) (by omega)
      refine ⟨n', R', by omega, f12.trans k1, k2, fun P k => ?_⟩
      rw [El_R_findAll, show ((y :: V).length : Int) - 1 = ((V.length : Nat) : Int) by omega]
      refine ok_e (by omega) (ok_nb (by omega) (ok_b (ok_of ha (ok_e (show ¬ (1 : Int) = 0 by decide) (ok_b (ok_of hs (ok_nb (by omega) ?_)))))))
      dsimp only
      rw [show ((y :: V).length : Int) + (-1) = ((V.length : Nat) : Int) by omega]
      exact k3 P k
end
section
-- fq
abbrev FCa : List Nat := [103, 104, 105, 108, 109, 110, 121, 122, 123, 124, 125, 126, 127]
abbrev FCj : List (Nat × Nat) := [(94, 15), (106, 4), (120, 0)]
abbrev FRa : List Nat := [150, 159, 160, 161, 162]
abbrev FRj : List (Nat × Nat) := [(129, 37), (129, 51), (129, 55), (129, 56), (129, 57)]
abbrev FCk : List (Nat × Nat) := [(94, 15), (106, 4), (106, 8), (120, 0)]
abbrev FRk : List (Nat × Nat) := [(129, 37), (129, 51), (129, 55), (129, 56), (129, 57), (129, 58)]
/-- records found so far, in both -/
def Fdd (S R : w_S) (L : List Fo) : Prop := S.1 106 4 = ((L.length : Nat) : Int) ∧ R.1 129 51 = ((L.length : Nat) : Int) ∧ Hcl S 0 L ∧ Hrl R 0 L
/-- all that a search leans on -/
def SrR (S R : w_S) (f len : Int) (G : Int → Int) (top : Int) (ta L E V n : Nat) : Prop := Qry S R f len G ∧ RelVr S R top ta L E V n ∧ RelLk S R ∧ RelNm S R top ∧ RelAb S R ∧ RelG S R ∧ R.1 129 12 = S.1 27 1
theorem SrR.fr {S R S1 R1 : w_S} {f len : Int} {G : Int → Int} {top : Int} {ta L E V n : Nat} (h : SrR S R f len G top ta L E V n) (hf : frm FCa [94, 106, 120] FCk S S1) (hg : frm FRa [129] FRk R R1) : SrR S1 R1 f len G top ta L E V n := by
  obtain ⟨h1, h2, h3, h4, h5, h6, h7⟩ := h
  have ca : ∀ c, (c = 1 ∨ c = 2 ∨ (3 ≤ c ∧ c ≤ 27) ∨ (95 ≤ c ∧ c ≤ 102)) → S1.1 c = S.1 c := fun c hc => hf.2.1 c (by
    simp only [List.contains_cons, List.contains_nil, Bool.or_false, Bool.or_eq_false_iff, beq_eq_false_iff_ne, ne_eq]
    omega) (by
    simp only [List.contains_cons, List.contains_nil, Bool.or_false, Bool.or_eq_false_iff, beq_eq_false_iff_ne, ne_eq]
    omega)
  have ra : ∀ c, (c = 130 ∨ (136 ≤ c ∧ c ≤ 149) ∨ (152 ≤ c ∧ c ≤ 158) ∨ 238 ≤ c) → R1.1 c = R.1 c := fun c hc => hg.2.1 c (by
    simp only [List.contains_cons, List.contains_nil, Bool.or_false, Bool.or_eq_false_iff, beq_eq_false_iff_ne, ne_eq]
    omega) (by
    simp only [List.contains_cons, List.contains_nil, Bool.or_false, beq_eq_false_iff_ne, ne_eq]
    omega)
  refine ⟨h1.cg (fun c hc => ca c (by omega)) ⟨hf.2.2 94 3 rfl rfl, hf.2.2 94 5 rfl rfl, hf.2.2 94 6 rfl rfl⟩ (fun c hc => ra c (by omega)) ⟨hg.2.2 129 2 rfl rfl, hg.2.2 129 46 rfl rfl, hg.2.2 129 48 rfl rfl, hg.2.2 129 40 rfl rfl⟩, h2.fr (fun a ha => ca a (by omega)) (by rw [ca 3 (by omega)]) (by rw [ca 3 (by omega)]) (by rw [ca 27 (by omega)]; exact Int.le_refl _) (fun a ha => ra a (by omega)) (hg.2.2 129 13 rfl rfl) (hg.2.2 129 17 rfl rfl) (hg.2.2 129 23 rfl rfl) hg.1, h3.fr hf hg (by decide), h4.fr hf hg (by decide), h5.fr hf hg (by decide), h6.fr hf hg (by decide), ?_⟩
  rw [hg.2.2 129 12 rfl rfl, ca 27 (by omega)]
  exact h7
theorem Hcl.cgA {S S1 : w_S} {p : Nat} {l : List Fo} (h : Hcl S p l) (h2 : S1.1 2 = S.1 2) (h8 : S1.1 108 = S.1 108) (h9 : S1.1 109 = S.1 109) (h10 : S1.1 110 = S.1 110) : Hcl S1 p l := h.cg h2 (fun k _ _ => by rw [h8, h9, h10]; exact ⟨rfl, rfl, rfl⟩)
/-- a search over all records, in both -/
theorem l_search {e : w_E} {N : Nat} {f len : Int} {G : Int → Int} {top : Int} {ta L E V n : Nat} (hN : 16000000 ≤ N) (htop : top ≤ 10240) : ∀ (k r nf nr : Nat) (S R : w_S) (Lf : List Fo), r + k = n + 1 → 1 ≤ r → k < nf → 200 * k < nr → SrR S R f len G top ta L E V n → Fdd S R Lf → (∀ y, y ∈ Lf → 1 ≤ y.1 ∧ y.1 < r) → Lf.length < r → Ok (El_C_searchAll e N nf 0 [(r : Int)] [] S) (fun _ S1 => Ok (El_R_findAll e N nr 0 [(r : Int)] [] R) (fun y R1 => ∃ L', y = ((L'.length : Nat) : Int) ∧ Fdd S1 R1 L' ∧ (L'.length ≤ n ∧ ∀ y, y ∈ L' → 1 ≤ y.1 ∧ y.1 ≤ n) ∧ frm FCa [94, 106, 120] FCj S S1 ∧ frm FRa [129] FRj R R1))
  | _, _, 0, _, _, _, _, _, _, h, _, _, _, _, _ => by omega
  | _, _, _, 0, _, _, _, _, _, _, h, _, _, _, _ => by omega
  | 0, r, nf + 1, nr + 1, S, R, Lf, g1, g2, g3, g4, hs, hf, hl, hll => by
    have hv := hs.2.1
    obtain ⟨_, _, _, _, _, k6, k7, k8, _⟩ := hv
    rw [El_C_searchAll, k6]
    refine ok_t (by omega) (ok_s ?_)
    rw [El_R_findAll, k7]
    refine ok_t (by omega) (ok_s ⟨Lf, hf.2.1, hf, ⟨by omega, fun y hy => by have := hl y hy; omega⟩, frm.refl _ _ _ _, frm.refl _ _ _ _⟩)
  | k + 1, r, nf + 1, nr + 1, S, R, Lf, g1, g2, g3, g4, hs, hf, hl, hll => by
    have hss := hs
    obtain ⟨hq, hv, hk, hn, hAb, hG, hd⟩ := hss
    have hvv := hv
    obtain ⟨_, _, _, _, _, k6, k7, k8, _⟩ := hvv
    have gr := (hG.2.2.2 r g2 (by rw [show S.1 3 0 = (n : Nat) from k6]; omega)).1
    have ih := l_search (e := e) (f := f) (len := len) (G := G) (top := top) (ta := ta) (L := L) (E := E) (V := V) (n := n) hN htop k (r + 1)
    rw [show ((r + 1 : Nat) : Int) = (r : Int) + 1 by omega] at ih
    rw [El_C_searchAll, k6, show ((r : Int)).toNat = r by omega]
    refine ok_e (by omega) (ok_e (by omega) (ok_ib (by omega) ?_))
    by_cases c : S.1 5 r = -1
    rotate_left
    · refine ok_t c (ok_nb (by omega) ((ih nf nr S R Lf (by omega) (by omega) (by omega) (by omega) hs hf (fun y hy => by have := hl y hy; omega) (by omega)).mono ?_))
      intro _ S1 q
      rw [El_R_findAll, k7, show ((r : Int)).toNat = r by omega, show R.1 134 r = S.1 5 r from gr]
      exact ok_e (by omega) (ok_ib (by omega) (ok_e c (ok_nb (by omega) q)))
    refine ok_e (fun z => z c) ?_
    obtain ⟨b, D, dl, dv, dle0, cl, rf⟩ := x_ismet (e := e) (N := N) (r := r) hN hq hv hk hn hAb hd htop g2 (by omega)
    have dle := doc_le dv
    obtain ⟨vb, R1, hb, ya, R2, ha, hyb, fR, hp, hby⟩ := rf
    subst hyb
    have fR' : frm FRa [129] FRj R R2 := fR.weak (by decide)
    refine ok_b (cl.mono ?_)
    intro _ S1 c1
    refine ok_b (c1.mono ?_)
    intro _ S2 c2
    refine ok_b (c2.mono ?_)
    intro _ S3 c3
    refine ok_b (c3.mono ?_)
    intro y S4 ⟨z1, fS, z3⟩
    subst z1
    dsimp only
    have fS' : frm FCa [94, 106, 120] FCj S S4 := fS.weak (by decide)
    have hs4 := hs.fr (fS'.weak (by decide)) (fR'.weak (by decide))
    obtain ⟨hf1, hf2, hf3, hf4⟩ := hf
    have h106 : S4.1 106 4 = ((Lf.length : Nat) : Int) := by rw [fS.2.1 106 rfl rfl]; exact hf1
    have h151 : R2.1 129 51 = ((Lf.length : Nat) : Int) := by rw [fR.2.2 129 51 rfl rfl]; exact hf2
    have hc4 : Hcl S4 0 Lf := hf3.cgA (fS.2.1 2 rfl rfl) (fS.2.1 108 rfl rfl) (fS.2.1 109 rfl rfl) (fS.2.1 110 rfl rfl)
    have hr2 : Hrl R2 0 Lf := fun i hi => (hf4 i hi).cg (fR.2.1 160 rfl rfl) (fR.2.1 161 rfl rfl) (fR.2.1 162 rfl rfl)
    have R134 : R.1 134 r = -1 := by rw [show R.1 134 r = S.1 5 r from gr]; exact c
    cases b with
    | false =>
      refine ok_t rfl (ok_nb (by omega) ((ih nf nr S4 R2 Lf (by omega) (by omega) (by omega) (by omega) hs4 ⟨h106, h151, hc4, hr2⟩ (fun y hy => by have := hl y hy; omega) (by omega)).mono ?_))
      intro _ S5 q
      rw [El_R_findAll, k7, show ((r : Int)).toNat = r by omega, R134]
      refine ok_e (by omega) (ok_ib (by omega) (ok_t rfl (ok_b (ok_of hb (ok_b (ok_of ha (ok_e (fun z => z rfl) (ok_nb (by omega) ?_))))))))
      refine q.mono ?_
      intro y R5 ⟨L', e1, e2, e3, e4, e5⟩
      exact ⟨L', e1, e2, e3, fS'.trans e4, fR'.trans e5⟩
    | true =>
      have t2 : S4.1 2 = S.1 2 := fS.2.1 2 rfl rfl
      -- the reference reads the title and files the record
      have tl := x_rdt (e := e) (N := N) (u := Lf.length) (R := w_put R2 160 Lf.length (r : Int)) (D := D) (by omega) (by omega) dl hp (by omega) (fun f hf => (dv f hf).1) hby
      obtain ⟨vt, R3, ht, t1⟩ := tl
      obtain ⟨t3, t4, t5, t6, t7⟩ := t1
      generalize hR4 : w_put R3 129 51 (((Lf.length : Nat) : Int) + 1) = R4
      have f3 : frm FRa [129] FRj R2 R3 := by
        refine frm.trans (S' := w_put R2 160 Lf.length (r : Int)) ?_ (t3.weak (by decide))
        repeat (first | exact frm.refl _ _ _ _ | refine frm.put ?_ rfl | refine frm.puto ?_ rfl rfl)
      have f4 : frm FRa [129] FRj R3 R4 := by
        rw [← hR4]
        repeat (first | exact frm.refl _ _ _ _ | refine frm.put ?_ rfl | refine frm.puto ?_ rfl rfl)
      have r51 : R3.1 129 51 = ((Lf.length : Nat) : Int) := by
        rw [t3.2.1 129 rfl rfl]
        exact h151
      have a160 : ∀ q, R4.1 160 q = if q = Lf.length then (r : Int) else R2.1 160 q := fun q => by
        rw [← hR4]
        show R3.1 160 q = _
        rw [t3.2.1 160 rfl rfl]
        show pt (R2.1 160) _ _ q = _
        rw [pt_at]
      have a161 : R4.1 161 = R3.1 161 := by rw [← hR4]; rfl
      have a162 : R4.1 162 = R3.1 162 := by rw [← hR4]; rfl
      have hx : Hr1 R4 Lf.length (r, ttl D) := by
        refine ⟨by rw [a160, if_pos rfl], fun z => by rw [a162]; exact t6 z, fun a z => (t7 a z).cg a161 a162⟩
      have hr4 : Hrl R4 0 Lf := fun i hi => by
        rw [Nat.zero_add]
        have := hr2 i hi
        rw [Nat.zero_add] at this
        obtain ⟨y1, y2, y3⟩ := this
        refine ⟨by rw [a160, if_neg (by omega)]; exact y1, fun z => ?_, fun a z => ?_⟩
        · rw [a162, t4 i (by omega)]
          exact y2 z
        · obtain ⟨w1, w2, w3, w4⟩ := y3 a z
          refine ⟨by rw [a162, t4 i (by omega)]; exact w1, byt_congr w2 (fun q hq => ?_), w3, w4⟩
          rw [a161, t5 _ (by omega)]
          rfl
      obtain ⟨n', R5, n1, f5, hr5, kk⟩ := l_fa2 (e := e) (N := N) (x := (r, ttl D)) (x1 := (r : Int)) (by omega) Lf.reverse [] nr R4 (by rw [List.length_reverse, List.length_nil]; omega) (fun y hy => by have := hl y (List.mem_reverse.1 hy); dsimp only; omega) (by rw [List.reverse_reverse]; exact hr4) (by rw [List.length_reverse]; exact hx) (fun i hi => by rw [List.length_nil] at hi; omega) (by rw [List.length_reverse]; omega)
      rw [List.length_reverse] at n1 kk
      have f25 : frm FRa [129] FRj R2 R5 := (f3.trans f4).trans (f5.weak (by decide))
      refine ok_e (show ¬ (1 : Int) = 0 by decide) (ok_b ?_)
      -- the class files the record
      unfold E_Desk_fileRecord
      rw [h106, z3.1]
      refine ok_t (by omega) (ok_nb (by omega) ?_)
      refine l_fr0 (e := e) (N := N) (x1 := (r : Int)) (D := D) (top := top) (by omega) htop (by rw [t2]; exact z3) dl dv (fun m' x3 x4 hm' tc => ?_) D.length N (-1) (-1) (Nat.le_refl _) (by omega) (by rw [List.drop_length]; exact ⟨fun _ => rfl, fun a h => (by cases h)⟩)
      have lf := l_fr1 (e := e) (N := N) (x := (r, ttl D)) (x3 := x3) (x4 := x4) (n := Lf.length) (by omega) (by omega) Lf.reverse [] m' S4 (by rw [List.length_reverse, List.length_nil]; omega) h106 tc (by rw [List.reverse_reverse]; exact hc4) (fun i hi => by rw [List.length_nil] at hi; omega) (by rw [List.length_reverse]; omega)
      rw [List.length_reverse] at lf
      rw [h106]
      refine lf.mono ?_
      intro _ S5 ⟨f6, s6, hc5⟩
      dsimp only
      have il := insl_len (r, ttl D) Lf.reverse []
      rw [List.length_reverse, List.length_nil] at il
      have fS5 : frm FCa [94, 106, 120] FCj S4 S5 := f6.weak (by decide)
      refine ok_nb (by omega) ((ih nf n' S5 R5 (insl (r, ttl D) Lf.reverse []) (by omega) (by omega) (by omega) (by omega) (hs4.fr (fS5.weak (by decide)) (f25.weak (by decide))) ⟨by rw [il, s6], ?_, hc5, hr5⟩ (fun y hy => ?_) (by omega)).mono ?_)
      · rw [f5.2.2 129 51 rfl rfl, il, ← hR4]
        simp only [w_put_r, reduceIte, Nat.reduceEqDiff, pt_at]
        omega
      · rcases insl_mem hy with h | h | h
        · rw [h]
          dsimp only
          omega
        · have := hl y (List.mem_reverse.1 h)
          omega
        · cases h
      · intro _ S6 q
        rw [El_R_findAll, k7, show ((r : Int)).toNat = r by omega, R134]
        refine ok_e (by omega) (ok_ib (by omega) (ok_t rfl (ok_b (ok_of hb (ok_b (ok_of ha (ok_t (show (1 : Int) ≠ 0 by decide) ?_)))))))
        dsimp only
        rw [h151, show (((Lf.length : Nat) : Int)).toNat = Lf.length by omega]
        refine ok_ib (by omega) (ok_b (ok_of ht ?_))
        dsimp only
        rw [r51, hR4, show ((Lf.length : Nat) : Int) + 1 - 1 = ((Lf.length : Nat) : Int) by omega]
        refine ok_nb (by omega) (ok_nb (by omega) (kk _ (ok_nb (by omega) ?_)))
        refine q.mono ?_
        intro y R6 ⟨L', e1, e2, e3, e4, e5⟩
        exact ⟨L', e1, e2, e3, (fS'.trans fS5).trans e4, (fR'.trans f25).trans e5⟩
theorem x_search {e : w_E} {N : Nat} {f len : Int} {G : Int → Int} {top : Int} {ta L E V n : Nat} {S R : w_S} (hN : 16000000 ≤ N) (htop : top ≤ 10240) (h : SrR S R f len G top ta L E V n) : Ok (E_C_searchAll e N S) (fun _ S1 => Ok (E_R_findAll e N R) (fun y R1 => ∃ L', y = ((L'.length : Nat) : Int) ∧ Fdd S1 R1 L' ∧ (L'.length ≤ n ∧ ∀ y, y ∈ L' → 1 ≤ y.1 ∧ y.1 ≤ n) ∧ S1.1 106 8 = 0 ∧ R1.1 129 58 = 0 ∧ frm FCa [94, 106, 120] FCk S S1 ∧ frm FRa [129] FRk R R1)) := by
  unfold E_C_searchAll E_R_findAll
  have n150 := h.2.1.2.2.2.2.2.2.2.1
  generalize hS : w_put (w_put S 106 4 0) 106 8 0 = S0
  generalize hR : w_put (w_put R 129 51 0) 129 58 0 = R0
  have fS : frm FCa [94, 106, 120] FCk S S0 := by
    rw [← hS]
    repeat (first | exact frm.refl _ _ _ _ | refine frm.put ?_ rfl | refine frm.puto ?_ rfl rfl)
  have fR : frm FRa [129] FRk R R0 := by
    rw [← hR]
    repeat (first | exact frm.refl _ _ _ _ | refine frm.put ?_ rfl | refine frm.puto ?_ rfl rfl)
  refine (l_search (e := e) (N := N) (f := f) (len := len) (G := G) (top := top) (ta := ta) (L := L) (E := E) (V := V) (n := n) hN htop n 1 N N S0 R0 [] (by omega) (by omega) (by omega) (by omega) (h.fr fS fR) ⟨by rw [← hS]; simp only [w_put_r, reduceIte, Nat.reduceEqDiff, pt_at]; rfl, by rw [← hR]; simp only [w_put_r, reduceIte, Nat.reduceEqDiff, pt_at]; rfl, fun i hi => by rw [List.length_nil] at hi; omega, fun i hi => by rw [List.length_nil] at hi; omega⟩ (fun y hy => by cases hy) (by rw [List.length_nil]; omega)).mono ?_
  intro _ S1 q
  refine q.mono ?_
  intro y R1 ⟨L', e1, e2, e3, e4, e5⟩
  refine ⟨L', e1, e2, e3, ?_, ?_, fS.trans (e4.weak (by decide)), fR.trans (e5.weak (by decide))⟩
  · rw [e4.2.2 106 8 rfl rfl, ← hS]
    simp only [w_put_r, reduceIte, Nat.reduceEqDiff, pt_at]
  · rw [e5.2.2 129 58 rfl rfl, ← hR]
    simp only [w_put_r, reduceIte, Nat.reduceEqDiff, pt_at]
end
section
-- fr
/-- what the last search found, in both -/
def RelFn (S R : w_S) : Prop := R.1 129 51 = S.1 106 4 ∧ 0 ≤ S.1 106 4 ∧ S.1 106 4 ≤ 150 ∧ ∀ k : Nat, (k : Int) < S.1 106 4 → R.1 160 k = S.1 108 k ∧ 1 ≤ S.1 108 k ∧ S.1 108 k ≤ S.1 3 0
theorem Fdd.rel {S R : w_S} {L : List Fo} (h : Fdd S R L) (hl : L.length ≤ 150) (hm : ∀ y, y ∈ L → 1 ≤ y.1 ∧ (y.1 : Int) ≤ S.1 3 0) : RelFn S R := by
  obtain ⟨h1, h2, h3, h4⟩ := h
  refine ⟨by rw [h1, h2], by omega, by omega, fun k hk => ?_⟩
  have a := (h3 k (by omega)).1
  have b := (h4 k (by omega)).1
  rw [Nat.zero_add] at a b
  rw [a, b]
  refine ⟨rfl, ?_⟩
  have hk' : k < L.length := by omega
  have := hm _ (memD (d := fo0) hk')
  omega
theorem q_hit {e : w_E} {N : Nat} {S R : w_S} {x1 : Int} (h : RelFn S R) : ∃ y, E_C_hit e N x1 S = some (y, S) ∧ E_R_hit e N x1 R = some (y, R) := by
  obtain ⟨h1, h2, h3, h4⟩ := h
  unfold E_C_hit E_R_hit
  rw [h1]
  by_cases c1 : x1 < 0
  · exact ⟨-1, by rw [if_pos c1], ok_eq (ok_nb (by omega) (ok_t c1 (ok_s ⟨rfl, rfl⟩)))⟩
  by_cases c2 : S.1 106 4 ≤ x1
  · exact ⟨-1, by rw [if_neg c1, if_pos c2], ok_eq (ok_nb (by omega) (ok_e c1 (ok_t (by omega) (ok_s ⟨rfl, rfl⟩))))⟩
  refine ⟨S.1 108 x1.toNat, ok_eq (ok_e c1 (ok_e c2 (ok_ib (by omega) (ok_s ⟨rfl, rfl⟩)))), ok_eq (ok_nb (by omega) (ok_e c1 (ok_e (by omega) (ok_ib (by omega) (ok_s ⟨?_, rfl⟩)))))⟩
  exact (h4 x1.toNat (by omega)).1
end
