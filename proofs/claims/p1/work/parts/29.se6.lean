abbrev se_Fr : Type := rm_M × Nat × rm_L × List Value
def se_ck (G : rm_G) (L : Nat) (fin : Nat → Nat → Bool) (pr : Nat → Option rm_M) : Nat → se_F → rm_M → Nat → rm_L → List Value → se_H → List se_Fr → Nat → Nat → Bool
  | 0, _, _, _, _, _, _, _, _, _ => false
  | n + 1, F, M, pc, ls, st, h, fs, c, d =>
    match rm_mb M pc with
    | none => false
    | some ins =>
      match se_pre F ins st with
      | some l => l.all (fun x => se_ck G L fin pr n x.1 M pc ls x.2 h fs c d)
      | none =>
        match se_s1 F (rm_mx M) ins pc ls st with
        | some l => l.all (fun x => se_ck G L fin pr n x.1 M x.2.1 x.2.2.1 x.2.2.2 h fs c d)
        | none =>
          match se_s2 G L fin (rm_iM M) (rm_mp M) ins pc ls st h with
          | some x => se_ck G L fin pr n F M x.1 x.2.1 x.2.2.1 x.2.2.2.1 fs (c + x.2.2.2.2.1) (d + x.2.2.2.2.2)
          | none =>
            match se_s3 G pr M ins st h with
            | some (j, as, rest) =>
              match pr j with
              | none => false
              | some M' => se_ck G L fin pr n F M' 0 (lv_args 0 as) [] h ((M, pc + 3, ls, rest) :: fs) c d
            | none =>
              match se_s4 M ins st with
              | some r => se_ck G L fin pr n F M (pc + 3) ls r h fs c d
              | none =>
                match se_s5 M ins st with
                | none => false
                | some v =>
                  match fs with
                  | [] => decide (v = some (.int 1)) && (decide (c ≤ 600000) && decide (d ≤ 7302249))
                  | (M', pc', ls', rest) :: fs' => se_ck G L fin pr n F M' pc' ls' (v.toList ++ rest) h fs' c d
def se_SG (G : rm_G) (fin : Nat → Nat → Bool) (pr : Nat → Option rm_M) : List se_Fr → Option Value → rm_H → Nat → Nat → Prop
  | [], v, _, C, D => v = some (.int 1) ∧ C = 0 ∧ D = 0
  | (M, pc, ls, rest) :: fs, v, h, C, D => ∃ n r h2 c d C2 D2, rm_run G fin pr n M pc ls (v.toList ++ rest) h = some (r, h2, c, d) ∧ se_SG G fin pr fs r h2 C2 D2 ∧ C = c + C2 ∧ D = d + D2
def se_GS (G : rm_G) (fin : Nat → Nat → Bool) (pr : Nat → Option rm_M) (M : rm_M) (pc : Nat) (ls : rm_L) (st : List Value) (h : rm_H) (fs : List se_Fr) (C D : Nat) : Prop :=
  ∃ n r h2 c d C2 D2, rm_run G fin pr n M pc ls st h = some (r, h2, c, d) ∧ se_SG G fin pr fs r h2 C2 D2 ∧ C = c + C2 ∧ D = d + D2
section SEB
variable {G : rm_G} {fin : Nat → Nat → Bool} {pr : Nat → Option rm_M}
set_option maxHeartbeats 4000000 in
theorem rm_mono1 : ∀ (n : Nat) (M : rm_M) (pc : Nat) (ls : rm_L) (st : List Value) (h : rm_H) (r : Option Value × rm_H × Nat × Nat), rm_run G fin pr n M pc ls st h = some r → rm_run G fin pr (n + 1) M pc ls st h = some r := by
  intro n
  induction n with
  | zero => intro M pc ls st h r hr; cases hr
  | succ n ih =>
    intro M pc ls st h r hr
    unfold rm_run at hr ⊢
    cases h0 : rm_mb M pc with
    | none => rw [h0] at hr; cases hr
    | some ins =>
      rw [h0] at hr
      dsimp only at hr ⊢
      cases h1 : rm_s1 (rm_mx M) ins pc ls st with
      | some x => rw [h1] at hr; exact ih _ _ _ _ _ _ hr
      | none =>
        rw [h1] at hr
        dsimp only at hr ⊢
        cases h2 : rm_s2 G fin (rm_iM M) (rm_mp M) ins pc ls st h with
        | some x =>
          rw [h2] at hr
          dsimp only at hr ⊢
          obtain ⟨v, h9, a, b⟩ := r
          obtain ⟨a', b', e1, rfl, rfl⟩ := rm_addE hr
          rw [ih _ _ _ _ _ _ e1]
          rfl
        | none =>
          rw [h2] at hr
          dsimp only at hr ⊢
          cases h3 : rm_s3 G pr M ins st h with
          | some x =>
            obtain ⟨j, as, rest⟩ := x
            rw [h3] at hr
            dsimp only at hr ⊢
            cases h4 : pr j with
            | none => rw [h4] at hr; cases hr
            | some M' =>
              rw [h4] at hr
              dsimp only at hr ⊢
              cases h5 : rm_run G fin pr n M' 0 (lv_args 0 as) [] h with
              | none => rw [h5] at hr; cases hr
              | some y =>
                obtain ⟨v1, h6, c1, d1⟩ := y
                rw [h5] at hr
                dsimp only at hr
                rw [ih _ _ _ _ _ _ h5]
                dsimp only
                obtain ⟨v, h9, a, b⟩ := r
                obtain ⟨a', b', e1, rfl, rfl⟩ := rm_addE hr
                rw [ih _ _ _ _ _ _ e1]
                rfl
          | none =>
            rw [h3] at hr
            dsimp only at hr ⊢
            cases h4 : rm_s4 M ins st h with
            | some x => rw [h4] at hr; exact ih _ _ _ _ _ _ hr
            | none =>
              rw [h4] at hr
              dsimp only at hr ⊢
              exact hr
theorem rm_mono {n m : Nat} (hnm : n ≤ m) {M : rm_M} {pc : Nat} {ls : rm_L} {st : List Value} {h : rm_H} {r : Option Value × rm_H × Nat × Nat} (hr : rm_run G fin pr n M pc ls st h = some r) : rm_run G fin pr m M pc ls st h = some r := by
  induction hnm with
  | refl => exact hr
  | step _ ih => exact rm_mono1 _ _ _ _ _ _ _ ih
theorem rm_b1 {n : Nat} {M : rm_M} {pc : Nat} {ls : rm_L} {st : List Value} {h : rm_H} {ins : Instr} {x : Nat × rm_L × List Value} (h0 : rm_mb M pc = some ins) (h1 : rm_s1 (rm_mx M) ins pc ls st = some x) : rm_run G fin pr (n + 1) M pc ls st h = rm_run G fin pr n M x.1 x.2.1 x.2.2 h := by
  rw [rm_run, h0]
  dsimp only
  rw [h1]
theorem rm_b2 {n : Nat} {M : rm_M} {pc : Nat} {ls : rm_L} {st : List Value} {h : rm_H} {ins : Instr} {x : Nat × rm_L × List Value × rm_H × Nat × Nat} (h0 : rm_mb M pc = some ins) (h1 : rm_s1 (rm_mx M) ins pc ls st = none) (h2 : rm_s2 G fin (rm_iM M) (rm_mp M) ins pc ls st h = some x) : rm_run G fin pr (n + 1) M pc ls st h = rm_add x.2.2.2.2.1 x.2.2.2.2.2 (rm_run G fin pr n M x.1 x.2.1 x.2.2.1 x.2.2.2.1) := by
  rw [rm_run, h0]
  dsimp only
  rw [h1]
  dsimp only
  rw [h2]
theorem rm_b3 {n j : Nat} {M M' : rm_M} {pc : Nat} {ls : rm_L} {st as rest : List Value} {h h1 : rm_H} {ins : Instr} {v : Option Value} {c1 d1 : Nat} (h0 : rm_mb M pc = some ins) (e1 : rm_s1 (rm_mx M) ins pc ls st = none) (e2 : rm_s2 G fin (rm_iM M) (rm_mp M) ins pc ls st h = none) (e3 : rm_s3 G pr M ins st h = some (j, as, rest)) (hj : pr j = some M') (hr : rm_run G fin pr n M' 0 (lv_args 0 as) [] h = some (v, h1, c1, d1)) :
    rm_run G fin pr (n + 1) M pc ls st h = rm_add c1 d1 (rm_run G fin pr n M (pc + 3) ls (v.toList ++ rest) h1) := by
  rw [rm_run, h0]
  dsimp only
  rw [e1]
  dsimp only
  rw [e2]
  dsimp only
  rw [e3]
  dsimp only
  rw [hj]
  dsimp only
  rw [hr]
theorem rm_b4 {n : Nat} {M : rm_M} {pc : Nat} {ls : rm_L} {st : List Value} {h : rm_H} {ins : Instr} {x : List Value × rm_H} (h0 : rm_mb M pc = some ins) (e1 : rm_s1 (rm_mx M) ins pc ls st = none) (e2 : rm_s2 G fin (rm_iM M) (rm_mp M) ins pc ls st h = none) (e3 : rm_s3 G pr M ins st h = none) (e4 : rm_s4 M ins st h = some x) :
    rm_run G fin pr (n + 1) M pc ls st h = rm_run G fin pr n M (pc + 3) ls x.1 x.2 := by
  rw [rm_run, h0]
  dsimp only
  rw [e1]
  dsimp only
  rw [e2]
  dsimp only
  rw [e3]
  dsimp only
  rw [e4]
theorem rm_b5 {n : Nat} {M : rm_M} {pc : Nat} {ls : rm_L} {st : List Value} {h : rm_H} {ins : Instr} {v : Option Value} (h0 : rm_mb M pc = some ins) (e1 : rm_s1 (rm_mx M) ins pc ls st = none) (e2 : rm_s2 G fin (rm_iM M) (rm_mp M) ins pc ls st h = none) (e3 : rm_s3 G pr M ins st h = none) (e4 : rm_s4 M ins st h = none) (e5 : rm_s5 M ins st = some v) :
    rm_run G fin pr (n + 1) M pc ls st h = some (v, h, 0, 0) := by
  rw [rm_run, h0]
  dsimp only
  rw [e1]
  dsimp only
  rw [e2]
  dsimp only
  rw [e3]
  dsimp only
  rw [e4]
  dsimp only
  rw [e5]
theorem rm_s2_1 {mx : Nat} {iM : Option Nat} {pl : Nat → Option rm_P} {ins : Instr} {pc : Nat} {ls : rm_L} {st : List Value} {h : rm_H} {x : Nat × rm_L × List Value × rm_H × Nat × Nat} (hx : rm_s2 G fin iM pl ins pc ls st h = some x) : rm_s1 mx ins pc ls st = none := by
  unfold rm_s2 at hx
  split at hx <;> first | rfl | (cases hx)
theorem rm_s3_1 {M : rm_M} {mx : Nat} {iM : Option Nat} {pl : Nat → Option rm_P} {ins : Instr} {pc : Nat} {ls : rm_L} {st : List Value} {h : rm_H} {x : Nat × List Value × List Value} (hx : rm_s3 G pr M ins st h = some x) : rm_s1 mx ins pc ls st = none ∧ rm_s2 G fin iM pl ins pc ls st h = none := by
  unfold rm_s3 at hx
  split at hx <;> first | exact ⟨rfl, rfl⟩ | (cases hx)
theorem rm_s4_1 {M : rm_M} {mx : Nat} {iM : Option Nat} {pl : Nat → Option rm_P} {ins : Instr} {pc : Nat} {ls : rm_L} {st : List Value} {h : rm_H} {x : List Value × rm_H} (hx : rm_s4 M ins st h = some x) : rm_s1 mx ins pc ls st = none ∧ rm_s2 G fin iM pl ins pc ls st h = none ∧ rm_s3 G pr M ins st h = none := by
  unfold rm_s4 at hx
  split at hx
  next idx =>
    split at hx
    next hp => exact ⟨rfl, rfl, by simp only [rm_s3, hp]⟩
    next => cases hx
  next idx =>
    split at hx
    next hp => exact ⟨rfl, rfl, by simp only [rm_s3, hp]⟩
    next hp => exact ⟨rfl, rfl, by simp only [rm_s3, hp]⟩
    next hp => exact ⟨rfl, rfl, by simp only [rm_s3, hp]⟩
    next => cases hx
  next => cases hx
theorem rm_s5_1 {M : rm_M} {mx : Nat} {iM : Option Nat} {pl : Nat → Option rm_P} {ins : Instr} {pc : Nat} {ls : rm_L} {st : List Value} {h : rm_H} {x : Option Value} (hx : rm_s5 M ins st = some x) : rm_s1 mx ins pc ls st = none ∧ rm_s2 G fin iM pl ins pc ls st h = none ∧ rm_s3 G pr M ins st h = none ∧ rm_s4 M ins st h = none := by
  unfold rm_s5 at hx
  split at hx <;> first | exact ⟨rfl, rfl, rfl, rfl⟩ | (cases hx)
theorem se_lvargs {ρ : Nat → Int32} : ∀ {as as' : List Value} {i : Nat}, se_St ρ as as' → se_Ls ρ (lv_args i as) (lv_args i as')
  | [], _, _, h => by
    rw [se_nil h]
    exact trivial
  | v :: as, m, i, h => by
    obtain ⟨w, m', rfl, h1, h2⟩ := se_cons h
    refine ⟨⟨rfl, h1⟩, ?_⟩
    rw [se_r_cat h1]
    exact se_lvargs h2
theorem se_toList {ρ : Nat → Int32} {v w : Option Value} {st st' : List Value} (h : se_o ρ v w) (hs : se_St ρ st st') : se_St ρ (v.toList ++ st) (w.toList ++ st') := by
  cases v with
  | none =>
    cases w with
    | none => exact hs
    | some b => cases h
  | some a =>
    cases w with
    | none => cases h
    | some b => exact ⟨h, hs⟩
abbrev se_fr (ρ : Nat → Int32) : se_Fr → se_Fr → Prop := fun f g => f.1 = g.1 ∧ f.2.1 = g.2.1 ∧ se_Ls ρ f.2.2.1 g.2.2.1 ∧ se_St ρ f.2.2.2 g.2.2.2
set_option maxHeartbeats 4000000 in
theorem se_sound {ρ : Nat → Int32} {G0 : rm_G} {L : Nat} (hG : se_G G0 G L ρ) (h127 : ρ 100 = ρ 0 &&& 127) : ∀ (n : Nat) (F : se_F) (M : rm_M) (pc : Nat) (ls : rm_L) (st : List Value) (h : se_H) (fs : List se_Fr) (c d : Nat), se_ck G0 L fin pr n F M pc ls st h fs c d = true → se_ok ρ F →
    ∀ (ls' : rm_L) (st' : List Value) (h' : rm_H) (fs' : List se_Fr), se_Ls ρ ls ls' → se_St ρ st st' → se_Hp ρ h h' → se_a2 (se_fr ρ) fs fs' → ∃ C D, se_GS G fin pr M pc ls' st' h' fs' C D ∧ c + C ≤ 600000 ∧ d + D ≤ 7302249 := by
  intro n
  induction n with
  | zero => intro F M pc ls st h fs c d hc; cases hc
  | succ n ih =>
    intro F M pc ls st h fs c d hc hF ls' st' h' fs' hl hs hh hfs
    rw [se_ck] at hc
    cases h0 : rm_mb M pc with
    | none => rw [h0] at hc; cases hc
    | some ins =>
      rw [h0] at hc
      dsimp only at hc
      cases e0 : se_pre F ins st with
      | some l =>
        rw [e0] at hc
        obtain ⟨x, x1, x2, x3⟩ := se_pre_ok e0 hF hs
        exact ih _ _ _ _ _ _ _ _ _ (List.all_eq_true.mp hc x x1) x2 ls' st' h' fs' hl x3 hh hfs
      | none =>
        rw [e0] at hc
        dsimp only at hc
        cases e1 : se_s1 F (rm_mx M) ins pc ls st with
        | some l =>
          rw [e1] at hc
          obtain ⟨q, q1, q2, x, x1, x2, x3, x4⟩ := se_s1_ok h127 e1 hF hl hs
          obtain ⟨C, D, ⟨n2, r, h2, c2, d2, C2, D2, g1, g2, g3, g4⟩, b1, b2⟩ := ih _ _ _ _ _ _ _ _ _ (List.all_eq_true.mp hc q q1) q2 x.2.1 x.2.2 h' fs' x3 x4 hh hfs
          exact ⟨C, D, ⟨n2 + 1, r, h2, c2, d2, C2, D2, by rw [rm_b1 h0 x1, x2]; exact g1, g2, g3, g4⟩, b1, b2⟩
        | none =>
          rw [e1] at hc
          dsimp only at hc
          cases e2 : se_s2 G0 L fin (rm_iM M) (rm_mp M) ins pc ls st h with
          | some q =>
            rw [e2] at hc
            dsimp only at hc
            obtain ⟨x, x1, x2, x3, x4, x5, x6⟩ := se_s2_ok hG e2 hl hs hh
            obtain ⟨C, D, ⟨n2, r, h2, c2, d2, C2, D2, g1, g2, g3, g4⟩, b1, b2⟩ := ih _ _ _ _ _ _ _ _ _ hc hF x.2.1 x.2.2.1 x.2.2.2.1 fs' x3 x4 x5 hfs
            refine ⟨q.2.2.2.2.1 + C, q.2.2.2.2.2 + D, ⟨n2 + 1, r, h2, q.2.2.2.2.1 + c2, q.2.2.2.2.2 + d2, C2, D2, ?_, g2, by omega, by omega⟩, by omega, by omega⟩
            rw [rm_b2 h0 (rm_s2_1 x1) x1, x2, x6, g1]
            rfl
          | none =>
            rw [e2] at hc
            dsimp only at hc
            cases e3 : se_s3 G0 pr M ins st h with
            | some q =>
              obtain ⟨j, as, rest⟩ := q
              rw [e3] at hc
              dsimp only at hc
              cases hj : pr j with
              | none => rw [hj] at hc; cases hc
              | some M' =>
                rw [hj] at hc
                dsimp only at hc
                obtain ⟨as', rest', x1, x2, x3⟩ := se_s3_ok hG.2.2.2.1 hs hh e3
                obtain ⟨C, D, ⟨n2, r, h2, c2, d2, C2, D2, g1, ⟨n3, r3, h3, c3, d3, C3, D3, k1, k2, k3, k4⟩, g3, g4⟩, b1, b2⟩ := ih _ _ _ _ _ _ _ _ _ hc hF (lv_args 0 as') [] h' ((M, pc + 3, ls', rest') :: fs') (se_lvargs x2) trivial hh ⟨⟨rfl, rfl, hl, x3⟩, hfs⟩
                have w := rm_s3_1 (fin := fin) (mx := rm_mx M) (iM := rm_iM M) (pl := rm_mp M) (pc := pc) (ls := ls') x1
                refine ⟨C, D, ⟨max n2 n3 + 1, r3, h3, c2 + c3, d2 + d3, C3, D3, ?_, k2, by omega, by omega⟩, b1, b2⟩
                rw [rm_b3 h0 w.1 w.2 x1 hj (rm_mono (Nat.le_max_left n2 n3) g1), rm_mono (Nat.le_max_right n2 n3) k1]
                rfl
            | none =>
              rw [e3] at hc
              dsimp only at hc
              cases e4 : se_s4 M ins st with
              | some r =>
                rw [e4] at hc
                dsimp only at hc
                obtain ⟨r', x1, x2⟩ := se_s4_ok (h' := h') hs e4
                obtain ⟨C, D, ⟨n2, r, h2, c2, d2, C2, D2, g1, g2, g3, g4⟩, b1, b2⟩ := ih _ _ _ _ _ _ _ _ _ hc hF ls' r' h' fs' hl x2 hh hfs
                have w := rm_s4_1 (G := G) (fin := fin) (pr := pr) (mx := rm_mx M) (iM := rm_iM M) (pl := rm_mp M) (pc := pc) (ls := ls') x1
                exact ⟨C, D, ⟨n2 + 1, r, h2, c2, d2, C2, D2, by rw [rm_b4 h0 w.1 w.2.1 w.2.2 x1]; exact g1, g2, g3, g4⟩, b1, b2⟩
              | none =>
                rw [e4] at hc
                dsimp only at hc
                cases e5 : se_s5 M ins st with
                | none => rw [e5] at hc; cases hc
                | some v =>
                  rw [e5] at hc
                  dsimp only at hc
                  obtain ⟨w, x1, x2⟩ := se_s5_ok hs e5
                  have y := rm_s5_1 (G := G) (fin := fin) (pr := pr) (mx := rm_mx M) (iM := rm_iM M) (pl := rm_mp M) (pc := pc) (ls := ls') (h := h') x1
                  have run1 : rm_run G fin pr 1 M pc ls' st' h' = some (w, h', 0, 0) := rm_b5 h0 y.1 y.2.1 y.2.2.1 y.2.2.2 x1
                  cases fs with
                  | nil =>
                    cases se_nil hfs
                    simp only [Bool.and_eq_true, decide_eq_true_eq] at hc
                    obtain ⟨rfl, c1, c2⟩ := hc
                    have hw : w = some (.int 1) := by
                      cases w with
                      | none => cases x2
                      | some b => rw [show b = .int 1 from x2]
                    exact ⟨0, 0, ⟨1, w, h', 0, 0, 0, 0, run1, ⟨hw, rfl, rfl⟩, rfl, rfl⟩, by omega, by omega⟩
                  | cons f fs =>
                    obtain ⟨M2, pc2, ls2, rest2⟩ := f
                    obtain ⟨g, fs2, hst9, hg, hs9⟩ := se_cons hfs; clear hfs; subst hst9; have hfs := hs9; clear hs9
                    obtain ⟨M3, pc3, ls3, rest3⟩ := g
                    obtain ⟨y1, y2, y3, y4⟩ := hg
                    dsimp only at y1 y2 y3 y4
                    subst y1; subst y2
                    obtain ⟨C, D, ⟨n2, r, h2, c2, d2, C2, D2, g1, g2, g3, g4⟩, b1, b2⟩ := ih _ _ _ _ _ _ _ _ _ hc hF ls3 (w.toList ++ rest3) h' fs2 y3 (se_toList x2 y4) hh hfs
                    exact ⟨C, D, ⟨1, w, h', 0, 0, C, D, run1, ⟨n2, r, h2, c2, d2, C2, D2, g1, g2, g3, g4⟩, by omega, by omega⟩, b1, b2⟩
end SEB
