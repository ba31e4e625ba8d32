section SEB
variable {G : rm_G} {fin : Nat → Nat → Bool} {pr : Nat → Option rm_M}
set_option maxHeartbeats 4000000 in
theorem rm_mono1 : ∀ (n : Nat) (M : rm_M) (pc : Nat) (ls : rm_L) (st : List Value) (h : rm_H) (r : Option Value × rm_H × Nat × Nat), rm_run G fin pr n M pc ls st h = some r → rm_run G fin pr (n + 1) M pc ls st h = some r := by
  intro n
  induction n with
  | zero => intro M pc ls st h r hr; cases hr
  | succ n ih =>
    intro M pc ls st h r hr
    unfold rm_run at hr ⊢
    cases h0 : rm_mb M pc with
    | none => rw [h0] at hr; cases hr
    | some ins =>
      rw [h0] at hr
      dsimp only at hr ⊢
      cases h1 : rm_s1 (rm_mx M) ins pc ls st with
      | some x => rw [h1] at hr; exact ih _ _ _ _ _ _ hr
      | none =>
        rw [h1] at hr
        dsimp only at hr ⊢
        cases h2 : rm_s2 G fin (rm_iM M) (rm_mp M) ins pc ls st h with
        | some x =>
          rw [h2] at hr
          dsimp only at hr ⊢
          obtain ⟨v, h9, a, b⟩ := r
          obtain ⟨a', b', e1, rfl, rfl⟩ := rm_addE hr
          rw [ih _ _ _ _ _ _ e1]
          rfl
        | none =>
          rw [h2] at hr
          dsimp only at hr ⊢
          cases h3 : rm_s3 G pr M ins st h with
          | some x =>
            obtain ⟨j, as, rest⟩ := x
            rw [h3] at hr
            dsimp only at hr ⊢
            cases h4 : pr j with
            | none => rw [h4] at hr; cases hr
            | some M' =>
              rw [h4] at hr
              dsimp only at hr ⊢
              cases h5 : rm_run G fin pr n M' 0 (lv_args 0 as) [] h with
              | none => rw [h5] at hr; cases hr
              | some y =>
                obtain ⟨v1, h6, c1, d1⟩ := y
                rw [h5] at hr
                dsimp only at hr
                rw [ih _ _ _ _ _ _ h5]
                dsimp only
                obtain ⟨v, h9, a, b⟩ := r
                obtain ⟨a', b', e1, rfl, rfl⟩ := rm_addE hr
                rw [ih _ _ _ _ _ _ e1]
                rfl
          | none =>
            rw [h3] at hr
            dsimp only at hr ⊢
            cases h4 : rm_s4 M ins st h with
            | some x => rw [h4] at hr; exact ih _ _ _ _ _ _ hr
            | none =>
              rw [h4] at hr
              dsimp only at hr ⊢
              exact hr
theorem rm_mono {n m : Nat} (hnm : n ≤ m) {M : rm_M} {pc : Nat} {ls : rm_L} {st : List Value} {h : rm_H} {r : Option Value × rm_H × Nat × Nat} (hr : rm_run G fin pr n M pc ls st h = some r) : rm_run G fin pr m M pc ls st h = some r := by
  induction hnm with
  | refl => exact hr
  | step _ ih => exact rm_mono1 _ _ _ _ _ _ _ ih
theorem rm_b1 {n : Nat} {M : rm_M} {pc : Nat} {ls : rm_L} {st : List Value} {h : rm_H} {ins : Instr} {x : Nat × rm_L × List Value} (h0 : rm_mb M pc = some ins) (h1 : rm_s1 (rm_mx M) ins pc ls st = some x) : rm_run G fin pr (n + 1) M pc ls st h = rm_run G fin pr n M x.1 x.2.1 x.2.2 h := by
  rw [rm_run, h0]
  dsimp only
  rw [h1]
theorem rm_b2 {n : Nat} {M : rm_M} {pc : Nat} {ls : rm_L} {st : List Value} {h : rm_H} {ins : Instr} {x : Nat × rm_L × List Value × rm_H × Nat × Nat} (h0 : rm_mb M pc = some ins) (h1 : rm_s1 (rm_mx M) ins pc ls st = none) (h2 : rm_s2 G fin (rm_iM M) (rm_mp M) ins pc ls st h = some x) : rm_run G fin pr (n + 1) M pc ls st h = rm_add x.2.2.2.2.1 x.2.2.2.2.2 (rm_run G fin pr n M x.1 x.2.1 x.2.2.1 x.2.2.2.1) := by
  rw [rm_run, h0]
  dsimp only
  rw [h1]
  dsimp only
  rw [h2]
theorem rm_b3 {n j : Nat} {M M' : rm_M} {pc : Nat} {ls : rm_L} {st as rest : List Value} {h h1 : rm_H} {ins : Instr} {v : Option Value} {c1 d1 : Nat} (h0 : rm_mb M pc = some ins) (e1 : rm_s1 (rm_mx M) ins pc ls st = none) (e2 : rm_s2 G fin (rm_iM M) (rm_mp M) ins pc ls st h = none) (e3 : rm_s3 G pr M ins st h = some (j, as, rest)) (hj : pr j = some M') (hr : rm_run G fin pr n M' 0 (lv_args 0 as) [] h = some (v, h1, c1, d1)) :
    rm_run G fin pr (n + 1) M pc ls st h = rm_add c1 d1 (rm_run G fin pr n M (pc + 3) ls (v.toList ++ rest) h1) := by
  rw [rm_run, h0]
  dsimp only
  rw [e1]
  dsimp only
  rw [e2]
  dsimp only
  rw [e3]
  dsimp only
  rw [hj]
  dsimp only
  rw [hr]
theorem rm_b4 {n : Nat} {M : rm_M} {pc : Nat} {ls : rm_L} {st : List Value} {h : rm_H} {ins : Instr} {x : List Value × rm_H} (h0 : rm_mb M pc = some ins) (e1 : rm_s1 (rm_mx M) ins pc ls st = none) (e2 : rm_s2 G fin (rm_iM M) (rm_mp M) ins pc ls st h = none) (e3 : rm_s3 G pr M ins st h = none) (e4 : rm_s4 M ins st h = some x) :
    rm_run G fin pr (n + 1) M pc ls st h = rm_run G fin pr n M (pc + 3) ls x.1 x.2 := by
  rw [rm_run, h0]
  dsimp only
  rw [e1]
  dsimp only
  rw [e2]
  dsimp only
  rw [e3]
  dsimp only
  rw [e4]
theorem rm_b5 {n : Nat} {M : rm_M} {pc : Nat} {ls : rm_L} {st : List Value} {h : rm_H} {ins : Instr} {v : Option Value} (h0 : rm_mb M pc = some ins) (e1 : rm_s1 (rm_mx M) ins pc ls st = none) (e2 : rm_s2 G fin (rm_iM M) (rm_mp M) ins pc ls st h = none) (e3 : rm_s3 G pr M ins st h = none) (e4 : rm_s4 M ins st h = none) (e5 : rm_s5 M ins st = some v) :
    rm_run G fin pr (n + 1) M pc ls st h = some (v, h, 0, 0) := by
  rw [rm_run, h0]
  dsimp only
  rw [e1]
  dsimp only
  rw [e2]
  dsimp only
  rw [e3]
  dsimp only
  rw [e4]
  dsimp only
  rw [e5]
/-- which step an instruction takes: each of one sort alone -/
theorem rm_s2_1 {mx : Nat} {iM : Option Nat} {pl : Nat → Option rm_P} {ins : Instr} {pc : Nat} {ls : rm_L} {st : List Value} {h : rm_H} {x : Nat × rm_L × List Value × rm_H × Nat × Nat} (hx : rm_s2 G fin iM pl ins pc ls st h = some x) : rm_s1 mx ins pc ls st = none := by
  unfold rm_s2 at hx
  split at hx <;> first | rfl | (cases hx)
theorem rm_s3_1 {M : rm_M} {mx : Nat} {iM : Option Nat} {pl : Nat → Option rm_P} {ins : Instr} {pc : Nat} {ls : rm_L} {st : List Value} {h : rm_H} {x : Nat × List Value × List Value} (hx : rm_s3 G pr M ins st h = some x) : rm_s1 mx ins pc ls st = none ∧ rm_s2 G fin iM pl ins pc ls st h = none := by
  unfold rm_s3 at hx
  split at hx <;> first | exact ⟨rfl, rfl⟩ | (cases hx)
theorem rm_s4_1 {M : rm_M} {mx : Nat} {iM : Option Nat} {pl : Nat → Option rm_P} {ins : Instr} {pc : Nat} {ls : rm_L} {st : List Value} {h : rm_H} {x : List Value × rm_H} (hx : rm_s4 M ins st h = some x) : rm_s1 mx ins pc ls st = none ∧ rm_s2 G fin iM pl ins pc ls st h = none ∧ rm_s3 G pr M ins st h = none := by
  unfold rm_s4 at hx
  split at hx
  next idx =>
    split at hx
    next hp => exact ⟨rfl, rfl, by simp only [rm_s3, hp]⟩
    next => cases hx
  next idx =>
    split at hx
    next hp => exact ⟨rfl, rfl, by simp only [rm_s3, hp]⟩
    next hp => exact ⟨rfl, rfl, by simp only [rm_s3, hp]⟩
    next hp => exact ⟨rfl, rfl, by simp only [rm_s3, hp]⟩
    next => cases hx
  next => cases hx
theorem rm_s5_1 {M : rm_M} {mx : Nat} {iM : Option Nat} {pl : Nat → Option rm_P} {ins : Instr} {pc : Nat} {ls : rm_L} {st : List Value} {h : rm_H} {x : Option Value} (hx : rm_s5 M ins st = some x) : rm_s1 mx ins pc ls st = none ∧ rm_s2 G fin iM pl ins pc ls st h = none ∧ rm_s3 G pr M ins st h = none ∧ rm_s4 M ins st h = none := by
  unfold rm_s5 at hx
  split at hx <;> first | exact ⟨rfl, rfl, rfl, rfl⟩ | (cases hx)
end SEB
