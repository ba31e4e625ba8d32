/-- cells of a first order: a row of zeros with what was written (its kind, its length, where its rows begin, the writes), or an object -/
abbrev cr_E : Type := (Nat × Nat × Nat × List (Nat × Int32)) ⊕ (Nat × List Value)
abbrev cr_H : Type := List cr_E
def cr_f : List (Nat × Int32) → Nat → Int32
  | [] => fun _ => 0
  | q :: us => upd (cr_f us) q.1 q.2
def cr_c : cr_E → rm_E
  | .inl (t, n, b, us) => if t = 4 then .inl (4, n, .inr (.inr (.inr (.inr (fun i => if i < n then some (b + 1 + i) else none))))) else if t = 3 then .inl (3, n, .inr (.inl (fun _ => 0))) else .inl (t, n, .inl (cr_f us))
  | .inr x => .inr x
def cr_h (h : cr_H) : rm_H := h.map cr_c
theorem cr_h_len (h : cr_H) : (cr_h h).length = h.length := by
  unfold cr_h
  rw [List.length_map]
theorem cr_h_at {h : cr_H} {a : Nat} {x : cr_E} (g : h[a]? = some x) : (cr_h h)[a]? = some (cr_c x) := by
  unfold cr_h
  rw [List.getElem?_map, g]
  rfl
theorem cr_h_app (h k : cr_H) : cr_h (h ++ k) = cr_h h ++ cr_h k := by
  unfold cr_h
  rw [List.map_append]
theorem cr_h_set (h : cr_H) (a : Nat) (x : cr_E) : cr_h (h.set a x) = (cr_h h).set a (cr_c x) := by
  unfold cr_h
  rw [List.map_set]
abbrev cr_R : Type := Option (cr_H × Nat × Nat)
def cr_add (c d : Nat) (r : cr_R) : cr_R := match r with
  | some (h, a, b) => some (h, c + a, d + b)
  | none => none
def cr_s2 (iM : Option Nat) (pl : Nat → Option rm_P) (ins : Instr) (pc : Nat) (st : List Value) (h : cr_H) : Option (Nat × List Value × cr_H × Nat × Nat) :=
  match ins with
  | .getfield idx => match pl idx with
    | some (0, ci, k, _) => match st with
      | .ref a :: r => match h[a]? with
        | some (.inr (cj, fs)) => if cj = ci then (match fs[k]? with
            | some v => some (pc + 3, v :: r, h, 0, 0)
            | none => none) else none
        | _ => none
      | _ => none
    | _ => none
  | .putfield idx => match pl idx with
    | some (0, ci, k, _) => match st with
      | v :: .ref a :: r => match h[a]? with
        | some (.inr (cj, fs)) => if cj = ci ∧ k < fs.length ∧ narrow (pg_ty ci k) v = v ∧ fits (pg_ty ci k) v = true ∧ (pg_fin ci k = false ∨ iM = some ci) then some (pc + 3, r, h.set a (.inr (cj, fs.set k v)), 0, 0) else none
        | _ => none
      | _ => none
    | _ => none
  | .ldc idx => match pl idx with
    | some (5, _, _, z) => some (pc + 2, .int (Int32.ofInt z) :: st, h, 0, 0)
    | _ => none
  | .ldc_w idx => match pl idx with
    | some (5, _, _, z) => some (pc + 3, .int (Int32.ofInt z) :: st, h, 0, 0)
    | _ => none
  | .new idx => match pl idx with
    | some (4, ci, _, _) => if h.length < rm_K then some (pc + 3, .ref h.length :: st, h ++ [.inr (ci, pg_df ci)], 1, (pg_df ci).length) else none
    | _ => none
  | .newarray t => match rm_at t, st with
    | some u, .int n :: r => if h.length < rm_K ∧ ¬ n < 0 ∧ n.toNatClampNeg * 8 ≤ 536870912 then some (pc + 2, .ref h.length :: r, h ++ [.inl (u, n.toNatClampNeg, 0, [])], 1, n.toNatClampNeg) else none
    | _, _ => none
  | .multianewarray idx 2 => match pl idx with
    | some (14, _, _, _) => match st with
      | .int k :: .int n :: r => if h.length + (1 + n.toNatClampNeg) ≤ rm_K ∧ ¬ n < 0 ∧ ¬ k < 0 ∧ n.toNatClampNeg * 4 ≤ 536870912 ∧ k.toNatClampNeg * 4 ≤ 536870912 then
          some (pc + 4, .ref h.length :: r, h ++ (.inl (4, n.toNatClampNeg, h.length, []) :: List.replicate n.toNatClampNeg (.inl (0, k.toNatClampNeg, 0, []))), 1 + n.toNatClampNeg, n.toNatClampNeg + n.toNatClampNeg * k.toNatClampNeg) else none
      | _ => none
    | _ => none
  | .bastore => match st with
    | .int x :: .int i :: .ref a :: r => match h[a]? with
      | some (.inl (2, n, b, us)) => if i < 0 ∨ n ≤ i.toNatClampNeg then none else some (pc + 1, r, h.set a (.inl (2, n, b, (i.toNatClampNeg, vp_nar .boolean x) :: us)), 0, 0)
      | _ => none
    | _ => none
  | _ => none
theorem rm_at_le {t : ArrayType} {u : Nat} (h : rm_at t = some u) : u ≤ 3 := by
  unfold rm_at at h
  split at h <;> cases h <;> decide
theorem cr_z {t : ArrayType} {u n : Nat} (h : rm_at t = some u) : cr_c (.inl (u, n, 0, [])) = .inl (u, rm_z u n) := by
  have hu := rm_at_le h
  unfold cr_c rm_z
  dsimp only
  rw [if_neg (show ¬ u = 4 by omega)]
  by_cases q : u = 3
  · subst q
    rfl
  · simp only [if_neg q]
    all_goals rfl
theorem cr_s2_ok {z : Bool} {L : Nat} {xs : Nat → Int32} {iM : Option Nat} {pl : Nat → Option rm_P} {ins : Instr} {pc : Nat} {ls : rm_L} {st : List Value} {h : cr_H} {x : Nat × List Value × cr_H × Nat × Nat} (hh : cr_s2 iM pl ins pc st h = some x) : rm_s2 (pg_G z L xs) pg_fin iM pl ins pc ls st (cr_h h) = some (x.1, ls, x.2.1, cr_h x.2.2.1, x.2.2.2) := by
  unfold cr_s2 at hh
  split at hh
  next idx =>
    split at hh
    next ci k w hp =>
      split at hh
      next a r =>
        split at hh
        next cj fs hg =>
          split at hh
          next hc =>
            split at hh
            next v hv =>
              cases hh
              rw [rm_s2, hp, cr_h_at hg]
              refine Eq.trans (b := if cj = ci then (match fs[k]? with
                | some v => some (pc + 3, ls, v :: r, cr_h h, 0, 0)
                | none => none) else none) rfl ?_
              rw [if_pos hc, hv]
              all_goals rfl
            next => cases hh
          next => cases hh
        next => cases hh
      next => cases hh
    next => cases hh
  next idx =>
    split at hh
    next ci k w hp =>
      split at hh
      next v a r =>
        split at hh
        next cj fs hg =>
          split at hh
          next hc =>
            cases hh
            rw [rm_s2, hp]
            refine Eq.trans (b := match (cr_h h)[a]? with
              | some (.inr (cj, fs)) => if cj = ci ∧ k < fs.length ∧ narrow (pg_ty ci k) v = v ∧ fits (pg_ty ci k) v = true ∧ (pg_fin ci k = false ∨ iM = some ci) then some (pc + 3, ls, r, (cr_h h).set a (.inr (cj, fs.set k v)), 0, 0) else none
              | _ => none) rfl ?_
            rw [cr_h_at hg]
            refine Eq.trans (b := if cj = ci ∧ k < fs.length ∧ narrow (pg_ty ci k) v = v ∧ fits (pg_ty ci k) v = true ∧ (pg_fin ci k = false ∨ iM = some ci) then some (pc + 3, ls, r, (cr_h h).set a (.inr (cj, fs.set k v)), 0, 0) else none) rfl ?_
            rw [if_pos hc, cr_h_set]
            all_goals rfl
          next => cases hh
        next => cases hh
      next => cases hh
    next => cases hh
  next idx =>
    split at hh
    next w hp =>
      cases hh
      unfold rm_s2
      dsimp only
      rw [hp]
      all_goals rfl
    next => cases hh
  next idx =>
    split at hh
    next w hp =>
      cases hh
      unfold rm_s2
      dsimp only
      rw [hp]
      all_goals rfl
    next => cases hh
  next idx =>
    split at hh
    next ci w1 w2 hp =>
      split at hh
      next hc =>
        cases hh
        rw [rm_s2, hp]
        refine Eq.trans (b := if (cr_h h).length < rm_K then some (pc + 3, ls, .ref (cr_h h).length :: st, cr_h h ++ [.inr (ci, pg_df ci)], 1, (pg_df ci).length) else none) rfl ?_
        rw [cr_h_len, if_pos hc, cr_h_app]
        all_goals rfl
      next => cases hh
    next => cases hh
  next t =>
    split at hh
    next u n r hu =>
      split at hh
      next hc =>
        cases hh
        unfold rm_s2
        dsimp only
        rw [hu]
        dsimp only
        rw [cr_h_len, if_pos hc, cr_h_app]
        show _ = some (pc + 2, ls, _, cr_h h ++ [cr_c (.inl (u, n.toNatClampNeg, 0, []))], 1, n.toNatClampNeg)
        rw [cr_z hu]
        all_goals rfl
      next => cases hh
    next => cases hh
  next idx =>
    split at hh
    next hp =>
      split at hh
      next k n r =>
        split at hh
        next hc =>
          cases hh
          rw [rm_s2, hp]
          refine Eq.trans (b := if (cr_h h).length + (1 + n.toNatClampNeg) ≤ rm_K ∧ ¬ n < 0 ∧ ¬ k < 0 ∧ n.toNatClampNeg * 4 ≤ 536870912 ∧ k.toNatClampNeg * 4 ≤ 536870912 then some (pc + 4, ls, .ref (cr_h h).length :: r, cr_h h ++ (.inl (4, n.toNatClampNeg, .inr (.inr (.inr (.inr (fun i => if i < n.toNatClampNeg then some ((cr_h h).length + 1 + i) else none))))) :: List.replicate n.toNatClampNeg (.inl (0, rm_z 0 k.toNatClampNeg))), 1 + n.toNatClampNeg, n.toNatClampNeg + n.toNatClampNeg * k.toNatClampNeg) else none) rfl ?_
          rw [cr_h_len, if_pos hc, cr_h_app]
          have q : cr_h (.inl (4, n.toNatClampNeg, h.length, []) :: List.replicate n.toNatClampNeg (.inl (0, k.toNatClampNeg, 0, []))) = .inl (4, n.toNatClampNeg, .inr (.inr (.inr (.inr (fun i => if i < n.toNatClampNeg then some (h.length + 1 + i) else none))))) :: List.replicate n.toNatClampNeg (.inl (0, rm_z 0 k.toNatClampNeg)) := by
            unfold cr_h
            rw [List.map_cons, List.map_replicate]
            all_goals rfl
          rw [q]
          all_goals rfl
        next => cases hh
      next => cases hh
    next => cases hh
  next =>
    split at hh
    next w i a r =>
      split at hh
      next n b us hg =>
        split at hh
        next => cases hh
        next hc =>
          cases hh
          unfold rm_s2
          dsimp only
          rw [cr_h_at hg]
          show (if i < 0 ∨ n ≤ i.toNatClampNeg then none else some (pc + 1, ls, r, (cr_h h).set a (.inl (2, n, .inl (upd (cr_f us) i.toNatClampNeg (vp_nar .boolean w)))), 0, 0)) = _
          rw [if_neg hc, cr_h_set]
          all_goals rfl
      next => cases hh
    next => cases hh
  next => cases hh
def cr_s3 (pr : Nat → Option rm_M) (M : rm_M) (ins : Instr) (st : List Value) : Option (Nat × List Value × List Value) :=
  match ins with
  | .invokespecial idx => rm_s3 ((pg_cl, pg_ty, pg_df), (23, (fun _ => none), pg_sr), (pg_si, [], pg_nl), pg_TW) pr M (.invokespecial idx) st []
  | _ => none
def cr_s4 (M : rm_M) (ins : Instr) (st : List Value) : Option (List Value) :=
  match ins with
  | .invokespecial idx => (rm_s4 M (.invokespecial idx) st []).map (fun x => x.1)
  | _ => none
theorem cr_s3_ok {z : Bool} {L : Nat} {xs : Nat → Int32} {pr : Nat → Option rm_M} {M : rm_M} {ins : Instr} {st : List Value} {h : rm_H} {x : Nat × List Value × List Value} (hh : cr_s3 pr M ins st = some x) : (∃ idx, ins = .invokespecial idx) ∧ rm_s3 (pg_G z L xs) pr M ins st h = some x := by
  unfold cr_s3 at hh
  split at hh
  next idx => exact ⟨⟨idx, rfl⟩, hh⟩
  next => cases hh
theorem cr_s4_ok {z : Bool} {L : Nat} {xs : Nat → Int32} {pr : Nat → Option rm_M} {M : rm_M} {ins : Instr} {st r : List Value} {h : rm_H} (hh : cr_s4 M ins st = some r) : (∃ idx, ins = .invokespecial idx) ∧ rm_s3 (pg_G z L xs) pr M ins st h = none ∧ rm_s4 M ins st h = some (r, h) := by
  unfold cr_s4 at hh
  split at hh
  next idx =>
    unfold rm_s4 at hh
    dsimp only at hh
    split at hh
    next w hp =>
      split at hh
      next a b =>
        split at hh
        next hc =>
          have hh : some b = some r := hh
          cases hh
          refine ⟨⟨idx, rfl⟩, ?_, ?_⟩
          · unfold rm_s3
            dsimp only
            rw [hp]
            all_goals rfl
          · unfold rm_s4
            dsimp only
            rw [hp]
            exact if_pos hc
        next => cases hh
      next => cases hh
    next => cases hh
  next => cases hh
def cr_run (pr : Nat → Option rm_M) : Nat → rm_M → Nat → rm_L → List Value → cr_H → cr_R
  | 0, _, _, _, _, _ => none
  | n + 1, M, pc, ls, st, h =>
    match rm_mb M pc with
    | none => none
    | some ins =>
      match rm_s1 (rm_mx M) ins pc ls st with
      | some x => cr_run pr n M x.1 x.2.1 x.2.2 h
      | none =>
        match cr_s2 (rm_iM M) (rm_mp M) ins pc st h with
        | some x => cr_add x.2.2.2.1 x.2.2.2.2 (cr_run pr n M x.1 ls x.2.1 x.2.2.1)
        | none =>
          match cr_s3 pr M ins st with
          | some (j, as, rest) =>
            match pr j with
            | none => none
            | some M' =>
              match cr_run pr n M' 0 (lv_args 0 as) [] h with
              | none => none
              | some (h1, c1, d1) => cr_add c1 d1 (cr_run pr n M (pc + 3) ls rest h1)
          | none =>
            match cr_s4 M ins st with
            | some r => cr_run pr n M (pc + 3) ls r h
            | none =>
              match ins, st with
              | .return_, [] => if rm_mr M = none then some (h, 0, 0) else none
              | _, _ => none
theorem cr_addE {c d : Nat} {r : cr_R} {h : cr_H} {a b : Nat} (q : cr_add c d r = some (h, a, b)) : ∃ a' b', r = some (h, a', b') ∧ a = c + a' ∧ b = d + b' := by
  cases r with
  | none => cases q
  | some y =>
    obtain ⟨h1, a1, b1⟩ := y
    cases q
    exact ⟨a1, b1, rfl, rfl, rfl⟩
set_option maxHeartbeats 4000000 in
theorem cr_ok {z : Bool} {L : Nat} {xs : Nat → Int32} {pr : Nat → Option rm_M} : ∀ (n : Nat) (M : rm_M) (pc : Nat) (ls : rm_L) (st : List Value) (h h2 : cr_H) (c d : Nat), cr_run pr n M pc ls st h = some (h2, c, d) → rm_run (pg_G z L xs) pg_fin pr n M pc ls st (cr_h h) = some (none, cr_h h2, c, d) := by
  intro n
  induction n with
  | zero => intro M pc ls st h h2 c d hr; cases hr
  | succ n ih =>
    intro M pc ls st h h2 c d hr
    unfold cr_run at hr
    cases h0 : rm_mb M pc with
    | none => rw [h0] at hr; cases hr
    | some ins =>
      rw [h0] at hr
      dsimp only at hr
      cases h1 : rm_s1 (rm_mx M) ins pc ls st with
      | some x =>
        rw [h1] at hr
        rw [rm_b1 h0 h1]
        exact ih _ _ _ _ _ _ _ _ hr
      | none =>
        rw [h1] at hr
        dsimp only at hr
        cases e2 : cr_s2 (rm_iM M) (rm_mp M) ins pc st h with
        | some x =>
          rw [e2] at hr
          dsimp only at hr
          obtain ⟨a', b', e1, rfl, rfl⟩ := cr_addE hr
          rw [rm_b2 h0 h1 (cr_s2_ok (z := z) (L := L) (xs := xs) (ls := ls) e2)]
          show rm_add x.2.2.2.1 x.2.2.2.2 (rm_run (pg_G z L xs) pg_fin pr n M x.1 ls x.2.1 (cr_h x.2.2.1)) = _
          rw [ih _ _ _ _ _ _ _ _ e1]
          rfl
        | none =>
          rw [e2] at hr
          dsimp only at hr
          cases e3 : cr_s3 pr M ins st with
          | some x =>
            obtain ⟨j, as, rest⟩ := x
            rw [e3] at hr
            dsimp only at hr
            obtain ⟨⟨idx, rfl⟩, s3⟩ := cr_s3_ok (z := z) (L := L) (xs := xs) (h := cr_h h) e3
            cases h4 : pr j with
            | none => rw [h4] at hr; cases hr
            | some M' =>
              rw [h4] at hr
              dsimp only at hr
              cases h5 : cr_run pr n M' 0 (lv_args 0 as) [] h with
              | none => rw [h5] at hr; cases hr
              | some y =>
                obtain ⟨h6, c1, d1⟩ := y
                rw [h5] at hr
                dsimp only at hr
                obtain ⟨a', b', e1, rfl, rfl⟩ := cr_addE hr
                rw [rm_b3 (G := pg_G z L xs) (fin := pg_fin) h0 h1 rfl s3 h4 (ih _ _ _ _ _ _ _ _ h5)]
                show rm_add c1 d1 (rm_run (pg_G z L xs) pg_fin pr n M (pc + 3) ls rest (cr_h h6)) = _
                rw [ih _ _ _ _ _ _ _ _ e1]
                rfl
          | none =>
            rw [e3] at hr
            dsimp only at hr
            cases e4 : cr_s4 M ins st with
            | some r =>
              rw [e4] at hr
              dsimp only at hr
              obtain ⟨⟨idx, rfl⟩, s3, s4⟩ := cr_s4_ok (z := z) (L := L) (xs := xs) (pr := pr) (h := cr_h h) e4
              rw [rm_b4 (G := pg_G z L xs) (fin := pg_fin) h0 h1 rfl s3 s4]
              exact ih _ _ _ _ _ _ _ _ hr
            | none =>
              rw [e4] at hr
              dsimp only at hr
              split at hr
              next =>
                split at hr
                next hm =>
                  cases hr
                  exact rm_b5 h0 h1 rfl rfl rfl (if_pos hm)
                next => cases hr
              next => cases hr
