abbrev rm_M : Type := MethodName × ByteArray × Nat × Option FieldType × (Nat × Nat × Nat) × (Nat × Nat) × String × (Nat → Option Instr) × (Nat → Option rm_P)
def rm_my (M : rm_M) : MethodName := M.1
def rm_mc (M : rm_M) : ByteArray := M.2.1
def rm_mx (M : rm_M) : Nat := M.2.2.1
def rm_mr (M : rm_M) : Option FieldType := M.2.2.2.1
def rm_mn (M : rm_M) : Nat := M.2.2.2.2.1.1
def rm_mk (M : rm_M) : Nat := M.2.2.2.2.1.2.1
def rm_mi (M : rm_M) : Nat := M.2.2.2.2.1.2.2
def rm_mf (M : rm_M) : Nat := M.2.2.2.2.2.1.1
def rm_ml (M : rm_M) : Nat := M.2.2.2.2.2.1.2
def rm_mo (M : rm_M) : String := M.2.2.2.2.2.2.1
def rm_mb (M : rm_M) : Nat → Option Instr := M.2.2.2.2.2.2.2.1
def rm_mp (M : rm_M) : Nat → Option rm_P := M.2.2.2.2.2.2.2.2
def rm_iM (M : rm_M) : Option Nat := if rm_mk M = 2 then some (rm_mi M) else none
def rm_Str : Nat := 1000
def rm_cat (st : List Value) : Nat := (st.map fun v => v.category).sum
def rm_is (G : rm_G) (h : rm_H) (b ci : Nat) : Bool :=
  if ci = rm_Str then decide (rm_K ≤ b) && (decide ((b - rm_K) % 2 = 0) && decide ((b - rm_K) / 2 < rm_nS G))
  else match h[b]? with
    | some (.inr (cj, _)) => decide (cj = ci)
    | _ => false
def rm_may (M M' : rm_M) (as rest : List Value) : Bool :=
  decide (rm_mf M' + 1 ≤ rm_mf M) && (decide (8 + (rm_mx M' + 11) + rm_ml M' ≤ rm_ml M) && (decide (rm_cat rest ≤ 8) && decide ((lg_sl as).length ≤ rm_mx M')))
def rm_s3 (G : rm_G) (pr : Nat → Option rm_M) (M : rm_M) (ins : Instr) (st : List Value) (h : rm_H) : Option (Nat × List Value × List Value) :=
  match ins with
  | .invokevirtual idx => match rm_mp M idx with
    | some (2, j, _, _) => match pr j with
      | some M' => if rm_mk M' = 0 ∧ (st.take (rm_mn M')).length = rm_mn M' then (match st.drop (rm_mn M') with
        | .ref b :: rest => if rm_is G h b (rm_mi M') && rm_may M M' (.ref b :: (st.take (rm_mn M')).reverse) rest then some (j, .ref b :: (st.take (rm_mn M')).reverse, rest) else none
        | _ => none) else none
      | none => none
    | _ => none
  | .invokestatic idx => match rm_mp M idx with
    | some (2, j, _, _) => match pr j with
      | some M' => if rm_mk M' = 1 ∧ (st.take (rm_mn M')).length = rm_mn M' then (if rm_may M M' (st.take (rm_mn M')).reverse (st.drop (rm_mn M')) then some (j, (st.take (rm_mn M')).reverse, st.drop (rm_mn M')) else none) else none
      | none => none
    | some (3, j, _, _) => match pr j with
      | some M' => if rm_mk M' = 1 ∧ (st.take (rm_mn M')).length = rm_mn M' then (if rm_may M M' (st.take (rm_mn M')).reverse (st.drop (rm_mn M')) then some (j, (st.take (rm_mn M')).reverse, st.drop (rm_mn M')) else none) else none
      | none => none
    | _ => none
  | .invokespecial idx => match rm_mp M idx with
    | some (2, j, _, _) => match pr j with
      | some M' => if rm_mk M' = 2 ∧ (st.take (rm_mn M')).length = rm_mn M' then (match st.drop (rm_mn M') with
        | .ref b :: rest => if rm_may M M' (.ref b :: (st.take (rm_mn M')).reverse) rest then some (j, .ref b :: (st.take (rm_mn M')).reverse, rest) else none
        | _ => none) else none
      | none => none
    | some (3, j, _, _) => match pr j with
      | some M' => if rm_mk M' = 2 ∧ (st.take (rm_mn M')).length = rm_mn M' then (match st.drop (rm_mn M') with
        | .ref b :: rest => if rm_may M M' (.ref b :: (st.take (rm_mn M')).reverse) rest then some (j, .ref b :: (st.take (rm_mn M')).reverse, rest) else none
        | _ => none) else none
      | none => none
    | _ => none
  | _ => none
def rm_s4 (M : rm_M) (ins : Instr) (st : List Value) (h : rm_H) : Option (List Value × rm_H) :=
  match ins with
  | .invokespecial idx => match rm_mp M idx with
    | some (11, _, _, _) => match st with
      | .ref _ :: r => if 1 ≤ rm_mf M ∧ rm_cat r + 12 ≤ rm_ml M then some (r, h) else none
      | _ => none
    | _ => none
  | .invokestatic idx => match rm_mp M idx with
    | some (12, _, _, _) => match st with
      | .int n :: .int dp :: .ref a :: .int sp :: .ref a0 :: r => match h[a0]?, h[a]? with
        | some (.inl (t0, n0, .inl f)), some (.inl (t1, n1, .inl g)) =>
          if t0 < 2 ∧ t0 = t1 ∧ ¬ sp < 0 ∧ ¬ dp < 0 ∧ ¬ n < 0 ∧ sp.toNatClampNeg + n.toNatClampNeg ≤ n0 ∧ dp.toNatClampNeg + n.toNatClampNeg ≤ n1 ∧ (t0 = 0 ∨ (List.range n.toNatClampNeg).all (fun i => fits .byte (.int (f (sp.toNatClampNeg + i)))) = true) ∧ 1 ≤ rm_mf M ∧ rm_cat r + (nativeFrameWords "java/lang/System" "arraycopy" 5 + 11) ≤ rm_ml M
          then some (r, h.set a (.inl (t1, n1, .inl (va_cpy f g sp.toNatClampNeg dp.toNatClampNeg n.toNatClampNeg)))) else none
        | _, _ => none
      | _ => none
    | some (17, _, _, _) => match st with
      | .int y :: .int x :: r => if 1 ≤ rm_mf M ∧ rm_cat r + 13 ≤ rm_ml M then some (.int (if x < y then y else x) :: r, h) else none
      | _ => none
    | some (18, _, _, _) => match st with
      | .int y :: .int x :: r => if 1 ≤ rm_mf M ∧ rm_cat r + 13 ≤ rm_ml M then some (.int (if y < x then y else x) :: r, h) else none
      | _ => none
    | _ => none
  | _ => none
def rm_s5 (M : rm_M) (ins : Instr) (st : List Value) : Option (Option Value) :=
  match ins with
  | .return_ => match st with
    | [] => if rm_mr M = none then some none else none
    | _ => none
  | .ireturn => match st with
    | [.int v] => match rm_mr M with
      | some ty => if narrow ty (.int v) = .int v then some (some (.int v)) else none
      | none => none
    | _ => none
  | .lreturn => match st with
    | [.long v] => if rm_mr M = some .long then some (some (.long v)) else none
    | _ => none
  | _ => none
abbrev rm_R : Type := Option (Option Value × rm_H × Nat × Nat)
def rm_add (c d : Nat) (r : rm_R) : rm_R := match r with
  | some (v, h, a, b) => some (v, h, c + a, d + b)
  | none => none
def rm_run (G : rm_G) (fin : Nat → Nat → Bool) (pr : Nat → Option rm_M) : Nat → rm_M → Nat → rm_L → List Value → rm_H → rm_R
  | 0, _, _, _, _, _ => none
  | n + 1, M, pc, ls, st, h =>
    match rm_mb M pc with
    | none => none
    | some ins =>
      match rm_s1 (rm_mx M) ins pc ls st with
      | some x => rm_run G fin pr n M x.1 x.2.1 x.2.2 h
      | none =>
        match rm_s2 G fin (rm_iM M) (rm_mp M) ins pc ls st h with
        | some x => rm_add x.2.2.2.2.1 x.2.2.2.2.2 (rm_run G fin pr n M x.1 x.2.1 x.2.2.1 x.2.2.2.1)
        | none =>
          match rm_s3 G pr M ins st h with
          | some (j, as, rest) =>
            match pr j with
            | none => none
            | some M' =>
              match rm_run G fin pr n M' 0 (lv_args 0 as) [] h with
              | none => none
              | some (v, h1, c1, d1) => rm_add c1 d1 (rm_run G fin pr n M (pc + 3) ls (v.toList ++ rest) h1)
          | none =>
            match rm_s4 M ins st h with
            | some x => rm_run G fin pr n M (pc + 3) ls x.1 x.2
            | none =>
              match rm_s5 M ins st with
              | some v => some (v, h, 0, 0)
              | none => none
