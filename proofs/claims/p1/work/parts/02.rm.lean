abbrev rm_L : Type := List (Nat × Value)
def rm_v (ad : Nat → Nat) : Value → Value
  | .ref a => .ref (ad a)
  | v => v
theorem rm_v_cat (ad : Nat → Nat) (v : Value) : (rm_v ad v).category = v.category := by cases v <;> rfl
def rm_vl (ad : Nat → Nat) (ls : rm_L) : List (Nat × Value) := ls.map (fun q => (q.1, rm_v ad q.2))
def rm_get (ls : rm_L) (i : Nat) : Option Value := (ls.find? (fun q => q.1 == i)).map (fun q => q.2)
def rm_set1 (ls : rm_L) (i : Nat) (v : Value) : rm_L := (i, v) :: ls.filter (fun q => !(q.1 == i) && !(q.1 + 1 == i && q.2.category == 2))
def rm_set2 (ls : rm_L) (i : Nat) (v : Value) : rm_L := (i, v) :: ls.filter (fun q => !(q.1 == i) && (!(q.1 == i + 1) && !(q.1 + 1 == i && q.2.category == 2)))
theorem rm_get_mem {ls : rm_L} {i : Nat} {v : Value} (h : rm_get ls i = some v) : (i, v) ∈ ls := by
  unfold rm_get at h
  cases hf : ls.find? (fun q => q.1 == i) with
  | none => rw [hf] at h; cases h
  | some q =>
    rw [hf] at h
    have h1 := List.find?_some hf
    have h2 := List.mem_of_find?_eq_some hf
    obtain ⟨j, w⟩ := q
    simp at h h1
    subst h1; subst h
    exact h2
theorem rm_get_has {ad : Nat → Nat} {arr : Array Slot} {nL : Nat} {ls : rm_L} {i : Nat} {v : Value} (hl : lv_has arr nL (rm_vl ad ls)) (h : rm_get ls i = some v) : arr[i]? = some (.val (rm_v ad v)) :=
  hl.2.2 (i, rm_v ad v) (List.mem_map.mpr ⟨(i, v), rm_get_mem h, rfl⟩)
theorem rm_get_pos {ad : Nat → Nat} {ls : rm_L} {i : Nat} {v : Value} (h : rm_get ls i = some v) : ∃ k : Nat, (rm_vl ad ls)[k]? = some (i, rm_v ad v) := by
  have h1 : (i, rm_v ad v) ∈ rm_vl ad ls := List.mem_map.mpr ⟨(i, v), rm_get_mem h, rfl⟩
  exact List.getElem?_of_mem h1
theorem rm_set1_vl (ad : Nat → Nat) (ls : rm_L) (i : Nat) (v : Value) : (i, rm_v ad v) :: (rm_vl ad ls).filter (fun q => !(q.1 == i) && !(q.1 + 1 == i && q.2.category == 2)) = rm_vl ad (rm_set1 ls i v) := by
  unfold rm_set1 rm_vl
  rw [List.map_cons, List.filter_map]
  congr 2
  apply List.filter_congr
  intro q _
  simp [rm_v_cat]
theorem rm_set2_vl (ad : Nat → Nat) (ls : rm_L) (i : Nat) (v : Value) : (i, rm_v ad v) :: (rm_vl ad ls).filter (fun q => !(q.1 == i) && (!(q.1 == i + 1) && !(q.1 + 1 == i && q.2.category == 2))) = rm_vl ad (rm_set2 ls i v) := by
  unfold rm_set2 rm_vl
  rw [List.map_cons, List.filter_map]
  congr 2
  apply List.filter_congr
  intro q _
  simp [rm_v_cat]
def rm_tg (pc : Nat) (off : Int) : Option Nat := match (pc : Int) + off with
  | .ofNat n => some n
  | .negSucc _ => none
theorem rm_tg_eq {pc : Nat} {off : Int} {t : Nat} (h : rm_tg pc off = some t) : (pc : Int) + off = (t : Int) := by
  unfold rm_tg at h
  split at h
  next n hn => cases h; exact hn
  next => cases h
abbrev rm_N : Type := Option (Nat × rm_L × List Value)
def rm_br (pc : Nat) (off : Int) (ls : rm_L) (st : List Value) (b : Bool) : rm_N :=
  match rm_tg pc off with
  | some t => some (cond b t (pc + 3), ls, st)
  | none => none
theorem rm_br_e {pc : Nat} {off : Int} {ls : rm_L} {st : List Value} {b : Bool} {x : Nat × rm_L × List Value} (h : rm_br pc off ls st b = some x) : ∃ t : Nat, (pc : Int) + off = (t : Int) ∧ x = (cond b t (pc + 3), ls, st) := by
  unfold rm_br at h
  cases ht : rm_tg pc off with
  | none => rw [ht] at h; cases h
  | some t => rw [ht] at h; cases h; exact ⟨t, rm_tg_eq ht, rfl⟩
def rm_cb (c : ClassFile.Cond) (x y : Int32) : Bool :=
  match c with
  | .eq => decide (x = y)
  | .ne => !(decide (x = y))
  | .lt => decide (x < y)
  | .ge => decide (y ≤ x)
  | .gt => decide (y < x)
  | .le => decide (x ≤ y)
def rm_i2 (pc : Nat) (ls : rm_L) (st : List Value) (f : Int32 → Int32 → Int32) : rm_N :=
  match st with
  | .int y :: .int x :: r => some (pc + 1, ls, .int (f x y) :: r)
  | _ => none
def rm_l2 (pc : Nat) (ls : rm_L) (st : List Value) (f : Int64 → Int64 → Int64) : rm_N :=
  match st with
  | .long y :: .long x :: r => some (pc + 1, ls, .long (f x y) :: r)
  | _ => none
def rm_ld (pc d : Nat) (ls : rm_L) (st : List Value) (i : Nat) (k : Nat) : rm_N :=
  match rm_get ls i, k with
  | some (.int x), 0 => some (pc + d, ls, .int x :: st)
  | some (.long x), 1 => some (pc + d, ls, .long x :: st)
  | some (.ref x), 2 => some (pc + d, ls, .ref x :: st)
  | _, _ => none
def rm_st (mx pc d : Nat) (ls : rm_L) (st : List Value) (i : Nat) (k : Nat) : rm_N :=
  match st, k with
  | .int x :: r, 0 => if i < mx then some (pc + d, rm_set1 ls i (.int x), r) else none
  | .long x :: r, 1 => if i + 1 < mx then some (pc + d, rm_set2 ls i (.long x), r) else none
  | .ref x :: r, 2 => if i < mx then some (pc + d, rm_set1 ls i (.ref x), r) else none
  | _, _ => none
def rm_s1 (mx : Nat) (ins : Instr) (pc : Nat) (ls : rm_L) (st : List Value) : rm_N :=
  match ins with
  | .iconst n => some (pc + 1, ls, .int (Int32.ofInt n) :: st)
  | .bipush n => some (pc + 2, ls, .int ((Int8.ofInt n).toInt32) :: st)
  | .sipush n => some (pc + 3, ls, .int ((Int16.ofInt n).toInt32) :: st)
  | .lconst n => some (pc + 1, ls, .long (Int64.ofNat (n : Nat)) :: st)
  | .iload_n k => rm_ld pc 1 ls st k 0
  | .iload i => rm_ld pc 2 ls st i 0
  | .lload_n k => rm_ld pc 1 ls st k 1
  | .lload i => rm_ld pc 2 ls st i 1
  | .aload_n k => rm_ld pc 1 ls st k 2
  | .aload i => rm_ld pc 2 ls st i 2
  | .istore_n k => rm_st mx pc 1 ls st k 0
  | .istore i => rm_st mx pc 2 ls st i 0
  | .lstore_n k => rm_st mx pc 1 ls st k 1
  | .lstore i => rm_st mx pc 2 ls st i 1
  | .astore_n k => rm_st mx pc 1 ls st k 2
  | .astore i => rm_st mx pc 2 ls st i 2
  | .iinc i n => match rm_get ls i with
    | some (.int x) => if i < mx then some (pc + 3, rm_set1 ls i (.int (x + Int32.ofInt n)), st) else none
    | _ => none
  | .iadd => rm_i2 pc ls st (fun x y => x + y)
  | .isub => rm_i2 pc ls st (fun x y => x - y)
  | .imul => rm_i2 pc ls st (fun x y => x * y)
  | .iand => rm_i2 pc ls st (fun x y => x &&& y)
  | .ior => rm_i2 pc ls st (fun x y => x ||| y)
  | .ishl => rm_i2 pc ls st (fun x y => x <<< (y &&& 31))
  | .ishr => rm_i2 pc ls st (fun x y => x >>> (y &&& 31))
  | .idiv => match st with
    | .int y :: .int x :: r => if y = 0 then none else some (pc + 1, ls, .int (x / y) :: r)
    | _ => none
  | .irem => match st with
    | .int y :: .int x :: r => if y = 0 then none else some (pc + 1, ls, .int (x - x / y * y) :: r)
    | _ => none
  | .ladd => rm_l2 pc ls st (fun x y => x + y)
  | .lmul => rm_l2 pc ls st (fun x y => x * y)
  | .lcmp => match st with
    | .long y :: .long x :: r => some (pc + 1, ls, .int (lg_cmp x y) :: r)
    | _ => none
  | .i2l => match st with
    | .int x :: r => some (pc + 1, ls, .long x.toInt64 :: r)
    | _ => none
  | .i2b => match st with
    | .int x :: r => some (pc + 1, ls, .int x.toInt8.toInt32 :: r)
    | _ => none
  | .i2c => match st with
    | .int x :: r => some (pc + 1, ls, .int (x.toUInt32 % 65536).toInt32 :: r)
    | _ => none
  | .dup => match st with
    | v :: r => if v.category = 1 then some (pc + 1, ls, v :: v :: r) else none
    | _ => none
  | .pop => match st with
    | v :: r => if v.category = 1 then some (pc + 1, ls, r) else none
    | _ => none
  | .dup2 => match st with
    | v :: w :: r => if v.category = 1 ∧ w.category = 1 then some (pc + 1, ls, v :: w :: v :: w :: r) else none
    | _ => none
  | .ifCond c off => match st with
    | .int x :: r => rm_br pc off ls r (rm_cb c x 0)
    | _ => none
  | .if_icmp c off => match st with
    | .int y :: .int x :: r => rm_br pc off ls r (rm_cb c x y)
    | _ => none
  | .goto off => (rm_tg pc off).map (fun t => (t, ls, st))
  | .tableswitch d lo hi offs => match st with
    | .int x :: r => if x.toInt < lo ∨ hi < x.toInt then (rm_tg pc d).map (fun t => (t, ls, r)) else
        (match offs[(x.toInt - lo).toNat]? with
          | some off => (rm_tg pc off).map (fun t => (t, ls, r))
          | none => none)
    | _ => none
  | .lookupswitch d ps => match st with
    | .int x :: r => if (ps.toList.zip (ps.toList.drop 1)).all (fun (a, next) => a.1 < next.1) = true then (rm_tg pc (Op.lookupswitch.offset ps.toList d x.toInt)).map (fun t => (t, ls, r)) else none
    | _ => none
  | _ => none
def rm_len : Instr → Nat
  | .iconst _ | .lconst _ | .iload_n _ | .lload_n _ | .aload_n _ | .istore_n _ | .lstore_n _ | .astore_n _ => 1
  | .bipush _ | .iload _ | .lload _ | .aload _ | .istore _ | .lstore _ | .astore _ | .ldc _ | .newarray _ => 2
  | .sipush _ | .iinc _ _ | .ifCond _ _ | .if_icmp _ _ | .goto _ | .getfield _ | .putfield _ | .getstatic _ | .invokevirtual _ | .invokespecial _ | .invokestatic _ | .new _ | .ldc_w _ | .ldc2_w _ => 3
  | .multianewarray _ _ => 4
  | .tableswitch _ _ _ _ | .lookupswitch _ _ => 0
  | _ => 1
def rm_dec (cc : ByteArray) (pc : Nat) (ins : Instr) : Prop := ∃ n, decode cc pc = .ok (ins, n) ∧ (rm_len ins = 0 ∨ rm_len ins = n)
theorem rm_dec.at {cc : ByteArray} {pc n : Nat} {ins : Instr} (h : rm_dec cc pc ins) (hn : rm_len ins = n) (h0 : n ≠ 0) : decode cc pc = .ok (ins, n) := by
  obtain ⟨k, h1, h2⟩ := h
  rcases h2 with h2 | h2
  · exact absurd (hn.symm.trans h2) h0
  · rw [← hn, h2]; exact h1
