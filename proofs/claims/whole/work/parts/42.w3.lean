/-- the machine's locals hold these -/
def w_in (ls : w_L) (l : rm_L) : Prop := (l.map Prod.fst).Nodup ∧ ∀ q ∈ ls, (q.1, w_v q.2) ∈ l
def WP (G : rm_G) (fin : Nat → Nat → Bool) (pr : Nat → Option rm_M) (T : w_T) (Bs : Nat → Nat → Nat) (B : Nat) (M : rm_M) (pc : Nat) (ls : w_L) (st : List w_V) (S : w_S) (Q : Option w_V → w_S → Prop) : Prop :=
  w_okl ls → w_oks st → ∀ l, w_in ls l → ∀ h, w_H T S h → ∃ n r h' S' c d, rm_run G fin pr n M pc l (st.map w_v) h = some (Option.map w_v r, h', c, d) ∧ w_H T S' h' ∧ S'.2.2.2.1 = S.2.2.2.1 + c ∧ S'.2.2.2.2 = S.2.2.2.2 + d ∧ (∀ v, r = some v → w_ok v) ∧ w_fr T B S S' ∧ w_hf T B h h' ∧ Q r S'
def w_args : Nat → List w_V → w_L
  | _, [] => []
  | i, v :: vs => (i, v) :: w_args (if w_c2 v then i + 2 else i + 1) vs
def w_can (ks : List Nat) (ls : w_L) : w_L := ks.filterMap (fun i => (w_get ls i).map (fun v => (i, v)))
abbrev w_K : Type := Nat → w_L → List w_V → w_S → Prop
def w_bin (pc : Nat) (ls : w_L) (st : List w_V) (S : w_S) (K : w_K) (f : Int → Int → Int) : Option Prop := match st with
  | .inl y :: .inl x :: r => some (K (pc + 1) ls (.inl (f x y) :: r) S)
  | _ => none
/-- with what must be shown so that nothing overflows -/
def w_bo (pc : Nat) (ls : w_L) (st : List w_V) (S : w_S) (K : w_K) (f : Int → Int → Int) : Option Prop := match st with
  | .inl y :: .inl x :: r => some (w_n (f x y) ∧ K (pc + 1) ls (.inl (f x y) :: r) S)
  | _ => none
def w_ldi (pc d : Nat) (ls : w_L) (st : List w_V) (S : w_S) (K : w_K) (i : Nat) : Option Prop := match w_get ls i with
  | some (.inl x) => some (K (pc + d) ls (.inl x :: st) S)
  | _ => none
def w_ldl (pc d : Nat) (ls : w_L) (st : List w_V) (S : w_S) (K : w_K) (i : Nat) : Option Prop := match w_get ls i with
  | some (.inr (.inr (.inr x))) => some (K (pc + d) ls (.inr (.inr (.inr x)) :: st) S)
  | _ => none
def w_lda (pc d : Nat) (ls : w_L) (st : List w_V) (S : w_S) (K : w_K) (i : Nat) : Option Prop := match w_get ls i with
  | some (.inr (.inl a)) => some (K (pc + d) ls (.inr (.inl a) :: st) S)
  | some (.inr (.inr (.inl a))) => some (K (pc + d) ls (.inr (.inr (.inl a)) :: st) S)
  | _ => none
def w_sti (mx pc d : Nat) (ls : w_L) (st : List w_V) (S : w_S) (K : w_K) (i : Nat) : Option Prop := match st with
  | .inl x :: r => if i < mx then some (K (pc + d) (w_set1 ls i (.inl x)) r S) else none
  | _ => none
def w_stl (mx pc d : Nat) (ls : w_L) (st : List w_V) (S : w_S) (K : w_K) (i : Nat) : Option Prop := match st with
  | .inr (.inr (.inr x)) :: r => if i + 1 < mx then some (K (pc + d) (w_set2 ls i (.inr (.inr (.inr x)))) r S) else none
  | _ => none
def w_sta (mx pc d : Nat) (ls : w_L) (st : List w_V) (S : w_S) (K : w_K) (i : Nat) : Option Prop := match st with
  | .inr (.inl a) :: r => if i < mx then some (K (pc + d) (w_set1 ls i (.inr (.inl a))) r S) else none
  | .inr (.inr (.inl a)) :: r => if i < mx then some (K (pc + d) (w_set1 ls i (.inr (.inr (.inl a)))) r S) else none
  | _ => none
def w_br (c : ClassFile.Cond) (x y : Int) (pc : Nat) (off : Int) (ls : w_L) (r : List w_V) (S : w_S) (K : w_K) : Option Prop := match rm_tg pc off with
  | some t => some ((w_cb c x y → K t ls r S) ∧ (w_cn c x y → K (pc + 3) ls r S))
  | none => none
def w_tab (pc : Nat) (x : Int) (K : Nat → Prop) : Int → List Int → Prop
  | _, [] => True
  | lo, off :: offs => (match rm_tg pc off with
    | some t => (x = lo → K t)
    | none => False) ∧ w_tab pc x K (lo + 1) offs
def w_lk (pc : Nat) (x : Int) (K : Nat → Prop) (d : Int) : List (Int × Int) → Prop
  | [] => (match rm_tg pc d with
    | some t => K t
    | none => False)
  | (a, o) :: r => (a = x → (match rm_tg pc o with
    | some t => K t
    | none => False)) ∧ (a ≠ x → w_lk pc x K d r)
def w_cmp (x y : Int) : Int := if y < x then 1 else if x = y then 0 else -1
/-- an instruction that touches no heap -/
def w_st1 (mx : Nat) (ins : Instr) (pc : Nat) (ls : w_L) (st : List w_V) (S : w_S) (K : w_K) : Option Prop :=
  match ins with
  | .iconst n => some (K (pc + 1) ls (.inl (w_r n) :: st) S)
  | .bipush n => some (K (pc + 2) ls (.inl (w_b n) :: st) S)
  | .sipush n => some (K (pc + 3) ls (.inl (w_16 n) :: st) S)
  | .lconst n => some (K (pc + 1) ls (.inr (.inr (.inr ((n : Nat) : Int))) :: st) S)
  | .iload_n k => w_ldi pc 1 ls st S K k
  | .iload i => w_ldi pc 2 ls st S K i
  | .lload_n k => w_ldl pc 1 ls st S K k
  | .lload i => w_ldl pc 2 ls st S K i
  | .aload_n k => w_lda pc 1 ls st S K k
  | .aload i => w_lda pc 2 ls st S K i
  | .istore_n k => w_sti mx pc 1 ls st S K k
  | .istore i => w_sti mx pc 2 ls st S K i
  | .lstore_n k => w_stl mx pc 1 ls st S K k
  | .lstore i => w_stl mx pc 2 ls st S K i
  | .astore_n k => w_sta mx pc 1 ls st S K k
  | .astore i => w_sta mx pc 2 ls st S K i
  | .iinc i n => match w_get ls i with
    | some (.inl x) => if i < mx then some (w_n (x + n) ∧ K (pc + 3) (w_set1 ls i (.inl (x + n))) st S) else none
    | _ => none
  | .iadd => w_bo pc ls st S K (fun x y => x + y)
  | .isub => w_bo pc ls st S K (fun x y => x - y)
  | .imul => w_bo pc ls st S K (fun x y => x * y)
  | .iand => w_bin pc ls st S K w_and
  | .ior => w_bin pc ls st S K w_or
  | .ishl => w_bin pc ls st S K w_shl
  | .ishr => w_bin pc ls st S K w_shr
  | .idiv => match st with
    | .inl y :: .inl x :: r => some (y ≠ 0 ∧ K (pc + 1) ls (.inl (w_div x y) :: r) S)
    | _ => none
  | .irem => match st with
    | .inl y :: .inl x :: r => some (y ≠ 0 ∧ K (pc + 1) ls (.inl (w_rem x y) :: r) S)
    | _ => none
  | .ladd => match st with
    | .inr (.inr (.inr y)) :: .inr (.inr (.inr x)) :: r => some (w_n64 (x + y) ∧ K (pc + 1) ls (.inr (.inr (.inr (x + y))) :: r) S)
    | _ => none
  | .lmul => match st with
    | .inr (.inr (.inr y)) :: .inr (.inr (.inr x)) :: r => some (w_n64 (x * y) ∧ K (pc + 1) ls (.inr (.inr (.inr (x * y))) :: r) S)
    | _ => none
  | .lcmp => match st with
    | .inr (.inr (.inr y)) :: .inr (.inr (.inr x)) :: r => some (K (pc + 1) ls (.inl (w_cmp x y) :: r) S)
    | _ => none
  | .i2l => match st with
    | .inl x :: r => some (K (pc + 1) ls (.inr (.inr (.inr x)) :: r) S)
    | _ => none
  | .i2b => match st with
    | .inl x :: r => some (K (pc + 1) ls (.inl (w_b x) :: r) S)
    | _ => none
  | .dup => match st with
    | v :: r => if w_c2 v then none else some (K (pc + 1) ls (v :: v :: r) S)
    | _ => none
  | .pop => match st with
    | v :: r => if w_c2 v then none else some (K (pc + 1) ls r S)
    | _ => none
  | .dup2 => match st with
    | v :: w :: r => if w_c2 v || w_c2 w then none else some (K (pc + 1) ls (v :: w :: v :: w :: r) S)
    | _ => none
  | .ifCond c off => match st with
    | .inl x :: r => w_br c x 0 pc off ls r S K
    | _ => none
  | .if_icmp c off => match st with
    | .inl y :: .inl x :: r => w_br c x y pc off ls r S K
    | _ => none
  | .goto off => match rm_tg pc off with
    | some t => some (K t ls st S)
    | none => none
  | .tableswitch d lo hi offs => match st with
    | .inl x :: r => if offs.size = (hi + 1 - lo).toNat then (match rm_tg pc d with
      | some t => some ((x < lo ∨ hi < x → K t ls r S) ∧ w_tab pc x (fun t => K t ls r S) lo offs.toList)
      | none => none) else none
    | _ => none
  | .lookupswitch d ps => match st with
    | .inl x :: r => if (ps.toList.zip (ps.toList.drop 1)).all (fun (a, next) => a.1 < next.1) = true then some (w_lk pc x (fun t => K t ls r S) d ps.toList) else none
    | _ => none
  | _ => none
def w_ty (t : Nat) : FieldType := match t with
  | 0 => .int
  | 1 => .byte
  | _ => .boolean
/-- a place of an array is read: what sort, of which array, at which place -/
def w_rd (G : rm_G) (T : w_T) (S : w_S) (t : Nat) (v : w_V) (i : Int) (K : Int → Prop) : Option Prop := match v with
  | .inr (.inl a) => if a < rm_K then (match T.1 a with
      | some (u, n) => if u = t then some (0 ≤ i ∧ i < (n : Int) ∧ K (S.1 a i.toNat)) else none
      | none => none) else (match rm_ca G (a - rm_K) with
      | some (ty, n, f) => if ty = w_ty t then some (0 ≤ i ∧ i < (n : Int) ∧ K (f i.toNat).toInt) else none
      | none => none)
  | .inr (.inr (.inl a)) => some (∃ n, w_a T S a = some (t, n) ∧ 0 ≤ i ∧ i < (n : Int) ∧ K (S.1 a i.toNat))
  | _ => none
def w_wt (T : w_T) (B : Nat) (S : w_S) (t : Nat) (v : w_V) (i x : Int) (K : w_S → Prop) : Option Prop := match v with
  | .inr (.inl a) => (match T.1 a with
      | some (u, n) => if u = t ∧ Nat.testBit B a = true then some (0 ≤ i ∧ i < (n : Int) ∧ K (w_put S a i.toNat x)) else none
      | none => none)
  | .inr (.inr (.inl a)) => some (∃ n, w_frb T B a = false ∧ w_a T S a = some (t, n) ∧ 0 ≤ i ∧ i < (n : Int) ∧ K (w_put S a i.toNat x))
  | _ => none
/-- is it an array of that sort, as the table has it -/
def w_is (T : w_T) (t : Nat) (v : w_V) : Bool := match v with
  | .inr (.inl a) => (match T.1 a with
      | some (u, _) => u == t
      | none => false)
  | _ => false
def w_st2 (G : rm_G) (fin : Nat → Nat → Bool) (T : w_T) (B : Nat) (iM : Option Nat) (pl : Nat → Option rm_P) (ins : Instr) (pc : Nat) (ls : w_L) (st : List w_V) (S : w_S) (K : w_K) : Option Prop :=
  match ins with
  | .getfield idx => match pl idx with
    | some (0, ci, k, _) => match st with
      | .inr (.inl a) :: r => match T.2 a with
        | some (cj, n, fk) => if cj = ci ∧ k < n then (match fk k with
          | (0, t) => if t < 3 then some (K (pc + 3) ls (.inl (S.1 a k) :: r) S) else none
          | (1, b) => some (K (pc + 3) ls (.inr (.inl b) :: r) S)
          | (2, j) => some (K (pc + 3) ls (.inr (.inr (.inl (S.2.1 j))) :: r) S)
          | _ => none) else none
        | none => none
      | _ => none
    | some (8, _, 0, _) => match st with
      | .inr (.inl a) :: r => if rm_K ≤ a ∧ (a - rm_K) % 2 = 0 ∧ (a - rm_K) / 2 < rm_nS G then some (K (pc + 3) ls (.inl 0 :: r) S) else none
      | _ => none
    | some (8, _, 1, _) => match st with
      | .inr (.inl a) :: r => if rm_K ≤ a ∧ (a - rm_K) % 2 = 0 ∧ (a - rm_K) / 2 < rm_nS G then some (K (pc + 3) ls (.inr (.inl (a + 1)) :: r) S) else none
      | _ => none
    | _ => none
  | .putfield idx => match pl idx with
    | some (0, ci, k, _) => match st with
      | .inl x :: .inr (.inl a) :: r => match T.2 a with
        | some (cj, n, fk) => if cj = ci ∧ k < n ∧ (fin ci k = false ∨ iM = some ci) ∧ Nat.testBit B a = true then (match fk k with
          | (0, 0) => if rm_ty G ci k = .int then some (K (pc + 3) ls r (w_put S a k x)) else none
          | (0, 2) => if rm_ty G ci k = .boolean then some ((x = 0 ∨ x = 1) ∧ K (pc + 3) ls r (w_put S a k x)) else none
          | _ => none) else none
        | none => none
      | .inr (.inr (.inl b)) :: .inr (.inl a) :: r => match T.2 a with
        | some (cj, n, fk) => if cj = ci ∧ k < n ∧ (fin ci k = false ∨ iM = some ci) ∧ Nat.testBit B 300 = true ∧ Nat.testBit B a = true then (match fk k with
          | (2, j) => if fits (rm_ty G ci k) (.ref 0) = true then some (K (pc + 3) ls r (w_rfp S j b)) else none
          | _ => none) else none
        | none => none
      | _ => none
    | _ => none
  | .getstatic idx => match pl idx with
    | some (9, _, _, z) => some (K (pc + 3) ls (.inl (w_r z) :: st) S)
    | some (10, a, _, _) => some (K (pc + 3) ls (.inr (.inl (rm_K + a)) :: st) S)
    | _ => none
  | .ldc idx => match pl idx with
    | some (5, _, _, z) => some (K (pc + 2) ls (.inl (w_r z) :: st) S)
    | some (7, i, _, _) => some (K (pc + 2) ls (.inr (.inl (rm_K + 2 * i)) :: st) S)
    | _ => none
  | .ldc_w idx => match pl idx with
    | some (5, _, _, z) => some (K (pc + 3) ls (.inl (w_r z) :: st) S)
    | some (7, i, _, _) => some (K (pc + 3) ls (.inr (.inl (rm_K + 2 * i)) :: st) S)
    | _ => none
  | .ldc2_w idx => match pl idx with
    | some (6, _, _, z) => some (K (pc + 3) ls (.inr (.inr (.inr (w_r64 z))) :: st) S)
    | _ => none
  | .newarray t => match rm_at t, st with
    | some u, .inl n :: r => if u < 3 ∧ Nat.testBit B 300 = true ∧ Nat.testBit B 301 = true then some (129 ≤ S.2.2.2.1 ∧ S.2.2.2.1 < rm_K ∧ 0 ≤ n ∧ n * 8 ≤ 536870912 ∧ K (pc + 2) ls (.inr (.inr (.inl S.2.2.2.1)) :: r) (w_new S u n.toNat)) else none
    | _, _ => none
  | .iaload => match st with
    | .inl i :: v :: r => w_rd G T S 0 v i (fun x => K (pc + 1) ls (.inl x :: r) S)
    | _ => none
  | .baload => match st with
    | .inl i :: v :: r => if w_is T 2 v then w_rd G T S 2 v i (fun x => K (pc + 1) ls (.inl x :: r) S) else w_rd G T S 1 v i (fun x => K (pc + 1) ls (.inl x :: r) S)
    | _ => none
  | .laload => match st with
    | .inl i :: .inr (.inl a) :: r => match T.1 a with
      | some (3, n) => some (0 ≤ i ∧ i < (n : Int) ∧ K (pc + 1) ls (.inr (.inr (.inr (S.1 a i.toNat))) :: r) S)
      | _ => none
    | _ => none
  | .aaload => match st with
    | .inl i :: .inr (.inl a) :: r => match T.1 a with
      | some (4, n) => some (0 ≤ i ∧ i < (n : Int) ∧ K (pc + 1) ls (.inr (.inr (.inl (a + 1 + i.toNat))) :: r) S)
      | _ => none
    | _ => none
  | .iastore => match st with
    | .inl x :: .inl i :: v :: r => w_wt T B S 0 v i x (fun S' => K (pc + 1) ls r S')
    | _ => none
  | .bastore => match st with
    | .inl x :: .inl i :: v :: r => if w_is T 2 v then (match w_wt T B S 2 v i x (fun S' => K (pc + 1) ls r S') with
      | some P => some ((x = 0 ∨ x = 1) ∧ P)
      | none => none) else w_wt T B S 1 v i (w_b x) (fun S' => K (pc + 1) ls r S')
    | _ => none
  | .lastore => match st with
    | .inr (.inr (.inr x)) :: .inl i :: .inr (.inl a) :: r => match T.1 a with
      | some (3, n) => if Nat.testBit B a = true then some (0 ≤ i ∧ i < (n : Int) ∧ K (pc + 1) ls r (w_put S a i.toNat x)) else none
      | _ => none
    | _ => none
  | .arraylength => match st with
    | .inr (.inl a) :: r => if a < rm_K then (match T.1 a with
        | some (u, n) => if u < 5 ∧ n < 2147483648 then some (K (pc + 1) ls (.inl (n : Int) :: r) S) else none
        | none => none) else (match rm_ca G (a - rm_K) with
        | some (_, n, _) => some (n < 2147483648 ∧ K (pc + 1) ls (.inl (n : Int) :: r) S)
        | none => none)
    | .inr (.inr (.inl a)) :: r => some (∃ t n, w_a T S a = some (t, n) ∧ t < 3 ∧ n < 2147483648 ∧ K (pc + 1) ls (.inl (n : Int) :: r) S)
    | _ => none
  | _ => none
/-- what a call's answer is good for -/
def w_ret (T : w_T) (F : w_S → Prop) (ty : Option FieldType) (K : List w_V → w_S → Prop) : Option w_V → w_S → Prop := match ty with
  | none => fun r S => r = none ∧ (w_Q T S → F S → K [] S)
  | some .long => fun r S => ∃ y, r = some (.inr (.inr (.inr y))) ∧ (w_n64 y → w_Q T S → F S → K [.inr (.inr (.inr y))] S)
  | some _ => fun r S => ∃ y, r = some (.inl y) ∧ (w_n y → w_Q T S → F S → K [.inl y] S)
/-- arrays are handed on by their address alone -/
def w_arg (T : w_T) (v : w_V) : w_V := match v with
  | .inr (.inl a) => (match T.1 a with
    | some _ => .inr (.inr (.inl a))
    | none => .inr (.inl a))
  | v => v
def w_call1 (G : rm_G) (fin : Nat → Nat → Bool) (pr : Nat → Option rm_M) (T : w_T) (Bs : Nat → Nat → Nat) (B Bc : Nat) (M M' : rm_M) (as rest : List w_V) (pc : Nat) (ls : w_L) (S : w_S) (K : w_K) : Option Prop :=
  if rm_may M M' (as.map w_v) (rest.map w_v) && Nat.beq (Nat.land Bc B) Bc then some (WP G fin pr T Bs Bc M' 0 (w_args 0 (as.map (w_arg T))) [] S (w_ret T (w_fr T Bc S) (rm_mr M') (fun p S' => K (pc + 3) ls (p ++ rest) S'))) else none
def w_call (G : rm_G) (fin : Nat → Nat → Bool) (pr : Nat → Option rm_M) (T : w_T) (Bs : Nat → Nat → Nat) (B : Nat) (j : Nat) (M M' : rm_M) (as rest : List w_V) (pc : Nat) (ls : w_L) (S : w_S) (K : w_K) : Option Prop := match as with
  | .inr (.inl a) :: _ => w_call1 G fin pr T Bs B (Bs j a) M M' as rest pc ls S K
  | _ => w_call1 G fin pr T Bs B (Bs j 0) M M' as rest pc ls S K
def w_rcv (G : rm_G) (T : w_T) (b ci : Nat) : Bool := if ci = rm_Str then decide (rm_K ≤ b) && (decide ((b - rm_K) % 2 = 0) && decide ((b - rm_K) / 2 < rm_nS G)) else match T.2 b with
  | some (cj, _, _) => decide (cj = ci)
  | none => false
def w_st3 (G : rm_G) (fin : Nat → Nat → Bool) (pr : Nat → Option rm_M) (T : w_T) (Bs : Nat → Nat → Nat) (B : Nat) (M : rm_M) (ins : Instr) (pc : Nat) (ls : w_L) (st : List w_V) (S : w_S) (K : w_K) : Option Prop :=
  match ins with
  | .invokevirtual idx => match rm_mp M idx with
    | some (2, j, _, _) => match pr j with
      | some M' => if rm_mk M' = 0 ∧ (st.take (rm_mn M')).length = rm_mn M' then (match st.drop (rm_mn M') with
        | .inr (.inl b) :: rest => if w_rcv G T b (rm_mi M') then w_call G fin pr T Bs B j M M' (.inr (.inl b) :: (st.take (rm_mn M')).reverse) rest pc ls S K else none
        | _ => none) else none
      | none => none
    | _ => none
  | .invokestatic idx => match rm_mp M idx with
    | some (2, j, _, _) => match pr j with
      | some M' => if rm_mk M' = 1 ∧ (st.take (rm_mn M')).length = rm_mn M' then w_call G fin pr T Bs B j M M' (st.take (rm_mn M')).reverse (st.drop (rm_mn M')) pc ls S K else none
      | none => none
    | some (3, j, _, _) => match pr j with
      | some M' => if rm_mk M' = 1 ∧ (st.take (rm_mn M')).length = rm_mn M' then w_call G fin pr T Bs B j M M' (st.take (rm_mn M')).reverse (st.drop (rm_mn M')) pc ls S K else none
      | none => none
    | _ => none
  | _ => none
def w_ad : w_V → Option Nat
  | .inr (.inl a) => some a
  | .inr (.inr (.inl a)) => some a
  | _ => none
def w_st4 (T : w_T) (B : Nat) (M : rm_M) (ins : Instr) (pc : Nat) (ls : w_L) (st : List w_V) (S : w_S) (K : w_K) : Option Prop :=
  match ins with
  | .invokestatic idx => match rm_mp M idx with
    | some (12, _, _, _) => match st with
      | .inl n :: .inl dp :: v :: .inl sp :: v0 :: r => match w_ad v, w_ad v0 with
        | some a, some a0 => if 1 ≤ rm_mf M ∧ rm_cat (r.map w_v) + (nativeFrameWords "java/lang/System" "arraycopy" 5 + 11) ≤ rm_ml M then some (∃ t n0 n1, w_frb T B a = false ∧ t < 2 ∧ w_a T S a0 = some (t, n0) ∧ w_a T S a = some (t, n1) ∧ 0 ≤ sp ∧ 0 ≤ dp ∧ 0 ≤ n ∧ sp + n ≤ n0 ∧ dp + n ≤ n1 ∧ K (pc + 3) ls r (w_cpy S a0 a sp.toNat dp.toNat n.toNat)) else none
        | _, _ => none
      | _ => none
    | some (17, _, _, _) => match st with
      | .inl y :: .inl x :: r => if 1 ≤ rm_mf M ∧ rm_cat (r.map w_v) + 13 ≤ rm_ml M then some (K (pc + 3) ls (.inl (max x y) :: r) S) else none
      | _ => none
    | some (18, _, _, _) => match st with
      | .inl y :: .inl x :: r => if 1 ≤ rm_mf M ∧ rm_cat (r.map w_v) + 13 ≤ rm_ml M then some (K (pc + 3) ls (.inl (min x y) :: r) S) else none
      | _ => none
    | _ => none
  | _ => none
def w_st5 (M : rm_M) (ins : Instr) (st : List w_V) (S : w_S) (Q : Option w_V → w_S → Prop) : Option Prop :=
  match ins with
  | .return_ => match st with
    | [] => if rm_mr M = none then some (Q none S) else none
    | _ => none
  | .ireturn => match st with
    | [.inl v] => if rm_mr M = some .int then some (Q (some (.inl v)) S) else if rm_mr M = some .boolean then some ((v = 0 ∨ v = 1) ∧ Q (some (.inl v)) S) else none
    | _ => none
  | .lreturn => match st with
    | [.inr (.inr (.inr v))] => if rm_mr M = some .long then some (Q (some (.inr (.inr (.inr v)))) S) else none
    | _ => none
  | _ => none
def w_step (G : rm_G) (fin : Nat → Nat → Bool) (pr : Nat → Option rm_M) (T : w_T) (Bs : Nat → Nat → Nat) (B : Nat) (M : rm_M) (ins : Instr) (pc : Nat) (ls : w_L) (st : List w_V) (S : w_S) (K : w_K) (Q : Option w_V → w_S → Prop) : Prop :=
  match w_st1 (rm_mx M) ins pc ls st S K with
  | some P => P
  | none => match w_st2 G fin T B (rm_iM M) (rm_mp M) ins pc ls st S K with
    | some P => P
    | none => match w_st3 G fin pr T Bs B M ins pc ls st S K with
      | some P => P
      | none => match w_st4 T B M ins pc ls st S K with
        | some P => P
        | none => match w_st5 M ins st S Q with
          | some P => P
          | none => False
/-- what is to be shown so that the run from here comes to Q; at the cuts another WP is left -/
def w_vc (G : rm_G) (fin : Nat → Nat → Bool) (pr : Nat → Option rm_M) (T : w_T) (Bs : Nat → Nat → Nat) (B : Nat) (M : rm_M) (ct : Nat → Option (List Nat)) (Q : Option w_V → w_S → Prop) : Nat → Nat → w_L → List w_V → w_S → Prop
  | 0, pc, ls, st, S => WP G fin pr T Bs B M pc ls st S Q
  | n + 1, pc, ls, st, S => match rm_mb M pc with
    | none => False
    | some ins => w_step G fin pr T Bs B M ins pc ls st S (fun pc' ls' st' S' => match ct pc' with
      | some ks => WP G fin pr T Bs B M pc' (w_can ks ls') st' S' Q
      | none => w_vc G fin pr T Bs B M ct Q n pc' ls' st' S') Q
