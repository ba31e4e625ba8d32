abbrev se_N : Type := List (se_F × Nat × rm_L × List Value)
def se_kd : Value → Nat
  | .int _ => 0
  | .float _ => 0
  | .retAddr _ => 0
  | .long _ => 1
  | .ref _ => 2
  | _ => 3
def se_op (f : Int32 → Int32 → Int32) (a b : Value) : Option Value := match a, b with
  | .int x, .int y => some (.int (f x y))
  | a, b => if se_int a && se_int b then some (.retAddr 0) else none
def se_i2 (F : se_F) (pc : Nat) (ls : rm_L) (st : List Value) (f : Int32 → Int32 → Int32) : Option se_N := match st with
  | b :: a :: r => match se_op f a b with
    | some v => some [(F, pc + 1, ls, v :: r)]
    | none => none
  | _ => none
def se_ld (F : se_F) (pc d : Nat) (ls : rm_L) (st : List Value) (i k : Nat) : Option se_N := match rm_get ls i with
  | some v => if se_kd v = k then some [(F, pc + d, ls, v :: st)] else none
  | none => none
def se_st (F : se_F) (mx pc d : Nat) (ls : rm_L) (st : List Value) (i k : Nat) : Option se_N := match st with
  | v :: r => if se_kd v = k ∧ i < mx then some [(F, pc + d, rm_set1 ls i v, r)] else none
  | _ => none
def se_s1 (F : se_F) (mx : Nat) (ins : Instr) (pc : Nat) (ls : rm_L) (st : List Value) : Option se_N :=
  match ins with
  | .iconst n => some [(F, pc + 1, ls, .int (Int32.ofInt n) :: st)]
  | .bipush n => some [(F, pc + 2, ls, .int ((Int8.ofInt n).toInt32) :: st)]
  | .sipush n => some [(F, pc + 3, ls, .int ((Int16.ofInt n).toInt32) :: st)]
  | .iload_n k => se_ld F pc 1 ls st k 0
  | .iload i => se_ld F pc 2 ls st i 0
  | .aload_n k => se_ld F pc 1 ls st k 2
  | .aload i => se_ld F pc 2 ls st i 2
  | .istore_n k => se_st F mx pc 1 ls st k 0
  | .istore i => se_st F mx pc 2 ls st i 0
  | .astore_n k => se_st F mx pc 1 ls st k 2
  | .astore i => se_st F mx pc 2 ls st i 2
  | .iinc i n => match rm_get ls i with
    | some v => if i < mx then (match se_op (fun x y => x + y) v (.int (Int32.ofInt n)) with
      | some w => some [(F, pc + 3, rm_set1 ls i w, st)]
      | none => none) else none
    | none => none
  | .iadd => se_i2 F pc ls st (fun x y => x + y)
  | .isub => se_i2 F pc ls st (fun x y => x - y)
  | .imul => se_i2 F pc ls st (fun x y => x * y)
  | .iand => match st with
    | b :: a :: r => if b = .int 127 ∧ a = .float 0 then some [(F, pc + 1, ls, .float 100 :: r)] else se_i2 F pc ls st (fun x y => x &&& y)
    | _ => none
  | .ior => se_i2 F pc ls st (fun x y => x ||| y)
  | .ishl => se_i2 F pc ls st (fun x y => x <<< (y &&& 31))
  | .ishr => se_i2 F pc ls st (fun x y => x >>> (y &&& 31))
  | .idiv => match st with
    | .int y :: .int x :: r => if y = 0 then none else some [(F, pc + 1, ls, .int (x / y) :: r)]
    | _ => none
  | .irem => match st with
    | .int y :: .int x :: r => if y = 0 then none else some [(F, pc + 1, ls, .int (x - x / y * y) :: r)]
    | _ => none
  | .i2b => match st with
    | .int x :: r => some [(F, pc + 1, ls, .int x.toInt8.toInt32 :: r)]
    | v :: r => if se_int v then some [(F, pc + 1, ls, .retAddr 0 :: r)] else none
    | _ => none
  | .i2c => match st with
    | .int x :: r => some [(F, pc + 1, ls, .int (x.toUInt32 % 65536).toInt32 :: r)]
    | _ => none
  | .dup => match st with
    | v :: r => if v.category = 1 then some [(F, pc + 1, ls, v :: v :: r)] else none
    | _ => none
  | .pop => match st with
    | v :: r => if v.category = 1 then some [(F, pc + 1, ls, r)] else none
    | _ => none
  | .dup2 => match st with
    | v :: w :: r => if v.category = 1 ∧ w.category = 1 then some [(F, pc + 1, ls, v :: w :: v :: w :: r)] else none
    | _ => none
  | .ifCond c off => match st with
    | a :: r => match se_cmp F c a (.int 0), rm_tg pc off with
      | some l, some t => some (l.map (fun q => (q.2, cond q.1 t (pc + 3), ls, r)))
      | _, _ => none
    | _ => none
  | .if_icmp c off => match st with
    | b :: a :: r => match se_cmp F c a b, rm_tg pc off with
      | some l, some t => some (l.map (fun q => (q.2, cond q.1 t (pc + 3), ls, r)))
      | _, _ => none
    | _ => none
  | .goto off => match rm_tg pc off with
    | some t => some [(F, t, ls, st)]
    | none => none
  | .tableswitch d lo hi offs => match st with
    | .int x :: r => if x.toInt < lo ∨ hi < x.toInt then (match rm_tg pc d with
        | some t => some [(F, t, ls, r)]
        | none => none) else
        (match offs[(x.toInt - lo).toNat]? with
          | some off => (match rm_tg pc off with
            | some t => some [(F, t, ls, r)]
            | none => none)
          | none => none)
    | .float k :: r => if (se_lk F k.toNat).2.1 < lo ∨ hi < (se_lk F k.toNat).1 then (match rm_tg pc d with
        | some t => some [(F, t, ls, r)]
        | none => none) else none
    | _ => none
  | _ => none
def se_nx (ρ : Nat → Int32) (L : se_N) (r : rm_N) : Prop := ∃ q ∈ L, se_ok ρ q.1 ∧ ∃ x, r = some x ∧ x.1 = q.2.1 ∧ se_Ls ρ q.2.2.1 x.2.1 ∧ se_St ρ q.2.2.2 x.2.2
theorem se_nx1 {ρ : Nat → Int32} {F : se_F} {pc : Nat} {ls ls' : rm_L} {st st' : List Value} {r : rm_N} (h : se_ok ρ F) (hr : r = some (pc, ls', st')) (hl : se_Ls ρ ls ls') (hs : se_St ρ st st') : se_nx ρ [(F, pc, ls, st)] r :=
  ⟨_, List.mem_cons_self, h, _, hr, rfl, hl, hs⟩
theorem se_kd0 {ρ : Nat → Int32} {v v' : Value} (h : se_r ρ v v') (hk : se_kd v = 0) : ∃ x, v' = .int x := by
  cases v <;> first | exact ⟨_, h⟩ | exact h | (cases hk)
theorem se_kd2 {ρ : Nat → Int32} {v v' : Value} (h : se_r ρ v v') (hk : se_kd v = 2) : ∃ x, v = .ref x ∧ v' = .ref x := by
  cases v <;> first | exact ⟨_, rfl, h⟩ | (cases hk)
theorem se_op_ok {ρ : Nat → Int32} {f : Int32 → Int32 → Int32} {a b a' b' v : Value} (h : se_op f a b = some v) (ha : se_r ρ a a') (hb : se_r ρ b b') : ∃ x y, a' = .int x ∧ b' = .int y ∧ se_r ρ v (.int (f x y)) := by
  unfold se_op at h
  split at h
  next x y => cases h; exact ⟨x, y, ha, hb, rfl⟩
  next =>
    split at h
    next hi =>
      cases h
      simp only [Bool.and_eq_true] at hi
      obtain ⟨x, rfl⟩ := se_r_int ha hi.1
      obtain ⟨y, rfl⟩ := se_r_int hb hi.2
      exact ⟨x, y, rfl, rfl, _, rfl⟩
    next => cases h
theorem se_i2_ok {ρ : Nat → Int32} {F : se_F} {pc : Nat} {ls ls' : rm_L} {st st' : List Value} {f : Int32 → Int32 → Int32} {L : se_N} (h : se_i2 F pc ls st f = some L) (hF : se_ok ρ F) (hl : se_Ls ρ ls ls') (hs : se_St ρ st st') : se_nx ρ L (rm_i2 pc ls' st' f) := by
  unfold se_i2 at h
  split at h
  next b a r =>
    split at h
    next v hv =>
      cases h
      obtain ⟨hbv, _, hst9, hb, hs9⟩ := se_cons hs; clear hs; subst hst9; have hs := hs9; clear hs9
      obtain ⟨hav, _, hst9, ha, hs9⟩ := se_cons hs; clear hs; subst hst9; have hs := hs9; clear hs9
      obtain ⟨x, y, rfl, rfl, hr⟩ := se_op_ok hv ha hb
      exact se_nx1 hF rfl hl (se_c2 hr hs)
    next => cases h
  next => cases h
theorem se_ld0_ok {ρ : Nat → Int32} {F : se_F} {pc d i : Nat} {ls ls' : rm_L} {st st' : List Value} {L : se_N} (h : se_ld F pc d ls st i 0 = some L) (hF : se_ok ρ F) (hl : se_Ls ρ ls ls') (hs : se_St ρ st st') : se_nx ρ L (rm_ld pc d ls' st' i 0) := by
  unfold se_ld at h
  split at h
  next v hg =>
    split at h
    next hk =>
      cases h
      obtain ⟨v', h1, h2⟩ := se_get hl hg
      obtain ⟨x, rfl⟩ := se_kd0 h2 hk
      exact se_nx1 hF (show rm_ld _ _ _ _ _ _ = _ by unfold rm_ld; rw [h1]; rfl) hl (se_c2 h2 hs)
    next => cases h
  next => cases h
theorem se_ld2_ok {ρ : Nat → Int32} {F : se_F} {pc d i : Nat} {ls ls' : rm_L} {st st' : List Value} {L : se_N} (h : se_ld F pc d ls st i 2 = some L) (hF : se_ok ρ F) (hl : se_Ls ρ ls ls') (hs : se_St ρ st st') : se_nx ρ L (rm_ld pc d ls' st' i 2) := by
  unfold se_ld at h
  split at h
  next v hg =>
    split at h
    next hk =>
      cases h
      obtain ⟨v', h1, h2⟩ := se_get hl hg
      obtain ⟨x, rfl, rfl⟩ := se_kd2 h2 hk
      exact se_nx1 hF (show rm_ld _ _ _ _ _ _ = _ by unfold rm_ld; rw [h1]; rfl) hl (se_c2 h2 hs)
    next => cases h
  next => cases h
theorem se_st0_ok {ρ : Nat → Int32} {F : se_F} {mx pc d i : Nat} {ls ls' : rm_L} {st st' : List Value} {L : se_N} (h : se_st F mx pc d ls st i 0 = some L) (hF : se_ok ρ F) (hl : se_Ls ρ ls ls') (hs : se_St ρ st st') : se_nx ρ L (rm_st mx pc d ls' st' i 0) := by
  unfold se_st at h
  split at h
  next v r =>
    split at h
    next hk =>
      cases h
      obtain ⟨hvv, _, hst9, hv, hs9⟩ := se_cons hs; clear hs; subst hst9; have hs := hs9; clear hs9
      obtain ⟨x, rfl⟩ := se_kd0 hv hk.1
      exact se_nx1 hF (by unfold rm_st; exact if_pos hk.2) (se_set1 hl hv) hs
    next => cases h
  next => cases h
theorem se_st2_ok {ρ : Nat → Int32} {F : se_F} {mx pc d i : Nat} {ls ls' : rm_L} {st st' : List Value} {L : se_N} (h : se_st F mx pc d ls st i 2 = some L) (hF : se_ok ρ F) (hl : se_Ls ρ ls ls') (hs : se_St ρ st st') : se_nx ρ L (rm_st mx pc d ls' st' i 2) := by
  unfold se_st at h
  split at h
  next v r =>
    split at h
    next hk =>
      cases h
      obtain ⟨hvv, _, hst9, hv, hs9⟩ := se_cons hs; clear hs; subst hst9; have hs := hs9; clear hs9
      obtain ⟨x, rfl, rfl⟩ := se_kd2 hv hk.1
      exact se_nx1 hF (by unfold rm_st; exact if_pos hk.2) (se_set1 hl hv) hs
    next => cases h
  next => cases h
theorem se_br_ok {ρ : Nat → Int32} {pc t : Nat} {off : Int} {ls ls' : rm_L} {r r' : List Value} {l : se_B} {b : Bool} (ht : rm_tg pc off = some t) (hl : se_Ls ρ ls ls') (hs : se_St ρ r r') (hq : ∃ q ∈ l, se_ok ρ q.2 ∧ q.1 = b) : se_nx ρ (l.map (fun q => (q.2, cond q.1 t (pc + 3), ls, r))) (rm_br pc off ls' r' b) := by
  obtain ⟨q, h1, h2, rfl⟩ := hq
  refine ⟨_, List.mem_map.mpr ⟨q, h1, rfl⟩, h2, (cond q.1 t (pc + 3), ls', r'), ?_, rfl, hl, hs⟩
  unfold rm_br
  rw [ht]
set_option maxHeartbeats 4000000 in
theorem se_s1_ok {ρ : Nat → Int32} {F : se_F} {mx pc : Nat} {ins : Instr} {ls ls' : rm_L} {st st' : List Value} {L : se_N} (h127 : ρ 100 = ρ 0 &&& 127) (h : se_s1 F mx ins pc ls st = some L) (hF : se_ok ρ F) (hl : se_Ls ρ ls ls') (hs : se_St ρ st st') : se_nx ρ L (rm_s1 mx ins pc ls' st') := by
  unfold se_s1 at h
  split at h
  next => cases h; exact se_nx1 hF rfl hl (se_c2 rfl hs)
  next => cases h; exact se_nx1 hF rfl hl (se_c2 rfl hs)
  next => cases h; exact se_nx1 hF rfl hl (se_c2 rfl hs)
  next => exact se_ld0_ok h hF hl hs
  next => exact se_ld0_ok h hF hl hs
  next => exact se_ld2_ok h hF hl hs
  next => exact se_ld2_ok h hF hl hs
  next => exact se_st0_ok h hF hl hs
  next => exact se_st0_ok h hF hl hs
  next => exact se_st2_ok h hF hl hs
  next => exact se_st2_ok h hF hl hs
  next i n =>
    split at h
    next v hg =>
      split at h
      next hi =>
        split at h
        next w hw =>
          cases h
          obtain ⟨v', h1, h2⟩ := se_get hl hg
          obtain ⟨x, y, rfl, hy, hr⟩ := se_op_ok hw h2 (show se_r ρ (.int (Int32.ofInt n)) (.int (Int32.ofInt n)) from rfl)
          cases hy
          refine se_nx1 (st' := st') hF ?_ (se_set1 hl hr) hs
          show (match rm_get ls' i with
            | some (.int x) => if i < mx then some (pc + 3, rm_set1 ls' i (.int (x + Int32.ofInt n)), st') else none
            | _ => none) = _
          rw [h1]
          exact if_pos hi
        next => cases h
      next => cases h
    next => cases h
  next => exact se_i2_ok h hF hl hs
  next => exact se_i2_ok h hF hl hs
  next => exact se_i2_ok h hF hl hs
  next =>
    split at h
    next b a r =>
      split at h
      next hq =>
        obtain ⟨rfl, rfl⟩ := hq
        cases h
        obtain ⟨hbv, _, hst9, hb, hs9⟩ := se_cons hs; clear hs; subst hst9; have hs := hs9; clear hs9
        obtain ⟨hav, _, hst9, ha, hs9⟩ := se_cons hs; clear hs; subst hst9; have hs := hs9; clear hs9
        cases se_r_lit hb
        cases se_r_var ha
        refine se_nx1 hF rfl hl (se_c2 ?_ hs)
        show Value.int (ρ (0 : UInt32).toNat &&& 127) = .int (ρ (100 : UInt32).toNat)
        rw [show (100 : UInt32).toNat = 100 from rfl, show (0 : UInt32).toNat = 0 from rfl, h127]
      next => exact se_i2_ok h hF hl hs
    next => cases h
  next => exact se_i2_ok h hF hl hs
  next => exact se_i2_ok h hF hl hs
  next => exact se_i2_ok h hF hl hs
  next =>
    split at h
    next y x r =>
      split at h
      next => cases h
      next hy =>
        cases h
        obtain ⟨hbv, _, hst9, hb, hs9⟩ := se_cons hs; clear hs; subst hst9; have hs := hs9; clear hs9
        obtain ⟨hav, _, hst9, ha, hs9⟩ := se_cons hs; clear hs; subst hst9; have hs := hs9; clear hs9
        cases se_r_lit hb
        cases se_r_lit ha
        exact se_nx1 hF (if_neg hy) hl (se_c2 rfl hs)
    next => cases h
  next =>
    split at h
    next y x r =>
      split at h
      next => cases h
      next hy =>
        cases h
        obtain ⟨hbv, _, hst9, hb, hs9⟩ := se_cons hs; clear hs; subst hst9; have hs := hs9; clear hs9
        obtain ⟨hav, _, hst9, ha, hs9⟩ := se_cons hs; clear hs; subst hst9; have hs := hs9; clear hs9
        cases se_r_lit hb
        cases se_r_lit ha
        exact se_nx1 hF (if_neg hy) hl (se_c2 rfl hs)
    next => cases h
  next =>
    split at h
    next x r =>
      cases h
      obtain ⟨hav, _, hst9, ha, hs9⟩ := se_cons hs; clear hs; subst hst9; have hs := hs9; clear hs9
      cases se_r_lit ha
      exact se_nx1 hF rfl hl (se_c2 rfl hs)
    next v r _ =>
      split at h
      next hi =>
        cases h
        obtain ⟨hav, _, hst9, ha, hs9⟩ := se_cons hs; clear hs; subst hst9; have hs := hs9; clear hs9
        obtain ⟨x, rfl⟩ := se_r_int ha hi
        exact se_nx1 hF rfl hl (se_c2 ⟨_, rfl⟩ hs)
      next => cases h
    next => cases h
  next =>
    split at h
    next x r =>
      cases h
      obtain ⟨hav, _, hst9, ha, hs9⟩ := se_cons hs; clear hs; subst hst9; have hs := hs9; clear hs9
      cases se_r_lit ha
      exact se_nx1 hF rfl hl (se_c2 rfl hs)
    next => cases h
  next =>
    split at h
    next v r =>
      split at h
      next hc =>
        cases h
        obtain ⟨hav, _, hst9, ha, hs9⟩ := se_cons hs; clear hs; subst hst9; have hs := hs9; clear hs9
        exact se_nx1 hF (if_pos (by rw [se_r_cat ha]; exact hc)) hl (se_c2 ha (se_c2 ha hs))
      next => cases h
    next => cases h
  next =>
    split at h
    next v r =>
      split at h
      next hc =>
        cases h
        obtain ⟨hav, _, hst9, ha, hs9⟩ := se_cons hs; clear hs; subst hst9; have hs := hs9; clear hs9
        exact se_nx1 hF (if_pos (by rw [se_r_cat ha]; exact hc)) hl hs
      next => cases h
    next => cases h
  next =>
    split at h
    next v w r =>
      split at h
      next hc =>
        cases h
        obtain ⟨hav, _, hst9, ha, hs9⟩ := se_cons hs; clear hs; subst hst9; have hs := hs9; clear hs9
        obtain ⟨hbv, _, hst9, hb, hs9⟩ := se_cons hs; clear hs; subst hst9; have hs := hs9; clear hs9
        exact se_nx1 hF (if_pos (by rw [se_r_cat ha, se_r_cat hb]; exact hc)) hl (se_c2 ha (se_c2 hb (se_c2 ha (se_c2 hb hs))))
      next => cases h
    next => cases h
  next c off =>
    split at h
    next a r =>
      split at h
      next l t hc ht =>
        cases h
        obtain ⟨hav, _, hst9, ha, hs9⟩ := se_cons hs; clear hs; subst hst9; have hs := hs9; clear hs9
        obtain ⟨x, y, rfl, hy, hq⟩ := se_cmp_ok hF hc ha (show se_r ρ (.int 0) (.int 0) from rfl)
        cases hy
        exact se_br_ok ht hl hs hq
      next => cases h
    next => cases h
  next c off =>
    split at h
    next b a r =>
      split at h
      next l t hc ht =>
        cases h
        obtain ⟨hbv, _, hst9, hb, hs9⟩ := se_cons hs; clear hs; subst hst9; have hs := hs9; clear hs9
        obtain ⟨hav, _, hst9, ha, hs9⟩ := se_cons hs; clear hs; subst hst9; have hs := hs9; clear hs9
        obtain ⟨x, y, rfl, rfl, hq⟩ := se_cmp_ok hF hc ha hb
        exact se_br_ok ht hl hs hq
      next => cases h
    next => cases h
  next off =>
    split at h
    next t ht =>
      cases h
      exact se_nx1 hF (show (rm_tg pc off).map _ = _ by rw [ht]; rfl) hl hs
    next => cases h
  next d lo hi offs =>
    split at h
    next x r =>
      obtain ⟨hav, _, hst9, ha, hs9⟩ := se_cons hs; clear hs; subst hst9; have hs := hs9; clear hs9
      cases se_r_lit ha
      split at h
      next hq =>
        split at h
        next t ht =>
          cases h
          exact se_nx1 hF (by
            show (if x.toInt < lo ∨ hi < x.toInt then (rm_tg pc d).map _ else _) = _
            rw [if_pos hq, ht]; rfl) hl hs
        next => cases h
      next hq =>
        split at h
        next off ho =>
          split at h
          next t ht =>
            cases h
            refine se_nx1 (ls' := ls') hF ?_ hl hs
            show (if x.toInt < lo ∨ hi < x.toInt then (rm_tg pc d).map _ else (match offs[(x.toInt - lo).toNat]? with
              | some off => (rm_tg pc off).map _
              | none => none)) = _
            rw [if_neg hq, ho]
            show (rm_tg pc off).map _ = _
            rw [ht]; rfl
          next => cases h
        next => cases h
    next k r =>
      obtain ⟨hav, _, hst9, ha, hs9⟩ := se_cons hs; clear hs; subst hst9; have hs := hs9; clear hs9
      cases se_r_var ha
      obtain ⟨b1, b2, -⟩ := se_lk_ok hF k.toNat
      split at h
      next hq =>
        split at h
        next t ht =>
          cases h
          refine se_nx1 (ls' := ls') hF ?_ hl hs
          show (if (ρ k.toNat).toInt < lo ∨ hi < (ρ k.toNat).toInt then (rm_tg pc d).map _ else _) = _
          have hq2 : (ρ k.toNat).toInt < lo ∨ hi < (ρ k.toNat).toInt := by
            rcases hq with hq | hq
            · left; omega
            · right; omega
          rw [if_pos hq2, ht]
          rfl
        next => cases h
      next => cases h
    next => cases h
  next => cases h
