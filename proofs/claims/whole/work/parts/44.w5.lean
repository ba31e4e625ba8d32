section WC
variable {G : rm_G} {fin : Nat → Nat → Bool} {pr : Nat → Option rm_M} {T : w_T} {Bs : Nat → Nat → Nat} {B : Nat} {M : rm_M} {pc : Nat} {ls : w_L} {st : List w_V} {S : w_S} {Q : Option w_V → w_S → Prop} {ins : Instr} {K : w_K} {P : Prop}
theorem w_k1 {pc' : Nat} {st' : List w_V} (h0 : rm_mb M pc = some ins) (hs : w_oks st → ∀ l, rm_s1 (rm_mx M) ins pc l (st.map w_v) = some (pc', l, st'.map w_v)) (ho : w_oks st → w_oks st') (hw : WP G fin pr T Bs B M pc' ls st' S Q) : WP G fin pr T Bs B M pc ls st S Q :=
  w_by1 h0 (fun hl ok l hin => ⟨pc', ls, st', l, hs ok l, hin, hl, ho ok, hw⟩)
theorem w_ldi_ok {d i : Nat} (h0 : rm_mb M pc = some ins) (hs : ∀ l s, rm_s1 (rm_mx M) ins pc l s = rm_ld pc d l s i 0) (hK : ∀ pc' ls' st' S', K pc' ls' st' S' → WP G fin pr T Bs B M pc' ls' st' S' Q) (h : w_ldi pc d ls st S K i = some P) (hP : P) : WP G fin pr T Bs B M pc ls st S Q := by
  unfold w_ldi at h
  split at h
  next x hx =>
    cases h
    refine w_by1 h0 (fun hl ok l hin => ⟨_, ls, (.inl x :: st), l, ?_, hin, hl, w_oks_cons (w_get_ok hl hx) ok, hK _ _ _ _ hP⟩)
    rw [hs]
    unfold rm_ld
    rw [w_in_get hin hx]
    rfl
  next => cases h
theorem w_ldl_ok {d i : Nat} (h0 : rm_mb M pc = some ins) (hs : ∀ l s, rm_s1 (rm_mx M) ins pc l s = rm_ld pc d l s i 1) (hK : ∀ pc' ls' st' S', K pc' ls' st' S' → WP G fin pr T Bs B M pc' ls' st' S' Q) (h : w_ldl pc d ls st S K i = some P) (hP : P) : WP G fin pr T Bs B M pc ls st S Q := by
  unfold w_ldl at h
  split at h
  next x hx =>
    cases h
    refine w_by1 h0 (fun hl ok l hin => ⟨_, ls, (.inr (.inr (.inr x)) :: st), l, ?_, hin, hl, w_oks_cons (w_get_ok hl hx) ok, hK _ _ _ _ hP⟩)
    rw [hs]
    unfold rm_ld
    rw [w_in_get hin hx]
    rfl
  next => cases h
theorem w_lda_ok {d i : Nat} (h0 : rm_mb M pc = some ins) (hs : ∀ l s, rm_s1 (rm_mx M) ins pc l s = rm_ld pc d l s i 2) (hK : ∀ pc' ls' st' S', K pc' ls' st' S' → WP G fin pr T Bs B M pc' ls' st' S' Q) (h : w_lda pc d ls st S K i = some P) (hP : P) : WP G fin pr T Bs B M pc ls st S Q := by
  unfold w_lda at h
  split at h
  next x hx =>
    cases h
    refine w_by1 h0 (fun hl ok l hin => ⟨_, ls, (.inr (.inl x) :: st), l, ?_, hin, hl, w_oks_cons (w_get_ok hl hx) ok, hK _ _ _ _ hP⟩)
    rw [hs]
    unfold rm_ld
    rw [w_in_get hin hx]
    rfl
  next x hx =>
    cases h
    refine w_by1 h0 (fun hl ok l hin => ⟨_, ls, (.inr (.inr (.inl x)) :: st), l, ?_, hin, hl, w_oks_cons (w_get_ok hl hx) ok, hK _ _ _ _ hP⟩)
    rw [hs]
    unfold rm_ld
    rw [w_in_get hin hx]
    rfl
  next => cases h
theorem w_sti_ok {d i : Nat} (h0 : rm_mb M pc = some ins) (hs : ∀ l s, rm_s1 (rm_mx M) ins pc l s = rm_st (rm_mx M) pc d l s i 0) (hK : ∀ pc' ls' st' S', K pc' ls' st' S' → WP G fin pr T Bs B M pc' ls' st' S' Q) (h : w_sti (rm_mx M) pc d ls st S K i = some P) (hP : P) : WP G fin pr T Bs B M pc ls st S Q := by
  unfold w_sti at h
  split at h
  next x r =>
    split at h
    next hm =>
      cases h
      refine w_by1 h0 (fun hl ok l hin => ⟨_, _, r, rm_set1 l i (w_v (.inl x)), ?_, w_in_set1 hin, w_set1_ok hl (w_oks_hd ok), w_oks_tl ok, hK _ _ _ _ hP⟩)
      rw [hs]
      show (if i < rm_mx M then some (pc + d, rm_set1 l i (.int (Int32.ofInt x)), r.map w_v) else none) = _
      rw [if_pos hm]
      rfl
    next => cases h
  next => cases h
theorem w_stl_ok {d i : Nat} (h0 : rm_mb M pc = some ins) (hs : ∀ l s, rm_s1 (rm_mx M) ins pc l s = rm_st (rm_mx M) pc d l s i 1) (hK : ∀ pc' ls' st' S', K pc' ls' st' S' → WP G fin pr T Bs B M pc' ls' st' S' Q) (h : w_stl (rm_mx M) pc d ls st S K i = some P) (hP : P) : WP G fin pr T Bs B M pc ls st S Q := by
  unfold w_stl at h
  split at h
  next x r =>
    split at h
    next hm =>
      cases h
      refine w_by1 h0 (fun hl ok l hin => ⟨_, _, r, rm_set2 l i (w_v (.inr (.inr (.inr x)))), ?_, w_in_set2 hin, w_set2_ok hl (w_oks_hd ok), w_oks_tl ok, hK _ _ _ _ hP⟩)
      rw [hs]
      show (if i + 1 < rm_mx M then some (pc + d, rm_set2 l i (.long (Int64.ofInt x)), r.map w_v) else none) = _
      rw [if_pos hm]
      rfl
    next => cases h
  next => cases h
theorem w_sta_ok {d i : Nat} (h0 : rm_mb M pc = some ins) (hs : ∀ l s, rm_s1 (rm_mx M) ins pc l s = rm_st (rm_mx M) pc d l s i 2) (hK : ∀ pc' ls' st' S', K pc' ls' st' S' → WP G fin pr T Bs B M pc' ls' st' S' Q) (h : w_sta (rm_mx M) pc d ls st S K i = some P) (hP : P) : WP G fin pr T Bs B M pc ls st S Q := by
  unfold w_sta at h
  split at h
  next x r =>
    split at h
    next hm =>
      cases h
      refine w_by1 h0 (fun hl ok l hin => ⟨_, _, r, rm_set1 l i (w_v (.inr (.inl x))), ?_, w_in_set1 hin, w_set1_ok hl (w_oks_hd ok), w_oks_tl ok, hK _ _ _ _ hP⟩)
      rw [hs]
      show (if i < rm_mx M then some (pc + d, rm_set1 l i (.ref x), r.map w_v) else none) = _
      rw [if_pos hm]
      rfl
    next => cases h
  next x r =>
    split at h
    next hm =>
      cases h
      refine w_by1 h0 (fun hl ok l hin => ⟨_, _, r, rm_set1 l i (w_v (.inr (.inr (.inl x)))), ?_, w_in_set1 hin, w_set1_ok hl (w_oks_hd ok), w_oks_tl ok, hK _ _ _ _ hP⟩)
      rw [hs]
      show (if i < rm_mx M then some (pc + d, rm_set1 l i (.ref x), r.map w_v) else none) = _
      rw [if_pos hm]
      rfl
    next => cases h
  next => cases h
theorem w_bin_ok {f : Int32 → Int32 → Int32} {g : Int → Int → Int} (h0 : rm_mb M pc = some ins) (hs : ∀ l s, rm_s1 (rm_mx M) ins pc l s = rm_i2 pc l s f) (hf : ∀ x y, f (Int32.ofInt x) (Int32.ofInt y) = Int32.ofInt (g x y)) (hn : ∀ x y, w_n (g x y)) (hK : ∀ pc' ls' st' S', K pc' ls' st' S' → WP G fin pr T Bs B M pc' ls' st' S' Q) (h : w_bin pc ls st S K g = some P) (hP : P) : WP G fin pr T Bs B M pc ls st S Q := by
  unfold w_bin at h
  split at h
  next y x r =>
    cases h
    refine w_k1 (st' := .inl (g x y) :: r) h0 (fun ok l => ?_) (fun ok => w_oks_cons (hn x y) (w_oks_tl (w_oks_tl ok))) (hK _ _ _ _ hP)
    rw [hs]
    show some (pc + 1, l, .int (f (Int32.ofInt x) (Int32.ofInt y)) :: r.map w_v) = some (pc + 1, l, .int (Int32.ofInt (g x y)) :: r.map w_v)
    rw [hf]
  next => cases h
theorem w_bo_ok {f : Int32 → Int32 → Int32} {g : Int → Int → Int} (h0 : rm_mb M pc = some ins) (hs : ∀ l s, rm_s1 (rm_mx M) ins pc l s = rm_i2 pc l s f) (hf : ∀ x y, f (Int32.ofInt x) (Int32.ofInt y) = Int32.ofInt (g x y)) (hK : ∀ pc' ls' st' S', K pc' ls' st' S' → WP G fin pr T Bs B M pc' ls' st' S' Q) (h : w_bo pc ls st S K g = some P) (hP : P) : WP G fin pr T Bs B M pc ls st S Q := by
  unfold w_bo at h
  split at h
  next y x r =>
    cases h
    refine w_k1 (st' := .inl (g x y) :: r) h0 (fun ok l => ?_) (fun ok => w_oks_cons hP.1 (w_oks_tl (w_oks_tl ok))) (hK _ _ _ _ hP.2)
    rw [hs]
    show some (pc + 1, l, .int (f (Int32.ofInt x) (Int32.ofInt y)) :: r.map w_v) = some (pc + 1, l, .int (Int32.ofInt (g x y)) :: r.map w_v)
    rw [hf]
  next => cases h
theorem w_br_ok {c : ClassFile.Cond} {x y : Int} {off : Int} {r : List w_V} (h0 : rm_mb M pc = some ins) (hx : w_oks st → w_n x ∧ w_n y) (hs : ∀ l, rm_s1 (rm_mx M) ins pc l (st.map w_v) = rm_br pc off l (r.map w_v) (rm_cb c (Int32.ofInt x) (Int32.ofInt y))) (hr : w_oks st → w_oks r) (hK : ∀ pc' ls' st' S', K pc' ls' st' S' → WP G fin pr T Bs B M pc' ls' st' S' Q) (h : w_br c x y pc off ls r S K = some P) (hP : P) : WP G fin pr T Bs B M pc ls st S Q := by
  unfold w_br at h
  split at h
  next t ht =>
    cases h
    refine w_by1 h0 (fun hl ok l hin => ?_)
    obtain ⟨nx, ny⟩ := hx ok
    rcases w_cbE c nx ny with ⟨e, q⟩ | ⟨e, q⟩
    · refine ⟨t, ls, r, l, ?_, hin, hl, hr ok, hK _ _ _ _ (hP.1 q)⟩
      rw [hs, e]
      unfold rm_br
      rw [ht]
      rfl
    · refine ⟨pc + 3, ls, r, l, ?_, hin, hl, hr ok, hK _ _ _ _ (hP.2 q)⟩
      rw [hs, e]
      unfold rm_br
      rw [ht]
      rfl
  next => cases h
theorem w_tab_ok {x : Int} {F : Nat → Prop} : ∀ {offs : List Int} {lo : Int}, w_tab pc x F lo offs → lo ≤ x → x < lo + offs.length → ∃ off t, offs[(x - lo).toNat]? = some off ∧ rm_tg pc off = some t ∧ F t
  | [], lo, _, h1, h2 => by
    rw [List.length_nil] at h2
    omega
  | off :: offs, lo, h, h1, h2 => by
    obtain ⟨ha, hb⟩ := h
    by_cases e : x = lo
    · subst e
      split at ha
      next t ht => exact ⟨off, t, by rw [Int.sub_self]; rfl, ht, ha rfl⟩
      next => exact ha.elim
    · obtain ⟨o, t, q1, q2, q3⟩ := w_tab_ok hb (by omega) (by rw [List.length_cons] at h2; omega)
      refine ⟨o, t, ?_, q2, q3⟩
      rw [show (x - lo).toNat = (x - (lo + 1)).toNat + 1 by omega, List.getElem?_cons_succ]
      exact q1
theorem w_lk_ok {x d : Int} {F : Nat → Prop} : ∀ {ps : List (Int × Int)}, w_lk pc x F d ps → ∃ t, rm_tg pc (Op.lookupswitch.offset ps d x) = some t ∧ F t
  | [], h => by
    unfold w_lk at h
    rw [Op.lookupswitch.offset_nil]
    split at h
    next t ht => exact ⟨t, ht, h⟩
    next => exact h.elim
  | (a, o) :: r, h => by
    obtain ⟨h1, h2⟩ := h
    rw [Op.lookupswitch.offset_cons]
    by_cases e : a = x
    · rw [if_pos e]
      have h1 := h1 e
      split at h1
      next t ht => exact ⟨t, ht, h1⟩
      next => exact h1.elim
    · rw [if_neg e]
      exact w_lk_ok (h2 e)
set_option maxHeartbeats 2000000 in
theorem w_st1_ok (h0 : rm_mb M pc = some ins) (hK : ∀ pc' ls' st' S', K pc' ls' st' S' → WP G fin pr T Bs B M pc' ls' st' S' Q) (h : w_st1 (rm_mx M) ins pc ls st S K = some P) (hP : P) : WP G fin pr T Bs B M pc ls st S Q := by
  unfold w_st1 at h
  split at h
  next n => cases h; exact w_k1 (st' := .inl (w_r n) :: st) h0 (fun ok l => by simp only [rm_s1, List.map_cons, w_v, w_of_r]) (fun ok => w_oks_cons (w_r_n n) ok) (hK _ _ _ _ hP)
  next n => cases h; exact w_k1 (st' := .inl (w_b n) :: st) h0 (fun ok l => by simp only [rm_s1, List.map_cons, w_v, w_8E]) (fun ok => w_oks_cons (w_b_n n) ok) (hK _ _ _ _ hP)
  next n => cases h; exact w_k1 (st' := .inl (w_16 n) :: st) h0 (fun ok l => by simp only [rm_s1, List.map_cons, w_v, w_16E]) (fun ok => w_oks_cons (w_16_n n) ok) (hK _ _ _ _ hP)
  next n => cases h; exact w_k1 (st' := .inr (.inr (.inr ((n : Nat) : Int))) :: st) h0 (fun ok l => by simp only [rm_s1, List.map_cons, w_v, Int64.ofInt_eq_ofNat]) (fun ok => w_oks_cons (show w_n64 ((n : Nat) : Int) by have := n.isLt; unfold w_n64; omega) ok) (hK _ _ _ _ hP)
  next k => exact w_ldi_ok h0 (fun l s => rfl) hK h hP
  next k => exact w_ldi_ok h0 (fun l s => rfl) hK h hP
  next k => exact w_ldl_ok h0 (fun l s => rfl) hK h hP
  next k => exact w_ldl_ok h0 (fun l s => rfl) hK h hP
  next k => exact w_lda_ok h0 (fun l s => rfl) hK h hP
  next k => exact w_lda_ok h0 (fun l s => rfl) hK h hP
  next k => exact w_sti_ok h0 (fun l s => rfl) hK h hP
  next k => exact w_sti_ok h0 (fun l s => rfl) hK h hP
  next k => exact w_stl_ok h0 (fun l s => rfl) hK h hP
  next k => exact w_stl_ok h0 (fun l s => rfl) hK h hP
  next k => exact w_sta_ok h0 (fun l s => rfl) hK h hP
  next k => exact w_sta_ok h0 (fun l s => rfl) hK h hP
  next i n =>
    split at h
    next x hx =>
      split at h
      next hm =>
        cases h
        refine w_by1 h0 (fun hl ok l hin => ⟨_, _, st, rm_set1 l i (w_v (.inl (x + n))), ?_, w_in_set1 hin, w_set1_ok hl hP.1, ok, hK _ _ _ _ hP.2⟩)
        simp only [rm_s1, w_in_get hin hx, w_v, if_pos hm, Int32.ofInt_add]
      next => cases h
    next => cases h
  next => exact w_bo_ok h0 (fun l s => rfl) (fun x y => (Int32.ofInt_add x y).symm) hK h hP
  next => exact w_bo_ok h0 (fun l s => rfl) (fun x y => (Int32.ofInt_sub x y).symm) hK h hP
  next => exact w_bo_ok h0 (fun l s => rfl) (fun x y => (Int32.ofInt_mul x y).symm) hK h hP
  next => exact w_bin_ok h0 (fun l s => rfl) (w_opE (fun a b => a &&& b)) (w_op_n _) hK h hP
  next => exact w_bin_ok h0 (fun l s => rfl) (w_opE (fun a b => a ||| b)) (w_op_n _) hK h hP
  next => exact w_bin_ok h0 (fun l s => rfl) (w_opE (fun a b => a <<< (b &&& 31))) (w_op_n _) hK h hP
  next => exact w_bin_ok h0 (fun l s => rfl) (w_opE (fun a b => a >>> (b &&& 31))) (w_op_n _) hK h hP
  next =>
    split at h
    next y x r =>
      cases h
      refine w_k1 (st' := .inl (w_div x y) :: r) h0 (fun ok l => ?_) (fun ok => w_oks_cons (w_op_n _ x y) (w_oks_tl (w_oks_tl ok))) (hK _ _ _ _ hP.2)
      have hy : ¬ Int32.ofInt y = 0 := fun e => hP.1 (w_of_inj (w_oks_hd ok) w_n0 e)
      show (if Int32.ofInt y = 0 then none else some (pc + 1, l, .int (Int32.ofInt x / Int32.ofInt y) :: r.map w_v)) = _
      rw [if_neg hy]
      show _ = some (pc + 1, l, .int (Int32.ofInt (w_div x y)) :: r.map w_v)
      rw [show Int32.ofInt (w_div x y) = Int32.ofInt x / Int32.ofInt y from (w_opE (fun a b => a / b) x y).symm]
    next => cases h
  next =>
    split at h
    next y x r =>
      cases h
      refine w_k1 (st' := .inl (w_rem x y) :: r) h0 (fun ok l => ?_) (fun ok => w_oks_cons (w_op_n _ x y) (w_oks_tl (w_oks_tl ok))) (hK _ _ _ _ hP.2)
      have hy : ¬ Int32.ofInt y = 0 := fun e => hP.1 (w_of_inj (w_oks_hd ok) w_n0 e)
      show (if Int32.ofInt y = 0 then none else some (pc + 1, l, .int (Int32.ofInt x - Int32.ofInt x / Int32.ofInt y * Int32.ofInt y) :: r.map w_v)) = _
      rw [if_neg hy]
      show _ = some (pc + 1, l, .int (Int32.ofInt (w_rem x y)) :: r.map w_v)
      rw [show Int32.ofInt (w_rem x y) = Int32.ofInt x - Int32.ofInt x / Int32.ofInt y * Int32.ofInt y from (w_opE (fun a b => a - a / b * b) x y).symm]
    next => cases h
  next =>
    split at h
    next y x r =>
      cases h
      exact w_k1 (st' := .inr (.inr (.inr (x + y))) :: r) h0 (fun ok l => by simp only [rm_s1, rm_l2, List.map_cons, w_v, Int64.ofInt_add]) (fun ok => w_oks_cons hP.1 (w_oks_tl (w_oks_tl ok))) (hK _ _ _ _ hP.2)
    next => cases h
  next =>
    split at h
    next y x r =>
      cases h
      exact w_k1 (st' := .inr (.inr (.inr (x * y))) :: r) h0 (fun ok l => by simp only [rm_s1, rm_l2, List.map_cons, w_v, Int64.ofInt_mul]) (fun ok => w_oks_cons hP.1 (w_oks_tl (w_oks_tl ok))) (hK _ _ _ _ hP.2)
    next => cases h
  next =>
    split at h
    next y x r =>
      cases h
      refine w_k1 (st' := .inl (w_cmp x y) :: r) h0 (fun ok l => ?_) (fun ok => w_oks_cons (show w_n (w_cmp x y) by unfold w_cmp w_n; split <;> (try split) <;> omega) (w_oks_tl (w_oks_tl ok))) (hK _ _ _ _ hP)
      have h1 : w_n64 y := w_oks_hd ok
      have h2 : w_n64 x := w_oks_hd (w_oks_tl ok)
      have e : lg_cmp (Int64.ofInt x) (Int64.ofInt y) = Int32.ofInt (w_cmp x y) := by
        unfold lg_cmp w_cmp
        have q1 : (Int64.ofInt x > Int64.ofInt y) ↔ y < x := by
          rw [GT.gt, Int64.lt_iff_toInt_lt, w_to64 h1, w_to64 h2]
        have q2 : (Int64.ofInt x = Int64.ofInt y) ↔ x = y := by
          rw [← Int64.toInt_inj, w_to64 h1, w_to64 h2]
        by_cases c1 : y < x
        · rw [if_pos (q1.mpr c1), if_pos c1]
          rfl
        · rw [if_neg (fun q => c1 (q1.mp q)), if_neg c1]
          by_cases c2 : x = y
          · rw [if_pos (q2.mpr c2), if_pos c2]
            rfl
          · rw [if_neg (fun q => c2 (q2.mp q)), if_neg c2]
            rfl
      simp only [rm_s1, List.map_cons, w_v, e]
    next => cases h
  next =>
    split at h
    next x r =>
      cases h
      refine w_k1 (st' := .inr (.inr (.inr x)) :: r) h0 (fun ok l => ?_) (fun ok => w_oks_cons (show w_n64 x by have : w_n x := w_oks_hd ok; unfold w_n at this; unfold w_n64; omega) (w_oks_tl ok)) (hK _ _ _ _ hP)
      have h1 : w_n x := w_oks_hd ok
      have e : (Int32.ofInt x).toInt64 = Int64.ofInt x := by
        apply Int64.toInt.inj
        rw [Int32.toInt_toInt64, w_to h1, w_to64 (by unfold w_n at h1; unfold w_n64; omega)]
      simp only [rm_s1, List.map_cons, w_v, e]
    next => cases h
  next =>
    split at h
    next x r =>
      cases h
      exact w_k1 (st' := .inl (w_b x) :: r) h0 (fun ok l => by simp only [rm_s1, List.map_cons, w_v, w_bE]) (fun ok => w_oks_cons (w_b_n x) (w_oks_tl ok)) (hK _ _ _ _ hP)
    next => cases h
  next =>
    split at h
    next v r =>
      split at h
      next => cases h
      next hc =>
        cases h
        refine w_k1 (st' := v :: v :: r) h0 (fun ok l => ?_) (fun ok => w_oks_cons (w_oks_hd ok) ok) (hK _ _ _ _ hP)
        have e : (w_v v).category = 1 := by
          rcases v with x | a | a | y
          · rfl
          · rfl
          · rfl
          · exact absurd rfl hc
        simp only [rm_s1, List.map_cons, e, if_true]
    next => cases h
  next =>
    split at h
    next v r =>
      split at h
      next => cases h
      next hc =>
        cases h
        refine w_k1 (st' := r) h0 (fun ok l => ?_) (fun ok => w_oks_tl ok) (hK _ _ _ _ hP)
        have e : (w_v v).category = 1 := by
          rcases v with x | a | a | y
          · rfl
          · rfl
          · rfl
          · exact absurd rfl hc
        simp only [rm_s1, List.map_cons, e, if_true]
    next => cases h
  next =>
    split at h
    next v w r =>
      split at h
      next => cases h
      next hc =>
        cases h
        refine w_k1 (st' := v :: w :: v :: w :: r) h0 (fun ok l => ?_) (fun ok => w_oks_cons (w_oks_hd ok) (w_oks_cons (w_oks_hd (w_oks_tl ok)) ok)) (hK _ _ _ _ hP)
        have hc : w_c2 v = false ∧ w_c2 w = false := by simpa using hc
        have e1 : (w_v v).category = 1 := by
          rcases v with x | a | a | y
          · rfl
          · rfl
          · rfl
          · exact nomatch (show true = false from hc.1)
        have e2 : (w_v w).category = 1 := by
          rcases w with x | a | a | y
          · rfl
          · rfl
          · rfl
          · exact nomatch (show true = false from hc.2)
        simp only [rm_s1, List.map_cons, e1, e2, and_self, if_true]
    next => cases h
  next c off =>
    split at h
    next x r => exact w_br_ok h0 (fun ok => ⟨w_oks_hd ok, w_n0⟩) (fun l => rfl) (fun ok => w_oks_tl ok) hK h hP
    next => cases h
  next c off =>
    split at h
    next y x r => exact w_br_ok h0 (fun ok => ⟨w_oks_hd (w_oks_tl ok), w_oks_hd ok⟩) (fun l => rfl) (fun ok => w_oks_tl (w_oks_tl ok)) hK h hP
    next => cases h
  next off =>
    split at h
    next t ht =>
      cases h
      refine w_k1 (pc' := t) (st' := st) h0 (fun ok l => ?_) (fun ok => ok) (hK _ _ _ _ hP)
      simp only [rm_s1, ht, Option.map_some]
    next => cases h
  next d lo hi offs =>
    split at h
    next x r =>
      split at h
      next hsz =>
        split at h
        next t ht =>
          cases h
          refine w_by1 h0 (fun hl ok l hin => ?_)
          have hx : w_n x := w_oks_hd ok
          by_cases hc : x < lo ∨ hi < x
          · refine ⟨t, ls, r, l, ?_, hin, hl, w_oks_tl ok, hK _ _ _ _ (hP.1 hc)⟩
            simp only [rm_s1, List.map_cons, w_v, w_to hx, if_pos hc, ht, Option.map_some]
          · obtain ⟨off, t2, q1, q2, q3⟩ := w_tab_ok hP.2 (by omega) (by rw [Array.length_toList, hsz]; omega)
            refine ⟨t2, ls, r, l, ?_, hin, hl, w_oks_tl ok, hK _ _ _ _ q3⟩
            have q1 : offs[(x - lo).toNat]? = some off := by rw [← Array.getElem?_toList]; exact q1
            simp only [rm_s1, List.map_cons, w_v, w_to hx, if_neg hc, q1, q2, Option.map_some]
        next => cases h
      next => cases h
    next => cases h
  next d ps =>
    split at h
    next x r =>
      split at h
      next hsz =>
        cases h
        obtain ⟨t, ht, hk⟩ := w_lk_ok hP
        refine w_k1 (pc' := t) (st' := r) h0 (fun ok l => ?_) (fun ok => w_oks_tl ok) (hK _ _ _ _ hk)
        have hx : w_n x := w_oks_hd ok
        simp only [rm_s1, List.map_cons, w_v, w_to hx, if_pos hsz, ht, Option.map_some]
      next => cases h
    next => cases h
  next => cases h
end WC
