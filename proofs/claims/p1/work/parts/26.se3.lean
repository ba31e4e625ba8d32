abbrev se_E : Type := (Nat × Nat × (Nat → Value)) ⊕ (Nat × List Value)
abbrev se_H : Type := List se_E
def se_e (ρ : Nat → Int32) : se_E → rm_E → Prop
  | .inl (t, n, c), .inl (u, m, x) => t = u ∧ n = m ∧ (if t = 3 then ∃ f, x = .inr (.inl f) ∧ ∀ j, c j = .long (f j) else if t = 4 then ∃ f, x = .inr (.inr (.inr (.inr f))) ∧ ∀ j, c j = va_rf (f j) else ∃ f, x = .inl f ∧ ∀ j, se_r ρ (c j) (.int (f j)))
  | .inr (ci, fs), .inr (cj, gs) => ci = cj ∧ se_St ρ fs gs
  | _, _ => False
abbrev se_Hp (ρ : Nat → Int32) (h : se_H) (h' : rm_H) : Prop := se_a2 (se_e ρ) h h'
theorem se_obj {ρ : Nat → Int32} {h : se_H} {h' : rm_H} {a ci : Nat} {fs : List Value} (hh : se_Hp ρ h h') (ha : h[a]? = some (.inr (ci, fs))) : ∃ gs, h'[a]? = some (.inr (ci, gs)) ∧ se_St ρ fs gs := by
  obtain ⟨e, h1, h2⟩ := se_at hh ha
  cases e with
  | inl x => cases h2
  | inr x =>
    obtain ⟨cj, gs⟩ := x
    obtain ⟨rfl, h3⟩ := h2
    exact ⟨gs, h1, h3⟩
theorem se_arr {ρ : Nat → Int32} {h : se_H} {h' : rm_H} {a t n : Nat} {c : Nat → Value} (hh : se_Hp ρ h h') (ha : h[a]? = some (.inl (t, n, c))) (h3 : t ≠ 3) (h4 : t ≠ 4) : ∃ f, h'[a]? = some (.inl (t, n, .inl f)) ∧ ∀ j, se_r ρ (c j) (.int (f j)) := by
  obtain ⟨e, h1, h2⟩ := se_at hh ha
  cases e with
  | inr x => cases h2
  | inl x =>
    obtain ⟨u, m, x⟩ := x
    obtain ⟨rfl, rfl, h5⟩ := h2
    rw [if_neg h3, if_neg h4] at h5
    obtain ⟨f, rfl, h6⟩ := h5
    exact ⟨f, h1, h6⟩
def se_up (c : Nat → Value) (k : Nat) (v : Value) : Nat → Value := fun j => if j = k then v else c j
def se_rdi (G : rm_G) (L : Nat) (h : se_H) (t : Nat) (ty : FieldType) (a : Nat) (i : Int32) : Option Value :=
  if a < rm_K then
    (match h[a]? with
      | some (.inl (u, n, c)) => if u = t ∧ t < 3 then (if i < 0 ∨ n ≤ i.toNatClampNeg then none else some (c i.toNatClampNeg)) else none
      | _ => none)
  else if a - rm_K = 2000 then
    (if ty = .int then (if i < 0 ∨ L ≤ i.toNatClampNeg then none else some (.float (UInt32.ofNat i.toNatClampNeg))) else none)
  else
    (match rm_ca G (a - rm_K) with
      | some (ty', n, f) => if ty' = ty then (if i < 0 ∨ n ≤ i.toNatClampNeg then none else some (.int (f i.toNatClampNeg))) else none
      | _ => none)
def se_G (G G' : rm_G) (L : Nat) (ρ : Nat → Int32) : Prop := L ≤ 90 ∧ (∀ k, k ≠ 2000 → rm_ca G' k = rm_ca G k) ∧ (∃ xs, rm_ca G' 2000 = some (.int, L, xs) ∧ ∀ j, j < L → xs j = ρ j) ∧ rm_nS G' = rm_nS G ∧ (∀ ci, rm_df G' ci = rm_df G ci) ∧ (∀ ci k, rm_ty G' ci k = rm_ty G ci k) ∧ (∀ ci v, v ∈ rm_df G ci → se_r ρ v v)
theorem se_rdi_ok {G G' : rm_G} {L : Nat} {ρ : Nat → Int32} {h : se_H} {h' : rm_H} {t a : Nat} {ty : FieldType} {i : Int32} {v : Value} (hG : se_G G G' L ρ) (hh : se_Hp ρ h h') (hr : se_rdi G L h t ty a i = some v) : ∃ x, rm_rdi G' h' t ty a i = some x ∧ se_r ρ v (.int x) := by
  unfold se_rdi at hr
  unfold rm_rdi
  split at hr
  next hK =>
    rw [if_pos hK]
    split at hr
    next u n c ha =>
      split at hr
      next hu =>
        obtain ⟨rfl, ht⟩ := hu
        split at hr
        next => cases hr
        next hin =>
          cases hr
          obtain ⟨f, h1, h2⟩ := se_arr hh ha (by omega) (by omega)
          rw [h1]
          dsimp only
          rw [if_pos rfl, if_neg hin]
          exact ⟨_, rfl, h2 _⟩
      next => cases hr
    next => cases hr
  next hK =>
    rw [if_neg hK]
    obtain ⟨g1, g2, ⟨xs, g3, g4⟩, -⟩ := hG
    split at hr
    next hk =>
      split at hr
      next hty =>
        split at hr
        next => cases hr
        next hin =>
          cases hr
          subst hty
          rw [hk, g3]
          dsimp only
          rw [if_pos rfl, if_neg hin]
          refine ⟨_, rfl, ?_⟩
          have hlt : i.toNatClampNeg < L := Nat.not_le.mp (fun q => hin (Or.inr q))
          show Value.int (xs i.toNatClampNeg) = .int (ρ (UInt32.ofNat i.toNatClampNeg).toNat)
          rw [g4 _ hlt, UInt32.toNat_ofNat_of_lt' (by
            have : UInt32.size = 4294967296 := rfl
            omega)]
      next => cases hr
    next hk =>
      rw [g2 _ hk]
      split at hr
      next ty' n f hc =>
        split at hr
        next hty =>
          split at hr
          next => cases hr
          next hin =>
            cases hr
            rw [hc]
            dsimp only
            rw [if_pos hty, if_neg hin]
            exact ⟨_, rfl, rfl⟩
        next => cases hr
      next => cases hr
def se_sym : Value → Bool
  | .float _ => true
  | .retAddr _ => true
  | _ => false
def se_pf (ty : FieldType) (v : Value) : Bool := if se_sym v then decide (ty = .int) else decide (narrow ty v = v) && fits ty v
theorem se_pf_ok {ρ : Nat → Int32} {ty : FieldType} {v w : Value} (h : se_pf ty v = true) (hv : se_r ρ v w) : narrow ty w = w ∧ fits ty w = true := by
  unfold se_pf at h
  cases v <;> first
    | (rw [show w = _ from hv]; simpa [se_sym] using h)
    | (rw [show w = _ from hv, show ty = .int by simpa [se_sym] using h]; exact ⟨rfl, rfl⟩)
    | (obtain ⟨y, rfl⟩ := hv; rw [show ty = .int by simpa [se_sym] using h]; exact ⟨rfl, rfl⟩)
def se_nb (ty : FieldType) (x : Value) : Value := match x with
  | .int y => .int (vp_nar ty y)
  | _ => .retAddr 0
theorem se_nb_ok {ρ : Nat → Int32} (ty : FieldType) {x : Value} {y : Int32} (h : se_r ρ x (.int y)) : se_r ρ (se_nb ty x) (.int (vp_nar ty y)) := by
  cases x <;> first
    | (cases se_r_lit h; rfl)
    | exact ⟨_, rfl⟩
abbrev se_N2 : Type := Option (Nat × rm_L × List Value × se_H × Nat × Nat)
def se_s2 (G : rm_G) (L : Nat) (fin : Nat → Nat → Bool) (iM : Option Nat) (pl : Nat → Option rm_P) (ins : Instr) (pc : Nat) (ls : rm_L) (st : List Value) (h : se_H) : se_N2 :=
  match ins with
  | .getfield idx => match pl idx with
    | some (0, ci, k, _) => match st with
      | .ref a :: r => match h[a]? with
        | some (.inr (cj, fs)) => if cj = ci then (match fs[k]? with
            | some v => some (pc + 3, ls, v :: r, h, 0, 0)
            | none => none) else none
        | _ => none
      | _ => none
    | some (8, _, 0, _) => match st with
      | .ref a :: r => if rm_K ≤ a ∧ (a - rm_K) % 2 = 0 ∧ (a - rm_K) / 2 < rm_nS G then some (pc + 3, ls, .int 0 :: r, h, 0, 0) else none
      | _ => none
    | some (8, _, 1, _) => match st with
      | .ref a :: r => if rm_K ≤ a ∧ (a - rm_K) % 2 = 0 ∧ (a - rm_K) / 2 < rm_nS G then some (pc + 3, ls, .ref (a + 1) :: r, h, 0, 0) else none
      | _ => none
    | _ => none
  | .putfield idx => match pl idx with
    | some (0, ci, k, _) => match st with
      | v :: .ref a :: r => match h[a]? with
        | some (.inr (cj, fs)) => if cj = ci ∧ k < fs.length ∧ se_pf (rm_ty G ci k) v = true ∧ (fin ci k = false ∨ iM = some ci) then some (pc + 3, ls, r, h.set a (.inr (cj, fs.set k v)), 0, 0) else none
        | _ => none
      | _ => none
    | _ => none
  | .getstatic idx => match pl idx with
    | some (9, _, _, z) => some (pc + 3, ls, .int (Int32.ofInt z) :: st, h, 0, 0)
    | some (10, a, _, _) => some (pc + 3, ls, .ref (rm_K + a) :: st, h, 0, 0)
    | some (16, _, _, _) => some (pc + 3, ls, .null :: st, h, 0, 0)
    | _ => none
  | .ldc idx => match pl idx with
    | some (5, _, _, z) => some (pc + 2, ls, .int (Int32.ofInt z) :: st, h, 0, 0)
    | some (7, i, _, _) => some (pc + 2, ls, .ref (rm_K + 2 * i) :: st, h, 0, 0)
    | _ => none
  | .ldc_w idx => match pl idx with
    | some (5, _, _, z) => some (pc + 3, ls, .int (Int32.ofInt z) :: st, h, 0, 0)
    | some (7, i, _, _) => some (pc + 3, ls, .ref (rm_K + 2 * i) :: st, h, 0, 0)
    | _ => none
  | .new idx => match pl idx with
    | some (4, ci, _, _) => if h.length < rm_K then some (pc + 3, ls, .ref h.length :: st, h ++ [.inr (ci, rm_df G ci)], 1, (rm_df G ci).length) else none
    | _ => none
  | .newarray t => match rm_at t, st with
    | some u, .int n :: r => if h.length < rm_K ∧ ¬ n < 0 ∧ n.toNatClampNeg * 8 ≤ 536870912 then some (pc + 2, ls, .ref h.length :: r, h ++ [.inl (u, n.toNatClampNeg, fun _ => if u = 3 then .long 0 else .int 0)], 1, n.toNatClampNeg) else none
    | _, _ => none
  | .multianewarray idx 2 => match pl idx with
    | some (14, _, _, _) => match st with
      | .int k :: .int n :: r => if h.length + (1 + n.toNatClampNeg) ≤ rm_K ∧ ¬ n < 0 ∧ ¬ k < 0 ∧ n.toNatClampNeg * 4 ≤ 536870912 ∧ k.toNatClampNeg * 4 ≤ 536870912 then
          some (pc + 4, ls, .ref h.length :: r, h ++ (.inl (4, n.toNatClampNeg, fun i => va_rf (if i < n.toNatClampNeg then some (h.length + 1 + i) else none)) :: List.replicate n.toNatClampNeg (.inl (0, k.toNatClampNeg, fun _ => .int 0))), 1 + n.toNatClampNeg, n.toNatClampNeg + n.toNatClampNeg * k.toNatClampNeg) else none
      | _ => none
    | _ => none
  | .iaload => match st with
    | .int i :: .ref a :: r => match se_rdi G L h 0 .int a i with
      | some x => some (pc + 1, ls, x :: r, h, 0, 0)
      | none => none
    | _ => none
  | .baload => match st with
    | .int i :: .ref a :: r => if a < rm_K then (match h[a]? with
      | some (.inl (1, n, c)) => if i < 0 ∨ n ≤ i.toNatClampNeg then none else some (pc + 1, ls, c i.toNatClampNeg :: r, h, 0, 0)
      | some (.inl (2, n, c)) => if i < 0 ∨ n ≤ i.toNatClampNeg then none else some (pc + 1, ls, c i.toNatClampNeg :: r, h, 0, 0)
      | _ => none) else (match se_rdi G L h 1 .byte a i with
      | some x => some (pc + 1, ls, x :: r, h, 0, 0)
      | none => none)
    | _ => none
  | .iastore => match st with
    | x :: .int i :: .ref a :: r => match h[a]? with
      | some (.inl (0, n, c)) => if se_int x = false ∨ i < 0 ∨ n ≤ i.toNatClampNeg then none else some (pc + 1, ls, r, h.set a (.inl (0, n, se_up c i.toNatClampNeg x)), 0, 0)
      | _ => none
    | _ => none
  | .bastore => match st with
    | x :: .int i :: .ref a :: r => match h[a]? with
      | some (.inl (1, n, c)) => if se_int x = false ∨ i < 0 ∨ n ≤ i.toNatClampNeg then none else some (pc + 1, ls, r, h.set a (.inl (1, n, se_up c i.toNatClampNeg (se_nb .byte x))), 0, 0)
      | some (.inl (2, n, c)) => if se_int x = false ∨ i < 0 ∨ n ≤ i.toNatClampNeg then none else some (pc + 1, ls, r, h.set a (.inl (2, n, se_up c i.toNatClampNeg (se_nb .boolean x))), 0, 0)
      | _ => none
    | _ => none
  | .arraylength => match st with
    | .ref a :: r => if a < rm_K then (match h[a]? with
      | some (.inl (u, n, _)) => if u < 5 then some (pc + 1, ls, .int (Int32.ofNat n) :: r, h, 0, 0) else none
      | _ => none) else if a - rm_K = 2000 then some (pc + 1, ls, .int (Int32.ofNat L) :: r, h, 0, 0) else (match rm_ca G (a - rm_K) with
      | some (_, n, _) => some (pc + 1, ls, .int (Int32.ofNat n) :: r, h, 0, 0)
      | _ => none)
    | _ => none
  | _ => none
def se_nx2 (ρ : Nat → Int32) (q : Nat × rm_L × List Value × se_H × Nat × Nat) (r : rm_N2) : Prop := ∃ x, r = some x ∧ x.1 = q.1 ∧ se_Ls ρ q.2.1 x.2.1 ∧ se_St ρ q.2.2.1 x.2.2.1 ∧ se_Hp ρ q.2.2.2.1 x.2.2.2.1 ∧ x.2.2.2.2 = q.2.2.2.2
theorem se_nx2i {ρ : Nat → Int32} {pc c d : Nat} {ls ls' : rm_L} {st st' : List Value} {h : se_H} {h' : rm_H} {r : rm_N2} (hr : r = some (pc, ls', st', h', c, d)) (hl : se_Ls ρ ls ls') (hs : se_St ρ st st') (hh : se_Hp ρ h h') : se_nx2 ρ (pc, ls, st, h, c, d) r := ⟨_, hr, rfl, hl, hs, hh, rfl⟩
theorem se_self {ρ : Nat → Int32} : ∀ {l : List Value}, (∀ v ∈ l, se_r ρ v v) → se_St ρ l l
  | [], _ => trivial
  | v :: l, h => ⟨h v List.mem_cons_self, se_self (fun w hw => h w (List.mem_cons_of_mem _ hw))⟩
theorem se_up_ok {ρ : Nat → Int32} {c : Nat → Value} {f : Nat → Int32} (h : ∀ j, se_r ρ (c j) (.int (f j))) {k : Nat} {v : Value} {x : Int32} (hv : se_r ρ v (.int x)) : ∀ j, se_r ρ (se_up c k v j) (.int (upd f k x j)) := by
  intro j
  unfold se_up upd
  split
  · exact hv
  · exact h j
