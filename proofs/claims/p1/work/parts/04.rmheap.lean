abbrev rm_E : Type := (Nat × vp_A) ⊕ (Nat × List Value)
abbrev rm_H : Type := List rm_E
abbrev rm_P : Type := Nat × Nat × Nat × Int
abbrev rm_CA : Type := FieldType × Nat × (Nat → Int32)
abbrev rm_G : Type := (List vw_C × (Nat → Nat → FieldType) × (Nat → List Value)) × (Nat × (Nat → Option rm_CA) × List (String × Nat × Nat)) × (List (String × String × String × Int32) × List (String × String × String × Option Nat) × List (String × Nat × MethodName)) × List Cond
def rm_cl (G : rm_G) : List vw_C := G.1.1
def rm_ty (G : rm_G) : Nat → Nat → FieldType := G.1.2.1
def rm_df (G : rm_G) : Nat → List Value := G.1.2.2
def rm_nS (G : rm_G) : Nat := G.2.1.1
def rm_ca (G : rm_G) : Nat → Option rm_CA := G.2.1.2.1
def rm_sr (G : rm_G) : List (String × Nat × Nat) := G.2.1.2.2
def rm_si (G : rm_G) : List (String × String × String × Int32) := G.2.2.1.1
def rm_sa (G : rm_G) : List (String × String × String × Option Nat) := G.2.2.1.2.1
def rm_nl (G : rm_G) : List (String × Nat × MethodName) := G.2.2.1.2.2
def rm_ho : String := "LibraryHouse"
def rm_TW (G : rm_G) : List Cond := G.2.2.2
def rm_K : Nat := 1000000
def rm_a (ad : Nat → Nat) (x : vp_A) : vp_A := match x with
  | (n, .inr (.inr (.inr (.inr f)))) => (n, .inr (.inr (.inr (.inr (fun i => (f i).map ad)))))
  | x => x
def rm_e (ad : Nat → Nat) (tc : Nat → ClassId) : rm_E → va_E
  | .inl (t, x) => .inl (tc t, rm_a ad x)
  | .inr (ci, fs) => .inr (ci, fs.map (rm_v ad))
def rm_W (ad : Nat → Nat) (tc : Nat → ClassId) (h : rm_H) : va_W := h.mapIdx (fun k e => (ad k, rm_e ad tc e))
def rm_T (tc : Nat → ClassId) : List (ClassId × FieldType) := [(tc 0, .int), (tc 1, .byte), (tc 2, .boolean), (tc 3, .long), (tc 4, .array .int)]
def rm_A (base : Nat) : Nat → Prop := fun q => base ≤ q
theorem rm_W_at (ad : Nat → Nat) (tc : Nat → ClassId) (h : rm_H) (k : Nat) : (rm_W ad tc h)[k]? = (h[k]?).map (fun e => (ad k, rm_e ad tc e)) := by
  unfold rm_W
  rw [List.getElem?_mapIdx]
theorem rm_W_len (ad : Nat → Nat) (tc : Nat → ClassId) (h : rm_H) : (rm_W ad tc h).length = h.length := by
  unfold rm_W
  rw [List.length_mapIdx]
theorem rm_W_in {ad : Nat → Nat} {tc : Nat → ClassId} {h : rm_H} {k : Nat} {e : rm_E} (hk : h[k]? = some e) : (rm_W ad tc h)[k]? = some (ad k, rm_e ad tc e) := by
  rw [rm_W_at, hk]; rfl
theorem rm_W_set (ad : Nat → Nat) (tc : Nat → ClassId) (h : rm_H) (k : Nat) (e : rm_E) : (rm_W ad tc h).set k (ad k, rm_e ad tc e) = rm_W ad tc (h.set k e) := by
  apply List.ext_getElem?
  intro j
  rw [rm_W_at, List.getElem?_set, List.getElem?_set, rm_W_len, rm_W_at]
  by_cases hj : k = j
  · subst hj
    by_cases hl : k < h.length
    · simp [hl]
    · simp [hl]
  · simp [hj]
theorem rm_W_push (ad : Nat → Nat) (tc : Nat → ClassId) (h : rm_H) (e : rm_E) : rm_W ad tc (h ++ [e]) = rm_W ad tc h ++ [(ad h.length, rm_e ad tc e)] := by
  unfold rm_W
  rw [List.mapIdx_append]
  simp
theorem rm_D {base : Nat} {ad : Nat → Nat} {tc : Nat → ClassId} {h : rm_H} (had : ∀ k, k < rm_K → ad k = base + k) (hl : h.length ≤ rm_K) : va_D (rm_A base) (rm_W ad tc h) := by
  have key : ∀ (k : Nat) (q : Nat × va_E), (rm_W ad tc h)[k]? = some q → k < h.length ∧ q.1 = base + k := by
    intro k q hq
    have h1 : k < (rm_W ad tc h).length := (List.getElem?_eq_some_iff.mp hq).1
    rw [rm_W_len] at h1
    rw [rm_W_at] at hq
    cases he : h[k]? with
    | none => rw [he] at hq; cases hq
    | some e =>
      rw [he] at hq
      cases hq
      exact ⟨h1, had k (by omega)⟩
  refine ⟨fun i j x y hi hj hxy => ?_, fun k q hq => ?_⟩
  · have h1 := (key i x hi).2
    have h2 := (key j y hj).2
    omega
  · have h1 := (key k q hq).2
    show base ≤ q.1
    omega
def rm_Ok (G : rm_G) (D : va_G) (ad : Nat → Nat) (tc : Nat → ClassId) (base : Nat) (h : rm_H) (s : State) (H : Heap) (locs : List Loc) : Prop :=
  va_P D (rm_cl G) (rm_W ad tc h) H ∧ H.size = base + h.length ∧ h.length ≤ rm_K ∧ va_S (rm_A base) s.heap H locs
def rm_AO (U : State) : Prop := (Cond.arrayOver (.array .int)).before #[] U = true
theorem rm_idx_bare (vm : Vm) (comp : ClassId) : (vm.bare.classes.findIdx? fun (x : Class) => match x.kind with | .array component _ => component == comp | _ => false) = (vm.classes.findIdx? fun (x : Class) => match x.kind with | .array component _ => component == comp | _ => false) := by
  simp only [Vm.bare, Array.findIdx?_map]
  rfl
theorem rm_AO.moved {u U : State} (hvm : u.vm.Alike U.vm) (h : rm_AO u) : rm_AO U := by
  obtain ⟨comp, c, k, h1, h2, h3, h4, h5⟩ := Jvm.Stand.arrayOver_specB h
  obtain ⟨k', hk', he⟩ := hvm.2.2 _ _ h3
  have hi : (U.vm.classes.findIdx? fun (x : Class) => match x.kind with | .array component _ => component == comp | _ => false) = some c := by
    rw [← rm_idx_bare]
    first | rw [hvm.bare_eq] | rw [← hvm.bare_eq]
    rw [rm_idx_bare]
    exact h2
  have hkind : k'.kind = .array comp (.array .int) := by rw [he]; exact h4
  have f1 : U.vm.findClass (FieldType.array .int).toString = some comp := by rw [hvm.findClass]; exact h1
  have f2 : U.vm.findClass ("[" ++ (FieldType.array .int).toString) = some c := by rw [hvm.findClass]; exact h5
  unfold rm_AO Cond.before Cond.holds
  simp only [Cond.value]
  rw [f1, Option.bind_some]
  refine (congrArg (fun o : Option Nat => (o.bind (fun c => (U.vm.classes[c]?).map fun (k : Class) => match k.kind with | .array _ ty => decide (ty = FieldType.array .int) && decide (U.vm.findClass ("[" ++ (FieldType.array .int).toString) = some c) | _ => false) == some true)) hi).trans ?_
  simp [hk', hkind, f2]
def rm_Env (G : rm_G) (ad : Nat → Nat) (A : Nat → Prop) (U : State) (H : Heap) : Prop :=
  (∀ i, i < rm_nS G → va_O "java/lang/String" (ad (rm_K + 2 * i)) A U H ∧ va_OF "java/lang/String" "coder" "B" (.int 0) (ad (rm_K + 2 * i)) A U H ∧ va_OF "java/lang/String" "value" "[B" (.ref (ad (rm_K + (2 * i + 1)))) (ad (rm_K + 2 * i)) A U H) ∧
  (∀ k ty n f, rm_ca G k = some (ty, n, f) → va_T ty (ad (rm_K + k)) n (fun j => .int (f j)) A U H) ∧
  (∀ q ∈ rm_sr G, ∃ tx, vk_R q.1 q.2.1 tx (ad (rm_K + 2 * q.2.2)) U) ∧
  (∀ q ∈ rm_si G, va_Z q.1 q.2.1 q.2.2.1 (.int q.2.2.2) A U H) ∧
  (∀ q ∈ rm_sa G, va_Z q.1 q.2.1 q.2.2.1 (va_rf (q.2.2.2.map (fun k => ad (rm_K + k)))) A U H) ∧
  (∀ q ∈ rm_nl G, va_Nw (.methodLinkNest q.1 q.2.1 q.2.2 rm_ho) U) ∧ rm_AO U
theorem rm_Env.kept {G : rm_G} {ad : Nat → Nat} {A : Nat → Prop} {U : State} {H H1 : Heap} (h : rm_Env G ad A U H) (hq : ∀ a : Nat, a < H.size → ¬ A a → H1[a]? = H[a]?) : rm_Env G ad A U H1 := by
  obtain ⟨h1, h2, h3, h4, h5, h6⟩ := h
  exact ⟨fun i hi => ⟨(h1 i hi).1.kept hq, (h1 i hi).2.1.kept hq, (h1 i hi).2.2.kept hq⟩, fun k ty n f hk => (h2 k ty n f hk).kept hq, h3, fun q hm => (h4 q hm).kept hq, fun q hm => (h5 q hm).kept hq, h6⟩
theorem rm_Env.warm {G : rm_G} {ad : Nat → Nat} {A : Nat → Prop} {s U : State} {H : Heap} (h : rm_Env G ad A s H) (hW : s.WarmedH U.vm) : rm_Env G ad A U H := by
  obtain ⟨h1, h2, h3, h4, h5, h6⟩ := h
  exact ⟨fun i hi => ⟨va_O.moved hW.alike (h1 i hi).1, va_OF.moved hW.alike (h1 i hi).2.1, va_OF.moved hW.alike (h1 i hi).2.2⟩, fun k ty n f hk => va_T.moved hW.alike (h2 k ty n f hk), fun q hm => by
    obtain ⟨tx, ht⟩ := h3 q hm
    exact ⟨tx, ht.warm hW⟩, fun q hm => va_Z.moved hW.alike (h4 q hm), fun q hm => va_Z.moved hW.alike (h5 q hm), fun q hm => (h6.1 q hm).warmM hW, h6.2.moved hW.alike⟩
theorem rm_Env.same {G : rm_G} {ad : Nat → Nat} {A : Nat → Prop} {s U : State} {H : Heap} (h : rm_Env G ad A s H) (hv : U.vm = s.vm) : rm_Env G ad A U H := by
  obtain ⟨h1, h2, h3, h4, h5, h6⟩ := h
  have ha : s.vm.Alike U.vm := by rw [hv]; exact Vm.Alike.refl _
  exact ⟨fun i hi => ⟨va_O.moved ha (h1 i hi).1, va_OF.moved ha (h1 i hi).2.1, va_OF.moved ha (h1 i hi).2.2⟩, fun k ty n f hk => va_T.moved ha (h2 k ty n f hk), fun q hm => by
    obtain ⟨tx, ht⟩ := h3 q hm
    exact ⟨tx, ht.same hv⟩, fun q hm => va_Z.moved ha (h4 q hm), fun q hm => va_Z.moved ha (h5 q hm), fun q hm => (h6.1 q hm).same rfl hv.symm, h6.2.moved ha⟩
def rm_ClOk (G : rm_G) : Prop := ∀ ci C T N, (rm_cl G)[ci]? = some (C, T, N) →
  (∀ w ∈ u_ws C T N, w ∈ rm_TW G) ∧ (∀ k, k < N → parseFieldDescriptor (T k).2.2.1 = some (rm_ty G ci k)) ∧ (∀ a, a < N → ∀ b, b < N → a ≠ b → (T a).2.1 ≠ (T b).2.1) ∧ Cond.instantiable C N ∈ rm_TW G ∧ Cond.initialized C ∈ rm_TW G ∧
  (∀ j, j < N → defaultValue (rm_ty G ci j) = vp_V (rm_df G ci) j) ∧ (∀ k, k < N → (T k).1 = C) ∧ (∀ ad, (rm_df G ci).map (rm_v ad) = rm_df G ci) ∧ (rm_df G ci).length = N
def rm_PlOk (G : rm_G) (own : String) (pl : Nat → Option rm_P) : Prop :=
  (∀ idx ci k z, pl idx = some (0, ci, k, z) → ∃ C T N, (rm_cl G)[ci]? = some (C, T, N) ∧ k < N ∧ Cond.fieldLink own idx (T k).1 (T k).2.1 (T k).2.2.1 ∈ rm_TW G) ∧
  (∀ idx ci k z, pl idx = some (4, ci, k, z) → ∃ C T N, (rm_cl G)[ci]? = some (C, T, N) ∧ Cond.classLink own idx C ∈ rm_TW G) ∧
  (∀ idx a b z, pl idx = some (5, a, b, z) → Cond.constant own idx (Int32.ofInt z) ∈ rm_TW G) ∧
  (∀ idx a b z, pl idx = some (6, a, b, z) → Cond.constantLong own idx (Int64.ofInt z) ∈ rm_TW G) ∧
  (∀ idx i b z, pl idx = some (7, i, b, z) → (own, idx, i) ∈ rm_sr G) ∧
  (∀ idx a z, pl idx = some (8, a, 0, z) → Cond.fieldLink own idx "java/lang/String" "coder" "B" ∈ rm_TW G) ∧
  (∀ idx a z, pl idx = some (8, a, 1, z) → Cond.fieldLink own idx "java/lang/String" "value" "[B" ∈ rm_TW G) ∧
  (∀ idx a b z, pl idx = some (9, a, b, z) → ∃ C n d, (C, n, d, Int32.ofInt z) ∈ rm_si G ∧ Cond.fieldLink own idx C n d ∈ rm_TW G) ∧
  (∀ idx a b z, pl idx = some (10, a, b, z) → ∃ C n d, (C, n, d, some a) ∈ rm_sa G ∧ Cond.fieldLink own idx C n d ∈ rm_TW G) ∧
  (∀ idx a b z, pl idx = some (16, a, b, z) → ∃ C n d, (C, n, d, none) ∈ rm_sa G ∧ Cond.fieldLink own idx C n d ∈ rm_TW G) ∧
  (∀ idx a b z, pl idx = some (14, a, b, z) → Cond.classLink own idx ("[" ++ (FieldType.array .int).toString) ∈ rm_TW G)
abbrev rm_N2 : Type := Option (Nat × rm_L × List Value × rm_H × Nat × Nat)
def rm_rdi (G : rm_G) (h : rm_H) (t : Nat) (ty : FieldType) (a : Nat) (i : Int32) : Option Int32 :=
  if a < rm_K then
    (match h[a]? with
      | some (.inl (u, n, .inl f)) => if u = t then (if i < 0 ∨ n ≤ i.toNatClampNeg then none else some (f i.toNatClampNeg)) else none
      | _ => none)
  else
    (match rm_ca G (a - rm_K) with
      | some (ty', n, f) => if ty' = ty then (if i < 0 ∨ n ≤ i.toNatClampNeg then none else some (f i.toNatClampNeg)) else none
      | _ => none)
def rm_len2 (G : rm_G) (h : rm_H) (a : Nat) : Option Int32 :=
  if a < rm_K then
    (match h[a]? with
      | some (.inl (u, x)) => if u < 5 then some (Int32.ofNat x.1) else none
      | _ => none)
  else
    (match rm_ca G (a - rm_K) with
      | some (_, n, _) => some (Int32.ofNat n)
      | _ => none)
def rm_at (t : ArrayType) : Option Nat := match t with
  | .int => some 0
  | .byte => some 1
  | .boolean => some 2
  | .long => some 3
  | _ => none
def rm_z (t N : Nat) : vp_A := if t = 3 then (N, .inr (.inl (fun _ => 0))) else (N, .inl (fun _ => 0))
def rm_s2 (G : rm_G) (fin : Nat → Nat → Bool) (iM : Option Nat) (pl : Nat → Option rm_P) (ins : Instr) (pc : Nat) (ls : rm_L) (st : List Value) (h : rm_H) : rm_N2 :=
  match ins with
  | .getfield idx => match pl idx with
    | some (0, ci, k, _) => match st with
      | .ref a :: r => match h[a]? with
        | some (.inr (cj, fs)) => if cj = ci then (match fs[k]? with
            | some v => some (pc + 3, ls, v :: r, h, 0, 0)
            | none => none) else none
        | _ => none
      | _ => none
    | some (8, _, 0, _) => match st with
      | .ref a :: r => if rm_K ≤ a ∧ (a - rm_K) % 2 = 0 ∧ (a - rm_K) / 2 < rm_nS G then some (pc + 3, ls, .int 0 :: r, h, 0, 0) else none
      | _ => none
    | some (8, _, 1, _) => match st with
      | .ref a :: r => if rm_K ≤ a ∧ (a - rm_K) % 2 = 0 ∧ (a - rm_K) / 2 < rm_nS G then some (pc + 3, ls, .ref (a + 1) :: r, h, 0, 0) else none
      | _ => none
    | _ => none
  | .putfield idx => match pl idx with
    | some (0, ci, k, _) => match st with
      | v :: .ref a :: r => match h[a]? with
        | some (.inr (cj, fs)) => if cj = ci ∧ k < fs.length ∧ narrow (rm_ty G ci k) v = v ∧ fits (rm_ty G ci k) v = true ∧ (fin ci k = false ∨ iM = some ci) then some (pc + 3, ls, r, h.set a (.inr (cj, fs.set k v)), 0, 0) else none
        | _ => none
      | _ => none
    | _ => none
  | .getstatic idx => match pl idx with
    | some (9, _, _, z) => some (pc + 3, ls, .int (Int32.ofInt z) :: st, h, 0, 0)
    | some (10, a, _, _) => some (pc + 3, ls, .ref (rm_K + a) :: st, h, 0, 0)
    | some (16, _, _, _) => some (pc + 3, ls, .null :: st, h, 0, 0)
    | _ => none
  | .ldc idx => match pl idx with
    | some (5, _, _, z) => some (pc + 2, ls, .int (Int32.ofInt z) :: st, h, 0, 0)
    | some (7, i, _, _) => some (pc + 2, ls, .ref (rm_K + 2 * i) :: st, h, 0, 0)
    | _ => none
  | .ldc_w idx => match pl idx with
    | some (5, _, _, z) => some (pc + 3, ls, .int (Int32.ofInt z) :: st, h, 0, 0)
    | some (7, i, _, _) => some (pc + 3, ls, .ref (rm_K + 2 * i) :: st, h, 0, 0)
    | _ => none
  | .ldc2_w idx => match pl idx with
    | some (6, _, _, z) => some (pc + 3, ls, .long (Int64.ofInt z) :: st, h, 0, 0)
    | _ => none
  | .new idx => match pl idx with
    | some (4, ci, _, _) => if h.length < rm_K then some (pc + 3, ls, .ref h.length :: st, h ++ [.inr (ci, rm_df G ci)], 1, (rm_df G ci).length) else none
    | _ => none
  | .newarray t => match rm_at t, st with
    | some u, .int n :: r => if h.length < rm_K ∧ ¬ n < 0 ∧ n.toNatClampNeg * 8 ≤ 536870912 then some (pc + 2, ls, .ref h.length :: r, h ++ [.inl (u, rm_z u n.toNatClampNeg)], 1, n.toNatClampNeg) else none
    | _, _ => none
  | .multianewarray idx 2 => match pl idx with
    | some (14, _, _, _) => match st with
      | .int k :: .int n :: r => if h.length + (1 + n.toNatClampNeg) ≤ rm_K ∧ ¬ n < 0 ∧ ¬ k < 0 ∧ n.toNatClampNeg * 4 ≤ 536870912 ∧ k.toNatClampNeg * 4 ≤ 536870912 then
          some (pc + 4, ls, .ref h.length :: r, h ++ (.inl (4, n.toNatClampNeg, .inr (.inr (.inr (.inr (fun i => if i < n.toNatClampNeg then some (h.length + 1 + i) else none))))) :: List.replicate n.toNatClampNeg (.inl (0, rm_z 0 k.toNatClampNeg))), 1 + n.toNatClampNeg, n.toNatClampNeg + n.toNatClampNeg * k.toNatClampNeg) else none
      | _ => none
    | _ => none
  | .iaload => match st with
    | .int i :: .ref a :: r => match rm_rdi G h 0 .int a i with
      | some x => some (pc + 1, ls, .int x :: r, h, 0, 0)
      | none => none
    | _ => none
  | .baload => match st with
    | .int i :: .ref a :: r => match rm_rdi G h 1 .byte a i with
      | some x => some (pc + 1, ls, .int x :: r, h, 0, 0)
      | none => match rm_rdi G h 2 .boolean a i with
        | some x => some (pc + 1, ls, .int x :: r, h, 0, 0)
        | none => none
    | _ => none
  | .laload => match st with
    | .int i :: .ref a :: r => match h[a]? with
      | some (.inl (3, n, .inr (.inl f))) => if i < 0 ∨ n ≤ i.toNatClampNeg then none else some (pc + 1, ls, .long (f i.toNatClampNeg) :: r, h, 0, 0)
      | _ => none
    | _ => none
  | .aaload => match st with
    | .int i :: .ref a :: r => match h[a]? with
      | some (.inl (4, n, .inr (.inr (.inr (.inr f))))) => if i < 0 ∨ n ≤ i.toNatClampNeg then none else some (pc + 1, ls, va_rf (f i.toNatClampNeg) :: r, h, 0, 0)
      | _ => none
    | _ => none
  | .iastore => match st with
    | .int x :: .int i :: .ref a :: r => match h[a]? with
      | some (.inl (0, n, .inl f)) => if i < 0 ∨ n ≤ i.toNatClampNeg then none else some (pc + 1, ls, r, h.set a (.inl (0, n, .inl (upd f i.toNatClampNeg x))), 0, 0)
      | _ => none
    | _ => none
  | .bastore => match st with
    | .int x :: .int i :: .ref a :: r => match h[a]? with
      | some (.inl (1, n, .inl f)) => if i < 0 ∨ n ≤ i.toNatClampNeg then none else some (pc + 1, ls, r, h.set a (.inl (1, n, .inl (upd f i.toNatClampNeg (vp_nar .byte x)))), 0, 0)
      | some (.inl (2, n, .inl f)) => if i < 0 ∨ n ≤ i.toNatClampNeg then none else some (pc + 1, ls, r, h.set a (.inl (2, n, .inl (upd f i.toNatClampNeg (vp_nar .boolean x)))), 0, 0)
      | _ => none
    | _ => none
  | .lastore => match st with
    | .long x :: .int i :: .ref a :: r => match h[a]? with
      | some (.inl (3, n, .inr (.inl f))) => if i < 0 ∨ n ≤ i.toNatClampNeg then none else some (pc + 1, ls, r, h.set a (.inl (3, n, .inr (.inl (vp_updL f i.toNatClampNeg x)))), 0, 0)
      | _ => none
    | _ => none
  | .arraylength => match st with
    | .ref a :: r => match rm_len2 G h a with
      | some x => some (pc + 1, ls, .int x :: r, h, 0, 0)
      | none => none
    | _ => none
  | _ => none
