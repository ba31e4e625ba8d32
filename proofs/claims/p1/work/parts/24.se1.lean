def se_r (ρ : Nat → Int32) : Value → Value → Prop
  | .float k, b => b = .int (ρ k.toNat)
  | .retAddr _, b => ∃ x, b = .int x
  | a, b => b = a
def se_int : Value → Bool
  | .int _ => true
  | .float _ => true
  | .retAddr _ => true
  | _ => false
theorem se_r_int {ρ : Nat → Int32} {a b : Value} (h : se_r ρ a b) (hi : se_int a = true) : ∃ x, b = .int x := by
  cases a <;> first | exact ⟨_, h⟩ | exact h | (cases hi)
theorem se_r_cat {ρ : Nat → Int32} {a b : Value} (h : se_r ρ a b) : b.category = a.category := by
  cases a <;> first | (rw [show b = _ from h]; rfl) | (obtain ⟨x, rfl⟩ := h; rfl)
theorem se_r_lit {ρ : Nat → Int32} {x : Int32} {b : Value} (h : se_r ρ (.int x) b) : b = .int x := h
theorem se_r_long {ρ : Nat → Int32} {x : Int64} {b : Value} (h : se_r ρ (.long x) b) : b = .long x := h
theorem se_r_ref {ρ : Nat → Int32} {x : Nat} {b : Value} (h : se_r ρ (.ref x) b) : b = .ref x := h
theorem se_r_var {ρ : Nat → Int32} {k : UInt32} {b : Value} (h : se_r ρ (.float k) b) : b = .int (ρ k.toNat) := h
def se_a2 {α β : Type} (R : α → β → Prop) : List α → List β → Prop
  | [], [] => True
  | a :: l, b :: m => R a b ∧ se_a2 R l m
  | _, _ => False
theorem se_cons {α β : Type} {R : α → β → Prop} {a : α} {l : List α} {m : List β} (h : se_a2 R (a :: l) m) : ∃ b m', m = b :: m' ∧ R a b ∧ se_a2 R l m' := by
  cases m with
  | nil => cases h
  | cons b m => exact ⟨b, m, rfl, h.1, h.2⟩
theorem se_c2 {α β : Type} {R : α → β → Prop} {a : α} {b : β} {l : List α} {m : List β} (h : R a b) (hs : se_a2 R l m) : se_a2 R (a :: l) (b :: m) := ⟨h, hs⟩
theorem se_nil {α β : Type} {R : α → β → Prop} {m : List β} (h : se_a2 R ([] : List α) m) : m = [] := by
  cases m with
  | nil => rfl
  | cons b m => cases h
theorem se_len {α β : Type} {R : α → β → Prop} : ∀ {l : List α} {m : List β}, se_a2 R l m → m.length = l.length
  | [], [], _ => rfl
  | a :: l, b :: m, h => by rw [List.length_cons, List.length_cons, se_len h.2]
  | [], _ :: _, h => by cases h
  | _ :: _, [], h => by cases h
theorem se_at {α β : Type} {R : α → β → Prop} : ∀ {l : List α} {m : List β} {k : Nat} {a : α}, se_a2 R l m → l[k]? = some a → ∃ b, m[k]? = some b ∧ R a b
  | [], _, k, a, _, h => by simp at h
  | x :: l, m, 0, a, h, hk => by
    obtain ⟨b, m', rfl, h1, h2⟩ := se_cons h
    simp at hk
    subst hk
    exact ⟨b, by simp, h1⟩
  | x :: l, m, k + 1, a, h, hk => by
    obtain ⟨b, m', rfl, h1, h2⟩ := se_cons h
    simp only [List.getElem?_cons_succ] at hk ⊢
    exact se_at h2 hk
theorem se_put {α β : Type} {R : α → β → Prop} : ∀ {l : List α} {m : List β} {k : Nat} {a : α} {b : β}, se_a2 R l m → R a b → se_a2 R (l.set k a) (m.set k b)
  | [], m, k, a, b, h, _ => by
    rw [se_nil h]
    exact trivial
  | x :: l, m, 0, a, b, h, hr => by
    obtain ⟨y, m', rfl, h1, h2⟩ := se_cons h
    exact ⟨hr, h2⟩
  | x :: l, m, k + 1, a, b, h, hr => by
    obtain ⟨y, m', rfl, h1, h2⟩ := se_cons h
    exact ⟨h1, se_put h2 hr⟩
theorem se_app {α β : Type} {R : α → β → Prop} : ∀ {l l2 : List α} {m m2 : List β}, se_a2 R l m → se_a2 R l2 m2 → se_a2 R (l ++ l2) (m ++ m2)
  | [], _, m, _, h, h2 => by
    rw [se_nil h]
    exact h2
  | x :: l, _, m, _, h, h2 => by
    obtain ⟨y, m', rfl, h3, h4⟩ := se_cons h
    exact ⟨h3, se_app h4 h2⟩
theorem se_rev {α β : Type} {R : α → β → Prop} : ∀ {l : List α} {m : List β}, se_a2 R l m → se_a2 R l.reverse m.reverse
  | [], m, h => by
    rw [se_nil h]
    exact trivial
  | x :: l, m, h => by
    obtain ⟨y, m', rfl, h1, h2⟩ := se_cons h
    rw [List.reverse_cons, List.reverse_cons]
    exact se_app (se_rev h2) ⟨h1, trivial⟩
theorem se_take {α β : Type} {R : α → β → Prop} : ∀ {n : Nat} {l : List α} {m : List β}, se_a2 R l m → se_a2 R (l.take n) (m.take n)
  | 0, l, m, _ => by simp [se_a2]
  | n + 1, [], m, h => by
    rw [se_nil h]
    exact trivial
  | n + 1, x :: l, m, h => by
    obtain ⟨y, m', rfl, h1, h2⟩ := se_cons h
    exact ⟨h1, se_take h2⟩
theorem se_drop {α β : Type} {R : α → β → Prop} : ∀ {n : Nat} {l : List α} {m : List β}, se_a2 R l m → se_a2 R (l.drop n) (m.drop n)
  | 0, l, m, h => h
  | n + 1, [], m, h => by
    rw [se_nil h]
    exact trivial
  | n + 1, x :: l, m, h => by
    obtain ⟨y, m', rfl, h1, h2⟩ := se_cons h
    rw [List.drop_succ_cons, List.drop_succ_cons]
    exact se_drop (n := n) h2
theorem se_rep {α β : Type} {R : α → β → Prop} {a : α} {b : β} (h : R a b) : ∀ n, se_a2 R (List.replicate n a) (List.replicate n b)
  | 0 => trivial
  | n + 1 => ⟨h, se_rep h n⟩
abbrev se_q (ρ : Nat → Int32) : Nat × Value → Nat × Value → Prop := fun p q => p.1 = q.1 ∧ se_r ρ p.2 q.2
abbrev se_Ls (ρ : Nat → Int32) (ls ls' : rm_L) : Prop := se_a2 (se_q ρ) ls ls'
abbrev se_St (ρ : Nat → Int32) (st st' : List Value) : Prop := se_a2 (se_r ρ) st st'
theorem se_get {ρ : Nat → Int32} : ∀ {ls ls' : rm_L}, se_Ls ρ ls ls' → ∀ {i : Nat} {v : Value}, rm_get ls i = some v → ∃ v', rm_get ls' i = some v' ∧ se_r ρ v v'
  | [], _, _, _, _, hg => by cases hg
  | p :: l, m, h, i, v, hg => by
    obtain ⟨q, m', rfl, hpq, hr⟩ := se_cons h
    have ih := fun hg => se_get hr (i := i) (v := v) hg
    unfold rm_get at hg ih ⊢
    rw [List.find?_cons] at hg ⊢
    rw [← hpq.1]
    cases hb : p.1 == i with
    | true =>
      rw [hb] at hg
      cases hg
      exact ⟨q.2, rfl, hpq.2⟩
    | false =>
      rw [hb] at hg
      exact ih hg
theorem se_filter {ρ : Nat → Int32} {f : Nat × Value → Bool} (hf : ∀ p q, se_q ρ p q → f q = f p) : ∀ {ls ls' : rm_L}, se_Ls ρ ls ls' → se_Ls ρ (ls.filter f) (ls'.filter f)
  | [], m, h => by
    rw [se_nil h]
    exact trivial
  | p :: l, m, h => by
    obtain ⟨q, m', rfl, hpq, hr⟩ := se_cons h
    rw [List.filter_cons, List.filter_cons, hf p q hpq]
    split
    · exact ⟨hpq, se_filter hf hr⟩
    · exact se_filter hf hr
theorem se_set1 {ρ : Nat → Int32} {ls ls' : rm_L} (h : se_Ls ρ ls ls') {i : Nat} {v v' : Value} (hv : se_r ρ v v') : se_Ls ρ (rm_set1 ls i v) (rm_set1 ls' i v') :=
  ⟨⟨rfl, hv⟩, se_filter (fun p q hq => by rw [hq.1, se_r_cat hq.2]) h⟩
theorem se_set2 {ρ : Nat → Int32} {ls ls' : rm_L} (h : se_Ls ρ ls ls') {i : Nat} {v v' : Value} (hv : se_r ρ v v') : se_Ls ρ (rm_set2 ls i v) (rm_set2 ls' i v') :=
  ⟨⟨rfl, hv⟩, se_filter (fun p q hq => by rw [hq.1, se_r_cat hq.2]) h⟩
abbrev se_F : Type := List (Nat × Int × Int × List Int)
def se_ok (ρ : Nat → Int32) (F : se_F) : Prop := ∀ q ∈ F, q.2.1 ≤ (ρ q.1).toInt ∧ (ρ q.1).toInt ≤ q.2.2.1 ∧ ∀ e ∈ q.2.2.2, (ρ q.1).toInt ≠ e
def se_lk (F : se_F) (k : Nat) : Int × Int × List Int := match F.find? (fun q => q.1 == k) with
  | some q => q.2
  | none => (-2147483648, 2147483647, [])
theorem se_lk_ok {ρ : Nat → Int32} {F : se_F} (h : se_ok ρ F) (k : Nat) : (se_lk F k).1 ≤ (ρ k).toInt ∧ (ρ k).toInt ≤ (se_lk F k).2.1 ∧ ∀ e ∈ (se_lk F k).2.2, (ρ k).toInt ≠ e := by
  unfold se_lk
  cases hf : F.find? (fun q => q.1 == k) with
  | none =>
    refine ⟨?_, ?_, fun e he => by cases he⟩
    · have := Int32.minValue_le_toInt (ρ k)
      simpa using this
    · have := Int32.toInt_lt (ρ k)
      show (ρ k).toInt ≤ 2147483647
      omega
  | some q =>
    have h1 := List.find?_some hf
    have h2 := h q (List.mem_of_find?_eq_some hf)
    have h3 : q.1 = k := by simpa using h1
    rw [h3] at h2
    exact h2
theorem se_ok_cons {ρ : Nat → Int32} {F : se_F} (h : se_ok ρ F) {k : Nat} {lo hi : Int} {ex : List Int} (h1 : lo ≤ (ρ k).toInt) (h2 : (ρ k).toInt ≤ hi) (h3 : ∀ e ∈ ex, (ρ k).toInt ≠ e) : se_ok ρ ((k, lo, hi, ex) :: F) := by
  intro q hq
  rcases List.mem_cons.mp hq with rfl | hq
  · exact ⟨h1, h2, h3⟩
  · exact h q hq
abbrev se_B : Type := List (Bool × se_F)
def se_lt (F : se_F) (k : Nat) (c : Int) : se_B :=
  let q := se_lk F k
  if q.2.1 < c then [(true, F)] else if c ≤ q.1 then [(false, F)] else [(true, (k, q.1, c - 1, q.2.2) :: F), (false, (k, c, q.2.1, q.2.2) :: F)]
def se_eq (F : se_F) (k : Nat) (c : Int) : se_B :=
  let q := se_lk F k
  if c < q.1 ∨ q.2.1 < c ∨ c ∈ q.2.2 then [(false, F)] else if q.1 = q.2.1 then [(true, F)] else [(true, (k, c, c, []) :: F), (false, (k, if c = q.1 then c + 1 else q.1, if c = q.2.1 then c - 1 else q.2.1, c :: q.2.2) :: F)]
theorem se_lt_ok {ρ : Nat → Int32} {F : se_F} (h : se_ok ρ F) (k : Nat) (c : Int) : ∃ q ∈ se_lt F k c, se_ok ρ q.2 ∧ q.1 = decide ((ρ k).toInt < c) := by
  obtain ⟨h1, h2, h3⟩ := se_lk_ok h k
  unfold se_lt
  dsimp only
  split
  · exact ⟨_, List.mem_cons_self, h, (decide_eq_true (by omega)).symm⟩
  · split
    · exact ⟨_, List.mem_cons_self, h, (decide_eq_false (by omega)).symm⟩
    · by_cases hc : (ρ k).toInt < c
      · exact ⟨_, List.mem_cons_self, se_ok_cons h h1 (by omega) h3, (decide_eq_true hc).symm⟩
      · exact ⟨_, List.mem_cons_of_mem _ List.mem_cons_self, se_ok_cons h (by omega) h2 h3, (decide_eq_false hc).symm⟩
theorem se_eq_ok {ρ : Nat → Int32} {F : se_F} (h : se_ok ρ F) (k : Nat) (c : Int) : ∃ q ∈ se_eq F k c, se_ok ρ q.2 ∧ q.1 = decide ((ρ k).toInt = c) := by
  obtain ⟨h1, h2, h3⟩ := se_lk_ok h k
  unfold se_eq
  dsimp only
  split
  next hq =>
    refine ⟨_, List.mem_cons_self, h, (decide_eq_false ?_).symm⟩
    rcases hq with hq | hq | hq
    · omega
    · omega
    · exact h3 c hq
  next hq =>
    split
    next he => exact ⟨_, List.mem_cons_self, h, (decide_eq_true (by omega)).symm⟩
    next he =>
      by_cases hc : (ρ k).toInt = c
      · exact ⟨_, List.mem_cons_self, se_ok_cons h (by omega) (by omega) (fun e he => by cases he), (decide_eq_true hc).symm⟩
      · refine ⟨_, List.mem_cons_of_mem _ List.mem_cons_self, se_ok_cons h ?_ ?_ ?_, (decide_eq_false hc).symm⟩
        · split <;> omega
        · split <;> omega
        · intro e he
          rcases List.mem_cons.mp he with rfl | he
          · exact hc
          · exact h3 e he
def se_not (l : se_B) : se_B := l.map (fun q => (!q.1, q.2))
theorem se_not_ok {ρ : Nat → Int32} {l : se_B} {b : Bool} (h : ∃ q ∈ l, se_ok ρ q.2 ∧ q.1 = b) : ∃ q ∈ se_not l, se_ok ρ q.2 ∧ q.1 = !b := by
  obtain ⟨q, h1, h2, h3⟩ := h
  exact ⟨(!q.1, q.2), List.mem_map.mpr ⟨q, h1, rfl⟩, h2, by rw [← h3]⟩
def se_cv (F : se_F) (c : ClassFile.Cond) (k : Nat) (y : Int32) : se_B := match c with
  | .eq => se_eq F k y.toInt
  | .ne => se_not (se_eq F k y.toInt)
  | .lt => se_lt F k y.toInt
  | .ge => se_not (se_lt F k y.toInt)
  | .gt => se_not (se_lt F k (y.toInt + 1))
  | .le => se_lt F k (y.toInt + 1)
def se_vc (F : se_F) (c : ClassFile.Cond) (x : Int32) (k : Nat) : se_B := match c with
  | .eq => se_eq F k x.toInt
  | .ne => se_not (se_eq F k x.toInt)
  | .lt => se_not (se_lt F k (x.toInt + 1))
  | .ge => se_lt F k (x.toInt + 1)
  | .gt => se_lt F k x.toInt
  | .le => se_not (se_lt F k x.toInt)
def se_cmp (F : se_F) (c : ClassFile.Cond) (a b : Value) : Option se_B := match a, b with
  | .int x, .int y => some [(rm_cb c x y, F)]
  | .float k, .int y => some (se_cv F c k.toNat y)
  | .int x, .float k => some (se_vc F c x k.toNat)
  | .float k, .float j => if k = j then some [(rm_cb c 0 0, F)] else some [(true, F), (false, F)]
  | a, b => if se_int a && se_int b then some [(true, F), (false, F)] else none
theorem se_any {ρ : Nat → Int32} {F : se_F} (h : se_ok ρ F) (b : Bool) : ∃ q ∈ ([(true, F), (false, F)] : se_B), se_ok ρ q.2 ∧ q.1 = b := by
  cases b
  · exact ⟨_, List.mem_cons_of_mem _ List.mem_cons_self, h, rfl⟩
  · exact ⟨_, List.mem_cons_self, h, rfl⟩
theorem se_cv_ok {ρ : Nat → Int32} {F : se_F} (h : se_ok ρ F) (c : ClassFile.Cond) (k : Nat) (y : Int32) : ∃ q ∈ se_cv F c k y, se_ok ρ q.2 ∧ q.1 = rm_cb c (ρ k) y := by
  cases c
  · obtain ⟨q, a, b, d⟩ := se_eq_ok h k y.toInt
    exact ⟨q, a, b, by rw [d]; simp only [rm_cb, Int32.toInt_inj]⟩
  · obtain ⟨q, a, b, d⟩ := se_not_ok (se_eq_ok h k y.toInt)
    exact ⟨q, a, b, by rw [d]; simp only [rm_cb, Int32.toInt_inj]⟩
  · obtain ⟨q, a, b, d⟩ := se_lt_ok h k y.toInt
    exact ⟨q, a, b, by rw [d]; simp only [rm_cb, Int32.lt_iff_toInt_lt]⟩
  · obtain ⟨q, a, b, d⟩ := se_not_ok (se_lt_ok h k y.toInt)
    refine ⟨q, a, b, ?_⟩
    rw [d, rm_cb, ← decide_not]
    exact decide_eq_decide.mpr (by rw [Int32.le_iff_toInt_le]; omega)
  · obtain ⟨q, a, b, d⟩ := se_not_ok (se_lt_ok h k (y.toInt + 1))
    refine ⟨q, a, b, ?_⟩
    rw [d, rm_cb, ← decide_not]
    exact decide_eq_decide.mpr (by rw [Int32.lt_iff_toInt_lt]; omega)
  · obtain ⟨q, a, b, d⟩ := se_lt_ok h k (y.toInt + 1)
    refine ⟨q, a, b, ?_⟩
    rw [d, rm_cb]
    exact decide_eq_decide.mpr (by rw [Int32.le_iff_toInt_le]; omega)
theorem se_vc_ok {ρ : Nat → Int32} {F : se_F} (h : se_ok ρ F) (c : ClassFile.Cond) (x : Int32) (k : Nat) : ∃ q ∈ se_vc F c x k, se_ok ρ q.2 ∧ q.1 = rm_cb c x (ρ k) := by
  cases c
  · obtain ⟨q, a, b, d⟩ := se_eq_ok h k x.toInt
    refine ⟨q, a, b, ?_⟩
    rw [d, rm_cb]
    exact decide_eq_decide.mpr (by rw [← Int32.toInt_inj]; omega)
  · obtain ⟨q, a, b, d⟩ := se_not_ok (se_eq_ok h k x.toInt)
    refine ⟨q, a, b, ?_⟩
    rw [d, rm_cb]
    congr 1
    exact decide_eq_decide.mpr (by rw [← Int32.toInt_inj]; omega)
  · obtain ⟨q, a, b, d⟩ := se_not_ok (se_lt_ok h k (x.toInt + 1))
    refine ⟨q, a, b, ?_⟩
    rw [d, rm_cb, ← decide_not]
    exact decide_eq_decide.mpr (by rw [Int32.lt_iff_toInt_lt]; omega)
  · obtain ⟨q, a, b, d⟩ := se_lt_ok h k (x.toInt + 1)
    refine ⟨q, a, b, ?_⟩
    rw [d, rm_cb]
    exact decide_eq_decide.mpr (by rw [Int32.le_iff_toInt_le]; omega)
  · obtain ⟨q, a, b, d⟩ := se_lt_ok h k x.toInt
    refine ⟨q, a, b, ?_⟩
    rw [d, rm_cb]
    exact decide_eq_decide.mpr (by rw [Int32.lt_iff_toInt_lt])
  · obtain ⟨q, a, b, d⟩ := se_not_ok (se_lt_ok h k x.toInt)
    refine ⟨q, a, b, ?_⟩
    rw [d, rm_cb, ← decide_not]
    exact decide_eq_decide.mpr (by rw [Int32.le_iff_toInt_le]; omega)
theorem se_cmp_ok {ρ : Nat → Int32} {F : se_F} (h : se_ok ρ F) {c : ClassFile.Cond} {a b a' b' : Value} {l : se_B} (hc : se_cmp F c a b = some l) (ha : se_r ρ a a') (hb : se_r ρ b b') : ∃ x y, a' = .int x ∧ b' = .int y ∧ ∃ q ∈ l, se_ok ρ q.2 ∧ q.1 = rm_cb c x y := by
  unfold se_cmp at hc
  split at hc
  next x y => cases hc; exact ⟨x, y, ha, hb, _, List.mem_cons_self, h, rfl⟩
  next k y => cases hc; exact ⟨_, y, ha, hb, se_cv_ok h c _ y⟩
  next x k => cases hc; exact ⟨x, _, ha, hb, se_vc_ok h c x _⟩
  next k j =>
    split at hc
    next hkj =>
      cases hc
      subst hkj
      refine ⟨_, _, ha, hb, _, List.mem_cons_self, h, ?_⟩
      cases c <;> simp [rm_cb]
    next => cases hc; exact ⟨_, _, ha, hb, se_any h _⟩
  next =>
    split at hc
    next hi =>
      cases hc
      simp only [Bool.and_eq_true] at hi
      obtain ⟨x, rfl⟩ := se_r_int ha hi.1
      obtain ⟨y, rfl⟩ := se_r_int hb hi.2
      exact ⟨x, y, rfl, rfl, se_any h _⟩
    next => cases hc
