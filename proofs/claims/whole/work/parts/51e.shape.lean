/-- what a cell holds -/
def cr_v (h : cr_H) (a j : Nat) : Int := match h[a]? with
  | some (.inl (_, _, _, us)) => (cr_f us j).toInt
  | some (.inr (_, fs)) => (match fs[j]? with
    | some (.int x) => x.toInt
    | _ => 0)
  | none => 0
def cr_rf : Nat → Nat := fun i => ([131, 132, 140, 194, 195] : List Nat).getD i 0
/-- the rows that may be made anew -/
def cr_dl (b : Nat) : Option (Nat × Nat) := if b = 131 then some (0, 3584) else if b = 132 then some (1, 4096) else if b = 140 then some (1, 4096) else if b = 194 then some (1, 20000) else if b = 195 then some (1, 20000) else none
theorem cr_dl_c {a : Nat} {x : Nat × Nat} (h : cr_dl a = some x) : a < 238 ∧ x.1 < 3 := by
  unfold cr_dl at h
  split at h
  next =>
    cases h
    exact ⟨by omega, by decide⟩
  next =>
    split at h
    next =>
      cases h
      exact ⟨by omega, by decide⟩
    next =>
      split at h
      next =>
        cases h
        exact ⟨by omega, by decide⟩
      next =>
        split at h
        next =>
          cases h
          exact ⟨by omega, by decide⟩
        next =>
          split at h
          next =>
            cases h
            exact ⟨by omega, by decide⟩
          next => cases h
theorem cr_dl_n {b : Nat} (h : b < 129) : cr_dl b = none := by
  unfold cr_dl
  rw [if_neg (show ¬ b = 131 by omega), if_neg (show ¬ b = 132 by omega), if_neg (show ¬ b = 140 by omega), if_neg (show ¬ b = 194 by omega), if_neg (show ¬ b = 195 by omega)]
def cr_tt (a : Nat) : Option (Nat × Nat) := match pg_t1 a with
  | some x => some x
  | none => cr_dl a
/-- the state of a heap -/
def cr_S (h : cr_H) : w_S := (cr_v h, cr_rf, cr_dl, h.length, 0)
def cr_q (t : Nat) (x : Int) : Bool := match t with
  | 1 => decide (-128 ≤ x) && decide (x ≤ 127)
  | 2 => decide (x = 0) || decide (x = 1)
  | _ => true
theorem cr_qok {t : Nat} {x : Int32} (h : cr_q t x.toInt = true) : w_q t x.toInt := by
  have n := w_tn x
  unfold cr_q at h
  unfold w_q
  split at h
  next =>
    simp only [Bool.and_eq_true, decide_eq_true_eq] at h
    exact h
  next =>
    simp only [Bool.or_eq_true, decide_eq_true_eq] at h
    exact h
  next h1 h2 =>
    split
    next => exact n
    next => exact absurd rfl h1
    next => exact absurd rfl h2
    next =>
      unfold w_n at n
      unfold w_n64
      omega
    next => trivial
theorem cr_q0 (t : Nat) : cr_q t (0 : Int32).toInt = true := by
  unfold cr_q
  split <;> rfl
theorem cr_fq {t : Nat} : ∀ {us : List (Nat × Int32)}, us.all (fun q => cr_q t q.2.toInt) = true → ∀ k, cr_q t (cr_f us k).toInt = true
  | [], _, _ => cr_q0 t
  | q :: us, h, k => by
    rw [List.all_cons, Bool.and_eq_true] at h
    show cr_q t (upd (cr_f us) q.1 q.2 k).toInt = true
    unfold upd
    split
    · exact h.1
    · exact cr_fq h.2 k
def cr_fk (fs : List Value) (k : Nat) (q : Nat × Nat) : Bool := match q with
  | (0, t) => (match fs[k]? with
    | some (.int x) => cr_q t x.toInt
    | _ => false)
  | (1, b) => (match fs[k]? with
    | some (.ref c) => Nat.beq c b
    | _ => false)
  | (2, j) => (match fs[k]? with
    | some (.ref c) => Nat.beq c (cr_rf j)
    | _ => false)
  | _ => (match fs[k]? with
    | some .null => true
    | _ => false)
def cr_ao (t n : Nat) (x : Option (Nat × Nat)) : Bool := match x with
  | some (t', n') => Nat.beq t' t && Nat.beq n' n
  | none => false
def cr_oo (ci : Nat) (fs : List Value) (x : Option (Nat × Nat × (Nat → Nat × Nat))) : Bool := match x with
  | some (cj, n, fk) => Nat.beq cj ci && (Nat.beq fs.length n && (List.range n).all (fun k => cr_fk fs k (fk k)))
  | none => false
def cr_e (a : Nat) (x : cr_E) : Bool := match x with
  | .inl (t, n, b, us) => cr_ao t n (cr_tt a) && ((pg_t3 a).isNone && (Nat.blt t 5 && ((!Nat.beq t 4 || Nat.beq b a) && ((!Nat.beq t 3 || us.isEmpty) && us.all (fun q => cr_q t q.2.toInt)))))
  | .inr (ci, fs) => (cr_tt a).isNone && cr_oo ci fs (pg_t3 a)
def cr_es : Nat → cr_H → Bool
  | _, [] => true
  | a, x :: h => cr_e a x && cr_es (a + 1) h
theorem cr_es_at : ∀ {h : cr_H} {b k : Nat} {x : cr_E}, cr_es b h = true → h[k]? = some x → cr_e (b + k) x = true
  | [], _, _, _, _, g => by simp at g
  | y :: h, b, k, x, q, g => by
    have q : (cr_e b y && cr_es (b + 1) h) = true := q
    rw [Bool.and_eq_true] at q
    cases k with
    | zero =>
      rw [List.getElem?_cons_zero] at g
      cases g
      exact q.1
    | succ k =>
      rw [List.getElem?_cons_succ] at g
      have := cr_es_at q.2 g
      rw [show b + (k + 1) = b + 1 + k by omega]
      exact this
theorem cr_in {h : cr_H} {a : Nat} (hl : h.length = 238) (hc : cr_es 0 h = true) (ha : a < 238) : ∃ x, h[a]? = some x ∧ cr_e a x = true := by
  have g := List.getElem?_eq_getElem (l := h) (i := a) (by omega)
  have k := cr_es_at hc g
  rw [Nat.zero_add] at k
  exact ⟨_, g, k⟩
theorem cr_a1 {a : Nat} {x : Nat × Nat} (h : Ta.1 a = some x) : a < 238 ∧ pg_t1 a = some x := by
  have h : cond (Nat.blt a 238) (pg_t1 a) none = some x := h
  cases q : Nat.blt a 238 with
  | true =>
    rw [q] at h
    exact ⟨Nat.le_of_ble_eq_true q, h⟩
  | false =>
    rw [q] at h
    cases h
theorem cr_a2 {a : Nat} {x : Nat × Nat × (Nat → Nat × Nat)} (h : Ta.2 a = some x) : a < 238 ∧ ∃ f, pg_t3 a = some (x.1, x.2.1, f) ∧ x.2.2 = fun k => cond (Nat.blt k x.2.1) (f k) (9, 0) := by
  have h : Option.map (fun q : Nat × Nat × (Nat → Nat × Nat) => (q.1, q.2.1, fun k => cond (Nat.blt k q.2.1) (q.2.2 k) (9, 0))) (pg_t3 a) = some x := h
  cases q : pg_t3 a with
  | none =>
    rw [q] at h
    cases h
  | some y =>
    rw [q] at h
    cases h
    refine ⟨?_, y.2.2, rfl, rfl⟩
    cases c : Nat.blt a 238 with
    | true => exact Nat.le_of_ble_eq_true c
    | false =>
      have q : cond (Nat.blt a 238) _ none = some y := q
      rw [c] at q
      cases q
theorem cr_ta {h : cr_H} {a : Nat} {x : Nat × Nat} (g : w_a Ta (cr_S h) a = some x) : a < 238 ∧ cr_tt a = some x := by
  cases q : Ta.1 a with
  | some y =>
    rw [w_a_s q] at g
    cases g
    obtain ⟨a1, a2⟩ := cr_a1 q
    refine ⟨a1, ?_⟩
    unfold cr_tt
    rw [a2]
  | none =>
    rw [w_a_n q] at g
    have g : cr_dl a = some x := g
    obtain ⟨a1, _⟩ := cr_dl_c g
    refine ⟨a1, ?_⟩
    have q : cond (Nat.blt a 238) (pg_t1 a) none = none := q
    rw [blt_t a1] at q
    have q : pg_t1 a = none := q
    unfold cr_tt
    rw [q]
    exact g
theorem cr_arr {h : cr_H} {a t n : Nat} (hl : h.length = 238) (hc : cr_es 0 h = true) (ha : w_a Ta (cr_S h) a = some (t, n)) : ∃ b us, h[a]? = some (.inl (t, n, b, us)) ∧ (t = 4 → b = a) ∧ (t = 3 → us = []) ∧ us.all (fun q => cr_q t q.2.toInt) = true := by
  obtain ⟨a1, a2⟩ := cr_ta ha
  obtain ⟨x, g, k⟩ := cr_in hl hc a1
  unfold cr_e at k
  split at k
  next t' n' b us =>
    simp only [Bool.and_eq_true, Bool.or_eq_true] at k
    obtain ⟨k1, _, _, k4, k5, k6⟩ := k
    rw [a2] at k1
    unfold cr_ao at k1
    simp only [Bool.and_eq_true] at k1
    have e1 := Nat.eq_of_beq_eq_true k1.1
    have e2 := Nat.eq_of_beq_eq_true k1.2
    subst e1
    subst e2
    refine ⟨b, us, g, fun z => ?_, fun z => ?_, k6⟩
    · subst z
      rcases k4 with k4 | k4
      · exact absurd k4 (by decide)
      · exact Nat.eq_of_beq_eq_true k4
    · subst z
      rcases k5 with k5 | k5
      · exact absurd k5 (by decide)
      · exact List.isEmpty_iff.mp k5
  next ci fs =>
    rw [a2] at k
    simp at k
theorem cr_obj {h : cr_H} {a ci n : Nat} {fk : Nat → Nat × Nat} (hl : h.length = 238) (hc : cr_es 0 h = true) (ha : Ta.2 a = some (ci, n, fk)) : ∃ fs, h[a]? = some (.inr (ci, fs)) ∧ fs.length = n ∧ (∀ k, k < n → cr_fk fs k (fk k) = true) ∧ (∀ k, n ≤ k → fk k = (9, 0)) := by
  obtain ⟨a1, f, a2, a3⟩ := cr_a2 ha
  obtain ⟨x, g, k⟩ := cr_in hl hc a1
  try dsimp only at a2 a3
  unfold cr_e at k
  split at k
  next t' n' b us =>
    simp only [Bool.and_eq_true, Bool.or_eq_true] at k
    obtain ⟨_, k2, _⟩ := k
    rw [a2] at k2
    simp at k2
  next cj fs =>
    rw [Bool.and_eq_true] at k
    have k := k.2
    rw [a2] at k
    unfold cr_oo at k
    simp only [Bool.and_eq_true] at k
    obtain ⟨k1, k2, k3⟩ := k
    have e1 := Nat.eq_of_beq_eq_true k1
    have e2 := Nat.eq_of_beq_eq_true k2
    subst e1
    refine ⟨fs, g, e2, fun k hk => ?_, fun k hk => ?_⟩
    · rw [a3]
      dsimp only
      rw [blt_t hk]
      exact List.all_eq_true.mp k3 k (List.mem_range.mpr hk)
    · rw [a3]
      dsimp only
      rw [blt_f hk]
      rfl
theorem cr_v_a {h : cr_H} {a t n b : Nat} {us : List (Nat × Int32)} (g : h[a]? = some (.inl (t, n, b, us))) (j : Nat) : cr_v h a j = (cr_f us j).toInt := by
  unfold cr_v
  rw [g]
theorem cr_v_o {h : cr_H} {a ci k : Nat} {fs : List Value} {x : Int32} (g : h[a]? = some (.inr (ci, fs))) (f : fs[k]? = some (.int x)) : cr_v h a k = x.toInt := by
  unfold cr_v
  rw [g]
  dsimp only
  rw [f]
theorem cr_fv {h : cr_H} {a ci k : Nat} {fs : List Value} {q : Nat × Nat} (g : h[a]? = some (.inr (ci, fs))) (f : cr_fk fs k q = true) : fs[k]? = some (w_fv (cr_S h) a k q) := by
  unfold cr_fk at f
  unfold w_fv
  split at f
  next t =>
    split at f
    next x hx =>
      show _ = some (Value.int (Int32.ofInt (cr_v h a k)))
      rw [cr_v_o g hx, Int32.ofInt_toInt]
      exact hx
    next => cases f
  next b =>
    split at f
    next c hx =>
      rw [hx, Nat.eq_of_beq_eq_true f]
      all_goals rfl
    next => cases f
  next j =>
    split at f
    next c hx =>
      rw [hx, Nat.eq_of_beq_eq_true f]
      all_goals rfl
    next => cases f
  next n1 n2 n3 =>
    split at f
    next hx =>
      rw [hx]
      split
      next t => exact absurd rfl (n1 t)
      next b => exact absurd rfl (n2 b)
      next j => exact absurd rfl (n3 j)
      next => rfl
    next => cases f
/-- such a heap is as the tables say -/
theorem cr_w {h : cr_H} (hl : h.length = 238) (hc : cr_es 0 h = true) : w_H Ta (cr_S h) (cr_h h) := by
  refine ⟨fun a t n h1 h2 => ?_, fun a n h1 => ?_, fun a n h1 => ?_, fun a ci n fk h1 => ?_, fun a x h1 => (cr_dl_c h1).2, cr_h_len h, ?_, fun a t n h1 k => ?_, fun a ci n fk h1 k t hk => ?_⟩
  · obtain ⟨b, us, g, _, _, _⟩ := cr_arr hl hc h1
    rw [cr_h_at g]
    unfold cr_c
    dsimp only
    rw [if_neg (show ¬ t = 4 by omega), if_neg (show ¬ t = 3 by omega)]
    have q : (fun j => Int32.ofInt ((cr_S h).1 a j)) = cr_f us := by
      funext j
      show Int32.ofInt (cr_v h a j) = _
      rw [cr_v_a g, Int32.ofInt_toInt]
    rw [q]
  · obtain ⟨b, us, g, _, e, _⟩ := cr_arr hl hc (w_a_s h1)
    have e := e rfl
    subst e
    rw [cr_h_at g]
    have q : (fun j => Int64.ofInt ((cr_S h).1 a j)) = fun _ => 0 := by
      funext j
      show Int64.ofInt (cr_v h a j) = 0
      rw [cr_v_a g]
      all_goals rfl
    rw [q]
    all_goals rfl
  · obtain ⟨b, us, g, e, _, _⟩ := cr_arr hl hc (w_a_s h1)
    have e := e rfl
    subst e
    rw [cr_h_at g]
    all_goals rfl
  · obtain ⟨fs, g, e, f1, _⟩ := cr_obj hl hc h1
    rw [cr_h_at g]
    have q : fs = w_fs (cr_S h) a n fk := by
      apply List.ext_getElem?
      intro k
      rcases Nat.lt_or_ge k n with c | c
      · rw [w_fs_at c]
        exact cr_fv g (f1 k c)
      · rw [List.getElem?_eq_none (show fs.length ≤ k by omega), List.getElem?_eq_none (show (w_fs (cr_S h) a n fk).length ≤ k by rw [w_fs_len]; exact c)]
    rw [← q]
    all_goals rfl
  · rw [cr_h_len, hl]
    decide
  · obtain ⟨b, us, g, _, _, f⟩ := cr_arr hl hc h1
    show w_q t (cr_v h a k)
    rw [cr_v_a g]
    exact cr_qok (cr_fq f k)
  · obtain ⟨fs, g, e, f1, f2⟩ := cr_obj hl hc h1
    rcases Nat.lt_or_ge k n with c | c
    · have f := f1 k c
      rw [hk] at f
      have f : (match fs[k]? with
        | some (.int x) => cr_q t x.toInt
        | _ => false) = true := f
      split at f
      next x hx =>
        show w_q t (cr_v h a k)
        rw [cr_v_o g hx]
        exact cr_qok f
      next => cases f
    · rw [f2 k c] at hk
      cases hk
