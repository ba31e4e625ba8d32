abbrev w_T : Type := (Nat → Option (Nat × Nat)) × (Nat → Option (Nat × Nat × (Nat → Nat × Nat)))
abbrev w_S : Type := (Nat → Nat → Int) × (Nat → Nat) × (Nat → Option (Nat × Nat)) × Nat × Nat
def w_q (t : Nat) (x : Int) : Prop := match t with
  | 0 => w_n x
  | 1 => -128 ≤ x ∧ x ≤ 127
  | 2 => x = 0 ∨ x = 1
  | 3 => w_n64 x
  | _ => True
def w_fv (S : w_S) (a k : Nat) (q : Nat × Nat) : Value := match q with
  | (0, _) => .int (Int32.ofInt (S.1 a k))
  | (1, b) => .ref b
  | (2, j) => .ref (S.2.1 j)
  | _ => .null
def w_fs (S : w_S) (a n : Nat) (fk : Nat → Nat × Nat) : List Value := (List.range n).map (fun k => w_fv S a k (fk k))
def w_a (T : w_T) (S : w_S) (a : Nat) : Option (Nat × Nat) := match T.1 a with
  | some x => some x
  | none => S.2.2.1 a
def w_Q (T : w_T) (S : w_S) : Prop := (∀ a t n, w_a T S a = some (t, n) → ∀ k, w_q t (S.1 a k)) ∧ (∀ a ci n fk, T.2 a = some (ci, n, fk) → ∀ k t, fk k = (0, t) → w_q t (S.1 a k))
def w_H (T : w_T) (S : w_S) (h : rm_H) : Prop :=
  (∀ a t n, w_a T S a = some (t, n) → t < 3 → h[a]? = some (.inl (t, n, .inl (fun j => Int32.ofInt (S.1 a j))))) ∧
  (∀ a n, T.1 a = some (3, n) → h[a]? = some (.inl (3, n, .inr (.inl (fun j => Int64.ofInt (S.1 a j)))))) ∧
  (∀ a n, T.1 a = some (4, n) → h[a]? = some (.inl (4, n, .inr (.inr (.inr (.inr (fun i => if i < n then some (a + 1 + i) else none))))))) ∧
  (∀ a ci n fk, T.2 a = some (ci, n, fk) → h[a]? = some (.inr (ci, w_fs S a n fk))) ∧
  (∀ a x, S.2.2.1 a = some x → x.1 < 3) ∧ h.length = S.2.2.2.1 ∧ h.length ≤ rm_K ∧ w_Q T S
/-- each changing field of references has its own number; arrays are of the five sorts -/
def w_TU (T : w_T) : Prop := (∀ a ci n fk a' ci' n' fk' k k' j, T.2 a = some (ci, n, fk) → T.2 a' = some (ci', n', fk') → fk k = (2, j) → fk' k' = (2, j) → a = a' ∧ k = k') ∧ (∀ a t n, T.1 a = some (t, n) → t ≤ 4)
def w_put (S : w_S) (a k : Nat) (x : Int) : w_S := (fun b j => if b = a then (if j = k then x else S.1 b j) else S.1 b j, S.2)
def w_rfp (S : w_S) (j b : Nat) : w_S := (S.1, fun i => if i = j then b else S.2.1 i, S.2.2)
def w_new (S : w_S) (t n : Nat) : w_S := (fun b j => if b = S.2.2.2.1 then 0 else S.1 b j, S.2.1, fun b => if b = S.2.2.2.1 then some (t, n) else S.2.2.1 b, S.2.2.2.1 + 1, S.2.2.2.2 + n)
def w_cpy (S : w_S) (a0 a sp dp n : Nat) : w_S := (fun b j => if b = a then (if dp ≤ j ∧ j < dp + n then S.1 a0 (sp + (j - dp)) else S.1 b j) else S.1 b j, S.2)
theorem w_H.lt {T : w_T} {S : w_S} {h : rm_H} {a : Nat} {e : rm_E} (hH : w_H T S h) (he : h[a]? = some e) : a < rm_K := by
  have h1 := (List.getElem?_eq_some_iff.mp he).1
  have h2 := hH.2.2.2.2.2.2.1
  omega
theorem w_set_at {h : rm_H} {a b : Nat} {e f : rm_E} (hb : h[b]? = some f) (hn : b ≠ a) : (h.set a e)[b]? = some f := by
  rw [List.getElem?_set_ne (fun q => hn q.symm), hb]
theorem w_set_eq {h : rm_H} {a : Nat} {e f : rm_E} (hb : h[a]? = some f) : (h.set a e)[a]? = some e := by
  rw [List.getElem?_set_self (List.getElem?_eq_some_iff.mp hb).1]
theorem w_put_ne {S : w_S} {a k b j : Nat} {x : Int} (h : b ≠ a) : (w_put S a k x).1 b j = S.1 b j := if_neg h
theorem w_put_f {S : w_S} {a k b : Nat} {x : Int} (h : b ≠ a) : (w_put S a k x).1 b = S.1 b := by
  funext j
  exact if_neg h
theorem w_put_eq {S : w_S} {a k j : Nat} {x : Int} : (w_put S a k x).1 a j = if j = k then x else S.1 a j := if_pos rfl
theorem w_fv_ne {S S' : w_S} {b k : Nat} {q : Nat × Nat} (h1 : S'.1 b = S.1 b) (h2 : S'.2.1 = S.2.1) : w_fv S' b k q = w_fv S b k q := by
  unfold w_fv
  rw [h1, h2]
theorem w_fs_ne {S S' : w_S} {b n : Nat} {fk : Nat → Nat × Nat} (h1 : S'.1 b = S.1 b) (h2 : S'.2.1 = S.2.1) : w_fs S' b n fk = w_fs S b n fk := by
  unfold w_fs
  exact List.map_congr_left (fun k _ => w_fv_ne h1 h2)
theorem w_ob_ne {T : w_T} {S : w_S} {h : rm_H} {a t n b ci m : Nat} {fk : Nat → Nat × Nat} (hH : w_H T S h) (ha : w_a T S a = some (t, n)) (ht : t < 3) (hb : T.2 b = some (ci, m, fk)) : b ≠ a := by
  rintro rfl
  have h1 := hH.1 b t n ha ht
  rw [hH.2.2.2.1 b ci m fk hb] at h1
  cases h1
theorem w_H.arr {T : w_T} {S S' : w_S} {h : rm_H} {a t n : Nat} {f : Nat → Int32} (hH : w_H T S h) (ha : w_a T S a = some (t, n)) (ht : t < 3) (h2 : S'.2 = S.2) (hne : ∀ b, b ≠ a → S'.1 b = S.1 b) (hf : f = fun j => Int32.ofInt (S'.1 a j)) (hq : ∀ k, w_q t (S'.1 a k)) : w_H T S' (h.set a (.inl (t, n, .inl f))) := by
  have hw : ∀ b, w_a T S' b = w_a T S b := fun b => by unfold w_a; rw [h2]
  have hold := hH.1 a t n ha ht
  obtain ⟨g1, g2, g3, g4, g5, g6, g7, g8, g9⟩ := hH
  have hH : w_H T S h := ⟨g1, g2, g3, g4, g5, g6, g7, g8, g9⟩
  subst hf
  refine ⟨fun b u m hb hu => ?_, fun b m hb => ?_, fun b m hb => ?_, fun b ci m fk hb => ?_, fun b x hb => ?_, ?_, ?_, fun b u m hb k => ?_, fun b ci m fk hb k u hk => ?_⟩
  · rw [hw] at hb
    by_cases e : b = a
    · subst e
      rw [ha] at hb
      cases hb
      exact w_set_eq hold
    · rw [hne b e]
      exact w_set_at (g1 b u m hb hu) e
  · have e : b ≠ a := by
      rintro rfl
      rw [g2 b m hb] at hold
      cases hold
    rw [hne b e]
    exact w_set_at (g2 b m hb) e
  · have e : b ≠ a := by
      rintro rfl
      rw [g3 b m hb] at hold
      cases hold
    exact w_set_at (g3 b m hb) e
  · have e := w_ob_ne hH ha ht hb
    rw [w_fs_ne (hne b e) (by rw [h2])]
    exact w_set_at (g4 b ci m fk hb) e
  · rw [h2] at hb
    exact g5 b x hb
  · rw [List.length_set, h2]
    exact g6
  · rw [List.length_set]
    exact g7
  · rw [hw] at hb
    by_cases e : b = a
    · subst e
      rw [ha] at hb
      cases hb
      exact hq k
    · rw [hne b e]
      exact g8 b u m hb k
  · rw [hne b (w_ob_ne hH ha ht hb)]
    exact g9 b ci m fk hb k u hk
theorem w_H.put {T : w_T} {S : w_S} {h : rm_H} {a t n k : Nat} {x : Int} (hH : w_H T S h) (ha : w_a T S a = some (t, n)) (ht : t < 3) (hq : w_q t x) : w_H T (w_put S a k x) (h.set a (.inl (t, n, .inl (upd (fun j => Int32.ofInt (S.1 a j)) k (Int32.ofInt x))))) := by
  refine hH.arr ha ht rfl (fun b e => w_put_f e) ?_ (fun j => ?_)
  · funext j
    rw [w_put_eq]
    unfold upd
    split <;> rfl
  · rw [w_put_eq]
    split
    · exact hq
    · exact hH.2.2.2.2.2.2.2.1 a t n ha j
theorem w_H.cpy {T : w_T} {S : w_S} {h : rm_H} {a0 a t n n0 sp dp m : Nat} (hH : w_H T S h) (ha0 : w_a T S a0 = some (t, n0)) (ha : w_a T S a = some (t, n)) (ht : t < 3) : w_H T (w_cpy S a0 a sp dp m) (h.set a (.inl (t, n, .inl (va_cpy (fun j => Int32.ofInt (S.1 a0 j)) (fun j => Int32.ofInt (S.1 a j)) sp dp m)))) := by
  have he : ∀ j, (w_cpy S a0 a sp dp m).1 a j = if dp ≤ j ∧ j < dp + m then S.1 a0 (sp + (j - dp)) else S.1 a j := fun j => if_pos rfl
  refine hH.arr ha ht rfl (fun b e => by funext j; exact if_neg e) ?_ (fun j => ?_)
  · funext j
    rw [he]
    unfold va_cpy
    split <;> rfl
  · rw [he]
    split
    · exact hH.2.2.2.2.2.2.2.1 a0 t n0 ha0 _
    · exact hH.2.2.2.2.2.2.2.1 a t n ha j
theorem w_fs_len (S : w_S) (a n : Nat) (fk : Nat → Nat × Nat) : (w_fs S a n fk).length = n := by
  unfold w_fs
  rw [List.length_map, List.length_range]
theorem w_fs_at {S : w_S} {a n k : Nat} {fk : Nat → Nat × Nat} (hk : k < n) : (w_fs S a n fk)[k]? = some (w_fv S a k (fk k)) := by
  unfold w_fs
  rw [List.getElem?_map, List.getElem?_range hk]
  rfl
/-- a field is written -/
theorem w_H.obj {T : w_T} {S S' : w_S} {h : rm_H} {a ci n : Nat} {fk : Nat → Nat × Nat} (hH : w_H T S h) (ha : T.2 a = some (ci, n, fk)) (h2 : S'.2.2 = S.2.2) (hne : ∀ b, b ≠ a → S'.1 b = S.1 b) (hoth : ∀ b cj m gk, b ≠ a → T.2 b = some (cj, m, gk) → w_fs S' b m gk = w_fs S b m gk) (hq : ∀ k t, fk k = (0, t) → w_q t (S'.1 a k)) : w_H T S' (h.set a (.inr (ci, w_fs S' a n fk))) := by
  have hw : ∀ b, w_a T S' b = w_a T S b := fun b => by unfold w_a; rw [h2]
  have hold := hH.2.2.2.1 a ci n fk ha
  obtain ⟨g1, g2, g3, g4, g5, g6, g7, g8, g9⟩ := hH
  have hH : w_H T S h := ⟨g1, g2, g3, g4, g5, g6, g7, g8, g9⟩
  have harr : ∀ b u m, w_a T S b = some (u, m) → u ≤ 4 → b ≠ a := by
    rintro b u m hb hu rfl
    by_cases h3 : u < 3
    · rw [g1 b u m hb h3] at hold
      cases hold
    · have hT : T.1 b = some (u, m) := by
        unfold w_a at hb
        split at hb
        next x hx => rw [hx, hb]
        next hx => have := g5 b _ hb; omega
      rcases (by omega : u = 3 ∨ u = 4) with rfl | rfl
      · rw [g2 b m hT] at hold
        cases hold
      · rw [g3 b m hT] at hold
        cases hold
  refine ⟨fun b u m hb hu => ?_, fun b m hb => ?_, fun b m hb => ?_, fun b cj m gk hb => ?_, fun b x hb => ?_, ?_, ?_, fun b u m hb k => ?_, fun b cj m gk hb k u hk => ?_⟩
  · rw [hw] at hb
    have e := harr b u m hb (by omega)
    rw [hne b e]
    exact w_set_at (g1 b u m hb hu) e
  · have e := harr b 3 m (by unfold w_a; rw [hb]) (by omega)
    rw [hne b e]
    exact w_set_at (g2 b m hb) e
  · have e := harr b 4 m (by unfold w_a; rw [hb]) (by omega)
    exact w_set_at (g3 b m hb) e
  · by_cases e : b = a
    · subst e
      rw [ha] at hb
      cases hb
      exact w_set_eq hold
    · rw [hoth b cj m gk e hb]
      exact w_set_at (g4 b cj m gk hb) e
  · rw [h2] at hb
    exact g5 b x hb
  · rw [List.length_set, h2]
    exact g6
  · rw [List.length_set]
    exact g7
  · rw [hw] at hb
    by_cases hu : u ≤ 4
    · rw [hne b (harr b u m hb hu)]
      exact g8 b u m hb k
    · obtain ⟨u, rfl⟩ : ∃ v, u = v + 5 := ⟨u - 5, by omega⟩
      exact trivial
  · by_cases e : b = a
    · subst e
      rw [ha] at hb
      cases hb
      exact hq k u hk
    · rw [hne b e]
      exact g9 b cj m gk hb k u hk
theorem w_fs_put {S : w_S} {a n k t : Nat} {fk : Nat → Nat × Nat} {x : Int} (hk : fk k = (0, t)) (hn : k < n) : w_fs (w_put S a k x) a n fk = (w_fs S a n fk).set k (.int (Int32.ofInt x)) := by
  apply List.ext_getElem?
  intro j
  by_cases hj : j < n
  · rw [w_fs_at hj]
    by_cases e : k = j
    · subst e
      rw [List.getElem?_set_self (by rw [w_fs_len]; exact hn), hk]
      unfold w_fv
      rw [w_put_eq, if_pos rfl]
      rfl
    · rw [List.getElem?_set_ne e, w_fs_at hj]
      unfold w_fv
      rw [w_put_eq, if_neg (fun q => e q.symm)]
      rfl
  · rw [List.getElem?_eq_none (by rw [w_fs_len]; omega), List.getElem?_eq_none (by rw [List.length_set, w_fs_len]; omega)]
theorem w_H.putf {T : w_T} {S : w_S} {h : rm_H} {a ci n k t : Nat} {fk : Nat → Nat × Nat} {x : Int} (hH : w_H T S h) (ha : T.2 a = some (ci, n, fk)) (hn : k < n) (hk : fk k = (0, t)) (hq : w_q t x) : w_H T (w_put S a k x) (h.set a (.inr (ci, (w_fs S a n fk).set k (.int (Int32.ofInt x))))) := by
  rw [← w_fs_put hk hn]
  refine hH.obj ha rfl (fun b e => w_put_f e) (fun b cj m gk e _ => w_fs_ne (w_put_f e) rfl) (fun j u hj => ?_)
  rw [w_put_eq]
  split
  next e => subst e; rw [hk] at hj; cases hj; exact hq
  next => exact hH.2.2.2.2.2.2.2.2 a ci n fk ha j u hj
theorem w_H.putr {T : w_T} {S : w_S} {h : rm_H} {a ci n k j b : Nat} {fk : Nat → Nat × Nat} (hT : w_TU T) (hH : w_H T S h) (ha : T.2 a = some (ci, n, fk)) (hn : k < n) (hk : fk k = (2, j)) : w_H T (w_rfp S j b) (h.set a (.inr (ci, (w_fs S a n fk).set k (.ref b)))) := by
  have key : ∀ a' ci' n' fk' k', T.2 a' = some (ci', n', fk') → (a' ≠ a ∨ k' ≠ k) → w_fv (w_rfp S j b) a' k' (fk' k') = w_fv S a' k' (fk' k') := by
    intro a' ci' n' fk' k' h' hne
    unfold w_fv
    split
    · rfl
    · rfl
    · next i hi =>
      have : i ≠ j := by
        rintro rfl
        obtain ⟨q1, q2⟩ := hT.1 a ci n fk a' ci' n' fk' k k' i ha h' hk hi
        rcases hne with q | q
        · exact q q1.symm
        · exact q q2.symm
      show Value.ref (if i = j then b else S.2.1 i) = _
      rw [if_neg this]
    · rfl
  have e1 : (w_fs S a n fk).set k (.ref b) = w_fs (w_rfp S j b) a n fk := by
    apply List.ext_getElem?
    intro i
    by_cases hi : i < n
    · rw [w_fs_at hi]
      by_cases e : k = i
      · subst e
        rw [List.getElem?_set_self (by rw [w_fs_len]; exact hn), hk]
        show some (Value.ref b) = some (Value.ref (if j = j then b else S.2.1 j))
        rw [if_pos rfl]
      · rw [List.getElem?_set_ne e, w_fs_at hi, key a ci n fk i ha (Or.inr (fun q => e q.symm))]
    · rw [List.getElem?_eq_none (by rw [List.length_set, w_fs_len]; omega), List.getElem?_eq_none (by rw [w_fs_len]; omega)]
  rw [e1]
  refine hH.obj ha rfl (fun b' _ => rfl) (fun b' cj m gk e hb => ?_) (fun i u hi => hH.2.2.2.2.2.2.2.2 a ci n fk ha i u hi)
  unfold w_fs
  exact List.map_congr_left (fun i _ => key b' cj m gk i hb (Or.inl e))
theorem w_H.putl {T : w_T} {S : w_S} {h : rm_H} {a n k : Nat} {x : Int} (hH : w_H T S h) (ha : T.1 a = some (3, n)) (hq : w_n64 x) : w_H T (w_put S a k x) (h.set a (.inl (3, n, .inr (.inl (vp_updL (fun j => Int64.ofInt (S.1 a j)) k (Int64.ofInt x)))))) := by
  have hold := hH.2.1 a n ha
  have hwa : w_a T S a = some (3, n) := by unfold w_a; rw [ha]
  obtain ⟨g1, g2, g3, g4, g5, g6, g7, g8, g9⟩ := hH
  have hf : (vp_updL (fun j => Int64.ofInt (S.1 a j)) k (Int64.ofInt x)) = fun j => Int64.ofInt ((w_put S a k x).1 a j) := by
    funext j
    rw [w_put_eq]
    unfold vp_updL
    split <;> rfl
  rw [hf]
  have hob : ∀ b ci m fk, T.2 b = some (ci, m, fk) → b ≠ a := by
    rintro b ci m fk hb rfl
    rw [g4 b ci m fk hb] at hold
    cases hold
  refine ⟨fun b u m hb hu => ?_, fun b m hb => ?_, fun b m hb => ?_, fun b ci m fk hb => ?_, g5, ?_, ?_, fun b u m hb j => ?_, fun b ci m fk hb j u hj => ?_⟩
  · have hb0 : w_a T S b = some (u, m) := hb
    have e : b ≠ a := by
      rintro rfl
      rw [hwa] at hb0
      cases hb0
      omega
    rw [w_put_f e]
    exact w_set_at (g1 b u m hb0 hu) e
  · by_cases e : b = a
    · subst e
      rw [ha] at hb
      cases hb
      exact w_set_eq hold
    · rw [w_put_f e]
      exact w_set_at (g2 b m hb) e
  · have e : b ≠ a := by
      rintro rfl
      rw [ha] at hb
      cases hb
    exact w_set_at (g3 b m hb) e
  · have e := hob b ci m fk hb
    rw [w_fs_ne (w_put_f e) rfl]
    exact w_set_at (g4 b ci m fk hb) e
  · rw [List.length_set]
    exact g6
  · rw [List.length_set]
    exact g7
  · have hb0 : w_a T S b = some (u, m) := hb
    by_cases e : b = a
    · subst e
      rw [hwa] at hb0
      cases hb0
      rw [w_put_eq]
      split
      · exact hq
      · exact g8 b 3 n hwa j
    · rw [w_put_f e]
      exact g8 b u m hb0 j
  · rw [w_put_f (hob b ci m fk hb)]
    exact g9 b ci m fk hb j u hj
theorem w_app_at {h : rm_H} {e f : rm_E} {b : Nat} (hb : h[b]? = some f) : (h ++ [e])[b]? = some f := by
  rw [List.getElem?_append_left (List.getElem?_eq_some_iff.mp hb).1, hb]
/-- a new array -/
theorem w_H.new {T : w_T} {S : w_S} {h : rm_H} {t n : Nat} (hT : w_TU T) (hH : w_H T S h) (ht : t < 3) (hK : h.length < rm_K) : w_H T (w_new S t n) (h ++ [.inl (t, n, .inl (fun _ => 0))]) := by
  obtain ⟨g1, g2, g3, g4, g5, g6, g7, g8, g9⟩ := hH
  have hno : h[S.2.2.2.1]? = none := by rw [← g6]; exact List.getElem?_eq_none (Nat.le_refl _)
  have ho : ∀ b ci m fk, T.2 b = some (ci, m, fk) → b ≠ S.2.2.2.1 := by
    rintro b ci m fk hb rfl
    rw [g4 _ ci m fk hb] at hno
    cases hno
  have h1 : ∀ b u m, T.1 b = some (u, m) → b ≠ S.2.2.2.1 := by
    rintro b u m hb rfl
    have hu := hT.2 _ u m hb
    by_cases h3 : u < 3
    · rw [g1 _ u m (by unfold w_a; rw [hb]) h3] at hno
      cases hno
    · rcases (by omega : u = 3 ∨ u = 4) with rfl | rfl
      · rw [g2 _ m hb] at hno
        cases hno
      · rw [g3 _ m hb] at hno
        cases hno
  have hI : ∀ b, b ≠ S.2.2.2.1 → (w_new S t n).1 b = S.1 b := fun b e => by
    funext j
    exact if_neg e
  have hwa : ∀ b, b ≠ S.2.2.2.1 → w_a T (w_new S t n) b = w_a T S b := fun b e => by
    unfold w_a
    rw [show (w_new S t n).2.2.1 b = S.2.2.1 b from if_neg e]
  have hwn : w_a T (w_new S t n) S.2.2.2.1 = some (t, n) := by
    unfold w_a
    cases hc : T.1 S.2.2.2.1 with
    | some x => exact absurd rfl (h1 _ x.1 x.2 hc)
    | none => exact if_pos rfl
  refine ⟨fun b u m hb hu => ?_, fun b m hb => ?_, fun b m hb => ?_, fun b ci m fk hb => ?_, fun b x hb => ?_, ?_, ?_, fun b u m hb j => ?_, fun b ci m fk hb j u hj => ?_⟩
  · by_cases e : b = S.2.2.2.1
    · subst e
      rw [hwn] at hb
      cases hb
      rw [← g6, List.getElem?_append_right (Nat.le_refl _), Nat.sub_self]
      have : (fun j => Int32.ofInt ((w_new S t n).1 h.length j)) = fun _ => (0 : Int32) := by
        funext j
        rw [show (w_new S t n).1 h.length j = 0 from if_pos g6]
        rfl
      rw [this]
      rfl
    · rw [hwa b e] at hb
      rw [hI b e]
      exact w_app_at (g1 b u m hb hu)
  · rw [hI b (h1 b 3 m hb)]
    exact w_app_at (g2 b m hb)
  · exact w_app_at (g3 b m hb)
  · rw [w_fs_ne (hI b (ho b ci m fk hb)) rfl]
    exact w_app_at (g4 b ci m fk hb)
  · by_cases e : b = S.2.2.2.1
    · have : some (t, n) = some x := by rw [← hb]; exact (if_pos e).symm
      cases this
      exact ht
    · exact g5 b x (by rw [← hb]; exact (if_neg e).symm)
  · rw [List.length_append, g6]
    rfl
  · rw [List.length_append]
    exact hK
  · by_cases e : b = S.2.2.2.1
    · subst e
      rw [hwn] at hb
      cases hb
      rw [show (w_new S t n).1 S.2.2.2.1 j = 0 from if_pos rfl]
      rcases (by omega : t = 0 ∨ t = 1 ∨ t = 2) with rfl | rfl | rfl
      · exact w_n0
      · exact ⟨by decide, by decide⟩
      · exact Or.inl rfl
    · rw [hwa b e] at hb
      rw [hI b e]
      exact g8 b u m hb j
  · rw [hI b (ho b ci m fk hb)]
    exact g9 b ci m fk hb j u hj
/-- is it left as it is: 300 among the addresses: the changing part may change; 301: arrays that the table doesn't have; 302: any array -/
def w_frb (T : w_T) (B a : Nat) : Bool := !Nat.testBit B a && ((T.2 a).isSome || ((((T.1 a).isSome || !Nat.testBit B 301) || Nat.blt a 129) && !Nat.testBit B 302))
def w_fr (T : w_T) (B : Nat) (S S' : w_S) : Prop := (Nat.testBit B 300 = false → S'.2 = S.2) ∧ ∀ a, w_frb T B a = true → S'.1 a = S.1 a
theorem w_fr.refl (T : w_T) (B : Nat) (S : w_S) : w_fr T B S S := ⟨fun _ => rfl, fun _ _ => rfl⟩
theorem w_fr.trans {T : w_T} {B : Nat} {S S1 S2 : w_S} (h1 : w_fr T B S S1) (h2 : w_fr T B S1 S2) : w_fr T B S S2 := ⟨fun h => (h2.1 h).trans (h1.1 h), fun a h => (h2.2 a h).trans (h1.2 a h)⟩
theorem w_fr.sub {T : w_T} {B B' : Nat} {S S1 : w_S} (h : w_fr T B' S S1) (hs : Nat.beq (Nat.land B' B) B' = true) : w_fr T B S S1 := by
  have key : ∀ a, Nat.testBit B a = false → Nat.testBit B' a = false := by
    intro a ha
    have h1 : B' &&& B = B' := Nat.eq_of_beq_eq_true hs
    rw [← h1, Nat.testBit_and, ha, Bool.and_false]
  refine ⟨fun q => h.1 (key _ q), fun a q => h.2 a ?_⟩
  unfold w_frb at q ⊢
  simp only [Bool.and_eq_true, Bool.or_eq_true, Bool.not_eq_true'] at q ⊢
  refine ⟨key _ q.1, ?_⟩
  rcases q.2 with q2 | ⟨q2, q3⟩
  · exact Or.inl q2
  · refine Or.inr ⟨?_, key _ q3⟩
    rcases q2 with (q2 | q2) | q2
    · exact Or.inl (Or.inl q2)
    · exact Or.inl (Or.inr (key _ q2))
    · exact Or.inr q2
theorem w_fr.of {T : w_T} {B : Nat} {S S' : w_S} {a : Nat} (h2 : S'.2 = S.2) (hne : ∀ b, b ≠ a → S'.1 b = S.1 b) (h : w_frb T B a = false) : w_fr T B S S' := by
  refine ⟨fun _ => h2, fun b hb => hne b ?_⟩
  rintro rfl
  rw [h] at hb
  cases hb
theorem w_fr.put {T : w_T} {B : Nat} {S : w_S} {a k : Nat} {x : Int} (h : w_frb T B a = false) : w_fr T B S (w_put S a k x) := w_fr.of rfl (fun _ e => w_put_f e) h
theorem w_fr.cpy {T : w_T} {B : Nat} {S : w_S} {a0 a sp dp n : Nat} (h : w_frb T B a = false) : w_fr T B S (w_cpy S a0 a sp dp n) := w_fr.of rfl (fun _ e => by funext j; exact if_neg e) h
theorem w_fr.rfp {T : w_T} {B : Nat} {S : w_S} {j b : Nat} (h : Nat.testBit B 300 = true) : w_fr T B S (w_rfp S j b) := ⟨fun q => (by rw [q] at h; cases h), fun _ _ => rfl⟩
theorem w_fr.new {T : w_T} {B : Nat} {S : w_S} {t n : Nat} (h1 : Nat.testBit B 300 = true) (h2 : w_frb T B S.2.2.2.1 = false) : w_fr T B S (w_new S t n) := by
  refine ⟨fun q => (by rw [q] at h1; cases h1), fun b hb => ?_⟩
  have : b ≠ S.2.2.2.1 := by
    rintro rfl
    rw [h2] at hb
    cases hb
  funext j
  exact if_neg this
theorem w_frb_a {T : w_T} {B a : Nat} (h : Nat.testBit B a = true) : w_frb T B a = false := by
  unfold w_frb
  rw [h]
  rfl
theorem w_frb_302 {T : w_T} {B a : Nat} (h : Nat.testBit B 302 = true) (h2 : T.2 a = none) : w_frb T B a = false := by
  unfold w_frb
  rw [h, h2]
  simp
theorem w_frb_301 {T : w_T} {B a : Nat} (h : Nat.testBit B 301 = true) (h1 : T.1 a = none) (h2 : T.2 a = none) (h3 : 129 ≤ a) : w_frb T B a = false := by
  unfold w_frb
  have h4 : Nat.blt a 129 = false := by
    cases hb : Nat.blt a 129 with
    | false => rfl
    | true =>
      have : a + 1 ≤ 129 := Nat.le_of_ble_eq_true hb
      omega
  rw [h, h1, h2, h4]
  simp
/-- the same of the heap itself -/
def w_hf (T : w_T) (B : Nat) (h h' : rm_H) : Prop := ∀ a, w_frb T B a = true → h'[a]? = h[a]?
theorem w_hf.refl (T : w_T) (B : Nat) (h : rm_H) : w_hf T B h h := fun _ _ => rfl
theorem w_hf.trans {T : w_T} {B : Nat} {h h1 h2 : rm_H} (q1 : w_hf T B h h1) (q2 : w_hf T B h1 h2) : w_hf T B h h2 := fun a q => (q2 a q).trans (q1 a q)
theorem w_hf.set {T : w_T} {B a : Nat} {h : rm_H} {e : rm_E} (q : w_frb T B a = false) : w_hf T B h (h.set a e) := by
  intro b hb
  have : a ≠ b := by
    rintro rfl
    rw [q] at hb
    cases hb
  rw [List.getElem?_set_ne this]
theorem w_hf.new {T : w_T} {B : Nat} {h : rm_H} {e : rm_E} (q : w_frb T B h.length = false) : w_hf T B h (h ++ [e]) := by
  intro b hb
  by_cases h1 : b < h.length
  · rw [List.getElem?_append_left h1]
  · have : b ≠ h.length := by
      rintro rfl
      rw [q] at hb
      cases hb
    rw [List.getElem?_eq_none (l := h ++ [e]) (by rw [List.length_append, List.length_singleton]; omega), List.getElem?_eq_none (l := h) (by omega)]
theorem w_frb_sub {T : w_T} {B B' a : Nat} (hs : Nat.beq (Nat.land B' B) B' = true) (q : w_frb T B a = true) : w_frb T B' a = true := by
  have key : ∀ a, Nat.testBit B a = false → Nat.testBit B' a = false := by
    intro a ha
    have h1 : B' &&& B = B' := Nat.eq_of_beq_eq_true hs
    rw [← h1, Nat.testBit_and, ha, Bool.and_false]
  unfold w_frb at q ⊢
  simp only [Bool.and_eq_true, Bool.or_eq_true, Bool.not_eq_true'] at q ⊢
  refine ⟨key _ q.1, ?_⟩
  rcases q.2 with q2 | ⟨q2, q3⟩
  · exact Or.inl q2
  · refine Or.inr ⟨?_, key _ q3⟩
    rcases q2 with (q2 | q2) | q2
    · exact Or.inl (Or.inl q2)
    · exact Or.inl (Or.inr (key _ q2))
    · exact Or.inr q2
theorem w_hf.sub {T : w_T} {B B' : Nat} {h h1 : rm_H} (q : w_hf T B' h h1) (hs : Nat.beq (Nat.land B' B) B' = true) : w_hf T B h h1 := fun a ha => q a (w_frb_sub hs ha)
