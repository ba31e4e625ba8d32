section
-- ff
/-- kinds of bytes in a title: 2 letters, 1 digits, 0 all else -/
def kd (b : Int) : Int := if ltr b = true then 2 else if 48 ≤ b ∧ b ≤ 57 then 1 else 0
theorem kd2 {b : Int} : (kd b = 2 ↔ (65 ≤ b ∧ b ≤ 90) ∨ (97 ≤ b ∧ b ≤ 122)) ∧ (kd b = 1 ↔ 48 ≤ b ∧ b ≤ 57) ∧ (kd b = 0 ∨ kd b = 1 ∨ kd b = 2) := by
  have hl : ltr b = true ↔ (65 ≤ b ∧ b ≤ 90) ∨ (97 ≤ b ∧ b ≤ 122) := by
    unfold ltr
    simp only [Bool.or_eq_true, Bool.and_eq_true, decide_eq_true_eq]
  unfold kd
  by_cases c : ltr b = true
  · rw [if_pos c]
    have := hl.1 c
    refine ⟨⟨fun _ => this, fun _ => rfl⟩, ⟨fun z => by omega, fun z => by omega⟩, by omega⟩
  · rw [if_neg c]
    have n2 : ¬ ((65 ≤ b ∧ b ≤ 90) ∨ (97 ≤ b ∧ b ≤ 122)) := fun z => c (hl.2 z)
    by_cases d : 48 ≤ b ∧ b ≤ 57
    · rw [if_pos d]
      exact ⟨⟨fun z => by omega, fun z => absurd z n2⟩, ⟨fun _ => d, fun _ => rfl⟩, by omega⟩
    · rw [if_neg d]
      exact ⟨⟨fun z => by omega, fun z => absurd z n2⟩, ⟨fun z => by omega, fun z => absurd z d⟩, by omega⟩
def tk (k : Int) (l : List Int) : List Int := l.takeWhile (fun b => decide (kd b = k))
def dk (k : Int) (l : List Int) : List Int := l.dropWhile (fun b => decide (kd b = k))
theorem tk_dk (k : Int) (l : List Int) : tk k l ++ dk k l = l := List.takeWhile_append_dropWhile
theorem tk_yes {k b : Int} {l : List Int} (h : kd b = k) : tk k (b :: l) = b :: tk k l := List.takeWhile_cons_of_pos (decide_eq_true h)
theorem tk_no {k b : Int} {l : List Int} (h : kd b ≠ k) : tk k (b :: l) = [] := List.takeWhile_cons_of_neg (by rw [decide_eq_false h]; decide)
theorem dk_yes {k b : Int} {l : List Int} (h : kd b = k) : dk k (b :: l) = dk k l := List.dropWhile_cons_of_pos (decide_eq_true h)
theorem dk_no {k b : Int} {l : List Int} (h : kd b ≠ k) : dk k (b :: l) = b :: l := List.dropWhile_cons_of_neg (by rw [decide_eq_false h]; decide)
theorem mem_tk {k w : Int} : ∀ {l : List Int}, w ∈ tk k l → kd w = k ∧ w ∈ l
  | [], h => by cases h
  | b :: l, h => by
    by_cases c : kd b = k
    · rw [tk_yes c] at h
      rcases List.mem_cons.1 h with h | h
      · rw [h]
        exact ⟨c, List.mem_cons_self⟩
      · exact ⟨(mem_tk h).1, List.mem_cons_of_mem _ (mem_tk h).2⟩
    · rw [tk_no c] at h
      cases h
theorem mem_dk {k w : Int} {l : List Int} (h : w ∈ dk k l) : w ∈ l := (List.dropWhile_sublist _).subset h
theorem dk_hd {k : Int} : ∀ (l : List Int), dk k l ≠ [] → kd ((dk k l).headD 0) ≠ k
  | [], h => absurd rfl h
  | b :: l, h => by
    by_cases c : kd b = k
    · rw [dk_yes c] at h ⊢
      exact dk_hd l h
    · rw [dk_no c]
      exact c
/-- the class: a run of one kind ends -/
theorem l_eo {e : w_E} {N : Nat} {S : w_S} {k : Int} : ∀ (l : List Int) (p nf : Nat), byt (S.1 2) p l → (∀ b, b ∈ l → 0 ≤ b ∧ b ≤ 127) → p + l.length ≤ 10240 → l.length + 1 < nf → El_Desk_endOf e N nf 0 [k, ((p + l.length : Nat) : Int), (p : Int), 1] [] S = some (((p + (tk k l).length : Nat) : Int), S)
  | _, _, 0, _, _, _, h => by omega
  | [], p, nf + 1, h1, h2, h3, h4 => by
    refine ok_eq ?_
    rw [El_Desk_endOf]
    exact ok_t (by rw [List.length_nil]; omega) (ok_s ⟨rfl, rfl⟩)
  | b :: l, p, nf + 1, h1, h2, h3, h4 => by
    rw [List.length_cons] at h3 h4 ⊢
    have hb := h2 b List.mem_cons_self
    have gb : S.1 2 p = b := h1.1
    have ih := l_eo (e := e) (N := N) (k := k) l (p + 1) nf h1.2 (fun x hx => h2 x (List.mem_cons_of_mem _ hx)) (by omega) (by omega)
    rw [show ((p + 1 + l.length : Nat) : Int) = ((p + (l.length + 1) : Nat) : Int) by omega, show ((p + 1 : Nat) : Int) = (p : Int) + 1 by omega] at ih
    obtain ⟨q2, q1, q0⟩ := @kd2 b
    refine ok_eq ?_
    rw [El_Desk_endOf, show ((p : Int)).toNat = p by omega, gb, b_or32 b (by omega) (by omega)]
    refine ok_e (by omega) (ok_e (by omega) (ok_ib (by omega) ?_))
    have fin : ∀ c : Int, kd b = c → Ok (if c ≠ k then (if w_nb ((p : Int) + 0) = true then El_Desk_endOf e N nf 0 [k, ((p + (l.length + 1) : Nat) : Int), (p : Int) + 0, 0] [] S else none) else (if w_nb ((p : Int) + 1) = true then El_Desk_endOf e N nf 0 [k, ((p + (l.length + 1) : Nat) : Int), (p : Int) + 1, 1] [] S else none)) (fun y S1 => y = ((p + (tk k (b :: l)).length : Nat) : Int) ∧ S1 = S) := fun c hc => by
      by_cases d : c = k
      · rw [tk_yes (by omega), List.length_cons]
        refine ok_e (fun z => z d) (ok_nb (by omega) (ok_of ih ⟨by omega, rfl⟩))
      · rw [tk_no (by omega), List.length_nil]
        cases nf with
        | zero => omega
        | succ nf =>
          refine ok_t d (ok_nb (by omega) ?_)
          rw [El_Desk_endOf]
          exact ok_e (by omega) (ok_t rfl (ok_s ⟨by omega, rfl⟩))
    by_cases c1 : (if b % 64 < 32 then b + 32 else b) < 97
    · refine ok_t c1 ?_
      have n2 : kd b ≠ 2 := fun z => by
        have := q2.1 z
        split at c1 <;> omega
      by_cases c2 : b < 48
      · exact ok_t c2 (fin 0 (by omega))
      refine ok_e c2 ?_
      by_cases c3 : 57 < b
      · exact ok_t c3 (fin 0 (by omega))
      · exact ok_e c3 (fin 1 (q1.2 (by omega)))
    · refine ok_e c1 ?_
      by_cases c4 : 122 < (if b % 64 < 32 then b + 32 else b)
      · refine ok_t c4 ?_
        have n2 : kd b ≠ 2 := fun z => by
          have := q2.1 z
          split at c4 <;> omega
        by_cases c2 : b < 48
        · exact ok_t c2 (fin 0 (by omega))
        refine ok_e c2 ?_
        by_cases c3 : 57 < b
        · exact ok_t c3 (fin 0 (by omega))
        · exact ok_e c3 (fin 1 (q1.2 (by omega)))
      · refine ok_e c4 (fin 2 (q2.2 ?_))
        split at c1 <;> split at c4 <;> omega
theorem x_eo {e : w_E} {N p : Nat} {S : w_S} {k : Int} {l : List Int} (hN : 11000 ≤ N) (h1 : byt (S.1 2) p l) (h2 : ∀ b, b ∈ l → 0 ≤ b ∧ b ≤ 127) (h3 : p + l.length ≤ 10240) : E_Desk_endOf e N k (p : Int) ((p + l.length : Nat) : Int) S = some (((p + (tk k l).length : Nat) : Int), S) := l_eo l p N h1 h2 h3 (by omega)
/-- what a number says of order: behind, alike, ahead -/
def sg (x : Int) : Int := if x < 0 then -1 else if x = 0 then 0 else 1
/-- bytes compared, letters small -/
def cmpB : List Int → List Int → Int
  | [], [] => 0
  | [], _ :: _ => -1
  | _ :: _, [] => 1
  | x :: a, y :: b => if low x = low y then cmpB a b else sg (low x - low y)
def zs (l : List Int) : List Int := l.dropWhile (fun b => decide (b = 48))
def cmpE (k : Int) (s t : List Int) : Int := if k = 1 then (if (zs s).length = (zs t).length then cmpB (zs s) (zs t) else sg (((zs s).length : Int) - ((zs t).length : Int))) else cmpB s t
def cmpT : Nat → List Int → List Int → Int
  | 0, _, _ => 0
  | n + 1, a, b => if dk 0 a = [] then (if dk 0 b = [] then 0 else -1) else if dk 0 b = [] then 1 else if kd ((dk 0 a).headD 0) = kd ((dk 0 b).headD 0) then (if cmpE (kd ((dk 0 a).headD 0)) (tk (kd ((dk 0 a).headD 0)) (dk 0 a)) (tk (kd ((dk 0 a).headD 0)) (dk 0 b)) = 0 then cmpT n (dk (kd ((dk 0 a).headD 0)) (dk 0 a)) (dk (kd ((dk 0 a).headD 0)) (dk 0 b)) else cmpE (kd ((dk 0 a).headD 0)) (tk (kd ((dk 0 a).headD 0)) (dk 0 a)) (tk (kd ((dk 0 a).headD 0)) (dk 0 b))) else if kd ((dk 0 b).headD 0) < kd ((dk 0 a).headD 0) then 1 else -1
theorem cmpB_len : ∀ (a b : List Int), a.length < b.length ∨ b.length < a.length → (∀ i, i < a.length → i < b.length → low (a.getD i 0) = low (b.getD i 0)) → cmpB a b = sg ((a.length : Int) - (b.length : Int))
  | [], [], h, _ => by
    rw [List.length_nil] at h
    omega
  | [], y :: b, h, _ => by
    rw [cmpB, List.length_cons, List.length_nil]
    unfold sg
    rw [if_pos (by omega)]
  | x :: a, [], h, _ => by
    rw [cmpB, List.length_cons, List.length_nil]
    unfold sg
    rw [if_neg (by omega), if_neg (by omega)]
  | x :: a, y :: b, h, g => by
    rw [List.length_cons, List.length_cons] at h ⊢
    have g0 := g 0 (by rw [List.length_cons]; omega) (by rw [List.length_cons]; omega)
    rw [List.getD_cons_zero, List.getD_cons_zero] at g0
    rw [cmpB, if_pos g0, cmpB_len a b (by omega) (fun i h1 h2 => by
      have := g (i + 1) (by rw [List.length_cons]; omega) (by rw [List.length_cons]; omega)
      rw [List.getD_cons_succ, List.getD_cons_succ] at this
      exact this)]
    congr 1
    omega
end
section
-- fg
theorem sg_0 (x : Int) : (sg x = 0 ↔ x = 0) ∧ (sg x = -1 ↔ x < 0) ∧ (sg x = 1 ↔ 0 < x) := by
  unfold sg
  split
  · omega
  · split <;> omega
theorem wby_kd {b : Int} (h : kd b ≠ 0) : wby b = true := by
  obtain ⟨q2, q1, q0⟩ := @kd2 b
  rw [wby_iff]
  rcases q0 with q | q | q
  · exact absurd q h
  · have := q1.1 q
    omega
  · have := q2.1 q
    omega
/-- the class: bytes of two elements -/
theorem l_ce2 {e : w_E} {N p6 p7 : Nat} {S : w_S} : ∀ (s t : List Int) (k nf : Nat), byt (S.1 2) (p6 + k) s → byt (S.1 2) (p7 + k) t → (∀ b, b ∈ s → wby b = true) → (∀ b, b ∈ t → wby b = true) → p6 + k + s.length ≤ 10240 → p7 + k + t.length ≤ 10240 → s.length < nf → Ok (El_Desk_compareElements e N nf 2 [(p6 : Int), (p7 : Int), ((k + s.length : Nat) : Int), ((k + t.length : Nat) : Int), (k : Int)] [] S) (fun y S1 => sg y = cmpB s t ∧ S1 = S)
  | _, _, _, 0, _, _, _, _, _, _, h => by omega
  | [], t, k, nf + 1, g1, g2, g3, g4, g5, g6, g7 => by
    rw [El_Desk_compareElements, List.length_nil]
    rw [List.length_nil] at g5
    refine ok_t (by omega) (ok_nb (by omega) (ok_s ⟨?_, rfl⟩))
    cases t with
    | nil =>
      rw [cmpB, List.length_nil]
      exact (sg_0 _).1.2 (by omega)
    | cons y t =>
      rw [cmpB, List.length_cons]
      exact (sg_0 _).2.1.2 (by omega)
  | x :: s, [], k, nf + 1, g1, g2, g3, g4, g5, g6, g7 => by
    rw [El_Desk_compareElements, List.length_nil, List.length_cons, cmpB]
    rw [List.length_cons] at g5
    rw [List.length_nil] at g6
    exact ok_e (by omega) (ok_t (by omega) (ok_nb (by omega) (ok_s ⟨(sg_0 _).2.2.2 (by omega), rfl⟩)))
  | x :: s, y :: t, k, nf + 1, g1, g2, g3, g4, g5, g6, g7 => by
    rw [List.length_cons] at g5 g6 g7
    have hx : S.1 2 (p6 + k) = x := g1.1
    have hy : S.1 2 (p7 + k) = y := g2.1
    have ih := l_ce2 (e := e) (N := N) (p6 := p6) (p7 := p7) (S := S) s t (k + 1) nf (by rw [show p6 + (k + 1) = p6 + k + 1 by omega]; exact g1.2) (by rw [show p7 + (k + 1) = p7 + k + 1 by omega]; exact g2.2) (fun b hb => g3 b (List.mem_cons_of_mem _ hb)) (fun b hb => g4 b (List.mem_cons_of_mem _ hb)) (by omega) (by omega) (by omega)
    have wx := wby_iff.1 (g3 x List.mem_cons_self)
    have wy := wby_iff.1 (g4 y List.mem_cons_self)
    have lx : 0 ≤ low x ∧ low x ≤ 127 := by unfold low; split <;> omega
    have ly : 0 ≤ low y ∧ low y ≤ 127 := by unfold low; split <;> omega
    rw [List.length_cons, List.length_cons, El_Desk_compareElements, show ((p6 : Int) + (k : Int)).toNat = p6 + k by omega, show ((p7 : Int) + (k : Int)).toNat = p7 + k by omega, hx, hy, b_low (g3 x List.mem_cons_self), b_low (g4 y List.mem_cons_self), cmpB]
    refine ok_e (by omega) (ok_e (by omega) (ok_nb (by omega) (ok_ib (by omega) (ok_nb (by omega) (ok_ib (by omega) (ok_nb (by omega) ?_))))))
    by_cases c : low x = low y
    · rw [if_pos c]
      refine ok_t (by omega) (ok_nb (by omega) ?_)
      rw [show k + (s.length + 1) = k + 1 + s.length by omega, show k + (t.length + 1) = k + 1 + t.length by omega, show (k : Int) + 1 = ((k + 1 : Nat) : Int) by omega]
      exact ih
    · rw [if_neg c]
      exact ok_e (by omega) (ok_s ⟨rfl, rfl⟩)
theorem zs_yes {l : List Int} : zs (48 :: l) = zs l := List.dropWhile_cons_of_pos (decide_eq_true rfl)
theorem zs_no {b : Int} {l : List Int} (h : b ≠ 48) : zs (b :: l) = b :: l := List.dropWhile_cons_of_neg (by rw [decide_eq_false h]; decide)
theorem l_ce1 {e : w_E} {N p6 : Nat} {S : w_S} {s : List Int} (h6 : byt (S.1 2) p6 s) (hs : ∀ b, b ∈ s → wby b = true) (hp6 : p6 + s.length ≤ 10240) : ∀ (t : List Int) (p7 nf : Nat), byt (S.1 2) p7 t → (∀ b, b ∈ t → wby b = true) → p7 + t.length ≤ 10240 → s.length + t.length + 1 < nf → Ok (El_Desk_compareElements e N nf 1 [((p6 + s.length : Nat) : Int), ((p7 + t.length : Nat) : Int), (p6 : Int), (p7 : Int), 1] [] S) (fun y S1 => sg y = (if s.length = (zs t).length then cmpB s (zs t) else sg ((s.length : Int) - ((zs t).length : Int))) ∧ S1 = S)
  | _, _, 0, _, _, _, h => by omega
  | [], p7, nf + 1, g1, g2, g3, g4 => by
    have key := l_ce2 (e := e) (N := N) (p6 := p6) (p7 := p7) (S := S) s [] 0 nf h6 trivial hs (fun _ h => by cases h) (by omega) (by rw [List.length_nil] at g3 ⊢; omega) (by omega)
    rw [Nat.zero_add, Nat.zero_add] at key
    rw [List.length_nil] at g3 key
    rw [El_Desk_compareElements, show zs [] = ([] : List Int) from rfl, List.length_nil]
    refine ok_e (by decide) (ok_t (by omega) (ok_nb (by omega) (ok_nb (by omega) ?_)))
    rw [show ((p6 + s.length : Nat) : Int) - (p6 : Int) = (s.length : Int) by omega, show ((p7 + 0 : Nat) : Int) - (p7 : Int) = ((0 : Nat) : Int) by omega]
    by_cases c : s.length = 0
    · rw [if_pos c]
      exact ok_t (by omega) key
    · rw [if_neg c]
      exact ok_e (by omega) (ok_nb (by omega) (ok_s ⟨rfl, rfl⟩))
  | b :: t, p7, nf + 1, g1, g2, g3, g4 => by
    rw [List.length_cons] at g3 g4
    have hb : S.1 2 p7 = b := g1.1
    rw [El_Desk_compareElements, show ((p7 : Int)).toNat = p7 by omega, hb, List.length_cons]
    refine ok_e (by decide) (ok_e (by omega) (ok_ib (by omega) ?_))
    by_cases c : b = 48
    · subst c
      rw [zs_yes]
      refine ok_e (fun z => z rfl) (ok_nb (by omega) ?_)
      rw [show p7 + (t.length + 1) = p7 + 1 + t.length by omega, show (p7 : Int) + 1 = ((p7 + 1 : Nat) : Int) by omega]
      exact l_ce1 h6 hs hp6 t (p7 + 1) nf g1.2 (fun x hx => g2 x (List.mem_cons_of_mem _ hx)) (by omega) (by omega)
    · rw [zs_no c]
      have key := l_ce2 (e := e) (N := N) (p6 := p6) (p7 := p7) (S := S) s (b :: t) 0 nf h6 g1 hs g2 (by omega) (by rw [List.length_cons]; omega) (by omega)
      rw [Nat.zero_add, Nat.zero_add, List.length_cons] at key
      refine ok_t c (ok_nb (by omega) (ok_nb (by omega) ?_))
      rw [List.length_cons, show ((p6 + s.length : Nat) : Int) - (p6 : Int) = (s.length : Int) by omega, show ((p7 + (t.length + 1) : Nat) : Int) - (p7 : Int) = ((t.length + 1 : Nat) : Int) by omega]
      by_cases d : s.length = t.length + 1
      · rw [if_pos d]
        exact ok_t (by omega) key
      · rw [if_neg d]
        exact ok_e (by omega) (ok_nb (by omega) (ok_s ⟨rfl, rfl⟩))
theorem l_ce0 {e : w_E} {N p7 : Nat} {S : w_S} {t : List Int} (h7 : byt (S.1 2) p7 t) (ht : ∀ b, b ∈ t → wby b = true) (hp7 : p7 + t.length ≤ 10240) : ∀ (s : List Int) (p6 nf : Nat), byt (S.1 2) p6 s → (∀ b, b ∈ s → wby b = true) → p6 + s.length ≤ 10240 → s.length + t.length + 2 < nf → Ok (El_Desk_compareElements e N nf 0 [((p6 + s.length : Nat) : Int), ((p7 + t.length : Nat) : Int), (p6 : Int), (p7 : Int), 1] [] S) (fun y S1 => sg y = cmpE 1 s t ∧ S1 = S)
  | _, _, 0, _, _, _, h => by omega
  | [], p6, nf + 1, g1, g2, g3, g4 => by
    have key := l_ce1 (e := e) (N := N) (p6 := p6) (S := S) (s := []) trivial (fun _ h => by cases h) g3 t p7 nf h7 ht hp7 (by rw [List.length_nil] at g4 ⊢; omega)
    rw [El_Desk_compareElements, cmpE, if_pos rfl, show zs [] = ([] : List Int) from rfl]
    rw [List.length_nil] at g3 key ⊢
    exact ok_e (by decide) (ok_t (by omega) key)
  | b :: s, p6, nf + 1, g1, g2, g3, g4 => by
    rw [List.length_cons] at g3 g4
    have hb : S.1 2 p6 = b := g1.1
    rw [El_Desk_compareElements, show ((p6 : Int)).toNat = p6 by omega, hb, List.length_cons]
    refine ok_e (by decide) (ok_e (by omega) (ok_ib (by omega) ?_))
    by_cases c : b = 48
    · subst c
      have ih := l_ce0 (e := e) (N := N) h7 ht hp7 s (p6 + 1) nf g1.2 (fun x hx => g2 x (List.mem_cons_of_mem _ hx)) (by omega) (by omega)
      refine ok_e (fun z => z rfl) (ok_nb (by omega) ?_)
      rw [show p6 + (s.length + 1) = p6 + 1 + s.length by omega, show (p6 : Int) + 1 = ((p6 + 1 : Nat) : Int) by omega]
      unfold cmpE at ih ⊢
      rw [zs_yes]
      exact ih
    · have key := l_ce1 (e := e) (N := N) (p6 := p6) (S := S) (s := b :: s) g1 g2 (by rw [List.length_cons]; omega) t p7 nf h7 ht hp7 (by rw [List.length_cons]; omega)
      rw [cmpE, if_pos rfl, zs_no c]
      rw [List.length_cons] at key ⊢
      exact ok_t c key
/-- the class: two elements of one kind -/
theorem x_ce {e : w_E} {N p6 p7 : Nat} {S : w_S} {s t : List Int} {k : Int} (hN : 30000 ≤ N) (hk : k = 1 ∨ k = 2) (h6 : byt (S.1 2) p6 s) (h7 : byt (S.1 2) p7 t) (hs : ∀ b, b ∈ s → kd b = k) (ht : ∀ b, b ∈ t → kd b = k) (hs1 : 1 ≤ s.length) (g6 : p6 + s.length ≤ 10240) (g7 : p7 + t.length ≤ 10240) : Ok (E_Desk_compareElements e N (p6 : Int) ((p6 + s.length : Nat) : Int) (p7 : Int) ((p7 + t.length : Nat) : Int) S) (fun y S1 => sg y = cmpE k s t ∧ S1 = S) := by
  have ws : ∀ b, b ∈ s → wby b = true := fun b hb => wby_kd (by rw [hs b hb]; omega)
  have wt : ∀ b, b ∈ t → wby b = true := fun b hb => wby_kd (by rw [ht b hb]; omega)
  unfold E_Desk_compareElements
  rw [show ((p6 : Int)).toNat = p6 by omega]
  refine ok_ib (by omega) ?_
  cases s with
  | nil => rw [List.length_nil] at hs1; omega
  | cons b s =>
    have hb : S.1 2 p6 = b := h6.1
    have kb := hs b List.mem_cons_self
    obtain ⟨q2, q1, _⟩ := @kd2 b
    rw [hb]
    rcases hk with rfl | rfl
    · have := q1.1 kb
      refine ok_e (by omega) ?_
      exact l_ce0 h7 wt g7 (b :: s) p6 N h6 ws g6 (by omega)
    · have := q2.1 kb
      refine ok_t (by omega) ?_
      rw [cmpE, if_neg (by decide)]
      have key := fun nf h => l_ce2 (e := e) (N := N) (p6 := p6) (p7 := p7) (S := S) (b :: s) t 0 nf h6 h7 ws wt (by omega) (by omega) h
      obtain ⟨M, rfl⟩ : ∃ M, N = M + 1 + 1 := ⟨N - 2, by omega⟩
      rw [El_Desk_compareElements]
      refine ok_t rfl ?_
      rw [El_Desk_compareElements]
      refine ok_t rfl (ok_nb (by omega) (ok_nb (by omega) ?_))
      have := key M (by omega)
      rw [Nat.zero_add, Nat.zero_add] at this
      rw [show ((p6 + (b :: s).length : Nat) : Int) - (p6 : Int) = ((b :: s).length : Int) by omega, show ((p7 + t.length : Nat) : Int) - (p7 : Int) = (t.length : Int) by omega]
      exact this
end
section
-- fh
theorem byt_tk {g : Nat → Int} {k : Int} {p : Nat} {l : List Int} (h : byt g p l) : byt g p (tk k l) ∧ byt g (p + (tk k l).length) (dk k l) ∧ (tk k l).length + (dk k l).length = l.length := by
  have e1 := tk_dk k l
  have l1 : (tk k l).length + (dk k l).length = l.length := by rw [← List.length_append, e1]
  rw [← e1] at h
  exact ⟨((byt_app _ _ _).1 h).1, ((byt_app _ _ _).1 h).2, l1⟩
theorem hd_of {l : List Int} (h : l ≠ []) : l.headD 0 ∈ l ∧ 1 ≤ l.length ∧ ∀ (g : Nat → Int) (p : Nat), byt g p l → g p = l.headD 0 := by
  cases l with
  | nil => exact absurd rfl h
  | cons b l => exact ⟨List.mem_cons_self, by rw [List.length_cons]; omega, fun g p hb => hb.1⟩
theorem tk_ne {k : Int} {l : List Int} (h : l ≠ []) (hk : kd (l.headD 0) = k) : 1 ≤ (tk k l).length := by
  cases l with
  | nil => exact absurd rfl h
  | cons b l =>
    rw [tk_yes (show kd b = k from hk), List.length_cons]
    omega
theorem sg_ne {z c : Int} (h : sg z = c) : (z = 0 ↔ c = 0) := by
  rw [← h]
  exact (sg_0 z).1.symm
/-- the class: two titles -/
theorem l_ct {e : w_E} {N : Nat} {S : w_S} (hN : 30000 ≤ N) : ∀ (n i nf : Nat) (a b : List Int) (pa pb : Nat), i + n = 41 → n + 1 < nf → byt (S.1 2) pa a → byt (S.1 2) pb b → (∀ x, x ∈ a → 0 ≤ x ∧ x ≤ 127) → (∀ x, x ∈ b → 0 ≤ x ∧ x ≤ 127) → pa + a.length ≤ 10240 → pb + b.length ≤ 10240 → Ok (El_Desk_compareTitles e N nf 0 [((pa + a.length : Nat) : Int), ((pb + b.length : Nat) : Int), (pa : Int), (pb : Int), 0, (i : Int)] [] S) (fun y S1 => sg y = cmpT n a b ∧ S1 = S)
  | _, _, 0, _, _, _, _, _, h, _, _, _, _, _, _ => by omega
  | 0, i, nf + 1, a, b, pa, pb, g1, g2, ga, gb, ha, hb, la, lb => by
    rw [El_Desk_compareTitles, cmpT]
    exact ok_t (by omega) (ok_s ⟨rfl, rfl⟩)
  | n + 1, i, nf + 1, a, b, pa, pb, g1, g2, ga, gb, ha, hb, la, lb => by
    have ea := x_eo (e := e) (N := N) (k := 0) (by omega) ga ha la
    have eb := x_eo (e := e) (N := N) (k := 0) (by omega) gb hb lb
    obtain ⟨_, a2, a3⟩ := byt_tk (k := 0) ga
    obtain ⟨_, b2, b3⟩ := byt_tk (k := 0) gb
    have ma : ∀ x, x ∈ dk 0 a → 0 ≤ x ∧ x ≤ 127 := fun x hx => ha x (mem_dk hx)
    have mb : ∀ x, x ∈ dk 0 b → 0 ≤ x ∧ x ≤ 127 := fun x hx => hb x (mem_dk hx)
    have ka := dk_hd (k := 0) a
    have kb := dk_hd (k := 0) b
    rw [El_Desk_compareTitles, cmpT]
    refine ok_e (by omega) (ok_e (by omega) (ok_b (ok_of ea ?_)))
    dsimp only
    refine ok_b (ok_of eb ?_)
    dsimp only
    rw [show ((pa + a.length : Nat) : Int) = ((pa + (tk 0 a).length + (dk 0 a).length : Nat) : Int) by omega, show ((pb + b.length : Nat) : Int) = ((pb + (tk 0 b).length + (dk 0 b).length : Nat) : Int) by omega]
    generalize dk 0 a = A at *
    generalize dk 0 b = B at *
    generalize hpA : pa + (tk 0 a).length = pA at *
    generalize hpB : pb + (tk 0 b).length = pB at *
    by_cases cA : A = []
    · subst cA
      rw [if_pos rfl]
      refine ok_t (by rw [List.length_nil]; omega) ?_
      by_cases cB : B = []
      · subst cB
        rw [if_pos rfl]
        exact ok_t (by rw [List.length_nil]; omega) (ok_s ⟨rfl, rfl⟩)
      · have := (hd_of cB).2.1
        rw [if_neg cB]
        exact ok_e (by omega) (ok_s ⟨rfl, rfl⟩)
    obtain ⟨mA, lA, gA⟩ := hd_of cA
    rw [if_neg cA]
    refine ok_e (by omega) ?_
    by_cases cB : B = []
    · subst cB
      rw [if_pos rfl]
      exact ok_e (by rw [List.length_nil]; omega) (ok_s ⟨rfl, rfl⟩)
    obtain ⟨mB, lB, gB⟩ := hd_of cB
    rw [if_neg cB]
    have kA := ka cA
    have kB := kb cB
    have vA := gA _ _ a2
    have vB := gB _ _ b2
    have rA := ma _ mA
    have rB := mb _ mB
    refine ok_t (by omega) (ok_ib (by omega) ?_)
    rw [show (((pA : Nat) : Int)).toNat = pA by omega, show (((pB : Nat) : Int)).toNat = pB by omega, vA, vB]
    obtain ⟨u2, u1, u0⟩ := @kd2 (A.headD 0)
    obtain ⟨w2, w1, w0⟩ := @kd2 (B.headD 0)
    -- one element each of one kind
    have go : ∀ k : Int, (k = 1 ∨ k = 2) → kd (A.headD 0) = k → kd (B.headD 0) = k → Ok ((E_Desk_endOf e N k (pA : Int) ((pA + A.length : Nat) : Int) S).bind (fun q559 => ((E_Desk_endOf e N k (pB : Int) ((pB + B.length : Nat) : Int) q559.2).bind (fun q560 => ((E_Desk_compareElements e N (pA : Int) q559.1 (pB : Int) q560.1 q560.2).bind (fun q561 => (if w_nb ((i : Int) + 1) = true then El_Desk_compareTitles e N nf 0 [((pA + A.length : Nat) : Int), ((pB + B.length : Nat) : Int), q559.1, q560.1, q561.1, (i : Int) + 1] [] q561.2 else none))))))) (fun y S1 => sg y = (if cmpE k (tk k A) (tk k B) = 0 then cmpT n (dk k A) (dk k B) else cmpE k (tk k A) (tk k B)) ∧ S1 = S) := by
      intro k hk hA hB
      obtain ⟨s1, s2, s3⟩ := byt_tk (k := k) a2
      obtain ⟨t1, t2, t3⟩ := byt_tk (k := k) b2
      refine ok_b (ok_of (x_eo (e := e) (N := N) (k := k) (by omega) a2 ma (by omega)) ?_)
      dsimp only
      refine ok_b (ok_of (x_eo (e := e) (N := N) (k := k) (by omega) b2 mb (by omega)) ?_)
      dsimp only
      refine ok_b ((x_ce (e := e) (N := N) hN hk s1 t1 (fun x hx => (mem_tk hx).1) (fun x hx => (mem_tk hx).1) (tk_ne cA hA) (by omega) (by omega)).mono ?_)
      intro z S1 ⟨z1, z2⟩
      subst z2
      dsimp only
      refine ok_nb (by omega) ?_
      have zz := sg_ne z1
      by_cases c : z = 0
      · rw [if_pos (zz.1 c), c]
        have ih := l_ct (e := e) hN n (i + 1) nf (dk k A) (dk k B) (pA + (tk k A).length) (pB + (tk k B).length) (by omega) (by omega) s2 t2 (fun x hx => ma x (mem_dk hx)) (fun x hx => mb x (mem_dk hx)) (by omega) (by omega)
        rw [show pA + (tk k A).length + (dk k A).length = pA + A.length by omega, show pB + (tk k B).length + (dk k B).length = pB + B.length by omega, show ((i + 1 : Nat) : Int) = (i : Int) + 1 by omega] at ih
        exact ih
      · rw [if_neg (fun w => c (zz.2 w))]
        cases nf with
        | zero => omega
        | succ nf =>
          rw [El_Desk_compareTitles]
          by_cases d : 40 < (i : Int) + 1
          · exact ok_t d (ok_s ⟨z1, rfl⟩)
          · exact ok_e d (ok_t c (ok_s ⟨z1, rfl⟩))
    by_cases cA2 : 65 ≤ A.headD 0
    · have kA2 : kd (A.headD 0) = 2 := by
        rcases u0 with q | q | q
        · exact absurd q kA
        · have := u1.1 q
          omega
        · exact q
      refine ok_t cA2 (ok_ib (by omega) ?_)
      by_cases cB2 : 65 ≤ B.headD 0
      · have kB2 : kd (B.headD 0) = 2 := by
          rcases w0 with q | q | q
          · exact absurd q kB
          · have := w1.1 q
            omega
          · exact q
        rw [kA2, kB2, if_pos rfl]
        exact ok_t cB2 (go 2 (Or.inr rfl) kA2 kB2)
      · have kB1 : kd (B.headD 0) = 1 := by
          rcases w0 with q | q | q
          · exact absurd q kB
          · exact q
          · have := w2.1 q
            omega
        rw [kA2, kB1, if_neg (show ¬ ((2 : Int) = 1) by decide), if_pos (show (1 : Int) < 2 by decide)]
        exact ok_e cB2 (ok_s ⟨rfl, rfl⟩)
    · have kA1 : kd (A.headD 0) = 1 := by
        rcases u0 with q | q | q
        · exact absurd q kA
        · exact q
        · have := u2.1 q
          omega
      refine ok_e cA2 (ok_ib (by omega) ?_)
      by_cases cB2 : 65 ≤ B.headD 0
      · have kB2 : kd (B.headD 0) = 2 := by
          rcases w0 with q | q | q
          · exact absurd q kB
          · have := w1.1 q
            omega
          · exact q
        rw [kA1, kB2, if_neg (show ¬ ((1 : Int) = 2) by decide), if_neg (show ¬ ((2 : Int) < 1) by decide)]
        exact ok_t cB2 (ok_s ⟨rfl, rfl⟩)
      · have kB1 : kd (B.headD 0) = 1 := by
          rcases w0 with q | q | q
          · exact absurd q kB
          · exact q
          · have := w2.1 q
            omega
        rw [kA1, kB1, if_pos rfl]
        exact ok_e cB2 (go 1 (Or.inl rfl) kA1 kB1)
end
section
-- fi
/-- the reference: bytes of two elements -/
theorem l_tc2 {e : w_E} {N u w : Nat} {R : w_S} (hu : u < 150) (hw : w < 150) : ∀ (s t : List Int) (j k nf : Nat), byt (R.1 161) (40 * u + j) s → byt (R.1 161) (40 * w + k) t → (∀ b, b ∈ s → wby b = true) → (∀ b, b ∈ t → wby b = true) → j + s.length ≤ 40 → k + t.length ≤ 40 → s.length < nf → Ok (El_R_compareElements e N nf 2 [(u : Int), ((j + s.length : Nat) : Int), (w : Int), ((k + t.length : Nat) : Int), (j : Int), (k : Int)] [] R) (fun y S1 => sg y = cmpB s t ∧ S1 = R)
  | _, _, _, _, 0, _, _, _, _, _, _, h => by omega
  | [], t, j, k, nf + 1, g1, g2, g3, g4, g5, g6, g7 => by
    rw [El_R_compareElements, List.length_nil]
    refine ok_t (by omega) ?_
    cases t with
    | nil =>
      rw [cmpB, List.length_nil]
      exact ok_t (by omega) (ok_s ⟨rfl, rfl⟩)
    | cons y t =>
      rw [cmpB, List.length_cons]
      exact ok_e (by omega) (ok_s ⟨rfl, rfl⟩)
  | x :: s, [], j, k, nf + 1, g1, g2, g3, g4, g5, g6, g7 => by
    rw [El_R_compareElements, List.length_nil, List.length_cons, cmpB]
    exact ok_e (by omega) (ok_t (by omega) (ok_s ⟨rfl, rfl⟩))
  | x :: s, y :: t, j, k, nf + 1, g1, g2, g3, g4, g5, g6, g7 => by
    rw [List.length_cons] at g5 g6 g7
    have hx : R.1 161 (40 * u + j) = x := g1.1
    have hy : R.1 161 (40 * w + k) = y := g2.1
    have ih := l_tc2 (e := e) (N := N) (R := R) hu hw s t (j + 1) (k + 1) nf (by rw [show 40 * u + (j + 1) = 40 * u + j + 1 by omega]; exact g1.2) (by rw [show 40 * w + (k + 1) = 40 * w + k + 1 by omega]; exact g2.2) (fun b hb => g3 b (List.mem_cons_of_mem _ hb)) (fun b hb => g4 b (List.mem_cons_of_mem _ hb)) (by omega) (by omega) (by omega)
    have wx := wby_iff.1 (g3 x List.mem_cons_self)
    have wy := wby_iff.1 (g4 y List.mem_cons_self)
    rw [List.length_cons, List.length_cons, El_R_compareElements, show ((40 * (u : Int)) + (j : Int)).toNat = 40 * u + j by omega, show ((40 * (w : Int)) + (k : Int)).toNat = 40 * w + k by omega, hx, hy]
    refine ok_e (by omega) (ok_e (by omega) (ok_nb (by omega) (ok_nb (by omega) (ok_ib (by omega) ?_))))
    have go : ∀ X Y : Int, X = low x → Y = low y → Ok (if w_nb (X - Y) = true then (if X - Y = 0 then (if w_nb ((j : Int) + 1) = true then (if w_nb ((k : Int) + 1) = true then El_R_compareElements e N nf 2 [(u : Int), ((j + (s.length + 1) : Nat) : Int), (w : Int), ((k + (t.length + 1) : Nat) : Int), (j : Int) + 1, (k : Int) + 1] [] R else none) else none) else some (X - Y, R)) else none) (fun y1 S1 => sg y1 = cmpB (x :: s) (y :: t) ∧ S1 = R) := by
      intro X Y hX hY
      have lx : 0 ≤ low x ∧ low x ≤ 127 := by unfold low; split <;> omega
      have ly : 0 ≤ low y ∧ low y ≤ 127 := by unfold low; split <;> omega
      rw [cmpB, ← hX, ← hY]
      refine ok_nb (by omega) ?_
      by_cases c : X = Y
      · rw [if_pos c]
        refine ok_t (by omega) (ok_nb (by omega) (ok_nb (by omega) ?_))
        rw [show j + (s.length + 1) = j + 1 + s.length by omega, show k + (t.length + 1) = k + 1 + t.length by omega, show (j : Int) + 1 = ((j + 1 : Nat) : Int) by omega, show (k : Int) + 1 = ((k + 1 : Nat) : Int) by omega]
        exact ih
      · rw [if_neg c]
        exact ok_e (by omega) (ok_s ⟨rfl, rfl⟩)
    have L1 : ∀ z : Int, z < 65 ∨ 90 < z → low z = z := fun z hz => by unfold low; rw [if_neg (by omega)]
    have L2 : ∀ z : Int, ¬ z < 65 → ¬ 90 < z → low z = z + 32 := fun z h1 h2 => by unfold low; rw [if_pos (by omega)]
    have rest : ∀ X : Int, X = low x → Ok (if w_nb (40 * (w : Int)) = true then (if w_nb ((40 * (w : Int)) + (k : Int)) = true then (if w_ib ((40 * (w : Int)) + (k : Int)) 6000 = true then (if y < 65 then (if w_nb (X - y) = true then (if (X - y) = 0 then (if w_nb ((j : Int) + 1) = true then (if w_nb ((k : Int) + 1) = true then El_R_compareElements e N nf 2 [(u : Int), ((j + (s.length + 1) : Nat) : Int), (w : Int), ((k + (t.length + 1) : Nat) : Int), (j : Int) + 1, (k : Int) + 1] [] R else none) else none) else some (X - y, R)) else none) else (if 90 < y then (if w_nb (X - y) = true then (if (X - y) = 0 then (if w_nb ((j : Int) + 1) = true then (if w_nb ((k : Int) + 1) = true then El_R_compareElements e N nf 2 [(u : Int), ((j + (s.length + 1) : Nat) : Int), (w : Int), ((k + (t.length + 1) : Nat) : Int), (j : Int) + 1, (k : Int) + 1] [] R else none) else none) else some (X - y, R)) else none) else (if w_nb (y + 32) = true then (if w_nb (X - (y + 32)) = true then (if (X - (y + 32)) = 0 then (if w_nb ((j : Int) + 1) = true then (if w_nb ((k : Int) + 1) = true then El_R_compareElements e N nf 2 [(u : Int), ((j + (s.length + 1) : Nat) : Int), (w : Int), ((k + (t.length + 1) : Nat) : Int), (j : Int) + 1, (k : Int) + 1] [] R else none) else none) else some (X - (y + 32), R)) else none) else none))) else none) else none) else none) (fun y1 S1 => sg y1 = cmpB (x :: s) (y :: t) ∧ S1 = R) := by
      intro X hX
      refine ok_nb (by omega) (ok_nb (by omega) (ok_ib (by omega) ?_))
      by_cases c1 : y < 65
      · exact ok_t c1 (go X y hX (L1 y (Or.inl c1)).symm)
      refine ok_e c1 ?_
      by_cases c2 : 90 < y
      · exact ok_t c2 (go X y hX (L1 y (Or.inr c2)).symm)
      · exact ok_e c2 (ok_nb (by omega) (go X (y + 32) hX (L2 y c1 c2).symm))
    by_cases c1 : x < 65
    · exact ok_t c1 (rest x (L1 x (Or.inl c1)).symm)
    refine ok_e c1 ?_
    by_cases c2 : 90 < x
    · exact ok_t c2 (rest x (L1 x (Or.inr c2)).symm)
    · exact ok_e c2 (ok_nb (by omega) (rest (x + 32) (L2 x c1 c2).symm))
theorem l_tc1 {e : w_E} {N u w j : Nat} {R : w_S} {s : List Int} (hu : u < 150) (hw : w < 150) (h6 : byt (R.1 161) (40 * u + j) s) (hs : ∀ b, b ∈ s → wby b = true) (hj : j + s.length ≤ 40) : ∀ (t : List Int) (k nf : Nat), byt (R.1 161) (40 * w + k) t → (∀ b, b ∈ t → wby b = true) → k + t.length ≤ 40 → s.length + t.length + 1 < nf → Ok (El_R_compareElements e N nf 1 [1, (u : Int), ((j + s.length : Nat) : Int), (w : Int), ((k + t.length : Nat) : Int), (j : Int), (k : Int)] [] R) (fun y S1 => sg y = (if s.length = (zs t).length then cmpB s (zs t) else sg ((s.length : Int) - ((zs t).length : Int))) ∧ S1 = R)
  | _, _, 0, _, _, _, h => by omega
  | t, k, nf + 1, g1, g2, g3, g4 => by
    have fin : ∀ t' : List Int, t = t' → zs t = t' → Ok (if w_nb (((j + s.length : Nat) : Int) - (j : Int)) = true then (if w_nb (((k + t.length : Nat) : Int) - (k : Int)) = true then (if (((j + s.length : Nat) : Int) - (j : Int)) = (((k + t.length : Nat) : Int) - (k : Int)) then El_R_compareElements e N nf 2 [(u : Int), ((j + s.length : Nat) : Int), (w : Int), ((k + t.length : Nat) : Int), (j : Int), (k : Int)] [] R else (if (((k + t.length : Nat) : Int) - (k : Int)) ≤ (((j + s.length : Nat) : Int) - (j : Int)) then some (1, R) else some ((-1), R))) else none) else none) (fun y S1 => sg y = (if s.length = (zs t).length then cmpB s (zs t) else sg ((s.length : Int) - ((zs t).length : Int))) ∧ S1 = R) := by
      intro t' ht' hz
      rw [hz, ← ht']
      refine ok_nb (by omega) (ok_nb (by omega) ?_)
      by_cases c : s.length = t.length
      · rw [if_pos c]
        exact ok_t (by omega) (l_tc2 hu hw s t j k nf h6 g1 hs g2 hj g3 (by omega))
      · rw [if_neg c]
        refine ok_e (by omega) ?_
        by_cases d : t.length ≤ s.length
        · refine ok_t (by omega) (ok_s ⟨?_, rfl⟩)
          rw [(sg_0 ((s.length : Int) - (t.length : Int))).2.2.2 (by omega)]
          rfl
        · refine ok_e (by omega) (ok_s ⟨?_, rfl⟩)
          rw [(sg_0 ((s.length : Int) - (t.length : Int))).2.1.2 (by omega)]
          rfl
    rw [El_R_compareElements]
    refine ok_e (by decide) ?_
    cases t with
    | nil => exact ok_t (by rw [List.length_nil]; omega) (fin [] rfl rfl)
    | cons b t =>
      have hb : R.1 161 (40 * w + k) = b := g1.1
      have ll : (b :: t).length = t.length + 1 := List.length_cons
      rw [show ((40 * (w : Int)) + (k : Int)).toNat = 40 * w + k by omega, hb]
      refine ok_e (by omega) (ok_nb (by omega) (ok_nb (by omega) (ok_ib (by omega) ?_)))
      by_cases c : b = 48
      · subst c
        rw [zs_yes]
        refine ok_e (fun z => z rfl) (ok_nb (by omega) ?_)
        rw [ll, show k + (t.length + 1) = k + 1 + t.length by omega, show (k : Int) + 1 = ((k + 1 : Nat) : Int) by omega]
        exact l_tc1 hu hw h6 hs hj t (k + 1) nf (by rw [show 40 * w + (k + 1) = 40 * w + k + 1 by omega]; exact g1.2) (fun x hx => g2 x (List.mem_cons_of_mem _ hx)) (by omega) (by omega)
      · exact ok_t c (fin (b :: t) rfl (zs_no c))
theorem l_tc0 {e : w_E} {N u w k : Nat} {R : w_S} {t : List Int} (hu : u < 150) (hw : w < 150) (h7 : byt (R.1 161) (40 * w + k) t) (ht : ∀ b, b ∈ t → wby b = true) (hk : k + t.length ≤ 40) : ∀ (s : List Int) (j nf : Nat), byt (R.1 161) (40 * u + j) s → (∀ b, b ∈ s → wby b = true) → j + s.length ≤ 40 → s.length + t.length + 2 < nf → Ok (El_R_compareElements e N nf 0 [1, (u : Int), ((j + s.length : Nat) : Int), (w : Int), ((k + t.length : Nat) : Int), (j : Int), (k : Int)] [] R) (fun y S1 => sg y = cmpE 1 s t ∧ S1 = R)
  | _, _, 0, _, _, _, h => by omega
  | [], j, nf + 1, g1, g2, g3, g4 => by
    have key := l_tc1 (e := e) (N := N) (j := j) (R := R) (s := []) hu hw trivial (fun _ h => by cases h) g3 t k nf h7 ht hk (by rw [List.length_nil] at g4 ⊢; omega)
    rw [El_R_compareElements, cmpE, if_pos rfl, show zs [] = ([] : List Int) from rfl]
    rw [List.length_nil] at key ⊢
    exact ok_e (by decide) (ok_t (by omega) key)
  | b :: s, j, nf + 1, g1, g2, g3, g4 => by
    rw [List.length_cons] at g3 g4
    have hb : R.1 161 (40 * u + j) = b := g1.1
    rw [El_R_compareElements, show ((40 * (u : Int)) + (j : Int)).toNat = 40 * u + j by omega, hb, List.length_cons]
    refine ok_e (by decide) (ok_e (by omega) (ok_nb (by omega) (ok_nb (by omega) (ok_ib (by omega) ?_))))
    by_cases c : b = 48
    · subst c
      have ih := l_tc0 (e := e) (N := N) hu hw h7 ht hk s (j + 1) nf (by rw [show 40 * u + (j + 1) = 40 * u + j + 1 by omega]; exact g1.2) (fun x hx => g2 x (List.mem_cons_of_mem _ hx)) (by omega) (by omega)
      refine ok_e (fun z => z rfl) (ok_nb (by omega) ?_)
      rw [show j + (s.length + 1) = j + 1 + s.length by omega, show (j : Int) + 1 = ((j + 1 : Nat) : Int) by omega]
      unfold cmpE at ih ⊢
      rw [zs_yes]
      exact ih
    · have key := l_tc1 (e := e) (N := N) (j := j) (R := R) (s := b :: s) hu hw g1 g2 (by rw [List.length_cons]; omega) t k nf h7 ht hk (by rw [List.length_cons]; omega)
      rw [cmpE, if_pos rfl, zs_no c]
      rw [List.length_cons] at key ⊢
      exact ok_t c key
/-- the reference: two elements of one kind -/
theorem x_tce {e : w_E} {N u w j m : Nat} {R : w_S} {s t : List Int} {k : Int} (hN : 1000 ≤ N) (hu : u < 150) (hw : w < 150) (hk : k = 1 ∨ k = 2) (h6 : byt (R.1 161) (40 * u + j) s) (h7 : byt (R.1 161) (40 * w + m) t) (hs : ∀ b, b ∈ s → kd b = k) (ht : ∀ b, b ∈ t → kd b = k) (g6 : j + s.length ≤ 40) (g7 : m + t.length ≤ 40) : Ok (E_R_compareElements e N k (u : Int) (j : Int) ((j + s.length : Nat) : Int) (w : Int) (m : Int) ((m + t.length : Nat) : Int) R) (fun y S1 => sg y = cmpE k s t ∧ S1 = R) := by
  have ws : ∀ b, b ∈ s → wby b = true := fun b hb => wby_kd (by rw [hs b hb]; omega)
  have wt : ∀ b, b ∈ t → wby b = true := fun b hb => wby_kd (by rw [ht b hb]; omega)
  unfold E_R_compareElements
  rcases hk with rfl | rfl
  · exact l_tc0 hu hw h7 wt g7 s j N h6 ws g6 (by omega)
  · rw [cmpE, if_neg (by decide)]
    have key := fun nf h => l_tc2 (e := e) (N := N) (R := R) hu hw s t j m nf h6 h7 ws wt g6 g7 h
    obtain ⟨M, rfl⟩ : ∃ M, N = M + 1 + 1 := ⟨N - 2, by omega⟩
    rw [El_R_compareElements]
    refine ok_t (by decide) ?_
    rw [El_R_compareElements]
    exact ok_t (by decide) (key M (by omega))
end
section
-- fj
/-- the reference: an element's end -/
theorem l_el1 {e : w_E} {N u : Nat} {k : Int} (hu : u < 150) (hk : k = 1 ∨ k = 2) : ∀ (l : List Int) (j nf : Nat) (R : w_S), R.1 129 57 = k → byt (R.1 161) (40 * u + j) l → (∀ b, b ∈ l → 0 ≤ b ∧ b ≤ 127) → j + l.length ≤ 40 → l.length < nf → El_R_element e N nf 1 [(u : Int), (j : Int), ((j + l.length : Nat) : Int)] [] R = some (0, w_put R 129 56 ((j + (tk k l).length : Nat) : Int))
  | _, _, 0, _, _, _, _, _, h => by omega
  | [], j, nf + 1, R, g0, g1, g2, g3, g4 => by
    refine ok_eq ?_
    rw [El_R_element]
    exact ok_t (by rw [List.length_nil]; omega) (ok_s ⟨rfl, rfl⟩)
  | b :: l, j, nf + 1, R, g0, g1, g2, g3, g4 => by
    rw [List.length_cons] at g3 g4 ⊢
    have hb : R.1 161 (40 * u + j) = b := g1.1
    have rb := g2 b List.mem_cons_self
    have ih := l_el1 (e := e) (N := N) hu hk l (j + 1) nf R g0 (by rw [show 40 * u + (j + 1) = 40 * u + j + 1 by omega]; exact g1.2) (fun x hx => g2 x (List.mem_cons_of_mem _ hx)) (by omega) (by omega)
    rw [show j + 1 + l.length = j + (l.length + 1) by omega, show ((j + 1 : Nat) : Int) = (j : Int) + 1 by omega] at ih
    obtain ⟨q2, q1, q0⟩ := @kd2 b
    have nx : kd b = k → Ok (if w_nb ((j : Int) + 1) = true then El_R_element e N nf 1 [(u : Int), (j : Int) + 1, ((j + (l.length + 1) : Nat) : Int)] [] R else none) (fun y S1 => y = 0 ∧ S1 = w_put R 129 56 ((j + (tk k (b :: l)).length : Nat) : Int)) := fun z => by
      rw [tk_yes z, List.length_cons]
      refine ok_nb (by omega) (ok_of ih ⟨rfl, ?_⟩)
      rw [show j + 1 + (tk k l).length = j + ((tk k l).length + 1) by omega]
    have no : kd b ≠ k → (0 : Int) = 0 ∧ w_put R 129 56 (j : Int) = w_put R 129 56 ((j + (tk k (b :: l)).length : Nat) : Int) := fun z => by
      rw [tk_no z]
      exact ⟨rfl, rfl⟩
    refine ok_eq ?_
    rw [El_R_element, g0, show ((40 * (u : Int)) + (j : Int)).toNat = 40 * u + j by omega, hb]
    refine ok_e (by omega) ?_
    rcases hk with rfl | rfl
    · refine ok_e (by decide) (ok_nb (by omega) (ok_nb (by omega) (ok_ib (by omega) ?_)))
      by_cases c1 : b < 48
      · exact ok_t c1 (ok_s (no (fun z => by have := q1.1 z; omega)))
      refine ok_e c1 ?_
      by_cases c2 : 57 < b
      · exact ok_t c2 (ok_s (no (fun z => by have := q1.1 z; omega)))
      · exact ok_e c2 (nx (q1.2 (by omega)))
    · refine ok_t (by decide) (ok_nb (by omega) (ok_nb (by omega) (ok_ib (by omega) (ok_b (ok_of (x_isLet rb) ?_)))))
      dsimp only
      unfold kd at nx no
      cases hl : ltr b with
      | true =>
        rw [if_pos hl] at nx
        exact ok_e (by decide) (nx rfl)
      | false =>
        rw [if_neg (by rw [hl]; decide)] at no
        exact ok_t rfl (ok_s (no (by split <;> decide)))
/-- what the reference keeps of an element -/
def El (R : w_S) (j : Nat) (l : List Int) (R1 : w_S) : Prop := frm [] [129] [(129, 55), (129, 56), (129, 57)] R R1 ∧ R1.1 129 55 = ((j + (tk 0 l).length : Nat) : Int) ∧ R1.1 129 57 = kd ((dk 0 l).headD 0) ∧ R1.1 129 56 = ((j + (tk 0 l).length + (tk (kd ((dk 0 l).headD 0)) (dk 0 l)).length : Nat) : Int)
theorem l_el0 {e : w_E} {N u : Nat} {R : w_S} (hu : u < 150) : ∀ (l : List Int) (j nf : Nat), byt (R.1 161) (40 * u + j) l → (∀ b, b ∈ l → 0 ≤ b ∧ b ≤ 127) → j + l.length ≤ 40 → l.length + 1 < nf → Ok (El_R_element e N nf 0 [(u : Int), (j : Int), ((j + l.length : Nat) : Int)] [] R) (fun _ R1 => El R j l R1)
  | _, _, 0, _, _, _, h => by omega
  | [], j, nf + 1, g1, g2, g3, g4 => by
    rw [El_R_element]
    refine ok_t (by rw [List.length_nil]; omega) ?_
    cases nf with
    | zero => omega
    | succ nf =>
      rw [El_R_element]
      refine ok_t (by rw [List.length_nil]; omega) (ok_s ⟨by repeat (first | exact frm.refl _ _ _ _ | refine frm.put ?_ rfl | refine frm.puto ?_ rfl rfl), ?_, ?_, ?_⟩) <;> (simp only [w_put_r, reduceIte, Nat.reduceEqDiff, pt_at]; rfl)
  | b :: l, j, nf + 1, g1, g2, g3, g4 => by
    have g1' := g1
    have g2' := g2
    rw [List.length_cons] at g3 g4
    have hb : R.1 161 (40 * u + j) = b := g1.1
    have rb := g2 b List.mem_cons_self
    obtain ⟨q2, q1, q0⟩ := @kd2 b
    have fin : ∀ k : Int, kd b = k → (k = 1 ∨ k = 2) → Ok (El_R_element e N nf 1 [(u : Int), (j : Int), ((j + (b :: l).length : Nat) : Int)] [] (w_put (w_put R 129 55 (j : Int)) 129 57 k)) (fun _ R1 => El R j (b :: l) R1) := by
      intro k hk hk2
      have e0 : (w_put (w_put R 129 55 (j : Int)) 129 57 k).1 161 = R.1 161 := rfl
      have key := l_el1 (e := e) (N := N) (k := k) hu hk2 (b :: l) j nf (w_put (w_put R 129 55 (j : Int)) 129 57 k) (by simp only [w_put_r, reduceIte, Nat.reduceEqDiff, pt_at]) (by rw [e0]; exact g1') g2' (by rw [List.length_cons]; omega) (by rw [List.length_cons]; omega)
      refine ok_of key ?_
      have nk : kd b ≠ 0 := by omega
      unfold El
      rw [tk_no nk, dk_no nk, List.headD_cons, hk, List.length_nil]
      refine ⟨by repeat (first | exact frm.refl _ _ _ _ | refine frm.put ?_ rfl | refine frm.puto ?_ rfl rfl), ?_, ?_, ?_⟩
      · simp only [w_put_r, reduceIte, Nat.reduceEqDiff, pt_at]
        rfl
      · simp only [w_put_r, reduceIte, Nat.reduceEqDiff, pt_at]
      · simp only [w_put_r, reduceIte, Nat.reduceEqDiff, pt_at]
        rfl
    have nx : kd b = 0 → Ok (if w_nb ((j : Int) + 1) = true then El_R_element e N nf 0 [(u : Int), (j : Int) + 1, ((j + (b :: l).length : Nat) : Int)] [] R else none) (fun _ R1 => El R j (b :: l) R1) := fun z => by
      have ih := l_el0 (e := e) (N := N) (R := R) hu l (j + 1) nf (by rw [show 40 * u + (j + 1) = 40 * u + j + 1 by omega]; exact g1.2) (fun x hx => g2 x (List.mem_cons_of_mem _ hx)) (by omega) (by omega)
      rw [show j + 1 + l.length = j + (b :: l).length by rw [List.length_cons]; omega, show ((j + 1 : Nat) : Int) = (j : Int) + 1 by omega] at ih
      refine ok_nb (by omega) (ih.mono ?_)
      intro _ R1 h
      unfold El at h ⊢
      rw [tk_yes z, dk_yes z, List.length_cons, show j + ((tk 0 l).length + 1) = j + 1 + (tk 0 l).length by omega]
      exact h
    rw [El_R_element, show ((40 * (u : Int)) + (j : Int)).toNat = 40 * u + j by omega, hb]
    refine ok_e (by rw [List.length_cons]; omega) (ok_nb (by omega) (ok_nb (by omega) (ok_ib (by omega) (ok_b (ok_of (x_isLet rb) ?_)))))
    dsimp only
    rw [hb]
    cases hl : ltr b with
    | true =>
      have k2 : kd b = 2 := by
        unfold kd
        rw [if_pos hl]
      have := q2.1 k2
      refine ok_t (by decide) ?_
      by_cases c1 : b < 48
      · exact ok_t c1 (fin 2 k2 (Or.inr rfl))
      · exact ok_e c1 (ok_t (by omega) (fin 2 k2 (Or.inr rfl)))
    | false =>
      have k2 : kd b ≠ 2 := by
        unfold kd
        rw [if_neg (by rw [hl]; decide)]
        split <;> decide
      refine ok_e (by decide) ?_
      by_cases c1 : b < 48
      · exact ok_t c1 (nx (by omega))
      refine ok_e c1 ?_
      by_cases c2 : 57 < b
      · exact ok_t c2 (nx (by omega))
      · refine ok_e c2 (ok_e c1 (ok_e c2 (fin 1 (q1.2 (by omega)) (Or.inl rfl))))
theorem byt_drop {g : Nat → Int} {p j : Nat} {a : List Int} (h : byt g p a) (hj : j ≤ a.length) : byt g (p + j) (a.drop j) := by
  have e1 : a.take j ++ a.drop j = a := List.take_append_drop j a
  have l1 : (a.take j).length = j := by
    rw [List.length_take]
    omega
  rw [← e1] at h
  have := ((byt_app _ _ _).1 h).2
  rw [l1] at this
  exact this
/-- a title among those found, in the reference -/
def Ttl (R : w_S) (u : Nat) (a : List Int) : Prop := R.1 162 u = (a.length : Nat) ∧ byt (R.1 161) (40 * u) a ∧ a.length ≤ 40 ∧ ∀ b, b ∈ a → 0 ≤ b ∧ b ≤ 127
theorem x_el {e : w_E} {N u j : Nat} {R : w_S} {a : List Int} (hN : 1000 ≤ N) (hu : u < 150) (h : Ttl R u a) (hj : j ≤ a.length) : Ok (E_R_element e N (u : Int) (j : Int) R) (fun _ R1 => El R j (a.drop j) R1) := by
  obtain ⟨h1, h2, h3, h4⟩ := h
  unfold E_R_element
  rw [show ((u : Int)).toNat = u by omega, h1]
  have l1 : (a.drop j).length = a.length - j := List.length_drop
  have key := l_el0 (e := e) (N := N) (R := R) hu (a.drop j) j N (byt_drop h2 hj) (fun b hb => h4 b (List.mem_of_mem_drop hb)) (by omega) (by omega)
  rw [show j + (a.drop j).length = a.length by omega] at key
  exact ok_ib (by omega) key
theorem dk_drop (k : Int) (l : List Int) : dk k l = l.drop (tk k l).length := by
  have h : (tk k l ++ dk k l).drop (tk k l).length = dk k l := List.drop_left ..
  rw [tk_dk] at h
  exact h.symm
theorem Ttl.cg {R R1 : w_S} {u : Nat} {a : List Int} (h : Ttl R u a) (h1 : R1.1 161 = R.1 161) (h2 : R1.1 162 = R.1 162) : Ttl R1 u a := by
  unfold Ttl at h ⊢
  rw [h1, h2]
  exact h
/-- the reference: two titles -/
theorem l_rt {e : w_E} {N u w : Nat} {a b : List Int} (hN : 1000 ≤ N) (hu : u < 150) (hw : w < 150) : ∀ (n i nf j k : Nat) (R : w_S), i + n = 41 → n < nf → Ttl R u a → Ttl R w b → j ≤ a.length → k ≤ b.length → Ok (El_R_compareTitles e N nf 0 [(u : Int), (w : Int), (j : Int), (k : Int), (i : Int)] [] R) (fun y R1 => sg y = cmpT n (a.drop j) (b.drop k) ∧ frm [] [129] [(129, 55), (129, 56), (129, 57)] R R1)
  | _, _, 0, _, _, _, _, h, _, _, _, _ => by omega
  | 0, i, nf + 1, j, k, R, g1, g2, ta, tb, ha, hb => by
    rw [El_R_compareTitles, cmpT]
    exact ok_t (by omega) (ok_s ⟨rfl, frm.refl _ _ _ _⟩)
  | n + 1, i, nf + 1, j, k, R, g1, g2, ta, tb, ha, hb => by
    rw [El_R_compareTitles, cmpT]
    refine ok_e (by omega) (ok_b ((x_el (e := e) (N := N) hN hu ta ha).mono ?_))
    intro _ R1 ⟨f1, e55, e57, e56⟩
    dsimp only
    have tb1 : Ttl R1 w b := tb.cg (f1.2.1 161 rfl rfl) (f1.2.1 162 rfl rfl)
    refine ok_b ((x_el (e := e) (N := N) hN hw tb1 hb).mono ?_)
    intro _ R2 ⟨f2, d55, d57, d56⟩
    dsimp only
    have f12 := f1.trans f2
    have la : (a.drop j).length = a.length - j := List.length_drop
    have lb : (b.drop k).length = b.length - k := List.length_drop
    have ta2 : Ttl R2 u a := ta.cg (f12.2.1 161 rfl rfl) (f12.2.1 162 rfl rfl)
    have tb2 : Ttl R2 w b := tb.cg (f12.2.1 161 rfl rfl) (f12.2.1 162 rfl rfl)
    have dA := dk_drop 0 (a.drop j)
    have dB := dk_drop 0 (b.drop k)
    rw [List.drop_drop] at dA dB
    obtain ⟨_, A2, A3⟩ := byt_tk (k := 0) (byt_drop ta2.2.1 ha)
    obtain ⟨_, B2, B3⟩ := byt_tk (k := 0) (byt_drop tb2.2.1 hb)
    have kA0 := dk_hd (k := 0) (a.drop j)
    have kB0 := dk_hd (k := 0) (b.drop k)
    rw [e55, e56, e57, d55, d56, d57]
    have nA : dk 0 (a.drop j) = [] → kd ((dk 0 (a.drop j)).headD 0) = 0 := fun z => by rw [z]; rfl
    have nB : dk 0 (b.drop k) = [] → kd ((dk 0 (b.drop k)).headD 0) = 0 := fun z => by rw [z]; rfl
    generalize hA : dk 0 (a.drop j) = A at *
    generalize hB : dk 0 (b.drop k) = B at *
    obtain ⟨_, _, u0⟩ := @kd2 (A.headD 0)
    obtain ⟨_, _, w0⟩ := @kd2 (B.headD 0)
    by_cases c : kd (A.headD 0) = kd (B.headD 0)
    · refine ok_t c ?_
      by_cases c0 : kd (A.headD 0) = 0
      · have zA : A = [] := Classical.byContradiction (fun z => kA0 z c0)
        have zB : B = [] := Classical.byContradiction (fun z => kB0 z (by omega))
        rw [if_pos zA, if_pos zB]
        exact ok_e (fun z => z c0) (ok_s ⟨rfl, f12⟩)
      · have zA : ¬ A = [] := fun z => c0 (nA z)
        have zB : ¬ B = [] := fun z => c0 (by rw [c]; exact nB z)
        rw [if_neg zA, if_neg zB, if_pos c]
        refine ok_t c0 ?_
        generalize hk : kd (A.headD 0) = kk at *
        obtain ⟨s1, _, s3⟩ := byt_tk (k := kk) A2
        obtain ⟨t1, _, t3⟩ := byt_tk (k := kk) B2
        rw [← c]
        have ce := x_tce (e := e) (N := N) (R := R2) (j := j + (tk 0 (a.drop j)).length) (m := k + (tk 0 (b.drop k)).length) (s := tk kk A) (t := tk kk B) (k := kk) hN hu hw (by omega) (by rw [← Nat.add_assoc]; exact s1) (by rw [← Nat.add_assoc]; exact t1) (fun x hx => (mem_tk hx).1) (fun x hx => (mem_tk hx).1) (by have := ta.2.2.1; omega) (by have := tb.2.2.1; omega)
        refine ok_b (ce.mono ?_)
        intro z R3 ⟨z1, z2⟩
        subst z2
        dsimp only
        have zz := sg_ne z1
        by_cases cz : z = 0
        · rw [if_pos (zz.1 cz)]
          refine ok_t cz (ok_nb (by omega) ?_)
          have ih := l_rt (e := e) (a := a) (b := b) hN hu hw n (i + 1) nf (j + (tk 0 (a.drop j)).length + (tk kk A).length) (k + (tk 0 (b.drop k)).length + (tk kk B).length) R3 (by omega) (by omega) ta2 tb2 (by omega) (by omega)
          have eA : a.drop (j + (tk 0 (a.drop j)).length + (tk kk A).length) = dk kk A := by
            rw [dk_drop kk A]
            conv => rhs; rw [dA, List.drop_drop]
            rw [← dA]
          have eB : b.drop (k + (tk 0 (b.drop k)).length + (tk kk B).length) = dk kk B := by
            rw [dk_drop kk B]
            conv => rhs; rw [dB, List.drop_drop]
            rw [← dB]
          rw [eA, eB, show ((i + 1 : Nat) : Int) = (i : Int) + 1 by omega] at ih
          exact ih.mono (fun y R4 ⟨y1, y2⟩ => ⟨y1, f12.trans y2⟩)
        · rw [if_neg (fun q => cz (zz.2 q))]
          exact ok_e cz (ok_s ⟨z1, f12⟩)
    · refine ok_e c ?_
      by_cases zA : A = []
      · have := nA zA
        have zB : ¬ B = [] := fun z => c (by rw [this, nB z])
        have := kB0 zB
        rw [if_pos zA, if_neg zB]
        exact ok_e (by omega) (ok_s ⟨rfl, f12⟩)
      · have := kA0 zA
        rw [if_neg zA]
        by_cases zB : B = []
        · have := nB zB
          rw [if_pos zB]
          exact ok_t (by omega) (ok_s ⟨rfl, f12⟩)
        · rw [if_neg zB, if_neg c]
          by_cases d : kd (B.headD 0) < kd (A.headD 0)
          · rw [if_pos d]
            exact ok_t (by omega) (ok_s ⟨rfl, f12⟩)
          · rw [if_neg d]
            exact ok_e (by omega) (ok_s ⟨rfl, f12⟩)
theorem x_rt {e : w_E} {N u w : Nat} {R : w_S} {a b : List Int} (hN : 1000 ≤ N) (hu : u < 150) (hw : w < 150) (ta : Ttl R u a) (tb : Ttl R w b) : Ok (E_R_compareTitles e N (u : Int) (w : Int) R) (fun y R1 => sg y = cmpT 41 a b ∧ frm [] [129] [(129, 55), (129, 56), (129, 57)] R R1) := l_rt hN hu hw 41 0 N 0 0 R (by omega) (by omega) ta tb (by omega) (by omega)
end
section
-- fk
/-- signs of a title that don't file -/
def nfc (f : Fdl) : Nat := if 48 ≤ f.2.2.1 ∧ f.2.2.1 ≤ 57 then (f.2.2.1 - 48).toNat else 0
/-- a record's title for filing -/
def ttl : List Fdl → Option (List Int)
  | [] => none
  | f :: D => if f.1 = 245 ∧ far f ≠ none then (far f).map (fun s => s.drop (nfc f)) else ttl D
/-- a title is read into a place -/
def Trs (R : w_S) (u : Nat) (o : Option (List Int)) (R1 : w_S) : Prop := frm [161, 162] [] [] R R1 ∧ (∀ c, c ≠ u → R1.1 162 c = R.1 162 c) ∧ (∀ j, j < 40 * u ∨ 40 * u + 40 ≤ j → R1.1 161 j = R.1 161 j) ∧ (o = none → R1.1 162 u = -1) ∧ ∀ a, o = some a → Ttl R1 u a
theorem l_rd1 {e : w_E} {N u p x5 : Nat} {f : Fdl} {P : Int → w_S → Prop} (hN : 5000 ≤ N) (hu : u < 150) : ∀ (r dn : List Int) (nf : Nat) (R : w_S), Fat R 150 4000 p f → R.1 162 u = ((dn.length + r.length : Nat) : Int) → byt (R.1 150) (x5 + dn.length) r → byt (R.1 161) (40 * u) dn → dn.length + r.length ≤ 40 → x5 + dn.length + r.length ≤ 4000 → (∀ b, b ∈ dn ++ r → 0 ≤ b ∧ b ≤ 127) → r.length < nf → (∀ n' R', nf ≤ n' + r.length + 1 → frm [161] [] [] R R' → (∀ j, j < 40 * u ∨ 40 * u + 40 ≤ j → R'.1 161 j = R.1 161 j) → Ttl R' u (dn ++ r) → Ok (El_R_readTitle e N n' 0 [(u : Int), ((p + (ser f).length : Nat) : Int)] [] R') P) → Ok (El_R_readTitle e N nf 1 [(u : Int), (p : Int), (x5 : Int), (dn.length : Int)] [] R) P
  | _, _, 0, _, _, _, _, _, _, _, _, h, _ => by omega
  | [], dn, nf + 1, R, fa, g1, g2, g3, g4, g5, g6, g7, K => by
    have sl := ser_len f
    have h4 := fa.2.2.2.1
    rw [List.length_nil] at g1 g4 g5 K
    rw [El_R_readTitle, show ((u : Int)).toNat = u by omega, g1]
    refine ok_ib (by omega) (ok_t (by omega) (ok_b (ok_of (x_fieldEnd (by omega) fa) (ok_nb (by omega) ?_))))
    dsimp only
    rw [show ((p + (fbd f).length + 4 : Nat) : Int) + 1 = ((p + (ser f).length : Nat) : Int) by omega]
    rw [List.append_nil] at g6 K
    exact K nf R (by omega) (frm.refl _ _ _ _) (fun _ _ => rfl) ⟨g1, g3, g4, g6⟩
  | b :: r, dn, nf + 1, R, fa, g1, g2, g3, g4, g5, g6, g7, K => by
    rw [List.length_cons] at g1 g4 g5 g7 K
    have hb : R.1 150 (x5 + dn.length) = b := g2.1
    have rb := g6 b (List.mem_append_right _ List.mem_cons_self)
    rw [El_R_readTitle, show ((u : Int)).toNat = u by omega, g1, show (((x5 : Nat) : Int) + ((dn.length : Nat) : Int)).toNat = x5 + dn.length by omega, hb, w_b_id (by omega) (by omega), show (40 * ((u : Nat) : Int) + ((dn.length : Nat) : Int)).toNat = 40 * u + dn.length by omega]
    refine ok_ib (by omega) (ok_e (by omega) (ok_nb (by omega) (ok_nb (by omega) (ok_nb (by omega) (ok_ib (by omega) (ok_ib (by omega) (ok_nb (by omega) ?_)))))))
    generalize hR : w_put R 161 (40 * u + dn.length) b = R1
    have f1 : frm [161] [] [] R R1 := by
      rw [← hR]
      repeat (first | exact frm.refl _ _ _ _ | refine frm.put ?_ rfl | refine frm.puto ?_ rfl rfl)
    have a1 : ∀ j, R1.1 161 j = if j = 40 * u + dn.length then b else R.1 161 j := fun j => by
      rw [← hR]
      show pt (R.1 161) _ b j = _
      rw [pt_at]
    have l1 : (dn ++ [b]).length = dn.length + 1 := by rw [List.length_append, List.length_singleton]
    have fa1 : Fat R1 150 4000 p f := by
      unfold Fat at fa ⊢
      rw [f1.2.1 150 rfl rfl]
      exact ⟨rfl, fa.2⟩
    have key := l_rd1 (e := e) (x5 := x5) (P := P) hN hu r (dn ++ [b]) nf R1 fa1 (by rw [l1, f1.2.1 162 rfl rfl, g1]; omega) (by rw [l1, f1.2.1 150 rfl rfl]; exact g2.2) (by
      rw [byt_app]
      refine ⟨byt_congr g3 (fun k hk => by rw [a1, if_neg (by omega)]), ?_, trivial⟩
      rw [a1, if_pos rfl]) (by omega) (by omega) (by rw [List.append_assoc]; exact g6) (by omega) (fun n' R' hn' k1 k2 k3 => by
      rw [List.append_assoc] at k3
      refine K n' R' (by omega) (f1.trans k1) (fun j hj => ?_) k3
      rw [k2 j hj, a1, if_neg (by omega)])
    rw [l1, show ((dn.length + 1 : Nat) : Int) = (dn.length : Int) + 1 by omega] at key
    exact key
end
