section
-- d8
theorem fsb_fsi (c : Int) : ∀ l : List Sfl, (fsb c l).isNone = (fsi c l).isNone
  | [] => rfl
  | s :: ss => by
    rw [fsb, fsi]
    by_cases d : s.1 = c
    · rw [if_pos d, if_pos d]
    · rw [if_neg d, if_neg d]
      have := fsb_fsi c ss
      cases h1 : fsb c ss <;> cases h2 : fsi c ss <;> rw [h1, h2] at this <;> first | rfl | cases this
theorem l_breaks {e : w_E} {N a1 m r : Nat} {S : w_S} {size k v : Int} (hN : 2001 ≤ N) (hN2 : m < N) (hl : e_len Tr S a1 1 = some m) (hm : m < 2000000000) (hr : r < 10) (hk : 0 ≤ k ∧ k ≤ 3) (hv : 2 ≤ k → v = S.1 191 (3 * r + 2)) (hv1 : k = 2 → 1 ≤ v) : ∀ (l : List Fdl) (p nf : Nat) (n b : Int), (∀ f, f ∈ l → vfd f) → byt (S.1 a1) p (doc l) → ((p + (doc l).length : Nat) : Int) = size → size ≤ m → l.length < nf → 0 ≤ n → n + l.length ≤ 1000 → (b = 0 ∨ b = 1) → (k < 2 → b = 0) → El_R_breaks e N nf 0 [size, (r : Int), k, n, b, (p : Int)] [a1] S = some (brs k (n + ctg (S.1 191 (3 * r)) l) (decide (b = 1) || abr (S.1 191 (3 * r)) k v l), S)
  | _, _, 0, _, _, _, _, _, _, h, _, _, _, _ => by omega
  | [], p, nf + 1, n, b, g1, g2, g3, g4, g5, g6, g7, g8, g9 => by
    have g3' : ((p + 0 : Nat) : Int) = size := g3
    refine ok_eq ?_
    rw [El_R_breaks, ctg, abr, Bool.or_false]
    refine ok_t (by omega) ?_
    unfold brs
    by_cases k0 : k = 0
    · have b0 := g9 (by omega)
      refine ok_e (by omega) ?_
      by_cases n0 : n = 0
      · exact ok_e (by omega) (ok_s ⟨by rw [if_pos (Or.inr (Or.inl ⟨k0, by omega⟩))], rfl⟩)
      · refine ok_t n0 (ok_s ⟨?_, rfl⟩)
        rw [if_neg]
        intro z
        rw [decide_eq_true_eq] at z
        omega
    · refine ok_t k0 ?_
      by_cases k1 : k = 1
      · have b0 := g9 (by omega)
        refine ok_e (by omega) ?_
        by_cases n1 : n ≤ 1
        · refine ok_t n1 (ok_s ⟨?_, rfl⟩)
          rw [if_neg]
          intro z
          rw [decide_eq_true_eq] at z
          omega
        · exact ok_e n1 (ok_s ⟨by rw [if_pos (Or.inr (Or.inr ⟨k1, by omega⟩))], rfl⟩)
      · refine ok_t k1 (ok_t g8 (ok_s ⟨?_, rfl⟩))
        rcases g8 with g8 | g8
        · rw [if_neg]
          · exact g8
          · intro z
            rw [decide_eq_true_eq] at z
            omega
        · rw [if_pos (Or.inl (decide_eq_true g8))]
          exact g8
  | f :: l, p, nf + 1, n, b, g1, g2, g3, g4, g5, g6, g7, g8, g9 => by
    rw [List.length_cons] at g5 g7
    have dc : doc (f :: l) = ser f ++ doc l := by
      unfold doc
      rw [List.flatMap_cons]
    rw [dc] at g2 g3
    rw [List.length_append] at g3
    rw [byt_app] at g2
    have sl := ser_len f
    have vf := g1 f (List.mem_cons_self ..)
    have fa : Fat S a1 m p f := ⟨hl, hm, g2.1, by omega, vf⟩
    obtain ⟨b0, b1, b2, _⟩ := fa.tag
    have t1 := vf.1
    have t2 := vf.2.1
    have fe := x_fieldEnd (e := e) (N := N) hN2 fa
    have xc := x_firstCode (e := e) (N := N) (c0 := v) hN hN2 fa
    have xl := x_longest (e := e) (N := N) hN hN2 fa
    have ih := fun (n' b' : Int) (hn : 0 ≤ n' ∧ n' ≤ n + 1) (hb : b' = 0 ∨ b' = 1) (hb2 : k < 2 → b' = 0) => l_breaks (e := e) (N := N) (r := r) (S := S) (size := size) (k := k) (v := v) hN hN2 hl hm hr hk hv hv1 l (p + (ser f).length) nf n' b' (fun x hx => g1 x (List.mem_cons_of_mem _ hx)) g2.2 (by omega) g4 (by omega) hn.1 (by omega) hb hb2
    rw [show p + (ser f).length = p + (fbd f).length + 4 + 1 by omega, show ((p + (fbd f).length + 4 + 1 : Nat) : Int) = ((p + (fbd f).length + 4 : Nat) : Int) + 1 by omega] at ih
    refine ok_eq ?_
    rw [El_R_breaks]
    refine ok_e (by omega) ?_
    rw [show ((p : Int)).toNat = p by omega, show ((p : Int) + 1).toNat = p + 1 by omega, show ((p : Int) + 2).toNat = p + 2 by omega, b0, b1, b2]
    refine ok_len hl ?_
    with_reducible refine ok_t (by omega) ?_
    with_reducible refine ok_t (by omega) (ok_nb (by omega) (ok_nb (by omega) (ok_nb (by omega) ?_)))
    refine ok_len hl ?_
    with_reducible refine ok_t (by omega) ?_
    with_reducible refine ok_t (by omega) (ok_nb (by omega) (ok_nb (by omega) (ok_nb (by omega) (ok_nb (by omega) ?_))))
    refine ok_len hl ?_
    with_reducible refine ok_t (by omega) ?_
    with_reducible refine ok_t (by omega) (ok_nb (by omega) (ok_nb (by omega) (ok_nb (by omega) (ok_ib (by omega) ?_))))
    rw [show 100 * (48 + f.1 / 100 - 48) + 10 * (48 + f.1 / 10 % 10 - 48) + (48 + f.1 % 10) - 48 = f.1 by omega, show (3 * (r : Int)).toNat = 3 * r by omega]
    by_cases c : f.1 = S.1 191 (3 * r)
    · have go : ∀ b' : Int, (b' = 0 ∨ b' = 1) → (k < 2 → b' = 0) → decide (b' = 1) = (decide (b = 1) || brF k v f) → Ok ((E_R_fieldEnd e N (p : Int) a1 S).bind (fun q => (if w_nb (q.1 + 1) = true then El_R_breaks e N nf 0 [size, (r : Int), k, n + 1, b', q.1 + 1] [a1] q.2 else none))) (fun y S1 => y = brs k (n + ctg (S.1 191 (3 * r)) (f :: l)) (decide (b = 1) || abr (S.1 191 (3 * r)) k v (f :: l)) ∧ S1 = S) := fun b' hb hb2 he => by
        refine ok_b (ok_of fe ?_)
        dsimp only
        refine ok_nb (by omega) (ok_of (ih (n + 1) b' (by omega) hb hb2) ⟨?_, rfl⟩)
        rw [ctg, abr, if_pos c, decide_eq_true c, Bool.true_and, he, Bool.or_assoc, Int.add_assoc]
      refine ok_t c (ok_b (ok_of fe ?_))
      dsimp only
      refine ok_nb (by omega) ?_
      by_cases bb : b = 1
      · exact ok_t (by omega) (go 1 (Or.inr rfl) (fun z => by have := g9 z; omega) (by rw [decide_eq_true bb]; rfl))
      · have bd1 : decide (b = 1) = false := decide_eq_false bb
        refine ok_e (by omega) ?_
        by_cases k2 : k = 2
        · have bf : brF k v f = (fsi v f.2.2.2).isNone := by
            unfold brF
            rw [decide_eq_true k2, decide_eq_false (by omega : ¬ k = 3), Bool.true_and, Bool.false_and, Bool.or_false]
          refine ok_e (by omega) (ok_nb (by omega) (ok_ib (by omega) ?_))
          rw [show (3 * (r : Int) + 2).toNat = 3 * r + 2 by omega, ← hv (by omega)]
          have none_case : (if f.1 < 10 then none else fsb v f.2.2.2) = none → (fsi v f.2.2.2).isNone = true := fun z => by
            by_cases q : f.1 < 10
            · obtain ⟨rr, hrr⟩ := (vf.2.2.2.1 q).2.2
              have := hv1 k2
              rw [hrr, fsi, if_neg (by show ¬ (0 : Int) = v; omega), fsi]
              rfl
            · rw [if_neg q] at z
              rw [← fsb_fsi, z]
              rfl
          have some_case : ∀ j, (if f.1 < 10 then none else fsb v f.2.2.2) = some j → (fsi v f.2.2.2).isNone = false := fun j z => by
            by_cases q : f.1 < 10
            · rw [if_pos q] at z
              cases z
            · rw [if_neg q] at z
              rw [← fsb_fsi, z]
              rfl
          refine ok_b (ok_of xc ?_)
          dsimp only
          cases hf : (if f.1 < 10 then none else fsb v f.2.2.2) with
          | none => exact ok_t rfl (go 1 (Or.inr rfl) (fun z => by omega) (by rw [bd1, Bool.false_or, bf, none_case hf]; rfl))
          | some j => exact ok_e (by show ¬ ((p + 6 + j : Nat) : Int) = -1; omega) (ok_t (by omega) (go 0 (Or.inl rfl) (fun _ => rfl) (by rw [bd1, Bool.false_or, bf, some_case j hf]; rfl)))
        · refine ok_t k2 ?_
          by_cases k3 : k = 3
          · have bf : brF k v f = decide (v < lng f.2.2.2) := by
              unfold brF
              rw [decide_eq_false k2, decide_eq_true k3, Bool.true_and, Bool.false_and, Bool.false_or]
            refine ok_e (by omega) (ok_b (ok_of xl ?_))
            dsimp only
            refine ok_nb (by omega) (ok_ib (by omega) ?_)
            rw [show (3 * (r : Int) + 2).toNat = 3 * r + 2 by omega, ← hv (by omega)]
            by_cases q : lng f.2.2.2 ≤ v
            · exact ok_t q (go 0 (Or.inl rfl) (fun _ => rfl) (by rw [bd1, Bool.false_or, bf, decide_eq_false (by omega : ¬ v < lng f.2.2.2)]; rfl))
            · exact ok_e q (go 1 (Or.inr rfl) (fun z => by omega) (by rw [bd1, Bool.false_or, bf, decide_eq_true (by omega : v < lng f.2.2.2)]; rfl))
          · have bf : brF k v f = false := by
              unfold brF
              rw [decide_eq_false k2, decide_eq_false k3, Bool.false_and, Bool.false_and, Bool.false_or]
            exact ok_t k3 (go 0 (Or.inl rfl) (fun _ => rfl) (by rw [bd1, Bool.false_or, bf]; rfl))
    · refine ok_e c (ok_b (ok_of fe ?_))
      dsimp only
      refine ok_nb (by omega) (ok_of (ih n b (by omega) g8 g9) ⟨?_, rfl⟩)
      rw [ctg, abr, if_neg c, decide_eq_false c, Bool.false_and, Bool.false_or, Int.zero_add]
end
section
-- d9
theorem abr_k {t k v : Int} (h : k < 2) : ∀ D : List Fdl, abr t k v D = false
  | [] => rfl
  | f :: l => by
    rw [abr, abr_k h l]
    have : brF k v f = false := by
      unfold brF
      rw [decide_eq_false (by omega : ¬ k = 2), decide_eq_false (by omega : ¬ k = 3), Bool.false_and, Bool.false_and, Bool.false_or]
    rw [this, Bool.and_false, Bool.false_or]
theorem x_isBroken {e : w_E} {N l : Nat} {T : w_S} {top : Int} {t2 : Nat → Int} {D : List Fdl} (hN : 1000 ≤ N) (hl : l < 10) (htop : top ≤ 10240) (hk : 0 ≤ T.1 32 (3 * l + 1) ∧ T.1 32 (3 * l + 1) ≤ 3) (hD : Dr T t2 top D) (hl2 : D.length ≤ 20) (hv : ∀ f, f ∈ D → vfd f ∧ f.2.2.2.length ≤ 13) : E_RuleBook_isBroken e N (l : Int) T = some (brs (T.1 32 (3 * l + 1)) (ctg (T.1 32 (3 * l)) D) (abr (T.1 32 (3 * l)) (T.1 32 (3 * l + 1)) (T.1 32 (3 * l + 2)) D), T) := by
  obtain ⟨d1, d2⟩ := hD
  have key := l_isBr (e := e) (N := N) (r := 3 * l) (T := T) (top := top) (k := T.1 32 (3 * l + 1)) (v := T.1 32 (3 * l + 2)) (t2 := t2) hN (by omega) htop hk D 0 N 0 0 (by omega) (by omega) (by omega) (by omega) (by omega) (Or.inl rfl) (fun j hj => by
    have hm : D.getD j (0, 0, 0, []) ∈ D := by
      rw [List.getD_eq_getElem?_getD, List.getElem?_eq_getElem hj]
      exact List.getElem_mem hj
    rw [Nat.zero_add]
    exact ⟨d2 j hj, (hv _ hm).1, (hv _ hm).2⟩)
  rw [show decide ((0 : Int) = 1) = false from rfl, Bool.false_or, Int.zero_add] at key
  have e3 : ((pg_sv.getD 0 []).getD 2 0).toInt = 3 := rfl
  refine ok_eq ?_
  unfold E_RuleBook_isBroken
  rw [e3, show ((l : Int) * 3 + 1).toNat = 3 * l + 1 by omega, show ((l : Int) * 3 + 2).toNat = 3 * l + 2 by omega, show (l : Int) * 3 = ((3 * l : Nat) : Int) by omega]
  refine ok_nb (by omega) (ok_nb (by omega) (ok_len (len32 T) ?_))
  with_reducible refine ok_t (by omega) ?_
  with_reducible refine ok_t (by omega) (ok_nb (by omega) ?_)
  refine ok_len (len32 T) ?_
  with_reducible refine ok_t (by omega) ?_
  with_reducible refine ok_t (by omega) ?_
  exact ok_of key ⟨rfl, rfl⟩
theorem x_breaks {e : w_E} {N l a1 m : Nat} {R : w_S} {D : List Fdl} (hN : 2001 ≤ N) (hN2 : m < N) (hlen : e_len Tr R a1 1 = some m) (hm : m < 2000000000) (hl : l < 10) (hk : 0 ≤ R.1 191 (3 * l + 1) ∧ R.1 191 (3 * l + 1) ≤ 3) (hv1 : R.1 191 (3 * l + 1) = 2 → 1 ≤ R.1 191 (3 * l + 2)) (hD : byt (R.1 a1) 0 (doc D)) (hs : (doc D).length ≤ m) (hv : ∀ f, f ∈ D → vfd f) (hD2 : D.length ≤ 100) : E_R_breaks e N (((doc D).length : Nat) : Int) (l : Int) a1 R = some (brs (R.1 191 (3 * l + 1)) (ctg (R.1 191 (3 * l)) D) (abr (R.1 191 (3 * l)) (R.1 191 (3 * l + 1)) (R.1 191 (3 * l + 2)) D), R) := by
  have key := l_breaks (e := e) (N := N) (a1 := a1) (m := m) (r := l) (S := R) (size := (((doc D).length : Nat) : Int)) (k := R.1 191 (3 * l + 1)) (v := R.1 191 (3 * l + 2)) hN hN2 hlen hm hl hk (fun _ => rfl) hv1 D 0 N 0 0 hv hD (by omega) (by omega) (by omega) (by omega) (by omega) (Or.inl rfl) (fun _ => rfl)
  rw [show decide ((0 : Int) = 1) = false from rfl, Bool.false_or, Int.zero_add] at key
  refine ok_eq ?_
  unfold E_R_breaks
  rw [show (3 * (l : Int) + 1).toNat = 3 * l + 1 by omega]
  refine ok_nb (by omega) (ok_nb (by omega) (ok_ib (by omega) ?_))
  exact ok_of key ⟨rfl, rfl⟩
/-- does a document break any rule: both say so alike -/
theorem l_any {e : w_E} {N a1 m n : Nat} {T R : w_S} {top : Int} {t2 : Nat → Int} {D : List Fdl} (hN : 2001 ≤ N) (hN2 : m < N) (hlen : e_len Tr R a1 1 = some m) (hm : m < 2000000000) (htop : top ≤ 10240) (hn : n ≤ 10) (hn1 : T.1 35 2 = n) (hn2 : R.1 129 93 = n) (hC : ∀ i, i < n → R.1 191 (3 * i) = T.1 32 (3 * i) ∧ R.1 191 (3 * i + 1) = T.1 32 (3 * i + 1) ∧ 0 ≤ T.1 32 (3 * i + 1) ∧ T.1 32 (3 * i + 1) ≤ 3 ∧ (2 ≤ T.1 32 (3 * i + 1) → R.1 191 (3 * i + 2) = T.1 32 (3 * i + 2) ∧ 1 ≤ T.1 32 (3 * i + 2))) (hD : Dr T t2 top D) (hB : byt (R.1 a1) 0 (doc D)) (hs : (doc D).length ≤ m) (hl2 : D.length ≤ 20) (hv : ∀ f, f ∈ D → vfd f ∧ f.2.2.2.length ≤ 13) : ∀ (k i nf nr : Nat), i + k = n → k < nf → k + 1 < nr → ∃ y y', El_RuleBook_isAnyBroken e N nf 0 [0, (i : Int)] [] T = some (y, T) ∧ El_R_firstBroken e N nr 0 [(((doc D).length : Nat) : Int), 0, 0, (i : Int)] [a1] R = some (y', R) ∧ ((y = 1 ∧ 0 ≤ y') ∨ (y = 0 ∧ y' = -1))
  | _, _, 0, _, _, h, _ => by omega
  | _, _, _ + 1, 0, _, _, h => by omega
  | 0, i, nf + 1, nr + 1, g1, g2, g3 => by
    refine ⟨0, -1, ?_, ?_, Or.inr ⟨rfl, rfl⟩⟩
    · rw [El_RuleBook_isAnyBroken, hn1, if_pos (by omega), if_pos (Or.inl rfl)]
    · rw [El_R_firstBroken, hn2, if_pos (by omega)]
  | k + 1, i, nf + 1, nr + 1, g1, g2, g3 => by
    obtain ⟨c1, c2, c3, c4, c5⟩ := hC i (by omega)
    have xa := x_isBroken (e := e) (N := N) (l := i) (by omega) (by omega) htop ⟨c3, c4⟩ hD hl2 hv
    have xb := x_breaks (e := e) (N := N) (l := i) (R := R) hN hN2 hlen hm (by omega) (by rw [c2]; exact ⟨c3, c4⟩) (fun z => by have := c5 (by omega); omega) hB hs (fun f hf => (hv f hf).1) (by omega)
    have same : abr (R.1 191 (3 * i)) (R.1 191 (3 * i + 1)) (R.1 191 (3 * i + 2)) D = abr (T.1 32 (3 * i)) (T.1 32 (3 * i + 1)) (T.1 32 (3 * i + 2)) D := by
      rw [c1, c2]
      by_cases z : 2 ≤ T.1 32 (3 * i + 1)
      · rw [(c5 z).1]
      · rw [abr_k (by omega), abr_k (by omega)]
    rw [same, c1, c2] at xb
    have b01 : ∀ k n b, brs k n b = 0 ∨ brs k n b = 1 := fun k n b => by
      unfold brs
      split
      · exact Or.inr rfl
      · exact Or.inl rfl
    have bb := b01 (T.1 32 (3 * i + 1)) (ctg (T.1 32 (3 * i)) D) (abr (T.1 32 (3 * i)) (T.1 32 (3 * i + 1)) (T.1 32 (3 * i + 2)) D)
    generalize brs (T.1 32 (3 * i + 1)) (ctg (T.1 32 (3 * i)) D) (abr (T.1 32 (3 * i)) (T.1 32 (3 * i + 1)) (T.1 32 (3 * i + 2)) D) = w at xa xb bb
    rcases bb with bb | bb
    · subst bb
      obtain ⟨y, y', q1, q2, q3⟩ := l_any (e := e) (N := N) hN hN2 hlen hm htop hn hn1 hn2 hC hD hB hs hl2 hv k (i + 1) nf nr (by omega) (by omega) (by omega)
      rw [show ((i + 1 : Nat) : Int) = (i : Int) + 1 by omega] at q1 q2
      refine ⟨y, y', ?_, ?_, q3⟩
      · refine ok_eq ?_
        rw [El_RuleBook_isAnyBroken, hn1]
        refine ok_e (by omega) (ok_e (fun z => z rfl) (ok_b (ok_of xa ?_)))
        exact ok_nb (by omega) (ok_of q1 ⟨rfl, rfl⟩)
      · refine ok_eq ?_
        rw [El_R_firstBroken, hn2]
        refine ok_e (by omega) (ok_b (ok_of xb ?_))
        exact ok_e (fun z => z rfl) (ok_nb (by omega) (ok_of q2 ⟨rfl, rfl⟩))
    · subst bb
      refine ⟨1, (i : Int), ?_, ?_, Or.inl ⟨rfl, by omega⟩⟩
      · obtain ⟨nf', hnf⟩ : ∃ x, nf = x + 1 := ⟨nf - 1, by omega⟩
        refine ok_eq ?_
        rw [El_RuleBook_isAnyBroken, hn1]
        refine ok_e (by omega) (ok_e (fun z => z rfl) (ok_b (ok_of xa ?_)))
        refine ok_nb (by omega) ?_
        dsimp only
        rw [hnf, El_RuleBook_isAnyBroken, hn1]
        by_cases z : (n : Int) ≤ (i : Int) + 1
        · exact ok_t z (ok_t (Or.inr rfl) (ok_s ⟨rfl, rfl⟩))
        · exact ok_e z (ok_t (by decide) (ok_t (Or.inr rfl) (ok_s ⟨rfl, rfl⟩)))
      · refine ok_eq ?_
        rw [El_R_firstBroken, hn2]
        refine ok_e (by omega) (ok_b (ok_of xb ?_))
        exact ok_t (by show (1 : Int) ≠ 0; decide) (ok_e (fun z => z rfl) (ok_s ⟨rfl, rfl⟩))
end
section
-- da
theorem ser_b {f : Fdl} (h : vfd f) : ∀ b, b ∈ ser f → 0 ≤ b ∧ b ≤ 127 := by
  have t1 := h.1
  have t2 := h.2.1
  intro b hb
  unfold ser at hb
  rcases List.mem_append.1 hb with hb | hb
  · rcases List.mem_append.1 hb with hb | hb
    · unfold tg3 at hb
      rcases List.mem_cons.1 hb with hb | hb
      · omega
      · rcases List.mem_cons.1 hb with hb | hb
        · omega
        · rcases List.mem_cons.1 hb with hb | hb
          · omega
          · cases hb
    · rcases List.mem_cons.1 hb with hb | hb
      · omega
      · exact (fbd_ne h b hb).2
  · rcases List.mem_cons.1 hb with hb | hb
    · omega
    · cases hb
/-- the reference's tape holds the document that the text says -/
theorem doc_tape {S R : w_S} {f len : Int} {G : Int → Int} {D : List Fdl} (h : TX S f len G) (hB : TB S R f len) (hv : ∀ f, f ∈ D → vfd f) (hg : gby G 0 (doc D)) (hl : (((doc D).length : Nat) : Int) = len) : byt (R.1 130) 0 (doc D) := by
  refine byt_of (fun k hk => ?_)
  have g := gby_at hg k hk
  rw [show (0 : Int) + (k : Int) = k by omega] at g
  have hb := hB k (by omega)
  have f0 := h.2.2.1
  have hx := (h.2.2.2.2.2.2 (k : Int) (by omega)).1 (by omega)
  rw [show (f + (k : Int)).toNat = f.toNat + k by omega, ← hb.1] at hx
  have hm : (doc D).getD k 0 ∈ doc D := by
    rw [List.getD_eq_getElem?_getD, List.getElem?_eq_getElem hk]
    exact List.getElem_mem hk
  have bd : 0 ≤ (doc D).getD k 0 ∧ (doc D).getD k 0 ≤ 127 := by
    have hm2 := hm
    unfold doc at hm2
    rw [List.mem_flatMap] at hm2
    obtain ⟨x, x1, x2⟩ := hm2
    exact ser_b (hv x x1) _ x2
  have h4 := hx.2.2.2
  rw [Nat.zero_add]
  split at h4 <;> omega
theorem len130 (R : w_S) : e_len Tr R 130 1 = some 2000 := rfl
/-- a new version read by the class, and what the reference says of the same text -/
theorem x_newV {e : w_E} {N : Nat} {S R : w_S} {f len : Int} {G : Int → Int} (hN : 10000 ≤ N) (h : TX S f len G) (hr : TR R len G) (h4 : S.1 1 4 = f) (h6 : S.1 1 6 = -1) (hB : TB S R f len) (hC : RelCk S R) (hs : S.1 27 2 = 0 ∨ S.1 27 2 = 1) : ∃ z : Int, (E_R_firstBroken e N (R.1 129 2) 0 130 R = some (z, R) ∨ rcq G len 12 0 0 < 0) ∧ Ok (E_C_readNewVersion e N S) (fun y S1 => ∃ T' a' w', S1 = tp T' a' w' ∧ frm [121, 122, 123, 125, 126, 127] [120] [(120, 0)] S T' ∧ ((rcq G len 12 0 0 < 0 ∧ y = -999 + rcq G len 12 0 0) ∨ (0 ≤ rcq G len 12 0 0 ∧ S.1 27 2 = 1 ∧ 0 ≤ z ∧ y = -12) ∨ (0 ≤ rcq G len 12 0 0 ∧ (S.1 27 2 = 0 ∨ z = -1) ∧ y = 0 ∧ w' = -1 ∧ Dr T' (S.1 2) (f + len) (rcl G len 12 0 0)))) := by
  have l0 := hr.2.1
  have lb := hr.2.2.1
  have hfl := h.2.2.2.2.2.1
  have ts := tp_self S
  rw [h4, h6] at ts
  have hb : ∀ p, 0 ≤ p → p ≤ len → fqC G p ≤ len := fun p p0 p1 => by
    have := fqR_bd hr.e (show Bd len p from ⟨by omega, p1⟩)
    rw [← fq_eq] at this
    exact this.2
  have rb : -3000 ≤ rcq G len 12 0 0 := by
    have : ∀ (k i : Nat) (q : Int), 0 ≤ q → q ≤ len → -3000 ≤ rcq G len k i q := by
      intro k
      induction k with
      | zero =>
        intro i q q0 q1
        rw [rcq]
        split <;> omega
      | succ k ih =>
        intro i q q0 q1
        have bd := fqR_bd hr.e (show Bd len q from ⟨by omega, q1⟩)
        rw [← fq_eq] at bd
        unfold Bd at bd
        rw [rcq]
        split
        · omega
        · split
          · omega
          · exact ih (i + 1) _ (by omega) (by omega)
    exact this 12 0 0 (by omega) l0
  obtain ⟨y0, S1, e1, T', a', w', z1, z2, z3, z4⟩ := x_readRecord (e := e) (N := N) (by omega) h (show At f len f (-1) 0 from ⟨by omega, by omega, Or.inl ⟨rfl, by omega⟩⟩)
  rw [ts] at e1
  subst z1
  have s27 : T'.1 27 = S.1 27 := z3.2.1 27 rfl rfl
  unfold E_C_readNewVersion
  by_cases c : rcq G len 12 0 0 < 0
  · refine ⟨0, Or.inr c, ok_b (ok_of e1 ?_)⟩
    dsimp only
    rw [tp6]
    obtain ⟨r1, r2⟩ := z2.right.2 c
    exact ok_t (by omega) (ok_nb (by omega) (ok_s ⟨T', a', w', rfl, z3, Or.inl ⟨c, by omega⟩⟩))
  · have c0 : 0 ≤ rcq G len 12 0 0 := by omega
    have w1 := z2.wm c0
    subst w1
    have dr := z4 c0
    obtain ⟨g1, g2, g3, g4, g5⟩ := rcl_g (G := G) (len := len) 12 0 0 (by omega) l0 c0 hb
    have hlen : (((doc (rcl G len 12 0 0)).length : Nat) : Int) = len := by omega
    have tape := doc_tape h hB g4 g1 hlen
    have subs : ∀ (k i : Nat) (q : Int) (f : Fdl), f ∈ rcl G len k i q → f.2.2.2.length ≤ 13 := by
      intro k
      induction k with
      | zero =>
        intro i q f hf
        rw [rcl] at hf
        cases hf
      | succ k ih =>
        intro i q f hf
        rw [rcl] at hf
        split at hf
        · cases hf
        · rcases List.mem_cons.1 hf with hf | hf
          · rw [hf]
            have := Fld_subs G q
            omega
          · exact ih _ _ _ hf
    have rl := rcl_len G len 12 0 0
    obtain ⟨n, n1, n2, n3, n4⟩ := hC
    have t32 : (tp T' a' (-1)).1 32 = S.1 32 := by
      rw [tpo _ _ _ (by decide)]
      exact z3.2.1 32 rfl rfl
    have t35 : (tp T' a' (-1)).1 35 = S.1 35 := by
      rw [tpo _ _ _ (by decide)]
      exact z3.2.1 35 rfl rfl
    have drt : Dr (tp T' a' (-1)) (S.1 2) (f + len) (rcl G len 12 0 0) := by
      unfold Dr DrF at dr ⊢
      rw [tpo T' a' (-1) (by decide : 120 ≠ 1), tpo T' a' (-1) (by decide : 121 ≠ 1), tpo T' a' (-1) (by decide : 122 ≠ 1), tpo T' a' (-1) (by decide : 123 ≠ 1), tpo T' a' (-1) (by decide : 125 ≠ 1), tpo T' a' (-1) (by decide : 126 ≠ 1), tpo T' a' (-1) (by decide : 127 ≠ 1)]
      exact dr
    obtain ⟨y, y', q1, q2, q3⟩ := l_any (e := e) (N := N) (a1 := 130) (m := 2000) (n := n) (T := tp T' a' (-1)) (R := R) (top := f + len) (t2 := S.1 2) (D := rcl G len 12 0 0) (by omega) (by omega) (len130 R) (by omega) (by omega) n1 (by rw [t35]; exact n2) n3 (fun i hi => by
      obtain ⟨k1, k2, k3, k4, k5, k6, k7⟩ := n4 i hi
      rw [t32]
      exact ⟨k1, k2, k5, k6, fun z => ⟨(k7 z).1, (k7 z).2.1⟩⟩) drt tape (by omega) (by omega) (fun f hf => ⟨g4 f hf, subs _ _ _ f hf⟩) n 0 N N (by omega) (by omega) (by omega)
    rw [hlen, ← hr.1] at q2
    refine ⟨y', Or.inl q2, ok_b (ok_of e1 ?_)⟩
    dsimp only
    rw [tp6, show (tp T' a' (-1)).1 27 2 = S.1 27 2 by rw [tpo _ _ _ (by decide), s27]]
    refine ok_e (fun z => z rfl) ?_
    rcases hs with hs | hs
    · exact ok_t hs (ok_s ⟨T', a', -1, rfl, z3, Or.inr (Or.inr ⟨c0, Or.inl hs, rfl, rfl, dr⟩)⟩)
    · refine ok_e (by omega) (ok_b (ok_of (show E_RuleBook_isAnyBroken e N (tp T' a' (-1)) = some (y, tp T' a' (-1)) from q1) ?_))
      dsimp only
      rcases q3 with ⟨q3, q4⟩ | ⟨q3, q4⟩
      · exact ok_e (by omega) (ok_s ⟨T', a', -1, rfl, z3, Or.inr (Or.inl ⟨c0, hs, q4, rfl⟩)⟩)
      · exact ok_t q3 (ok_s ⟨T', a', -1, rfl, z3, Or.inr (Or.inr ⟨c0, Or.inr q4, rfl, rfl, dr⟩)⟩)
end
section
-- db
/-- how long the reference's array of texts is -/
def tl (S : w_S) : Nat := (e_len Tr S (S.2.1 2) 1).getD 0
theorem tl_cg {S S' : w_S} (h : S'.2 = S.2) : tl S' = tl S := by
  unfold tl e_len w_a
  rw [h]
theorem tl_of {S : w_S} {a L : Nat} (h : S.2.1 2 = a) (k : e_len Tr S a 1 = some L) : tl S = L := by
  unfold tl
  rw [h, k]
  rfl
/-- what the making of arrays leaves alone: other rows that were made, and where they stand; versions that were; new ones are of today -/
def kpx (S S' : w_S) : Prop := (∀ i, i ≠ 2 → S'.2.1 i = S.2.1 i) ∧ (∀ b, b < S.2.2.2.1 → S'.2.2.1 b = S.2.2.1 b) ∧ (S.2.2.2.1 ≤ S'.2.2.2.1 ∧ S'.2.2.2.2 + 2 * tl S ≤ S.2.2.2.2 + 2 * tl S') ∧ (S'.2.1 2 = S.2.1 2 ∨ S.2.2.2.1 ≤ S'.2.1 2) ∧ (∀ b, 238 ≤ b → b < S.2.2.2.1 → b ≠ S.2.1 2 → S'.1 b = S.1 b) ∧ (∀ u : Nat, (u : Int) < S.1 129 17 → S'.1 136 u = S.1 136 u ∧ S'.1 137 u = S.1 137 u) ∧ S.1 129 17 ≤ S'.1 129 17 ∧ S'.1 129 12 = S.1 129 12 ∧ ∀ u : Nat, S.1 129 17 ≤ (u : Int) → (u : Int) < S'.1 129 17 → S'.1 137 u = S.1 129 12
theorem kpx.refl (S : w_S) : kpx S S := ⟨fun _ _ => rfl, fun _ _ => rfl, ⟨Nat.le_refl _, Nat.le_refl _⟩, Or.inl rfl, fun _ _ _ _ => rfl, fun _ _ => ⟨rfl, rfl⟩, Int.le_refl _, rfl, fun u h1 h2 => by omega⟩
theorem kpx.trans {S S' S'' : w_S} (h : kpx S S') (k : kpx S' S'') : kpx S S'' := by
  obtain ⟨h1, h2, h3, h4, h5, h6, h7, h8, h9⟩ := h
  obtain ⟨k1, k2, k3, k4, k5, k6, k7, k8, k9⟩ := k
  refine ⟨fun i hi => (k1 i hi).trans (h1 i hi), fun b hb => (k2 b (by omega)).trans (h2 b hb), by omega, ?_, fun b b1 b2 b3 => (k5 b b1 (by omega) ?_).trans (h5 b b1 b2 b3), fun u hu => ?_, by omega, k8.trans h8, fun u u1 u2 => ?_⟩
  · rcases k4 with k4 | k4
    · rw [k4]
      exact h4
    · right
      omega
  · rcases h4 with h4 | h4
    · rw [h4]
      exact b3
    · omega
  · obtain ⟨a1, a2⟩ := h6 u hu
    obtain ⟨b1, b2⟩ := k6 u (by omega)
    exact ⟨b1.trans a1, b2.trans a2⟩
  · by_cases c : (u : Int) < S'.1 129 17
    · rw [(k6 u c).2]
      exact h9 u u1 c
    · rw [k9 u (by omega) u2]
      exact h8
theorem kpx.of {S S' : w_S} (h : S'.2 = S.2) (g : ∀ b, 238 ≤ b → S'.1 b = S.1 b) (g6 : S'.1 136 = S.1 136) (g7 : S'.1 137 = S.1 137) (g8 : S'.1 129 17 = S.1 129 17) (g9 : S'.1 129 12 = S.1 129 12) : kpx S S' := by
  refine ⟨fun i _ => by rw [h], fun b _ => by rw [h], by rw [tl_cg h, h]; exact ⟨Nat.le_refl _, Nat.le_refl _⟩, Or.inl (by rw [h]), fun b b1 _ _ => g b b1, fun u _ => by rw [g6, g7]; exact ⟨rfl, rfl⟩, by rw [g8]; exact Int.le_refl _, g9, fun u u1 u2 => by omega⟩
/-- a weaker frame: of what changes while it runs it says only what stays -/
def frw (L O : List Nat) (J : List (Nat × Nat)) (S S' : w_S) : Prop := (∀ b, b < 238 → L.contains b = false → O.contains b = false → S'.1 b = S.1 b) ∧ (∀ b j, b < 238 → L.contains b = false → J.contains (b, j) = false → S'.1 b j = S.1 b j) ∧ kpx S S'
theorem frw.refl (L O : List Nat) (J : List (Nat × Nat)) (S : w_S) : frw L O J S S := ⟨fun _ _ _ _ => rfl, fun _ _ _ _ _ => rfl, kpx.refl S⟩
theorem frw.trans {L O : List Nat} {J : List (Nat × Nat)} {S S' S'' : w_S} (h : frw L O J S S') (k : frw L O J S' S'') : frw L O J S S'' := ⟨fun b g h1 h2 => (k.1 b g h1 h2).trans (h.1 b g h1 h2), fun b j g h1 h2 => (k.2.1 b j g h1 h2).trans (h.2.1 b j g h1 h2), h.2.2.trans k.2.2⟩
/-- a state with the known arrays of one and all the rest of another: weak frames are frames to it -/
def fcut (S S' : w_S) : w_S := (fun b => if b < 238 then S'.1 b else S.1 b, S.2)
theorem frw.cut {L O : List Nat} {J : List (Nat × Nat)} {S S' : w_S} (h : frw L O J S S') : frm L O J S (fcut S S') := by
  refine ⟨rfl, fun b h1 h2 => ?_, fun b j h1 h2 => ?_⟩
  · unfold fcut
    dsimp only
    split
    · rename_i c
      exact h.1 b c h1 h2
    · rfl
  · unfold fcut
    dsimp only
    split
    · rename_i c
      exact h.2.1 b j c h1 h2
    · rfl
theorem cut_at {S S' : w_S} {b : Nat} (h : b < 238) : (fcut S S').1 b = S'.1 b := if_pos h
/-- relations look at known arrays alone -/
theorem RelCs.cut {S R R1 : w_S} (h : RelCs S (fcut R R1)) : RelCs S R1 := h
theorem RelRu.cut {S R R1 : w_S} (h : RelRu S (fcut R R1)) : RelRu S R1 := h
theorem RelQ.cut {S R R1 : w_S} (h : RelQ S (fcut R R1)) : RelQ S R1 := h
theorem RelL.cut {S R R1 : w_S} {t : Int} (h : RelL S (fcut R R1) t) : RelL S R1 t := h
theorem RelMk.cut {S R R1 : w_S} (h : RelMk S (fcut R R1)) : RelMk S R1 := h
theorem RelCk.cut {S R R1 : w_S} (h : RelCk S (fcut R R1)) : RelCk S R1 := h
theorem RelKp.cut {S R R1 : w_S} {t : Int} (h : RelKp S (fcut R R1) t) : RelKp S R1 t := h
theorem RelNm.cut {S R R1 : w_S} {t : Int} (h : RelNm S (fcut R R1) t) : RelNm S R1 t := h
theorem RelAb.cut {S R R1 : w_S} (h : RelAb S (fcut R R1)) : RelAb S R1 := h
theorem RelEx.cut {S R R1 : w_S} {t : Int} (h : RelEx S (fcut R R1) t) : RelEx S R1 t := h
theorem RelB.cut {S R R1 : w_S} (h : RelB S (fcut R R1)) : RelB S R1 := h
theorem RelTp.cut {S R R1 : w_S} (h : RelTp S (fcut R R1)) : RelTp S R1 := h
end
section
-- dc
/-- bytes copied from one array behind what another one holds -/
def cpb (S : w_S) (x y E j m : Nat) : w_S := w_arr S y (fun u => if E + j ≤ u ∧ u < E + m then w_b (S.1 x (u - E)) else S.1 y u)
theorem cpb_0 (S : w_S) (x y E m : Nat) : cpb S x y E m m = S := by
  unfold cpb
  refine w_ext (fun c j => ?_) rfl
  rw [w_arr_r]
  by_cases h : c = y
  · rw [if_pos h, if_neg (by omega), h]
  · rw [if_neg h]
theorem cpb_s (S : w_S) {x y : Nat} (hxy : x ≠ y) {E j m : Nat} (h : j < m) : cpb (w_put S y (E + j) (w_b (S.1 x j))) x y E (j + 1) m = cpb S x y E j m := by
  unfold cpb
  refine w_ext (fun c u => ?_) rfl
  simp only [w_arr_r, w_put_r, if_neg hxy, reduceIte]
  by_cases hc : c = y
  · rw [if_pos hc, if_pos hc]
    by_cases h1 : u = E + j
    · subst h1
      rw [if_neg (by omega), if_pos (by omega), pt_at, if_pos rfl, show E + j - E = j by omega]
    · rw [pt_at, if_neg h1]
      by_cases h2 : E + j ≤ u ∧ u < E + m
      · rw [if_pos h2, if_pos (by omega)]
      · rw [if_neg h2, if_neg (by omega)]
  · rw [if_neg hc, if_neg hc, if_neg hc]
/-- the new version's row in the reference's tables -/
def vput (S : w_S) (v r : Nat) (d E m : Int) : w_S := w_put (w_put (w_put (w_put (w_put (w_put (w_put S 136 v (r : Int)) 137 v d) 138 v E) 139 v m) 129 23 (E + m)) 129 17 ((v : Int) + 1)) 135 r d
theorem l_av0 {e : w_E} {N a2 ta L m r v E size : Nat} {d : Int} (hr : r ≤ 150) (hv : v < 400) (hE : E + size ≤ L) (hL : L < 2000000000) (hs : size ≤ m) (hm : m < 2000000000) (hta : a2 ≠ ta) (hta2 : ta ≠ 129) (hfr : w_frb Tr B_R_addVersion_129 ta = false) : ∀ (k j nf : Nat) (S : w_S), j + k = size → k < nf → S.2.1 2 = ta → e_len Tr S ta 1 = some L → e_len Tr S a2 1 = some m → S.1 129 23 = E → S.1 129 17 = v → S.1 129 12 = d → El_R_addVersion e N nf 0 [(r : Int), (size : Int), (j : Int)] [a2] S = some (0, vput (cpb S a2 ta E j size) v r d (E : Int) (size : Int))
  | _, _, 0, _, _, h, _, _, _, _, _, _ => by omega
  | 0, j, nf + 1, S, g1, g2, g3, g4, g5, g6, g7, g8 => by
    have : j = size := by omega
    subst this
    rw [cpb_0]
    refine ok_eq ?_
    rw [El_R_addVersion, g6, g7, g8, show ((v : Int)).toNat = v by omega, show ((r : Int)).toNat = r by omega]
    exact ok_t (by omega) (ok_ib (by omega) (ok_nb (by omega) (ok_nb (by omega) (ok_ib (by omega) (ok_s ⟨rfl, rfl⟩)))))
  | k + 1, j, nf + 1, S, g1, g2, g3, g4, g5, g6, g7, g8 => by
    have r129 : ∀ i, (w_put S ta (E + j) (w_b (S.1 a2 j))).1 129 i = S.1 129 i := fun i => by
      rw [w_put_r, if_neg (Ne.symm hta2)]
    have ih := l_av0 (e := e) (N := N) (a2 := a2) (ta := ta) (L := L) (m := m) (r := r) (v := v) (E := E) (size := size) (d := d) hr hv hE hL hs hm hta hta2 hfr k (j + 1) nf (w_put S ta (E + j) (w_b (S.1 a2 j))) (by omega) (by omega) g3 g4 g5 (by rw [r129]; exact g6) (by rw [r129]; exact g7) (by rw [r129]; exact g8)
    rw [cpb_s S hta (by omega), show ((j + 1 : Nat) : Int) = (j : Int) + 1 by omega] at ih
    refine ok_eq ?_
    rw [El_R_addVersion, g6, g3, show ((E : Int) + (j : Int)).toNat = E + j by omega, show ((j : Int)).toNat = j by omega]
    refine ok_e (by omega) (ok_nb (by omega) (ok_len g5 ?_))
    with_reducible refine ok_t (by omega) ?_
    with_reducible refine ok_t (by omega) ?_
    refine ok_t hfr (ok_len g4 ?_)
    with_reducible refine ok_t (by omega) ?_
    with_reducible refine ok_t (by omega) (ok_nb (by omega) ?_)
    exact ok_of ih ⟨rfl, rfl⟩
end
section
-- dd
/-- bytes copied from the old array of texts into the new one -/
theorem l_av1 {e : w_E} {N a2 ta a4 L L4 r E size : Nat} (hE : E ≤ L) (hE4 : E ≤ L4) (hL : L < 2000000000) (hL4 : L4 < 2000000000) (hta : ta ≠ a4) (h129 : a4 ≠ 129) (hfr : w_frb Tr B_R_addVersion_129 a4 = false) : ∀ (k j nf : Nat) (S : w_S), j + k = E → k < nf → S.2.1 2 = ta → e_len Tr S ta 1 = some L → e_len Tr S a4 1 = some L4 → S.1 129 23 = E → ∃ n', nf ≤ n' + k + 1 ∧ El_R_addVersion e N nf 1 [(r : Int), (size : Int), (j : Int)] [a2, a4] S = El_R_addVersion e N n' 2 [(r : Int), (size : Int)] [a2] (w_rfp (cpb S ta a4 0 j E) 2 a4)
  | _, _, 0, _, _, h, _, _, _, _ => by omega
  | 0, j, nf + 1, S, g1, g2, g3, g4, g5, g6 => by
    have : j = E := by omega
    subst this
    refine ⟨nf, by omega, ?_⟩
    rw [El_R_addVersion, g6, if_pos (by omega), cpb_0]
  | k + 1, j, nf + 1, S, g1, g2, g3, g4, g5, g6 => by
    have r129 : ∀ i, (w_put S a4 (0 + j) (w_b (S.1 ta j))).1 129 i = S.1 129 i := fun i => by
      rw [w_put_r, if_neg (Ne.symm h129)]
    obtain ⟨n', n1, n2⟩ := l_av1 (e := e) (N := N) (a2 := a2) (ta := ta) (a4 := a4) (L := L) (L4 := L4) (r := r) (E := E) (size := size) hE hE4 hL hL4 hta h129 hfr k (j + 1) nf (w_put S a4 (0 + j) (w_b (S.1 ta j))) (by omega) (by omega) g3 g4 g5 (by rw [r129]; exact g6)
    rw [cpb_s S hta (by omega), show ((j + 1 : Nat) : Int) = (j : Int) + 1 by omega] at n2
    refine ⟨n', by omega, ?_⟩
    rw [El_R_addVersion, g6, if_neg (by omega), g3, g4]
    show (if 0 ≤ (j : Int) then (if (j : Int) < (L : Int) then (if w_frb Tr B_R_addVersion_129 a4 = false then (e_len Tr S a4 1).bind (fun n50 => if 0 ≤ (j : Int) then (if (j : Int) < (n50 : Int) then (if w_nb ((j : Int) + 1) = true then El_R_addVersion e N nf 1 [(r : Int), (size : Int), (j : Int) + 1] [a2, a4] (w_put S a4 ((j : Int)).toNat (w_b (S.1 ta ((j : Int)).toNat))) else none) else none) else none) else none) else none) else none) = _
    rw [if_pos (by omega), if_pos (by omega), if_pos hfr, g5]
    show (if 0 ≤ (j : Int) then (if (j : Int) < (L4 : Int) then (if w_nb ((j : Int) + 1) = true then El_R_addVersion e N nf 1 [(r : Int), (size : Int), (j : Int) + 1] [a2, a4] (w_put S a4 ((j : Int)).toNat (w_b (S.1 ta ((j : Int)).toNat))) else none) else none) else none) = _
    rw [if_pos (by omega), if_pos (by omega), if_pos (by rw [w_nbE]; omega), show ((j : Int)).toNat = 0 + j by omega, show S.1 ta (0 + j) = S.1 ta j by rw [Nat.zero_add], n2]
end
section
-- de
theorem Tr_new {a : Nat} (h : 238 ≤ a) : Tr.1 a = none := by
  have e1 : Nat.blt a 129 = false := by
    cases q : Nat.blt a 129 with
    | false => rfl
    | true =>
      have q2 : Nat.ble (a + 1) 129 = true := q
      rw [Nat.ble_eq] at q2
      omega
  have e2 : Nat.blt a 238 = false := by
    cases q : Nat.blt a 238 with
    | false => rfl
    | true =>
      have q2 : Nat.ble (a + 1) 238 = true := q
      rw [Nat.ble_eq] at q2
      omega
  show cond (Nat.blt a 129) none (cond (Nat.blt a 238) (pg_t1 a) none) = none
  rw [e1, e2]
  rfl
theorem len_new {S : w_S} {n : Nat} (h : 238 ≤ S.2.2.2.1) : e_len Tr (w_new S 1 n) S.2.2.2.1 1 = some n := by
  unfold e_len w_a
  rw [Tr_new h]
  show (match (if S.2.2.2.1 = S.2.2.2.1 then some (1, n) else S.2.2.1 S.2.2.2.1) with | some (u, m) => if u = 1 then some m else none | none => none) = some n
  rw [if_pos rfl]
  rfl
end
section
-- df
theorem len_old {S : w_S} {n b : Nat} (h : b ≠ S.2.2.2.1) : e_len Tr (w_new S 1 n) b 1 = e_len Tr S b 1 := by
  unfold e_len w_a
  have : (w_new S 1 n).2.2.1 b = S.2.2.1 b := if_neg h
  rw [this]
/-- what addVersion leaves: the tables' row, and the texts with the new one behind -/
def Av (S : w_S) (a2 ta v r E size : Nat) (d : Int) (S1 : w_S) : Prop := ∃ S0 ta' L', S1 = vput S0 v r d (E : Int) (size : Int) ∧ S0.2.1 2 = ta' ∧ (∀ i, i ≠ 2 → S0.2.1 i = S.2.1 i) ∧ e_len Tr S0 ta' 1 = some L' ∧ E + size ≤ L' ∧ (L' < 2100001 ∨ e_len Tr S ta 1 = some L') ∧ (∀ L, e_len Tr S ta 1 = some L → L ≤ L' ∧ S0.2.2.2.2 + 2 * L ≤ S.2.2.2.2 + 2 * L') ∧ (ta' = ta ∨ S.2.2.2.1 ≤ ta') ∧ (∀ u, u < E → S0.1 ta' u = S.1 ta u) ∧ (∀ u, u < size → S0.1 ta' (E + u) = w_b (S.1 a2 u)) ∧ (∀ b, b < S.2.2.2.1 → b ≠ ta → S0.1 b = S.1 b) ∧ (∀ b, b < S.2.2.2.1 → S0.2.2.1 b = S.2.2.1 b) ∧ S.2.2.2.1 ≤ S0.2.2.2.1 ∧ ta' < S0.2.2.2.1
theorem l_av2 {e : w_E} {N a2 m r v E size : Nat} {d : Int} (hr : r ≤ 150) (hv : v < 400) (hs : size ≤ m) (hm : m < 2000000000) (hES : E + size ≤ 1050000) (ha2 : a2 < 238) (h129 : ∀ a, 238 ≤ a → w_frb Tr B_R_addVersion_129 a = false) : ∀ (g nf ta L : Nat) (S : w_S), E + size ≤ L * 2 ^ g → (E + 3) * g + size + 3 ≤ nf → S.2.1 2 = ta → a2 ≠ ta → ta ≠ 129 → ta < S.2.2.2.1 → 238 ≤ S.2.2.2.1 → S.2.2.2.1 + g ≤ 900000 → w_frb Tr B_R_addVersion_129 ta = false → e_len Tr S ta 1 = some L → 1 ≤ L → E ≤ L → L < 16000000 → e_len Tr S a2 1 = some m → S.1 129 23 = E → S.1 129 17 = v → S.1 129 12 = d → (∀ u, u < E → -128 ≤ S.1 ta u ∧ S.1 ta u ≤ 127) → ∃ S1, El_R_addVersion e N nf 2 [(r : Int), (size : Int)] [a2] S = some (0, S1) ∧ S1.2.2.2.1 ≤ S.2.2.2.1 + g ∧ Av S a2 ta v r E size d S1
  | _, 0, _, _, _, _, h, _, _, _, _, _, _, _, _, _, _, _, _, _, _, _, _ => by omega
  | g, nf + 1, ta, L, S, p1, p2, p3, p4, p5, p6, p7, p8, p9, p10, p11, p12, p13, p14, p15, p16, p17, p18 => by
    have any1 : e_any Tr S ta = some L := by
      unfold e_len at p10
      unfold e_any
      cases q : w_a Tr S ta with
      | none =>
        rw [q] at p10
        cases p10
      | some z =>
        obtain ⟨u, n⟩ := z
        rw [q] at p10
        dsimp only at p10 ⊢
        by_cases c : u = 1
        · rw [if_pos c] at p10
          rw [if_pos (by omega)]
          exact p10
        · rw [if_neg c] at p10
          cases p10
    by_cases c : E + size ≤ L
    · have key := l_av0 (e := e) (N := N) (a2 := a2) (ta := ta) (L := L) (m := m) (r := r) (v := v) (E := E) (size := size) (d := d) hr hv c (by omega) hs hm p4 p5 p9 size 0 nf S (by omega) (by omega) p3 p10 p14 p15 p16 p17
      refine ⟨vput (cpb S a2 ta E 0 size) v r d (E : Int) (size : Int), ?_, Nat.le_add_right _ _, cpb S a2 ta E 0 size, ta, L, rfl, p3, fun _ _ => rfl, p10, c, Or.inr p10, (fun z hz => by rw [p10] at hz; have hz2 := Option.some.inj hz; exact ⟨by omega, by show S.2.2.2.2 + 2 * z ≤ S.2.2.2.2 + 2 * L; omega⟩), Or.inl rfl, fun u hu => ?_, fun u hu => ?_, fun b hb hb2 => ?_, fun _ _ => rfl, Nat.le_refl _, p6⟩
      · refine ok_eq ?_
        rw [El_R_addVersion, p15, p3]
        refine ok_nb (by omega) (ok_len any1 ?_)
        with_reducible refine ok_t (by omega) ?_
        with_reducible refine ok_t (by omega) ?_
        exact ok_of key ⟨rfl, rfl⟩
      · unfold cpb
        rw [w_arr_r, if_pos rfl, if_neg (by omega)]
      · unfold cpb
        rw [w_arr_r, if_pos rfl, if_pos (by omega), show E + u - E = u by omega]
      · unfold cpb
        rw [w_arr_r, if_neg hb2]
    · cases g with
      | zero =>
        rw [Nat.pow_zero, Nat.mul_one] at p1
        exact absurd p1 c
      | succ g =>
        have nx129 : S.2.2.2.1 ≠ 129 := by omega
        have tax : ta ≠ S.2.2.2.1 := by omega
        have fr4 := h129 S.2.2.2.1 p7
        have w129 : ∀ i, (w_new S 1 (2 * L)).1 129 i = S.1 129 i := fun i => if_neg (by omega)
        have wta : ∀ u, (w_new S 1 (2 * L)).1 ta u = S.1 ta u := fun u => if_neg tax
        obtain ⟨n', n1, n2⟩ := l_av1 (e := e) (N := N) (a2 := a2) (ta := ta) (a4 := S.2.2.2.1) (L := L) (L4 := 2 * L) (r := r) (E := E) (size := size) p12 (by omega) (by omega) (by omega) tax nx129 fr4 E 0 nf (w_new S 1 (2 * L)) (by omega) (by
          rw [Nat.mul_succ] at p2
          omega) p3 (by rw [len_old tax]; exact p10) (len_new p7) (by rw [w129]; exact p15)
        have c129 : ∀ i, (w_rfp (cpb (w_new S 1 (2 * L)) ta S.2.2.2.1 0 0 E) 2 S.2.2.2.1).1 129 i = S.1 129 i := fun i => by
          show (cpb (w_new S 1 (2 * L)) ta S.2.2.2.1 0 0 E).1 129 i = _
          unfold cpb
          rw [w_arr_r, if_neg (Ne.symm nx129)]
          exact w129 i
        have cnx : ∀ u, u < E → (w_rfp (cpb (w_new S 1 (2 * L)) ta S.2.2.2.1 0 0 E) 2 S.2.2.2.1).1 S.2.2.2.1 u = S.1 ta u := fun u hu => by
          show (cpb (w_new S 1 (2 * L)) ta S.2.2.2.1 0 0 E).1 S.2.2.2.1 u = _
          unfold cpb
          rw [w_arr_r, if_pos rfl, if_pos (by omega), show u - 0 = u by omega, wta u, w_b_id (p18 u hu).1 (p18 u hu).2]
        have cold : ∀ b, b ≠ S.2.2.2.1 → (w_rfp (cpb (w_new S 1 (2 * L)) ta S.2.2.2.1 0 0 E) 2 S.2.2.2.1).1 b = S.1 b := fun b hb => by
          show (cpb (w_new S 1 (2 * L)) ta S.2.2.2.1 0 0 E).1 b = _
          unfold cpb
          rw [w_arr_r, if_neg hb]
          funext j
          exact if_neg hb
        obtain ⟨S1, i1, i0, S0, ta', L', i2, i3, i4, i5, i6, i7, i7b, i8, i9, i10, i11, i12, i13, i14⟩ := l_av2 (e := e) (N := N) (a2 := a2) (m := m) (r := r) (v := v) (E := E) (size := size) (d := d) hr hv hs hm hES ha2 h129 g n' S.2.2.2.1 (2 * L) (w_rfp (cpb (w_new S 1 (2 * L)) ta S.2.2.2.1 0 0 E) 2 S.2.2.2.1) (by
          rw [Nat.pow_succ] at p1
          rw [show 2 * L * 2 ^ g = L * (2 ^ g * 2) by rw [Nat.mul_comm 2 L, Nat.mul_assoc, Nat.mul_comm 2 (2 ^ g)]]
          exact p1) (by
          rw [Nat.mul_succ] at p2
          omega) rfl (by omega) nx129 (show S.2.2.2.1 < S.2.2.2.1 + 1 by omega) (show 238 ≤ S.2.2.2.1 + 1 by omega) (show S.2.2.2.1 + 1 + g ≤ 900000 by omega) fr4 (show e_len Tr (w_new S 1 (2 * L)) S.2.2.2.1 1 = some (2 * L) from len_new p7) (by omega) (by omega) (by omega) (show e_len Tr (w_new S 1 (2 * L)) a2 1 = some m by rw [len_old (by omega)]; exact p14) (by rw [c129]; exact p15) (by rw [c129]; exact p16) (by rw [c129]; exact p17) (fun u hu => by rw [cnx u hu]; exact p18 u hu)
        have i13' : S.2.2.2.1 + 1 ≤ S0.2.2.2.1 := i13
        have i0' : S1.2.2.2.1 ≤ S.2.2.2.1 + 1 + g := i0
        have i7' : L' < 2100001 := by
          rcases i7 with i7 | i7
          · exact i7
          · have w : e_len Tr (w_new S 1 (2 * L)) S.2.2.2.1 1 = some L' := i7
            rw [len_new p7] at w
            have := Option.some.inj w
            omega
        have i7c : ∀ z, e_len Tr S ta 1 = some z → z ≤ L' ∧ S0.2.2.2.2 + 2 * z ≤ S.2.2.2.2 + 2 * L' := fun z hz => by
          rw [p10] at hz
          have := Option.some.inj hz
          obtain ⟨w, w2⟩ := i7b (2 * L) (show e_len Tr (w_new S 1 (2 * L)) S.2.2.2.1 1 = some (2 * L) from len_new p7)
          have w3 : S0.2.2.2.2 + 2 * (2 * L) ≤ S.2.2.2.2 + 2 * L + 2 * L' := w2
          exact ⟨by omega, by omega⟩
        refine ⟨S1, ?_, by omega, S0, ta', L', i2, i3, fun i hi => ?_, i5, i6, Or.inl i7', i7c, ?_, fun u hu => ?_, fun u hu => ?_, fun b hb hb2 => ?_, fun b hb => ?_, by omega, i14⟩
        · refine ok_eq ?_
          rw [El_R_addVersion, p15, p3]
          refine ok_nb (by omega) (ok_len any1 ?_)
          with_reducible refine ok_t (by omega) ?_
          with_reducible refine ok_e (by omega) ?_
          refine ok_len any1 ?_
          with_reducible refine ok_t (by omega) (ok_nb (by omega) ?_)
          with_reducible refine ok_t (by omega) ?_
          refine ok_t (by show S.2.2.2.1 < 1000000; omega) ?_
          with_reducible refine ok_t (by omega) ?_
          with_reducible refine ok_t (by omega) ?_
          rw [show (2 * (L : Int)).toNat = 2 * L by omega]
          refine ok_of (show El_R_addVersion e N nf 1 [(r : Int), (size : Int), 0] [a2, S.2.2.2.1] (w_new S 1 (2 * L)) = some (0, S1) from ?_) ⟨rfl, rfl⟩
          have n3 : El_R_addVersion e N nf 1 [(r : Int), (size : Int), 0] [a2, S.2.2.2.1] (w_new S 1 (2 * L)) = _ := n2
          rw [n3]
          exact i1
        · rw [i4 i hi]
          exact if_neg hi
        · right
          rcases i8 with i8 | i8
          · omega
          · have : S.2.2.2.1 + 1 ≤ ta' := i8
            omega
        · rw [i9 u hu, cnx u hu]
        · rw [i10 u hu, cold a2 (by omega)]
        · rw [i11 b (show b < S.2.2.2.1 + 1 by omega) (by omega), cold b (by omega)]
        · rw [i12 b (show b < S.2.2.2.1 + 1 by omega)]
          exact if_neg (by omega)
end
section
-- dg
theorem Tr_new2 {a : Nat} (h : 238 ≤ a) : Tr.2 a = none := by
  have e1 : Nat.blt a 129 = false := by
    cases q : Nat.blt a 129 with
    | false => rfl
    | true =>
      have q2 : Nat.ble (a + 1) 129 = true := q
      rw [Nat.ble_eq] at q2
      omega
  have e2 : Nat.blt a 238 = false := by
    cases q : Nat.blt a 238 with
    | false => rfl
    | true =>
      have q2 : Nat.ble (a + 1) 238 = true := q
      rw [Nat.ble_eq] at q2
      omega
  have e3 : pg_t3 a = none := by
    unfold pg_t3
    rw [e2]
    rfl
  show cond (Nat.blt a 129) none (pg_t2 a) = none
  rw [e1]
  show pg_t2 a = none
  unfold pg_t2
  rw [e3]
  rfl
theorem frb_new {a : Nat} (h : 238 ≤ a) : w_frb Tr B_R_addVersion_129 a = false := by
  have e1 : Nat.testBit B_R_addVersion_129 301 = true := by decide +kernel
  have e2 : Nat.blt a 129 = false := by
    cases q : Nat.blt a 129 with
    | false => rfl
    | true =>
      have q2 : Nat.ble (a + 1) 129 = true := q
      rw [Nat.ble_eq] at q2
      omega
  unfold w_frb
  rw [Tr_new h, Tr_new2 h, e1, e2]
  cases Nat.testBit B_R_addVersion_129 a <;> rfl
/-- where the reference's texts lie -/
def Tx0 (S : w_S) (ta L E : Nat) : Prop := S.2.1 2 = ta ∧ ta ≠ 129 ∧ ta < S.2.2.2.1 ∧ 238 ≤ S.2.2.2.1 ∧ S.2.2.2.1 ≤ 899000 ∧ w_frb Tr B_R_addVersion_129 ta = false ∧ e_len Tr S ta 1 = some L ∧ 4000 ≤ L ∧ E ≤ L ∧ L < 2100001 ∧ S.1 129 23 = E ∧ ∀ u, u < E → -128 ≤ S.1 ta u ∧ S.1 ta u ≤ 127
theorem x_addVersion {e : w_E} {N a2 m r v E size ta L : Nat} {d : Int} {S : w_S} (hN : 2000000 ≤ N) (hr : r ≤ 150) (hv : v < 400) (hs : size ≤ m) (hm : m < 2000000000) (hES : E + size ≤ 1050000) (hsz : size ≤ 2700) (ha2 : a2 < 238) (hta : a2 ≠ ta) (h : Tx0 S ta L E) (h14 : e_len Tr S a2 1 = some m) (h16 : S.1 129 17 = v) (h17 : S.1 129 12 = d) : ∃ S1, E_R_addVersion e N (r : Int) (size : Int) a2 S = some (0, S1) ∧ S1.2.2.2.1 ≤ S.2.2.2.1 + 1 ∧ Av S a2 ta v r E size d S1 := by
  obtain ⟨p3, p5, p6, p7, p8, p9, p10, p11, p12, p13, p15, p18⟩ := h
  have pw : L * 2 ^ 1 = L + L := by
    rw [Nat.pow_one]
    omega
  obtain ⟨S1, k1, k2⟩ := l_av2 (e := e) (N := N) (a2 := a2) (m := m) (r := r) (v := v) (E := E) (size := size) (d := d) hr hv hs hm hES ha2 (fun a ha => frb_new ha) 1 (N + 1) ta L S (by omega) (by omega) p3 hta p5 p6 p7 (by omega) p9 p10 (by omega) p12 (by omega) h14 p15 h16 h17 p18
  refine ⟨S1, ?_, k2⟩
  rw [El_R_addVersion] at k1
  unfold E_R_addVersion
  exact k1
end
section
-- dh
/-- a field of a version in the class's catalog -/
def CtF (T : w_S) (t2 : Nat → Int) (top : Int) (v F : Nat) (d : Fdl) : Prop := T.1 11 (12 * v + F) = d.1 ∧ T.1 12 (12 * v + F) = d.2.1 ∧ T.1 13 (12 * v + F) = d.2.2.1 ∧ T.1 14 (12 * v + F) = (d.2.2.2.length : Nat) ∧ ∀ j, j < d.2.2.2.length → T.1 15 (5 * (12 * v + F) + j) = (d.2.2.2.getD j (0, [])).1 ∧ Rw t2 top (T.1 16 (5 * (12 * v + F) + j)) (d.2.2.2.getD j (0, [])).2.length (fun u => (d.2.2.2.getD j (0, [])).2.getD u 0)
theorem two15 (S : w_S) : e_two Tc S 126 15 = some (260, 24000) := rfl
theorem two16 (S : w_S) : e_two Tc S 127 16 = some (260, 24000) := rfl
theorem ok_two {l : Option (Nat × Nat)} {n : Nat × Nat} (h : l = some n) {k : Nat × Nat → e_R} {P : Int → w_S → Prop} (c : Ok (k n) P) : Ok (l.bind k) P := by
  rw [h]
  exact c
theorem l_cav {e : w_E} {N v : Nat} {top : Int} {t2 : Nat → Int} {D : List Fdl} (hv : v < 400) (hD : D.length ≤ 12) (hs : ∀ F, F < D.length → (D.getD F (0, 0, 0, [])).2.2.2.length ≤ 5) : ∀ (k i nf : Nat) (S : w_S), i + k = D.length → k < nf → Dr S t2 top D → Ok (El_Catalog_addVersion e N nf 0 [(v : Int), (i : Int)] [] S) (fun _ S1 => frm [11, 12, 13, 14, 15, 16] [] [] S S1 ∧ (∀ F, i ≤ F → F < D.length → CtF S1 t2 top v F (D.getD F (0, 0, 0, []))) ∧ (∀ u, u < 12 * v + i → S1.1 11 u = S.1 11 u ∧ S1.1 12 u = S.1 12 u ∧ S1.1 13 u = S.1 13 u ∧ S1.1 14 u = S.1 14 u) ∧ ∀ u, u < 5 * (12 * v + i) → S1.1 15 u = S.1 15 u ∧ S1.1 16 u = S.1 16 u)
  | _, _, 0, _, _, h, _ => by omega
  | 0, i, nf + 1, S, g1, g2, g3 => by
    rw [El_Catalog_addVersion, g3.1]
    exact ok_t (by omega) (ok_s ⟨frm.refl _ _ _ _, fun F a b => by omega, fun _ _ => ⟨rfl, rfl, rfl, rfl⟩, fun _ _ => ⟨rfl, rfl⟩⟩)
  | k + 1, i, nf + 1, S, g1, g2, g3 => by
    have df := g3.2 i (by omega)
    have ls := hs i (by omega)
    generalize hd : D.getD i (0, 0, 0, []) = d at df ls
    obtain ⟨d1, d2, d3, d4, d5⟩ := df
    rw [El_Catalog_addVersion, g3.1]
    rw [show ((v : Int) * 12 + (i : Int)).toNat = 12 * v + i by omega, show (((v : Int) * 12 + (i : Int)) * 5).toNat = 5 * (12 * v + i) by omega, show ((i : Int) * 13).toNat = 13 * i by omega, show ((i : Int)).toNat = i by omega, d1, d2, d3, d4, show (((d.2.2.2.length : Nat) : Int)).toNat = d.2.2.2.length by omega]
    refine ok_e (by omega) (ok_nb (by omega) (ok_nb (by omega) (ok_ib (by omega) (ok_ib (by omega) (ok_nb (by omega) (ok_nb (by omega) ?_))))))
    refine ok_t rfl (ok_two (two15 _) ?_)
    with_reducible refine ok_t (by omega) ?_
    with_reducible refine ok_t (by omega) ?_
    with_reducible refine ok_t (by omega) ?_
    refine ok_t (by show (i : Int) * 13 + (d.2.2.2.length : Nat) ≤ (260 : Int); omega) ?_
    refine ok_t (by show ((v : Int) * 12 + (i : Int)) * 5 + (d.2.2.2.length : Nat) ≤ (24000 : Int); omega) ?_
    refine ok_t rfl (ok_two (two16 _) ?_)
    with_reducible refine ok_t (by omega) ?_
    with_reducible refine ok_t (by omega) ?_
    with_reducible refine ok_t (by omega) ?_
    refine ok_t (by show (i : Int) * 13 + (d.2.2.2.length : Nat) ≤ (260 : Int); omega) ?_
    refine ok_t (by show ((v : Int) * 12 + (i : Int)) * 5 + (d.2.2.2.length : Nat) ≤ (24000 : Int); omega) (ok_nb (by omega) ?_)
    rw [w_cpy_arr, w_cpy_arr]
    have fr : frm [11, 12, 13, 14, 15, 16] [] [] S (w_arr (w_arr (w_put (w_put (w_put (w_put S 11 (12 * v + i) d.1) 12 (12 * v + i) d.2.1) 13 (12 * v + i) d.2.2.1) 14 (12 * v + i) (d.2.2.2.length : Nat)) 15 (fun j => if 5 * (12 * v + i) ≤ j ∧ j < 5 * (12 * v + i) + d.2.2.2.length then S.1 126 (13 * i + (j - 5 * (12 * v + i))) else S.1 15 j)) 16 (fun j => if 5 * (12 * v + i) ≤ j ∧ j < 5 * (12 * v + i) + d.2.2.2.length then S.1 127 (13 * i + (j - 5 * (12 * v + i))) else S.1 16 j)) := by repeat (first | exact frm.refl _ _ _ _ | refine frm.put ?_ rfl | refine frm.puto ?_ rfl rfl | refine frm.arr ?_ rfl)
    simp only [w_put_r, w_arr_r, reduceIte, Nat.reduceEqDiff, pt_at]
    generalize hS : w_arr (w_arr (w_put (w_put (w_put (w_put S 11 (12 * v + i) d.1) 12 (12 * v + i) d.2.1) 13 (12 * v + i) d.2.2.1) 14 (12 * v + i) (d.2.2.2.length : Nat)) 15 (fun j => if 5 * (12 * v + i) ≤ j ∧ j < 5 * (12 * v + i) + d.2.2.2.length then S.1 126 (13 * i + (j - 5 * (12 * v + i))) else S.1 15 j)) 16 (fun j => if 5 * (12 * v + i) ≤ j ∧ j < 5 * (12 * v + i) + d.2.2.2.length then S.1 127 (13 * i + (j - 5 * (12 * v + i))) else S.1 16 j) = S2 at fr ⊢
    have b1 : ∀ u, S2.1 11 u = if u = 12 * v + i then d.1 else S.1 11 u := fun u => by
      rw [← hS]
      rfl
    have b2 : ∀ u, S2.1 12 u = if u = 12 * v + i then d.2.1 else S.1 12 u := fun u => by
      rw [← hS]
      rfl
    have b3 : ∀ u, S2.1 13 u = if u = 12 * v + i then d.2.2.1 else S.1 13 u := fun u => by
      rw [← hS]
      rfl
    have b4 : ∀ u, S2.1 14 u = if u = 12 * v + i then ((d.2.2.2.length : Nat) : Int) else S.1 14 u := fun u => by
      rw [← hS]
      rfl
    have b5 : ∀ j, S2.1 15 j = if 5 * (12 * v + i) ≤ j ∧ j < 5 * (12 * v + i) + d.2.2.2.length then S.1 126 (13 * i + (j - 5 * (12 * v + i))) else S.1 15 j := fun u => by
      rw [← hS]
      rfl
    have b6 : ∀ j, S2.1 16 j = if 5 * (12 * v + i) ≤ j ∧ j < 5 * (12 * v + i) + d.2.2.2.length then S.1 127 (13 * i + (j - 5 * (12 * v + i))) else S.1 16 j := fun u => by
      rw [← hS]
      rfl
    clear hS
    have h2 : Dr S2 t2 top D := ⟨by rw [fr.2.1 120 rfl rfl]; exact g3.1, fun F hF => (g3.2 F hF).congr (by rw [fr.2.1 121 rfl rfl]) (by rw [fr.2.1 122 rfl rfl]) (by rw [fr.2.1 123 rfl rfl]) (by rw [fr.2.1 125 rfl rfl]) (fun j _ => ⟨by rw [fr.2.1 126 rfl rfl], by rw [fr.2.1 127 rfl rfl]⟩)⟩
    have ih := l_cav (e := e) (N := N) hv hD hs k (i + 1) nf S2 (by omega) (by omega) h2
    refine Ok.mono ih ?_
    intro y S1 ⟨q1, q2, q3, q4⟩
    refine ⟨fr.trans q1, ?_, ?_, ?_⟩
    · intro F a b
      by_cases hF : F = i
      · subst hF
        rw [hd]
        have c := q3 (12 * v + F) (by omega)
        refine ⟨by rw [c.1, b1, if_pos rfl], by rw [c.2.1, b2, if_pos rfl], by rw [c.2.2.1, b3, if_pos rfl], by rw [c.2.2.2, b4, if_pos rfl], ?_⟩
        intro j hj
        have c' := q4 (5 * (12 * v + F) + j) (by omega)
        have w := d5 j hj
        rw [c'.1, c'.2, b5, b6, if_pos ⟨by omega, by omega⟩, if_pos ⟨by omega, by omega⟩, show 13 * F + (5 * (12 * v + F) + j - 5 * (12 * v + F)) = 13 * F + j by omega]
        exact w
      · exact q2 F (by omega) b
    · intro u hu
      have c := q3 u (by omega)
      have n : ¬ u = 12 * v + i := by omega
      exact ⟨by rw [c.1, b1, if_neg n], by rw [c.2.1, b2, if_neg n], by rw [c.2.2.1, b3, if_neg n], by rw [c.2.2.2, b4, if_neg n]⟩
    · intro u hu
      have c := q4 u (by omega)
      have n : ¬ (5 * (12 * v + i) ≤ u ∧ u < 5 * (12 * v + i) + d.2.2.2.length) := by omega
      exact ⟨by rw [c.1, b5, if_neg n], by rw [c.2, b6, if_neg n]⟩
end
section
-- di
/-- what the class's addVersion leaves -/
def Cav (S : w_S) (t2 : Nat → Int) (top : Int) (D : List Fdl) (v r : Nat) (d : Int) (S1 : w_S) : Prop := frm [4, 6, 8, 9, 10, 11, 12, 13, 14, 15, 16] [3] [(3, 5)] S S1 ∧ S1.1 3 5 = (v : Int) + 1 ∧ S1.1 8 = pt (S.1 8) v (S.1 4 r) ∧ S1.1 4 = pt (S.1 4) r v ∧ S1.1 9 = pt (S.1 9) v d ∧ S1.1 6 = pt (S.1 6) r d ∧ S1.1 10 = pt (S.1 10) v (D.length : Nat) ∧ (∀ F, F < D.length → CtF S1 t2 top v F (D.getD F (0, 0, 0, []))) ∧ (∀ u, u < 12 * v → S1.1 11 u = S.1 11 u ∧ S1.1 12 u = S.1 12 u ∧ S1.1 13 u = S.1 13 u ∧ S1.1 14 u = S.1 14 u) ∧ ∀ u, u < 60 * v → S1.1 15 u = S.1 15 u ∧ S1.1 16 u = S.1 16 u
theorem frm.wide {L L' O O' : List Nat} {J J' : List (Nat × Nat)} {S S' : w_S} (h : frm L O J S S') (h1 : ∀ b, L'.contains b = false → L.contains b = false) (h2 : ∀ b, O'.contains b = false → O.contains b = false) (h3 : ∀ b j, J'.contains (b, j) = false → J.contains (b, j) = false) : frm L' O' J' S S' := ⟨h.1, fun b g1 g2 => h.2.1 b (h1 b g1) (h2 b g2), fun b j g1 g2 => h.2.2 b j (h1 b g1) (h3 b j g2)⟩
theorem x_cav {e : w_E} {N v r : Nat} {d top : Int} {t2 : Nat → Int} {D : List Fdl} {S : w_S} (hN : 100 ≤ N) (hv : v < 400) (hr : r ≤ 150) (hD : D.length ≤ 12) (hs : ∀ F, F < D.length → (D.getD F (0, 0, 0, [])).2.2.2.length ≤ 5) (h5 : S.1 3 5 = v) (hd : Dr S t2 top D) : Ok (E_Catalog_addVersion e N (r : Int) d S) (fun _ S1 => Cav S t2 top D v r d S1) := by
  rw [E_Catalog_addVersion, h5, hd.1]
  rw [show ((v : Int)).toNat = v by omega, show ((r : Int)).toNat = r by omega]
  refine ok_nb (by omega) (ok_ib (by omega) (ok_ib (by omega) ?_))
  have fr : frm [4, 6, 8, 9, 10, 11, 12, 13, 14, 15, 16] [3] [(3, 5)] S (w_put (w_put (w_put (w_put (w_put (w_put S 3 5 ((v : Int) + 1)) 8 v (S.1 4 r)) 4 r (v : Int)) 9 v d) 6 r d) 10 v ((D.length : Nat) : Int)) := by repeat (first | exact frm.refl _ _ _ _ | refine frm.put ?_ rfl | refine frm.puto ?_ rfl rfl | refine frm.arr ?_ rfl)
  generalize hS : w_put (w_put (w_put (w_put (w_put (w_put S 3 5 ((v : Int) + 1)) 8 v (S.1 4 r)) 4 r (v : Int)) 9 v d) 6 r d) 10 v ((D.length : Nat) : Int) = S2 at fr ⊢
  have b0 : S2.1 3 5 = (v : Int) + 1 := by
    rw [← hS]
    rfl
  have b1 : S2.1 8 = pt (S.1 8) v (S.1 4 r) := by
    rw [← hS]
    rfl
  have b2 : S2.1 4 = pt (S.1 4) r v := by
    rw [← hS]
    rfl
  have b3 : S2.1 9 = pt (S.1 9) v d := by
    rw [← hS]
    rfl
  have b4 : S2.1 6 = pt (S.1 6) r d := by
    rw [← hS]
    rfl
  have b5 : S2.1 10 = pt (S.1 10) v (D.length : Nat) := by
    rw [← hS]
    rfl
  have b6 : ∀ a, a = 11 ∨ a = 12 ∨ a = 13 ∨ a = 14 ∨ a = 15 ∨ a = 16 → S2.1 a = S.1 a := by
    intro a ha
    rw [← hS]
    rcases ha with rfl | rfl | rfl | rfl | rfl | rfl <;> rfl
  clear hS
  have h2 : Dr S2 t2 top D := ⟨by rw [fr.2.1 120 rfl rfl]; exact hd.1, fun F hF => (hd.2 F hF).congr (by rw [fr.2.1 121 rfl rfl]) (by rw [fr.2.1 122 rfl rfl]) (by rw [fr.2.1 123 rfl rfl]) (by rw [fr.2.1 125 rfl rfl]) (fun j _ => ⟨by rw [fr.2.1 126 rfl rfl], by rw [fr.2.1 127 rfl rfl]⟩)⟩
  refine Ok.mono (l_cav (e := e) (N := N) hv hD hs D.length 0 N S2 (by omega) (by omega) h2) ?_
  intro y S1 ⟨q1, q2, q3, q4⟩
  refine ⟨fr.trans (q1.wide ?_ (fun _ _ => rfl) (fun _ _ _ => rfl)), by rw [q1.2.1 3 rfl rfl, b0], by rw [q1.2.1 8 rfl rfl, b1], by rw [q1.2.1 4 rfl rfl, b2], by rw [q1.2.1 9 rfl rfl, b3], by rw [q1.2.1 6 rfl rfl, b4], by rw [q1.2.1 10 rfl rfl, b5], fun F hF => q2 F (by omega) hF, fun u hu => ?_, fun u hu => ?_⟩
  · intro b hb
    simp only [List.contains_cons, List.contains_nil, Bool.or_false, Bool.or_eq_false_iff] at hb ⊢
    exact hb.2.2.2.2.2
  · have c := q3 u (by omega)
    rw [b6 11 (by omega), b6 12 (by omega), b6 13 (by omega), b6 14 (by omega)] at c
    exact c
  · have c := q4 u (by omega)
    rw [b6 15 (by omega), b6 16 (by omega)] at c
    exact c
end
section
-- dj
/-- a version: the class's catalog and the reference's texts hold the same document -/
def VrD (S R : w_S) (t2 : Nat → Int) (top : Int) (ta E v : Nat) (D : List Fdl) : Prop := S.1 10 v = (D.length : Nat) ∧ 1 ≤ D.length ∧ D.length ≤ 12 ∧ (∀ F, F < D.length → (D.getD F (0, 0, 0, [])).2.2.2.length ≤ 5) ∧ (∀ f, f ∈ D → vfd f) ∧ (∀ F, F < D.length → CtF S t2 top v F (D.getD F (0, 0, 0, []))) ∧ ∃ p : Nat, R.1 138 v = p ∧ R.1 139 v = ((doc D).length : Nat) ∧ (doc D).length ≤ 2700 ∧ p + (doc D).length ≤ E ∧ byt (R.1 ta) p (doc D)
/-- the catalog: versions by record and day, with their documents -/
def RelVr (S R : w_S) (top : Int) (ta L E V n : Nat) : Prop := Tx0 R ta L E ∧ (ta = 140 ∨ 238 ≤ ta) ∧ S.1 3 5 = V ∧ R.1 129 17 = V ∧ V ≤ 400 ∧ S.1 3 0 = n ∧ R.1 129 13 = n ∧ n ≤ 150 ∧ E ≤ 2604 * V ∧ (∀ r : Nat, 1 ≤ r → r ≤ n → S.1 4 r = gk (fun k => decide (R.1 136 k = r)) V ∧ 0 ≤ S.1 4 r) ∧ ∀ v : Nat, v < V → S.1 8 v = gk (fun j => decide (R.1 136 j = R.1 136 v)) v ∧ S.1 9 v = R.1 137 v ∧ 0 ≤ R.1 137 v ∧ R.1 137 v ≤ S.1 27 1 ∧ 1 ≤ R.1 136 v ∧ R.1 136 v ≤ n ∧ ∃ D, VrD S R (S.1 2) top ta E v D
theorem CtF.congr {T T' : w_S} {t2 : Nat → Int} {top : Int} {v F : Nat} {d : Fdl} (h : CtF T t2 top v F d) (hF : F < 12) (hl : d.2.2.2.length ≤ 5) (e1 : ∀ u, u < 12 * v + 12 → T'.1 11 u = T.1 11 u ∧ T'.1 12 u = T.1 12 u ∧ T'.1 13 u = T.1 13 u ∧ T'.1 14 u = T.1 14 u) (e2 : ∀ u, u < 60 * v + 60 → T'.1 15 u = T.1 15 u ∧ T'.1 16 u = T.1 16 u) : CtF T' t2 top v F d := by
  obtain ⟨h1, h2, h3, h4, h5⟩ := h
  have c := e1 (12 * v + F) (by omega)
  refine ⟨by rw [c.1, h1], by rw [c.2.1, h2], by rw [c.2.2.1, h3], by rw [c.2.2.2, h4], fun j hj => ?_⟩
  have c' := e2 (5 * (12 * v + F) + j) (by omega)
  rw [c'.1, c'.2]
  exact h5 j hj
/-- versions that lie before stay what they are -/
theorem VrD.congr {S R S1 R1 : w_S} {t2 : Nat → Int} {top : Int} {ta ta' E E' v : Nat} {D : List Fdl} (h : VrD S R t2 top ta E v D) (hE : E ≤ E') (c1 : S1.1 10 v = S.1 10 v) (e1 : ∀ u, u < 12 * v + 12 → S1.1 11 u = S.1 11 u ∧ S1.1 12 u = S.1 12 u ∧ S1.1 13 u = S.1 13 u ∧ S1.1 14 u = S.1 14 u) (e2 : ∀ u, u < 60 * v + 60 → S1.1 15 u = S.1 15 u ∧ S1.1 16 u = S.1 16 u) (c2 : R1.1 138 v = R.1 138 v) (c3 : R1.1 139 v = R.1 139 v) (c4 : ∀ u, u < E → R1.1 ta' u = R.1 ta u) : VrD S1 R1 t2 top ta' E' v D := by
  obtain ⟨h1, h2, h3, h4, h5, h6, p, h7, h8, h9, h10, h11⟩ := h
  exact ⟨by rw [c1, h1], h2, h3, h4, h5, fun F hF => (h6 F hF).congr (by omega) (h4 F hF) e1 e2, p, by rw [c2, h7], by rw [c3, h8], h9, by omega, byt_congr h11 (fun k hk => c4 (p + k) (by omega))⟩
end
