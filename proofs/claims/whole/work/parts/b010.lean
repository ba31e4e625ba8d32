section
-- a8
theorem q_octet {e : w_E} {N : Nat} {S R : w_S} {x1 x2 : Int} (hN : 1000 ≤ N) (h : RelS S R) : Ok (E_C_octet e N x1 x2 S) (fun y S1 => Ok (E_R_octet e N x1 x2 R) (fun y' R1 => y' = y ∧ S1 = S ∧ R1 = R)) := by
  have h1 := h.1
  have h3 := h.2.2.1
  unfold E_C_octet E_Stores_octetOf E_R_octet
  by_cases b : x1 < 1 ∨ S.1 89 0 < x1
  · repeat' (first | with_reducible refine ok_nb (by omega) ?_ | with_reducible refine ok_ib (by omega) ?_ | with_reducible refine ok_t (by omega) ?_ | with_reducible refine ok_e (by omega) ?_ | with_reducible refine ok_if (fun h => ?_) (fun h => ?_) | with_reducible refine ok_s ?_ | with_reducible refine ok_b ?_)
    all_goals first | exact ⟨rfl, rfl, rfl⟩ | (exfalso; omega)
  obtain ⟨p, hp⟩ : ∃ p : Nat, x1 = p := ⟨x1.toNat, by omega⟩
  subst hp
  obtain ⟨m1, m2⟩ := x_major (e := e) (N := N) (p := p) hN h (by omega) (by omega)
  obtain ⟨c1, c2, c3, c4⟩ := h.2.2.2.2 p (by omega) (by omega)
  cases hf : fst (maj S p) 0 6 with
  | none =>
    rw [hf, o1_none] at m1 m2
    repeat' (first | (with_reducible refine ok_of m1 ?_; dsimp only) | (with_reducible refine ok_of m2 ?_; dsimp only) | with_reducible refine ok_nb (by omega) ?_ | with_reducible refine ok_ib (by omega) ?_ | with_reducible refine ok_t (by omega) ?_ | with_reducible refine ok_e (by omega) ?_ | with_reducible refine ok_if (fun h => ?_) (fun h => ?_) | with_reducible refine ok_s ?_ | with_reducible refine ok_b ?_)
    all_goals first | exact ⟨rfl, rfl, rfl⟩ | (exfalso; omega) | exact absurd rfl h
  | some s =>
    rw [hf, o1_some] at m1 m2
    obtain ⟨f1, f2, f3, _⟩ := fst_some hf
    unfold maj at f3
    simp only [Bool.and_eq_true] at f3
    have f4 := hrd_iff.mp f3.1
    have a3 := (c4 s (by omega)).2.2 f4.2
    by_cases b2 : x2 < 0 ∨ S.1 90 p ≤ x2
    · clear a3
      repeat' (first | (with_reducible refine ok_of m1 ?_; dsimp only; rw [Int.toNat_natCast]) | (with_reducible refine ok_of m2 ?_; dsimp only; (try rw [Int.toNat_natCast])) | with_reducible refine ok_nb (by omega) ?_ | with_reducible refine ok_ib (by omega) ?_ | with_reducible refine ok_t (by omega) ?_ | with_reducible refine ok_e (by omega) ?_ | with_reducible refine ok_if (fun h => ?_) (fun h => ?_) | with_reducible refine ok_s ?_ | with_reducible refine ok_b ?_)
      all_goals first | exact ⟨rfl, rfl, rfl⟩ | (exfalso; omega)
    · have a4 := (a3 x2.toNat (by omega)).1
      have e1 : (((p : Int) * 6 + (s : Int)) * 200 + x2).toNat = 200 * (6 * p + s) + x2.toNat := by omega
      have e2 : (200 * (6 * (p : Int) + (s : Int)) + x2).toNat = 200 * (6 * p + s) + x2.toNat := by omega
      clear a3
      repeat' (first | (with_reducible refine ok_of m1 ?_; dsimp only; rw [Int.toNat_natCast]) | (with_reducible refine ok_of m2 ?_; dsimp only; (try rw [Int.toNat_natCast])) | with_reducible refine ok_nb (by omega) ?_ | with_reducible refine ok_ib (by omega) ?_ | with_reducible refine ok_t (by omega) ?_ | with_reducible refine ok_e (by omega) ?_ | with_reducible refine ok_if (fun h => ?_) (fun h => ?_) | with_reducible refine ok_s ?_ | with_reducible refine ok_b ?_)
      rw [e1, e2, a4]
      exact ⟨rfl, rfl, rfl⟩
theorem nal_comm (f : Nat → Int) (a b c n : Nat) : nal f a b c n = nal f b a c n := by
  unfold nal
  refine anyb_congr _ _ (fun j _ _ => ?_)
  congr 1
  rw [decide_eq_decide]
  exact ⟨Eq.symm, Eq.symm⟩
theorem nal_self (f : Nat → Int) (a c n : Nat) : nal f a a c n = false := by
  unfold nal
  rw [anyb_false]
  intro k _ _
  simp
theorem two93 (S : w_S) : e_two Tc S 93 93 = some (37200, 37200) := rfl
theorem frb93 : w_frb Tc B_Stores_copyBytes_89 93 = false := by decide +kernel
theorem okl2 {o : Option (Nat × Nat)} {n : Nat × Nat} {f : Nat × Nat → e_R} {P : Int → w_S → Prop} (h : o = some n) (k : Ok (f n) P) : Ok (o.bind f) P := by rw [h]; exact k
/-- part of an array becomes another part of it -/
def cpf (f : Nat → Int) (a b n : Nat) : Nat → Int := fun j => if b ≤ j ∧ j < b + n then f (a + (j - b)) else f j
theorem w_cpy_cpf (S : w_S) (x a b n : Nat) : w_cpy S x x a b n = w_arr S x (cpf (S.1 x) a b n) := by
  unfold w_cpy w_arr cpf
  congr
  funext c j
  split
  · next h => rw [h]
  · rfl
theorem l_copyOctets {e : w_E} {N : Nat} {p s u : Nat} (hp : 1 ≤ p ∧ p ≤ 30) (hs : s < 6) (hu : u < 6) (hsu : s ≠ u) : ∀ (k n i : Nat) (R : w_S), (i : Int) + k = R.1 228 p → R.1 228 p ≤ 200 → k < n → (∀ j : Nat, j < k + i → -128 ≤ R.1 231 (200 * (6 * p + s) + j) ∧ R.1 231 (200 * (6 * p + s) + j) ≤ 127) → El_R_copyOctets e N n 0 [p, s, u, i] [] R = some (0, w_arr R 231 (cpf (R.1 231) (200 * (6 * p + s) + i) (200 * (6 * p + u) + i) k)) := by
  intro k
  induction k with
  | zero =>
    intro n i R hi hl hn hb
    obtain ⟨n, rfl⟩ : ∃ q, n = q + 1 := ⟨n - 1, by omega⟩
    refine ok_eq ?_
    rw [El_R_copyOctets, Int.toNat_natCast]
    have e0 : cpf (R.1 231) (200 * (6 * p + s) + i) (200 * (6 * p + u) + i) 0 = R.1 231 := by
      funext j
      unfold cpf
      rw [if_neg (by omega)]
    rw [e0, w_arr_self]
    repeat' (first | with_reducible refine ok_nb (by omega) ?_ | with_reducible refine ok_ib (by omega) ?_ | with_reducible refine ok_t (by omega) ?_ | with_reducible refine ok_e (by omega) ?_ | with_reducible refine ok_if (fun h => ?_) (fun h => ?_) | with_reducible refine ok_s ?_ | with_reducible refine ok_b ?_)
    exact ⟨rfl, rfl⟩
  | succ k ih =>
    intro n i R hi hl hn hb
    obtain ⟨n, rfl⟩ : ∃ q, n = q + 1 := ⟨n - 1, by omega⟩
    have e1 : (200 * (6 * (p : Int) + (s : Int)) + (i : Int)).toNat = 200 * (6 * p + s) + i := by omega
    have e2 : (200 * (6 * (p : Int) + (u : Int)) + (i : Int)).toNat = 200 * (6 * p + u) + i := by omega
    have e5 : (i : Int) + 1 = ((i + 1 : Nat) : Int) := by omega
    have hbi := hb i (by omega)
    have ew : w_b (R.1 231 (200 * (6 * p + s) + i)) = R.1 231 (200 * (6 * p + s) + i) := by
      unfold w_b
      omega
    have ih2 := ih n (i + 1) (w_put R 231 (200 * (6 * p + u) + i) (R.1 231 (200 * (6 * p + s) + i))) (by simp only [w_put_r, w_arr_r, reduceIte, Nat.reduceEqDiff, pt_at]; omega) (by simp only [w_put_r, w_arr_r, reduceIte, Nat.reduceEqDiff, pt_at]; exact hl) (by omega) (fun j hj => by
      simp only [w_put_r, w_arr_r, reduceIte, Nat.reduceEqDiff, pt_at]
      rw [if_neg (by omega)]
      exact hb j (by omega))
    refine ok_eq ?_
    rw [El_R_copyOctets, Int.toNat_natCast, e1, e2, ew]
    repeat' (first | with_reducible refine ok_nb (by omega) ?_ | with_reducible refine ok_ib (by omega) ?_ | with_reducible refine ok_t (by omega) ?_ | with_reducible refine ok_e (by omega) ?_ | with_reducible refine ok_if (fun h => ?_) (fun h => ?_) | with_reducible refine ok_s ?_ | with_reducible refine ok_b ?_)
    rw [e5]
    refine ok_of ih2 ⟨rfl, ?_⟩
    rw [w_put_pt, w_arr_arr]
    refine congrArg (w_arr R 231) ?_
    funext j
    unfold cpf
    simp only [w_arr_r, reduceIte, Nat.reduceEqDiff, pt_at]
    (repeat' split) <;> first | rfl | omega | exact congrArg (R.1 231) (by omega)
theorem x_copyOct {e : w_E} {N : Nat} {S R : w_S} {p s u : Nat} (hN : 1000 ≤ N) (hp : 1 ≤ p ∧ p ≤ 30) (hs : s < 6) (hu : u < 6) (hsu : s ≠ u) (hl : R.1 228 p = S.1 90 p) (hl2 : 1 ≤ S.1 90 p ∧ S.1 90 p ≤ 200) (hb : ∀ i : Nat, (i : Int) < S.1 90 p → -128 ≤ R.1 231 (200 * (6 * p + s) + i) ∧ R.1 231 (200 * (6 * p + s) + i) ≤ 127) : E_R_copyOctets e N p s u R = some (0, w_arr R 231 (cpf (R.1 231) (200 * (6 * p + s)) (200 * (6 * p + u)) (S.1 90 p).toNat)) := by
  have := l_copyOctets (e := e) (N := N) hp hs hu hsu (S.1 90 p).toNat N 0 R (by omega) (by omega) (by omega) (fun j hj => hb j (by omega))
  exact this
/-- one copy becomes another one's, and is there -/
theorem q_cpy {S R : w_S} {p s u : Nat} (h : RelS S R) (hp : 1 ≤ p) (hp2 : (p : Int) ≤ S.1 89 0) (hs : s < 6) (hu : u < 6) (hsu : s ≠ u) (hps : S.1 92 (6 * p + s) = 1) (A : Nat → Int) (hA : A = pt (S.1 92) (6 * p + u) 1) : RelS (w_arr (w_arr S 93 (cpf (S.1 93) (200 * (6 * p + s)) (200 * (6 * p + u)) (S.1 90 p).toNat)) 92 A) (w_arr (w_arr R 231 (cpf (R.1 231) (200 * (6 * p + s)) (200 * (6 * p + u)) (S.1 90 p).toNat)) 230 (pt (R.1 230) (6 * p + u) 1)) := by
  obtain ⟨h1, h2, h3, h4, h5⟩ := h
  subst hA
  have hq := h5 p hp hp2
  have hb := (hq.2.2.2 s hs).2.2 hps
  simp only [RelS, w_put_r, w_arr_r, reduceIte, Nat.reduceEqDiff, pt_at]
  refine ⟨h1, h2, h3, h4, fun p' p1 p2 => ?_⟩
  obtain ⟨y1, y2, y3, y4⟩ := h5 p' p1 p2
  refine ⟨y1, y2, y3, fun s' hs' => ?_⟩
  obtain ⟨z1, z2, z3⟩ := y4 s' hs'
  by_cases e : 6 * p' + s' = 6 * p + u
  · have ep : p' = p := by omega
    have eu : s' = u := by omega
    subst ep
    subst eu
    simp only [if_true]
    refine ⟨Or.inr trivial, trivial, fun _ i hi => ?_⟩
    have := hb i hi
    unfold cpf
    rw [if_pos (by omega), if_pos (by omega)]
    have e2 : 200 * (6 * p' + s) + (200 * (6 * p' + s') + i - 200 * (6 * p' + s')) = 200 * (6 * p' + s) + i := by omega
    rw [e2]
    exact this
  · simp only [if_neg e]
    refine ⟨z1, z2, fun q i hi => ?_⟩
    have := z3 q i hi
    unfold cpf
    rw [if_neg (by omega), if_neg (by omega)]
    exact this
end
section
-- a9
theorem w_arr_comm (S : w_S) (a b : Nat) (f g : Nat → Int) (h : a ≠ b) : w_arr (w_arr S a f) b g = w_arr (w_arr S b g) a f := by
  have : (fun c j => if c = b then g j else if c = a then f j else S.1 c j) = (fun c j => if c = a then f j else if c = b then g j else S.1 c j) := by
    funext c j
    by_cases h1 : c = a
    · by_cases h2 : c = b
      · exact absurd (h1.symm.trans h2) h
      · rw [if_pos h1, if_neg h2, if_pos h1]
    · rw [if_neg h1, if_neg h1]
  unfold w_arr
  dsimp only
  rw [this]
theorem x_copiesOf {e : w_E} {N : Nat} {S R : w_S} {p : Nat} (hN : 1000 ≤ N) (h : RelS S R) (hp : 1 ≤ p) (hp2 : (p : Int) ≤ S.1 89 0) : E_Stores_copiesOf e N p S = some (cnt (fun j => !decide (S.1 92 (6 * p + j) = 0)) 0 6, S) ∧ E_R_copiesOf e N p R = some (cnt (fun j => !decide (S.1 92 (6 * p + j) = 0)) 0 6, R) := by
  have h3 := h.2.2.1
  have h5 := (h.2.2.2.2 p hp hp2).2.2.2
  have k1 := ok_eq (l_copiesOf (e := e) (N := N) (S := S) (x1 := (p : Int)) (by omega) 6 N 0 0 (by omega) (by omega) (by omega) (by omega) (by omega))
  have k2 := ok_eq (l_copiesOfR (e := e) (N := N) (S := R) (x1 := (p : Int)) (by omega) 6 N 0 0 (by omega) (by omega) (by omega) (by omega) (by omega))
  have e0 : (0 : Int).toNat = 0 := rfl
  rw [Int.zero_add, e0, Int.toNat_natCast] at k1 k2
  refine ⟨k1, ?_⟩
  have hc : cnt (fun j => !decide (R.1 230 (6 * p + j) = 0)) 0 6 = cnt (fun j => !decide (S.1 92 (6 * p + j) = 0)) 0 6 := cnt_congr _ _ (fun j _ b => by
    rw [(h5 j (by omega)).2.1])
  rw [hc] at k2
  exact k2
theorem q_cpy' {S R : w_S} {p s u : Nat} (h : RelS S R) (hp : 1 ≤ p) (hp2 : (p : Int) ≤ S.1 89 0) (hs : s < 6) (hu : u < 6) (hsu : s ≠ u) (hps : S.1 92 (6 * p + s) = 1) (hpu : S.1 92 (6 * p + u) = 1) : RelS (w_arr S 93 (cpf (S.1 93) (200 * (6 * p + s)) (200 * (6 * p + u)) (S.1 90 p).toNat)) (w_arr R 231 (cpf (R.1 231) (200 * (6 * p + s)) (200 * (6 * p + u)) (S.1 90 p).toNat)) := by
  have hA : S.1 92 = pt (S.1 92) (6 * p + u) 1 := by
    funext j
    rw [pt_at]
    split
    · next e => rw [e, hpu]
    · rfl
  have hB : pt (R.1 230) (6 * p + u) 1 = R.1 230 := by
    funext j
    rw [pt_at]
    split
    · next e => rw [e, ((h.2.2.2.2 p hp hp2).2.2.2 u hu).2.1, hpu]
    · rfl
  have := q_cpy h hp hp2 hs hu hsu hps (S.1 92) hA
  rw [hB] at this
  have e1 : w_arr (w_arr S 93 (cpf (S.1 93) (200 * (6 * p + s)) (200 * (6 * p + u)) (S.1 90 p).toNat)) 92 (S.1 92) = w_arr S 93 (cpf (S.1 93) (200 * (6 * p + s)) (200 * (6 * p + u)) (S.1 90 p).toNat) := by
    have := w_arr_self (w_arr S 93 (cpf (S.1 93) (200 * (6 * p + s)) (200 * (6 * p + u)) (S.1 90 p).toNat)) 92
    rw [w_arr_r, if_neg (by decide)] at this
    exact this
  have e2 : w_arr (w_arr R 231 (cpf (R.1 231) (200 * (6 * p + s)) (200 * (6 * p + u)) (S.1 90 p).toNat)) 230 (R.1 230) = w_arr R 231 (cpf (R.1 231) (200 * (6 * p + s)) (200 * (6 * p + u)) (S.1 90 p).toNat) := by
    have := w_arr_self (w_arr R 231 (cpf (R.1 231) (200 * (6 * p + s)) (200 * (6 * p + u)) (S.1 90 p).toNat)) 230
    rw [w_arr_r, if_neg (by decide)] at this
    exact this
  rw [e1, e2] at this
  exact this
theorem t_mend1 {e : w_E} {N : Nat} {p s : Nat} (hN : 1000 ≤ N) (hp : 1 ≤ p) (hs : s < 6) : ∀ (k n n' : Nat) (mv st : Int) (S R : w_S), RelS S R → (p : Int) ≤ S.1 89 0 → S.1 92 (6 * p + s) = 1 → E_Stores_nextStore e N p S = some (st, S) → E_R_storeFor e N p R = some (st, R) → (st = -1 ∨ 0 ≤ st ∧ st < 6 ∧ S.1 92 (6 * p + st.toNat) = 0) → 3 ≤ cnt (fun j => !decide (S.1 92 (6 * p + j) = 0)) 0 6 + k → k < n → k < n' → 0 ≤ mv → mv + k ≤ 1000 → Ok (El_Stores_mendPackage e N n 1 [p, s, mv, st, cnt (fun j => !decide (S.1 92 (6 * p + j) = 0)) 0 6] [] S) (fun y S1 => Ok (El_R_doMend e N n' 1 [p, s, mv, st] [] R) (fun y' R1 => y' = y ∧ 0 ≤ y ∧ Qs S R S1 R1)) := by
  intro k
  induction k with
  | zero =>
    intro n n' mv st S R h hp2 hps k1 k2 hst hc hn hn' hmv hmv2
    obtain ⟨n, rfl⟩ : ∃ q, n = q + 1 := ⟨n - 1, by omega⟩
    obtain ⟨n', rfl⟩ : ∃ q, n' = q + 1 := ⟨n' - 1, by omega⟩
    obtain ⟨_, c2⟩ := x_copiesOf (e := e) (N := N) hN h hp hp2
    rw [El_Stores_mendPackage, El_R_doMend]
    repeat' (first | (with_reducible refine ok_of c2 ?_; dsimp only) | with_reducible refine ok_nb (by omega) ?_ | with_reducible refine ok_ib (by omega) ?_ | with_reducible refine ok_t (by omega) ?_ | with_reducible refine ok_e (by omega) ?_ | with_reducible refine ok_if (fun h => ?_) (fun h => ?_) | with_reducible refine ok_s ?_ | with_reducible refine ok_b ?_)
    exact ⟨rfl, hmv, frm.refl _ _ _ _, frm.refl _ _ _ _, h⟩
  | succ k ih =>
    intro n n' mv st S R h hp2 hps k1 k2 hst hc hn hn' hmv hmv2
    obtain ⟨n, rfl⟩ : ∃ q, n = q + 1 := ⟨n - 1, by omega⟩
    obtain ⟨n', rfl⟩ : ∃ q, n' = q + 1 := ⟨n' - 1, by omega⟩
    obtain ⟨_, c2⟩ := x_copiesOf (e := e) (N := N) hN h hp hp2
    have h3 := h.2.2.1
    obtain ⟨y1, y2, y3, y4⟩ := h.2.2.2.2 p hp hp2
    rw [El_Stores_mendPackage, El_R_doMend]
    by_cases hd : 3 ≤ cnt (fun j => !decide (S.1 92 (6 * p + j) = 0)) 0 6 ∨ st = -1
    · clear ih
      have h00 := h
      repeat' (first | (with_reducible refine ok_of c2 ?_; dsimp only) | with_reducible refine ok_nb (by omega) ?_ | with_reducible refine ok_ib (by omega) ?_ | with_reducible refine ok_t (by omega) ?_ | with_reducible refine ok_e (by omega) ?_ | with_reducible refine ok_if (fun h => ?_) (fun h => ?_) | with_reducible refine ok_s ?_ | with_reducible refine ok_b ?_)
      all_goals first | exact ⟨rfl, hmv, frm.refl _ _ _ _, frm.refl _ _ _ _, h00⟩ | (exfalso; omega)
    · have hst2 := hst.resolve_left (fun q => hd (Or.inr q))
      obtain ⟨u, hu⟩ : ∃ u : Nat, st = u := ⟨st.toNat, by omega⟩
      subst hu
      rw [Int.toNat_natCast] at hst2
      have hsu : s ≠ u := by
        intro q
        rw [q] at hps
        omega
      have eA : w_put (w_cpy S 93 93 (200 * (6 * p + s)) (200 * (6 * p + u)) (S.1 90 p).toNat) 92 (6 * p + u) 1 = w_arr (w_arr S 93 (cpf (S.1 93) (200 * (6 * p + s)) (200 * (6 * p + u)) (S.1 90 p).toNat)) 92 (pt (S.1 92) (6 * p + u) 1) := by
        rw [w_cpy_cpf, w_put_pt, w_arr_r, if_neg (by decide)]
      have hR := q_cpy h hp hp2 hs (by omega) hsu hps (pt (S.1 92) (6 * p + u) 1) rfl
      have co := x_copyOct (e := e) (N := N) (S := S) (R := w_put R 230 (6 * p + u) 1) (p := p) (s := s) (u := u) hN ⟨hp, by omega⟩ hs (by omega) hsu (by simp only [w_put_r, w_arr_r, reduceIte, Nat.reduceEqDiff, pt_at]; exact y1) ⟨y2, y3⟩ (fun i hi => by
        simp only [w_put_r, w_arr_r, reduceIte, Nat.reduceEqDiff, pt_at]
        have := (y4 s hs).2.2 hps i hi
        omega)
      have eB : w_arr (w_put R 230 (6 * p + u) 1) 231 (cpf ((w_put R 230 (6 * p + u) 1).1 231) (200 * (6 * p + s)) (200 * (6 * p + u)) (S.1 90 p).toNat) = w_arr (w_arr R 231 (cpf (R.1 231) (200 * (6 * p + s)) (200 * (6 * p + u)) (S.1 90 p).toNat)) 230 (pt (R.1 230) (6 * p + u) 1) := by
        rw [w_put_r, if_neg (by decide), w_put_pt, w_arr_comm _ _ _ _ _ (by decide)]
      rw [eB] at co
      generalize hS2 : w_arr (w_arr S 93 (cpf (S.1 93) (200 * (6 * p + s)) (200 * (6 * p + u)) (S.1 90 p).toNat)) 92 (pt (S.1 92) (6 * p + u) 1) = S2 at *
      generalize hR2 : w_arr (w_arr R 231 (cpf (R.1 231) (200 * (6 * p + s)) (200 * (6 * p + u)) (S.1 90 p).toNat)) 230 (pt (R.1 230) (6 * p + u) 1) = R2 at *
      have g92 : S2.1 92 = pt (S.1 92) (6 * p + u) 1 := by
        rw [← hS2]
        simp only [w_arr_r, reduceIte, Nat.reduceEqDiff]
      have g89 : S2.1 89 = S.1 89 := by
        rw [← hS2]
        simp only [w_arr_r, reduceIte, Nat.reduceEqDiff]
      have hfS : frm SC [89] SJ S S2 := by
        rw [← hS2]
        repeat (first | exact frm.refl _ _ _ _ | refine frm.put ?_ rfl | refine frm.puto ?_ rfl rfl | refine frm.arr ?_ rfl)
      have hfR : frm SCr [129] SJr R R2 := by
        rw [← hR2]
        repeat (first | exact frm.refl _ _ _ _ | refine frm.put ?_ rfl | refine frm.puto ?_ rfl rfl | refine frm.arr ?_ rfl)
      have hc1 : cnt (fun j => !decide (S2.1 92 (6 * p + j) = 0)) 0 6 = cnt (fun j => !decide (S.1 92 (6 * p + j) = 0)) 0 6 + 1 := by
        refine cnt_drop (a := u) (by omega) (by omega) ?_ ?_ (fun j hj => ?_)
        · rw [g92, pt_at, if_pos rfl]
          rfl
        · rw [hst2.2.2]
          rfl
        · rw [g92, pt_at, if_neg (by omega)]
      obtain ⟨v, v1, v2, v3⟩ := x_store (e := e) (N := N) (p := p) hN hR hp (by rw [g89]; exact hp2)
      have ih2 := ih n n' (mv + 1) v S2 R2 hR (by rw [g89]; exact hp2) (by rw [g92, pt_at, if_neg (by omega)]; exact hps) v1 v2 (by
        rcases v3 with ⟨a, _⟩ | ⟨a, b, _, c⟩
        · exact Or.inl a
        · exact Or.inr ⟨a, b, c⟩) (by omega) (by omega) (by omega) (by omega) (by omega)
      rw [hc1] at ih2
      have e1 : ((p : Int) * 6 + (u : Int)).toNat = 6 * p + u := by omega
      have e2 : (((p : Int) * 6 + (s : Int)) * 200).toNat = 200 * (6 * p + s) := by omega
      have e3 : (((p : Int) * 6 + (u : Int)) * 200).toNat = 200 * (6 * p + u) := by omega
      have e4 : (6 * (p : Int) + (u : Int)).toNat = 6 * p + u := by omega
      rw [e1, e2, e3, Int.toNat_natCast, eA]
      clear ih hst v3 k1 k2
      repeat' (first | with_reducible refine ok_t frb93 ?_ | with_reducible refine okl2 (two93 _) ?_ | (with_reducible refine ok_of v1 ?_; dsimp only) | with_reducible refine ok_nb (by omega) ?_ | with_reducible refine ok_ib (by omega) ?_ | with_reducible refine ok_t (by omega) ?_ | with_reducible refine ok_e (by omega) ?_ | with_reducible refine ok_if (fun h => ?_) (fun h => ?_) | with_reducible refine ok_s ?_ | with_reducible refine ok_b ?_)
      refine ih2.mono (fun y S1 q => ?_)
      rw [e4]
      repeat' (first | (with_reducible refine ok_of c2 ?_; dsimp only; (try rw [e4])) | (with_reducible refine ok_of co ?_; dsimp only) | (with_reducible refine ok_of v2 ?_; dsimp only) | with_reducible refine ok_nb (by omega) ?_ | with_reducible refine ok_ib (by omega) ?_ | with_reducible refine ok_t (by omega) ?_ | with_reducible refine ok_e (by omega) ?_ | with_reducible refine ok_if (fun h => ?_) (fun h => ?_) | with_reducible refine ok_s ?_ | with_reducible refine ok_b ?_)
      refine q.mono (fun y' R1 q => ?_)
      exact ⟨q.1, q.2.1, hfS.trans q.2.2.1, hfR.trans q.2.2.2.1, q.2.2.2.2⟩
theorem t_mend0 {e : w_E} {N : Nat} {p s : Nat} (hN : 1000 ≤ N) (hp : 1 ≤ p) (hs : s < 6) : ∀ (k n n' i : Nat) (mv : Int) (S R : w_S), RelS S R → (p : Int) ≤ S.1 89 0 → S.1 92 (6 * p + s) = 1 → i + k = 6 → k + 20 ≤ n → k + 20 ≤ n' → 0 ≤ mv → mv + k ≤ 100 → Ok (El_Stores_mendPackage e N n 0 [p, s, mv, i] [] S) (fun y S1 => Ok (El_R_doMend e N n' 0 [p, s, mv, i] [] R) (fun y' R1 => y' = y ∧ 0 ≤ y ∧ Qs S R S1 R1)) := by
  intro k
  induction k with
  | zero =>
    intro n n' i mv S R h hp2 hps hi hn hn' hmv hmv2
    obtain ⟨n, rfl⟩ : ∃ q, n = q + 1 := ⟨n - 1, by omega⟩
    obtain ⟨n', rfl⟩ : ∃ q, n' = q + 1 := ⟨n' - 1, by omega⟩
    obtain ⟨c1, _⟩ := x_copiesOf (e := e) (N := N) hN h hp hp2
    obtain ⟨v, v1, v2, v3⟩ := x_store (e := e) (N := N) (p := p) hN h hp hp2
    have hcl := cnt_le (fun j => !decide (S.1 92 (6 * p + j) = 0)) 6 0
    have t1 := t_mend1 (e := e) (N := N) (p := p) (s := s) hN hp hs 3 n n' mv v S R h hp2 hps v1 v2 (by
        rcases v3 with ⟨a, _⟩ | ⟨a, b, _, c⟩
        · exact Or.inl a
        · exact Or.inr ⟨a, b, c⟩) (by omega) (by omega) (by omega) hmv (by omega)
    clear v3
    rw [El_Stores_mendPackage, El_R_doMend]
    repeat' (first | (with_reducible refine ok_of v1 ?_; dsimp only) | (with_reducible refine ok_of c1 ?_; dsimp only) | with_reducible refine ok_nb (by omega) ?_ | with_reducible refine ok_ib (by omega) ?_ | with_reducible refine ok_t (by omega) ?_ | with_reducible refine ok_e (by omega) ?_ | with_reducible refine ok_if (fun h => ?_) (fun h => ?_) | with_reducible refine ok_s ?_ | with_reducible refine ok_b ?_)
    refine t1.mono (fun y S1 q => ?_)
    repeat' (first | (with_reducible refine ok_of v2 ?_; dsimp only) | with_reducible refine ok_nb (by omega) ?_ | with_reducible refine ok_ib (by omega) ?_ | with_reducible refine ok_t (by omega) ?_ | with_reducible refine ok_e (by omega) ?_ | with_reducible refine ok_if (fun h => ?_) (fun h => ?_) | with_reducible refine ok_s ?_ | with_reducible refine ok_b ?_)
    exact q
  | succ k ih =>
    intro n n' i mv S R h hp2 hps hi hn hn' hmv hmv2
    obtain ⟨n, rfl⟩ : ∃ q, n = q + 1 := ⟨n - 1, by omega⟩
    obtain ⟨n', rfl⟩ : ∃ q, n' = q + 1 := ⟨n' - 1, by omega⟩
    have h3 := h.2.2.1
    obtain ⟨y1, y2, y3, y4⟩ := h.2.2.2.2 p hp hp2
    obtain ⟨a1, a2⟩ := h.2.2.2.1 i (by omega)
    obtain ⟨a3, a4, a5⟩ := y4 i (by omega)
    have e1 : ((p : Int) * 6 + (i : Int)).toNat = 6 * p + i := by omega
    have e4 : (6 * (p : Int) + (i : Int)).toNat = 6 * p + i := by omega
    have e5 : (i : Int) + 1 = ((i + 1 : Nat) : Int) := by omega
    have en : ∀ m : Nat, ((m : Nat) : Int).toNat = m := fun m => Int.toNat_natCast m
    rw [El_Stores_mendPackage, El_R_doMend, e1, e4, en i, en p, a2, a4]
    have hsm := (x_same (e := e) (N := N) (s := i) (u := s) hN h hp hp2 (by omega) hs).1
    have hal := (x_same (e := e) (N := N) (s := s) (u := i) hN h hp hp2 hs (by omega)).2 hps
    rw [nal_comm] at hsm
    by_cases hh : S.1 91 i = 0 ∧ S.1 92 (6 * p + i) = 1
    · have hal := hal hh.2
      cases hn2 : nal (S.1 93) (200 * (6 * p + s)) (200 * (6 * p + i)) 0 (S.1 90 p).toNat with
      | false =>
        rw [hn2] at hsm hal
        have hs1 : (1 : Int) - bi false = 1 := rfl
        rw [hs1] at hsm hal
        have ih2 := ih n n' (i + 1) mv S R h hp2 hps (by omega) (by omega) (by omega) hmv (by omega)
        rw [← e5] at ih2
        clear ih a5
        repeat' (first | (with_reducible refine ok_of hsm ?_; dsimp only) | with_reducible refine ok_nb (by omega) ?_ | with_reducible refine ok_ib (by omega) ?_ | with_reducible refine ok_t (by omega) ?_ | with_reducible refine ok_e (by omega) ?_ | with_reducible refine ok_if (fun h => ?_) (fun h => ?_) | with_reducible refine ok_s ?_ | with_reducible refine ok_b ?_)
        all_goals first | (exfalso; omega) | skip
        refine ih2.mono (fun y S1 q => ?_)
        repeat' (first | (with_reducible refine ok_of hal ?_; dsimp only) | with_reducible refine ok_nb (by omega) ?_ | with_reducible refine ok_ib (by omega) ?_ | with_reducible refine ok_t (by omega) ?_ | with_reducible refine ok_e (by omega) ?_ | with_reducible refine ok_if (fun h => ?_) (fun h => ?_) | with_reducible refine ok_s ?_ | with_reducible refine ok_b ?_)
        all_goals first | exact q | (exfalso; omega)
      | true =>
        rw [hn2] at hsm hal
        have hs1 : (1 : Int) - bi true = 0 := rfl
        rw [hs1] at hsm hal
        have hsi : s ≠ i := by
          intro q
          rw [q, nal_self] at hn2
          cases hn2
        have hR := q_cpy' h hp hp2 hs (by omega) hsi hps hh.2
        have co := x_copyOct (e := e) (N := N) (S := S) (R := R) (p := p) (s := s) (u := i) hN ⟨hp, by omega⟩ hs (by omega) hsi y1 ⟨y2, y3⟩ (fun j hj => by
          have := (y4 s hs).2.2 hps j hj
          omega)
        have e2 : (((p : Int) * 6 + (s : Int)) * 200).toNat = 200 * (6 * p + s) := by omega
        have e3 : (((p : Int) * 6 + (i : Int)) * 200).toNat = 200 * (6 * p + i) := by omega
        have ih2 := ih n n' (i + 1) (mv + 1) _ _ hR (by simp only [w_put_r, w_arr_r, reduceIte, Nat.reduceEqDiff, pt_at]; exact hp2) (by simp only [w_put_r, w_arr_r, reduceIte, Nat.reduceEqDiff, pt_at]; exact hps) (by omega) (by omega) (by omega) (by omega) (by omega)
        rw [← e5] at ih2
        have hfS : frm SC [89] SJ S (w_arr S 93 (cpf (S.1 93) (200 * (6 * p + s)) (200 * (6 * p + i)) (S.1 90 p).toNat)) := by repeat (first | exact frm.refl _ _ _ _ | refine frm.put ?_ rfl | refine frm.puto ?_ rfl rfl | refine frm.arr ?_ rfl)
        have hfR : frm SCr [129] SJr R (w_arr R 231 (cpf (R.1 231) (200 * (6 * p + s)) (200 * (6 * p + i)) (S.1 90 p).toNat)) := by repeat (first | exact frm.refl _ _ _ _ | refine frm.put ?_ rfl | refine frm.puto ?_ rfl rfl | refine frm.arr ?_ rfl)
        clear ih a5
        repeat' (first | with_reducible refine ok_t frb93 ?_ | with_reducible refine okl2 (two93 _) ?_ | (with_reducible refine ok_of hsm ?_; dsimp only) | with_reducible refine ok_nb (by omega) ?_ | with_reducible refine ok_ib (by omega) ?_ | with_reducible refine ok_t (by omega) ?_ | with_reducible refine ok_e (by omega) ?_ | with_reducible refine ok_if (fun h => ?_) (fun h => ?_) | with_reducible refine ok_s ?_ | with_reducible refine ok_b ?_)
        all_goals first | (exfalso; omega) | skip
        rw [e2, e3, w_cpy_cpf]
        refine ih2.mono (fun y S1 q => ?_)
        repeat' (first | (with_reducible refine ok_of hal ?_; dsimp only) | (with_reducible refine ok_of co ?_; dsimp only) | with_reducible refine ok_t trivial ?_ | with_reducible refine ok_nb (by omega) ?_ | with_reducible refine ok_ib (by omega) ?_ | with_reducible refine ok_t (by omega) ?_ | with_reducible refine ok_e (by omega) ?_ | with_reducible refine ok_if (fun h => ?_) (fun h => ?_) | with_reducible refine ok_s ?_ | with_reducible refine ok_b ?_)
        all_goals first | (exfalso; omega) | skip
        refine q.mono (fun y' R1 q => ?_)
        exact ⟨q.1, q.2.1, hfS.trans q.2.2.1, hfR.trans q.2.2.2.1, q.2.2.2.2⟩
    · have ih2 := ih n n' (i + 1) mv S R h hp2 hps (by omega) (by omega) (by omega) hmv (by omega)
      rw [← e5] at ih2
      clear ih a5 hal
      repeat' (first | with_reducible refine ok_nb (by omega) ?_ | with_reducible refine ok_ib (by omega) ?_ | with_reducible refine ok_t (by omega) ?_ | with_reducible refine ok_e (by omega) ?_ | with_reducible refine ok_if (fun h => ?_) (fun h => ?_) | with_reducible refine ok_s ?_ | with_reducible refine ok_b ?_)
      all_goals first | (exfalso; omega) | skip
      all_goals
        refine ih2.mono (fun y S1 q => ?_)
        repeat' (first | with_reducible refine ok_nb (by omega) ?_ | with_reducible refine ok_ib (by omega) ?_ | with_reducible refine ok_t (by omega) ?_ | with_reducible refine ok_e (by omega) ?_ | with_reducible refine ok_if (fun h => ?_) (fun h => ?_) | with_reducible refine ok_s ?_ | with_reducible refine ok_b ?_)
        all_goals first | exact q | (exfalso; omega)
theorem t_mend {e : w_E} {N : Nat} {S R : w_S} {x1 : Int} (hN : 1000 ≤ N) (h : RelS S R) : Ok (E_Stores_mendPackage e N x1 S) (fun y S1 => Ok (E_R_doMend e N x1 R) (fun y' R1 => Pa S R (fun _ => Qs S R) y S1 y' R1)) := by
  have h1 := h.1
  unfold E_Stores_mendPackage E_R_doMend
  by_cases b : x1 < 1 ∨ S.1 89 0 < x1
  · repeat' (first | with_reducible refine ok_nb (by omega) ?_ | with_reducible refine ok_ib (by omega) ?_ | with_reducible refine ok_t (by omega) ?_ | with_reducible refine ok_e (by omega) ?_ | with_reducible refine ok_if (fun h => ?_) (fun h => ?_) | with_reducible refine ok_s ?_ | with_reducible refine ok_b ?_)
    all_goals first | exact ⟨rfl, Or.inl ⟨by omega, rfl, rfl⟩⟩ | (exfalso; omega)
  obtain ⟨p, hp⟩ : ∃ p : Nat, x1 = p := ⟨x1.toNat, by omega⟩
  subst hp
  obtain ⟨m1, m2⟩ := x_major (e := e) (N := N) (p := p) hN h (by omega) (by omega)
  cases hf : fst (maj S p) 0 6 with
  | none =>
    rw [hf, o1_none] at m1 m2
    repeat' (first | (with_reducible refine ok_of m1 ?_; dsimp only) | (with_reducible refine ok_of m2 ?_; dsimp only) | with_reducible refine ok_nb (by omega) ?_ | with_reducible refine ok_ib (by omega) ?_ | with_reducible refine ok_t (by omega) ?_ | with_reducible refine ok_e (by omega) ?_ | with_reducible refine ok_if (fun h => ?_) (fun h => ?_) | with_reducible refine ok_s ?_ | with_reducible refine ok_b ?_)
    all_goals first | exact ⟨rfl, Or.inl ⟨by omega, rfl, rfl⟩⟩ | (exfalso; omega) | exact absurd rfl h
  | some s =>
    rw [hf, o1_some] at m1 m2
    obtain ⟨f1, f2, f3, _⟩ := fst_some hf
    unfold maj at f3
    simp only [Bool.and_eq_true] at f3
    have f4 := hrd_iff.mp f3.1
    have t0 := t_mend0 (e := e) (N := N) (p := p) (s := s) hN (by omega) (by omega) 6 N N 0 0 S R h (by omega) f4.2 (by omega) (by omega) (by omega) (by omega) (by omega)
    repeat' (first | (with_reducible refine ok_of m1 ?_; dsimp only) | with_reducible refine ok_nb (by omega) ?_ | with_reducible refine ok_ib (by omega) ?_ | with_reducible refine ok_t (by omega) ?_ | with_reducible refine ok_e (by omega) ?_ | with_reducible refine ok_if (fun h => ?_) (fun h => ?_) | with_reducible refine ok_s ?_ | with_reducible refine ok_b ?_)
    all_goals first | (exfalso; omega) | skip
    refine t0.mono (fun y S1 q => ?_)
    repeat' (first | (with_reducible refine ok_of m2 ?_; dsimp only) | with_reducible refine ok_nb (by omega) ?_ | with_reducible refine ok_ib (by omega) ?_ | with_reducible refine ok_t (by omega) ?_ | with_reducible refine ok_e (by omega) ?_ | with_reducible refine ok_if (fun h => ?_) (fun h => ?_) | with_reducible refine ok_s ?_ | with_reducible refine ok_b ?_)
    all_goals first | (exfalso; omega) | skip
    refine q.mono (fun y' R1 q => ?_)
    exact ⟨q.1, Or.inr ⟨q.2.1, q.2.2⟩⟩
end
section
-- b0
def RelB (S R : w_S)  : Prop := R.1 129 131 = S.1 76 0 ∧ 0 ≤ S.1 76 0 ∧ S.1 76 0 ≤ 20 ∧ ∀ s : Nat, 1 ≤ s → (s : Int) ≤ S.1 76 0 → R.1 217 s = S.1 77 s ∧ 1 ≤ S.1 77 s ∧ S.1 77 s ≤ S.1 3 0 ∧ R.1 218 s = S.1 78 s ∧ 0 ≤ S.1 78 s ∧ S.1 78 s ≤ 99 ∧ R.1 219 s = S.1 79 s ∧ 0 ≤ S.1 79 s ∧ S.1 79 s ≤ 300 ∧ (∀ i : Nat, (i : Int) < S.1 79 s → R.1 220 (300 * s + i) = S.1 80 (300 * s + i) ∧ R.1 221 (300 * s + i) = S.1 81 (300 * s + i) ∧ 0 ≤ S.1 80 (300 * s + i) ∧ S.1 80 (300 * s + i) ≤ 50000) ∧ ∀ i j : Nat, i < j → (j : Int) < S.1 79 s → S.1 80 (300 * s + i) < S.1 80 (300 * s + j)
theorem RelB.fr {S R S1 R1 : w_S}  {L O L' O' : List Nat} {J J' : List (Nat × Nat)} (h : RelB S R ) (hf : frm L O J S S1) (hg : frm L' O' J' R R1) (dd : (ckA L O [77, 78, 79, 80, 81] && (ckS L J [(76, 0), (3, 0)] && (ckA L' O' [217, 218, 219, 220, 221] && ckS L' J' [(129, 131)]))) = true) : RelB S1 R1  := by
  have d := ck4 dd
  have a0 : S1.1 77 = S.1 77 := hf.2.1 77 (d.1 77 (by decide)).1 (d.1 77 (by decide)).2
  have a1 : S1.1 78 = S.1 78 := hf.2.1 78 (d.1 78 (by decide)).1 (d.1 78 (by decide)).2
  have a2 : S1.1 79 = S.1 79 := hf.2.1 79 (d.1 79 (by decide)).1 (d.1 79 (by decide)).2
  have a3 : S1.1 80 = S.1 80 := hf.2.1 80 (d.1 80 (by decide)).1 (d.1 80 (by decide)).2
  have a4 : S1.1 81 = S.1 81 := hf.2.1 81 (d.1 81 (by decide)).1 (d.1 81 (by decide)).2
  have b0 : S1.1 76 0 = S.1 76 0 := hf.2.2 76 0 (d.2.1 (76, 0) (by decide)).1 (d.2.1 (76, 0) (by decide)).2
  have b1 : S1.1 3 0 = S.1 3 0 := hf.2.2 3 0 (d.2.1 (3, 0) (by decide)).1 (d.2.1 (3, 0) (by decide)).2
  have g0 : R1.1 217 = R.1 217 := hg.2.1 217 (d.2.2.1 217 (by decide)).1 (d.2.2.1 217 (by decide)).2
  have g1 : R1.1 218 = R.1 218 := hg.2.1 218 (d.2.2.1 218 (by decide)).1 (d.2.2.1 218 (by decide)).2
  have g2 : R1.1 219 = R.1 219 := hg.2.1 219 (d.2.2.1 219 (by decide)).1 (d.2.2.1 219 (by decide)).2
  have g3 : R1.1 220 = R.1 220 := hg.2.1 220 (d.2.2.1 220 (by decide)).1 (d.2.2.1 220 (by decide)).2
  have g4 : R1.1 221 = R.1 221 := hg.2.1 221 (d.2.2.1 221 (by decide)).1 (d.2.2.1 221 (by decide)).2
  have k0 : R1.1 129 131 = R.1 129 131 := hg.2.2 129 131 (d.2.2.2 (129, 131) (by decide)).1 (d.2.2.2 (129, 131) (by decide)).2
  unfold RelB at h ⊢
  simp only [a0, a1, a2, a3, a4, b0, b1, g0, g1, g2, g3, g4, k0]
  exact h
def Qb (S R : w_S) (S1 R1 : w_S) : Prop := frm [77, 78, 79, 80, 81, 82] [76] [(76, 0)] S S1 ∧ frm [217, 218, 219, 220, 221] [129] [(129, 131)] R R1 ∧ RelB S1 R1
theorem t_came {e : w_E} {N : Nat} {S R : w_S} {x1 x2 : Int} (h : RelB S R) (ht : R.1 129 12 = S.1 27 1) : Ok (E_Buying_receive e N x1 x2 (S.1 27 1) S) (fun y S1 => Ok (E_R_doCame e N x1 x2 R) (fun y' R1 => Pa S R (fun _ => Qb S R) y S1 y' R1)) := by
  obtain ⟨h1, h2, h3, h4⟩ := h
  by_cases b : 1 ≤ x1 ∧ x1 ≤ S.1 76 0 ∧ 0 ≤ x2 ∧ x2 < S.1 79 x1.toNat
  · obtain ⟨a1, a2, a3, a4, a5, a6, a7, a8, a9, a10, a11⟩ := h4 x1.toNat (by omega) (by omega)
    obtain ⟨c1, c2, c3, c4⟩ := a10 x2.toNat (by omega)
    have e1 : (x1 * 300 + x2).toNat = 300 * x1.toNat + x2.toNat := by omega
    have e2 : (300 * x1 + x2).toNat = 300 * x1.toNat + x2.toNat := by omega
    have fin : Qb S R (w_put S 81 (300 * x1.toNat + x2.toNat) (S.1 27 1)) (w_put R 221 (300 * x1.toNat + x2.toNat) (S.1 27 1)) := by
      refine ⟨?_, ?_, ?_⟩
      · repeat (first | exact frm.refl _ _ _ _ | refine frm.put ?_ rfl | refine frm.puto ?_ rfl rfl | refine frm.arr ?_ rfl)
      · repeat (first | exact frm.refl _ _ _ _ | refine frm.put ?_ rfl | refine frm.puto ?_ rfl rfl | refine frm.arr ?_ rfl)
      · simp only [RelB, w_put_r, w_arr_r, reduceIte, Nat.reduceEqDiff, pt_at]
        refine ⟨h1, h2, h3, fun s p1 p2 => ?_⟩
        obtain ⟨d1, d2, d3, d4, d5, d6, d7, d8, d9, d10, d11⟩ := h4 s p1 p2
        refine ⟨d1, d2, d3, d4, d5, d6, d7, d8, d9, fun i hi => ?_, d11⟩
        obtain ⟨f1, f2, f3, f4⟩ := d10 i hi
        refine ⟨f1, ?_, f3, f4⟩
        split
        · rfl
        · exact f2
    have kI : E_R_isIssue e N x1 x2 R = some (1, R) := by
      refine ok_eq ?_
      unfold E_R_isIssue
      repeat' (first | with_reducible refine ok_nb (by omega) ?_ | with_reducible refine ok_ib (by omega) ?_ | with_reducible refine ok_t (by omega) ?_ | with_reducible refine ok_e (by omega) ?_ | with_reducible refine ok_if (fun h => ?_) (fun h => ?_) | with_reducible refine ok_s ?_ | with_reducible refine ok_b ?_)
      exact ⟨rfl, rfl⟩
    clear a10 a11
    unfold E_Buying_receive E_R_doCame
    rw [e1, e2]
    repeat' (first | (with_reducible refine ok_of kI ?_; dsimp only; (try rw [e2])) | with_reducible refine ok_nb (by omega) ?_ | with_reducible refine ok_ib (by omega) ?_ | with_reducible refine ok_t (by omega) ?_ | with_reducible refine ok_e (by omega) ?_ | with_reducible refine ok_if (fun h => ?_) (fun h => ?_) | with_reducible refine ok_s ?_ | with_reducible refine ok_b ?_)
    all_goals first | exact ⟨rfl, Or.inl ⟨by omega, rfl, rfl⟩⟩ | skip
    rw [ht]
    exact ⟨rfl, Or.inr ⟨by omega, fin⟩⟩
  · have a7 : 1 ≤ x1 → x1 ≤ S.1 76 0 → R.1 219 x1.toNat = S.1 79 x1.toNat ∧ 0 ≤ S.1 79 x1.toNat ∧ S.1 79 x1.toNat ≤ 300 := fun p q => by
      have := h4 x1.toNat (by omega) (by omega)
      exact ⟨this.2.2.2.2.2.2.1, this.2.2.2.2.2.2.2.1, this.2.2.2.2.2.2.2.2.1⟩
    have kI : E_R_isIssue e N x1 x2 R = some (0, R) := by
      refine ok_eq ?_
      unfold E_R_isIssue
      repeat' (first | with_reducible refine ok_nb (by omega) ?_ | with_reducible refine ok_ib (by omega) ?_ | with_reducible refine ok_t (by omega) ?_ | with_reducible refine ok_e (by omega) ?_ | with_reducible refine ok_if (fun h => ?_) (fun h => ?_) | with_reducible refine ok_s ?_ | with_reducible refine ok_b ?_)
      all_goals first | exact ⟨rfl, rfl⟩ | (exfalso; omega)
    unfold E_Buying_receive E_R_doCame
    repeat' (first | (with_reducible refine ok_of kI ?_; dsimp only) | with_reducible refine ok_nb (by omega) ?_ | with_reducible refine ok_ib (by omega) ?_ | with_reducible refine ok_t (by omega) ?_ | with_reducible refine ok_e (by omega) ?_ | with_reducible refine ok_if (fun h => ?_) (fun h => ?_) | with_reducible refine ok_s ?_ | with_reducible refine ok_b ?_)
    all_goals first | exact ⟨rfl, Or.inl ⟨by omega, rfl, rfl⟩⟩ | (exfalso; omega)
theorem q_issue {e : w_E} {N : Nat} {S R : w_S} {x1 x2 x3 : Int} (h : RelB S R) : Ok (E_C_issue e N x1 x2 x3 S) (fun y S1 => Ok (E_R_issue e N x1 x2 x3 R) (fun y' R1 => y' = y ∧ S1 = S ∧ R1 = R)) := by
  obtain ⟨h1, h2, h3, h4⟩ := h
  unfold E_C_issue E_Buying_tellIssue E_R_issue
  simp only [e_sw_cons, e_sw_nil]
  by_cases b : x1 < 1 ∨ S.1 76 0 < x1
  · repeat' (first | with_reducible refine ok_nb (by omega) ?_ | with_reducible refine ok_ib (by omega) ?_ | with_reducible refine ok_t (by omega) ?_ | with_reducible refine ok_e (by omega) ?_ | with_reducible refine ok_if (fun h => ?_) (fun h => ?_) | with_reducible refine ok_s ?_ | with_reducible refine ok_b ?_)
    all_goals first | exact ⟨rfl, rfl, rfl⟩ | (exfalso; omega)
  obtain ⟨a1, a2, a3, a4, a5, a6, a7, a8, a9, a10, a11⟩ := h4 x1.toNat (by omega) (by omega)
  by_cases b2 : x2 < 0 ∨ S.1 79 x1.toNat ≤ x2
  · repeat' (first | with_reducible refine ok_nb (by omega) ?_ | with_reducible refine ok_ib (by omega) ?_ | with_reducible refine ok_t (by omega) ?_ | with_reducible refine ok_e (by omega) ?_ | with_reducible refine ok_if (fun h => ?_) (fun h => ?_) | with_reducible refine ok_s ?_ | with_reducible refine ok_b ?_)
    all_goals first | exact ⟨rfl, rfl, rfl⟩ | (exfalso; omega)
  obtain ⟨c1, c2, c3, c4⟩ := a10 x2.toNat (by omega)
  have e1 : (x1 * 300 + x2).toNat = 300 * x1.toNat + x2.toNat := by omega
  have e2 : (300 * x1 + x2).toNat = 300 * x1.toNat + x2.toNat := by omega
  have hr := w_op_n (fun a b => a - a / b * b) x2 (S.1 78 x1.toNat)
  have hd := w_op_n (fun a b => a / b) x2 (S.1 78 x1.toNat)
  have hr2 : 1 ≤ S.1 78 x1.toNat → w_rem x2 (S.1 78 x1.toNat) = x2 % S.1 78 x1.toNat := fun q => b_rem (by omega) (by omega) (by omega) (by omega)
  have hd2 : 1 ≤ S.1 78 x1.toNat → w_div x2 (S.1 78 x1.toNat) = x2 / S.1 78 x1.toNat := fun q => b_div (by omega) (by omega) (by omega) (by omega)
  have hr3 : 1 ≤ S.1 78 x1.toNat → 0 ≤ x2 % S.1 78 x1.toNat ∧ x2 % S.1 78 x1.toNat ≤ 100000 := fun q => ⟨Int.emod_nonneg _ (by omega), by
    have := Int.emod_lt_of_pos x2 (by omega : 0 < S.1 78 x1.toNat)
    omega⟩
  have hd3 : 1 ≤ S.1 78 x1.toNat → 0 ≤ x2 / S.1 78 x1.toNat ∧ x2 / S.1 78 x1.toNat ≤ x2 := fun q => ⟨Int.ediv_nonneg (by omega) (by omega), Int.ediv_le_self _ (by omega)⟩
  rw [e1, e2, a4, c1, c2]
  clear a10 a11 hr hd
  generalize w_rem x2 (S.1 78 x1.toNat) = wr at *
  generalize w_div x2 (S.1 78 x1.toNat) = wd at *
  generalize x2 % S.1 78 x1.toNat = xr at *
  generalize x2 / S.1 78 x1.toNat = xd at *
  repeat' (first | with_reducible refine ok_nb (by omega) ?_ | with_reducible refine ok_ib (by omega) ?_ | with_reducible refine ok_t (by omega) ?_ | with_reducible refine ok_e (by omega) ?_ | with_reducible refine ok_if (fun h => ?_) (fun h => ?_) | with_reducible refine ok_s ?_ | with_reducible refine ok_b ?_)
  all_goals first | exact ⟨rfl, rfl, rfl⟩ | (exfalso; omega) | exact ⟨by omega, rfl, rfl⟩
end
section
-- b1
def cmb (S : w_S) (td : Int) (s k : Nat) : Bool := decide (S.1 81 (300 * s + k) = -1) && decide (S.1 80 (300 * s + k) + 10 < td)
/-- the next to be claimed of so many from a place on, or their number -/
def nxc (C : Nat → Bool) (n i : Nat) : Nat := (fst C i (n - i)).getD n
theorem nxc_step {C : Nat → Bool} {n i : Nat} (h : i < n) (hc : C i = false) : nxc C n i = nxc C n (i + 1) := by
  unfold nxc
  rw [show n - i = (n - (i + 1)) + 1 by omega, fst, if_neg (by rw [hc]; decide)]
theorem nxc_at {C : Nat → Bool} {n i : Nat} (h : i < n) (hc : C i = true) : nxc C n i = i := by
  unfold nxc
  rw [show n - i = (n - (i + 1)) + 1 by omega, fst, if_pos hc]
  rfl
theorem nxc_end {C : Nat → Bool} {n i : Nat} (h : n ≤ i) : nxc C n i = n := by
  unfold nxc
  rw [show n - i = 0 by omega]
  rfl
theorem nxc_no {C : Nat → Bool} {n i : Nat} (h : ∀ j, i ≤ j → j < n → C j = false) : nxc C n i = n := by
  unfold nxc
  rw [fst_none_of (fun j h1 h2 => h j h1 (by omega))]
  rfl
theorem nxc_sp {C : Nat → Bool} {n i : Nat} (h : i ≤ n) : i ≤ nxc C n i ∧ nxc C n i ≤ n ∧ (nxc C n i < n → C (nxc C n i) = true) ∧ ∀ j, i ≤ j → j < nxc C n i → C j = false := by
  unfold nxc
  cases q : fst C i (n - i) with
  | none =>
    have := fst_none q
    exact ⟨h, Nat.le_refl _, fun p => by simp only [Option.getD] at p; omega, fun j h1 h2 => this j h1 (by simp only [Option.getD] at h2; omega)⟩
  | some k =>
    obtain ⟨h1, h2, h3, h4⟩ := fst_some q
    exact ⟨h1, by simp only [Option.getD]; omega, fun _ => h3, h4⟩
theorem l_goto {e : w_E} {N : Nat} {S : w_S} {s n : Nat} {td : Int} (hs : 1 ≤ s ∧ s ≤ 20) (hn : S.1 79 s = n) (hn2 : n ≤ 300) (hd : ∀ i, i < n → 0 ≤ S.1 80 (300 * s + i) ∧ S.1 80 (300 * s + i) ≤ 50000) (hm : ∀ i j, i < j → j < n → S.1 80 (300 * s + i) < S.1 80 (300 * s + j)) : ∀ (m i f : Nat), i + m = n → m < f → El_Buying_goToClaim e N f 0 [(s : Int), td, (i : Int)] [] S = some (0, w_put S 82 s ((nxc (cmb S td s) n i : Nat) : Int))
  | 0, i, f + 1, h1, h2 => by
    have en : ∀ m : Nat, ((m : Int)).toNat = m := fun m => by omega
    refine ok_eq ?_
    rw [El_Buying_goToClaim, nxc_end (by omega), en, hn]
    repeat' (first | with_reducible refine ok_nb (by omega) ?_ | with_reducible refine ok_ib (by omega) ?_ | with_reducible refine ok_t (by omega) ?_ | with_reducible refine ok_e (by omega) ?_ | with_reducible refine ok_if (fun h => ?_) (fun h => ?_) | with_reducible refine ok_s ?_ | with_reducible refine ok_b ?_)
    exact ⟨rfl, rfl⟩
  | m + 1, i, f + 1, h1, h2 => by
    have en : ∀ m : Nat, ((m : Int)).toNat = m := fun m => by omega
    have ei : ((s : Int) * 300 + (i : Int)).toNat = 300 * s + i := by omega
    have d1 := hd i (by omega)
    have ih := l_goto (e := e) (N := N) (td := td) hs hn hn2 hd hm m (i + 1) f (by omega) (by omega)
    refine ok_eq ?_
    rw [El_Buying_goToClaim, en, ei, hn]
    by_cases c1 : S.1 81 (300 * s + i) = -1
    · by_cases c2 : S.1 80 (300 * s + i) + 10 < td
      · rw [nxc_at (by omega) (by simp only [cmb, Bool.and_eq_true, decide_eq_true_eq]; exact ⟨c1, c2⟩)]
        clear hd hm ih
        repeat' (first | with_reducible refine ok_nb (by omega) ?_ | with_reducible refine ok_ib (by omega) ?_ | with_reducible refine ok_t (by omega) ?_ | with_reducible refine ok_e (by omega) ?_ | with_reducible refine ok_if (fun h => ?_) (fun h => ?_) | with_reducible refine ok_s ?_ | with_reducible refine ok_b ?_)
        exact ⟨rfl, rfl⟩
      · rw [nxc_no (n := n) (fun j j1 j2 => by
          simp only [cmb, Bool.and_eq_false_iff, decide_eq_false_iff_not]
          right
          by_cases e1 : j = i
          · rw [e1]; exact c2
          · have := hm i j (by omega) j2
            omega)]
        clear hd hm ih
        repeat' (first | with_reducible refine ok_nb (by omega) ?_ | with_reducible refine ok_ib (by omega) ?_ | with_reducible refine ok_t (by omega) ?_ | with_reducible refine ok_e (by omega) ?_ | with_reducible refine ok_if (fun h => ?_) (fun h => ?_) | with_reducible refine ok_s ?_ | with_reducible refine ok_b ?_)
        exact ⟨rfl, rfl⟩
    · rw [nxc_step (by omega) (by simp only [cmb, Bool.and_eq_false_iff, decide_eq_false_iff_not]; exact Or.inl c1)]
      clear hd hm
      have e2 : (i : Int) + 1 = ((i + 1 : Nat) : Int) := by omega
      rw [e2]
      repeat' (first | with_reducible refine ok_nb (by omega) ?_ | with_reducible refine ok_ib (by omega) ?_ | with_reducible refine ok_t (by omega) ?_ | with_reducible refine ok_e (by omega) ?_ | with_reducible refine ok_if (fun h => ?_) (fun h => ?_) | with_reducible refine ok_s ?_ | with_reducible refine ok_b ?_)
      exact ok_of ih ⟨rfl, rfl⟩
def bhd (d s k day serial issue : Int) : Prop := (d = day ∧ s = serial ∧ issue < k) ∨ (d = day ∧ serial < s) ∨ day < d
def bhb (d s k day serial issue : Int) : Bool := (decide (d = day) && decide (s = serial) && decide (issue < k)) || (decide (d = day) && decide (serial < s)) || decide (day < d)
theorem bhb_iff {d s k day serial issue : Int} : bhb d s k day serial issue = true ↔ bhd d s k day serial issue := by
  simp only [bhb, bhd, Bool.or_eq_true, Bool.and_eq_true, decide_eq_true_eq, and_assoc, or_assoc]
theorem l_nextClaim {e : w_E} {N : Nat} {S R : w_S} {s n : Nat} {td day serial issue : Int} {C : Nat → Bool} {D : Nat → Int} (hs : 1 ≤ s ∧ s ≤ 20) (hn : R.1 219 s = n) (hn2 : n ≤ 300) (hd : ∀ i, i < n → 0 ≤ R.1 220 (300 * s + i) ∧ R.1 220 (300 * s + i) ≤ 50000 ∧ R.1 220 (300 * s + i) = D i ∧ (C i = true ↔ R.1 221 (300 * s + i) = -1 ∧ R.1 220 (300 * s + i) + 10 < R.1 129 12)) : ∀ (m i f : Nat), i + m = n → m < f → El_R_nextClaim e N f 0 [(s : Int), day, serial, issue, (i : Int)] [] R = some (o1 (-1) (fst (fun k => C k && bhb (D k) s k day serial issue) i m), R)
  | 0, i, f + 1, h1, h2 => by
    have en : ∀ m : Nat, ((m : Int)).toNat = m := fun m => by omega
    refine ok_eq ?_
    rw [El_R_nextClaim, fst, en, hn, o1_none]
    repeat' (first | with_reducible refine ok_nb (by omega) ?_ | with_reducible refine ok_ib (by omega) ?_ | with_reducible refine ok_t (by omega) ?_ | with_reducible refine ok_e (by omega) ?_ | with_reducible refine ok_if (fun h => ?_) (fun h => ?_) | with_reducible refine ok_s ?_ | with_reducible refine ok_b ?_)
    exact ⟨rfl, rfl⟩
  | m + 1, i, f + 1, h1, h2 => by
    have en : ∀ m : Nat, ((m : Int)).toNat = m := fun m => by omega
    have ei : (300 * (s : Int) + (i : Int)).toNat = 300 * s + i := by omega
    obtain ⟨d1, d2, d3, d4⟩ := hd i (by omega)
    have ih := l_nextClaim (e := e) (N := N) (S := S) (td := td) (day := day) (serial := serial) (issue := issue) hs hn hn2 hd m (i + 1) f (by omega) (by omega)
    refine ok_eq ?_
    have e2 : (i : Int) + 1 = ((i + 1 : Nat) : Int) := by omega
    rw [El_R_nextClaim, fst, en, ei, hn, e2]
    rw [d3] at d1 d2 d4 ⊢
    clear hd
    by_cases c1 : (C i && bhb (D i) s i day serial issue) = true
    · rw [if_pos c1, o1_some]
      simp only [Bool.and_eq_true, bhb_iff] at c1
      obtain ⟨c2, c3⟩ := c1
      have c4 := d4.mp c2
      obtain ⟨c5, c6⟩ := c4
      unfold bhd at c3
      clear d4
      repeat' (first | with_reducible refine ok_nb (by omega) ?_ | with_reducible refine ok_ib (by omega) ?_ | with_reducible refine ok_t (by omega) ?_ | with_reducible refine ok_e (by omega) ?_ | with_reducible refine ok_if (fun h => ?_) (fun h => ?_) | with_reducible refine ok_s ?_ | with_reducible refine ok_b ?_)
      all_goals first | exact ⟨rfl, rfl⟩ | (exfalso; omega)
    · rw [if_neg c1]
      simp only [Bool.and_eq_true, bhb_iff, not_and] at c1
      have c3 : R.1 221 (300 * s + i) = -1 → D i + 10 < R.1 129 12 → ¬ bhd (D i) s i day serial issue := fun p q => c1 (d4.mpr ⟨p, q⟩)
      unfold bhd at c3
      clear d4 c1
      repeat' (first | with_reducible refine ok_nb (by omega) ?_ | with_reducible refine ok_ib (by omega) ?_ | with_reducible refine ok_t (by omega) ?_ | with_reducible refine ok_e (by omega) ?_ | with_reducible refine ok_if (fun h => ?_) (fun h => ?_) | with_reducible refine ok_s ?_ | with_reducible refine ok_b ?_)
      all_goals first | exact ok_of ih ⟨rfl, rfl⟩ | skip
      all_goals (exfalso; have c5 := c3 (by omega) (by omega); omega)
end
section
-- b2
/-- the first of the serials by the day of what each is to claim next; 0: none has any -/
def bst (D : Nat → Nat → Int) (n q : Nat → Nat) : Nat → Nat
  | 0 => 0
  | j + 1 => if q (j + 1) < n (j + 1) ∧ (bst D n q j = 0 ∨ D (j + 1) (q (j + 1)) < D (bst D n q j) (q (bst D n q j))) then j + 1 else bst D n q j
theorem bst_sp (D : Nat → Nat → Int) (n q : Nat → Nat) : ∀ j, bst D n q j ≤ j ∧ (bst D n q j ≠ 0 → q (bst D n q j) < n (bst D n q j)) ∧ ∀ s, 1 ≤ s → s ≤ j → q s < n s → bst D n q j ≠ 0 ∧ (D (bst D n q j) (q (bst D n q j)) < D s (q s) ∨ (D (bst D n q j) (q (bst D n q j)) = D s (q s) ∧ bst D n q j ≤ s))
  | 0 => ⟨by rw [bst]; omega, fun h => absurd rfl h, fun s h1 h2 => by omega⟩
  | j + 1 => by
    obtain ⟨a1, a2, a3⟩ := bst_sp D n q j
    rw [bst]
    split
    next h =>
      refine ⟨by omega, fun _ => h.1, fun s h1 h2 h3 => ⟨by omega, ?_⟩⟩
      by_cases es : s = j + 1
      · rw [es]
        right
        exact ⟨rfl, by omega⟩
      · obtain ⟨b1, b2⟩ := a3 s h1 (by omega) h3
        left
        have := h.2
        omega
    next h =>
      refine ⟨by omega, a2, fun s h1 h2 h3 => ?_⟩
      by_cases es : s = j + 1
      · rw [es] at h3 ⊢
        have h4 : ¬ (bst D n q j = 0 ∨ D (j + 1) (q (j + 1)) < D (bst D n q j) (q (bst D n q j))) := fun p => h ⟨h3, p⟩
        omega
      · exact a3 s h1 (by omega) h3
def SerC (S : w_S) (td : Int) (sn : Nat) (n : Nat → Nat) (D : Nat → Nat → Int) (C : Nat → Nat → Bool) : Prop := S.1 76 0 = sn ∧ sn ≤ 20 ∧ ∀ s, 1 ≤ s → s ≤ sn → S.1 79 s = n s ∧ n s ≤ 300 ∧ (∀ i, i < n s → S.1 80 (300 * s + i) = D s i ∧ 0 ≤ D s i ∧ D s i ≤ 50000 ∧ cmb S td s i = C s i) ∧ ∀ i j, i < j → j < n s → D s i < D s j
def SerR (R : w_S) (sn : Nat) (n : Nat → Nat) (D : Nat → Nat → Int) (C : Nat → Nat → Bool) : Prop := R.1 129 131 = sn ∧ sn ≤ 20 ∧ ∀ s, 1 ≤ s → s ≤ sn → R.1 219 s = n s ∧ n s ≤ 300 ∧ (∀ i, i < n s → R.1 220 (300 * s + i) = D s i ∧ 0 ≤ D s i ∧ D s i ≤ 50000 ∧ (C s i = true ↔ R.1 221 (300 * s + i) = -1 ∧ R.1 220 (300 * s + i) + 10 < R.1 129 12)) ∧ ∀ i j, i < j → j < n s → D s i < D s j
theorem nxc_congr {C C' : Nat → Bool} {n i : Nat} (h : ∀ j, j < n → C j = C' j) : nxc C n i = nxc C' n i := by
  unfold nxc
  rw [fst_congr (n - i) i (fun k h1 h2 => h k (by omega))]
theorem x_goto {e : w_E} {N : Nat} {S : w_S} {td : Int} {sn : Nat} {n : Nat → Nat} {D : Nat → Nat → Int} {C : Nat → Nat → Bool} {f : Nat → Int} {s p : Nat} (hN : 1000 ≤ N) (hS : SerC S td sn n D C) (h1 : 1 ≤ s) (h2 : s ≤ sn) (hp : p ≤ n s) (hf : f s = p) : E_Buying_goToClaim e N (s : Int) td (w_arr S 82 f) = some (0, w_arr S 82 (pt f s ((nxc (C s) (n s) p : Nat) : Int))) := by
  obtain ⟨a1, a2, a3⟩ := hS
  obtain ⟨b1, b2, b3, b4⟩ := a3 s h1 h2
  have k := l_goto (e := e) (N := N) (S := w_arr S 82 f) (s := s) (n := n s) (td := td) ⟨h1, by omega⟩ b1 b2 (fun i hi => ⟨by have := b3 i hi; rw [← this.1] at this; exact this.2.1, by have := b3 i hi; rw [← this.1] at this; exact this.2.2.1⟩) (fun i j hi hj => by
    have e1 := (b3 i (by omega)).1
    have e2 := (b3 j (by omega)).1
    have := b4 i j hi hj
    rw [← e1, ← e2] at this
    exact this) (n s - p) p N (by omega) (by omega)
  have e3 : nxc (cmb (w_arr S 82 f) td s) (n s) p = nxc (C s) (n s) p := nxc_congr (fun j hj => by
    rw [← (b3 j hj).2.2.2]
    rfl)
  rw [e3, w_arr_put] at k
  have en : ∀ m : Nat, ((m : Int)).toNat = m := fun m => by omega
  refine ok_eq ?_
  unfold E_Buying_goToClaim
  rw [en, show (w_arr S 82 f).1 82 s = p from hf]
  repeat' (first | with_reducible refine ok_nb (by omega) ?_ | with_reducible refine ok_ib (by omega) ?_ | with_reducible refine ok_t (by omega) ?_ | with_reducible refine ok_e (by omega) ?_ | with_reducible refine ok_if (fun h => ?_) (fun h => ?_) | with_reducible refine ok_s ?_ | with_reducible refine ok_b ?_)
  exact ok_of k ⟨rfl, rfl⟩
theorem x_nextClaim {e : w_E} {N : Nat} {R : w_S} {sn : Nat} {n : Nat → Nat} {D : Nat → Nat → Int} {C : Nat → Nat → Bool} {s p : Nat} {day serial issue : Int} (hN : 1000 ≤ N) (hS : SerR R sn n D C) (h1 : 1 ≤ s) (h2 : s ≤ sn) (hp : p ≤ n s) (hi : ∀ k, k < n s → C s k = true → (bhd (D s k) s k day serial issue ↔ p ≤ k)) : E_R_nextClaim e N (s : Int) day serial issue R = some (if nxc (C s) (n s) p < n s then ((nxc (C s) (n s) p : Nat) : Int) else -1, R) := by
  obtain ⟨a1, a2, a3⟩ := hS
  obtain ⟨b1, b2, b3, b4⟩ := a3 s h1 h2
  have k := l_nextClaim (e := e) (N := N) (S := R) (R := R) (s := s) (n := n s) (td := 0) (day := day) (serial := serial) (issue := issue) (C := C s) (D := D s) ⟨h1, by omega⟩ b1 b2 (fun i hi => by
    obtain ⟨c1, c2, c3, c4⟩ := b3 i hi
    exact ⟨by omega, by omega, c1, c4⟩) (n s) 0 N (by omega) (by omega)
  obtain ⟨g1, g2, g3, g4⟩ := nxc_sp (C := C s) hp
  unfold E_R_nextClaim
  refine k.trans ?_
  split
  next hl =>
    rw [fst_some_of (k := nxc (C s) (n s) p) (by omega) (by omega) (by
      simp only [Bool.and_eq_true, bhb_iff]
      exact ⟨g3 hl, (hi _ hl (g3 hl)).mpr g1⟩) (fun j _ j2 => by
      cases q1 : C s j with
      | false => rfl
      | true =>
        by_cases q2 : p ≤ j
        · rw [g4 j q2 j2] at q1
          cases q1
        · rw [Bool.true_and]
          cases q3 : bhb (D s j) s j day serial issue with
          | false => rfl
          | true => exact absurd ((hi j (by omega) q1).mp (bhb_iff.mp q3)) q2)]
    rfl
  next hl =>
    rw [fst_none_of (fun j _ j2 => by
      cases q1 : C s j with
      | false => rfl
      | true =>
        by_cases q2 : p ≤ j
        · rw [g4 j q2 (by omega)] at q1
          cases q1
        · rw [Bool.true_and]
          cases q3 : bhb (D s j) s j day serial issue with
          | false => rfl
          | true => exact absurd ((hi j (by omega) q1).mp (bhb_iff.mp q3)) q2)]
    rfl
end
section
-- b3
theorem l_cin {e : w_E} {N : Nat} {S : w_S} {x1 td x3 : Int} {P : Int → w_S → Prop} {m sn : Nat} {n p : Nat → Nat} {D : Nat → Nat → Int} {C : Nat → Nat → Bool} (hN : 1000 ≤ N) (hS : SerC S td sn n D C) (hp : ∀ s, 1 ≤ s → s ≤ sn → p s ≤ n s) : ∀ (k j nf : Nat) (f : Nat → Int), j + k = sn → m + k ≤ nf → (∀ s, 1 ≤ s → s ≤ sn → f s = if s ≤ j then ((nxc (C s) (n s) (p s) : Nat) : Int) else (p s : Int)) → (∀ n' f', m ≤ n' → (∀ s, 1 ≤ s → s ≤ sn → f' s = ((nxc (C s) (n s) (p s) : Nat) : Int)) → Ok (El_Buying_claimOfRank e N n' 1 [x1, td, x3, ((bst D n (fun s => nxc (C s) (n s) (p s)) sn : Nat) : Int), (sn : Int) + 1] [] (w_arr S 82 f')) P) → Ok (El_Buying_claimOfRank e N nf 1 [x1, td, x3, ((bst D n (fun s => nxc (C s) (n s) (p s)) j : Nat) : Int), (j : Int) + 1] [] (w_arr S 82 f)) P
  | 0, j, nf, f, h1, h2, hf, hk => by
    have ej : j = sn := by omega
    subst ej
    exact hk nf f (by omega) (fun s s1 s2 => by rw [hf s s1 s2, if_pos s2])
  | k + 1, j, nf + 1, f, h1, h2, hf, hk => by
    have ih := fun f' hf' => l_cin (e := e) (N := N) (x1 := x1) (x3 := x3) (P := P) (m := m) hN hS hp k (j + 1) nf f' (by omega) (by omega) hf' hk
    have hS0 := hS
    obtain ⟨a1, a2, a3⟩ := hS0
    obtain ⟨b1, b2, b3, b4⟩ := a3 (j + 1) (by omega) (by omega)
    obtain ⟨g1, g2, g3, g4⟩ := nxc_sp (C := C (j + 1)) (hp (j + 1) (by omega) (by omega))
    have kg := x_goto (e := e) (N := N) (f := f) (s := j + 1) (p := p (j + 1)) hN hS (by omega) (by omega) (hp _ (by omega) (by omega)) (by rw [hf _ (by omega) (by omega), if_neg (by omega)])
    obtain ⟨t1, t2, t3⟩ := bst_sp D n (fun s => nxc (C s) (n s) (p s)) j
    have hf' : ∀ s, 1 ≤ s → s ≤ sn → pt f (j + 1) ((nxc (C (j + 1)) (n (j + 1)) (p (j + 1)) : Nat) : Int) s = if s ≤ j + 1 then ((nxc (C s) (n s) (p s) : Nat) : Int) else (p s : Int) := fun s s1 s2 => by
      rw [pt_at]
      by_cases es : s = j + 1
      · rw [if_pos es, es, if_pos (by omega)]
      · rw [if_neg es, hf s s1 s2]
        by_cases el : s ≤ j
        · rw [if_pos el, if_pos (by omega)]
        · rw [if_neg el, if_neg (by omega)]
    have ihh := ih _ hf'
    rw [bst] at ihh
    have ej : (j : Int) + 1 = ((j + 1 : Nat) : Int) := by omega
    have en : ∀ m : Nat, ((m : Int)).toNat = m := fun m => by omega
    have v76 : (w_arr S 82 f).1 76 0 = (sn : Int) := a1
    have v79 : (w_arr S 82 (pt f (j + 1) ((nxc (C (j + 1)) (n (j + 1)) (p (j + 1)) : Nat) : Int))).1 79 (j + 1) = (n (j + 1) : Int) := b1
    have v82 : (w_arr S 82 (pt f (j + 1) ((nxc (C (j + 1)) (n (j + 1)) (p (j + 1)) : Nat) : Int))).1 82 (j + 1) = ((nxc (C (j + 1)) (n (j + 1)) (p (j + 1)) : Nat) : Int) := by
      rw [w_arr_r, if_pos rfl, pt_at, if_pos rfl]
    rw [ej, El_Buying_claimOfRank, v76]
    by_cases c1 : nxc (C (j + 1)) (n (j + 1)) (p (j + 1)) < n (j + 1)
    · obtain ⟨w1, w2, w3, w4⟩ := b3 _ c1
      by_cases c2 : bst D n (fun s => nxc (C s) (n s) (p s)) j = 0
      · rw [if_pos ⟨c1, Or.inl c2⟩] at ihh
        rw [c2]
        clear t3 t2 hk hf' hf ih g4 g3 b4 b3 a3 hp
        repeat' (first | (with_reducible refine ok_of kg ?_; dsimp only; rw [en, v79, v82]) | with_reducible refine ok_nb (by omega) ?_ | with_reducible refine ok_ib (by omega) ?_ | with_reducible refine ok_t (by omega) ?_ | with_reducible refine ok_e (by omega) ?_ | with_reducible refine ok_if (fun h => ?_) (fun h => ?_) | with_reducible refine ok_s ?_ | with_reducible refine ok_b ?_)
        exact ihh
      · have d1 := t2 c2
        obtain ⟨x1', x2', x3', x4'⟩ := a3 (bst D n (fun s => nxc (C s) (n s) (p s)) j) (by omega) (by omega)
        obtain ⟨y1, y2, y3, y4⟩ := x3' _ d1
        have v82b := hf' (bst D n (fun s => nxc (C s) (n s) (p s)) j) (by omega) (by omega)
        rw [if_pos (by omega)] at v82b
        have v82c : (w_arr S 82 (pt f (j + 1) ((nxc (C (j + 1)) (n (j + 1)) (p (j + 1)) : Nat) : Int))).1 82 (bst D n (fun s => nxc (C s) (n s) (p s)) j) = _ := v82b
        have v80 : (w_arr S 82 (pt f (j + 1) ((nxc (C (j + 1)) (n (j + 1)) (p (j + 1)) : Nat) : Int))).1 80 (300 * (j + 1) + nxc (C (j + 1)) (n (j + 1)) (p (j + 1))) = _ := w1
        have v80b : (w_arr S 82 (pt f (j + 1) ((nxc (C (j + 1)) (n (j + 1)) (p (j + 1)) : Nat) : Int))).1 80 (300 * bst D n (fun s => nxc (C s) (n s) (p s)) j + _) = _ := y1
        clear t3 t2 hk hf' hf ih g4 g3 b4 b3 a3 hp x3' x4' v82b
        generalize bst D n (fun s => nxc (C s) (n s) (p s)) j = b at *
        generalize nxc (C (j + 1)) (n (j + 1)) (p (j + 1)) = q at *
        generalize nxc (C b) (n b) (p b) = qb at *
        have e1 : (((j + 1 : Nat) : Int) * 300 + (q : Int)).toNat = 300 * (j + 1) + q := by omega
        have e2 : ((b : Int) * 300 + (qb : Int)).toNat = 300 * b + qb := by omega
        by_cases c3 : D (j + 1) q < D b qb
        · rw [if_pos ⟨c1, Or.inr c3⟩] at ihh
          repeat' (first | (with_reducible refine ok_of kg ?_; dsimp only; rw [en, v79, v82, en, v82c, e1, e2, v80, v80b]) | with_reducible refine ok_nb (by omega) ?_ | with_reducible refine ok_ib (by omega) ?_ | with_reducible refine ok_t (by omega) ?_ | with_reducible refine ok_e (by omega) ?_ | with_reducible refine ok_if (fun h => ?_) (fun h => ?_) | with_reducible refine ok_s ?_ | with_reducible refine ok_b ?_)
          exact ihh
        · rw [if_neg (by omega)] at ihh
          repeat' (first | (with_reducible refine ok_of kg ?_; dsimp only; rw [en, v79, v82, en, v82c, e1, e2, v80, v80b]) | with_reducible refine ok_nb (by omega) ?_ | with_reducible refine ok_ib (by omega) ?_ | with_reducible refine ok_t (by omega) ?_ | with_reducible refine ok_e (by omega) ?_ | with_reducible refine ok_if (fun h => ?_) (fun h => ?_) | with_reducible refine ok_s ?_ | with_reducible refine ok_b ?_)
          exact ihh
    · rw [if_neg (fun z => c1 z.1)] at ihh
      clear t3 t2 hk hf' hf ih g4 g3 b4 b3 a3 hp
      repeat' (first | (with_reducible refine ok_of kg ?_; dsimp only; rw [en, v79, v82]) | with_reducible refine ok_nb (by omega) ?_ | with_reducible refine ok_ib (by omega) ?_ | with_reducible refine ok_t (by omega) ?_ | with_reducible refine ok_e (by omega) ?_ | with_reducible refine ok_if (fun h => ?_) (fun h => ?_) | with_reducible refine ok_s ?_ | with_reducible refine ok_b ?_)
      exact ihh
  | k + 1, j, 0, f, h1, h2, hf, hk => by omega
end
