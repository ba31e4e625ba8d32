section
-- ee
/-- the bytes of a row against those of a retention line -/
def ekr (R : w_S) (i : Nat) : Nat → List Int → Bool
  | _, [] => true
  | k, b :: l => decide (b = R.1 198 (40 * i + k)) && ekr R i (k + 1) l
theorem ekr_iff (R : w_S) (i : Nat) : ∀ (l : List Int) (k : Nat), ekr R i k l = true ↔ ∀ j, j < l.length → l.getD j 0 = R.1 198 (40 * i + (k + j))
  | [], k => by simp [ekr]
  | b :: l, k => by
    rw [ekr, Bool.and_eq_true, ekr_iff R i l (k + 1), decide_eq_true_eq]
    constructor
    · rintro ⟨h1, h2⟩ j hj
      cases j with
      | zero => exact h1
      | succ j =>
        rw [List.getD_cons_succ, h2 j (by rw [List.length_cons] at hj; omega), show k + 1 + j = k + (j + 1) by omega]
    · intro h
      refine ⟨h 0 (by rw [List.length_cons]; omega), fun j hj => ?_⟩
      have := h (j + 1) (by rw [List.length_cons]; omega)
      rw [List.getD_cons_succ] at this
      rw [this, show k + 1 + j = k + (j + 1) by omega]
theorem ekr_kpr {R : w_S} {i : Nat} {s : List Int} : (decide ((s.length : Int) = R.1 197 (3 * i + 2)) && ekr R i 0 s) = decide (s = kpr R i) ∨ R.1 197 (3 * i + 2) < 0 := by
  by_cases c : R.1 197 (3 * i + 2) < 0
  · exact Or.inr c
  · left
    have hl := kpr_len R i
    rw [Bool.eq_iff_iff, Bool.and_eq_true, ekr_iff, decide_eq_true_eq, decide_eq_true_eq]
    constructor
    · rintro ⟨h1, h2⟩
      refine list_eq (by omega) (fun j hj => ?_)
      rw [h2 j hj, kpr_get R (by omega), Nat.zero_add]
    · intro h
      subst h
      refine ⟨by omega, fun j hj => ?_⟩
      rw [kpr_get R (by omega), Nat.zero_add]
theorem l_fit1 {e : w_E} {N i p a m : Nat} {S : w_S} {f : Fdl} {P : Int → w_S → Prop} (hN : 5000 ≤ N) (hf : Fat S 150 4000 p f) (hi : i < 8) (ha : a + 2 + m ≤ 4000) (hm : m ≤ 40) : ∀ (l : List Int) (k nf : Nat) (b : Bool), k + l.length = m → l.length < nf → byt (S.1 150) (a + 2 + k) l → ((b && ekr S i k l) = true → P 1 S) → ((b && ekr S i k l) = false → ∀ n', nf ≤ n' + l.length + 1 → Ok (El_R_fits e N n' 0 [(i : Int), ((p + (ser f).length : Nat) : Int)] [] S) P) → Ok (El_R_fits e N nf 1 [(i : Int), (p : Int), (a : Int), ((a + 2 + m : Nat) : Int), bi b, ((a + 2 + k : Nat) : Int)] [] S) P
  | _, _, 0, _, _, h, _, _, _ => by omega
  | [], k, nf + 1, b, g1, g2, g3, g4, g5 => by
    rw [List.length_nil] at g1
    have sl := ser_len f
    have h4 := hf.2.2.2.1
    rw [El_R_fits]
    refine ok_t (by omega) ?_
    cases b with
    | true => exact ok_e (by decide) (ok_s (g4 rfl))
    | false =>
      refine ok_t rfl (ok_b (ok_of (x_fieldEnd (by omega) hf) (ok_nb (by omega) ?_)))
      dsimp only
      rw [show ((p + (fbd f).length + 4 : Nat) : Int) + 1 = ((p + (ser f).length : Nat) : Int) by omega]
      exact g5 rfl nf (by rw [List.length_nil]; omega)
  | c :: l, k, nf + 1, b, g1, g2, g3, g4, g5 => by
    rw [List.length_cons] at g1 g2
    have sl := ser_len f
    have h4 := hf.2.2.2.1
    have hc : S.1 150 (a + 2 + k) = c := g3.1
    rw [El_R_fits, show (((a + 2 + k : Nat) : Int)).toNat = a + 2 + k by omega, hc, show (((40 * (i : Int) + ((a + 2 + k : Nat) : Int)) - (a : Int)) - 2).toNat = 40 * i + k by omega]
    refine ok_e (by omega) ?_
    cases b with
    | false =>
      refine ok_t rfl (ok_b (ok_of (x_fieldEnd (by omega) hf) (ok_nb (by omega) ?_)))
      dsimp only
      rw [show ((p + (fbd f).length + 4 : Nat) : Int) + 1 = ((p + (ser f).length : Nat) : Int) by omega]
      exact g5 rfl nf (by rw [List.length_cons]; omega)
    | true =>
      rw [ekr, Bool.true_and] at g4 g5
      refine ok_e (by decide) (ok_ib (by omega) (ok_nb (by omega) (ok_nb (by omega) (ok_nb (by omega) (ok_nb (by omega) (ok_ib (by omega) ?_))))))
      rw [show ((a + 2 + k : Nat) : Int) + 1 = ((a + 2 + (k + 1) : Nat) : Int) by omega]
      by_cases d : c = S.1 198 (40 * i + k)
      · rw [decide_eq_true d, Bool.true_and] at g4 g5
        refine ok_e (fun w => w d) (ok_nb (by omega) ?_)
        exact l_fit1 (e := e) hN hf hi ha hm l (k + 1) nf true (by omega) (by omega) g3.2 (by rw [Bool.true_and]; exact g4) (fun w n' hn' => g5 (by rw [Bool.true_and] at w; exact w) n' (by rw [List.length_cons]; omega))
      · rw [decide_eq_false d, Bool.false_and] at g5
        refine ok_t d (ok_nb (by omega) ?_)
        exact l_fit1 (e := e) hN hf hi ha hm l (k + 1) nf false (by omega) (by omega) g3.2 (fun w => by cases w) (fun w n' hn' => g5 rfl n' (by rw [List.length_cons]; omega))
theorem l_fit0 {e : w_E} {N i : Nat} {S : w_S} {ps : Int} (hN : 5000 ≤ N) (hi : i < 8) (hk : 1 ≤ S.1 197 (3 * i + 2) ∧ S.1 197 (3 * i + 2) ≤ 40) (hp : S.1 129 37 = ps) (hps : ps ≤ 4000) : ∀ (l : List Fdl) (p nf : Nat), (∀ f, f ∈ l → vfd f ∧ f.2.2.2.length ≤ 5) → byt (S.1 150) p (doc l) → ((p + (doc l).length : Nat) : Int) = ps → 50 * l.length < nf → El_R_fits e N nf 0 [(i : Int), (p : Int)] [] S = some (bi (fit (S.1 197 (3 * i)) (kpr S i) l), S)
  | _, _, 0, _, _, _, h => by omega
  | [], p, nf + 1, g1, g2, g3, g4 => by
    rw [doc, List.flatMap_nil, List.length_nil] at g3
    refine ok_eq ?_
    rw [El_R_fits, hp]
    exact ok_t (by omega) (ok_s ⟨rfl, rfl⟩)
  | f :: l, p, nf + 1, g1, g2, g3, g4 => by
    rw [List.length_cons] at g4
    obtain ⟨fv, f5⟩ := g1 f List.mem_cons_self
    have sl := ser_len f
    have t1 := fv.1
    have t2 := fv.2.1
    rw [doc, List.flatMap_cons] at g2 g3
    rw [byt_app] at g2
    rw [List.length_append] at g3
    have fa : Fat S 150 4000 p f := ⟨rfl, by decide, g2.1, by omega, fv⟩
    have tgl := fa.1
    obtain ⟨b0, b1, b2, b3⟩ := fa.tag
    have nx : fit (S.1 197 (3 * i)) (kpr S i) (f :: l) = fit (S.1 197 (3 * i)) (kpr S i) l → ∀ n', 50 * l.length < n' → Ok (El_R_fits e N n' 0 [(i : Int), ((p + (ser f).length : Nat) : Int)] [] S) (fun y S1 => y = bi (fit (S.1 197 (3 * i)) (kpr S i) (f :: l)) ∧ S1 = S) := by
      intro w n' hn'
      rw [w]
      exact ok_of (l_fit0 hN hi hk hp hps l (p + (ser f).length) n' (fun g hg => g1 g (List.mem_cons_of_mem _ hg)) g2.2 (by rw [doc]; omega) hn') ⟨rfl, rfl⟩
    have nxe : fit (S.1 197 (3 * i)) (kpr S i) (f :: l) = fit (S.1 197 (3 * i)) (kpr S i) l → Ok ((E_R_fieldEnd e N (p : Int) 150 S).bind (fun q1199 => (if w_nb (q1199.1 + 1) = true then El_R_fits e N nf 0 [(i : Int), q1199.1 + 1] [] q1199.2 else none))) (fun y S1 => y = bi (fit (S.1 197 (3 * i)) (kpr S i) (f :: l)) ∧ S1 = S) := by
      intro w
      refine ok_b (ok_of (x_fieldEnd (by omega) fa) (ok_nb (by omega) ?_))
      dsimp only
      rw [show ((p + (fbd f).length + 4 : Nat) : Int) + 1 = ((p + (ser f).length : Nat) : Int) by omega]
      exact nx w nf (by omega)
    refine ok_eq ?_
    rw [El_R_fits, hp]
    refine ok_e (by omega) (ok_b (ok_of (x_fieldEnd (by omega) fa) ?_))
    dsimp only
    rw [show ((p : Int)).toNat = p by omega, show ((p : Int) + 1).toNat = p + 1 by omega, show ((p : Int) + 2).toNat = p + 2 by omega, b0, b1, b2]
    (refine ok_len tgl ?_); (with_reducible refine ok_t (by omega) ?_); (with_reducible refine ok_t (by omega) (ok_nb (by omega) (ok_nb (by omega) (ok_nb (by omega) ?_)))); (refine ok_len tgl ?_); (with_reducible refine ok_t (by omega) ?_); (with_reducible refine ok_t (by omega) (ok_nb (by omega) (ok_nb (by omega) (ok_nb (by omega) (ok_nb (by omega) ?_))))); (refine ok_len tgl ?_); (with_reducible refine ok_t (by omega) ?_); (with_reducible refine ok_t (by omega) (ok_nb (by omega) (ok_nb (by omega) ?_)))
    rw [show 100 * (48 + f.1 / 100 - 48) + 10 * (48 + f.1 / 10 % 10 - 48) + (48 + f.1 % 10) - 48 = f.1 by omega, show (3 * (i : Int)).toNat = 3 * i by omega]
    refine ok_nb (by omega) (ok_ib (by omega) ?_)
    by_cases c1 : f.1 = S.1 197 (3 * i)
    rotate_left
    · refine ok_t c1 (nxe ?_)
      rw [fit, decide_eq_false c1, Bool.false_and, Bool.false_or]
    refine ok_e (fun w => w c1) ?_
    obtain ⟨z, z1, z2⟩ := x_aRow (e := e) (N := N) (by omega) (by omega) fa
    refine ok_b (ok_of z1 ?_)
    dsimp only
    rcases z2 with ⟨w1, w2⟩ | ⟨k, s, w1, w2, w3, w4, w5, w6, w7⟩
    · refine ok_e (by omega) (nxe ?_)
      rw [fit, w1]
      simp
    · subst w1
      have s40 := w4.2.1
      have fe : fit (S.1 197 (3 * i)) (kpr S i) (f :: l) = ((decide ((s.length : Int) = S.1 197 (3 * i + 2)) && ekr S i 0 s) || fit (S.1 197 (3 * i)) (kpr S i) l) := by
        rcases ekr_kpr (R := S) (i := i) (s := s) with q | q
        · have h7 : decide (some s = some (kpr S i)) = decide (s = kpr S i) := by
            rw [decide_eq_decide]
            exact ⟨fun w => Option.some.inj w, fun w => congrArg some w⟩
          rw [fit, q, decide_eq_true c1, Bool.true_and, w3, h7]
        · omega
      refine ok_t (by omega) (ok_nb (by omega) (ok_b (ok_of w7 ?_)))
      dsimp only
      rw [show (3 * (i : Int) + 2).toNat = 3 * i + 2 by omega, show ((p + 6 + k + 2 + s.length : Nat) : Int) - ((p + 6 + k : Nat) : Int) - 2 = (s.length : Int) by omega]
      refine ok_nb (by omega) (ok_nb (by omega) (ok_nb (by omega) (ok_ib (by omega) ?_)))
      have key := fun b hg1 hg2 => l_fit1 (e := e) (N := N) (i := i) (p := p) (a := p + 6 + k) (m := s.length) (P := fun y S1 => y = bi (fit (S.1 197 (3 * i)) (kpr S i) (f :: l)) ∧ S1 = S) hN fa hi (by omega) s40 s 0 nf b (by omega) (by omega) w5 hg1 hg2
      by_cases c2 : (s.length : Int) = S.1 197 (3 * i + 2)
      · rw [decide_eq_true c2, Bool.true_and] at fe
        refine ok_e (fun w => w c2) (key true (fun w => ?_) (fun w n' hn' => ?_))
        · rw [Bool.true_and] at w
          rw [fe, w]
          exact ⟨rfl, rfl⟩
        · rw [Bool.true_and] at w
          exact nx (by rw [fe, w, Bool.false_or]) n' (by omega)
      · rw [decide_eq_false c2, Bool.false_and, Bool.false_or] at fe
        refine ok_t c2 (key false (fun w => by cases w) (fun w n' hn' => nx fe n' (by omega)))
end
section
-- ef
theorem l_mg0 {e : w_E} {N : Nat} {R : w_S} {r : Int} {P : Int → w_S → Prop} (h0 : 0 ≤ R.1 129 131 ∧ R.1 129 131 ≤ 20) : ∀ (k i nf : Nat), k < nf → 1 ≤ i → (i : Int) + k = R.1 129 131 + 1 → (anyb (fun j => decide (R.1 217 j = r)) i k = true → P 0 R) → (anyb (fun j => decide (R.1 217 j = r)) i k = false → ∀ n', nf ≤ n' + k + 1 → Ok (El_R_mayGo e N n' 1 [r, 1] [] R) P) → Ok (El_R_mayGo e N nf 0 [r, (i : Int)] [] R) P
  | _, _, 0, h, _, _, _, _ => by omega
  | 0, i, nf + 1, g1, g2, g3, g4, g5 => by
    rw [El_R_mayGo]
    exact ok_t (by omega) (g5 rfl nf (by omega))
  | k + 1, i, nf + 1, g1, g2, g3, g4, g5 => by
    rw [anyb] at g4 g5
    rw [El_R_mayGo, show ((i : Int)).toNat = i by omega]
    refine ok_e (by omega) (ok_ib (by omega) ?_)
    by_cases c : R.1 217 i = r
    · rw [decide_eq_true c, Bool.true_or] at g4
      exact ok_e (fun w => w c) (ok_s (g4 rfl))
    · rw [decide_eq_false c, Bool.false_or] at g4 g5
      refine ok_t c (ok_nb (by omega) ?_)
      rw [show (i : Int) + 1 = ((i + 1 : Nat) : Int) by omega]
      exact l_mg0 h0 k (i + 1) nf (by omega) (by omega) (by omega) g4 (fun w n' hn' => g5 w n' (by omega))
/-- a copy stands in the way -/
def cbd (R : w_S) (r : Int) (c : Nat) : Bool := decide (R.1 169 c = r) && (decide (R.1 171 c = 1) || decide (R.1 171 c = 2) || decide (R.1 171 c = 4))
theorem l_mg1 {e : w_E} {N : Nat} {R : w_S} {r : Int} {P : Int → w_S → Prop} (h0 : 0 ≤ R.1 129 68 ∧ R.1 129 68 ≤ 200) : ∀ (k i nf : Nat), k < nf → 1 ≤ i → (i : Int) + k = R.1 129 68 + 1 → (anyb (cbd R r) i k = true → P 0 R) → (anyb (cbd R r) i k = false → ∀ n', nf ≤ n' + k + 1 → Ok (El_R_mayGo e N n' 2 [r, 1] [] R) P) → Ok (El_R_mayGo e N nf 1 [r, (i : Int)] [] R) P
  | _, _, 0, h, _, _, _, _ => by omega
  | 0, i, nf + 1, g1, g2, g3, g4, g5 => by
    rw [El_R_mayGo]
    exact ok_t (by omega) (g5 rfl nf (by omega))
  | k + 1, i, nf + 1, g1, g2, g3, g4, g5 => by
    rw [anyb, cbd] at g4 g5
    have nx : (decide (R.1 169 i = r) && (decide (R.1 171 i = 1) || decide (R.1 171 i = 2) || decide (R.1 171 i = 4))) = false → Ok (El_R_mayGo e N nf 1 [r, (i : Int) + 1] [] R) P := by
      intro w
      rw [w, Bool.false_or] at g4 g5
      rw [show (i : Int) + 1 = ((i + 1 : Nat) : Int) by omega]
      exact l_mg1 h0 k (i + 1) nf (by omega) (by omega) (by omega) g4 (fun w n' hn' => g5 w n' (by omega))
    rw [El_R_mayGo, show ((i : Int)).toNat = i by omega]
    refine ok_e (by omega) (ok_ib (by omega) ?_)
    by_cases c : R.1 169 i = r
    · rw [decide_eq_true c, Bool.true_and] at g4 nx
      refine ok_e (fun w => w c) ?_
      by_cases c1 : R.1 171 i = 1
      · rw [decide_eq_true c1] at g4
        exact ok_t c1 (ok_s (g4 rfl))
      refine ok_e c1 ?_
      by_cases c2 : R.1 171 i = 2
      · rw [decide_eq_true c2, Bool.or_true] at g4
        exact ok_t c2 (ok_s (g4 rfl))
      refine ok_e c2 ?_
      by_cases c3 : R.1 171 i = 4
      · rw [decide_eq_true c3, Bool.or_true] at g4
        exact ok_e (fun w => w c3) (ok_s (g4 rfl))
      · refine ok_t c3 (ok_nb (by omega) (nx ?_))
        rw [decide_eq_false c1, decide_eq_false c2, decide_eq_false c3]
        rfl
    · refine ok_t c (ok_nb (by omega) (nx ?_))
      rw [decide_eq_false c, Bool.false_and]
/-- a booking stands in the way -/
def bbd (R : w_S) (r : Int) (b : Nat) : Bool := decide (R.1 169 (R.1 187 b).toNat = r) && (decide (R.1 190 b = 0) && decide (R.1 129 12 ≤ R.1 189 b))
theorem l_mg2 {e : w_E} {N : Nat} {R : w_S} {r : Int} {P : Int → w_S → Prop} (h0 : 0 ≤ R.1 129 87 ∧ R.1 129 87 ≤ 100) (hc : ∀ b : Nat, 1 ≤ b → (b : Int) ≤ R.1 129 87 → 0 ≤ R.1 187 b ∧ R.1 187 b ≤ 200) : ∀ (k i nf : Nat), k < nf → 1 ≤ i → (i : Int) + k = R.1 129 87 + 1 → (anyb (bbd R r) i k = true → P 0 R) → (anyb (bbd R r) i k = false → ∀ n', nf ≤ n' + k + 1 → Ok ((E_R_build e N r (R.1 129 12) R).bind (fun q1196 => El_R_mayGo e N n' 3 [r, 0] [] q1196.2)) P) → Ok (El_R_mayGo e N nf 2 [r, (i : Int)] [] R) P
  | _, _, 0, h, _, _, _, _ => by omega
  | 0, i, nf + 1, g1, g2, g3, g4, g5 => by
    rw [El_R_mayGo]
    exact ok_t (by omega) (g5 rfl nf (by omega))
  | k + 1, i, nf + 1, g1, g2, g3, g4, g5 => by
    rw [anyb, bbd] at g4 g5
    have hci := hc i g2 (by omega)
    have nx : (decide (R.1 169 (R.1 187 i).toNat = r) && (decide (R.1 190 i = 0) && decide (R.1 129 12 ≤ R.1 189 i))) = false → Ok (El_R_mayGo e N nf 2 [r, (i : Int) + 1] [] R) P := by
      intro w
      rw [w, Bool.false_or] at g4 g5
      rw [show (i : Int) + 1 = ((i + 1 : Nat) : Int) by omega]
      exact l_mg2 h0 hc k (i + 1) nf (by omega) (by omega) (by omega) g4 (fun w n' hn' => g5 w n' (by omega))
    rw [El_R_mayGo, show ((i : Int)).toNat = i by omega]
    refine ok_e (by omega) (ok_ib (by omega) (ok_ib (by omega) ?_))
    by_cases c : R.1 169 (R.1 187 i).toNat = r
    · rw [decide_eq_true c, Bool.true_and] at g4 nx
      refine ok_e (fun w => w c) ?_
      by_cases c1 : R.1 190 i = 0
      · rw [decide_eq_true c1, Bool.true_and] at g4 nx
        refine ok_e (fun w => w c1) ?_
        by_cases c2 : R.1 129 12 ≤ R.1 189 i
        · rw [decide_eq_true c2] at g4
          exact ok_t c2 (ok_s (g4 rfl))
        · exact ok_e c2 (ok_nb (by omega) (nx (decide_eq_false c2)))
      · refine ok_t c1 (ok_nb (by omega) (nx ?_))
        rw [decide_eq_false c1, Bool.false_and]
    · refine ok_t c (ok_nb (by omega) (nx ?_))
      rw [decide_eq_false c, Bool.false_and]
/-- the line that fits says whether a record may go -/
def mgo (R : w_S) (v : Nat) : Option Nat → Bool
  | none => false
  | some j => !decide (R.1 129 12 ≤ R.1 137 v + R.1 197 (3 * j + 1))
theorem l_mg3 {e : w_E} {N n v : Nat} {R : w_S} {r : Int} {D : List Fdl} (hN : 5000 ≤ N) (hn : n ≤ 8) (h104 : R.1 129 104 = n) (hk : ∀ i, i < n → 1 ≤ R.1 197 (3 * i + 2) ∧ R.1 197 (3 * i + 2) ≤ 40 ∧ 0 ≤ R.1 197 (3 * i + 1) ∧ R.1 197 (3 * i + 1) ≤ 50000) (hp : R.1 129 37 = ((doc D).length : Nat)) (hb : byt (R.1 150) 0 (doc D)) (hl : D.length ≤ 12) (hv : ∀ f, f ∈ D → vfd f ∧ f.2.2.2.length ≤ 5) (vo : E_R_versionOn e N r (R.1 129 12) R = some ((v : Int), R)) (hv4 : v < 400) (hday : 0 ≤ R.1 137 v ∧ R.1 137 v ≤ 60000) : ∀ (k i nf : Nat), k < nf → i + k = n → El_R_mayGo e N nf 3 [r, (i : Int)] [] R = some (bi (mgo R v (fst (fun i => fit (R.1 197 (3 * i)) (kpr R i) D) i k)), R)
  | _, _, 0, h, _ => by omega
  | 0, i, nf + 1, g1, g2 => by
    refine ok_eq ?_
    rw [El_R_mayGo, h104, fst]
    exact ok_t (by omega) (ok_s ⟨rfl, rfl⟩)
  | k + 1, i, nf + 1, g1, g2 => by
    obtain ⟨k1, k2, k3, k4⟩ := hk i (by omega)
    have dl := doc_le hv
    have xf := l_fit0 (e := e) (N := N) (i := i) hN (by omega) ⟨k1, k2⟩ hp (by omega) D 0 N hv hb (by omega) (by omega)
    refine ok_eq ?_
    rw [El_R_mayGo, h104, fst]
    unfold E_R_fits
    refine ok_e (by omega) (ok_b (ok_of xf ?_))
    dsimp only
    cases hc : fit (R.1 197 (3 * i)) (kpr R i) D with
    | false =>
      rw [if_neg (show ¬ (bi false ≠ 0) by decide), if_neg (show ¬ (false = true) by decide)]
      have ih := l_mg3 (e := e) hN hn h104 hk hp hb hl hv vo hv4 hday k (i + 1) nf (by omega) (by omega)
      rw [show (i : Int) + 1 = ((i + 1 : Nat) : Int) by omega]
      exact ok_nb (by omega) (ok_of ih ⟨rfl, rfl⟩)
    | true =>
      rw [if_pos (show (bi true ≠ 0) by decide), if_pos rfl]
      rw [h104]
      refine ok_e (by omega) (ok_b (ok_of vo (ok_ib (by omega) ?_)))
      dsimp only
      rw [show ((v : Int)).toNat = v by omega, show (3 * (i : Int) + 1).toNat = 3 * i + 1 by omega]
      refine ok_nb (by omega) (ok_nb (by omega) (ok_ib (by omega) (ok_nb (by omega) ?_)))
      rw [mgo]
      by_cases c : R.1 129 12 ≤ R.1 137 v + R.1 197 (3 * i + 1)
      · rw [decide_eq_true c]
        exact ok_t c (ok_s ⟨rfl, rfl⟩)
      · rw [decide_eq_false c]
        exact ok_e c (ok_s ⟨rfl, rfl⟩)
/-- is a copy booked, to the class -/
def bkd (S : w_S) (c : Nat) : Bool := anyb (fun j => decide (S.1 58 j = (c : Int)) && decide (S.1 61 j = 0) && decide (S.1 27 1 ≤ S.1 60 j) && decide (S.1 59 j ≤ 50000) && decide (0 ≤ S.1 60 j)) 1 (S.1 46 12).toNat
def ubd (S : w_S) (r : Int) (c : Nat) : Bool := decide (S.1 63 c = r) && (!(decide (S.1 65 c = 0) || decide (S.1 65 c = 3)) || bkd S c)
theorem l_isU {e : w_E} {N : Nat} {S : w_S} {r : Int} (hN : 1000 ≤ N) (h0 : 0 ≤ S.1 62 3 ∧ S.1 62 3 ≤ 200) (h1 : 0 ≤ S.1 46 12 ∧ S.1 46 12 ≤ 100) : ∀ (k i nf : Nat) (b : Bool), k < nf → 1 ≤ i → (i : Int) + k = S.1 62 3 + 1 → El_Lending_isInUse e N nf 0 [r, bi b, (i : Int)] [] S = some (bi (b || anyb (ubd S r) i k), S)
  | _, _, 0, _, h, _, _ => by omega
  | 0, i, nf + 1, b, g1, g2, g3 => by
    refine ok_eq ?_
    rw [El_Lending_isInUse, anyb, Bool.or_false]
    refine ok_t (by omega) (ok_t ?_ (ok_s ⟨rfl, rfl⟩))
    cases b
    · exact Or.inl rfl
    · exact Or.inr rfl
  | k + 1, i, nf + 1, b, g1, g2, g3 => by
    have kb := ok_eq (l_isBookedBetween (e := e) (N := N) (S := S) (x1 := (i : Int)) (x2 := 0) (x3 := 50000) (x4 := S.1 27 1) h1 (S.1 46 12).toNat N 1 (by omega) (by omega) (by omega))
    have kb' : E_Readers_isBookedBetween e N (i : Int) 0 50000 (S.1 27 1) S = some (bi (bkd S i), S) := kb
    have ih := fun b => l_isU (e := e) (N := N) (r := r) hN h0 h1 k (i + 1) nf b (by omega) (by omega) (by omega)
    rw [show ((i + 1 : Nat) : Int) = (i : Int) + 1 by omega] at ih
    refine ok_eq ?_
    rw [El_Lending_isInUse, anyb, show ((i : Int)).toNat = i by omega]
    refine ok_e (by omega) (ok_ib (by omega) ?_)
    have ub : ubd S r i = (decide (S.1 63 i = r) && (!(decide (S.1 65 i = 0) || decide (S.1 65 i = 3)) || bkd S i)) := rfl
    by_cases c : S.1 63 i = r
    · rw [decide_eq_true c, Bool.true_and] at ub
      refine ok_e (fun w => w c) ?_
      cases b with
      | true =>
        refine ok_t (by decide) (ok_nb (by omega) (ok_of (ih true) ⟨?_, rfl⟩))
        rw [Bool.true_or, Bool.true_or]
      | false =>
        refine ok_e (by decide) ?_
        by_cases c0 : S.1 65 i = 0
        · rw [decide_eq_true c0, Bool.true_or, Bool.not_true, Bool.false_or] at ub
          refine ok_t c0 (ok_b (ok_of kb' ?_))
          dsimp only
          cases hb : bkd S i with
          | false =>
            rw [hb] at ub
            rw [ub, Bool.false_or, if_pos (show bi false = 0 from rfl)]
            exact ok_nb (by omega) (ok_of (ih false) ⟨rfl, rfl⟩)
          | true =>
            rw [hb] at ub
            rw [ub, if_neg (show ¬ bi true = 0 by decide)]
            exact ok_nb (by omega) (ok_of (ih true) ⟨rfl, rfl⟩)
        · refine ok_e c0 ?_
          by_cases c3 : S.1 65 i = 3
          · rw [decide_eq_true c3, Bool.or_true, Bool.not_true, Bool.false_or] at ub
            refine ok_e (fun w => w c3) (ok_b (ok_of kb' ?_))
            dsimp only
            cases hb : bkd S i with
            | false =>
              rw [hb] at ub
              rw [ub, Bool.false_or, if_pos (show bi false = 0 from rfl)]
              exact ok_nb (by omega) (ok_of (ih false) ⟨rfl, rfl⟩)
            | true =>
              rw [hb] at ub
              rw [ub, if_neg (show ¬ bi true = 0 by decide)]
              exact ok_nb (by omega) (ok_of (ih true) ⟨rfl, rfl⟩)
          · rw [decide_eq_false c0, decide_eq_false c3, Bool.or_false, Bool.not_false, Bool.true_or] at ub
            rw [ub]
            exact ok_t c3 (ok_nb (by omega) (ok_of (ih true) ⟨rfl, rfl⟩))
    · rw [decide_eq_false c, Bool.false_and] at ub
      rw [ub, Bool.false_or]
      exact ok_t c (ok_nb (by omega) (ok_of (ih b) ⟨rfl, rfl⟩))
/-- both find the same in the way -/
theorem use_eq {S R : w_S} {r : Int} (hCs : RelCs S R) (hCd : RelCd S R 0) (hBk : RelBk S R) (hd : R.1 129 12 = S.1 27 1) : anyb (ubd S r) 1 (S.1 62 3).toNat = (anyb (cbd R r) 1 (R.1 129 68).toNat || anyb (bbd R r) 1 (R.1 129 87).toNat) := by
  obtain ⟨c1, c2, c3, c4⟩ := hCs
  obtain ⟨b1, b2, b3, b4⟩ := hBk
  rw [Bool.eq_iff_iff, Bool.or_eq_true, anyb_true, anyb_true, anyb_true]
  constructor
  · rintro ⟨c, h1, h2, h3⟩
    unfold ubd at h3
    rw [Bool.and_eq_true, decide_eq_true_eq] at h3
    obtain ⟨h4, h5⟩ := h3
    have e1 := (c4 c h1 (by omega)).1
    obtain ⟨e2, e3, e4, _⟩ := hCd c h1 (by omega) (by omega)
    rw [Bool.or_eq_true] at h5
    rcases h5 with h5 | h5
    · left
      refine ⟨c, h1, by omega, ?_⟩
      unfold cbd
      rw [Bool.not_eq_true', Bool.or_eq_false_iff, decide_eq_false_iff_not, decide_eq_false_iff_not] at h5
      rw [Bool.and_eq_true, Bool.or_eq_true, Bool.or_eq_true, decide_eq_true_eq, decide_eq_true_eq, decide_eq_true_eq, decide_eq_true_eq, e1, e2.1]
      omega
    · right
      unfold bkd at h5
      rw [anyb_true] at h5
      obtain ⟨b, q1, q2, q3⟩ := h5
      simp only [Bool.and_eq_true, decide_eq_true_eq] at q3
      obtain ⟨⟨⟨⟨q4, q5⟩, q6⟩, q7⟩, q8⟩ := q3
      obtain ⟨⟨_, r2, _, r4, r5⟩, _⟩ := b4 b q1 (by omega)
      refine ⟨b, q1, by omega, ?_⟩
      unfold bbd
      rw [r2, q4, show ((c : Int)).toNat = c by omega, e1, h4, r5, q5, r4, hd, decide_eq_true rfl, decide_eq_true rfl, decide_eq_true q6]
      rfl
  · rintro (⟨c, h1, h2, h3⟩ | ⟨b, h1, h2, h3⟩)
    · unfold cbd at h3
      have e1 := (c4 c h1 (by omega)).1
      obtain ⟨e2, _⟩ := hCd c h1 (by omega) (by omega)
      rw [Bool.and_eq_true, Bool.or_eq_true, Bool.or_eq_true, decide_eq_true_eq, decide_eq_true_eq, decide_eq_true_eq, decide_eq_true_eq, e1, e2.1] at h3
      refine ⟨c, h1, by omega, ?_⟩
      unfold ubd
      rw [Bool.and_eq_true, Bool.or_eq_true, decide_eq_true_eq]
      refine ⟨h3.1, Or.inl ?_⟩
      rw [Bool.not_eq_true', Bool.or_eq_false_iff, decide_eq_false_iff_not, decide_eq_false_iff_not]
      omega
    · obtain ⟨⟨_, r2, _, r4, r5⟩, _, _, r8, r9, r10, r11, r12, _⟩ := b4 b h1 (by omega)
      unfold bbd at h3
      rw [r2, r4, r5, hd] at h3
      simp only [Bool.and_eq_true, decide_eq_true_eq] at h3
      have e1 := (c4 (S.1 58 b).toNat (by omega) (by omega)).1
      refine ⟨(S.1 58 b).toNat, by omega, by omega, ?_⟩
      unfold ubd
      rw [Bool.and_eq_true, Bool.or_eq_true, decide_eq_true_eq]
      refine ⟨by rw [← e1]; exact h3.1, Or.inr ?_⟩
      unfold bkd
      rw [anyb_true]
      refine ⟨b, h1, by omega, ?_⟩
      simp only [Bool.and_eq_true, decide_eq_true_eq]
      exact ⟨⟨⟨⟨by omega, h3.2.1⟩, h3.2.2⟩, by omega⟩, by omega⟩
end
section
-- eg
/-- may a record go, to both -/
theorem x_may {e : w_E} {N r : Nat} {S R : w_S} {top : Int} {ta L E V n : Nat} (hN : 16000000 ≤ N) (hG : RelG S R) (hQ : RelQ S R) (hBk : RelBk S R) (hCs : RelCs S R) (hCd : RelCd S R 0) (hB : RelB S R) (hV : RelV S R) (hv : RelVr S R top ta L E V n) (hk : RelLk S R) (hn : RelNm S R top) (hKp : RelKp S R top) (hd : R.1 129 12 = S.1 27 1) (hd2 : S.1 27 1 ≤ 50000) (htop : top ≤ 10240) (hs : ∀ j, -128 ≤ S.1 2 j ∧ S.1 2 j ≤ 127) (h1 : 1 ≤ r) (h2 : (r : Int) ≤ S.1 3 0) : ∃ b : Bool, Ok (E_C_mayDispose e N (r : Int) S) (fun y S1 => y = bi b ∧ frm [121, 122, 123, 124, 125, 126, 127] [120] [(120, 0)] S S1) ∧ Ok (E_R_mayGo e N (r : Int) R) (fun y R1 => y = bi b ∧ frm [150] [129] [(129, 37)] R R1) ∧ (b = true → S.1 5 r = -1) := by
  have fr0 := frm.refl [121, 122, 123, 124, 125, 126, 127] [120] [(120, 0)] S
  have fR0 := frm.refl [150] [129] [(129, 37)] R
  have hh := hv
  obtain ⟨k1, k2, k3, k4, k5, k6, k7, k8, k9, k10, k11⟩ := hh
  unfold E_C_mayDispose E_R_mayGo
  rw [show ((r : Int)).toNat = r by omega]
  by_cases c0 : S.1 5 r = -1
  rotate_left
  · have ir := x_isRec0 (e := e) (N := N) (x := (r : Int)) hG (fun w => c0 (by have := w.2.2; rw [show ((r : Int)).toNat = r by omega] at this; exact this))
    refine ⟨false, ok_e (by omega) (ok_e (by omega) (ok_ib (by omega) (ok_t c0 (ok_s ⟨rfl, fr0⟩)))), ok_b (ok_of ir (ok_t rfl (ok_s ⟨rfl, fR0⟩))), fun w => by cases w⟩
  have ir := x_isRec1 (e := e) (N := N) (x := (r : Int)) hG ⟨by omega, h2, by rw [show ((r : Int)).toNat = r by omega]; exact c0⟩
  obtain ⟨_, v2, v3⟩ := hV r h1 h2
  have cl : ∀ {P : Int → w_S → Prop}, Ok (if (S.1 7 r) ≠ 0 then some (0, S) else ((E_Buying_hasSerial e N (r : Int) S).bind (fun q113 => (if q113.1 ≠ 0 then some (0, q113.2) else ((E_Lending_isInUse e N (r : Int) q113.2).bind (fun q114 => (if q114.1 = 0 then ((E_Catalog_copyTo e N (q114.2.1 4 r) q114.2).bind (fun q118 => ((E_Authority_layNames e N (q114.2.1 4 r) (q114.2.1 27 1) q118.2).bind (fun q119 => ((E_RuleBook_daysToKeep e N q119.2).bind (fun q122 => (if q122.1 = (-1) then some (0, q122.2) else (if w_ib (q114.2.1 4 r) 400 = true then (if w_nb ((q122.2.1 9 ((q114.2.1 4 r).toNat)) + q122.1) = true then (if (q122.2.1 27 1) ≤ ((q122.2.1 9 ((q114.2.1 4 r).toNat)) + q122.1) then some (0, q122.2) else some (1, q122.2)) else none) else none)))))))) else some (0, q114.2)))))))) P → Ok (if (r : Int) < 1 then some (0, S) else (if (S.1 3 0) < (r : Int) then some (0, S) else (if w_ib (r : Int) 151 = true then (if (S.1 5 r) ≠ (-1) then some (0, S) else (if (S.1 7 r) ≠ 0 then some (0, S) else ((E_Buying_hasSerial e N (r : Int) S).bind (fun q113 => (if q113.1 ≠ 0 then some (0, q113.2) else ((E_Lending_isInUse e N (r : Int) q113.2).bind (fun q114 => (if q114.1 = 0 then ((E_Catalog_copyTo e N (q114.2.1 4 r) q114.2).bind (fun q118 => ((E_Authority_layNames e N (q114.2.1 4 r) (q114.2.1 27 1) q118.2).bind (fun q119 => ((E_RuleBook_daysToKeep e N q119.2).bind (fun q122 => (if q122.1 = (-1) then some (0, q122.2) else (if w_ib (q114.2.1 4 r) 400 = true then (if w_nb ((q122.2.1 9 ((q114.2.1 4 r).toNat)) + q122.1) = true then (if (q122.2.1 27 1) ≤ ((q122.2.1 9 ((q114.2.1 4 r).toNat)) + q122.1) then some (0, q122.2) else some (1, q122.2)) else none) else none)))))))) else some (0, q114.2))))))))) else none))) P := by
    intro P h
    exact ok_e (by omega) (ok_e (by omega) (ok_ib (by omega) (ok_e (fun w => w c0) h)))
  have rl : ∀ {P : Int → w_S → Prop}, Ok (if (R.1 201 r) ≠ 0 then some (0, R) else ((E_R_inQueue e N (r : Int) 0 R).bind (fun q1195 => (if q1195.1 = (-1) then El_R_mayGo e N N 0 [(r : Int), 1] [] q1195.2 else some (0, q1195.2))))) P → Ok ((E_R_isRecord e N (r : Int) R).bind (fun q1194 => (if q1194.1 = 0 then some (0, q1194.2) else (if w_ib (r : Int) 151 = true then (if (q1194.2.1 201 r) ≠ 0 then some (0, q1194.2) else ((E_R_inQueue e N (r : Int) 0 q1194.2).bind (fun q1195 => (if q1195.1 = (-1) then El_R_mayGo e N N 0 [(r : Int), 1] [] q1195.2 else some (0, q1195.2))))) else none)))) P := by
    intro P h
    refine ok_b (ok_of ir ?_)
    dsimp only
    exact ok_e (by decide) (ok_ib (by omega) h)
  by_cases c1 : S.1 7 r = 0
  rotate_left
  · exact ⟨false, cl (ok_t c1 (ok_s ⟨rfl, fr0⟩)), rl (ok_t (by rw [v2]; exact c1) (ok_s ⟨rfl, fR0⟩)), fun w => by cases w⟩
  obtain ⟨qn, qv, q1, q2, q3, q4, q5⟩ := x_waits (e := e) (N := N) (x1 := (r : Int)) (by omega) hQ
  obtain ⟨b1, b2, b3, b4⟩ := hB
  have ue := use_eq (r := (r : Int)) hCs hCd hBk hd
  obtain ⟨cs1, cs2, cs3, cs4⟩ := hCs
  obtain ⟨bk1, bk2, bk3, bk4⟩ := hBk
  have hsr := ok_eq (l_hasSerial (e := e) (N := N) (S := S) (x1 := (r : Int)) ⟨b2, b3⟩ (S.1 76 0).toNat N 1 (by omega) (by omega) (by omega))
  rw [show (1 : Int).toNat = 1 from rfl] at hsr
  have hsr' : E_Buying_hasSerial e N (r : Int) S = some (bi (anyb (fun j => decide (S.1 77 j = (r : Int))) 1 (S.1 76 0).toNat), S) := hsr
  have se : anyb (fun j => decide (R.1 217 j = (r : Int))) 1 (R.1 129 131).toNat = anyb (fun j => decide (S.1 77 j = (r : Int))) 1 (S.1 76 0).toNat := by
    rw [b1]
    refine anyb_congr _ _ (fun k k1 k2 => ?_)
    rw [(b4 k k1 (by omega)).1]
  have iu : E_Lending_isInUse e N (r : Int) S = some (bi (!decide (qn ≤ 0) || anyb (ubd S (r : Int)) 1 (S.1 62 3).toNat), S) := by
    refine ok_eq ?_
    unfold E_Lending_isInUse
    refine ok_b (ok_of q1 ?_)
    dsimp only
    by_cases c : qn ≤ 0
    · rw [decide_eq_true c]
      exact ok_t c (ok_of (l_isU (e := e) (N := N) (by omega) ⟨cs2, cs3⟩ ⟨bk2, bk3⟩ (S.1 62 3).toNat 1 N false (by omega) (by omega) (by omega)) ⟨rfl, rfl⟩)
    · rw [decide_eq_false c]
      exact ok_e c (ok_of (l_isU (e := e) (N := N) (by omega) ⟨cs2, cs3⟩ ⟨bk2, bk3⟩ (S.1 62 3).toNat 1 N true (by omega) (by omega) (by omega)) ⟨rfl, rfl⟩)
  -- somebody waits
  by_cases c2 : qn ≤ 0
  rotate_left
  · rw [decide_eq_false c2, Bool.not_false, Bool.true_or] at iu
    refine ⟨false, cl (ok_e (fun w => w c1) (ok_b (ok_of hsr' ?_))), rl (ok_e (fun w => w (by rw [v2]; exact c1)) (ok_b (ok_of q2 (ok_e (by omega) (ok_s ⟨rfl, fR0⟩))))), fun w => by cases w⟩
    dsimp only
    refine ok_if (fun _ => ok_s ⟨rfl, fr0⟩) (fun _ => ok_b (ok_of iu (ok_e (by dsimp only; decide) (ok_s ⟨rfl, fr0⟩))))
  rw [decide_eq_true c2, Bool.not_true, Bool.false_or] at iu
  have rl2 : ∀ {P : Int → w_S → Prop}, Ok (El_R_mayGo e N N 0 [(r : Int), 1] [] R) P → Ok ((E_R_isRecord e N (r : Int) R).bind (fun q1194 => (if q1194.1 = 0 then some (0, q1194.2) else (if w_ib (r : Int) 151 = true then (if (q1194.2.1 201 r) ≠ 0 then some (0, q1194.2) else ((E_R_inQueue e N (r : Int) 0 q1194.2).bind (fun q1195 => (if q1195.1 = (-1) then El_R_mayGo e N N 0 [(r : Int), 1] [] q1195.2 else some (0, q1195.2))))) else none)))) P := by
    intro P h
    exact rl (ok_e (fun w => w (by rw [v2]; exact c1)) (ok_b (ok_of q2 (ok_t (by omega) h))))
  cases c3 : anyb (fun j => decide (S.1 77 j = (r : Int))) 1 (S.1 76 0).toNat with
  | true =>
    rw [c3] at hsr' se
    refine ⟨false, cl (ok_e (fun w => w c1) (ok_b (ok_of hsr' (ok_t (by dsimp only; decide) (ok_s ⟨rfl, fr0⟩))))), rl2 ?_, fun w => by cases w⟩
    exact l_mg0 (by omega) (R.1 129 131).toNat 1 N (by omega) (by omega) (by omega) (fun _ => ⟨rfl, fR0⟩) (fun w => by rw [se] at w; cases w)
  | false =>
    rw [c3] at hsr' se
    have cl2 : ∀ {P : Int → w_S → Prop}, Ok (if bi (anyb (ubd S (r : Int)) 1 (S.1 62 3).toNat) = 0 then ((E_Catalog_copyTo e N (S.1 4 r) S).bind (fun q118 => ((E_Authority_layNames e N (S.1 4 r) (S.1 27 1) q118.2).bind (fun q119 => ((E_RuleBook_daysToKeep e N q119.2).bind (fun q122 => (if q122.1 = (-1) then some (0, q122.2) else (if w_ib (S.1 4 r) 400 = true then (if w_nb ((q122.2.1 9 ((S.1 4 r).toNat)) + q122.1) = true then (if (q122.2.1 27 1) ≤ ((q122.2.1 9 ((S.1 4 r).toNat)) + q122.1) then some (0, q122.2) else some (1, q122.2)) else none) else none)))))))) else some (0, S)) P → Ok (if (r : Int) < 1 then some (0, S) else (if (S.1 3 0) < (r : Int) then some (0, S) else (if w_ib (r : Int) 151 = true then (if (S.1 5 r) ≠ (-1) then some (0, S) else (if (S.1 7 r) ≠ 0 then some (0, S) else ((E_Buying_hasSerial e N (r : Int) S).bind (fun q113 => (if q113.1 ≠ 0 then some (0, q113.2) else ((E_Lending_isInUse e N (r : Int) q113.2).bind (fun q114 => (if q114.1 = 0 then ((E_Catalog_copyTo e N (q114.2.1 4 r) q114.2).bind (fun q118 => ((E_Authority_layNames e N (q114.2.1 4 r) (q114.2.1 27 1) q118.2).bind (fun q119 => ((E_RuleBook_daysToKeep e N q119.2).bind (fun q122 => (if q122.1 = (-1) then some (0, q122.2) else (if w_ib (q114.2.1 4 r) 400 = true then (if w_nb ((q122.2.1 9 ((q114.2.1 4 r).toNat)) + q122.1) = true then (if (q122.2.1 27 1) ≤ ((q122.2.1 9 ((q114.2.1 4 r).toNat)) + q122.1) then some (0, q122.2) else some (1, q122.2)) else none) else none)))))))) else some (0, q114.2))))))))) else none))) P := by
      intro P h
      exact cl (ok_e (fun w => w c1) (ok_b (ok_of hsr' (ok_e (by dsimp only; decide) (ok_b (ok_of iu h))))))
    have rl3 : ∀ {P : Int → w_S → Prop}, (∀ n', N ≤ n' + 22 → Ok (El_R_mayGo e N n' 1 [(r : Int), 1] [] R) P) → Ok ((E_R_isRecord e N (r : Int) R).bind (fun q1194 => (if q1194.1 = 0 then some (0, q1194.2) else (if w_ib (r : Int) 151 = true then (if (q1194.2.1 201 r) ≠ 0 then some (0, q1194.2) else ((E_R_inQueue e N (r : Int) 0 q1194.2).bind (fun q1195 => (if q1195.1 = (-1) then El_R_mayGo e N N 0 [(r : Int), 1] [] q1195.2 else some (0, q1195.2))))) else none)))) P := by
      intro P h
      exact rl2 (l_mg0 (by omega) (R.1 129 131).toNat 1 N (by omega) (by omega) (by omega) (fun w => by rw [se] at w; cases w) (fun _ n' hn' => h n' (by omega)))
    cases c4 : anyb (ubd S (r : Int)) 1 (S.1 62 3).toNat with
    | true =>
      rw [c4] at ue cl2
      refine ⟨false, cl2 (ok_e (by decide) (ok_s ⟨rfl, fr0⟩)), rl3 (fun n' hn' => ?_), fun w => by cases w⟩
      refine l_mg1 (by omega) (R.1 129 68).toNat 1 n' (by omega) (by omega) (by omega) (fun _ => ⟨rfl, fR0⟩) (fun w n'' hn'' => ?_)
      refine l_mg2 (by omega) (fun b hb1 hb2 => ?_) (R.1 129 87).toNat 1 n'' (by omega) (by omega) (by omega) (fun _ => ⟨rfl, fR0⟩) (fun w2 => ?_)
      · obtain ⟨⟨_, z2, _⟩, _, _, z8, z9, _⟩ := bk4 b hb1 (by omega)
        omega
      · rw [w, w2] at ue
        cases ue
    | false =>
      rw [c4] at ue cl2
      have u1 : anyb (cbd R (r : Int)) 1 (R.1 129 68).toNat = false := by
        cases hq : anyb (cbd R (r : Int)) 1 (R.1 129 68).toNat with
        | false => rfl
        | true => rw [hq] at ue; cases ue
      have u2 : anyb (bbd R (r : Int)) 1 (R.1 129 87).toNat = false := by
        cases hq : anyb (bbd R (r : Int)) 1 (R.1 129 87).toNat with
        | false => rfl
        | true => rw [hq, Bool.or_true] at ue; cases ue
      obtain ⟨v, D, w1, w2, w3, w4, hD⟩ := x_today (e := e) (N := N) (by omega) hv hd h1 (by omega)
      have bd := x_build (e := e) (N := N) hN hv hk hn w4 hD
      have ly := x_lay (e := e) (N := N) (d := S.1 27 1) (by omega) (show v < 400 by omega) hk hn hD
      obtain ⟨_, d9, d10, d11, _, _, _⟩ := k11 v w1
      have hDD := hD
      obtain ⟨D1, D2, D3, D4, D5, D6, _⟩ := hDD
      rw [hd] at bd
      have dv : ∀ f, f ∈ lyd (nmo R (v : Int) (S.1 27 1)) 0 D → vfd f ∧ f.2.2.2.length ≤ 5 := lyd_v hk hn (fun f hf => by
        obtain ⟨F, hF, rfl⟩ := mem_of_get hf
        exact ⟨D5 _ hf, D4 F hF⟩)
      have dl : (lyd (nmo R (v : Int) (S.1 27 1)) 0 D).length ≤ 12 := by rw [lyd_len]; exact D3
      generalize hD' : lyd (nmo R (v : Int) (S.1 27 1)) 0 D = D' at bd ly dv dl
      obtain ⟨nk, kp1, kp2, kp3, kp4⟩ := hKp
      refine ⟨mgo R v (kpl R D' nk), cl2 (ok_t rfl (ok_b ?_)), rl3 (fun n' hn' => ?_), fun _ => c0⟩
      · rw [w2, show (((v : Nat) : Int)).toNat = v by omega]
        refine ly.mono ?_
        intro _ T lt
        refine ok_b (lt.mono ?_)
        intro _ S1 ⟨s1, s2, _⟩
        have t2 : S1.1 2 = S.1 2 := s1.2.1 2 rfl rfl
        have t33 : S1.1 33 = S.1 33 := s1.2.1 33 rfl rfl
        have dk := l_dtk0 (e := e) (N := N) (n := nk) (S := S1) (R := R) (top := top) (D := D') (by omega) htop (by rw [t2]; exact hs) kp1 (by rw [s1.2.1 35 rfl rfl]; exact kp2) (fun i hi => by
          obtain ⟨p1, p2, p3, p4, p5, p6, m, p7, p8, p9, p10, p11⟩ := kp4 i hi
          have kl := kpr_len R i
          refine ⟨by rw [t33]; exact p1, by omega, ?_⟩
          rw [t2, t33, kl, show (R.1 197 (3 * i + 2)).toNat = m by omega]
          exact p10.up (Int.le_refl _) (fun j hj => by rw [kpr_get R (by omega)])) (by rw [t2]; exact s2) dl dv nk 0 N (by omega) (by omega)
        unfold E_RuleBook_daysToKeep
        refine ok_b (ok_of dk ?_)
        dsimp only
        rw [s1.2.1 9 rfl rfl, s1.2.1 27 rfl rfl, d9, t33, kpl]
        cases hf : fst (fun i => fit (R.1 197 (3 * i)) (kpr R i) D') 0 nk with
        | none => exact ok_t rfl (ok_s ⟨rfl, s1⟩)
        | some j =>
          obtain ⟨_, j2, _⟩ := fst_some hf
          obtain ⟨p1, p2, p3, p4, p5, p6, _⟩ := kp4 j (by omega)
          rw [Option.map_some, Option.getD_some, mgo, p2, hd]
          refine ok_e (by omega) (ok_ib (by omega) (ok_nb (by omega) ?_))
          by_cases c : S.1 27 1 ≤ R.1 137 v + S.1 33 (3 * j + 1)
          · rw [decide_eq_true c]
            exact ok_t c (ok_s ⟨rfl, s1⟩)
          · rw [decide_eq_false c]
            exact ok_e c (ok_s ⟨rfl, s1⟩)
      · refine l_mg1 (by omega) (R.1 129 68).toNat 1 n' (by omega) (by omega) (by omega) (fun w => by rw [u1] at w; cases w) (fun _ n'' hn'' => ?_)
        refine l_mg2 (by omega) (fun b hb1 hb2 => ?_) (R.1 129 87).toNat 1 n'' (by omega) (by omega) (by omega) (fun w => by rw [u2] at w; cases w) (fun _ n3 hn3 => ?_)
        · obtain ⟨⟨_, z2, _⟩, _, _, z8, z9, _⟩ := bk4 b hb1 (by omega)
          omega
        rw [hd]
        refine ok_b (bd.mono ?_)
        intro _ R1 ⟨r1, r2, r3⟩
        dsimp only
        have c97 : R1.1 197 = R.1 197 := r1.2.1 197 rfl rfl
        have c98 : R1.1 198 = R.1 198 := r1.2.1 198 rfl rfl
        have ck : ∀ i, kpr R1 i = kpr R i := fun i => by
          unfold kpr
          rw [c97, c98]
        have vo1 : E_R_versionOn e N (r : Int) (R1.1 129 12) R1 = some ((v : Int), R1) := by
          have := x_rvOn (e := e) (N := N) (R := R1) (r := (r : Int)) (d := R1.1 129 12) (V := V) (by omega) (by rw [r1.2.2 129 17 rfl rfl]; exact k4) k5
          rw [this, r1.2.2 129 12 rfl rfl, r1.2.1 136 rfl rfl, r1.2.1 137 rfl rfl, w4]
        have m3 := l_mg3 (e := e) (N := N) (n := nk) (v := v) (R := R1) (r := (r : Int)) (D := D') (by omega) kp1 (by rw [r1.2.2 129 104 rfl rfl]; exact kp3) (fun i hi => by
          obtain ⟨p1, p2, p3, p4, p5, p6, m, p7, p8, p9, _⟩ := kp4 i hi
          rw [c97]
          omega) r2 r3 dl dv vo1 (by omega) (by rw [r1.2.1 137 rfl rfl]; omega) nk 0 n3 (by omega) (by omega)
        refine ok_of m3 ⟨?_, r1⟩
        unfold kpl
        simp only [ck, c97]
        cases hf : fst (fun i => fit (R.1 197 (3 * i)) (kpr R i) D') 0 nk with
        | none => rfl
        | some j =>
          rw [mgo, mgo, r1.2.2 129 12 rfl rfl, r1.2.1 137 rfl rfl, c97]
end
section
-- eh
/-- all that due and dispose look at -/
def RelD (S R : w_S) (t top : Int) (ta L E V n : Nat) : Prop := RelL S R t ∧ RelB S R ∧ RelV S R ∧ RelVr S R top ta L E V n ∧ RelLk S R ∧ RelNm S R top ∧ RelKp S R top ∧ ∀ j, -128 ≤ S.1 2 j ∧ S.1 2 j ≤ 127
abbrev DS : List Nat := [5, 6, 65, 66, 68, 121, 122, 123, 124, 125, 126, 127]
abbrev DR : List Nat := [134, 135, 150, 171]
theorem RelD.go {S R S1 R1 : w_S} {t top : Int} {ta L E V n : Nat} (h : RelD S R t top ta L E V n) (f : frm DS [120] [(120, 0)] S S1) (g : frm DR [129] [(129, 37)] R R1) (hL : RelL S1 R1 t) (hV : RelV S1 R1) : RelD S1 R1 t top ta L E V n := by
  obtain ⟨h1, h2, h3, h4, h5, h6, h7, h8⟩ := h
  refine ⟨hL, h2.fr f g (by decide), hV, ?_, h5.fr f g (by decide), h6.fr f g (by decide), h7.fr f g (by decide), by rw [f.2.1 2 rfl rfl]; exact h8⟩
  refine h4.fr (fun a ha => ?_) (by rw [f.2.1 3 rfl rfl]) (by rw [f.2.1 3 rfl rfl]) (by rw [f.2.1 27 rfl rfl]; omega) (fun a ha => g.2.1 a ?_ ?_) (g.2.2 129 13 rfl rfl) (g.2.2 129 17 rfl rfl) (g.2.2 129 23 rfl rfl) g.1
  · rcases (show a = 2 ∨ a = 4 ∨ a = 8 ∨ a = 9 ∨ a = 10 ∨ a = 11 ∨ a = 12 ∨ a = 13 ∨ a = 14 ∨ a = 15 ∨ a = 16 by omega) with rfl | rfl | rfl | rfl | rfl | rfl | rfl | rfl | rfl | rfl | rfl <;> rw [f.2.1 _ rfl rfl]
  · simp only [List.contains_cons, List.contains_nil, Bool.or_false, Bool.or_eq_false_iff, beq_eq_false_iff_ne]
    omega
  · simp only [List.contains_cons, List.contains_nil, Bool.or_false, beq_eq_false_iff_ne]
    omega
theorem fS_wide {S S1 : w_S} (f : frm [121, 122, 123, 124, 125, 126, 127] [120] [(120, 0)] S S1) : frm DS [120] [(120, 0)] S S1 := f.wide (fun b h => by
  simp only [List.contains_cons, List.contains_nil, Bool.or_false, Bool.or_eq_false_iff] at h ⊢
  simp only [h, and_self]) (fun b h => h) (fun b j h => h)
theorem fR_wide {R R1 : w_S} (f : frm [150] [129] [(129, 37)] R R1) : frm DR [129] [(129, 37)] R R1 := f.wide (fun b h => by
  simp only [List.contains_cons, List.contains_nil, Bool.or_false, Bool.or_eq_false_iff] at h ⊢
  simp only [h]) (fun b h => h) (fun b j h => h)
theorem RelD.ask {S R S1 R1 : w_S} {t top : Int} {ta L E V n : Nat} (h : RelD S R t top ta L E V n) (f : frm [121, 122, 123, 124, 125, 126, 127] [120] [(120, 0)] S S1) (g : frm [150] [129] [(129, 37)] R R1) : RelD S1 R1 t top ta L E V n := h.go (fS_wide f) (fR_wide g) (h.1.fr f g (by decide)) (h.2.2.1.fr f g (by decide))
theorem RelD.may {e : w_E} {N r : Nat} {S R : w_S} {t top : Int} {ta L E V n : Nat} (hN : 16000000 ≤ N) (htop : top ≤ 10240) (h : RelD S R t top ta L E V n) (h1 : 1 ≤ r) (h2 : (r : Int) ≤ S.1 3 0) : ∃ b : Bool, Ok (E_C_mayDispose e N (r : Int) S) (fun y S1 => y = bi b ∧ frm [121, 122, 123, 124, 125, 126, 127] [120] [(120, 0)] S S1) ∧ Ok (E_R_mayGo e N (r : Int) R) (fun y R1 => y = bi b ∧ frm [150] [129] [(129, 37)] R R1) ∧ (b = true → S.1 5 r = -1) := by
  obtain ⟨hL, hB, hV, hv, hk, hn, hKp, hs⟩ := h
  obtain ⟨hT, hP, hQ, hG, hRd, hLn, hBk, hCs, hCd, hLo, hCl, hRu⟩ := hL
  exact x_may hN hG hQ hBk hCs hCd hB hV hv hk hn hKp hT.2.2.1 hT.2.1 htop hs h1 h2
theorem l_dued {e : w_E} {N : Nat} {x1 t top : Int} {ta L E V n : Nat} (hN : 16000000 ≤ N) (htop : top ≤ 10240) : ∀ (k r c nf nr : Nat) (S R : w_S), RelD S R t top ta L E V n → 1 ≤ r → (r : Int) + k = S.1 3 0 + 1 → k < nf → k < nr → c ≤ r → Ok (El_C_due e N nf 0 [x1, (c : Int), (r : Int)] [] S) (fun y S1 => frm [121, 122, 123, 124, 125, 126, 127] [120] [(120, 0)] S S1 ∧ (x1 < 0 → y = -1) ∧ (0 ≤ x1 → Ok (El_R_due e N nr 0 [x1, (c : Int), (r : Int)] [] R) (fun y' R1 => y' = y ∧ frm [150] [129] [(129, 37)] R R1)))
  | _, _, _, 0, _, _, _, _, _, _, h, _, _ => by omega
  | _, _, _, _ + 1, 0, _, _, _, _, _, _, h, _ => by omega
  | 0, r, c, nf + 1, nr + 1, S, R, g1, g2, g3, g4, g5, g6 => by
    have hG := g1.1.2.2.2.1
    rw [El_C_due, El_R_due, hG.1]
    exact ok_t (by omega) (ok_s ⟨frm.refl _ _ _ _, fun _ => rfl, fun _ => ok_t (by omega) (ok_s ⟨rfl, frm.refl _ _ _ _⟩)⟩)
  | k + 1, r, c, nf + 1, nr + 1, S, R, g1, g2, g3, g4, g5, g6 => by
    have hG := g1.1.2.2.2.1
    have h150 := hG.2.2.1
    obtain ⟨b, ⟨y, S2, q1, q2, q3⟩, ⟨y', R2, p1, p2, p3⟩, _⟩ := RelD.may (e := e) hN htop g1 g2 (by omega)
    have g1' := g1.ask q3 p3
    have s3 : S2.1 3 0 = S.1 3 0 := by rw [q3.2.1 3 rfl rfl]
    rw [El_C_due, El_R_due, hG.1]
    refine ok_e (by omega) (ok_b (ok_of q1 ?_))
    dsimp only
    subst q2 p2
    rw [show (r : Int) + 1 = ((r + 1 : Nat) : Int) by omega]
    cases b with
    | false =>
      refine ok_t rfl (ok_nb (by omega) ?_)
      refine (l_dued (e := e) (x1 := x1) hN htop k (r + 1) c nf nr S2 R2 g1' (by omega) (by omega) (by omega) (by omega) (by omega)).mono ?_
      intro y S3 ⟨w1, w2, w3⟩
      refine ⟨q3.trans w1, w2, fun hx => ok_e (by omega) (ok_e (by omega) (ok_b (ok_of p1 ?_)))⟩
      dsimp only
      exact ok_e (by decide) (ok_nb (by omega) ((w3 hx).mono (fun y' R3 z => ⟨z.1, p3.trans z.2⟩)))
    | true =>
      refine ok_e (by decide) ?_
      by_cases d : (c : Int) = x1
      · refine ok_e (fun w => w d) (ok_s ⟨q3, fun _ => by omega, fun hx => ok_e (by omega) (ok_e (by omega) (ok_b (ok_of p1 ?_)))⟩)
        dsimp only
        exact ok_t (by decide) (ok_e (fun w => w d) (ok_s ⟨rfl, p3⟩))
      · refine ok_t d (ok_nb (by omega) (ok_nb (by omega) ?_))
        rw [show (c : Int) + 1 = ((c + 1 : Nat) : Int) by omega]
        refine (l_dued (e := e) (x1 := x1) hN htop k (r + 1) (c + 1) nf nr S2 R2 g1' (by omega) (by omega) (by omega) (by omega) (by omega)).mono ?_
        intro y S3 ⟨w1, w2, w3⟩
        refine ⟨q3.trans w1, w2, fun hx => ok_e (by omega) (ok_e (by omega) (ok_b (ok_of p1 ?_)))⟩
        dsimp only
        exact ok_t (by decide) (ok_t d (ok_nb (by omega) (ok_nb (by omega) ((w3 hx).mono (fun y' R3 z => ⟨z.1, p3.trans z.2⟩)))))
/-- due -/
theorem q_due {e : w_E} {N : Nat} {S R : w_S} {x1 t top : Int} {ta L E V n : Nat} (hN : 16000000 ≤ N) (htop : top ≤ 10240) (h : RelD S R t top ta L E V n) : Ok (E_C_due e N x1 S) (fun y S1 => Ok (E_R_due e N x1 R) (fun y' R1 => y' = y ∧ frm [121, 122, 123, 124, 125, 126, 127] [120] [(120, 0)] S S1 ∧ frm [150] [129] [(129, 37)] R R1)) := by
  have hG := h.1.2.2.2.1
  obtain ⟨g1, g2, g3, _⟩ := hG
  unfold E_C_due E_R_due
  refine (l_dued (e := e) (x1 := x1) hN htop (S.1 3 0).toNat 1 0 N N S R h (by omega) (by omega) (by omega) (by omega) (by omega)).mono ?_
  intro y S1 ⟨w1, w2, w3⟩
  by_cases c : x1 < 0
  · obtain ⟨m, hm⟩ : ∃ m, N = m + 1 := ⟨N - 1, by omega⟩
    rw [show El_R_due e N N = El_R_due e N (m + 1) by rw [← hm], El_R_due]
    refine ok_if (fun _ => ok_s ⟨(w2 c).symm, w1, frm.refl _ _ _ _⟩) (fun _ => ok_t c (ok_s ⟨(w2 c).symm, w1, frm.refl _ _ _ _⟩))
  · exact (w3 (by omega)).mono (fun y' R1 z => ⟨z.1, w1, z.2⟩)
/-- copies that are in are put away -/
theorem l_paw {e : w_E} {N : Nat} {r : Int} : ∀ (k i nf : Nat) (S : w_S), k < nf → 1 ≤ i → (i : Int) + k = S.1 62 3 + 1 → S.1 62 3 ≤ 200 → (∀ c : Nat, i ≤ c → c < i + k → S.1 65 c = 0 → S.1 66 c = 0 ∧ S.1 68 c = -1) → Ok (El_Lending_putAllAway e N nf 0 [r, (i : Int)] [] S) (fun _ S1 => frm [65, 66, 68] [] [] S S1 ∧ (∀ c, S1.1 66 c = S.1 66 c) ∧ (∀ c, S1.1 68 c = S.1 68 c) ∧ ∀ c, S1.1 65 c = if i ≤ c ∧ c < i + k ∧ S.1 63 c = r ∧ S.1 65 c = 0 then 3 else S.1 65 c)
  | _, _, 0, _, h, _, _, _, _ => by omega
  | 0, i, nf + 1, S, g1, g2, g3, g4, g5 => by
    rw [El_Lending_putAllAway]
    exact ok_t (by omega) (ok_s ⟨frm.refl _ _ _ _, fun _ => rfl, fun _ => rfl, fun c => by rw [if_neg (by omega)]⟩)
  | k + 1, i, nf + 1, S, g1, g2, g3, g4, g5 => by
    rw [El_Lending_putAllAway, show ((i : Int)).toNat = i by omega, show (i : Int) + 1 = ((i + 1 : Nat) : Int) by omega]
    refine ok_e (by omega) (ok_ib (by omega) ?_)
    have skip : ¬ (S.1 63 i = r ∧ S.1 65 i = 0) → Ok (El_Lending_putAllAway e N nf 0 [r, ((i + 1 : Nat) : Int)] [] S) (fun _ S1 => frm [65, 66, 68] [] [] S S1 ∧ (∀ c, S1.1 66 c = S.1 66 c) ∧ (∀ c, S1.1 68 c = S.1 68 c) ∧ ∀ c, S1.1 65 c = if i ≤ c ∧ c < i + (k + 1) ∧ S.1 63 c = r ∧ S.1 65 c = 0 then 3 else S.1 65 c) := by
      intro w
      refine (l_paw (e := e) (N := N) (r := r) k (i + 1) nf S (by omega) (by omega) (by omega) g4 (fun c a b => g5 c (by omega) (by omega))).mono ?_
      intro _ S1 ⟨q1, q2, q3, q4⟩
      refine ⟨q1, q2, q3, fun c => ?_⟩
      rw [q4]
      by_cases d : c = i
      · subst d
        rw [if_neg (by omega), if_neg (fun z => w ⟨z.2.2.1, z.2.2.2⟩)]
      · by_cases d2 : i + 1 ≤ c ∧ c < i + 1 + k ∧ S.1 63 c = r ∧ S.1 65 c = 0
        · rw [if_pos d2, if_pos ⟨by omega, by omega, d2.2.2.1, d2.2.2.2⟩]
        · rw [if_neg d2, if_neg (fun z => d2 ⟨by omega, by omega, z.2.2.1, z.2.2.2⟩)]
    by_cases c1 : S.1 63 i = r
    rotate_left
    · exact ok_t c1 (ok_nb (by omega) (skip (fun w => c1 w.1)))
    refine ok_e (fun w => w c1) ?_
    by_cases c2 : S.1 65 i = 0
    rotate_left
    · exact ok_t c2 (ok_nb (by omega) (skip (fun w => c2 w.2)))
    refine ok_e (fun w => w c2) (ok_nb (by omega) ?_)
    obtain ⟨z1, z2⟩ := g5 i (by omega) (by omega) c2
    generalize hS : w_put (w_put (w_put S 65 i 3) 66 i 0) 68 i (-1) = S2
    have f2 : frm [65, 66, 68] [] [] S S2 := by
      rw [← hS]
      repeat (first | exact frm.refl _ _ _ _ | refine frm.put ?_ rfl | refine frm.puto ?_ rfl rfl)
    have s65 : ∀ c, S2.1 65 c = if c = i then 3 else S.1 65 c := fun c => by
      rw [← hS]
      simp only [w_put_r, reduceIte, Nat.reduceEqDiff, pt_at]
    have s66 : ∀ c, S2.1 66 c = S.1 66 c := fun c => by
      rw [← hS]
      simp only [w_put_r, reduceIte, Nat.reduceEqDiff, pt_at]
      split
      · next h => rw [h, z1]
      · rfl
    have s68 : ∀ c, S2.1 68 c = S.1 68 c := fun c => by
      rw [← hS]
      simp only [w_put_r, reduceIte, Nat.reduceEqDiff, pt_at]
      split
      · next h => rw [h, z2]
      · rfl
    have s62 : S2.1 62 3 = S.1 62 3 := by rw [f2.2.1 62 rfl rfl]
    refine (l_paw (e := e) (N := N) (r := r) k (i + 1) nf S2 (by omega) (by omega) (by omega) (by omega) (fun c a b h => ?_)).mono ?_
    · rw [s65, if_neg (by omega)] at h
      rw [s66, s68]
      exact g5 c (by omega) (by omega) h
    intro _ S1 ⟨q1, q2, q3, q4⟩
    refine ⟨f2.trans q1, fun c => by rw [q2, s66], fun c => by rw [q3, s68], fun c => ?_⟩
    rw [q4, s65, f2.2.1 63 rfl rfl]
    by_cases d : c = i
    · subst d
      rw [if_pos rfl, if_neg (by omega), if_pos ⟨by omega, by omega, c1, c2⟩]
    · rw [if_neg d]
      by_cases d2 : i + 1 ≤ c ∧ c < i + 1 + k ∧ S.1 63 c = r ∧ S.1 65 c = 0
      · rw [if_pos d2, if_pos ⟨by omega, by omega, d2.2.2.1, d2.2.2.2⟩]
      · rw [if_neg d2, if_neg (fun z => d2 ⟨by omega, by omega, z.2.2.1, z.2.2.2⟩)]
theorem l_rpaw {e : w_E} {N r : Nat} {x1 : Int} {P : Int → w_S → Prop} (hr : r ≤ 150) (hx : 0 ≤ x1 ∧ x1 ≤ 1000) : ∀ (k i nf : Nat) (S : w_S), k < nf → 1 ≤ i → (i : Int) + k = S.1 129 68 + 1 → S.1 129 68 ≤ 200 → (∀ S1 n', nf ≤ n' + k + 1 → frm [171] [] [] S S1 → (∀ c, S1.1 171 c = if i ≤ c ∧ c < i + k ∧ S.1 169 c = (r : Int) ∧ S.1 171 c = 0 then 3 else S.1 171 c) → Ok (El_R_doDispose e N n' 0 [x1 + 1, (r : Int) + 1] [] (w_put (w_put S1 134 r (S1.1 129 12)) 135 r (S1.1 129 12))) P) → Ok (El_R_doDispose e N nf 1 [x1, (r : Int), (i : Int)] [] S) P
  | _, _, 0, _, h, _, _, _, _ => by omega
  | 0, i, nf + 1, S, g1, g2, g3, g4, g5 => by
    rw [El_R_doDispose, show ((r : Int)).toNat = r by omega]
    exact ok_t (by omega) (ok_ib (by omega) (ok_nb (by omega) (ok_nb (by omega) (g5 S nf (by omega) (frm.refl _ _ _ _) (fun c => by rw [if_neg (by omega)])))))
  | k + 1, i, nf + 1, S, g1, g2, g3, g4, g5 => by
    rw [El_R_doDispose, show ((i : Int)).toNat = i by omega, show (i : Int) + 1 = ((i + 1 : Nat) : Int) by omega]
    refine ok_e (by omega) (ok_ib (by omega) ?_)
    have skip : ¬ (S.1 169 i = (r : Int) ∧ S.1 171 i = 0) → Ok (El_R_doDispose e N nf 1 [x1, (r : Int), ((i + 1 : Nat) : Int)] [] S) P := by
      intro w
      refine l_rpaw hr hx k (i + 1) nf S (by omega) (by omega) (by omega) g4 (fun S1 n' h1 h2 h3 => g5 S1 n' (by omega) h2 (fun c => ?_))
      rw [h3]
      by_cases d : c = i
      · subst d
        rw [if_neg (by omega), if_neg (fun z => w ⟨z.2.2.1, z.2.2.2⟩)]
      · by_cases d2 : i + 1 ≤ c ∧ c < i + 1 + k ∧ S.1 169 c = (r : Int) ∧ S.1 171 c = 0
        · rw [if_pos d2, if_pos ⟨by omega, by omega, d2.2.2.1, d2.2.2.2⟩]
        · rw [if_neg d2, if_neg (fun z => d2 ⟨by omega, by omega, z.2.2.1, z.2.2.2⟩)]
    by_cases c1 : S.1 169 i = (r : Int)
    rotate_left
    · exact ok_t c1 (ok_nb (by omega) (skip (fun w => c1 w.1)))
    refine ok_e (fun w => w c1) ?_
    by_cases c2 : S.1 171 i = 0
    rotate_left
    · exact ok_t c2 (ok_nb (by omega) (skip (fun w => c2 w.2)))
    refine ok_e (fun w => w c2) (ok_nb (by omega) ?_)
    generalize hS : w_put S 171 i 3 = S2
    have f2 : frm [171] [] [] S S2 := by
      rw [← hS]
      repeat (first | exact frm.refl _ _ _ _ | refine frm.put ?_ rfl | refine frm.puto ?_ rfl rfl)
    have s71 : ∀ c, S2.1 171 c = if c = i then 3 else S.1 171 c := fun c => by
      rw [← hS]
      simp only [w_put_r, reduceIte, Nat.reduceEqDiff, pt_at]
    have s62 : S2.1 129 68 = S.1 129 68 := by rw [f2.2.1 129 rfl rfl]
    refine l_rpaw hr hx k (i + 1) nf S2 (by omega) (by omega) (by omega) (by omega) (fun S1 n' h1 h2 h3 => g5 S1 n' (by omega) (f2.trans h2) (fun c => ?_))
    rw [h3, s71, f2.2.1 169 rfl rfl]
    by_cases d : c = i
    · subst d
      rw [if_pos rfl, if_neg (by omega), if_pos ⟨by omega, by omega, c1, c2⟩]
    · rw [if_neg d]
      by_cases d2 : i + 1 ≤ c ∧ c < i + 1 + k ∧ S.1 169 c = (r : Int) ∧ S.1 171 c = 0
      · rw [if_pos d2, if_pos ⟨by omega, by omega, d2.2.2.1, d2.2.2.2⟩]
      · rw [if_neg d2, if_neg (fun z => d2 ⟨by omega, by omega, z.2.2.1, z.2.2.2⟩)]
end
