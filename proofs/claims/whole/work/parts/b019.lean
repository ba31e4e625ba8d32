section
-- cf
/-- a digit's or a letter's byte out of its rank -/
def bd (o d : Int) : Int := if d = 0 then 0 else d + o
theorem bd_eq {o x y : Int} (ho : 0 < o) (hx : 0 ≤ x) (hy : 0 ≤ y) : bd o x = bd o y ↔ x = y := by
  unfold bd
  constructor
  · intro z
    split at z
    · split at z <;> omega
    · split at z <;> omega
  · intro z
    rw [z]
theorem bd_le {o x y : Int} (ho : 0 < o) (hx : 0 ≤ x) (hy : 0 ≤ y) : bd o y ≤ bd o x ↔ y ≤ x := by
  unfold bd
  split
  · split <;> omega
  · split <;> omega
/-- a call number in both: none, or its number and its tails -/
def Mk (n v : Int) (g h : Nat → Int) : Prop := (n = -1 ∧ v = 1000000000000) ∨ (0 ≤ n ∧ n ≤ 999 ∧ ∃ d l : Nat → Int, (∀ k, k < 5 → 0 ≤ d k ∧ d k ≤ 10 ∧ g k = bd 47 (d k)) ∧ d 4 = 0 ∧ (∀ k, k < 4 → 0 ≤ l k ∧ l k ≤ 26 ∧ h k = bd 64 (l k)) ∧ l 3 = 0 ∧ v = (n * 14641 + (((d 0 * 11 + d 1) * 11 + d 2) * 11 + d 3)) * 19683 + ((l 0 * 27 + l 1) * 27 + l 2))
def RelMk (S R : w_S)  : Prop := ∀ c : Nat, 1 ≤ c → (c : Int) ≤ S.1 62 3 → Mk (R.1 180 c) (S.1 72 c) (fun k => R.1 181 (5 * c + k)) (fun k => R.1 182 (4 * c + k))
theorem RelMk.fr {S R S1 R1 : w_S}  {L O L' O' : List Nat} {J J' : List (Nat × Nat)} (h : RelMk S R ) (hf : frm L O J S S1) (hg : frm L' O' J' R R1) (dd : (ckA L O [72] && (ckS L J [(62, 3)] && (ckA L' O' [180, 181, 182] && ckS L' J' []))) = true) : RelMk S1 R1  := by
  have d := ck4 dd
  have a0 : S1.1 72 = S.1 72 := hf.2.1 72 (d.1 72 (by decide)).1 (d.1 72 (by decide)).2
  have b0 : S1.1 62 3 = S.1 62 3 := hf.2.2 62 3 (d.2.1 (62, 3) (by decide)).1 (d.2.1 (62, 3) (by decide)).2
  have g0 : R1.1 180 = R.1 180 := hg.2.1 180 (d.2.2.1 180 (by decide)).1 (d.2.2.1 180 (by decide)).2
  have g1 : R1.1 181 = R.1 181 := hg.2.1 181 (d.2.2.1 181 (by decide)).1 (d.2.2.1 181 (by decide)).2
  have g2 : R1.1 182 = R.1 182 := hg.2.1 182 (d.2.2.1 182 (by decide)).1 (d.2.2.1 182 (by decide)).2
  unfold RelMk at h ⊢
  simp only [a0, b0, g0, g1, g2]
  exact h
theorem l_sa1 {e : w_E} {N a b : Nat} {R : w_S} {l l' : Nat → Int} {z : Prop} [Decidable z] (ha : a ≤ 200) (hb : b ≤ 200) (hl : ∀ k, k < 4 → 0 ≤ l k ∧ l k ≤ 26 ∧ R.1 182 (4 * a + k) = bd 64 (l k)) (hl' : ∀ k, k < 4 → 0 ≤ l' k ∧ l' k ≤ 26 ∧ R.1 182 (4 * b + k) = bd 64 (l' k)) (h3 : l 3 = 0 ∧ l' 3 = 0) (hz : z ↔ ((l 0 * 27 + l 1) * 27 + l 2 < (l' 0 * 27 + l' 1) * 27 + l' 2 ∨ ((l 0 * 27 + l 1) * 27 + l 2 = (l' 0 * 27 + l' 1) * 27 + l' 2 ∧ a < b))) : ∀ (m k nf : Nat), k + m = 4 → m < nf → (∀ j, j < k → l j = l' j) → El_R_standsAhead e N nf 1 [(a : Int), (b : Int), (k : Int)] [] R = some (if z then 1 else 0, R)
  | _, _, 0, _, h, _ => by omega
  | 0, k, nf + 1, h1, h2, h4 => by
    have e0 := h4 0 (by omega)
    have e1 := h4 1 (by omega)
    have e2 := h4 2 (by omega)
    rw [e0, e1, e2] at hz
    refine ok_eq ?_
    rw [El_R_standsAhead]
    refine ok_t (by omega) ?_
    by_cases c : (b : Int) ≤ (a : Int)
    · refine ok_t c (ok_s ⟨?_, rfl⟩)
      rw [if_neg (by rw [hz]; omega)]
    · refine ok_e c (ok_s ⟨?_, rfl⟩)
      rw [if_pos (by rw [hz]; omega)]
  | m + 1, k, nf + 1, h1, h2, h4 => by
    have g1 := hl k (by omega)
    have g2 := hl' k (by omega)
    refine ok_eq ?_
    rw [El_R_standsAhead]
    refine ok_e (by omega) (ok_nb (by omega) (ok_nb (by omega) (ok_ib (by omega) (ok_nb (by omega) (ok_nb (by omega) (ok_ib (by omega) ?_))))))
    rw [show (4 * (a : Int) + k).toNat = 4 * a + k by omega, show (4 * (b : Int) + k).toNat = 4 * b + k by omega, g1.2.2, g2.2.2]
    by_cases c : l k = l' k
    · have ih := l_sa1 (e := e) (N := N) ha hb hl hl' h3 hz m (k + 1) nf (by omega) (by omega) (fun j hj => by
        rcases Nat.lt_or_ge j k with d | d
        · exact h4 j d
        · rw [show j = k by omega]
          exact c)
      rw [show ((k + 1 : Nat) : Int) = (k : Int) + 1 by omega] at ih
      refine ok_t ((bd_eq (by decide) g1.1 g2.1).2 c) (ok_nb (by omega) ?_)
      exact ok_of ih ⟨rfl, rfl⟩
    · refine ok_e (fun z => c ((bd_eq (by decide) g1.1 g2.1).1 z)) ?_
      have b0 := hl 0 (by omega)
      have b1 := hl 1 (by omega)
      have b2 := hl 2 (by omega)
      have b0' := hl' 0 (by omega)
      have b1' := hl' 1 (by omega)
      have b2' := hl' 2 (by omega)
      have kk : k = 0 ∨ k = 1 ∨ k = 2 ∨ k = 3 := by omega
      have key : z ↔ l k < l' k := by
        rcases kk with rfl | rfl | rfl | rfl
        · rw [hz]
          omega
        · have e0 := h4 0 (by omega)
          rw [hz]
          omega
        · have e0 := h4 0 (by omega)
          have e1 := h4 1 (by omega)
          rw [hz]
          omega
        · omega
      by_cases d : bd 64 (l' k) ≤ bd 64 (l k)
      · refine ok_t d (ok_s ⟨?_, rfl⟩)
        have := (bd_le (by decide) g1.1 g2.1).1 d
        rw [if_neg (by rw [key]; omega)]
      · refine ok_e d (ok_s ⟨?_, rfl⟩)
        have : ¬ l' k ≤ l k := fun q => d ((bd_le (by decide) g1.1 g2.1).2 q)
        rw [if_pos (by rw [key]; omega)]
theorem l_sa0 {e : w_E} {N a b : Nat} {R : w_S} {d d' l l' : Nat → Int} {z : Prop} [Decidable z] (ha : a ≤ 200) (hb : b ≤ 200) (hd : ∀ k, k < 5 → 0 ≤ d k ∧ d k ≤ 10 ∧ R.1 181 (5 * a + k) = bd 47 (d k)) (hd' : ∀ k, k < 5 → 0 ≤ d' k ∧ d' k ≤ 10 ∧ R.1 181 (5 * b + k) = bd 47 (d' k)) (h5 : d 4 = 0 ∧ d' 4 = 0) (hl : ∀ k, k < 4 → 0 ≤ l k ∧ l k ≤ 26 ∧ R.1 182 (4 * a + k) = bd 64 (l k)) (hl' : ∀ k, k < 4 → 0 ≤ l' k ∧ l' k ≤ 26 ∧ R.1 182 (4 * b + k) = bd 64 (l' k)) (h3 : l 3 = 0 ∧ l' 3 = 0) (hz : z ↔ ((((d 0 * 11 + d 1) * 11 + d 2) * 11 + d 3) * 19683 + ((l 0 * 27 + l 1) * 27 + l 2) < (((d' 0 * 11 + d' 1) * 11 + d' 2) * 11 + d' 3) * 19683 + ((l' 0 * 27 + l' 1) * 27 + l' 2) ∨ ((((d 0 * 11 + d 1) * 11 + d 2) * 11 + d 3) * 19683 + ((l 0 * 27 + l 1) * 27 + l 2) = (((d' 0 * 11 + d' 1) * 11 + d' 2) * 11 + d' 3) * 19683 + ((l' 0 * 27 + l' 1) * 27 + l' 2) ∧ a < b))) : ∀ (m k nf : Nat), k + m = 5 → m + 6 < nf → (∀ j, j < k → d j = d' j) → El_R_standsAhead e N nf 0 [(a : Int), (b : Int), (k : Int)] [] R = some (if z then 1 else 0, R)
  | _, _, 0, _, h, _ => by omega
  | 0, k, nf + 1, h1, h2, h4 => by
    have e0 := h4 0 (by omega)
    have e1 := h4 1 (by omega)
    have e2 := h4 2 (by omega)
    have e3 := h4 3 (by omega)
    rw [e0, e1, e2, e3] at hz
    have key := l_sa1 (e := e) (N := N) (R := R) (z := z) ha hb hl hl' h3 (by rw [hz]; omega) 4 0 nf (by omega) (by omega) (fun j hj => by omega)
    refine ok_eq ?_
    rw [El_R_standsAhead]
    refine ok_t (by omega) ?_
    exact ok_of key ⟨rfl, rfl⟩
  | m + 1, k, nf + 1, h1, h2, h4 => by
    have g1 := hd k (by omega)
    have g2 := hd' k (by omega)
    refine ok_eq ?_
    rw [El_R_standsAhead]
    refine ok_e (by omega) (ok_nb (by omega) (ok_nb (by omega) (ok_ib (by omega) (ok_nb (by omega) (ok_nb (by omega) (ok_ib (by omega) ?_))))))
    rw [show (5 * (a : Int) + k).toNat = 5 * a + k by omega, show (5 * (b : Int) + k).toNat = 5 * b + k by omega, g1.2.2, g2.2.2]
    by_cases c : d k = d' k
    · have ih := l_sa0 (e := e) (N := N) ha hb hd hd' h5 hl hl' h3 hz m (k + 1) nf (by omega) (by omega) (fun j hj => by
        rcases Nat.lt_or_ge j k with q | q
        · exact h4 j q
        · rw [show j = k by omega]
          exact c)
      rw [show ((k + 1 : Nat) : Int) = (k : Int) + 1 by omega] at ih
      refine ok_t ((bd_eq (by decide) g1.1 g2.1).2 c) (ok_nb (by omega) ?_)
      exact ok_of ih ⟨rfl, rfl⟩
    · refine ok_e (fun z => c ((bd_eq (by decide) g1.1 g2.1).1 z)) ?_
      have b0 := hd 0 (by omega)
      have b1 := hd 1 (by omega)
      have b2 := hd 2 (by omega)
      have b3 := hd 3 (by omega)
      have b0' := hd' 0 (by omega)
      have b1' := hd' 1 (by omega)
      have b2' := hd' 2 (by omega)
      have b3' := hd' 3 (by omega)
      have r0 := hl 0 (by omega)
      have r1 := hl 1 (by omega)
      have r2 := hl 2 (by omega)
      have r0' := hl' 0 (by omega)
      have r1' := hl' 1 (by omega)
      have r2' := hl' 2 (by omega)
      have lb : 0 ≤ (l 0 * 27 + l 1) * 27 + l 2 ∧ (l 0 * 27 + l 1) * 27 + l 2 ≤ 19682 := by omega
      have lb' : 0 ≤ (l' 0 * 27 + l' 1) * 27 + l' 2 ∧ (l' 0 * 27 + l' 1) * 27 + l' 2 ≤ 19682 := by omega
      clear r0 r1 r2 r0' r1' r2'
      generalize (l 0 * 27 + l 1) * 27 + l 2 = x at hz lb
      generalize (l' 0 * 27 + l' 1) * 27 + l' 2 = x' at hz lb'
      have kk : k = 0 ∨ k = 1 ∨ k = 2 ∨ k = 3 ∨ k = 4 := by omega
      have key : z ↔ d k < d' k := by
        rcases kk with rfl | rfl | rfl | rfl | rfl
        · rw [hz]
          omega
        · have e0 := h4 0 (by omega)
          rw [hz]
          omega
        · have e0 := h4 0 (by omega)
          have e1 := h4 1 (by omega)
          rw [hz]
          omega
        · have e0 := h4 0 (by omega)
          have e1 := h4 1 (by omega)
          have e2 := h4 2 (by omega)
          rw [hz]
          omega
        · omega
      by_cases q : bd 47 (d' k) ≤ bd 47 (d k)
      · refine ok_t q (ok_s ⟨?_, rfl⟩)
        have := (bd_le (by decide) g1.1 g2.1).1 q
        rw [if_neg (by rw [key]; omega)]
      · refine ok_e q (ok_s ⟨?_, rfl⟩)
        have : ¬ d' k ≤ d k := fun w => q ((bd_le (by decide) g1.1 g2.1).2 w)
        rw [if_pos (by rw [key]; omega)]
theorem x_standsAhead {e : w_E} {N a b : Nat} {S R : w_S} (hN : 2001 ≤ N) (h : RelMk S R) (ha : 1 ≤ a ∧ (a : Int) ≤ S.1 62 3) (hb : 1 ≤ b ∧ (b : Int) ≤ S.1 62 3) (hc : S.1 62 3 ≤ 200) : E_R_standsAhead e N (a : Int) (b : Int) R = some (if S.1 72 a < S.1 72 b ∨ (S.1 72 a = S.1 72 b ∧ a < b) then 1 else 0, R) := by
  have h1 := h a ha.1 ha.2
  have h2 := h b hb.1 hb.2
  refine ok_eq ?_
  unfold E_R_standsAhead
  rw [show ((a : Int)).toNat = a by omega, show ((b : Int)).toNat = b by omega]
  refine ok_ib (by omega) ?_
  rcases h1 with ⟨a1, a2⟩ | ⟨a1, a2, d, l, a3, a4, a5, a6, a7⟩
  · refine ok_e (by omega) (ok_ib (by omega) ?_)
    rcases h2 with ⟨b1, b2⟩ | ⟨b1, b2, d', l', b3, b4, b5, b6, b7⟩
    · refine ok_e (by omega) ?_
      by_cases c : (b : Int) ≤ (a : Int)
      · refine ok_t c (ok_s ⟨?_, rfl⟩)
        rw [if_neg (by omega)]
      · refine ok_e c (ok_s ⟨?_, rfl⟩)
        rw [if_pos (by omega)]
    · refine ok_t (by omega) (ok_s ⟨?_, rfl⟩)
      have q0 := b3 0 (by omega)
      have q1 := b3 1 (by omega)
      have q2 := b3 2 (by omega)
      have q3 := b3 3 (by omega)
      have w0 := b5 0 (by omega)
      have w1 := b5 1 (by omega)
      have w2 := b5 2 (by omega)
      rw [if_neg (by omega)]
  · have q0 := a3 0 (by omega)
    have q1 := a3 1 (by omega)
    have q2 := a3 2 (by omega)
    have q3 := a3 3 (by omega)
    have w0 := a5 0 (by omega)
    have w1 := a5 1 (by omega)
    have w2 := a5 2 (by omega)
    refine ok_t (by omega) (ok_ib (by omega) ?_)
    rcases h2 with ⟨b1, b2⟩ | ⟨b1, b2, d', l', b3, b4, b5, b6, b7⟩
    · refine ok_e (by omega) (ok_s ⟨?_, rfl⟩)
      rw [if_pos (by omega)]
    · refine ok_t (by omega) ?_
      by_cases c : R.1 180 a = R.1 180 b
      · refine ok_t c ?_
        have key := l_sa0 (e := e) (N := N) (R := R) (a := a) (b := b) (z := S.1 72 a < S.1 72 b ∨ (S.1 72 a = S.1 72 b ∧ a < b)) (by omega) (by omega) a3 b3 ⟨a4, b4⟩ a5 b5 ⟨a6, b6⟩ (by rw [a7, b7, c]; omega) 5 0 N (by omega) (by omega) (fun j hj => by omega)
        exact ok_of key ⟨rfl, rfl⟩
      · have p0 := b3 0 (by omega)
        have p1 := b3 1 (by omega)
        have p2 := b3 2 (by omega)
        have p3 := b3 3 (by omega)
        have y0 := b5 0 (by omega)
        have y1 := b5 1 (by omega)
        have y2 := b5 2 (by omega)
        have lb : 0 ≤ (((d 0 * 11 + d 1) * 11 + d 2) * 11 + d 3) * 19683 + ((l 0 * 27 + l 1) * 27 + l 2) ∧ (((d 0 * 11 + d 1) * 11 + d 2) * 11 + d 3) * 19683 + ((l 0 * 27 + l 1) * 27 + l 2) < 288178803 := by omega
        have lb' : 0 ≤ (((d' 0 * 11 + d' 1) * 11 + d' 2) * 11 + d' 3) * 19683 + ((l' 0 * 27 + l' 1) * 27 + l' 2) ∧ (((d' 0 * 11 + d' 1) * 11 + d' 2) * 11 + d' 3) * 19683 + ((l' 0 * 27 + l' 1) * 27 + l' 2) < 288178803 := by omega
        have ea : S.1 72 a = R.1 180 a * 288178803 + ((((d 0 * 11 + d 1) * 11 + d 2) * 11 + d 3) * 19683 + ((l 0 * 27 + l 1) * 27 + l 2)) := by omega
        have eb : S.1 72 b = R.1 180 b * 288178803 + ((((d' 0 * 11 + d' 1) * 11 + d' 2) * 11 + d' 3) * 19683 + ((l' 0 * 27 + l' 1) * 27 + l' 2)) := by omega
        generalize (((d 0 * 11 + d 1) * 11 + d 2) * 11 + d 3) * 19683 + ((l 0 * 27 + l 1) * 27 + l 2) = x at lb ea
        generalize (((d' 0 * 11 + d' 1) * 11 + d' 2) * 11 + d' 3) * 19683 + ((l' 0 * 27 + l' 1) * 27 + l' 2) = x' at lb' eb
        clear a7 b7 q0 q1 q2 q3 w0 w1 w2 p0 p1 p2 p3 y0 y1 y2 a3 a5 b3 b5
        refine ok_e c ?_
        by_cases g : R.1 180 b ≤ R.1 180 a
        · refine ok_t g (ok_s ⟨?_, rfl⟩)
          rw [if_neg (by omega)]
        · refine ok_e g (ok_s ⟨?_, rfl⟩)
          rw [if_pos (by omega)]
end
section
-- cg
theorem cmp_lt (x y : Int) : (w_cmp x y < 0 ↔ x < y) ∧ (w_cmp x y = 0 ↔ x = y) := by
  unfold w_cmp
  split
  · omega
  · split <;> omega
/-- is a copy in its place ahead of another one -/
def ahd (S : w_S) (pl : Int) (c j : Nat) : Bool := decide (S.1 65 j = 0) && decide (S.1 69 j = pl) && decide (S.1 72 j < S.1 72 c ∨ (S.1 72 j = S.1 72 c ∧ j < c))
theorem ahd_iff {S : w_S} {pl : Int} {c j : Nat} : ahd S pl c j = true ↔ S.1 65 j = 0 ∧ S.1 69 j = pl ∧ (S.1 72 j < S.1 72 c ∨ (S.1 72 j = S.1 72 c ∧ j < c)) := by
  unfold ahd
  simp only [Bool.and_eq_true, decide_eq_true_eq]
  constructor
  · intro h
    exact ⟨h.1.1, h.1.2, h.2⟩
  · intro h
    exact ⟨⟨h.1, h.2.1⟩, h.2.2⟩
theorem l_sAhead {e : w_E} {N c : Nat} {S : w_S} {pl : Int} (h0 : 0 ≤ S.1 62 3 ∧ S.1 62 3 ≤ 200) (hc : c ≤ 200) : ∀ (k i n : Nat) (acc : Int), k < n → (i : Int) + k = S.1 62 3 + 1 → 0 ≤ acc → acc + k ≤ 1000000 → El_Lending_shelvedAhead e N n 0 [(c : Int), pl, acc, (i : Int)] [] S = some (acc + cnt (ahd S pl c) i k, S)
  | _, _, 0, _, h, _, _, _ => by omega
  | 0, i, n + 1, acc, h1, h2, h3, h4 => by
    refine ok_eq ?_
    rw [El_Lending_shelvedAhead, cnt]
    exact ok_t (by omega) (ok_s ⟨by omega, rfl⟩)
  | k + 1, i, n + 1, acc, h1, h2, h3, h4 => by
    have i0 := l_sAhead (e := e) (N := N) (pl := pl) h0 hc k (i + 1) n (acc + 0) (by omega) (by omega) (by omega) (by omega)
    have i1 := l_sAhead (e := e) (N := N) (pl := pl) h0 hc k (i + 1) n (acc + 1) (by omega) (by omega) (by omega) (by omega)
    rw [show ((i + 1 : Nat) : Int) = (i : Int) + 1 by omega] at i0 i1
    have ai := ahd_iff (S := S) (pl := pl) (c := c) (j := i)
    obtain ⟨k1, k2⟩ := cmp_lt (S.1 72 i) (S.1 72 c)
    refine ok_eq ?_
    rw [El_Lending_shelvedAhead, cnt]
    refine ok_e (by omega) (ok_ib (by omega) (ok_ib (by omega) ?_))
    rw [show ((i : Int)).toNat = i by omega, show ((c : Int)).toNat = c by omega]
    by_cases b : ahd S pl c i = true
    · obtain ⟨b1, b2, b3⟩ := ai.1 b
      rw [if_pos b]
      clear ai b i0
      have fin : ∀ y, y = acc + 1 + cnt (ahd S pl c) (i + 1) k → (fun y S1 => y = acc + (1 + cnt (ahd S pl c) (i + 1) k) ∧ S1 = S) y S := fun y hy => ⟨by omega, rfl⟩
      rcases b3 with b3 | b3
      · refine ok_t (k1.2 b3) (ok_e (by omega) (ok_e (by omega) (ok_nb (by omega) (ok_nb (by omega) (ok_of i1 (fin _ rfl))))))
      · refine ok_e (by rw [k1]; omega) (ok_e (by rw [Ne, k2]; omega) (ok_e (by omega) (ok_e (by omega) (ok_e (by omega) (ok_nb (by omega) (ok_nb (by omega) (ok_of i1 (fin _ rfl))))))))
    · have b1 : ¬ (S.1 65 i = 0 ∧ S.1 69 i = pl ∧ (S.1 72 i < S.1 72 c ∨ (S.1 72 i = S.1 72 c ∧ i < c))) := fun z => b (ai.2 z)
      rw [if_neg b]
      clear ai b i1
      have fin : Ok (El_Lending_shelvedAhead e N n 0 [(c : Int), pl, acc + 0, (i : Int) + 1] [] S) (fun y S1 => y = acc + (0 + cnt (ahd S pl c) (i + 1) k) ∧ S1 = S) := ok_of i0 ⟨by omega, rfl⟩
      by_cases c1 : S.1 72 i < S.1 72 c
      · refine ok_t (k1.2 c1) ?_
        by_cases c2 : S.1 65 i ≠ 0
        · exact ok_t c2 (ok_nb (by omega) (ok_nb (by omega) fin))
        · exact ok_e c2 (ok_t (by omega) (ok_nb (by omega) (ok_nb (by omega) fin)))
      · refine ok_e (by rw [k1]; exact c1) ?_
        by_cases c2 : S.1 72 i = S.1 72 c
        · refine ok_e (by rw [Ne, k2]; omega) ?_
          by_cases c3 : (c : Int) ≤ (i : Int)
          · exact ok_t c3 (ok_nb (by omega) (ok_nb (by omega) fin))
          · refine ok_e c3 ?_
            by_cases c4 : S.1 65 i ≠ 0
            · exact ok_t c4 (ok_nb (by omega) (ok_nb (by omega) fin))
            · exact ok_e c4 (ok_t (by omega) (ok_nb (by omega) (ok_nb (by omega) fin)))
        · exact ok_t (by rw [Ne, k2]; exact c2) (ok_nb (by omega) (ok_nb (by omega) fin))
theorem l_shR {e : w_E} {N c : Nat} {S R : w_S} {pl rk : Int} {Q : Int → w_S → Prop} (hN : 2001 ≤ N) (hm : RelMk S R) (hcd : RelCd S R 0) (h0 : 0 ≤ S.1 62 3 ∧ S.1 62 3 ≤ 200) (h68 : R.1 129 68 = S.1 62 3) (hc : 1 ≤ c ∧ (c : Int) ≤ S.1 62 3) : ∀ (k i n : Nat) (acc : Int), k < n → 1 ≤ i → (i : Int) + k = S.1 62 3 + 1 → 0 ≤ acc → acc + k ≤ 1000000 → (∀ n', n ≤ n' + k + 1 → Ok (if acc + cnt (ahd S pl c) i k ≠ rk then (if w_nb ((c : Int) + 1) = true then El_R_shelf e N n' 0 [pl, rk, (c : Int) + 1] [] R else none) else some ((c : Int), R)) Q) → Ok (El_R_shelf e N n 1 [pl, rk, (c : Int), acc, (i : Int)] [] R) Q
  | _, _, 0, _, h, _, _, _, _, _ => by omega
  | 0, i, n + 1, acc, h1, h2, h3, h4, h5, hq => by
    have q := hq n (by omega)
    rw [cnt, show acc + 0 = acc by omega] at q
    rw [El_R_shelf, h68]
    exact ok_t (by omega) q
  | k + 1, i, n + 1, acc, h1, h2, h3, h4, h5, hq => by
    have hi := hcd i h2 (by omega) (by omega)
    have ai := ahd_iff (S := S) (pl := pl) (c := c) (j := i)
    have e1 : R.1 171 i = S.1 65 i := hi.1.1
    have e2 : R.1 175 i = S.1 69 i := hi.1.2.2.2.2.1
    clear hi
    have sa := x_standsAhead (e := e) (N := N) (a := i) (b := c) hN hm ⟨h2, by omega⟩ hc h0.2
    rw [cnt] at hq
    have i0 := l_shR (e := e) (N := N) (c := c) (pl := pl) (rk := rk) (Q := Q) hN hm hcd h0 h68 hc k (i + 1) n (acc + 0) (by omega) (by omega) (by omega) (by omega) (by omega)
    have i1 := l_shR (e := e) (N := N) (c := c) (pl := pl) (rk := rk) (Q := Q) hN hm hcd h0 h68 hc k (i + 1) n (acc + 1) (by omega) (by omega) (by omega) (by omega) (by omega)
    rw [show ((i + 1 : Nat) : Int) = (i : Int) + 1 by omega] at i0 i1
    rw [El_R_shelf, h68]
    refine ok_e (by omega) (ok_ib (by omega) ?_)
    rw [show ((i : Int)).toNat = i by omega, e1, e2]
    by_cases b : ahd S pl c i = true
    · obtain ⟨b1, b2, b3⟩ := ai.1 b
      rw [if_pos b] at hq
      rw [if_pos b3] at sa
      have hne : i ≠ c := fun z => by
        subst z
        omega
      clear b3 ai
      refine ok_e (by omega) (ok_e (by omega) (ok_e (by omega) (ok_b (ok_of sa ?_))))
      dsimp only
      refine ok_e (by omega) (ok_nb (by omega) (ok_nb (by omega) (i1 (fun n' hn => ?_))))
      rw [show acc + 1 + cnt (ahd S pl c) (i + 1) k = acc + (1 + cnt (ahd S pl c) (i + 1) k) by omega]
      exact hq n' (by omega)
    · have b1 : ¬ (S.1 65 i = 0 ∧ S.1 69 i = pl ∧ (S.1 72 i < S.1 72 c ∨ (S.1 72 i = S.1 72 c ∧ i < c))) := fun z => b (ai.2 z)
      rw [if_neg b] at hq
      clear ai
      have nx := i0 (fun n' hn => by
        rw [show acc + 0 + cnt (ahd S pl c) (i + 1) k = acc + (0 + cnt (ahd S pl c) (i + 1) k) by omega]
        exact hq n' (by omega))
      by_cases c1 : S.1 65 i ≠ 0
      · exact ok_t c1 (ok_nb (by omega) (ok_nb (by omega) nx))
      · refine ok_e c1 ?_
        by_cases c2 : S.1 69 i ≠ pl
        · exact ok_t c2 (ok_nb (by omega) (ok_nb (by omega) nx))
        · refine ok_e c2 ?_
          by_cases c3 : (i : Int) = (c : Int)
          · exact ok_t c3 (ok_nb (by omega) (ok_nb (by omega) nx))
          · rw [if_neg (by omega)] at sa
            refine ok_e c3 (ok_b (ok_of sa ?_))
            dsimp only
            exact ok_t rfl (ok_nb (by omega) (ok_nb (by omega) nx))
theorem l_shelf {e : w_E} {N : Nat} {S R : w_S} {pl rk : Int} (hN : 2001 ≤ N) (hm : RelMk S R) (hcd : RelCd S R 0) (h0 : 0 ≤ S.1 62 3 ∧ S.1 62 3 ≤ 200) (h68 : R.1 129 68 = S.1 62 3) : ∀ (k i n : Nat), k < n → 1 ≤ i → (i : Int) + k = S.1 62 3 + 1 → Ok (El_Lending_shelved e N n 0 [pl, rk, (i : Int)] [] S) (fun y S1 => S1 = S ∧ ∀ nr, 210 * k + 210 ≤ nr → Ok (El_R_shelf e N nr 0 [pl, rk, (i : Int)] [] R) (fun y' R1 => y' = y ∧ R1 = R))
  | _, _, 0, h, _, _ => by omega
  | 0, i, n + 1, h1, h2, h3 => by
    rw [El_Lending_shelved]
    refine ok_t (by omega) (ok_s ⟨rfl, fun nr hn => ?_⟩)
    obtain ⟨m, hm'⟩ : ∃ m, nr = m + 1 := ⟨nr - 1, by omega⟩
    rw [hm', El_R_shelf, h68]
    exact ok_t (by omega) (ok_s ⟨rfl, rfl⟩)
  | k + 1, i, n + 1, h1, h2, h3 => by
    have hi := hcd i h2 (by omega) (by omega)
    have e1 : R.1 171 i = S.1 65 i := hi.1.1
    have e2 : R.1 175 i = S.1 69 i := hi.1.2.2.2.2.1
    clear hi
    have ih := l_shelf (e := e) (N := N) (pl := pl) (rk := rk) hN hm hcd h0 h68 k (i + 1) n (by omega) (by omega) (by omega)
    rw [show ((i + 1 : Nat) : Int) = (i : Int) + 1 by omega] at ih
    have sa := l_sAhead (e := e) (N := N) (c := i) (pl := pl) h0 (by omega) (S.1 62 3).toNat 1 N 0 (by omega) (by omega) (by omega) (by omega)
    rw [show (0 : Int) + cnt (ahd S pl i) 1 (S.1 62 3).toNat = cnt (ahd S pl i) 1 (S.1 62 3).toNat by omega] at sa
    have sr : ∀ (n' : Nat), 210 * (k + 1) + 210 ≤ n' + 1 → ∀ (Q : Int → w_S → Prop), (∀ n'', n' ≤ n'' + (S.1 62 3).toNat + 1 → Ok (if 0 + cnt (ahd S pl i) 1 (S.1 62 3).toNat ≠ rk then (if w_nb ((i : Int) + 1) = true then El_R_shelf e N n'' 0 [pl, rk, (i : Int) + 1] [] R else none) else some ((i : Int), R)) Q) → Ok (El_R_shelf e N n' 1 [pl, rk, (i : Int), 0, 1] [] R) Q := fun n' hn Q hq => l_shR (e := e) (N := N) (c := i) (pl := pl) (rk := rk) (Q := Q) hN hm hcd h0 h68 ⟨h2, by omega⟩ (S.1 62 3).toNat 1 n' 0 (by omega) (by omega) (by omega) (by omega) (by omega) hq
    rw [El_Lending_shelved]
    refine ok_e (by omega) (ok_ib (by omega) ?_)
    rw [show ((i : Int)).toNat = i by omega]
    by_cases c1 : S.1 65 i ≠ 0
    · refine ok_t c1 (ok_nb (by omega) (ih.mono (fun y S1 z => ⟨z.1, fun nr hn => ?_⟩)))
      obtain ⟨m, hm'⟩ : ∃ m, nr = m + 1 := ⟨nr - 1, by omega⟩
      rw [hm', El_R_shelf, h68]
      refine ok_e (by omega) (ok_ib (by omega) ?_)
      rw [show ((i : Int)).toNat = i by omega, e1, e2]
      exact ok_t c1 (ok_nb (by omega) (z.2 m (by omega)))
    · refine ok_e c1 ?_
      by_cases c2 : S.1 69 i ≠ pl
      · refine ok_t c2 (ok_nb (by omega) (ih.mono (fun y S1 z => ⟨z.1, fun nr hn => ?_⟩)))
        obtain ⟨m, hm'⟩ : ∃ m, nr = m + 1 := ⟨nr - 1, by omega⟩
        rw [hm', El_R_shelf, h68]
        refine ok_e (by omega) (ok_ib (by omega) ?_)
        rw [show ((i : Int)).toNat = i by omega, e1, e2]
        exact ok_e c1 (ok_e c2 (ok_nb (by omega) (z.2 m (by omega))))
      · refine ok_e c2 (ok_b (ok_of (show E_Lending_shelvedAhead e N (i : Int) pl S = _ from sa) ?_))
        dsimp only
        by_cases c3 : cnt (ahd S pl i) 1 (S.1 62 3).toNat ≠ rk
        · refine ok_t c3 (ok_nb (by omega) (ih.mono (fun y S1 z => ⟨z.1, fun nr hn => ?_⟩)))
          obtain ⟨m, hm'⟩ : ∃ m, nr = m + 1 := ⟨nr - 1, by omega⟩
          rw [hm', El_R_shelf, h68]
          refine ok_e (by omega) (ok_ib (by omega) ?_)
          rw [show ((i : Int)).toNat = i by omega, e1, e2]
          refine ok_e c1 (ok_t (by omega) (sr m (by omega) _ (fun n' hn' => ?_)))
          rw [show (0 : Int) + cnt (ahd S pl i) 1 (S.1 62 3).toNat = cnt (ahd S pl i) 1 (S.1 62 3).toNat by omega]
          exact ok_t c3 (ok_nb (by omega) (z.2 n' (by omega)))
        · refine ok_e c3 (ok_s ⟨rfl, fun nr hn => ?_⟩)
          obtain ⟨m, hm'⟩ : ∃ m, nr = m + 1 := ⟨nr - 1, by omega⟩
          rw [hm', El_R_shelf, h68]
          refine ok_e (by omega) (ok_ib (by omega) ?_)
          rw [show ((i : Int)).toNat = i by omega, e1, e2]
          refine ok_e c1 (ok_t (by omega) (sr m (by omega) _ (fun n' hn' => ?_)))
          rw [show (0 : Int) + cnt (ahd S pl i) 1 (S.1 62 3).toNat = cnt (ahd S pl i) 1 (S.1 62 3).toNat by omega]
          exact ok_e c3 (ok_s ⟨rfl, rfl⟩)
theorem q_shelf {e : w_E} {N : Nat} {S R : w_S} {x1 x2 t : Int} (hN : 50000 ≤ N) (hm : RelMk S R) (h : RelL S R t) : Ok (E_C_shelf e N x1 x2 S) (fun y S1 => Ok (E_R_shelf e N x1 x2 R) (fun y' R1 => y' = y ∧ S1 = S ∧ R1 = R)) := by
  obtain ⟨_, _, _, _, _, _, _, hcs, hcd, _⟩ := h
  obtain ⟨k1, k2, k3, _⟩ := hcs
  have key := l_shelf (e := e) (N := N) (pl := x1) (rk := x2) (by omega) hm hcd ⟨k2, k3⟩ k1 (S.1 62 3).toNat 1 N (by omega) (by omega) (by omega)
  unfold E_C_shelf E_Lending_shelved E_R_shelf
  refine ok_b (key.mono (fun y S1 z => ok_s ?_))
  refine (z.2 N (by omega)).mono (fun y' R1 z' => ⟨z'.1, z.1, z'.2⟩)
end
section
-- ch
theorem tlv4 (G : Int → Int) (q : Int) (m : Nat) : tlv G 48 11 q m 4 = (((if 0 < m then G q - 47 else 0) * 11 + (if 1 < m then G (q + 1) - 47 else 0)) * 11 + (if 2 < m then G (q + 2) - 47 else 0)) * 11 + (if 3 < m then G (q + 3) - 47 else 0) := by
  have t : ∀ i : Nat, (if i < m then G (q + i) - 48 + 1 else 0) = if i < m then G (q + i) - 47 else 0 := fun i => by
    split <;> omega
  rw [tlv, tlv, tlv, tlv, tlv, t 0, t 1, t 2, t 3, show q + ((0 : Nat) : Int) = q by omega]
  have e1 : q + ((1 : Nat) : Int) = q + 1 := by omega
  have e2 : q + ((2 : Nat) : Int) = q + 2 := by omega
  have e3 : q + ((3 : Nat) : Int) = q + 3 := by omega
  rw [e1, e2, e3]
  omega
theorem tlv3 (G : Int → Int) (q : Int) (m : Nat) : tlv G 65 27 q m 3 = ((if 0 < m then G q - 64 else 0) * 27 + (if 1 < m then G (q + 1) - 64 else 0)) * 27 + (if 2 < m then G (q + 2) - 64 else 0) := by
  have t : ∀ i : Nat, (if i < m then G (q + i) - 65 + 1 else 0) = if i < m then G (q + i) - 64 else 0 := fun i => by
    split <;> omega
  rw [tlv, tlv, tlv, tlv, t 0, t 1, t 2, show q + ((0 : Nat) : Int) = q by omega]
  have e1 : q + ((1 : Nat) : Int) = q + 1 := by omega
  have e2 : q + ((2 : Nat) : Int) = q + 2 := by omega
  rw [e1, e2]
  omega
theorem Mk.congr {n v n' v' : Int} {g h g' h' : Nat → Int} (k : Mk n v g h) (e1 : n' = n) (e2 : v' = v) (e3 : ∀ k, k < 5 → g' k = g k) (e4 : ∀ k, k < 4 → h' k = h k) : Mk n' v' g' h' := by
  subst e1
  subst e2
  rcases k with k | ⟨a1, a2, d, l, a3, a4, a5, a6, a7⟩
  · exact Or.inl k
  · exact Or.inr ⟨a1, a2, d, l, fun k hk => by rw [e3 k hk]; exact a3 k hk, a4, fun k hk => by rw [e4 k hk]; exact a5 k hk, a6, a7⟩
/-- a call number's text says the same to both -/
theorem mk_new {G : Int → Int} {len : Int} {T : Nat → Int} {g h : Nat → Int} (h3 : 0 ≤ mk3 G len) (hT : ∀ p : Nat, (p : Int) < len → 32 ≤ G p → G p ≤ 126 → w_b (T p) = G p) (hG : ∀ p, len ≤ p → G p = -1) (hg : ∀ u, u < 5 → g u = if mk0 G len + 1 + u < mk1 G len then w_b (T (mk0 G len + 1 + u).toNat) else 0) (hh : ∀ u, u < 4 → h u = if mk1 G len + 1 + u < mk2 G len then w_b (T (mk1 G len + 1 + u).toNat) else 0) : Mk (mkn G len) (mkv G len) g h := by
  have e2 := (pE_ge h3).1
  have e1 : 0 ≤ mk1 G len := by
    unfold mk2 at e2
    split at e2
    · rename_i c
      exact c.1
    · exact e2
  have e0 : 0 ≤ mk0 G len := by
    unfold mk1 at e1
    split at e1
    · rename_i c
      exact c.1
    · exact e1
  have nb := pN_v (show 0 ≤ pN G len 0 999 0 from e0)
  rw [show len - 0 = len by omega] at nb
  -- the digits
  have dd : ∃ d : Nat → Int, (∀ k, k < 5 → 0 ≤ d k ∧ d k ≤ 10 ∧ g k = bd 47 (d k)) ∧ d 4 = 0 ∧ mkd G len = ((d 0 * 11 + d 1) * 11 + d 2) * 11 + d 3 := by
    unfold mkd
    by_cases c : 0 ≤ mk0 G len ∧ G (mk0 G len) = 46
    · have m1 : mk1 G len = pF 48 57 4 G (mk0 G len + 1) := by
        unfold mk1
        rw [if_pos c]
      have f1 := pF_ge (show 0 ≤ pF 48 57 4 G (mk0 G len + 1) from m1 ▸ e1)
      rw [← m1] at f1
      have nl := nw_le (rng 48 57) G 4 (mk0 G len + 1)
      have na := nw_all (P := rng 48 57) (G := G) 4 (mk0 G len + 1)
      rw [if_pos c, tlv4]
      generalize nw (rng 48 57) G 4 (mk0 G len + 1) = m at *
      refine ⟨fun u => if u < m then G (mk0 G len + 1 + u) - 47 else 0, fun k hk => ?_, ?_, ?_⟩
      · dsimp only
        rw [hg k hk]
        by_cases z : k < m
        · have r := rng_iff.1 (na k z)
          have hlt : mk0 G len + 1 + k < len := by
            rcases Int.lt_or_le (mk0 G len + 1 + k) len with q | q
            · exact q
            · have := hG _ q
              omega
          have tk := hT (mk0 G len + 1 + k).toNat (by omega)
          rw [show (((mk0 G len + 1 + k).toNat : Nat) : Int) = mk0 G len + 1 + k by omega] at tk
          rw [if_pos z, if_pos (by omega), tk (by omega) (by omega)]
          unfold bd
          rw [if_neg (by omega)]
          omega
        · rw [if_neg z, if_neg (by omega)]
          unfold bd
          rw [if_pos rfl]
          omega
      · dsimp only
        rw [if_neg (by omega)]
      · dsimp only
        rw [show mk0 G len + 1 + ((0 : Nat) : Int) = mk0 G len + 1 by omega]
        rfl
    · rw [if_neg c]
      have m1 : mk1 G len = mk0 G len := by
        unfold mk1
        rw [if_neg c]
      refine ⟨fun _ => 0, fun k hk => ?_, rfl, rfl⟩
      rw [hg k hk, if_neg (by omega)]
      unfold bd
      dsimp only
      rw [if_pos rfl]
      omega
  have ll : ∃ l : Nat → Int, (∀ k, k < 4 → 0 ≤ l k ∧ l k ≤ 26 ∧ h k = bd 64 (l k)) ∧ l 3 = 0 ∧ mkl G len = (l 0 * 27 + l 1) * 27 + l 2 := by
    unfold mkl
    by_cases c : 0 ≤ mk1 G len ∧ G (mk1 G len) = 32
    · have m1 : mk2 G len = pF 65 90 3 G (mk1 G len + 1) := by
        unfold mk2
        rw [if_pos c]
      have f1 := pF_ge (show 0 ≤ pF 65 90 3 G (mk1 G len + 1) from m1 ▸ e2)
      rw [← m1] at f1
      have nl := nw_le (rng 65 90) G 3 (mk1 G len + 1)
      have na := nw_all (P := rng 65 90) (G := G) 3 (mk1 G len + 1)
      rw [if_pos c, tlv3]
      generalize nw (rng 65 90) G 3 (mk1 G len + 1) = m at *
      refine ⟨fun u => if u < m then G (mk1 G len + 1 + u) - 64 else 0, fun k hk => ?_, ?_, ?_⟩
      · dsimp only
        rw [hh k hk]
        by_cases z : k < m
        · have r := rng_iff.1 (na k z)
          have hlt : mk1 G len + 1 + k < len := by
            rcases Int.lt_or_le (mk1 G len + 1 + k) len with q | q
            · exact q
            · have := hG _ q
              omega
          have tk := hT (mk1 G len + 1 + k).toNat (by omega)
          rw [show (((mk1 G len + 1 + k).toNat : Nat) : Int) = mk1 G len + 1 + k by omega] at tk
          rw [if_pos z, if_pos (by omega), tk (by omega) (by omega)]
          unfold bd
          rw [if_neg (by omega)]
          omega
        · rw [if_neg z, if_neg (by omega)]
          unfold bd
          rw [if_pos rfl]
          omega
      · dsimp only
        rw [if_neg (by omega)]
      · dsimp only
        rw [show mk1 G len + 1 + ((0 : Nat) : Int) = mk1 G len + 1 by omega]
        rfl
    · rw [if_neg c]
      have m1 : mk2 G len = mk1 G len := by
        unfold mk2
        rw [if_neg c]
      refine ⟨fun _ => 0, fun k hk => ?_, rfl, rfl⟩
      rw [hh k hk, if_neg (by omega)]
      unfold bd
      dsimp only
      rw [if_pos rfl]
      omega
  obtain ⟨d, d1, d2, d3⟩ := dd
  obtain ⟨l, l1, l2, l3⟩ := ll
  refine Or.inr ⟨nb.1, nb.2, d, l, d1, d2, l1, l2, ?_⟩
  unfold mkv
  rw [d3, l3]
theorem t_mark {e : w_E} {N : Nat} {S R : w_S} {x1 f len t : Int} {G : Int → Int} (hN : 2001 ≤ N) (h : TX S f len G) (hr : TR R len G) (h4 : S.1 1 4 = f) (h6 : S.1 1 6 = -1) (hB : TB S R f len) (hL : RelL S R t) (hM : RelMk S R) : Ok (E_Lending_setMark e N x1 S) (fun y S1 => Ok (E_R_doMark e N x1 R) (fun y' R1 => Pt R (fun S1 R1 => frm [] [1] [(1, 4), (1, 6)] S S1 ∧ frm [] [129] [(129, 3), (129, 4)] R R1) (fun S1 R1 => frm [72] [1] [(1, 4), (1, 6)] S S1 ∧ frm [180, 181, 182] [129] [(129, 3)] R R1 ∧ RelMk S1 R1) y S1 y' R1)) := by
  obtain ⟨_, _, _, _, _, _, _, hcs, _, _⟩ := hL
  obtain ⟨k1, k2, k3, _⟩ := hcs
  have l0 := hr.2.1
  by_cases c : 1 ≤ x1 ∧ x1 ≤ S.1 62 3
  · obtain ⟨n, hn⟩ : ∃ n : Nat, x1 = n := ⟨x1.toNat, by omega⟩
    subst hn
    have ts := tp_self S
    rw [h4, h6] at ts
    have key := x_setMark (e := e) (N := N) (c := n) hN h (show At f len f (-1) 0 from ⟨by omega, by omega, Or.inl ⟨rfl, by omega⟩⟩) (by omega) c.2 k3
    rw [ts] at key
    refine key.mono (fun y S1 z => ?_)
    unfold E_R_doMark
    rw [k1]
    refine ok_e (by omega) (ok_e (by omega) (ok_b ((x_callText (e := e) (N := N) (c := n) hN hr (by omega)).mono (fun y' R1 r => ?_))))
    obtain ⟨r1, r2, r3, r4⟩ := r
    dsimp only
    have mb : -3000 ≤ mk3 G len := by
      have lb := hr.2.2.1
      have b0 : Bd len (mk0 G len) := pN_bd ⟨by omega, by omega⟩
      have hG := hr.e
      have b1 : Bd len (mk1 G len) := by
        unfold mk1
        split
        · refine pF_bd hG (by decide) ?_
          have := hG (mk0 G len)
          unfold Bd at b0 ⊢
          omega
        · exact b0
      have b2 : Bd len (mk2 G len) := by
        unfold mk2
        split
        · refine pF_bd hG (by decide) ?_
          have := hG (mk1 G len)
          unfold Bd at b1 ⊢
          omega
        · exact b1
      unfold mk3 pE
      unfold Bd at b2
      split
      · omega
      · split <;> omega
    by_cases d : 0 ≤ mk3 G len
    · rw [if_pos d] at z
      obtain ⟨z1, a', z2⟩ := z
      obtain ⟨R0, u1, u2, u3, u4, u5⟩ := r4 (by omega)
      obtain ⟨q1, q2, q3, q4, q5, q6, q7⟩ := u5
      rw [u1] at q4 q6
      rw [u2] at q3
      rw [u3] at q5
      rw [u4] at q7
      refine ok_t (by omega) (ok_s ⟨z1.symm, Or.inr ⟨by omega, ⟨?_, r2, fun c' hc1 hc2 => ?_⟩, r2.2.2 129 4 rfl rfl⟩⟩)
      · rw [z2]
        unfold tp
        repeat (first | exact frm.refl _ _ _ _ | refine frm.put ?_ rfl | refine frm.puto ?_ rfl rfl)
      · have s62 : S1.1 62 3 = S.1 62 3 := by
          rw [z2]
          unfold tp
          simp only [w_put_r, reduceIte, Nat.reduceEqDiff, pt_at]
        rw [s62] at hc2
        have s72 : S1.1 72 c' = if c' = n then mkv G len else S.1 72 c' := by
          rw [z2]
          unfold tp
          simp only [w_put_r, reduceIte, Nat.reduceEqDiff, pt_at]
        by_cases g : c' = n
        · subst g
          rw [if_pos rfl] at s72
          rw [s72, q2]
          refine mk_new (T := R.1 130) d (fun p hp g1 g2 => ?_) hr.e q4 q6
          have hb := hB p hp
          have hg := (h.2.2.2.2.2.2 (p : Int) (by omega)).1 hp
          have f0 := h.2.2.1
          have e9 : (f + (p : Int)).toNat = f.toNat + p := by omega
          rw [e9, ← hb.1] at hg
          have h4' := hg.2.2.2
          have : R.1 130 p = G p := by
            split at h4' <;> omega
          rw [this, w_b_id (by omega) (by omega)]
        · rw [if_neg g] at s72
          exact (hM c' hc1 hc2).congr (q3 c' g) s72 (fun k hk => q5 _ (by omega)) (fun k hk => q7 _ (by omega))
    · rw [if_neg d] at z
      obtain ⟨z1, a', w', z2⟩ := z
      refine ok_e (by omega) (ok_nb (by omega) (ok_s ⟨by omega, Or.inl ⟨by omega, ⟨?_, ?_⟩, rfl⟩⟩))
      · rw [z2]
        unfold tp
        repeat (first | exact frm.refl _ _ _ _ | refine frm.put ?_ rfl | refine frm.puto ?_ rfl rfl)
      · exact frm.puto ((r3 (by omega)).weak (by decide)) rfl rfl
  · unfold E_Lending_setMark E_R_doMark
    rw [k1]
    have fin : (fun y S1 => Ok (if x1 < 1 then some (-1, w_put R 129 4 1) else (if S.1 62 3 < x1 then some (-1, w_put R 129 4 1) else ((E_R_callText e N x1 R).bind (fun q887 => (if 0 ≤ q887.1 then some (1, q887.2) else (if w_nb ((-999) + q887.1) = true then some ((-999) + q887.1, (w_put q887.2 129 4 1)) else none)))))) (fun y' R1 => Pt R (fun S1 R1 => frm [] [1] [(1, 4), (1, 6)] S S1 ∧ frm [] [129] [(129, 3), (129, 4)] R R1) (fun S1 R1 => frm [72] [1] [(1, 4), (1, 6)] S S1 ∧ frm [180, 181, 182] [129] [(129, 3)] R R1 ∧ RelMk S1 R1) y S1 y' R1)) (-1) S := by
      have p : Pt R (fun S1 R1 => frm [] [1] [(1, 4), (1, 6)] S S1 ∧ frm [] [129] [(129, 3), (129, 4)] R R1) (fun S1 R1 => frm [72] [1] [(1, 4), (1, 6)] S S1 ∧ frm [180, 181, 182] [129] [(129, 3)] R R1 ∧ RelMk S1 R1) (-1) S (-1) (w_put R 129 4 1) := ⟨rfl, Or.inl ⟨by omega, ⟨frm.refl _ _ _ _, by repeat (first | exact frm.refl _ _ _ _ | refine frm.put ?_ rfl | refine frm.puto ?_ rfl rfl)⟩, rfl⟩⟩
      by_cases d : x1 < 1
      · exact ok_t d (ok_s p)
      · exact ok_e d (ok_t (by omega) (ok_s p))
    by_cases d : x1 < 1
    · exact ok_t d (ok_s fin)
    · exact ok_e d (ok_t (by omega) (ok_s fin))
end
