section
-- bc
theorem tx_cases {S : w_S} {f len a w q : Int} {G : Int → Int} (h : TX S f len G) (ha : At f len a w q) : (w = -1 ∧ 0 ≤ q ∧ q < len ∧ a = f + q ∧ 0 ≤ f ∧ f + len ≤ 10240 ∧ len ≤ 2000 ∧ (G q = S.1 2 a.toNat ∧ 0 ≤ S.1 2 a.toNat ∧ S.1 2 a.toNat ≤ 127 ∨ S.1 2 a.toNat < 0 ∧ -128 ≤ S.1 2 a.toNat ∧ G q = S.1 2 a.toNat + 256) ∧ G q = w_and (S.1 2 a.toNat) 255) ∨ (w = -1 ∧ 0 ≤ q ∧ q = len ∧ a = f + q ∧ 0 ≤ f ∧ f + len ≤ 10240 ∧ len ≤ 2000 ∧ G q = -1) ∨ (0 ≤ w ∧ q = -1 - w ∧ f ≤ a ∧ a ≤ f + len ∧ 0 ≤ f ∧ f + len ≤ 10240 ∧ (a < f + len → -128 ≤ S.1 2 a.toNat ∧ S.1 2 a.toNat ≤ 127)) := by
  obtain ⟨h1, h2, h3, h4, h5, h6, h7⟩ := h
  obtain ⟨a1, a2, a3⟩ := ha
  have h8 := h7 (a - f) (by omega)
  rw [show f + (a - f) = a by omega] at h8
  obtain ⟨h9, h10⟩ := h8
  clear h7
  rcases a3 with ⟨b1, b2⟩ | ⟨b1, b2⟩
  · have e1 : a - f = q := by omega
    rw [e1] at h9 h10
    by_cases c : q < len
    · left
      obtain ⟨k1, k2, k3, k4⟩ := h9 c
      refine ⟨b1, by omega, c, b2, h3, h6, h5, ?_, k3⟩
      clear k3 h9 h10
      split at k4 <;> omega
    · right
      left
      exact ⟨b1, by omega, by omega, b2, h3, h6, h5, h10 (by omega)⟩
  · right
    right
    exact ⟨b1, b2, a1, a2, h3, h6, fun z => ⟨(h9 (by omega)).1, (h9 (by omega)).2.1⟩⟩
theorem x_takeBetween {e : w_E} {N : Nat} {S : w_S} {f len a w q lo hi : Int} {G : Int → Int} (h : TX S f len G) (ha : At f len a w q) (hb : 0 ≤ lo ∧ lo ≤ 127 ∧ hi ≤ 127) : Ok (E_Tape_takeBetween e N lo hi (tp S a w)) (Tk S f len (pR G lo hi q) (fun y => y = G q - lo ∧ 0 ≤ y ∧ y ≤ hi - lo)) := by
  have k := tx_cases h ha
  obtain ⟨h1, h2, h3⟩ := h
  clear h3 ha
  unfold E_Tape_takeBetween
  rw [tp4, tp5, tp6, tp3, tp_2, h1, h2, tp_p4, tp_p6, show a + 1 - 1 = a by omega]
  unfold pR
  rcases k with ⟨k1, k2, k3, k4, k5, k6, k7, k8, k9⟩ | ⟨k1, k2, k3, k4, k5, k6, k7, k8⟩ | ⟨k1, k2, k3, k4, k5, k6, k7⟩
  · clear k9
    rw [if_neg (by omega : ¬ q < 0)]
    by_cases c : lo ≤ G q ∧ G q ≤ hi
    · rw [if_pos c]
      obtain ⟨k8a, k8b⟩ : G q = S.1 2 a.toNat ∧ 0 ≤ S.1 2 a.toNat := by omega
      clear k8
      repeat' (first | with_reducible refine ok_nb (by omega) ?_ | with_reducible refine ok_ib (by omega) ?_ | with_reducible refine ok_t (by omega) ?_ | with_reducible refine ok_e (by omega) ?_ | with_reducible refine ok_if (fun h => ?_) (fun h => ?_) | with_reducible refine ok_s ?_ | with_reducible refine ok_b ?_)
      all_goals first | (exfalso; omega) | exact ⟨_, _, rfl, ⟨by omega, by omega, Or.inl ⟨by omega, by omega⟩⟩, fun _ => ⟨by omega, by omega, by omega⟩⟩
    · rw [if_neg c]
      have k8a : S.1 2 a.toNat < lo ∨ hi < S.1 2 a.toNat := by omega
      clear k8 c
      rcases k8a with k8a | k8a
      all_goals repeat' (first | with_reducible refine ok_nb (by omega) ?_ | with_reducible refine ok_ib (by omega) ?_ | with_reducible refine ok_t (by omega) ?_ | with_reducible refine ok_e (by omega) ?_ | with_reducible refine ok_if (fun h => ?_) (fun h => ?_) | with_reducible refine ok_s ?_ | with_reducible refine ok_b ?_)
      all_goals first | (exfalso; omega) | exact ⟨_, _, rfl, ⟨by omega, by omega, Or.inr ⟨by omega, by omega⟩⟩, fun z => by (exfalso; omega)⟩
  · rw [if_neg (by omega : ¬ q < 0), if_neg (by omega : ¬ (lo ≤ G q ∧ G q ≤ hi))]
    repeat' (first | with_reducible refine ok_nb (by omega) ?_ | with_reducible refine ok_ib (by omega) ?_ | with_reducible refine ok_t (by omega) ?_ | with_reducible refine ok_e (by omega) ?_ | with_reducible refine ok_if (fun h => ?_) (fun h => ?_) | with_reducible refine ok_s ?_ | with_reducible refine ok_b ?_)
    all_goals first | (exfalso; omega) | exact ⟨_, _, rfl, ⟨by omega, by omega, Or.inr ⟨by omega, by omega⟩⟩, fun z => by (exfalso; omega)⟩
  · rw [if_pos (by omega : q < 0)]
    by_cases c : a < f + len
    · obtain ⟨c1, c2⟩ := k7 c
      clear k7
      repeat' (first | with_reducible refine ok_nb (by omega) ?_ | with_reducible refine ok_ib (by omega) ?_ | with_reducible refine ok_t (by omega) ?_ | with_reducible refine ok_e (by omega) ?_ | with_reducible refine ok_if (fun h => ?_) (fun h => ?_) | with_reducible refine ok_s ?_ | with_reducible refine ok_b ?_)
      all_goals first | (exfalso; omega) | exact ⟨_, _, rfl, ⟨by omega, by omega, Or.inr ⟨by omega, by omega⟩⟩, fun z => by (exfalso; omega)⟩
    · clear k7
      repeat' (first | with_reducible refine ok_nb (by omega) ?_ | with_reducible refine ok_ib (by omega) ?_ | with_reducible refine ok_t (by omega) ?_ | with_reducible refine ok_e (by omega) ?_ | with_reducible refine ok_if (fun h => ?_) (fun h => ?_) | with_reducible refine ok_s ?_ | with_reducible refine ok_b ?_)
      all_goals first | (exfalso; omega) | exact ⟨_, _, rfl, ⟨by omega, by omega, Or.inr ⟨by omega, by omega⟩⟩, fun z => by (exfalso; omega)⟩
theorem x_takeEnd {e : w_E} {N : Nat} {S : w_S} {f len a w q : Int} {G : Int → Int} (h : TX S f len G) (ha : At f len a w q) : Ok (E_Tape_takeEnd e N (tp S a w)) (Tk S f len (pE G q) (fun _ => True)) := by
  have k := tx_cases h ha
  obtain ⟨h1, h2, h3⟩ := h
  clear h3 ha
  unfold E_Tape_takeEnd
  rw [tp4, tp5, tp6, tp3, h1, h2, tp_p6]
  unfold pE
  rcases k with ⟨k1, k2, k3, k4, k5, k6, k7, k8, k9⟩ | ⟨k1, k2, k3, k4, k5, k6, k7, k8⟩ | ⟨k1, k2, k3, k4, k5, k6, k7⟩
  · clear k9
    rw [if_neg (by omega : ¬ q < 0), if_neg (by omega : ¬ G q = -1)]
    clear k8
    repeat' (first | with_reducible refine ok_nb (by omega) ?_ | with_reducible refine ok_ib (by omega) ?_ | with_reducible refine ok_t (by omega) ?_ | with_reducible refine ok_e (by omega) ?_ | with_reducible refine ok_if (fun h => ?_) (fun h => ?_) | with_reducible refine ok_s ?_ | with_reducible refine ok_b ?_)
    all_goals first | (exfalso; omega) | exact ⟨_, _, rfl, ⟨by omega, by omega, Or.inr ⟨by omega, by omega⟩⟩, fun _ => trivial⟩
  · rw [if_neg (by omega : ¬ q < 0), if_pos k8]
    repeat' (first | with_reducible refine ok_nb (by omega) ?_ | with_reducible refine ok_ib (by omega) ?_ | with_reducible refine ok_t (by omega) ?_ | with_reducible refine ok_e (by omega) ?_ | with_reducible refine ok_if (fun h => ?_) (fun h => ?_) | with_reducible refine ok_s ?_ | with_reducible refine ok_b ?_)
    all_goals first | (exfalso; omega) | exact ⟨_, _, rfl, ⟨by omega, by omega, Or.inl ⟨by omega, by omega⟩⟩, fun _ => trivial⟩
  · rw [if_pos (by omega : q < 0)]
    clear k7
    repeat' (first | with_reducible refine ok_nb (by omega) ?_ | with_reducible refine ok_ib (by omega) ?_ | with_reducible refine ok_t (by omega) ?_ | with_reducible refine ok_e (by omega) ?_ | with_reducible refine ok_if (fun h => ?_) (fun h => ?_) | with_reducible refine ok_s ?_ | with_reducible refine ok_b ?_)
    all_goals first | (exfalso; omega) | exact ⟨_, _, rfl, ⟨by omega, by omega, Or.inr ⟨by omega, by omega⟩⟩, fun _ => trivial⟩
theorem x_stopHere {e : w_E} {N : Nat} {S : w_S} {f len a w q : Int} {G : Int → Int} (h : TX S f len G) (ha : At f len a w q) : Ok (E_Tape_stopHere e N (tp S a w)) (Tk S f len (if q < 0 then q else -1 - q) (fun _ => True)) := by
  have k := tx_cases h ha
  obtain ⟨h1, h2, h3⟩ := h
  clear h3 ha
  unfold E_Tape_stopHere
  rw [tp4, tp6, tp3, h1, tp_p6]
  rcases k with ⟨k1, k2, k3, k4, k5, k6, k7, k8, k9⟩ | ⟨k1, k2, k3, k4, k5, k6, k7, k8⟩ | ⟨k1, k2, k3, k4, k5, k6, k7⟩
  · clear k9 k8
    rw [if_neg (by omega : ¬ q < 0)]
    repeat' (first | with_reducible refine ok_nb (by omega) ?_ | with_reducible refine ok_ib (by omega) ?_ | with_reducible refine ok_t (by omega) ?_ | with_reducible refine ok_e (by omega) ?_ | with_reducible refine ok_if (fun h => ?_) (fun h => ?_) | with_reducible refine ok_s ?_ | with_reducible refine ok_b ?_)
    all_goals first | (exfalso; omega) | exact ⟨_, _, rfl, ⟨by omega, by omega, Or.inr ⟨by omega, by omega⟩⟩, fun _ => trivial⟩
  · rw [if_neg (by omega : ¬ q < 0)]
    repeat' (first | with_reducible refine ok_nb (by omega) ?_ | with_reducible refine ok_ib (by omega) ?_ | with_reducible refine ok_t (by omega) ?_ | with_reducible refine ok_e (by omega) ?_ | with_reducible refine ok_if (fun h => ?_) (fun h => ?_) | with_reducible refine ok_s ?_ | with_reducible refine ok_b ?_)
    all_goals first | (exfalso; omega) | exact ⟨_, _, rfl, ⟨by omega, by omega, Or.inr ⟨by omega, by omega⟩⟩, fun _ => trivial⟩
  · rw [if_pos (by omega : q < 0)]
    clear k7
    repeat' (first | with_reducible refine ok_nb (by omega) ?_ | with_reducible refine ok_ib (by omega) ?_ | with_reducible refine ok_t (by omega) ?_ | with_reducible refine ok_e (by omega) ?_ | with_reducible refine ok_if (fun h => ?_) (fun h => ?_) | with_reducible refine ok_s ?_ | with_reducible refine ok_b ?_)
    all_goals first | (exfalso; omega) | exact ⟨_, _, rfl, ⟨by omega, by omega, Or.inr ⟨by omega, by omega⟩⟩, fun _ => trivial⟩
theorem x_peek {e : w_E} {N : Nat} {S : w_S} {f len a w q : Int} {G : Int → Int} (h : TX S f len G) (ha : At f len a w q) : E_Tape_peek e N (tp S a w) = some (if q < 0 then -1 else G q, tp S a w) := by
  have k := tx_cases h ha
  obtain ⟨h1, h2, h3⟩ := h
  clear h3 ha
  refine ok_eq ?_
  unfold E_Tape_peek
  rw [tp4, tp5, tp6, tp_2, h2]
  rcases k with ⟨k1, k2, k3, k4, k5, k6, k7, k8, k9⟩ | ⟨k1, k2, k3, k4, k5, k6, k7, k8⟩ | ⟨k1, k2, k3, k4, k5, k6, k7⟩
  · rw [if_neg (by omega : ¬ q < 0), ← k9]
    clear k9 k8
    repeat' (first | with_reducible refine ok_nb (by omega) ?_ | with_reducible refine ok_ib (by omega) ?_ | with_reducible refine ok_t (by omega) ?_ | with_reducible refine ok_e (by omega) ?_ | with_reducible refine ok_if (fun h => ?_) (fun h => ?_) | with_reducible refine ok_s ?_ | with_reducible refine ok_b ?_)
    all_goals first | (exfalso; omega) | exact ⟨rfl, rfl⟩
  · rw [if_neg (by omega : ¬ q < 0), k8]
    repeat' (first | with_reducible refine ok_nb (by omega) ?_ | with_reducible refine ok_ib (by omega) ?_ | with_reducible refine ok_t (by omega) ?_ | with_reducible refine ok_e (by omega) ?_ | with_reducible refine ok_if (fun h => ?_) (fun h => ?_) | with_reducible refine ok_s ?_ | with_reducible refine ok_b ?_)
    all_goals first | (exfalso; omega) | exact ⟨rfl, rfl⟩
  · rw [if_pos (by omega : q < 0)]
    clear k7
    repeat' (first | with_reducible refine ok_nb (by omega) ?_ | with_reducible refine ok_ib (by omega) ?_ | with_reducible refine ok_t (by omega) ?_ | with_reducible refine ok_e (by omega) ?_ | with_reducible refine ok_if (fun h => ?_) (fun h => ?_) | with_reducible refine ok_s ?_ | with_reducible refine ok_b ?_)
    all_goals first | (exfalso; omega) | exact ⟨rfl, rfl⟩
end
section
-- bd
def dgt (c : Int) : Bool := decide (48 ≤ c) && decide (c ≤ 57)
/-- how many digits come, of so many bytes at most -/
def nd (G : Int → Int) : Nat → Int → Nat
  | 0, _ => 0
  | k + 1, p => if dgt (G p) = true then nd G k (p + 1) + 1 else 0
/-- what the first five of so many digits say -/
def vl (G : Int → Int) (p : Int) : Nat → Int
  | 0 => 0
  | i + 1 => if i < 5 then vl G p i * 10 + G (p + i) - 48 else vl G p i
theorem vl_b {G : Int → Int} {p : Int} : ∀ i, (∀ j : Nat, j < i → dgt (G (p + j)) = true) → 0 ≤ vl G p i ∧ (i = 0 → vl G p i ≤ 0) ∧ (i = 1 → vl G p i ≤ 9) ∧ (i = 2 → vl G p i ≤ 99) ∧ (i = 3 → vl G p i ≤ 999) ∧ (i = 4 → vl G p i ≤ 9999) ∧ vl G p i ≤ 99999
  | 0, _ => by
    rw [vl]
    omega
  | i + 1, h => by
    have ih := vl_b i (fun j hj => h j (by omega))
    have g := h i (by omega)
    unfold dgt at g
    simp only [Bool.and_eq_true, decide_eq_true_eq] at g
    rw [vl]
    split
    · omega
    · omega
def okn (G : Int → Int) (lo hi p : Int) (n : Nat) : Bool := decide (1 ≤ n) && decide (n ≤ 5) && !(decide (1 < n) && decide (G p = 48)) && decide (lo ≤ vl G p n) && decide (vl G p n ≤ hi)
theorem tx_at {S : w_S} {f len p : Int} {G : Int → Int} (h : TX S f len G) (h0 : 0 ≤ p) : (p < len → (G p = S.1 2 (f + p).toNat ∧ 0 ≤ S.1 2 (f + p).toNat ∧ S.1 2 (f + p).toNat ≤ 127 ∨ S.1 2 (f + p).toNat < 0 ∧ -128 ≤ S.1 2 (f + p).toNat ∧ G p = S.1 2 (f + p).toNat + 256)) ∧ (len ≤ p → G p = -1) := by
  obtain ⟨h1, h2, h3, h4, h5, h6, h7⟩ := h
  obtain ⟨h8, h9⟩ := h7 p h0
  refine ⟨fun z => ?_, h9⟩
  obtain ⟨k1, k2, k3, k4⟩ := h8 z
  clear h7 h8 h9 k3
  split at k4 <;> omega
theorem l_num {e : w_E} {N : Nat} {S : w_S} {f len lo hi w p : Int} {G : Int → Int} (h : TX S f len G) (h0 : 0 ≤ p) (hl : p ≤ len) : ∀ (k i nf : Nat), p + i + k = len → k < nf → (∀ j : Nat, j < i → dgt (G (p + j)) = true) → El_Tape_takeNumber e N nf 0 [lo, hi, f + p, vl G p i] [] (tp S (f + p + i) w) = some (vl G p (i + nd G k (p + i)), tp S (f + p + (i + nd G k (p + i) : Nat)) (if w = -1 ∧ okn G lo hi p (i + nd G k (p + i)) = false then p else w))
  | k, i, nf + 1, h1, h2, hd => by
    have hh := h
    obtain ⟨g1, g2, g3, g4, g5, g6, g7⟩ := hh
    have ta := tx_at h (p := p + i) (by omega)
    have ts := tx_at h (p := p) h0
    rw [show f + (p + (i : Int)) = f + p + i by omega] at ta
    have vb := vl_b i hd
    clear g7
    by_cases c : k ≠ 0 ∧ dgt (G (p + i)) = true
    · obtain ⟨k', rfl⟩ : ∃ c, k = c + 1 := ⟨k - 1, by omega⟩
      have ih := l_num (e := e) (N := N) (lo := lo) (hi := hi) (w := w) h h0 hl k' (i + 1) nf (by omega) (by omega) (fun j hj => by
        by_cases ej : j = i
        · rw [ej]; exact c.2
        · exact hd j (by omega))
      rw [nd, if_pos c.2]
      have c2 := c.2
      unfold dgt at c2
      simp only [Bool.and_eq_true, decide_eq_true_eq] at c2
      have tb := ta.1 (by omega)
      have tc : G (p + i) = S.1 2 (f + p + i).toNat := by omega
      rw [tc] at c2
      rw [vl, tc] at ih
      rw [show i + 1 + nd G k' (p + ((i + 1 : Nat) : Int)) = i + (nd G k' (p + i + 1) + 1) by rw [show p + ((i + 1 : Nat) : Int) = p + i + 1 by omega]; omega] at ih
      rw [show f + p + ((i + 1 : Nat) : Int) = f + p + i + 1 by omega] at ih
      refine ok_eq ?_
      rw [El_Tape_takeNumber, tp4, tp5, tp3, tp6, tp_2, g2, tp_p4]
      clear ta ts tb c hd g1 g2
      refine ok_e (by omega) (ok_ib (by omega) (ok_e (by omega) (ok_e (by omega) (ok_nb (by omega) ?_))))
      by_cases c5 : i < 5
      · rw [if_pos c5] at ih
        refine ok_e (by omega) (ok_nb (by omega) (ok_nb (by omega) (ok_nb (by omega) (ok_nb (by omega) ?_))))
        exact ok_of ih ⟨rfl, rfl⟩
      · rw [if_neg c5] at ih
        refine ok_t (by omega) (ok_nb (by omega) ?_)
        exact ok_of ih ⟨rfl, rfl⟩
    · have n0 : nd G k (p + i) = 0 := by
        cases k with
        | zero => rfl
        | succ k' =>
          rw [nd, if_neg (fun z => c ⟨by omega, z⟩)]
      rw [n0, show i + 0 = i from rfl]
      have ks : 1 < i → G p = S.1 2 (f + p).toNat ∧ f + p < 10240 := fun z => by
        have d0 := hd 0 (by omega)
        rw [show p + ((0 : Nat) : Int) = p by omega] at d0
        unfold dgt at d0
        simp only [Bool.and_eq_true, decide_eq_true_eq] at d0
        have := ts.1 (by omega)
        omega
      have kx : f + len ≤ f + p + i ∨ (f + p + i < f + len ∧ S.1 2 (f + p + i).toNat < 48) ∨ (f + p + i < f + len ∧ 57 < S.1 2 (f + p + i).toNat) := by
        by_cases k0 : k = 0
        · left
          omega
        · right
          have c2 : ¬ dgt (G (p + i)) = true := fun z => c ⟨k0, z⟩
          unfold dgt at c2
          simp only [Bool.and_eq_true, decide_eq_true_eq] at c2
          have := ta.1 (by omega)
          omega
      refine ok_eq ?_
      rw [El_Tape_takeNumber, tp4, tp5, tp3, tp6, tp_2, g1, g2, tp_p6, show f + p - f = p by omega]
      clear ta ts c hd g1 g2 h
      by_cases B : okn G lo hi p i = true
      · have hW : (if w = -1 ∧ okn G lo hi p i = false then p else w) = w := if_neg (fun z => by rw [B] at z; cases z.2)
        rw [hW]
        unfold okn at B
        simp only [Bool.and_eq_true, Bool.not_eq_true', Bool.and_eq_false_iff, decide_eq_true_eq, decide_eq_false_iff_not] at B
        obtain ⟨⟨⟨⟨b1, b2⟩, b3⟩, b4⟩, b5⟩ := B
        by_cases i1 : i ≤ 1
        · clear b3 ks hW
          rcases kx with kx | kx | kx
          all_goals repeat' (first | with_reducible refine ok_nb (by omega) ?_ | with_reducible refine ok_ib (by omega) ?_ | with_reducible refine ok_t (by omega) ?_ | with_reducible refine ok_e (by omega) ?_ | with_reducible refine ok_if (fun h => ?_) (fun h => ?_) | with_reducible refine ok_s ?_ | with_reducible refine ok_b ?_)
          all_goals first | exact ⟨rfl, rfl⟩ | (exfalso; omega)
        · obtain ⟨s1, s2⟩ := ks (by omega)
          have b6 : S.1 2 (f + p).toNat ≠ 48 := by omega
          clear b3 ks hW
          rcases kx with kx | kx | kx
          all_goals repeat' (first | with_reducible refine ok_nb (by omega) ?_ | with_reducible refine ok_ib (by omega) ?_ | with_reducible refine ok_t (by omega) ?_ | with_reducible refine ok_e (by omega) ?_ | with_reducible refine ok_if (fun h => ?_) (fun h => ?_) | with_reducible refine ok_s ?_ | with_reducible refine ok_b ?_)
          all_goals first | exact ⟨rfl, rfl⟩ | (exfalso; omega)
      · have B2 : okn G lo hi p i = false := Bool.eq_false_iff.mpr B
        have bd : i < 1 ∨ 5 < i ∨ (1 < i ∧ S.1 2 (f + p).toNat = 48) ∨ vl G p i < lo ∨ hi < vl G p i := by
          unfold okn at B
          simp only [Bool.and_eq_true, Bool.not_eq_true', Bool.and_eq_false_iff, decide_eq_true_eq, decide_eq_false_iff_not] at B
          by_cases i1 : 1 < i
          · have := (ks i1).1
            omega
          · omega
        have bs : 1 < i → f + p < 10240 := fun z => (ks z).2
        by_cases w0 : w = -1
        · have hW : (if w = -1 ∧ okn G lo hi p i = false then p else w) = p := if_pos ⟨w0, B2⟩
          rw [hW]
          clear B ks hW
          rcases kx with kx | kx | kx
          all_goals rcases bd with bd | bd | bd | bd | bd
          all_goals repeat' (first | with_reducible refine ok_nb (by omega) ?_ | with_reducible refine ok_ib (by omega) ?_ | with_reducible refine ok_t (by omega) ?_ | with_reducible refine ok_e (by omega) ?_ | with_reducible refine ok_if (fun h => ?_) (fun h => ?_) | with_reducible refine ok_s ?_ | with_reducible refine ok_b ?_)
          all_goals first | exact ⟨rfl, rfl⟩ | (exfalso; omega)
        · have hW : (if w = -1 ∧ okn G lo hi p i = false then p else w) = w := if_neg (fun z => w0 z.1)
          rw [hW]
          clear B ks hW
          rcases kx with kx | kx | kx
          all_goals clear bd
          all_goals repeat' (first | with_reducible refine ok_nb (by omega) ?_ | with_reducible refine ok_ib (by omega) ?_ | with_reducible refine ok_t (by omega) ?_ | with_reducible refine ok_e (by omega) ?_ | with_reducible refine ok_if (fun h => ?_) (fun h => ?_) | with_reducible refine ok_s ?_ | with_reducible refine ok_b ?_)
          all_goals first | exact ⟨rfl, rfl⟩ | (exfalso; omega)
end
section
-- be
/-- the text G that the reference reads -/
def TR (R : w_S) (len : Int) (G : Int → Int) : Prop := R.1 129 2 = len ∧ 0 ≤ len ∧ len ≤ 2000 ∧ ∀ p, 0 ≤ p → (p < len → G p = w_and (R.1 130 p.toNat) 255 ∧ 0 ≤ G p ∧ G p ≤ 255) ∧ (len ≤ p → G p = -1)
theorem TR.b {R : w_S} {len : Int} {G : Int → Int} (h : TR R len G) {p : Int} (hp : 0 ≤ p) : -1 ≤ G p ∧ G p ≤ 255 := by
  obtain ⟨h1, h2, h3, h4⟩ := h
  obtain ⟨h5, h6⟩ := h4 p hp
  by_cases c : p < len
  · have := h5 c
    omega
  · have := h6 (by omega)
    omega
theorem x_at {e : w_E} {N : Nat} {R : w_S} {len p : Int} {G : Int → Int} (h : TR R len G) (hp : 0 ≤ p) : E_R_at e N p R = some (G p, R) := by
  obtain ⟨h1, h2, h3, h4⟩ := h
  obtain ⟨h5, h6⟩ := h4 p hp
  clear h4
  refine ok_eq ?_
  unfold E_R_at
  rw [h1]
  by_cases c : p < len
  · obtain ⟨k1, k2, k3⟩ := h5 c
    rw [k1]
    clear h5 h6 k1 k2 k3
    repeat' (first | with_reducible refine ok_nb (by omega) ?_ | with_reducible refine ok_ib (by omega) ?_ | with_reducible refine ok_t (by omega) ?_ | with_reducible refine ok_e (by omega) ?_ | with_reducible refine ok_if (fun h => ?_) (fun h => ?_) | with_reducible refine ok_s ?_ | with_reducible refine ok_b ?_)
    exact ⟨rfl, rfl⟩
  · rw [h6 (by omega)]
    clear h5 h6
    repeat' (first | with_reducible refine ok_nb (by omega) ?_ | with_reducible refine ok_ib (by omega) ?_ | with_reducible refine ok_t (by omega) ?_ | with_reducible refine ok_e (by omega) ?_ | with_reducible refine ok_if (fun h => ?_) (fun h => ?_) | with_reducible refine ok_s ?_ | with_reducible refine ok_b ?_)
    exact ⟨rfl, rfl⟩
theorem l_numeral {e : w_E} {N : Nat} {R : w_S} {len lo hi p : Int} {G : Int → Int} (h : TR R len G) (h0 : 0 ≤ p) (hl : p ≤ len) : ∀ (k i nf : Nat), p + i + k = len → k < nf → (∀ j : Nat, j < i → dgt (G (p + j)) = true) → El_R_numeral e N nf 0 [p, lo, hi, (i : Int), vl G p i] [] R = some (if okn G lo hi p (i + nd G k (p + i)) = true then p + (i + nd G k (p + i) : Nat) else -1 - p, if okn G lo hi p (i + nd G k (p + i)) = true then w_put R 129 3 (vl G p (i + nd G k (p + i))) else R)
  | k, i, nf + 1, h1, h2, hd => by
    have ka := x_at (e := e) (N := N) h (p := p + i) (by omega)
    have kb := x_at (e := e) (N := N) h (p := p) h0
    have gb := h.b (p := p + i) (by omega)
    have vb := vl_b i hd
    have g3 := h.2.2.1
    by_cases c : k ≠ 0 ∧ dgt (G (p + i)) = true
    · obtain ⟨k', rfl⟩ : ∃ c, k = c + 1 := ⟨k - 1, by omega⟩
      have ih := l_numeral (e := e) (N := N) (lo := lo) (hi := hi) h h0 hl k' (i + 1) nf (by omega) (by omega) (fun j hj => by
        by_cases ej : j = i
        · rw [ej]; exact c.2
        · exact hd j (by omega))
      rw [nd, if_pos c.2]
      have c2 := c.2
      unfold dgt at c2
      simp only [Bool.and_eq_true, decide_eq_true_eq] at c2
      rw [vl] at ih
      rw [show i + 1 + nd G k' (p + ((i + 1 : Nat) : Int)) = i + (nd G k' (p + i + 1) + 1) by rw [show p + ((i + 1 : Nat) : Int) = p + i + 1 by omega]; omega] at ih
      rw [show ((i + 1 : Nat) : Int) = (i : Int) + 1 by omega] at ih
      refine ok_eq ?_
      rw [El_R_numeral]
      clear c hd h kb
      refine ok_nb (by omega) (ok_b (ok_of ka ?_))
      dsimp only
      refine ok_e (by omega) (ok_e (by omega) ?_)
      by_cases c5 : i < 5
      · rw [if_pos c5, show vl G p i * 10 = 10 * vl G p i by omega] at ih
        refine ok_e (by omega) (ok_nb (by omega) (ok_b (ok_of ka ?_)))
        dsimp only
        refine ok_nb (by omega) (ok_nb (by omega) (ok_nb (by omega) ?_))
        exact ok_of ih ⟨rfl, rfl⟩
      · rw [if_neg c5] at ih
        refine ok_t (by omega) (ok_nb (by omega) ?_)
        exact ok_of ih ⟨rfl, rfl⟩
    · have n0 : nd G k (p + i) = 0 := by
        cases k with
        | zero => rfl
        | succ k' =>
          rw [nd, if_neg (fun z => c ⟨by omega, z⟩)]
      rw [n0, show i + 0 = i from rfl]
      have kx : G (p + i) < 48 ∨ 57 < G (p + i) := by
        by_cases k0 : k = 0
        · have := (h.2.2.2 (p + i) (by omega)).2 (by omega)
          omega
        · have c2 : ¬ dgt (G (p + i)) = true := fun z => c ⟨k0, z⟩
          unfold dgt at c2
          simp only [Bool.and_eq_true, decide_eq_true_eq] at c2
          omega
      refine ok_eq ?_
      rw [El_R_numeral]
      clear c hd h
      by_cases B : okn G lo hi p i = true
      · rw [if_pos B, if_pos B]
        unfold okn at B
        simp only [Bool.and_eq_true, Bool.not_eq_true', Bool.and_eq_false_iff, decide_eq_true_eq, decide_eq_false_iff_not] at B
        obtain ⟨⟨⟨⟨b1, b2⟩, b3⟩, b4⟩, b5⟩ := B
        have b6 : 1 < i → G p ≠ 48 := fun z => by omega
        clear b3
        rcases kx with kx | kx
        all_goals (by_cases i1 : i ≤ 1)
        all_goals repeat' (first | (with_reducible refine ok_of ka ?_; dsimp only) | (with_reducible refine ok_of kb ?_; dsimp only) | with_reducible refine ok_nb (by omega) ?_ | with_reducible refine ok_ib (by omega) ?_ | with_reducible refine ok_t (by omega) ?_ | with_reducible refine ok_e (by omega) ?_ | with_reducible refine ok_if (fun h => ?_) (fun h => ?_) | with_reducible refine ok_s ?_ | with_reducible refine ok_b ?_)
        all_goals first | exact ⟨rfl, rfl⟩ | (exfalso; omega)
      · rw [if_neg B, if_neg B]
        have bd : i < 1 ∨ 5 < i ∨ (1 < i ∧ G p = 48) ∨ vl G p i < lo ∨ hi < vl G p i := by
          unfold okn at B
          simp only [Bool.and_eq_true, Bool.not_eq_true', Bool.and_eq_false_iff, decide_eq_true_eq, decide_eq_false_iff_not] at B
          omega
        clear B
        rcases kx with kx | kx
        all_goals rcases bd with bd | bd | bd | bd | bd
        all_goals repeat' (first | (with_reducible refine ok_of ka ?_; dsimp only) | (with_reducible refine ok_of kb ?_; dsimp only) | with_reducible refine ok_nb (by omega) ?_ | with_reducible refine ok_ib (by omega) ?_ | with_reducible refine ok_t (by omega) ?_ | with_reducible refine ok_e (by omega) ?_ | with_reducible refine ok_if (fun h => ?_) (fun h => ?_) | with_reducible refine ok_s ?_ | with_reducible refine ok_b ?_)
        all_goals first | exact ⟨rfl, rfl⟩ | (exfalso; omega)
def pN (G : Int → Int) (len lo hi q : Int) : Int := if q < 0 then q else if okn G lo hi q (nd G (len - q).toNat q) = true then q + (nd G (len - q).toNat q : Nat) else -1 - q
theorem nd_le (G : Int → Int) : ∀ (k : Nat) (p : Int), nd G k p ≤ k
  | 0, _ => Nat.le_refl _
  | k + 1, p => by
    have := nd_le G k (p + 1)
    rw [nd]
    split <;> omega
theorem x_takeNumber {e : w_E} {N : Nat} {S : w_S} {f len a w q lo hi : Int} {G : Int → Int} (hN : 2001 ≤ N) (h : TX S f len G) (ha : At f len a w q) : Ok (E_Tape_takeNumber e N lo hi (tp S a w)) (Tk S f len (pN G len lo hi q) (fun y => y = vl G q (nd G (len - q).toNat q) ∧ lo ≤ y ∧ y ≤ hi)) := by
  obtain ⟨a1, a2, a3⟩ := ha
  have hh := h
  obtain ⟨g1, g2, g3, g4, g5, g6, g7⟩ := hh
  clear g7
  have z := l_num (e := e) (N := N) (lo := lo) (hi := hi) (w := w) h (p := a - f) (by omega) (by omega) (len - (a - f)).toNat 0 N (by omega) (by omega) (fun j hj => by omega)
  have n1 := nd_le G (len - (a - f)).toNat (a - f)
  rw [vl, show ((0 : Nat) : Int) = 0 from rfl, show f + (a - f) + 0 = a by omega, show f + (a - f) = a by omega, show a - f + 0 = a - f by omega, show 0 + nd G (len - (a - f)).toNat (a - f) = nd G (len - (a - f)).toNat (a - f) by omega] at z
  unfold E_Tape_takeNumber
  rw [tp4]
  refine ok_of z ?_
  rcases a3 with ⟨b1, b2⟩ | ⟨b1, b2⟩
  · have eq : a - f = q := by omega
    rw [eq] at n1 ⊢
    by_cases B : okn G lo hi q (nd G (len - q).toNat q) = true
    · refine ⟨_, _, rfl, ⟨by omega, by omega, Or.inl ⟨?_, ?_⟩⟩, fun _ => ⟨rfl, ?_⟩⟩
      · rw [B, if_neg (by simp)]
        exact b1
      · unfold pN
        rw [if_neg (by omega), if_pos B]
        omega
      · unfold okn at B
        simp only [Bool.and_eq_true, decide_eq_true_eq] at B
        exact ⟨B.1.2, B.2⟩
    · have B2 : okn G lo hi q (nd G (len - q).toNat q) = false := Bool.eq_false_iff.mpr B
      refine ⟨_, _, rfl, ⟨by omega, by omega, Or.inr ⟨?_, ?_⟩⟩, ?_⟩
      · rw [if_pos ⟨b1, B2⟩]
        omega
      · rw [if_pos ⟨b1, B2⟩]
        unfold pN
        rw [if_neg (by omega), if_neg B]
      · rw [if_pos ⟨b1, B2⟩]
        intro z
        exfalso
        omega
  · have hw : ¬ (w = -1 ∧ okn G lo hi (a - f) (nd G (len - (a - f)).toNat (a - f)) = false) := by omega
    rw [if_neg hw]
    refine ⟨_, _, rfl, ⟨by omega, by omega, Or.inr ⟨b1, ?_⟩⟩, fun z => by (exfalso; omega)⟩
    unfold pN
    rw [if_pos (by omega)]
    exact b2
end
section
-- bf
def rwb (c : Int) : Bool := decide (32 ≤ c) && decide (c ≤ 126) && !decide (c = 36)
/-- how many bytes of a sort come, of so many at most -/
def nw (P : Int → Bool) (G : Int → Int) : Nat → Int → Nat
  | 0, _ => 0
  | k + 1, p => if P (G p) = true then nw P G k (p + 1) + 1 else 0
theorem nw_le (P : Int → Bool) (G : Int → Int) : ∀ (k : Nat) (p : Int), nw P G k p ≤ k
  | 0, _ => Nat.le_refl _
  | k + 1, p => by
    have := nw_le P G k (p + 1)
    rw [nw]
    split <;> omega
theorem l_takeRow {e : w_E} {N : Nat} {S : w_S} {f len w p : Int} {G : Int → Int} (h : TX S f len G) (h0 : 0 ≤ p) : ∀ (k i nf : Nat), i + k = 40 → k < nf → p + i ≤ len → El_Tape_takeRow e N nf 0 [f + p] [] (tp S (f + p + i) w) = some (w_or (w_shl (f + p) 6) ((i + nw rwb G k (p + i) : Nat) : Int), tp S (f + p + (i + nw rwb G k (p + i) : Nat)) (if w = -1 ∧ i + nw rwb G k (p + i) = 0 then p else w))
  | k, i, nf + 1, h1, h2, hl => by
    have hh := h
    obtain ⟨g1, g2, g3, g4, g5, g6, g7⟩ := hh
    have ta := tx_at h (p := p + i) (by omega)
    rw [show f + (p + (i : Int)) = f + p + i by omega] at ta
    clear g7
    by_cases c : k ≠ 0 ∧ rwb (G (p + i)) = true
    · obtain ⟨k', rfl⟩ : ∃ c, k = c + 1 := ⟨k - 1, by omega⟩
      have c2 := c.2
      unfold rwb at c2
      simp only [Bool.and_eq_true, Bool.not_eq_true', decide_eq_true_eq, decide_eq_false_iff_not] at c2
      have tl : p + i < len := by
        by_cases z : p + i < len
        · exact z
        · have := ta.2 (by omega)
          omega
      have tb := ta.1 tl
      have tc : G (p + i) = S.1 2 (f + p + i).toNat := by omega
      have ih := l_takeRow (e := e) (N := N) (w := w) h h0 k' (i + 1) nf (by omega) (by omega) (by omega)
      rw [nw, if_pos c.2]
      rw [tc] at c2
      rw [show i + 1 + nw rwb G k' (p + ((i + 1 : Nat) : Int)) = i + (nw rwb G k' (p + i + 1) + 1) by rw [show p + ((i + 1 : Nat) : Int) = p + i + 1 by omega]; omega] at ih
      rw [show f + p + ((i + 1 : Nat) : Int) = f + p + i + 1 by omega] at ih
      refine ok_eq ?_
      rw [El_Tape_takeRow, tp4, tp5, tp3, tp6, tp_2, g2, tp_p4]
      clear ta tb c g1 g2
      refine ok_e (by omega) (ok_nb (by omega) (ok_e (by omega) (ok_ib (by omega) (ok_e (by omega) (ok_e (by omega) (ok_e (by omega) (ok_nb (by omega) ?_)))))))
      exact ok_of ih ⟨rfl, rfl⟩
    · have n0 : nw rwb G k (p + i) = 0 := by
        cases k with
        | zero => rfl
        | succ k' =>
          rw [nw, if_neg (fun z => c ⟨by omega, z⟩)]
      rw [n0, show i + 0 = i from rfl]
      have kx : f + len ≤ f + p + i ∨ (f + p + i < f + len ∧ 40 ≤ i) ∨ (f + p + i < f + len ∧ i < 40 ∧ S.1 2 (f + p + i).toNat < 32) ∨ (f + p + i < f + len ∧ i < 40 ∧ 126 < S.1 2 (f + p + i).toNat) ∨ (f + p + i < f + len ∧ i < 40 ∧ S.1 2 (f + p + i).toNat = 36) := by
        by_cases tl : p + i < len
        · by_cases k0 : k = 0
          · right
            left
            omega
          · have c2 : ¬ rwb (G (p + i)) = true := fun z => c ⟨k0, z⟩
            unfold rwb at c2
            simp only [Bool.and_eq_true, Bool.not_eq_true', decide_eq_true_eq, decide_eq_false_iff_not] at c2
            have := ta.1 (by omega)
            omega
        · left
          omega
      refine ok_eq ?_
      rw [El_Tape_takeRow, tp4, tp5, tp3, tp6, tp_2, g1, g2, tp_p6, show f + p + i - (f + p) = i by omega, show f + p + i - f = p + i by omega]
      clear ta c g1 g2 h
      by_cases B : w = -1 ∧ i = 0
      · rw [if_pos B]
        obtain ⟨b1, b2⟩ := B
        have b3 : p + (i : Int) = p := by omega
        rcases kx with kx | kx | kx | kx | kx
        all_goals repeat' (first | with_reducible refine ok_nb (by omega) ?_ | with_reducible refine ok_ib (by omega) ?_ | with_reducible refine ok_t (by omega) ?_ | with_reducible refine ok_e (by omega) ?_ | with_reducible refine ok_if (fun h => ?_) (fun h => ?_) | with_reducible refine ok_s ?_ | with_reducible refine ok_b ?_)
        all_goals first | (rw [b3]; exact ⟨rfl, rfl⟩) | (exfalso; omega)
      · rw [if_neg B]
        rcases kx with kx | kx | kx | kx | kx
        all_goals repeat' (first | with_reducible refine ok_nb (by omega) ?_ | with_reducible refine ok_ib (by omega) ?_ | with_reducible refine ok_t (by omega) ?_ | with_reducible refine ok_e (by omega) ?_ | with_reducible refine ok_if (fun h => ?_) (fun h => ?_) | with_reducible refine ok_s ?_ | with_reducible refine ok_b ?_)
        all_goals first | exact ⟨rfl, rfl⟩ | (exfalso; omega)
theorem l_rowR {e : w_E} {N : Nat} {R : w_S} {len p : Int} {G : Int → Int} (h : TR R len G) (h0 : 0 ≤ p) (hl : p ≤ len) : ∀ (k i nf : Nat), i + k = 41 → k < nf → El_R_row e N nf 0 [p, (i : Int)] [] R = some (if i + nw rwb G k (p + i) = 0 then -1 - p else if i + nw rwb G k (p + i) = 41 then -1 - (p + 40) else p + (i + nw rwb G k (p + i) : Nat), R)
  | k, i, nf + 1, h1, h2 => by
    have ka := x_at (e := e) (N := N) h (p := p + i) (by omega)
    have g3 := h.2.2.1
    by_cases c : k ≠ 0 ∧ rwb (G (p + i)) = true
    · obtain ⟨k', rfl⟩ : ∃ c, k = c + 1 := ⟨k - 1, by omega⟩
      have ih := l_rowR (e := e) (N := N) h h0 hl k' (i + 1) nf (by omega) (by omega)
      rw [nw, if_pos c.2]
      have c2 := c.2
      unfold rwb at c2
      simp only [Bool.and_eq_true, Bool.not_eq_true', decide_eq_true_eq, decide_eq_false_iff_not] at c2
      rw [show i + 1 + nw rwb G k' (p + ((i + 1 : Nat) : Int)) = i + (nw rwb G k' (p + i + 1) + 1) by rw [show p + ((i + 1 : Nat) : Int) = p + i + 1 by omega]; omega] at ih
      rw [show ((i + 1 : Nat) : Int) = (i : Int) + 1 by omega] at ih
      refine ok_eq ?_
      rw [El_R_row]
      clear c h
      refine ok_e (by omega) (ok_nb (by omega) (ok_b (ok_of ka ?_)))
      dsimp only
      refine ok_e (by omega) (ok_e (by omega) (ok_e (by omega) (ok_nb (by omega) ?_)))
      exact ok_of ih ⟨rfl, rfl⟩
    · have n0 : nw rwb G k (p + i) = 0 := by
        cases k with
        | zero => rfl
        | succ k' =>
          rw [nw, if_neg (fun z => c ⟨by omega, z⟩)]
      rw [n0, show i + 0 = i from rfl]
      have kx : i = 41 ∨ (i < 41 ∧ G (p + i) < 32) ∨ (i < 41 ∧ 126 < G (p + i)) ∨ (i < 41 ∧ G (p + i) = 36) := by
        by_cases k0 : k = 0
        · left
          omega
        · have c2 : ¬ rwb (G (p + i)) = true := fun z => c ⟨k0, z⟩
          unfold rwb at c2
          simp only [Bool.and_eq_true, Bool.not_eq_true', decide_eq_true_eq, decide_eq_false_iff_not] at c2
          omega
      refine ok_eq ?_
      rw [El_R_row]
      clear c h
      by_cases i0 : i = 0
      · rw [if_pos i0]
        rcases kx with kx | kx | kx | kx
        all_goals repeat' (first | (with_reducible refine ok_of ka ?_; dsimp only) | with_reducible refine ok_nb (by omega) ?_ | with_reducible refine ok_ib (by omega) ?_ | with_reducible refine ok_t (by omega) ?_ | with_reducible refine ok_e (by omega) ?_ | with_reducible refine ok_if (fun h => ?_) (fun h => ?_) | with_reducible refine ok_s ?_ | with_reducible refine ok_b ?_)
        all_goals first | exact ⟨rfl, rfl⟩ | (exfalso; omega)
      · rw [if_neg i0]
        by_cases i41 : i = 41
        · rw [if_pos i41]
          clear kx
          repeat' (first | (with_reducible refine ok_of ka ?_; dsimp only) | with_reducible refine ok_nb (by omega) ?_ | with_reducible refine ok_ib (by omega) ?_ | with_reducible refine ok_t (by omega) ?_ | with_reducible refine ok_e (by omega) ?_ | with_reducible refine ok_if (fun h => ?_) (fun h => ?_) | with_reducible refine ok_s ?_ | with_reducible refine ok_b ?_)
          all_goals first | exact ⟨rfl, rfl⟩ | (exfalso; omega)
        · rw [if_neg i41]
          rcases kx with kx | kx | kx | kx
          all_goals repeat' (first | (with_reducible refine ok_of ka ?_; dsimp only) | with_reducible refine ok_nb (by omega) ?_ | with_reducible refine ok_ib (by omega) ?_ | with_reducible refine ok_t (by omega) ?_ | with_reducible refine ok_e (by omega) ?_ | with_reducible refine ok_if (fun h => ?_) (fun h => ?_) | with_reducible refine ok_s ?_ | with_reducible refine ok_b ?_)
          all_goals first | exact ⟨rfl, rfl⟩ | (exfalso; omega)
/-- a row of 40 bytes at most, and where it ends -/
def pW (G : Int → Int) (q : Int) : Int := if q < 0 then q else if nw rwb G 40 q = 0 then -1 - q else q + (nw rwb G 40 q : Nat)
/-- the same, where a 41st byte is wrong at once -/
def pV (G : Int → Int) (q : Int) : Int := if q < 0 then q else if nw rwb G 41 q = 0 then -1 - q else if nw rwb G 41 q = 41 then -1 - (q + 40) else q + (nw rwb G 41 q : Nat)
theorem nw_succ (P : Int → Bool) (G : Int → Int) : ∀ (k : Nat) (p : Int), nw P G (k + 1) p = if nw P G k p = k ∧ P (G (p + k)) = true then k + 1 else nw P G k p
  | 0, p => by
    rw [nw, nw, nw, show p + ((0 : Nat) : Int) = p by omega]
    by_cases c : P (G p) = true
    · rw [if_pos c, if_pos ⟨rfl, c⟩]
    · rw [if_neg c, if_neg (fun z => c z.2)]
  | k + 1, p => by
    have ih := nw_succ P G k (p + 1)
    rw [nw, ih]
    rw [nw, show p + 1 + (k : Int) = p + ((k + 1 : Nat) : Int) by omega]
    by_cases c : P (G p) = true
    · rw [if_pos c, if_pos c]
      by_cases d : nw P G k (p + 1) = k ∧ P (G (p + ((k + 1 : Nat) : Int))) = true
      · rw [if_pos d, if_pos ⟨by omega, d.2⟩]
      · rw [if_neg d, if_neg (fun z => d ⟨by omega, z.2⟩)]
    · rw [if_neg c, if_neg c, if_neg (fun z => by omega)]
/-- whoever reads a byte behind a row that is none of a row finds both the same -/
theorem pB_row (G : Int → Int) {b : Int} (hb : rwb b = false) (q : Int) : pB G b (pW G q) = pB G b (pV G q) := by
  unfold pW pV
  by_cases c : q < 0
  · rw [if_pos c, if_pos c]
  · rw [if_neg c, if_neg c]
    have n1 := nw_le rwb G 40 q
    rw [nw_succ rwb G 40 q]
    by_cases d : nw rwb G 40 q = 40 ∧ rwb (G (q + ((40 : Nat) : Int))) = true
    · rw [if_pos d, if_neg (by omega : ¬ nw rwb G 40 q = 0), if_neg (by omega : ¬ (40 + 1 = 0)), if_pos (by omega : 40 + 1 = 41), d.1]
      unfold pB
      rw [if_neg (by omega), if_neg (fun z => by rw [z, hb] at d; cases d.2), if_pos (by omega)]
      omega
    · rw [if_neg d]
      by_cases n0 : nw rwb G 40 q = 0
      · rw [if_pos n0, if_pos n0]
      · rw [if_neg n0, if_neg n0, if_neg (by omega)]
theorem nw_len {P : Int → Bool} {G : Int → Int} {len : Int} (hg : ∀ p, len ≤ p → P (G p) = false) : ∀ (k : Nat) (p : Int), p ≤ len → p + (nw P G k p : Nat) ≤ len
  | 0, p, h => by
    rw [nw]
    omega
  | k + 1, p, h => by
    rw [nw]
    by_cases c : P (G p) = true
    · rw [if_pos c]
      have hp : p < len := by
        by_cases z : p < len
        · exact z
        · rw [hg p (by omega)] at c
          cases c
      have := nw_len hg k (p + 1) (by omega)
      omega
    · rw [if_neg c]
      omega
theorem x_takeRow {e : w_E} {N : Nat} {S : w_S} {f len a w q : Int} {G : Int → Int} (hN : 2001 ≤ N) (h : TX S f len G) (ha : At f len a w q) : Ok (E_Tape_takeRow e N (tp S a w)) (Tk S f len (pW G q) (fun y => y = (f + q) * 64 + (nw rwb G 40 q : Nat) ∧ 0 < nw rwb G 40 q)) := by
  obtain ⟨a1, a2, a3⟩ := ha
  have hh := h
  obtain ⟨g1, g2, g3, g4, g5, g6, g7⟩ := hh
  clear g7
  have z := l_takeRow (e := e) (N := N) (w := w) h (p := a - f) (by omega) 40 0 N (by omega) (by omega) (by omega)
  have n1 := nw_le rwb G 40 (a - f)
  rw [show ((0 : Nat) : Int) = 0 from rfl, show f + (a - f) + 0 = a by omega, show f + (a - f) = a by omega, show a - f + 0 = a - f by omega, show 0 + nw rwb G 40 (a - f) = nw rwb G 40 (a - f) by omega] at z
  have bnd : a + (nw rwb G 40 (a - f) : Nat) ≤ f + len := by
    have := nw_len (P := rwb) (G := G) (len := len) (fun p hp => by
      rw [(tx_at h (p := p) (by omega)).2 hp]
      decide) 40 (a - f) (by omega)
    omega
  unfold E_Tape_takeRow
  rw [tp4]
  refine ok_of z ?_
  rcases a3 with ⟨b1, b2⟩ | ⟨b1, b2⟩
  · have eq : a - f = q := by omega
    rw [eq] at n1 bnd ⊢
    by_cases B : nw rwb G 40 q = 0
    · have hw : (if w = -1 ∧ nw rwb G 40 q = 0 then q else w) = q := if_pos ⟨b1, B⟩
      rw [hw]
      refine ⟨_, _, rfl, ⟨by omega, by omega, Or.inr ⟨by omega, ?_⟩⟩, fun z => by (exfalso; omega)⟩
      unfold pW
      rw [if_neg (by omega), if_pos B]
    · have hw : (if w = -1 ∧ nw rwb G 40 q = 0 then q else w) = w := if_neg (fun z => B z.2)
      rw [hw]
      refine ⟨_, _, rfl, ⟨by omega, by omega, Or.inl ⟨b1, ?_⟩⟩, fun _ => ⟨?_, by omega⟩⟩
      · unfold pW
        rw [if_neg (by omega), if_neg B]
        omega
      · rw [b_row (by omega) (by omega) (by omega) (by omega)]
        rw [b2]
  · have hw : (if w = -1 ∧ nw rwb G 40 (a - f) = 0 then a - f else w) = w := if_neg (fun z => by omega)
    rw [hw]
    refine ⟨_, _, rfl, ⟨by omega, by omega, Or.inr ⟨b1, ?_⟩⟩, fun z => by (exfalso; omega)⟩
    unfold pW
    rw [if_pos (by omega)]
    exact b2
theorem x_rowR {e : w_E} {N : Nat} {R : w_S} {len p : Int} {G : Int → Int} (hN : 2001 ≤ N) (h : TR R len G) (h0 : 0 ≤ p) (hl : p ≤ len) : E_R_row e N p R = some (pV G p, R) := by
  have z := l_rowR (e := e) (N := N) h h0 hl 41 0 N (by omega) (by omega)
  rw [show ((0 : Nat) : Int) = 0 from rfl, show p + 0 = p by omega, show 0 + nw rwb G 41 p = nw rwb G 41 p by omega] at z
  unfold E_R_row pV
  rw [if_neg (by omega : ¬ p < 0)]
  exact z
theorem x_numeral {e : w_E} {N : Nat} {R : w_S} {len p lo hi : Int} {G : Int → Int} (hN : 2001 ≤ N) (h : TR R len G) (h0 : 0 ≤ p) (hl : p ≤ len) : E_R_numeral e N p lo hi R = some (pN G len lo hi p, if 0 ≤ pN G len lo hi p then w_put R 129 3 (vl G p (nd G (len - p).toNat p)) else R) := by
  have g3 := h.2.2.1
  have z := l_numeral (e := e) (N := N) (lo := lo) (hi := hi) h h0 hl (len - p).toNat 0 N (by omega) (by omega) (fun j hj => by omega)
  rw [vl, show ((0 : Nat) : Int) = 0 from rfl, show p + 0 = p by omega, show 0 + nd G (len - p).toNat p = nd G (len - p).toNat p by omega] at z
  unfold E_R_numeral
  refine z.trans ?_
  unfold pN
  rw [if_neg (by omega : ¬ p < 0)]
  by_cases B : okn G lo hi p (nd G (len - p).toNat p) = true
  · rw [if_pos B, if_pos B, if_pos (by omega)]
  · rw [if_neg B, if_neg B, if_neg (by omega)]
end
section
-- bg
def pP (P : Int → Bool) (G : Int → Int) (q : Int) : Int := if q < 0 then q else if P (G q) = true then q + 1 else -1 - q
def cdb (c : Int) : Bool := (decide (97 ≤ c) && decide (c ≤ 122)) || (decide (48 ≤ c) && decide (c ≤ 57))
def inb (c : Int) : Bool := decide (c = 32) || (decide (48 ≤ c) && decide (c ≤ 57))
theorem cdb_iff {c : Int} : cdb c = true ↔ (97 ≤ c ∧ c ≤ 122) ∨ (48 ≤ c ∧ c ≤ 57) := by
  simp only [cdb, Bool.or_eq_true, Bool.and_eq_true, decide_eq_true_eq]
theorem inb_iff {c : Int} : inb c = true ↔ c = 32 ∨ (48 ≤ c ∧ c ≤ 57) := by
  simp only [inb, Bool.or_eq_true, Bool.and_eq_true, decide_eq_true_eq]
theorem x_takeCode {e : w_E} {N : Nat} {S : w_S} {f len a w q : Int} {G : Int → Int} (h : TX S f len G) (ha : At f len a w q) : Ok (E_Tape_takeCode e N (tp S a w)) (Tk S f len (pP cdb G q) (fun y => y = G q ∧ cdb y = true)) := by
  have k := tx_cases h ha
  obtain ⟨h1, h2, h3⟩ := h
  clear h3 ha
  unfold E_Tape_takeCode
  rw [tp4, tp5, tp6, tp3, tp_2, h1, h2, tp_p4, tp_p6]
  unfold pP
  rcases k with ⟨k1, k2, k3, k4, k5, k6, k7, k8, k9⟩ | ⟨k1, k2, k3, k4, k5, k6, k7, k8⟩ | ⟨k1, k2, k3, k4, k5, k6, k7⟩
  · clear k9
    rw [if_neg (by omega : ¬ q < 0)]
    by_cases c : cdb (G q) = true
    · rw [if_pos c]
      have c0 := c
      rw [cdb_iff] at c
      obtain ⟨k8a, k8b⟩ : G q = S.1 2 a.toNat ∧ 0 ≤ S.1 2 a.toNat := by omega
      rw [k8a] at c
      rw [k8a] at c0
      clear k8
      rcases c with c | c
      all_goals repeat' (first | with_reducible refine ok_nb (by omega) ?_ | with_reducible refine ok_ib (by omega) ?_ | with_reducible refine ok_t (by omega) ?_ | with_reducible refine ok_e (by omega) ?_ | with_reducible refine ok_if (fun h => ?_) (fun h => ?_) | with_reducible refine ok_s ?_ | with_reducible refine ok_b ?_)
      all_goals first | (exfalso; omega) | exact ⟨_, _, rfl, ⟨by omega, by omega, Or.inl ⟨by omega, by omega⟩⟩, fun _ => ⟨by omega, c0⟩⟩
    · rw [if_neg c]
      rw [cdb_iff] at c
      have c8 : ¬ ((97 ≤ S.1 2 a.toNat ∧ S.1 2 a.toNat ≤ 122) ∨ (48 ≤ S.1 2 a.toNat ∧ S.1 2 a.toNat ≤ 57)) := by omega
      clear k8 c
      repeat' (first | with_reducible refine ok_nb (by omega) ?_ | with_reducible refine ok_ib (by omega) ?_ | with_reducible refine ok_t (by omega) ?_ | with_reducible refine ok_e (by omega) ?_ | with_reducible refine ok_if (fun h => ?_) (fun h => ?_) | with_reducible refine ok_s ?_ | with_reducible refine ok_b ?_)
      all_goals first | (exfalso; omega) | exact ⟨_, _, rfl, ⟨by omega, by omega, Or.inr ⟨by omega, by omega⟩⟩, fun z => by (exfalso; omega)⟩
  · have c : ¬ cdb (G q) = true := by
      rw [cdb_iff]
      omega
    rw [if_neg (by omega : ¬ q < 0), if_neg c]
    repeat' (first | with_reducible refine ok_nb (by omega) ?_ | with_reducible refine ok_ib (by omega) ?_ | with_reducible refine ok_t (by omega) ?_ | with_reducible refine ok_e (by omega) ?_ | with_reducible refine ok_if (fun h => ?_) (fun h => ?_) | with_reducible refine ok_s ?_ | with_reducible refine ok_b ?_)
    all_goals first | (exfalso; omega) | exact ⟨_, _, rfl, ⟨by omega, by omega, Or.inr ⟨by omega, by omega⟩⟩, fun z => by (exfalso; omega)⟩
  · rw [if_pos (by omega : q < 0)]
    clear k7
    repeat' (first | with_reducible refine ok_nb (by omega) ?_ | with_reducible refine ok_ib (by omega) ?_ | with_reducible refine ok_t (by omega) ?_ | with_reducible refine ok_e (by omega) ?_ | with_reducible refine ok_if (fun h => ?_) (fun h => ?_) | with_reducible refine ok_s ?_ | with_reducible refine ok_b ?_)
    all_goals first | (exfalso; omega) | exact ⟨_, _, rfl, ⟨by omega, by omega, Or.inr ⟨by omega, by omega⟩⟩, fun z => by (exfalso; omega)⟩
theorem x_takeIndicator {e : w_E} {N : Nat} {S : w_S} {f len a w q : Int} {G : Int → Int} (h : TX S f len G) (ha : At f len a w q) : Ok (E_Tape_takeIndicator e N (tp S a w)) (Tk S f len (pP inb G q) (fun y => y = G q ∧ inb y = true)) := by
  have k := tx_cases h ha
  obtain ⟨h1, h2, h3⟩ := h
  clear h3 ha
  unfold E_Tape_takeIndicator
  rw [tp4, tp5, tp6, tp3, tp_2, h1, h2, tp_p4, tp_p6]
  unfold pP
  rcases k with ⟨k1, k2, k3, k4, k5, k6, k7, k8, k9⟩ | ⟨k1, k2, k3, k4, k5, k6, k7, k8⟩ | ⟨k1, k2, k3, k4, k5, k6, k7⟩
  · clear k9
    rw [if_neg (by omega : ¬ q < 0)]
    by_cases c : inb (G q) = true
    · rw [if_pos c]
      have c0 := c
      rw [inb_iff] at c
      obtain ⟨k8a, k8b⟩ : G q = S.1 2 a.toNat ∧ 0 ≤ S.1 2 a.toNat := by omega
      rw [k8a] at c
      rw [k8a] at c0
      clear k8
      rcases c with c | c
      all_goals repeat' (first | with_reducible refine ok_nb (by omega) ?_ | with_reducible refine ok_ib (by omega) ?_ | with_reducible refine ok_t (by omega) ?_ | with_reducible refine ok_e (by omega) ?_ | with_reducible refine ok_if (fun h => ?_) (fun h => ?_) | with_reducible refine ok_s ?_ | with_reducible refine ok_b ?_)
      all_goals first | (exfalso; omega) | exact ⟨_, _, rfl, ⟨by omega, by omega, Or.inl ⟨by omega, by omega⟩⟩, fun _ => ⟨by omega, c0⟩⟩
    · rw [if_neg c]
      rw [inb_iff] at c
      have c8 : ¬ (S.1 2 a.toNat = 32 ∨ (48 ≤ S.1 2 a.toNat ∧ S.1 2 a.toNat ≤ 57)) := by omega
      clear k8 c
      repeat' (first | with_reducible refine ok_nb (by omega) ?_ | with_reducible refine ok_ib (by omega) ?_ | with_reducible refine ok_t (by omega) ?_ | with_reducible refine ok_e (by omega) ?_ | with_reducible refine ok_if (fun h => ?_) (fun h => ?_) | with_reducible refine ok_s ?_ | with_reducible refine ok_b ?_)
      all_goals first | (exfalso; omega) | exact ⟨_, _, rfl, ⟨by omega, by omega, Or.inr ⟨by omega, by omega⟩⟩, fun z => by (exfalso; omega)⟩
  · have c : ¬ inb (G q) = true := by
      rw [inb_iff]
      omega
    rw [if_neg (by omega : ¬ q < 0), if_neg c]
    repeat' (first | with_reducible refine ok_nb (by omega) ?_ | with_reducible refine ok_ib (by omega) ?_ | with_reducible refine ok_t (by omega) ?_ | with_reducible refine ok_e (by omega) ?_ | with_reducible refine ok_if (fun h => ?_) (fun h => ?_) | with_reducible refine ok_s ?_ | with_reducible refine ok_b ?_)
    all_goals first | (exfalso; omega) | exact ⟨_, _, rfl, ⟨by omega, by omega, Or.inr ⟨by omega, by omega⟩⟩, fun z => by (exfalso; omega)⟩
  · rw [if_pos (by omega : q < 0)]
    clear k7
    repeat' (first | with_reducible refine ok_nb (by omega) ?_ | with_reducible refine ok_ib (by omega) ?_ | with_reducible refine ok_t (by omega) ?_ | with_reducible refine ok_e (by omega) ?_ | with_reducible refine ok_if (fun h => ?_) (fun h => ?_) | with_reducible refine ok_s ?_ | with_reducible refine ok_b ?_)
    all_goals first | (exfalso; omega) | exact ⟨_, _, rfl, ⟨by omega, by omega, Or.inr ⟨by omega, by omega⟩⟩, fun z => by (exfalso; omega)⟩
end
section
-- bh
def wT (G : Int → Int) (lo p w : Int) (n : Nat) : Int := if w ≠ -1 then w else if n < 3 then p + n else if vl G p n < lo then p else -1
theorem l_tag {e : w_E} {N : Nat} {S : w_S} {f len lo w p : Int} {G : Int → Int} (h : TX S f len G) (h0 : 0 ≤ p) : ∀ (k i nf : Nat), i + k = 3 → k < nf → p + i ≤ len → (∀ j : Nat, j < i → dgt (G (p + j)) = true) → El_Tape_takeTag e N nf 0 [lo, f + p, vl G p i] [] (tp S (f + p + i) w) = some (vl G p (i + nd G k (p + i)), tp S (f + p + (i + nd G k (p + i) : Nat)) (wT G lo p w (i + nd G k (p + i))))
  | k, i, nf + 1, h1, h2, hl, hd => by
    have hh := h
    obtain ⟨g1, g2, g3, g4, g5, g6, g7⟩ := hh
    have ta := tx_at h (p := p + i) (by omega)
    rw [show f + (p + (i : Int)) = f + p + i by omega] at ta
    have vb := vl_b i hd
    clear g7
    by_cases c : k ≠ 0 ∧ dgt (G (p + i)) = true
    · obtain ⟨k', rfl⟩ : ∃ c, k = c + 1 := ⟨k - 1, by omega⟩
      have c2 := c.2
      unfold dgt at c2
      simp only [Bool.and_eq_true, decide_eq_true_eq] at c2
      have tl : p + i < len := by
        by_cases z : p + i < len
        · exact z
        · have := ta.2 (by omega)
          omega
      have tb := ta.1 tl
      have tc : G (p + i) = S.1 2 (f + p + i).toNat := by omega
      have ih := l_tag (e := e) (N := N) (lo := lo) (w := w) h h0 k' (i + 1) nf (by omega) (by omega) (by omega) (fun j hj => by
        by_cases ej : j = i
        · rw [ej]; exact c.2
        · exact hd j (by omega))
      rw [nd, if_pos c.2]
      rw [tc] at c2
      rw [vl, if_pos (by omega), tc] at ih
      rw [show i + 1 + nd G k' (p + ((i + 1 : Nat) : Int)) = i + (nd G k' (p + i + 1) + 1) by rw [show p + ((i + 1 : Nat) : Int) = p + i + 1 by omega]; omega] at ih
      rw [show f + p + ((i + 1 : Nat) : Int) = f + p + i + 1 by omega] at ih
      refine ok_eq ?_
      rw [El_Tape_takeTag, tp4, tp5, tp3, tp6, tp_2, g2, tp_p4]
      clear ta tb c hd g1 g2
      refine ok_e (by omega) (ok_nb (by omega) (ok_e (by omega) (ok_ib (by omega) (ok_e (by omega) (ok_e (by omega) (ok_nb (by omega) (ok_nb (by omega) (ok_nb (by omega) (ok_nb (by omega) ?_)))))))))
      exact ok_of ih ⟨rfl, rfl⟩
    · have n0 : nd G k (p + i) = 0 := by
        cases k with
        | zero => rfl
        | succ k' =>
          rw [nd, if_neg (fun z => c ⟨by omega, z⟩)]
      rw [n0, show i + 0 = i from rfl]
      have kx : f + len ≤ f + p + i ∨ (f + p + i < f + len ∧ 3 ≤ i) ∨ (f + p + i < f + len ∧ i < 3 ∧ S.1 2 (f + p + i).toNat < 48) ∨ (f + p + i < f + len ∧ i < 3 ∧ 57 < S.1 2 (f + p + i).toNat) := by
        by_cases tl : p + i < len
        · by_cases k0 : k = 0
          · right
            left
            omega
          · have c2 : ¬ dgt (G (p + i)) = true := fun z => c ⟨k0, z⟩
            unfold dgt at c2
            simp only [Bool.and_eq_true, decide_eq_true_eq] at c2
            have := ta.1 (by omega)
            omega
        · left
          omega
      have i3 : i ≤ 3 := by omega
      refine ok_eq ?_
      rw [El_Tape_takeTag, tp4, tp5, tp3, tp6, tp_2, g1, g2, tp_p6, tp_p6, show f + p + i - (f + p) = i by omega, show f + p + i - f = p + i by omega, show f + p - f = p by omega]
      clear ta c hd g1 g2 h
      by_cases w0 : w ≠ -1
      · have hW : wT G lo p w i = w := if_pos w0
        rw [hW]
        clear hW
        rcases kx with kx | kx | kx | kx
        all_goals repeat' (first | with_reducible refine ok_nb (by omega) ?_ | with_reducible refine ok_ib (by omega) ?_ | with_reducible refine ok_t (by omega) ?_ | with_reducible refine ok_e (by omega) ?_ | with_reducible refine ok_if (fun h => ?_) (fun h => ?_) | with_reducible refine ok_s ?_ | with_reducible refine ok_b ?_)
        all_goals first | exact ⟨rfl, rfl⟩ | (exfalso; omega)
      · have w1 : w = -1 := by omega
        by_cases i0 : i < 3
        · have hW : wT G lo p w i = p + i := by
            unfold wT
            rw [if_neg w0, if_pos i0]
          rw [hW]
          clear hW
          rcases kx with kx | kx | kx | kx
          all_goals repeat' (first | with_reducible refine ok_nb (by omega) ?_ | with_reducible refine ok_ib (by omega) ?_ | with_reducible refine ok_t (by omega) ?_ | with_reducible refine ok_e (by omega) ?_ | with_reducible refine ok_if (fun h => ?_) (fun h => ?_) | with_reducible refine ok_s ?_ | with_reducible refine ok_b ?_)
          all_goals first | exact ⟨rfl, rfl⟩ | (exfalso; omega)
        · by_cases v0 : vl G p i < lo
          · have hW : wT G lo p w i = p := by
              unfold wT
              rw [if_neg w0, if_neg i0, if_pos v0]
            rw [hW]
            clear hW
            rcases kx with kx | kx | kx | kx
            all_goals repeat' (first | with_reducible refine ok_nb (by omega) ?_ | with_reducible refine ok_ib (by omega) ?_ | with_reducible refine ok_t (by omega) ?_ | with_reducible refine ok_e (by omega) ?_ | with_reducible refine ok_if (fun h => ?_) (fun h => ?_) | with_reducible refine ok_s ?_ | with_reducible refine ok_b ?_)
            all_goals first | exact ⟨rfl, rfl⟩ | (exfalso; omega)
          · have hW : wT G lo p w i = w := by
              unfold wT
              rw [if_neg w0, if_neg i0, if_neg v0, w1]
            rw [hW]
            clear hW
            rcases kx with kx | kx | kx | kx
            all_goals repeat' (first | with_reducible refine ok_nb (by omega) ?_ | with_reducible refine ok_ib (by omega) ?_ | with_reducible refine ok_t (by omega) ?_ | with_reducible refine ok_e (by omega) ?_ | with_reducible refine ok_if (fun h => ?_) (fun h => ?_) | with_reducible refine ok_s ?_ | with_reducible refine ok_b ?_)
            all_goals first | exact ⟨rfl, rfl⟩ | (exfalso; omega)
def pT (G : Int → Int) (lo q : Int) : Int := if q < 0 then q else if nd G 3 q < 3 then -1 - (q + (nd G 3 q : Nat)) else if vl G q 3 < lo then -1 - q else q + 3
theorem nd_nw (G : Int → Int) : ∀ (k : Nat) (p : Int), nd G k p = nw dgt G k p
  | 0, _ => rfl
  | k + 1, p => by rw [nd, nw, nd_nw G k (p + 1)]
theorem x_takeTag {e : w_E} {N : Nat} {S : w_S} {f len a w q lo : Int} {G : Int → Int} (hN : 2001 ≤ N) (h : TX S f len G) (ha : At f len a w q) : Ok (E_Tape_takeTag e N lo (tp S a w)) (Tk S f len (pT G lo q) (fun y => y = vl G q 3 ∧ lo ≤ y)) := by
  obtain ⟨a1, a2, a3⟩ := ha
  have hh := h
  obtain ⟨g1, g2, g3, g4, g5, g6, g7⟩ := hh
  clear g7
  have z := l_tag (e := e) (N := N) (lo := lo) (w := w) h (p := a - f) (by omega) 3 0 N (by omega) (by omega) (by omega) (fun j hj => by omega)
  have n1 := nd_le G 3 (a - f)
  rw [vl, show ((0 : Nat) : Int) = 0 from rfl, show f + (a - f) + 0 = a by omega, show f + (a - f) = a by omega, show a - f + 0 = a - f by omega, show 0 + nd G 3 (a - f) = nd G 3 (a - f) by omega] at z
  have bnd : a - f + (nd G 3 (a - f) : Nat) ≤ len := by
    rw [nd_nw]
    exact nw_len (P := dgt) (G := G) (len := len) (fun p hp => by
      rw [(tx_at h (p := p) (by omega)).2 hp]
      decide) 3 (a - f) (by omega)
  unfold E_Tape_takeTag
  rw [tp4]
  refine ok_of z ?_
  rcases a3 with ⟨b1, b2⟩ | ⟨b1, b2⟩
  · have eq : a - f = q := by omega
    rw [eq] at n1 bnd ⊢
    have w0 : ¬ (w ≠ -1) := by omega
    by_cases B : nd G 3 q < 3
    · have hw : wT G lo q w (nd G 3 q) = q + (nd G 3 q : Nat) := by
        unfold wT
        rw [if_neg w0, if_pos B]
      rw [hw]
      refine ⟨_, _, rfl, ⟨by omega, by omega, Or.inr ⟨by omega, ?_⟩⟩, fun z => by (exfalso; omega)⟩
      unfold pT
      rw [if_neg (by omega), if_pos B]
    · have n3 : nd G 3 q = 3 := by omega
      rw [n3] at bnd ⊢
      by_cases v0 : vl G q 3 < lo
      · have hw : wT G lo q w 3 = q := by
          unfold wT
          rw [if_neg w0, if_neg (by omega), if_pos v0]
        rw [hw]
        refine ⟨_, _, rfl, ⟨by omega, by omega, Or.inr ⟨by omega, ?_⟩⟩, fun z => by (exfalso; omega)⟩
        unfold pT
        rw [if_neg (by omega), if_neg B, if_pos v0]
      · have hw : wT G lo q w 3 = -1 := by
          unfold wT
          rw [if_neg w0, if_neg (by omega), if_neg v0]
        rw [hw]
        refine ⟨_, _, rfl, ⟨by omega, by omega, Or.inl ⟨rfl, ?_⟩⟩, fun _ => ⟨rfl, by omega⟩⟩
        unfold pT
        rw [if_neg (by omega), if_neg B, if_neg v0]
        omega
  · have hw : wT G lo (a - f) w (nd G 3 (a - f)) = w := if_pos (by omega)
    rw [hw]
    refine ⟨_, _, rfl, ⟨by omega, by omega, Or.inr ⟨b1, ?_⟩⟩, fun z => by (exfalso; omega)⟩
    unfold pT
    rw [if_pos (by omega)]
    exact b2
end
