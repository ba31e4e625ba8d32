section
-- b4
theorem l_rin {e : w_E} {N : Nat} {R : w_S} {x1 day serial issue x5 : Int} {P : Int → w_S → Prop} {m sn : Nat} {n p : Nat → Nat} {D : Nat → Nat → Int} {C : Nat → Nat → Bool} (hN : 1000 ≤ N) (hS : SerR R sn n D C) (hp : ∀ s, 1 ≤ s → s ≤ sn → p s ≤ n s) (hi : ∀ s, 1 ≤ s → s ≤ sn → ∀ k, k < n s → C s k = true → (bhd (D s k) s k day serial issue ↔ p s ≤ k)) : ∀ (k j nf : Nat), j + k = sn → m + k ≤ nf → (∀ n', m ≤ n' → Ok (El_R_claim e N n' 1 [x1, day, serial, issue, x5, if bst D n (fun s => nxc (C s) (n s) (p s)) sn = 0 then -1 else ((bst D n (fun s => nxc (C s) (n s) (p s)) sn : Nat) : Int), if bst D n (fun s => nxc (C s) (n s) (p s)) sn = 0 then 0 else ((nxc (C (bst D n (fun s => nxc (C s) (n s) (p s)) sn)) (n (bst D n (fun s => nxc (C s) (n s) (p s)) sn)) (p (bst D n (fun s => nxc (C s) (n s) (p s)) sn)) : Nat) : Int), (sn : Int) + 1] [] R) P) → Ok (El_R_claim e N nf 1 [x1, day, serial, issue, x5, if bst D n (fun s => nxc (C s) (n s) (p s)) j = 0 then -1 else ((bst D n (fun s => nxc (C s) (n s) (p s)) j : Nat) : Int), if bst D n (fun s => nxc (C s) (n s) (p s)) j = 0 then 0 else ((nxc (C (bst D n (fun s => nxc (C s) (n s) (p s)) j)) (n (bst D n (fun s => nxc (C s) (n s) (p s)) j)) (p (bst D n (fun s => nxc (C s) (n s) (p s)) j)) : Nat) : Int), (j : Int) + 1] [] R) P
  | 0, j, nf, h1, h2, hk => by
    have ej : j = sn := by omega
    subst ej
    exact hk nf (by omega)
  | k + 1, j, nf + 1, h1, h2, hk => by
    have ihh := l_rin (e := e) (N := N) (x1 := x1) (day := day) (serial := serial) (issue := issue) (x5 := x5) (P := P) (m := m) hN hS hp hi k (j + 1) nf (by omega) (by omega) hk
    have hS0 := hS
    obtain ⟨a1, a2, a3⟩ := hS0
    obtain ⟨b1, b2, b3, b4⟩ := a3 (j + 1) (by omega) (by omega)
    obtain ⟨g1, g2, g3, g4⟩ := nxc_sp (C := C (j + 1)) (hp (j + 1) (by omega) (by omega))
    have kg := x_nextClaim (e := e) (N := N) (s := j + 1) (p := p (j + 1)) (day := day) (serial := serial) (issue := issue) hN hS (by omega) (by omega) (hp _ (by omega) (by omega)) (hi _ (by omega) (by omega))
    obtain ⟨t1, t2, t3⟩ := bst_sp D n (fun s => nxc (C s) (n s) (p s)) j
    have ej : (j : Int) + 1 = ((j + 1 : Nat) : Int) := by omega
    rw [ej, El_R_claim, a1]
    by_cases c1 : nxc (C (j + 1)) (n (j + 1)) (p (j + 1)) < n (j + 1)
    · obtain ⟨w1, w2, w3, w4⟩ := b3 _ c1
      rw [if_pos c1] at kg
      by_cases c2 : bst D n (fun s => nxc (C s) (n s) (p s)) j = 0
      · have eb : bst D n (fun s => nxc (C s) (n s) (p s)) (j + 1) = j + 1 := by
          rw [bst]
          exact if_pos ⟨c1, Or.inl c2⟩
        have e0 : ¬ (j + 1 = 0) := by omega
        rw [eb, if_neg e0, if_neg e0] at ihh
        rw [if_pos c2, if_pos c2]
        clear t3 t2 hk g4 g3 b4 b3 a3 hp hi w4
        repeat' (first | (with_reducible refine ok_of kg ?_; dsimp only) | with_reducible refine ok_t trivial ?_ | with_reducible refine ok_nb (by omega) ?_ | with_reducible refine ok_ib (by omega) ?_ | with_reducible refine ok_t (by omega) ?_ | with_reducible refine ok_e (by omega) ?_ | with_reducible refine ok_if (fun h => ?_) (fun h => ?_) | with_reducible refine ok_s ?_ | with_reducible refine ok_b ?_)
        exact ihh
      · have d1 := t2 c2
        obtain ⟨x1', x2', x3', x4'⟩ := a3 (bst D n (fun s => nxc (C s) (n s) (p s)) j) (by omega) (by omega)
        obtain ⟨y1, y2, y3, y4⟩ := x3' _ d1
        rw [if_neg c2, if_neg c2]
        have e0 : ¬ (j + 1 = 0) := by omega
        have eb := bst.eq_2 D n (fun s => nxc (C s) (n s) (p s)) j
        clear t3 t2 hk g4 g3 b4 b3 a3 hp hi x3' x4' w4 y4
        generalize bst D n (fun s => nxc (C s) (n s) (p s)) (j + 1) = bb at *
        generalize bst D n (fun s => nxc (C s) (n s) (p s)) j = b at *
        generalize hq : nxc (C (j + 1)) (n (j + 1)) (p (j + 1)) = q at *
        generalize hqb : nxc (C b) (n b) (p b) = qb at *
        have e1 : (300 * ((j + 1 : Nat) : Int) + (q : Int)).toNat = 300 * (j + 1) + q := by omega
        have e2 : (300 * (b : Int) + (qb : Int)).toNat = 300 * b + qb := by omega
        by_cases c3 : D (j + 1) q < D b qb
        · rw [if_pos ⟨c1, Or.inr c3⟩] at eb
          rw [eb, if_neg e0, if_neg e0] at ihh
          (try rw [hq] at ihh)
          repeat' (first | (with_reducible refine ok_of kg ?_; dsimp only; rw [e1, e2, w1, y1]) | with_reducible refine ok_nb (by omega) ?_ | with_reducible refine ok_ib (by omega) ?_ | with_reducible refine ok_t (by omega) ?_ | with_reducible refine ok_e (by omega) ?_ | with_reducible refine ok_if (fun h => ?_) (fun h => ?_) | with_reducible refine ok_s ?_ | with_reducible refine ok_b ?_)
          exact ihh
        · rw [if_neg (by omega)] at eb
          rw [eb, if_neg c2, if_neg c2] at ihh
          (try rw [hqb] at ihh)
          repeat' (first | (with_reducible refine ok_of kg ?_; dsimp only; rw [e1, e2, w1, y1]) | with_reducible refine ok_nb (by omega) ?_ | with_reducible refine ok_ib (by omega) ?_ | with_reducible refine ok_t (by omega) ?_ | with_reducible refine ok_e (by omega) ?_ | with_reducible refine ok_if (fun h => ?_) (fun h => ?_) | with_reducible refine ok_s ?_ | with_reducible refine ok_b ?_)
          exact ihh
    · have eb : bst D n (fun s => nxc (C s) (n s) (p s)) (j + 1) = bst D n (fun s => nxc (C s) (n s) (p s)) j := by
        rw [bst]
        exact if_neg (fun z => c1 z.1)
      rw [eb] at ihh
      rw [if_neg c1] at kg
      clear t3 t2 hk g4 g3 b4 b3 a3 hp hi
      repeat' (first | (with_reducible refine ok_of kg ?_; dsimp only) | with_reducible refine ok_t trivial ?_ | with_reducible refine ok_nb (by omega) ?_ | with_reducible refine ok_ib (by omega) ?_ | with_reducible refine ok_t (by omega) ?_ | with_reducible refine ok_e (by omega) ?_ | with_reducible refine ok_if (fun h => ?_) (fun h => ?_) | with_reducible refine ok_s ?_ | with_reducible refine ok_b ?_)
      exact ihh
  | k + 1, j, 0, h1, h2, hk => by omega
end
section
-- b5
def smn (p : Nat → Nat) : Nat → Nat
  | 0 => 0
  | j + 1 => smn p j + p (j + 1)
theorem smn_le {p q : Nat → Nat} : ∀ j, (∀ s, 1 ≤ s → s ≤ j → p s ≤ q s) → smn p j ≤ smn q j
  | 0, _ => Nat.le_refl _
  | j + 1, h => by
    have := smn_le j (fun s h1 h2 => h s h1 (by omega))
    have := h (j + 1) (by omega) (by omega)
    rw [smn, smn]
    omega
theorem smn_lt {p q : Nat → Nat} {f : Nat} : ∀ j, (∀ s, 1 ≤ s → s ≤ j → p s ≤ q s) → 1 ≤ f → f ≤ j → p f < q f → smn p j + 1 ≤ smn q j
  | 0, _, h1, h2, _ => by omega
  | j + 1, h, h1, h2, h3 => by
    rw [smn, smn]
    by_cases e : f = j + 1
    · have := smn_le j (fun s h1 h2 => h s h1 (by omega))
      rw [e] at h3
      omega
    · have := smn_lt j (fun s h1 h2 => h s h1 (by omega)) h1 (by omega) h3
      have := h (j + 1) (by omega) (by omega)
      omega
theorem smn_b {p : Nat → Nat} : ∀ j, (∀ s, 1 ≤ s → s ≤ j → p s ≤ 300) → smn p j ≤ 300 * j
  | 0, _ => Nat.le_refl _
  | j + 1, h => by
    have := smn_b j (fun s h1 h2 => h s h1 (by omega))
    have := h (j + 1) (by omega) (by omega)
    rw [smn]
    omega
theorem inv_step {sn : Nat} {n p : Nat → Nat} {D : Nat → Nat → Int} {C : Nat → Nat → Bool} {day serial issue : Int} {f : Nat} (hm : ∀ s, 1 ≤ s → s ≤ sn → ∀ i j, i < j → j < n s → D s i < D s j) (hp : ∀ s, 1 ≤ s → s ≤ sn → p s ≤ n s) (hi : ∀ s, 1 ≤ s → s ≤ sn → ∀ k, k < n s → C s k = true → (bhd (D s k) s k day serial issue ↔ p s ≤ k)) (hf : f = bst D n (fun s => nxc (C s) (n s) (p s)) sn) (h0 : f ≠ 0) : ∀ s, 1 ≤ s → s ≤ sn → ∀ k, k < n s → C s k = true → (bhd (D s k) s k (D f (nxc (C f) (n f) (p f))) f (nxc (C f) (n f) (p f) : Nat) ↔ (if s = f then nxc (C f) (n f) (p f) + 1 else nxc (C s) (n s) (p s)) ≤ k) := by
  intro s s1 s2 k k1 k2
  obtain ⟨t1, t2, t3⟩ := bst_sp D n (fun s => nxc (C s) (n s) (p s)) sn
  rw [← hf] at t1 t2 t3
  have d1 := t2 h0
  obtain ⟨g1, g2, g3, g4⟩ := nxc_sp (C := C f) (hp f (by omega) t1)
  have F1 := (hi f (by omega) t1 _ d1 (g3 d1)).mpr g1
  obtain ⟨u1, u2, u3, u4⟩ := nxc_sp (C := C s) (hp s s1 s2)
  by_cases es : s = f
  · rw [if_pos es]
    subst es
    have m1 := hm s s1 s2 k (nxc (C s) (n s) (p s))
    have m2 := hm s s1 s2 (nxc (C s) (n s) (p s)) k
    clear t3 hi hm hp u4 u3 g4 g3 hf F1
    unfold bhd
    by_cases l1 : k < nxc (C s) (n s) (p s)
    · have := m1 l1 d1
      clear m1 m2
      constructor <;> intro hh <;> omega
    · by_cases l2 : k = nxc (C s) (n s) (p s)
      · clear m1 m2
        rw [← l2]
        constructor <;> intro hh <;> omega
      · have := m2 (by omega) k1
        clear m1 m2
        constructor <;> intro hh <;> omega
  · rw [if_neg es]
    by_cases l1 : nxc (C s) (n s) (p s) ≤ k
    · have v1 := (t3 s s1 s2 (by omega)).2
      have v2 : D s (nxc (C s) (n s) (p s)) ≤ D s k := by
        by_cases l2 : nxc (C s) (n s) (p s) = k
        · rw [l2]; omega
        · have := hm s s1 s2 (nxc (C s) (n s) (p s)) k (by omega) k1
          omega
      clear t3 hi hm hp u4 u3 g4 g3 hf F1
      unfold bhd
      constructor
      · intro _
        exact l1
      · intro _
        omega
    · have v1 : k < p s := by
        by_cases l2 : p s ≤ k
        · have := u4 k l2 (by omega)
          rw [k2] at this
          cases this
        · omega
      have v2 : ¬ bhd (D s k) s k day serial issue := fun z => by
        have := (hi s s1 s2 k k1 k2).mp z
        omega
      clear t3 hi hm hp u4 u3 g4 g3 hf
      unfold bhd at *
      constructor
      · intro hh
        exfalso
        omega
      · intro hh
        exact absurd hh l1
theorem len82 (S : w_S) : e_len Tc S 82 0 = some 21 := rfl
theorem any82 (S : w_S) : e_any Tc S 82 = some 21 := rfl
theorem frb82 : w_frb Tc B_Arrays_fill_82 82 = false := by decide +kernel
theorem l_fill82 {e : w_E} {N : Nat} {x : Int} : ∀ (k n : Nat) (i : Int) (S : w_S), k < n → 0 ≤ i → i + k = 21 → El_Arrays_fill_v1 e N n 0 [x, i, 21] [82] S = some (0, w_arr S 82 (fun j => if i.toNat ≤ j ∧ j < 21 then x else S.1 82 j))
  | 0, n + 1, i, S, h1, h2, h3 => by
    rw [El_Arrays_fill_v1, if_pos (by omega)]
    have : (fun j => if i.toNat ≤ j ∧ j < 21 then x else S.1 82 j) = S.1 82 := by
      funext j
      rw [if_neg (by omega)]
    rw [this, w_arr_self]
  | k + 1, n + 1, i, S, h1, h2, h3 => by
    refine ok_eq ?_
    rw [El_Arrays_fill_v1]
    repeat' (first | with_reducible refine ok_t frb82 ?_ | with_reducible refine okl (len82 _) ?_ | with_reducible refine ok_nb (by omega) ?_ | with_reducible refine ok_ib (by omega) ?_ | with_reducible refine ok_t (by omega) ?_ | with_reducible refine ok_e (by omega) ?_ | with_reducible refine ok_if (fun h => ?_) (fun h => ?_) | with_reducible refine ok_s ?_ | with_reducible refine ok_b ?_)
    refine ok_of (l_fill82 k n (i + 1) _ (by omega) (by omega) (by omega)) ⟨rfl, ?_⟩
    rw [w_put_pt, w_arr_arr]
    congr
    funext j
    rw [w_arr_r, if_pos rfl, pt_at]
    (repeat' split) <;> first | rfl | omega
theorem x_fill82 {e : w_E} {N : Nat} {x : Int} {S : w_S} (hN : 1000 ≤ N) : E_Arrays_fill_v1 e N x 82 S = some (0, w_arr S 82 (fun j => if j < 21 then x else S.1 82 j)) := by
  refine ok_eq ?_
  unfold E_Arrays_fill_v1
  repeat' (first | with_reducible refine okl (any82 _) ?_ | with_reducible refine ok_nb (by omega) ?_ | with_reducible refine ok_ib (by omega) ?_ | with_reducible refine ok_t (by omega) ?_ | with_reducible refine ok_e (by omega) ?_ | with_reducible refine ok_if (fun h => ?_) (fun h => ?_) | with_reducible refine ok_s ?_ | with_reducible refine ok_b ?_)
  have h := l_fill82 (e := e) (N := N) (x := x) 21 N 0 S (by omega) (by omega) (by omega)
  refine ok_of h ⟨rfl, ?_⟩
  congr
  funext j
  simp
end
section
-- b6
theorem l_cr {e : w_E} {N : Nat} {S : w_S} {x1 td : Int} {P : Int → w_S → Prop} {m sn a nc : Nat} {n p : Nat → Nat} {D : Nat → Nat → Int} {C : Nat → Nat → Bool} {f : Nat → Int} {b : Nat} (hN : 1000 ≤ N) (hS : SerC S td sn n D C) (hp : ∀ s, 1 ≤ s → s ≤ sn → p s ≤ n s) (hf : ∀ s, 1 ≤ s → s ≤ sn → f s = (p s : Int)) (ha : a ≤ 6000) (hn : m + sn + 2 ≤ nc) (hb : bst D n (fun s => nxc (C s) (n s) (p s)) sn = b) (k1 : b = 0 → ∀ g, P (-1) (w_arr S 82 g)) (k2 : x1 < 0 → ∀ g, P (-1) (w_arr S 82 g)) (k3 : 0 ≤ x1 → b ≠ 0 → (a : Int) = x1 → ∀ g, P (1000 * (b : Int) + ((nxc (C b) (n b) (p b) : Nat) : Int)) (w_arr S 82 g)) (k4 : 0 ≤ x1 → b ≠ 0 → (a : Int) ≠ x1 → ∀ g n', m ≤ n' → (∀ s, 1 ≤ s → s ≤ sn → g s = (((if s = b then nxc (C b) (n b) (p b) + 1 else nxc (C s) (n s) (p s)) : Nat) : Int)) → Ok (El_Buying_claimOfRank e N n' 0 [x1, td, ((a + 1 : Nat) : Int)] [] (w_arr S 82 g)) P) : Ok (El_Buying_claimOfRank e N nc 0 [x1, td, (a : Int)] [] (w_arr S 82 f)) P := by
  obtain ⟨c, rfl⟩ : ∃ c, nc = c + 1 := ⟨nc - 1, by omega⟩
  rw [El_Buying_claimOfRank]
  refine ok_e (by omega) ?_
  refine l_cin (m := m + 1) (n := n) (p := p) (D := D) (C := C) hN hS hp sn 0 c f (by omega) (by omega) (fun s s1 s2 => by rw [hf s s1 s2, if_neg (by omega)]) ?_
  intro n' g hn' hg
  obtain ⟨n'', rfl⟩ : ∃ c, n' = c + 1 := ⟨n' - 1, by omega⟩
  obtain ⟨t1, t2, t3⟩ := bst_sp D n (fun s => nxc (C s) (n s) (p s)) sn
  rw [hb] at t1 t2 ⊢
  obtain ⟨a1, a2, a3⟩ := hS
  have v76 : (w_arr S 82 g).1 76 0 = (sn : Int) := a1
  rw [El_Buying_claimOfRank, v76]
  have en : ∀ m : Nat, ((m : Int)).toNat = m := fun m => by omega
  have ea : (a : Int) + 1 = ((a + 1 : Nat) : Int) := by omega
  by_cases b0 : b = 0
  · have := k1 b0 g
    clear k1 k2 k3 k4 t2 t3 a3 hg hf hp
    repeat' (first | with_reducible refine ok_nb (by omega) ?_ | with_reducible refine ok_ib (by omega) ?_ | with_reducible refine ok_t (by omega) ?_ | with_reducible refine ok_e (by omega) ?_ | with_reducible refine ok_if (fun h => ?_) (fun h => ?_) | with_reducible refine ok_s ?_ | with_reducible refine ok_b ?_)
    exact this
  · have d1 := t2 b0
    have d2 := (a3 b (by omega) t1).2.1
    have v82 : (w_arr S 82 g).1 82 b = ((nxc (C b) (n b) (p b) : Nat) : Int) := hg b (by omega) t1
    by_cases x0 : x1 < 0
    · have := k2 x0 g
      clear k1 k2 k3 k4 t2 t3 a3 hg hf hp
      repeat' (first | with_reducible refine ok_nb (by omega) ?_ | with_reducible refine ok_ib (by omega) ?_ | with_reducible refine ok_t (by omega) ?_ | with_reducible refine ok_e (by omega) ?_ | with_reducible refine ok_if (fun h => ?_) (fun h => ?_) | with_reducible refine ok_s ?_ | with_reducible refine ok_b ?_)
      exact this
    · by_cases ex : (a : Int) = x1
      · have := k3 (by omega) b0 ex g
        clear k1 k2 k3 k4 t2 t3 a3 hg hf hp
        rw [en, v82]
        repeat' (first | with_reducible refine ok_nb (by omega) ?_ | with_reducible refine ok_ib (by omega) ?_ | with_reducible refine ok_t (by omega) ?_ | with_reducible refine ok_e (by omega) ?_ | with_reducible refine ok_if (fun h => ?_) (fun h => ?_) | with_reducible refine ok_s ?_ | with_reducible refine ok_b ?_)
        exact this
      · have := k4 (by omega) b0 ex (pt g b (((nxc (C b) (n b) (p b) : Nat) : Int) + 1)) n'' (by omega) (fun s s1 s2 => by
          rw [pt_at]
          by_cases es : s = b
          · rw [if_pos es, if_pos es]; omega
          · rw [if_neg es, if_neg es]; exact hg s s1 s2)
        clear k1 k2 k3 k4 t2 t3 a3 hg hf hp
        rw [en, v82, w_arr_put, ea]
        repeat' (first | with_reducible refine ok_nb (by omega) ?_ | with_reducible refine ok_ib (by omega) ?_ | with_reducible refine ok_t (by omega) ?_ | with_reducible refine ok_e (by omega) ?_ | with_reducible refine ok_if (fun h => ?_) (fun h => ?_) | with_reducible refine ok_s ?_ | with_reducible refine ok_b ?_)
        exact this
theorem l_rr {e : w_E} {N : Nat} {R : w_S} {x1 day serial issue : Int} {P : Int → w_S → Prop} {m sn a nr : Nat} {n p : Nat → Nat} {D : Nat → Nat → Int} {C : Nat → Nat → Bool} {b : Nat} (hN : 1000 ≤ N) (hS : SerR R sn n D C) (hp : ∀ s, 1 ≤ s → s ≤ sn → p s ≤ n s) (hi : ∀ s, 1 ≤ s → s ≤ sn → ∀ k, k < n s → C s k = true → (bhd (D s k) s k day serial issue ↔ p s ≤ k)) (ha : a ≤ 6000) (hx : (a : Int) ≤ x1) (hn : m + sn + 2 ≤ nr) (hb : bst D n (fun s => nxc (C s) (n s) (p s)) sn = b) (k1 : b = 0 → P (-1) R) (k2 : b ≠ 0 → ∀ n', m ≤ n' → Ok (El_R_claim e N n' 0 [x1, D b (nxc (C b) (n b) (p b)), (b : Int), ((nxc (C b) (n b) (p b) : Nat) : Int), ((a + 1 : Nat) : Int)] [] R) P) : Ok (El_R_claim e N nr 0 [x1, day, serial, issue, (a : Int)] [] R) P := by
  obtain ⟨c, rfl⟩ : ∃ c, nr = c + 1 := ⟨nr - 1, by omega⟩
  rw [El_R_claim]
  refine ok_e (by omega) ?_
  refine l_rin (m := m + 1) (n := n) (p := p) (D := D) (C := C) hN hS hp hi sn 0 c (by omega) (by omega) ?_
  intro n' hn'
  obtain ⟨n'', rfl⟩ : ∃ c, n' = c + 1 := ⟨n' - 1, by omega⟩
  obtain ⟨t1, t2, t3⟩ := bst_sp D n (fun s => nxc (C s) (n s) (p s)) sn
  rw [hb] at t1 t2 ⊢
  obtain ⟨a1, a2, a3⟩ := hS
  rw [El_R_claim, a1]
  have ea : (a : Int) + 1 = ((a + 1 : Nat) : Int) := by omega
  by_cases b0 : b = 0
  · have := k1 b0
    rw [if_pos b0, if_pos b0]
    clear k1 k2 t2 t3 a3 hp hi
    repeat' (first | with_reducible refine ok_nb (by omega) ?_ | with_reducible refine ok_ib (by omega) ?_ | with_reducible refine ok_t (by omega) ?_ | with_reducible refine ok_e (by omega) ?_ | with_reducible refine ok_if (fun h => ?_) (fun h => ?_) | with_reducible refine ok_s ?_ | with_reducible refine ok_b ?_)
    exact this
  · have d1 := t2 b0
    obtain ⟨x1', x2', x3', x4'⟩ := a3 b (by omega) t1
    have y1 := (x3' _ d1).1
    have e2 : (300 * (b : Int) + ((nxc (C b) (n b) (p b) : Nat) : Int)).toNat = 300 * b + nxc (C b) (n b) (p b) := by omega
    have := k2 b0 n'' (by omega)
    rw [if_neg b0, if_neg b0, e2, y1, ea]
    clear k1 k2 t2 t3 a3 hp hi x3' x4' y1
    repeat' (first | with_reducible refine ok_nb (by omega) ?_ | with_reducible refine ok_ib (by omega) ?_ | with_reducible refine ok_t (by omega) ?_ | with_reducible refine ok_e (by omega) ?_ | with_reducible refine ok_if (fun h => ?_) (fun h => ?_) | with_reducible refine ok_s ?_ | with_reducible refine ok_b ?_)
    exact this
end
section
-- b7
theorem l_out {e : w_E} {N : Nat} {S R : w_S} {x1 td : Int} {sn : Nat} {n : Nat → Nat} {D : Nat → Nat → Int} {C : Nat → Nat → Bool} (hN : 1000 ≤ N) (hC : SerC S td sn n D C) (hR : SerR R sn n D C) (hx : 0 ≤ x1) : ∀ (k a nc : Nat) (p : Nat → Nat) (f : Nat → Int) (day serial issue : Int), a + k = 6001 → (a : Int) ≤ x1 → 22 * (k + 1) ≤ nc → a ≤ smn p sn → (∀ s, 1 ≤ s → s ≤ sn → p s ≤ n s) → (∀ s, 1 ≤ s → s ≤ sn → f s = (p s : Int)) → (∀ s, 1 ≤ s → s ≤ sn → ∀ k, k < n s → C s k = true → (bhd (D s k) s k day serial issue ↔ p s ≤ k)) → Ok (El_Buying_claimOfRank e N nc 0 [x1, td, (a : Int)] [] (w_arr S 82 f)) (fun y S1 => ∀ nr, 22 * (k + 1) ≤ nr → Ok (El_R_claim e N nr 0 [x1, day, serial, issue, (a : Int)] [] R) (fun y' R1 => y' = y ∧ (∃ g, S1 = w_arr S 82 g) ∧ R1 = R))
  | 0, a, nc, p, f, day, serial, issue, h1, h2, h3, h5, hp, hf, hi => by
    exfalso
    have a3 := hC.2.2
    have a2 := hC.2.1
    have := smn_b (p := p) sn (fun s s1 s2 => by
      have q1 := hp s s1 s2
      have q2 := (a3 s s1 s2).2.1
      omega)
    omega
  | k + 1, a, nc, p, f, day, serial, issue, h1, h2, h3, h5, hp, hf, hi => by
    have a2 := hC.2.1
    generalize hb : bst D n (fun s => nxc (C s) (n s) (p s)) sn = b
    obtain ⟨t1, t2, t3⟩ := bst_sp D n (fun s => nxc (C s) (n s) (p s)) sn
    rw [hb] at t1 t2
    refine l_cr (m := 22 * (k + 1)) hN hC hp hf (by omega) (by omega) hb ?_ ?_ ?_ ?_
    · intro b0 g nr h4
      exact l_rr (m := 22 * (k + 1)) hN hR hp hi (by omega) h2 (by omega) hb (fun _ => ⟨rfl, ⟨g, rfl⟩, rfl⟩) (fun z => absurd b0 z)
    · intro z
      omega
    · intro _ b0 ex g nr h4
      refine l_rr (m := 22 * (k + 1)) hN hR hp hi (by omega) h2 (by omega) hb (fun z => absurd z b0) (fun _ n' hn' => ?_)
      obtain ⟨n'', rfl⟩ : ∃ c, n' = c + 1 := ⟨n' - 1, by omega⟩
      have d1 := t2 b0
      have d2 := (hR.2.2 b (by omega) t1).2.1
      rw [El_R_claim]
      clear hf hp hi t2 t3 hC hR
      repeat' (first | with_reducible refine ok_nb (by omega) ?_ | with_reducible refine ok_ib (by omega) ?_ | with_reducible refine ok_t (by omega) ?_ | with_reducible refine ok_e (by omega) ?_ | with_reducible refine ok_if (fun h => ?_) (fun h => ?_) | with_reducible refine ok_s ?_ | with_reducible refine ok_b ?_)
      exact ⟨rfl, ⟨g, rfl⟩, rfl⟩
    · intro _ b0 ex g n1 hn1 hg
      refine (l_out (e := e) (N := N) hN hC hR hx k (a + 1) n1 (fun s => if s = b then nxc (C b) (n b) (p b) + 1 else nxc (C s) (n s) (p s)) g (D b (nxc (C b) (n b) (p b))) (b : Int) ((nxc (C b) (n b) (p b) : Nat) : Int) (by omega) (by omega) hn1 ?_ ?_ hg ?_).mono ?_
      · have := smn_lt (p := p) (q := fun s => if s = b then nxc (C b) (n b) (p b) + 1 else nxc (C s) (n s) (p s)) (f := b) sn (fun s s1 s2 => by
          have q1 := (nxc_sp (C := C s) (hp s s1 s2)).1
          split
          next es => rw [es] at q1 ⊢; omega
          next es => exact q1) (by omega) t1 (by
          have q1 := (nxc_sp (C := C b) (hp b (by omega) t1)).1
          rw [if_pos rfl]
          omega)
        omega
      · intro s s1 s2
        have q1 := (nxc_sp (C := C s) (hp s s1 s2)).2.1
        have d1 := t2 b0
        split
        next es => rw [es] at q1 ⊢; omega
        next es => exact q1
      · exact inv_step (fun s s1 s2 => (hC.2.2 s s1 s2).2.2.2) hp hi hb.symm b0
      · intro y S1 z nr h4
        exact l_rr (m := 22 * (k + 1)) hN hR hp hi (by omega) h2 (by omega) hb (fun z => absurd z b0) (fun _ n' hn' => z n' hn')
theorem q_claim {e : w_E} {N : Nat} {S R : w_S} {x1 : Int} (hN : 140000 ≤ N) (h : RelB S R) (ht : R.1 129 12 = S.1 27 1) : Ok (E_C_claim e N x1 S) (fun y S1 => Ok (E_R_claim e N x1 R) (fun y' R1 => y' = y ∧ (∃ g, S1 = w_arr S 82 g) ∧ R1 = R)) := by
  obtain ⟨h1, h2, h3, h4⟩ := h
  have hC : SerC S (S.1 27 1) (S.1 76 0).toNat (fun s => (S.1 79 s).toNat) (fun s i => S.1 80 (300 * s + i)) (cmb S (S.1 27 1)) := by
    refine ⟨by omega, by omega, fun s s1 s2 => ?_⟩
    obtain ⟨a1, a2, a3, a4, a5, a6, a7, a8, a9, a10, a11⟩ := h4 s s1 (by omega)
    refine ⟨by dsimp only; omega, by dsimp only; omega, fun i hi => ?_, fun i j hi hj => a11 i j hi (by dsimp only at hj; omega)⟩
    obtain ⟨c1, c2, c3, c4⟩ := a10 i (by dsimp only at hi; omega)
    exact ⟨rfl, c3, c4, rfl⟩
  have hR : SerR R (S.1 76 0).toNat (fun s => (S.1 79 s).toNat) (fun s i => S.1 80 (300 * s + i)) (cmb S (S.1 27 1)) := by
    refine ⟨by omega, by omega, fun s s1 s2 => ?_⟩
    obtain ⟨a1, a2, a3, a4, a5, a6, a7, a8, a9, a10, a11⟩ := h4 s s1 (by omega)
    refine ⟨by dsimp only; omega, by dsimp only; omega, fun i hi => ?_, fun i j hi hj => a11 i j hi (by dsimp only at hj; omega)⟩
    obtain ⟨c1, c2, c3, c4⟩ := a10 i (by dsimp only at hi; omega)
    refine ⟨c1, c3, c4, ?_⟩
    simp only [cmb, Bool.and_eq_true, decide_eq_true_eq]
    rw [c1, c2, ht]
  have hp0 : ∀ s, 1 ≤ s → s ≤ (S.1 76 0).toNat → 0 ≤ (S.1 79 s).toNat := fun s _ _ => Nat.zero_le _
  have hf0 : ∀ s, 1 ≤ s → s ≤ (S.1 76 0).toNat → (fun j => if j < 21 then 0 else S.1 82 j) s = ((0 : Nat) : Int) := fun s s1 s2 => by
    dsimp only
    rw [if_pos (by omega)]
    rfl
  unfold E_C_claim E_Buying_claimOfRank E_R_claim
  refine ok_b (ok_b (ok_of (x_fill82 (by omega)) ?_))
  dsimp only
  by_cases x0 : x1 < 0
  · refine l_cr (m := 0) (a := 0) (p := fun _ => 0) (b := _) (by omega) hC hp0 hf0 (by omega) (by omega) rfl ?_ ?_ ?_ ?_
    · intro _ g
      obtain ⟨n', rfl⟩ : ∃ c, N = c + 1 := ⟨N - 1, by omega⟩
      refine ok_s ?_
      rw [El_R_claim]
      clear h4 hC hR hp0 hf0
      repeat' (first | with_reducible refine ok_nb (by omega) ?_ | with_reducible refine ok_ib (by omega) ?_ | with_reducible refine ok_t (by omega) ?_ | with_reducible refine ok_e (by omega) ?_ | with_reducible refine ok_if (fun h => ?_) (fun h => ?_) | with_reducible refine ok_s ?_ | with_reducible refine ok_b ?_)
      exact ⟨rfl, ⟨g, rfl⟩, rfl⟩
    · intro _ g
      obtain ⟨n', rfl⟩ : ∃ c, N = c + 1 := ⟨N - 1, by omega⟩
      refine ok_s ?_
      rw [El_R_claim]
      clear h4 hC hR hp0 hf0
      repeat' (first | with_reducible refine ok_nb (by omega) ?_ | with_reducible refine ok_ib (by omega) ?_ | with_reducible refine ok_t (by omega) ?_ | with_reducible refine ok_e (by omega) ?_ | with_reducible refine ok_if (fun h => ?_) (fun h => ?_) | with_reducible refine ok_s ?_ | with_reducible refine ok_b ?_)
      exact ⟨rfl, ⟨g, rfl⟩, rfl⟩
    · intro z
      omega
    · intro z
      omega
  · refine (l_out (e := e) (N := N) (by omega) hC hR (by omega) 6001 0 N (fun _ => 0) _ (-1) 0 0 (by omega) (by omega) (by omega) (Nat.zero_le _) hp0 hf0 ?_).mono ?_
    · intro s s1 s2 k k1 k2
      obtain ⟨a1, a2, a3, a4, a5, a6, a7, a8, a9, a10, a11⟩ := h4 s s1 (by omega)
      obtain ⟨c1, c2, c3, c4⟩ := a10 k (by omega)
      unfold bhd
      constructor
      · intro _
        exact Nat.zero_le _
      · intro _
        omega
    · intro y S1 z
      exact ok_s (z N (by omega))
end
section
-- b8
def RelM (S R : w_S)  : Prop := R.1 129 7 = S.1 0 12 ∧ R.1 129 8 = S.1 0 13 ∧ R.1 129 9 = S.1 0 14 ∧ R.1 129 10 = S.1 0 15 ∧ R.1 129 11 = S.1 0 16 ∧ 0 ≤ S.1 0 12 ∧ S.1 0 12 ≤ 512 ∧ 0 ≤ S.1 0 13 ∧ S.1 0 13 ≤ 512 ∧ -1 ≤ S.1 0 16 ∧ S.1 0 16 ≤ 512
theorem RelM.fr {S R S1 R1 : w_S}  {L O L' O' : List Nat} {J J' : List (Nat × Nat)} (h : RelM S R ) (hf : frm L O J S S1) (hg : frm L' O' J' R R1) (dd : (ckA L O [] && (ckS L J [(0, 12), (0, 13), (0, 14), (0, 15), (0, 16)] && (ckA L' O' [] && ckS L' J' [(129, 7), (129, 8), (129, 9), (129, 10), (129, 11)]))) = true) : RelM S1 R1  := by
  have d := ck4 dd
  have b0 : S1.1 0 12 = S.1 0 12 := hf.2.2 0 12 (d.2.1 (0, 12) (by decide)).1 (d.2.1 (0, 12) (by decide)).2
  have b1 : S1.1 0 13 = S.1 0 13 := hf.2.2 0 13 (d.2.1 (0, 13) (by decide)).1 (d.2.1 (0, 13) (by decide)).2
  have b2 : S1.1 0 14 = S.1 0 14 := hf.2.2 0 14 (d.2.1 (0, 14) (by decide)).1 (d.2.1 (0, 14) (by decide)).2
  have b3 : S1.1 0 15 = S.1 0 15 := hf.2.2 0 15 (d.2.1 (0, 15) (by decide)).1 (d.2.1 (0, 15) (by decide)).2
  have b4 : S1.1 0 16 = S.1 0 16 := hf.2.2 0 16 (d.2.1 (0, 16) (by decide)).1 (d.2.1 (0, 16) (by decide)).2
  have k0 : R1.1 129 7 = R.1 129 7 := hg.2.2 129 7 (d.2.2.2 (129, 7) (by decide)).1 (d.2.2.2 (129, 7) (by decide)).2
  have k1 : R1.1 129 8 = R.1 129 8 := hg.2.2 129 8 (d.2.2.2 (129, 8) (by decide)).1 (d.2.2.2 (129, 8) (by decide)).2
  have k2 : R1.1 129 9 = R.1 129 9 := hg.2.2 129 9 (d.2.2.2 (129, 9) (by decide)).1 (d.2.2.2 (129, 9) (by decide)).2
  have k3 : R1.1 129 10 = R.1 129 10 := hg.2.2 129 10 (d.2.2.2 (129, 10) (by decide)).1 (d.2.2.2 (129, 10) (by decide)).2
  have k4 : R1.1 129 11 = R.1 129 11 := hg.2.2 129 11 (d.2.2.2 (129, 11) (by decide)).1 (d.2.2.2 (129, 11) (by decide)).2
  unfold RelM at h ⊢
  simp only [b0, b1, b2, b3, b4, k0, k1, k2, k3, k4]
  exact h
def RelX (S R : w_S)  : Prop := R.1 129 96 = S.1 27 2 ∧ (S.1 27 2 = 0 ∨ S.1 27 2 = 1)
theorem RelX.fr {S R S1 R1 : w_S}  {L O L' O' : List Nat} {J J' : List (Nat × Nat)} (h : RelX S R ) (hf : frm L O J S S1) (hg : frm L' O' J' R R1) (dd : (ckA L O [] && (ckS L J [(27, 2)] && (ckA L' O' [] && ckS L' J' [(129, 96)]))) = true) : RelX S1 R1  := by
  have d := ck4 dd
  have b0 : S1.1 27 2 = S.1 27 2 := hf.2.2 27 2 (d.2.1 (27, 2) (by decide)).1 (d.2.1 (27, 2) (by decide)).2
  have k0 : R1.1 129 96 = R.1 129 96 := hg.2.2 129 96 (d.2.2.2 (129, 96) (by decide)).1 (d.2.2.2 (129, 96) (by decide)).2
  unfold RelX at h ⊢
  simp only [b0, k0]
  exact h
def RelV (S R : w_S)  : Prop := ∀ k : Nat, 1 ≤ k → (k : Int) ≤ S.1 3 0 → R.1 135 k = S.1 6 k ∧ R.1 201 k = S.1 7 k ∧ (S.1 7 k = 0 ∨ S.1 7 k = 1)
theorem RelV.fr {S R S1 R1 : w_S}  {L O L' O' : List Nat} {J J' : List (Nat × Nat)} (h : RelV S R ) (hf : frm L O J S S1) (hg : frm L' O' J' R R1) (dd : (ckA L O [6, 7] && (ckS L J [(3, 0)] && (ckA L' O' [135, 201] && ckS L' J' []))) = true) : RelV S1 R1  := by
  have d := ck4 dd
  have a0 : S1.1 6 = S.1 6 := hf.2.1 6 (d.1 6 (by decide)).1 (d.1 6 (by decide)).2
  have a1 : S1.1 7 = S.1 7 := hf.2.1 7 (d.1 7 (by decide)).1 (d.1 7 (by decide)).2
  have b0 : S1.1 3 0 = S.1 3 0 := hf.2.2 3 0 (d.2.1 (3, 0) (by decide)).1 (d.2.1 (3, 0) (by decide)).2
  have g0 : R1.1 135 = R.1 135 := hg.2.1 135 (d.2.2.1 135 (by decide)).1 (d.2.2.1 135 (by decide)).2
  have g1 : R1.1 201 = R.1 201 := hg.2.1 201 (d.2.2.1 201 (by decide)).1 (d.2.2.1 201 (by decide)).2
  unfold RelV at h ⊢
  simp only [a0, a1, b0, g0, g1]
  exact h
def RelK (S R : w_S)  : Prop := ∀ t : Nat, 1 ≤ t → t ≤ 10 → R.1 232 t = S.1 115 t ∧ (S.1 115 t = 0 ∨ S.1 115 t = 1) ∧ (S.1 115 t ≠ 0 → R.1 233 t = S.1 116 t ∧ R.1 234 t = S.1 117 t ∧ R.1 235 t = S.1 118 t ∧ R.1 236 t = S.1 119 t)
theorem RelK.fr {S R S1 R1 : w_S}  {L O L' O' : List Nat} {J J' : List (Nat × Nat)} (h : RelK S R ) (hf : frm L O J S S1) (hg : frm L' O' J' R R1) (dd : (ckA L O [115, 116, 117, 118, 119] && (ckS L J [] && (ckA L' O' [232, 233, 234, 235, 236] && ckS L' J' []))) = true) : RelK S1 R1  := by
  have d := ck4 dd
  have a0 : S1.1 115 = S.1 115 := hf.2.1 115 (d.1 115 (by decide)).1 (d.1 115 (by decide)).2
  have a1 : S1.1 116 = S.1 116 := hf.2.1 116 (d.1 116 (by decide)).1 (d.1 116 (by decide)).2
  have a2 : S1.1 117 = S.1 117 := hf.2.1 117 (d.1 117 (by decide)).1 (d.1 117 (by decide)).2
  have a3 : S1.1 118 = S.1 118 := hf.2.1 118 (d.1 118 (by decide)).1 (d.1 118 (by decide)).2
  have a4 : S1.1 119 = S.1 119 := hf.2.1 119 (d.1 119 (by decide)).1 (d.1 119 (by decide)).2
  have g0 : R1.1 232 = R.1 232 := hg.2.1 232 (d.2.2.1 232 (by decide)).1 (d.2.2.1 232 (by decide)).2
  have g1 : R1.1 233 = R.1 233 := hg.2.1 233 (d.2.2.1 233 (by decide)).1 (d.2.2.1 233 (by decide)).2
  have g2 : R1.1 234 = R.1 234 := hg.2.1 234 (d.2.2.1 234 (by decide)).1 (d.2.2.1 234 (by decide)).2
  have g3 : R1.1 235 = R.1 235 := hg.2.1 235 (d.2.2.1 235 (by decide)).1 (d.2.2.1 235 (by decide)).2
  have g4 : R1.1 236 = R.1 236 := hg.2.1 236 (d.2.2.1 236 (by decide)).1 (d.2.2.1 236 (by decide)).2
  unfold RelK at h ⊢
  simp only [a0, a1, a2, a3, a4, g0, g1, g2, g3, g4]
  exact h
theorem q_sync {e : w_E} {N : Nat} {S R : w_S} (h : RelM S R) : Ok (E_C_sync e N S) (fun y S1 => Ok (E_R_sync e N R) (fun y' R1 => y' = y ∧ frm [] [0] [(0, 13), (0, 14), (0, 15)] S S1 ∧ frm [] [129] [(129, 8), (129, 9), (129, 10)] R R1 ∧ (S.1 0 16 ≤ S.1 0 12 → RelM S1 R1))) := by
  obtain ⟨h1, h2, h3, h4, h5, h6, h7, h8, h9, h10, h11⟩ := h
  unfold E_C_sync E_R_sync
  repeat' (first | with_reducible refine ok_nb (by omega) ?_ | with_reducible refine ok_ib (by omega) ?_ | with_reducible refine ok_t (by omega) ?_ | with_reducible refine ok_e (by omega) ?_ | with_reducible refine ok_if (fun h => ?_) (fun h => ?_) | with_reducible refine ok_s ?_ | with_reducible refine ok_b ?_)
  all_goals first | (exfalso; omega) | skip
  all_goals refine ⟨by omega, ?_, ?_, ?_⟩
  all_goals first | ((repeat (first | exact frm.refl _ _ _ _ | refine frm.put ?_ rfl | refine frm.puto ?_ rfl rfl | refine frm.arr ?_ rfl)); done) | skip
  all_goals (intro z; simp only [RelM, w_put_r, w_arr_r, reduceIte, Nat.reduceEqDiff, pt_at]; (repeat' apply And.intro) <;> first | trivial | rfl | omega)
theorem q_deed {e : w_E} {N : Nat} {S R : w_S} (h : RelM S R) : Ok (E_C_deed e N S) (fun y S1 => Ok (E_R_deed e N R) (fun y' R1 => y' = y ∧ frm [] [0] [(0, 16)] S S1 ∧ frm [] [129] [(129, 11)] R R1 ∧ RelM S1 R1)) := by
  have h0 := h
  obtain ⟨h1, h2, h3, h4, h5, h6, h7, h8, h9, h10, h11⟩ := h
  unfold E_C_deed E_R_deed
  repeat' (first | with_reducible refine ok_nb (by omega) ?_ | with_reducible refine ok_ib (by omega) ?_ | with_reducible refine ok_t (by omega) ?_ | with_reducible refine ok_e (by omega) ?_ | with_reducible refine ok_if (fun h => ?_) (fun h => ?_) | with_reducible refine ok_s ?_ | with_reducible refine ok_b ?_)
  all_goals first | (exfalso; omega) | skip
  all_goals first | exact ⟨rfl, frm.refl _ _ _ _, frm.refl _ _ _ _, h0⟩ | skip
  all_goals refine ⟨by omega, ?_, ?_, ?_⟩
  all_goals first | ((repeat (first | exact frm.refl _ _ _ _ | refine frm.put ?_ rfl | refine frm.puto ?_ rfl rfl | refine frm.arr ?_ rfl)); done) | skip
  all_goals (simp only [RelM, w_put_r, w_arr_r, reduceIte, Nat.reduceEqDiff, pt_at]; (repeat' apply And.intro) <;> first | trivial | rfl | omega)
theorem t_strict {e : w_E} {N : Nat} {S R : w_S} {x1 : Int} (h : RelX S R) (hx : x1 = 0 ∨ x1 = 1) : Ok (E_RuleBook_setStrict e N x1 S) (fun y S1 => Ok (E_R_doStrict e N x1 R) (fun y' R1 => Pa S R (fun _ S1 R1 => frm [] [27] [(27, 2)] S S1 ∧ frm [] [129] [(129, 96)] R R1 ∧ RelX S1 R1) y S1 y' R1)) := by
  obtain ⟨h1, h2⟩ := h
  unfold E_RuleBook_setStrict E_R_doStrict
  rw [h1]
  by_cases c : S.1 27 2 = x1
  · clear h2
    repeat' (first | with_reducible refine ok_nb (by omega) ?_ | with_reducible refine ok_ib (by omega) ?_ | with_reducible refine ok_t (by omega) ?_ | with_reducible refine ok_e (by omega) ?_ | with_reducible refine ok_if (fun h => ?_) (fun h => ?_) | with_reducible refine ok_s ?_ | with_reducible refine ok_b ?_)
    all_goals first | exact ⟨rfl, Or.inl ⟨by omega, rfl, rfl⟩⟩ | (exfalso; omega)
  · refine ok_t c (ok_t hx (ok_s (ok_t c (ok_t hx (ok_s ?_)))))
    refine ⟨rfl, Or.inr ⟨by omega, ?_, ?_, ?_⟩⟩
    · repeat (first | exact frm.refl _ _ _ _ | refine frm.put ?_ rfl | refine frm.puto ?_ rfl rfl | refine frm.arr ?_ rfl)
    · repeat (first | exact frm.refl _ _ _ _ | refine frm.put ?_ rfl | refine frm.puto ?_ rfl rfl | refine frm.arr ?_ rfl)
    · simp only [RelX, w_put_r, w_arr_r, reduceIte, Nat.reduceEqDiff, pt_at]
      exact ⟨trivial, hx⟩
theorem t_freeze {e : w_E} {N : Nat} {S R : w_S} {x1 x2 : Int} (h : RelV S R) (hg : RelG S R) (hx : x2 = 0 ∨ x2 = 1) : Ok (E_Catalog_setFrozen e N x1 x2 S) (fun y S1 => Ok (E_R_doFreeze e N x1 x2 R) (fun y' R1 => Pa S R (fun _ S1 R1 => frm [7] [] [] S S1 ∧ frm [201] [] [] R R1 ∧ RelV S1 R1) y S1 y' R1)) := by
  obtain ⟨g1, g2, g3, g4⟩ := hg
  unfold E_Catalog_setFrozen E_R_doFreeze E_R_isRecord
  rw [g1]
  by_cases b : x1 < 1 ∨ S.1 3 0 < x1
  · repeat' (first | with_reducible refine ok_nb (by omega) ?_ | with_reducible refine ok_ib (by omega) ?_ | with_reducible refine ok_t (by omega) ?_ | with_reducible refine ok_e (by omega) ?_ | with_reducible refine ok_if (fun h => ?_) (fun h => ?_) | with_reducible refine ok_s ?_ | with_reducible refine ok_b ?_)
    all_goals first | exact ⟨rfl, Or.inl ⟨by omega, rfl, rfl⟩⟩ | (exfalso; omega)
  obtain ⟨a1, a2, a3⟩ := h x1.toNat (by omega) (by omega)
  obtain ⟨c1, c2, c3⟩ := g4 x1.toNat (by omega) (by omega)
  rw [c1]
  by_cases d : S.1 5 x1.toNat = -1
  · refine ok_e (by omega) (ok_e (by omega) (ok_ib (by omega) (ok_e (by omega) ?_)))
    by_cases c : S.1 7 x1.toNat = x2
    · clear a3
      repeat' (first | (rw [show ((1 : Int), R).2.1 201 x1.toNat = S.1 7 x1.toNat from a2]) | with_reducible refine ok_nb (by omega) ?_ | with_reducible refine ok_ib (by omega) ?_ | with_reducible refine ok_t (by omega) ?_ | with_reducible refine ok_e (by omega) ?_ | with_reducible refine ok_if (fun h => ?_) (fun h => ?_) | with_reducible refine ok_s ?_ | with_reducible refine ok_b ?_)
      all_goals first | exact ⟨rfl, Or.inl ⟨by omega, rfl, rfl⟩⟩ | (exfalso; omega)
    · refine ok_t c (ok_t hx (ok_s (ok_b (ok_e (by omega) (ok_e (by omega) (ok_ib (by omega) (ok_e (by omega) (ok_s ?_))))))))
      dsimp only
      rw [a2]
      refine ok_t (by omega) (ok_ib (by omega) (ok_t c (ok_t hx (ok_s ?_))))
      refine ⟨rfl, Or.inr ⟨by omega, ?_, ?_, ?_⟩⟩
      · repeat (first | exact frm.refl _ _ _ _ | refine frm.put ?_ rfl | refine frm.puto ?_ rfl rfl | refine frm.arr ?_ rfl)
      · repeat (first | exact frm.refl _ _ _ _ | refine frm.put ?_ rfl | refine frm.puto ?_ rfl rfl | refine frm.arr ?_ rfl)
      · simp only [RelV, w_put_r, w_arr_r, reduceIte, Nat.reduceEqDiff, pt_at]
        intro k k1 k2
        obtain ⟨f1, f2, f3⟩ := h k k1 k2
        refine ⟨f1, ?_, ?_⟩
        · split
          · rfl
          · exact f2
        · split
          · exact hx
          · exact f3
  · clear a3
    repeat' (first | with_reducible refine ok_nb (by omega) ?_ | with_reducible refine ok_ib (by omega) ?_ | with_reducible refine ok_t (by omega) ?_ | with_reducible refine ok_e (by omega) ?_ | with_reducible refine ok_if (fun h => ?_) (fun h => ?_) | with_reducible refine ok_s ?_ | with_reducible refine ok_b ?_)
    all_goals first | exact ⟨rfl, Or.inl ⟨by omega, rfl, rfl⟩⟩ | (exfalso; omega)
end
section
-- b9
def Qk (S R S1 R1 : w_S) : Prop := frm [115, 116, 117, 118, 119] [] [] S S1 ∧ frm [232, 233, 234, 235, 236] [] [] R R1 ∧ RelK S1 R1
theorem l_opent {e : w_E} {N : Nat} {S R : w_S} {x1 x2 : Int} (h : RelK S R) : ∀ (k n n' : Nat) (i : Int), k < n → k < n' → 1 ≤ i → i + k = 11 → Ok (El_Desk_openToken e N n 0 [x1, x2, i] [] S) (fun y S1 => Ok (El_R_harvest e N n' 0 [x1, x2, i] [] R) (fun y' R1 => y' = y ∧ Qk S R S1 R1))
  | 0, n + 1, n' + 1, i, h1, h2, h3, h4 => by
    rw [El_Desk_openToken, El_R_harvest]
    have h0 := h
    clear h
    repeat' (first | with_reducible refine ok_nb (by omega) ?_ | with_reducible refine ok_ib (by omega) ?_ | with_reducible refine ok_t (by omega) ?_ | with_reducible refine ok_e (by omega) ?_ | with_reducible refine ok_if (fun h => ?_) (fun h => ?_) | with_reducible refine ok_s ?_ | with_reducible refine ok_b ?_)
    all_goals first | (exfalso; omega) | exact ⟨rfl, frm.refl _ _ _ _, frm.refl _ _ _ _, h0⟩
  | k + 1, n + 1, n' + 1, i, h1, h2, h3, h4 => by
    have ih := l_opent (e := e) (N := N) (x1 := x1) (x2 := x2) h k n n' (i + 1) (by omega) (by omega) (by omega) (by omega)
    have h0 := h
    clear h
    have a1 := (h0 i.toNat (by omega) (by omega)).1
    rw [El_Desk_openToken, El_R_harvest, a1]
    by_cases c : S.1 115 i.toNat = 0
    · repeat' (first | with_reducible refine ok_nb (by omega) ?_ | with_reducible refine ok_ib (by omega) ?_ | with_reducible refine ok_t (by omega) ?_ | with_reducible refine ok_e (by omega) ?_ | with_reducible refine ok_if (fun h => ?_) (fun h => ?_) | with_reducible refine ok_s ?_ | with_reducible refine ok_b ?_)
      all_goals first | (exfalso; omega) | skip
      refine ⟨rfl, ?_, ?_, ?_⟩
      · repeat (first | exact frm.refl _ _ _ _ | refine frm.put ?_ rfl | refine frm.puto ?_ rfl rfl | refine frm.arr ?_ rfl)
      · repeat (first | exact frm.refl _ _ _ _ | refine frm.put ?_ rfl | refine frm.puto ?_ rfl rfl | refine frm.arr ?_ rfl)
      · simp only [RelK, w_put_r, w_arr_r, reduceIte, Nat.reduceEqDiff, pt_at]
        intro t t1 t2
        by_cases et : t = i.toNat
        · simp only [if_pos et]
          exact ⟨trivial, Or.inr trivial, fun _ => ⟨trivial, trivial, trivial, trivial⟩⟩
        · simp only [if_neg et]
          exact h0 t t1 t2
    · refine ok_e (by omega) (ok_ib (by omega) (ok_t c (ok_nb (by omega) ?_)))
      refine ih.mono (fun y S1 q => ?_)
      refine ok_e (by omega) (ok_ib (by omega) (ok_e c (ok_nb (by omega) ?_)))
      exact q
theorem q_harvest {e : w_E} {N : Nat} {S R : w_S} {x1 x2 : Int} (hN : 1000 ≤ N) (h : RelK S R) : Ok (E_C_harvest e N x1 x2 S) (fun y S1 => Ok (E_R_harvest e N x1 x2 R) (fun y' R1 => y' = y ∧ Qk S R S1 R1)) := by
  unfold E_C_harvest E_Desk_openToken E_R_harvest
  refine ok_b ((l_opent h 10 N N 1 (by omega) (by omega) (by omega) (by omega)).mono (fun y S1 q => ok_s q))
theorem l_next {e : w_E} {N : Nat} {S R : w_S} {x1 : Int} (hx : 1 ≤ x1 ∧ x1 ≤ 10) (h : RelK S R) (hv : RelV S R) (hg : R.1 129 13 = S.1 3 0 ∧ S.1 3 0 ≤ 150) (ho : S.1 115 x1.toNat ≠ 0) : ∀ (k n n' : Nat) (b i : Int), k < n → k < n' → 1 ≤ i → i + k = S.1 3 0 + 1 → 0 ≤ b → b ≤ S.1 3 0 → Ok (El_Desk_nextChanged e N n 0 [x1, b, i] [] S) (fun y S1 => Ok (El_R_next e N n' 0 [x1, b, i] [] R) (fun y' R1 => y' = y ∧ Qk S R S1 R1))
  | 0, n + 1, n' + 1, b, i, h1, h2, h3, h4, h5, h6 => by
    have h0 := h
    clear h
    obtain ⟨g1, g2⟩ := hg
    rw [El_Desk_nextChanged, El_R_next, g1]
    by_cases c : b = 0
    · subst c
      have hv0 := hv
      clear hv
      repeat' (first | with_reducible refine ok_t trivial ?_ | with_reducible refine ok_nb (by omega) ?_ | with_reducible refine ok_ib (by omega) ?_ | with_reducible refine ok_t (by omega) ?_ | with_reducible refine ok_e (by omega) ?_ | with_reducible refine ok_if (fun h => ?_) (fun h => ?_) | with_reducible refine ok_s ?_ | with_reducible refine ok_b ?_)
      all_goals first | (exfalso; omega) | skip
      refine ⟨rfl, ?_, ?_, ?_⟩
      · repeat (first | exact frm.refl _ _ _ _ | refine frm.put ?_ rfl | refine frm.puto ?_ rfl rfl | refine frm.arr ?_ rfl)
      · repeat (first | exact frm.refl _ _ _ _ | refine frm.put ?_ rfl | refine frm.puto ?_ rfl rfl | refine frm.arr ?_ rfl)
      · simp only [RelK, w_put_r, w_arr_r, reduceIte, Nat.reduceEqDiff, pt_at]
        intro t t1 t2
        by_cases et : t = x1.toNat
        · simp only [if_pos et]
          exact ⟨trivial, Or.inl trivial, fun z => absurd rfl z⟩
        · simp only [if_neg et]
          exact h0 t t1 t2
    · have v1 := (hv b.toNat (by omega) (by omega)).1
      rw [v1]
      obtain ⟨w1, w0, w2⟩ := h0 x1.toNat (by omega) (by omega)
      obtain ⟨w3, w4, w5, w6⟩ := w2 ho
      clear hv w2
      refine ok_t (by omega) (ok_e c (ok_ib (by omega) (ok_ib (by omega) (ok_s ?_))))
      refine ok_t (by omega) (ok_t c (ok_ib (by omega) (ok_ib (by omega) (ok_s ?_))))
      refine ⟨rfl, ?_, ?_, ?_⟩
      · repeat (first | exact frm.refl _ _ _ _ | refine frm.put ?_ rfl | refine frm.puto ?_ rfl rfl | refine frm.arr ?_ rfl)
      · repeat (first | exact frm.refl _ _ _ _ | refine frm.put ?_ rfl | refine frm.puto ?_ rfl rfl | refine frm.arr ?_ rfl)
      · simp only [RelK, w_put_r, w_arr_r, reduceIte, Nat.reduceEqDiff, pt_at]
        intro t t1 t2
        by_cases et : t = x1.toNat
        · simp only [if_pos et]
          rw [et]
          exact ⟨by omega, Or.inr trivial, fun _ => ⟨w3, w4, trivial, trivial⟩⟩
        · simp only [if_neg et]
          exact h0 t t1 t2
  | k + 1, n + 1, n' + 1, b, i, h1, h2, h3, h4, h5, h6 => by
    have ih := fun b' p1 p2 => l_next (e := e) (N := N) hx h hv hg ho k n n' b' (i + 1) (by omega) (by omega) (by omega) (by omega) p1 p2
    obtain ⟨g1, g2⟩ := hg
    have v1 := (hv i.toNat (by omega) (by omega)).1
    have v2 : b ≠ 0 → R.1 135 b.toNat = S.1 6 b.toNat := fun z => (hv b.toNat (by omega) (by omega)).1
    obtain ⟨w1, w0, w2⟩ := h x1.toNat (by omega) (by omega)
    obtain ⟨w3, w4, w5, w6⟩ := w2 ho
    have h0 := h
    clear h w2 h0 hv w0
    rw [El_Desk_nextChanged, El_R_next, g1, v1, w3, w4, w5, w6]
    by_cases c : b = 0
    · clear v2
      have i1 := ih b h5 h6
      have i2 := ih i (by omega) (by omega)
      clear ih
      repeat' (first | (with_reducible refine i1.mono (fun y S1 q => ?_)) | (with_reducible refine i2.mono (fun y S1 q => ?_)) | with_reducible refine ok_nb (by omega) ?_ | with_reducible refine ok_ib (by omega) ?_ | with_reducible refine ok_t (by omega) ?_ | with_reducible refine ok_e (by omega) ?_ | with_reducible refine ok_if (fun h => ?_) (fun h => ?_) | with_reducible refine ok_s ?_ | with_reducible refine ok_b ?_)
      all_goals first | exact q | (exfalso; omega)
    · rw [v2 c]
      clear v2
      have i1 := ih b h5 h6
      have i2 := ih i (by omega) (by omega)
      clear ih
      repeat' (first | (with_reducible refine i1.mono (fun y S1 q => ?_)) | (with_reducible refine i2.mono (fun y S1 q => ?_)) | with_reducible refine ok_nb (by omega) ?_ | with_reducible refine ok_ib (by omega) ?_ | with_reducible refine ok_t (by omega) ?_ | with_reducible refine ok_e (by omega) ?_ | with_reducible refine ok_if (fun h => ?_) (fun h => ?_) | with_reducible refine ok_s ?_ | with_reducible refine ok_b ?_)
      all_goals first | exact q | (exfalso; omega)
theorem q_next {e : w_E} {N : Nat} {S R : w_S} {x1 : Int} (hN : 1000 ≤ N) (h : RelK S R) (hv : RelV S R) (hg : RelG S R) : Ok (E_C_next e N x1 S) (fun y S1 => Ok (E_R_next e N x1 R) (fun y' R1 => y' = y ∧ Qk S R S1 R1)) := by
  obtain ⟨g1, g2, g3, g4⟩ := hg
  unfold E_C_next E_Desk_nextChanged E_R_next
  have h0 := h
  clear h
  by_cases b : x1 < 1 ∨ 10 < x1
  · repeat' (first | with_reducible refine ok_nb (by omega) ?_ | with_reducible refine ok_ib (by omega) ?_ | with_reducible refine ok_t (by omega) ?_ | with_reducible refine ok_e (by omega) ?_ | with_reducible refine ok_if (fun h => ?_) (fun h => ?_) | with_reducible refine ok_s ?_ | with_reducible refine ok_b ?_)
    all_goals first | (exfalso; omega) | exact ⟨rfl, frm.refl _ _ _ _, frm.refl _ _ _ _, h0⟩
  have a1 := (h0 x1.toNat (by omega) (by omega)).1
  rw [a1]
  by_cases c : S.1 115 x1.toNat = 0
  · repeat' (first | with_reducible refine ok_nb (by omega) ?_ | with_reducible refine ok_ib (by omega) ?_ | with_reducible refine ok_t (by omega) ?_ | with_reducible refine ok_e (by omega) ?_ | with_reducible refine ok_if (fun h => ?_) (fun h => ?_) | with_reducible refine ok_s ?_ | with_reducible refine ok_b ?_)
    all_goals first | (exfalso; omega) | exact ⟨rfl, frm.refl _ _ _ _, frm.refl _ _ _ _, h0⟩
  · have z := l_next (e := e) (N := N) (x1 := x1) (by omega) h0 hv ⟨g1, g3⟩ c (S.1 3 0).toNat N N 0 1 (by omega) (by omega) (by omega) (by omega) (by omega) (by omega)
    refine ok_b (ok_e (by omega) (ok_e (by omega) (ok_ib (by omega) (ok_t c ?_))))
    refine z.mono (fun y S1 q => ok_s ?_)
    exact ok_e (by omega) (ok_e (by omega) (ok_ib (by omega) (ok_t c q)))
end
section
-- ba
theorem q_count {e : w_E} {N : Nat} {S R : w_S} {x1 : Int} (h : R.1 129 7 = S.1 0 12 ∧ R.1 129 8 = S.1 0 13 ∧ R.1 129 12 = S.1 27 1 ∧ R.1 129 13 = S.1 3 0 ∧ R.1 129 17 = S.1 3 5 ∧ R.1 129 24 = S.1 17 0 ∧ R.1 129 65 = S.1 46 0 ∧ R.1 129 68 = S.1 62 3 ∧ R.1 129 114 = S.1 46 4 ∧ R.1 129 127 = S.1 62 14 ∧ R.1 129 144 = S.1 76 11 ∧ R.1 129 148 = S.1 89 0) : Ok (E_C_count e N x1 S) (fun y S1 => Ok (E_R_count e N x1 R) (fun y' R1 => y' = y ∧ S1 = S ∧ R1 = R)) := by
  obtain ⟨h1, h2, h3, h4, h5, h6, h7, h8, h9, h10, h11, h12⟩ := h
  unfold E_C_count E_R_count
  simp only [e_sw_cons, e_sw_nil]
  rw [h1, h2, h3, h4, h5, h6, h7, h8, h9, h10, h11, h12]
  clear h1 h2 h3 h4 h5 h6 h7 h8 h9 h10 h11 h12
  repeat' (first | with_reducible refine ok_nb (by omega) ?_ | with_reducible refine ok_ib (by omega) ?_ | with_reducible refine ok_t (by omega) ?_ | with_reducible refine ok_e (by omega) ?_ | with_reducible refine ok_if (fun h => ?_) (fun h => ?_) | with_reducible refine ok_s ?_ | with_reducible refine ok_b ?_)
  all_goals first | exact ⟨rfl, rfl, rfl⟩ | (exfalso; omega)
theorem q_tally {e : w_E} {N : Nat} {S R : w_S} {x1 : Int} (hN : 1000 ≤ N) (hc : RelCs S R) (hd : ∀ k : Nat, 1 ≤ k → (k : Int) ≤ S.1 62 3 → R.1 171 k = S.1 65 k) (h : R.1 129 7 = S.1 0 12 ∧ R.1 129 11 = S.1 0 16 ∧ R.1 129 87 = S.1 46 12 ∧ R.1 129 83 = S.1 35 1 ∧ R.1 129 93 = S.1 35 2 ∧ R.1 129 104 = S.1 35 3 ∧ R.1 129 96 = S.1 27 2) : Ok (E_C_tally e N x1 S) (fun y S1 => Ok (E_R_tally e N x1 R) (fun y' R1 => y' = y ∧ S1 = S ∧ R1 = R)) := by
  obtain ⟨h1, h2, h3, h4, h5, h6, h7⟩ := h
  obtain ⟨c1, c2, c3, c4⟩ := hc
  have u1 := ok_eq (l_copiesUnderWay (e := e) (N := N) (S := S) ⟨c2, c3⟩ (S.1 62 3).toNat N 0 1 (by omega) (by omega) (by omega) (by omega) (by omega))
  have u2 := ok_eq (l_underWay (e := e) (N := N) (S := R) (by omega) (R.1 129 68).toNat N 0 1 (by omega) (by omega) (by omega) (by omega) (by omega))
  have u3 : cnt (fun j => decide (R.1 171 j = 4)) (1 : Int).toNat (R.1 129 68).toNat = cnt (fun j => decide (S.1 65 j = 4)) (1 : Int).toNat (S.1 62 3).toNat := by
    rw [c1]
    refine cnt_congr _ _ (fun k k1 k2 => ?_)
    rw [hd k (by omega) (by omega)]
  rw [u3] at u2
  unfold E_C_tally E_R_tally E_Lending_copiesUnderWay E_R_underWay
  simp only [e_sw_cons, e_sw_nil]
  rw [h1, h2, h3, h4, h5, h6, h7]
  clear h1 h2 h3 h4 h5 h6 h7 c1 c2 c3 c4 hd u3
  repeat' (first | (with_reducible refine ok_of u1 ?_) | (with_reducible refine ok_of u2 ?_) | with_reducible refine ok_nb (by omega) ?_ | with_reducible refine ok_ib (by omega) ?_ | with_reducible refine ok_t (by omega) ?_ | with_reducible refine ok_e (by omega) ?_ | with_reducible refine ok_if (fun h => ?_) (fun h => ?_) | with_reducible refine ok_s ?_ | with_reducible refine ok_b ?_)
  all_goals first | exact ⟨rfl, rfl, rfl⟩ | (exfalso; omega)
end
section
-- bb
/-- the text's place and what is wrong put into a state -/
def tp (S : w_S) (a w : Int) : w_S := w_put (w_put S 1 4 a) 1 6 w
theorem tp4 (S : w_S) (a w : Int) : (tp S a w).1 1 4 = a := rfl
theorem tp6 (S : w_S) (a w : Int) : (tp S a w).1 1 6 = w := rfl
theorem tp3 (S : w_S) (a w : Int) : (tp S a w).1 1 3 = S.1 1 3 := rfl
theorem tp5 (S : w_S) (a w : Int) : (tp S a w).1 1 5 = S.1 1 5 := rfl
theorem tpo (S : w_S) (a w : Int) {b : Nat} (h : b ≠ 1) : (tp S a w).1 b = S.1 b := by
  unfold tp
  rw [w_put_r, if_neg h, w_put_r, if_neg h]
theorem tp_2 (S : w_S) (a w : Int) : (tp S a w).1 2 = S.1 2 := tpo S a w (by decide)
theorem w_ext {S T : w_S} (h : ∀ b j, S.1 b j = T.1 b j) (k : S.2 = T.2) : S = T := by
  have e1 : S.1 = T.1 := by
    funext b j
    exact h b j
  exact Prod.ext e1 k
theorem tp_p4 (S : w_S) (a w x : Int) : w_put (tp S a w) 1 4 x = tp S x w := by
  refine w_ext (fun b j => ?_) rfl
  unfold tp
  simp only [w_put_r]
  by_cases h : b = 1
  · simp only [if_pos h, pt_at]
    by_cases h4 : j = 4
    · simp only [h4, reduceIte, Nat.reduceEqDiff]
    · simp only [if_neg h4]
  · simp only [if_neg h]
theorem tp_p6 (S : w_S) (a w x : Int) : w_put (tp S a w) 1 6 x = tp S a x := by
  refine w_ext (fun b j => ?_) rfl
  unfold tp
  simp only [w_put_r]
  by_cases h : b = 1
  · simp only [if_pos h, pt_at]
    by_cases h4 : j = 6
    · simp only [if_pos h4]
    · simp only [if_neg h4]
  · simp only [if_neg h]
theorem tp_tp (S : w_S) (a w a' w' : Int) : tp (tp S a w) a' w' = tp S a' w' := by
  rw [tp, tp_p4, tp_p6]
theorem tp_self (S : w_S) : tp S (S.1 1 4) (S.1 1 6) = S := by
  refine w_ext (fun b j => ?_) rfl
  unfold tp
  simp only [w_put_r]
  by_cases h : b = 1
  · subst h
    simp only [reduceIte, pt_at]
    by_cases h6 : j = 6
    · rw [if_pos h6, h6]
    · rw [if_neg h6]
      by_cases h4 : j = 4
      · rw [if_pos h4, h4]
      · rw [if_neg h4]
  · simp only [if_neg h]
theorem tp_put (S : w_S) (a w x : Int) {b k : Nat} (hb : b ≠ 1) : w_put (tp S a w) b k x = tp (w_put S b k x) a w := by
  refine w_ext (fun c j => ?_) rfl
  unfold tp
  simp only [w_put_r]
  by_cases h : c = 1
  · subst h
    simp only [reduceIte, if_neg (Ne.symm hb)]
  · simp only [if_neg h]
/-- the text G of so many bytes that the class reads -/
def TX (S : w_S) (f len : Int) (G : Int → Int) : Prop := S.1 1 3 = f ∧ S.1 1 5 = f + len ∧ 0 ≤ f ∧ 0 ≤ len ∧ len ≤ 2000 ∧ f + len ≤ 10240 ∧ ∀ p, 0 ≤ p → (p < len → -128 ≤ S.1 2 (f + p).toNat ∧ S.1 2 (f + p).toNat ≤ 127 ∧ G p = w_and (S.1 2 (f + p).toNat) 255 ∧ G p = if S.1 2 (f + p).toNat < 0 then S.1 2 (f + p).toNat + 256 else S.1 2 (f + p).toNat) ∧ (len ≤ p → G p = -1)
/-- where the class stands and what it found wrong, in the reference's one number -/
def At (f len a w q : Int) : Prop := f ≤ a ∧ a ≤ f + len ∧ ((w = -1 ∧ a = f + q) ∨ (0 ≤ w ∧ q = -1 - w))
def pB (G : Int → Int) (b q : Int) : Int := if q < 0 then q else if G q = b then q + 1 else -1 - q
def pR (G : Int → Int) (lo hi q : Int) : Int := if q < 0 then q else if lo ≤ G q ∧ G q ≤ hi then q + 1 else -1 - q
def pE (G : Int → Int) (q : Int) : Int := if q < 0 then q else if G q = -1 then q else -1 - q
def Tk (S : w_S) (f len q : Int) (P : Int → Prop) (y : Int) (S1 : w_S) : Prop := ∃ a w, S1 = tp S a w ∧ At f len a w q ∧ (w = -1 → P y)
theorem x_takeByte {e : w_E} {N : Nat} {S : w_S} {f len a w q b : Int} {G : Int → Int} (h : TX S f len G) (ha : At f len a w q) (hb : 0 ≤ b ∧ b ≤ 127) : Ok (E_Tape_takeByte e N b (tp S a w)) (Tk S f len (pB G b q) (fun _ => True)) := by
  obtain ⟨h1, h2, h3, h4, h5, h6, h7⟩ := h
  obtain ⟨a1, a2, a3⟩ := ha
  have h8 := h7 (a - f) (by omega)
  rw [show f + (a - f) = a by omega] at h8
  obtain ⟨h9, h10⟩ := h8
  clear h7
  unfold E_Tape_takeByte
  rw [tp4, tp5, tp6, tp3, tp_2, h1, h2, tp_p4, tp_p6]
  by_cases c : a < f + len
  · obtain ⟨k1, k2, k3, k4⟩ := h9 (by omega)
    clear h9 h10 k3
    rcases a3 with ⟨b1, b2⟩ | ⟨b1, b2⟩
    · rw [show a - f = q by omega] at k4
      by_cases d : S.1 2 a.toNat = b
      · repeat' (first | with_reducible refine ok_nb (by omega) ?_ | with_reducible refine ok_ib (by omega) ?_ | with_reducible refine ok_t (by omega) ?_ | with_reducible refine ok_e (by omega) ?_ | with_reducible refine ok_if (fun h => ?_) (fun h => ?_) | with_reducible refine ok_s ?_ | with_reducible refine ok_b ?_)
        all_goals first | (exfalso; omega) | skip
        refine ⟨_, _, rfl, ⟨by omega, by omega, Or.inl ⟨b1, ?_⟩⟩, fun _ => trivial⟩
        unfold pB
        rw [if_neg (by omega), if_pos (by rw [k4]; split <;> omega)]
        omega
      · repeat' (first | with_reducible refine ok_nb (by omega) ?_ | with_reducible refine ok_ib (by omega) ?_ | with_reducible refine ok_t (by omega) ?_ | with_reducible refine ok_e (by omega) ?_ | with_reducible refine ok_if (fun h => ?_) (fun h => ?_) | with_reducible refine ok_s ?_ | with_reducible refine ok_b ?_)
        all_goals first | (exfalso; omega) | skip
        refine ⟨_, _, rfl, ⟨by omega, by omega, Or.inr ⟨by omega, ?_⟩⟩, fun _ => trivial⟩
        unfold pB
        rw [if_neg (by omega), if_neg (by rw [k4]; split <;> omega)]
        omega
    · have b3 : pB G b q = q := by
        unfold pB
        rw [if_pos (by omega)]
      rw [b3]
      clear k4
      repeat' (first | with_reducible refine ok_nb (by omega) ?_ | with_reducible refine ok_ib (by omega) ?_ | with_reducible refine ok_t (by omega) ?_ | with_reducible refine ok_e (by omega) ?_ | with_reducible refine ok_if (fun h => ?_) (fun h => ?_) | with_reducible refine ok_s ?_ | with_reducible refine ok_b ?_)
      all_goals exact ⟨_, _, rfl, ⟨by omega, by omega, Or.inr ⟨b1, b2⟩⟩, fun _ => trivial⟩
  · have k5 := h10 (by omega)
    clear h9 h10
    rcases a3 with ⟨b1, b2⟩ | ⟨b1, b2⟩
    · rw [show a - f = q by omega] at k5
      repeat' (first | with_reducible refine ok_nb (by omega) ?_ | with_reducible refine ok_ib (by omega) ?_ | with_reducible refine ok_t (by omega) ?_ | with_reducible refine ok_e (by omega) ?_ | with_reducible refine ok_if (fun h => ?_) (fun h => ?_) | with_reducible refine ok_s ?_ | with_reducible refine ok_b ?_)
      all_goals first | (exfalso; omega) | skip
      refine ⟨_, _, rfl, ⟨by omega, by omega, Or.inr ⟨by omega, ?_⟩⟩, fun _ => trivial⟩
      unfold pB
      rw [if_neg (by omega), if_neg (by omega)]
      omega
    · have b3 : pB G b q = q := by
        unfold pB
        rw [if_pos (by omega)]
      rw [b3]
      repeat' (first | with_reducible refine ok_nb (by omega) ?_ | with_reducible refine ok_ib (by omega) ?_ | with_reducible refine ok_t (by omega) ?_ | with_reducible refine ok_e (by omega) ?_ | with_reducible refine ok_if (fun h => ?_) (fun h => ?_) | with_reducible refine ok_s ?_ | with_reducible refine ok_b ?_)
      all_goals exact ⟨_, _, rfl, ⟨by omega, by omega, Or.inr ⟨b1, b2⟩⟩, fun _ => trivial⟩
end
