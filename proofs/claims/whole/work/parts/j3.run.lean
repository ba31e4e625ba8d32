/-- the law's loop, from round i on -/
theorem law_run {e : w_E} {N : Nat} {Q : Option w_V → w_S → Prop} (hN : 16000000 ≤ N) (hL : e.2.1 ≤ 3072) (hQ : ∀ (i : Nat) (U : w_S), i ≤ 512 → LI (Inv e N) i U → Q (some (w_i 1)) U) : ∀ (n i : Nat) (U : w_S), i + n = 512 → LI (Inv e N) i U → X Ta e B_law_0 m_law 18 [(0, w_s 1002000), (1, w_s 0), (2, w_s 129), (3, w_i (6 * (i : Int)))] [] U Q
  | 0, i, U, h, hU => v_law (law_step hN hL rfl hU (hQ i U (by omega) hU) (fun hi => absurd hi (by omega)))
  | n + 1, i, U, h, hU => v_law (law_step hN hL rfl hU (hQ i U (by omega) hU) (fun hi U2 h2 => by
      have q := law_run hN hL hQ n (i + 1) U2 (by omega) h2
      have c : 6 * ((i + 1 : Nat) : Int) = 6 * (i : Int) + 6 := by omega
      rw [c] at q
      exact q))
