section
-- fr2
/-- the class reads a text: where it is, what is wrong, lies in the text -/
def Jm (f len : Int) (G : Int → Int) (S : w_S) : Prop := ∃ T a w q, S = tp T a w ∧ TX T f len G ∧ At f len a w q ∧ Bd len q
def Pj (f len : Int) (G : Int → Int) (r : e_R) : Prop := ∀ v S, r = some (v, S) → Jm f len G S
theorem pj_n {f len : Int} {G : Int → Int} : Pj f len G none := fun v S h => by cases h
theorem pj_s {f len : Int} {G : Int → Int} {v : Int} {S : w_S} (h : Jm f len G S) : Pj f len G (some (v, S)) := fun v' S' h' => by
  cases h'
  exact h
theorem pj_i {f len : Int} {G : Int → Int} {c : Prop} [Decidable c] {a b : e_R} (h1 : c → Pj f len G a) (h2 : ¬ c → Pj f len G b) : Pj f len G (if c then a else b) := by
  by_cases h : c
  · rw [if_pos h]
    exact h1 h
  · rw [if_neg h]
    exact h2 h
theorem pj_b {f len : Int} {G : Int → Int} {r : e_R} {k : Int × w_S → e_R} (h : Pj f len G r) (hk : ∀ q : Int × w_S, Jm f len G q.2 → Pj f len G (k q)) : Pj f len G (r.bind k) := by
  cases r with
  | none => exact pj_n
  | some q => exact hk q (h q.1 q.2 rfl)
theorem Jm.put {f len : Int} {G : Int → Int} {S : w_S} {b k : Nat} {x : Int} (h : Jm f len G S) (h1 : b ≠ 1) (h2 : b ≠ 2) : Jm f len G (w_put S b k x) := by
  obtain ⟨T, a, w, q, e1, e2, e3, e4⟩ := h
  subst e1
  exact ⟨w_put T b k x, a, w, q, tp_put _ _ _ _ h1, e2.put h1 h2, e3, e4⟩
theorem pj_tk {f len q : Int} {G : Int → Int} {r : e_R} {T : w_S} {P : Int → Prop} (h : Ok r (Tk T f len q P)) (hT : TX T f len G) (hb : Bd len q) : Pj f len G r := fun v S hv => by
  obtain ⟨v', S', h1, a, w, h2, h3, _⟩ := h
  rw [hv] at h1
  cases h1
  exact ⟨T, a, w, q, h2, hT, h3, hb⟩
theorem pj_byte {e : w_E} {N : Nat} {f len b : Int} {G : Int → Int} {S : w_S} (h : Jm f len G S) (hb : 0 ≤ b ∧ b ≤ 127) : Pj f len G (E_Tape_takeByte e N b S) := by
  obtain ⟨T, a, w, q, e1, e2, e3, e4⟩ := h
  subst e1
  exact pj_tk (x_takeByte e2 e3 hb) e2 (pB_bd e2.e hb.1 e4)
theorem pj_peek {e : w_E} {N : Nat} {f len : Int} {G : Int → Int} {S : w_S} (h : Jm f len G S) : Pj f len G (E_Tape_peek e N S) := fun v S1 hv => by
  have hh := h
  obtain ⟨T, a, w, q, e1, e2, e3, e4⟩ := h
  subst e1
  rw [x_peek e2 e3] at hv
  cases hv
  exact hh
theorem pj_stop {e : w_E} {N : Nat} {f len : Int} {G : Int → Int} {S : w_S} (h : Jm f len G S) : Pj f len G (E_Tape_stopHere e N S) := by
  obtain ⟨T, a, w, q, e1, e2, e3, e4⟩ := h
  subst e1
  refine pj_tk (x_stopHere e2 e3) e2 ?_
  unfold Bd at e4 ⊢
  split <;> omega
theorem pj_num {e : w_E} {N : Nat} {f len lo hi : Int} {G : Int → Int} {S : w_S} (hN : 2001 ≤ N) (h : Jm f len G S) : Pj f len G (E_Tape_takeNumber e N lo hi S) := by
  obtain ⟨T, a, w, q, e1, e2, e3, e4⟩ := h
  subst e1
  exact pj_tk (x_takeNumber hN e2 e3) e2 (pN_bd e4)
theorem pj_small {e : w_E} {N : Nat} {f len : Int} {G : Int → Int} {S : w_S} (hN : 2001 ≤ N) (h : Jm f len G S) : Pj f len G (E_Tape_takeSmallWord e N S) := by
  obtain ⟨T, a, w, q, e1, e2, e3, e4⟩ := h
  subst e1
  have x := x_takeSmall (e := e) (N := N) hN e2 e3
  refine pj_tk x e2 ?_
  obtain ⟨_, _, _, a1, w1, _, h1, _⟩ := x
  unfold At at h1
  unfold Bd at e4 ⊢
  unfold pS at h1 ⊢
  split
  · exact e4
  · split
    · omega
    · rename_i c1 c2
      rw [if_neg c1, if_neg c2] at h1
      omega
theorem pK_bd {L : List Int} {f len q : Int} {G : Int → Int} {T : w_S} (hT : TX T f len G) (hL : ∀ c, c ∈ L → 0 ≤ c ∧ c ≤ 127) (h : Bd len q) : Bd len (pK L G q) := by
  have hl := hT.2.2.2.1
  unfold pK
  unfold Bd at h ⊢
  split
  · exact h
  · rename_i c
    have t := tw_bd (B := fun p => G (q + p)) (x := len - q) (by omega) (fun m h1 h2 => by
      rcases Int.lt_or_le m (len - q) with d | d
      · exact d
      · have := hT.e (q + m) (by omega)
        omega) L 0 0 0 false hL (by omega) (by omega) (by omega) (by omega) (by omega)
    split <;> omega
theorem pj_w5 {e : w_E} {N : Nat} {f len : Int} {G : Int → Int} {S : w_S} (hN : 2001 ≤ N) (h : Jm f len G S) : Pj f len G (E_Tape_takeWord_v5 e N S) := by
  obtain ⟨T, a, w, q, e1, e2, e3, e4⟩ := h
  subst e1
  exact pj_tk (x_word5 hN e2 e3) e2 (pK_bd e2 (by decide) e4)
theorem pj_w6 {e : w_E} {N : Nat} {f len : Int} {G : Int → Int} {S : w_S} (hN : 2001 ≤ N) (h : Jm f len G S) : Pj f len G (E_Tape_takeWord_v6 e N S) := by
  obtain ⟨T, a, w, q, e1, e2, e3, e4⟩ := h
  subst e1
  exact pj_tk (x_word6 hN e2 e3) e2 (pK_bd e2 (by decide) e4)
theorem pj_atp {e : w_E} {N : Nat} {f len x : Int} {G : Int → Int} {S : w_S} (h : Jm f len G S) : Pj f len G (E_Question_addToProgram e N x S) := by
  unfold E_Question_addToProgram
  repeat' (first | exact pj_n | with_reducible refine pj_i (fun _ => ?_) (fun _ => ?_) | with_reducible refine pj_s ?_ | assumption | with_reducible refine Jm.put ?_ (by decide) (by decide))
theorem pj_addw {e : w_E} {N : Nat} {f len x : Int} {G : Int → Int} {S : w_S} (h : Jm f len G S) : Pj f len G (E_Question_addWord e N x S) := by
  unfold E_Question_addWord
  repeat' (first | exact pj_n | with_reducible refine pj_i (fun _ => ?_) (fun _ => ?_) | with_reducible refine pj_s ?_ | assumption | with_reducible refine Jm.put ?_ (by decide) (by decide))
theorem pj_push {e : w_E} {N : Nat} {f len x : Int} {G : Int → Int} {S : w_S} (h : Jm f len G S) : Pj f len G (E_Question_pushWaiting e N x S) := by
  unfold E_Question_pushWaiting
  repeat' (first | exact pj_n | with_reducible refine pj_i (fun _ => ?_) (fun _ => ?_) | with_reducible refine pj_s ?_ | assumption | with_reducible refine Jm.put ?_ (by decide) (by decide))
theorem pj_setl {e : w_E} {N : Nat} {f len : Int} {G : Int → Int} : ∀ (n l : Nat) (xs : List Int) (as : List Nat) (S : w_S), Jm f len G S → Pj f len G (El_Question_settleWaiting e N n l xs as S)
  | 0, _, _, _, _, _ => by
    rw [El_Question_settleWaiting]
    exact pj_n
  | n + 1, l, xs, as, S, h => by
    have ih := pj_setl (e := e) (N := N) (f := f) (len := len) (G := G) n
    rw [El_Question_settleWaiting.eq_def]
    split
    all_goals try (cases ‹n + 1 = Nat.succ _›)
    all_goals repeat' (first | exact pj_atp (by repeat' (first | assumption | with_reducible refine Jm.put ?_ (by decide) (by decide))) | exact ih _ _ _ _ (by repeat' (first | assumption | with_reducible refine Jm.put ?_ (by decide) (by decide))) | with_reducible refine pj_b ?_ (fun _ _ => ?_) | exact pj_n | with_reducible refine pj_i (fun _ => ?_) (fun _ => ?_) | with_reducible refine pj_s ?_ | assumption | with_reducible refine Jm.put ?_ (by decide) (by decide))
theorem pj_set {e : w_E} {N : Nat} {f len x : Int} {G : Int → Int} {S : w_S} (h : Jm f len G S) : Pj f len G (E_Question_settleWaiting e N x S) := by
  unfold E_Question_settleWaiting
  repeat' (first | exact pj_atp (by repeat' (first | assumption | with_reducible refine Jm.put ?_ (by decide) (by decide))) | exact pj_setl _ _ _ _ _ (by repeat' (first | assumption | with_reducible refine Jm.put ?_ (by decide) (by decide))) | with_reducible refine pj_b ?_ (fun _ _ => ?_) | exact pj_n | with_reducible refine pj_i (fun _ => ?_) (fun _ => ?_) | with_reducible refine pj_s ?_ | assumption | with_reducible refine Jm.put ?_ (by decide) (by decide))
theorem pj_cll {e : w_E} {N : Nat} {f len : Int} {G : Int → Int} : ∀ (n l : Nat) (xs : List Int) (as : List Nat) (S : w_S), Jm f len G S → Pj f len G (El_Question_closeBrackets e N n l xs as S)
  | 0, _, _, _, _, _ => by
    rw [El_Question_closeBrackets]
    exact pj_n
  | n + 1, l, xs, as, S, h => by
    have ih := pj_cll (e := e) (N := N) (f := f) (len := len) (G := G) n
    rw [El_Question_closeBrackets.eq_def]
    split
    all_goals try (cases ‹n + 1 = Nat.succ _›)
    all_goals repeat' (first | exact pj_peek (by repeat' (first | assumption | with_reducible refine Jm.put ?_ (by decide) (by decide))) | exact pj_byte (by repeat' (first | assumption | with_reducible refine Jm.put ?_ (by decide) (by decide))) (by decide) | exact pj_set (by repeat' (first | assumption | with_reducible refine Jm.put ?_ (by decide) (by decide))) | exact pj_atp (by repeat' (first | assumption | with_reducible refine Jm.put ?_ (by decide) (by decide))) | exact ih _ _ _ _ (by repeat' (first | assumption | with_reducible refine Jm.put ?_ (by decide) (by decide))) | with_reducible refine pj_b ?_ (fun _ _ => ?_) | exact pj_n | with_reducible refine pj_i (fun _ => ?_) (fun _ => ?_) | with_reducible refine pj_s ?_ | assumption | with_reducible refine Jm.put ?_ (by decide) (by decide))
theorem pj_cl {e : w_E} {N : Nat} {f len x : Int} {G : Int → Int} {S : w_S} (h : Jm f len G S) : Pj f len G (E_Question_closeBrackets e N x S) := by
  unfold E_Question_closeBrackets
  repeat' (first | exact pj_cll _ _ _ _ _ (by repeat' (first | assumption | with_reducible refine Jm.put ?_ (by decide) (by decide))) | with_reducible refine pj_b ?_ (fun _ _ => ?_) | exact pj_n | with_reducible refine pj_i (fun _ => ?_) (fun _ => ?_) | with_reducible refine pj_s ?_ | assumption | with_reducible refine Jm.put ?_ (by decide) (by decide))
theorem pj_opl {e : w_E} {N : Nat} {f len : Int} {G : Int → Int} : ∀ (n l : Nat) (xs : List Int) (as : List Nat) (S : w_S), Jm f len G S → Pj f len G (El_Question_openBrackets e N n l xs as S)
  | 0, _, _, _, _, _ => by
    rw [El_Question_openBrackets]
    exact pj_n
  | n + 1, l, xs, as, S, h => by
    have ih := pj_opl (e := e) (N := N) (f := f) (len := len) (G := G) n
    rw [El_Question_openBrackets.eq_def]
    split
    all_goals try (cases ‹n + 1 = Nat.succ _›)
    all_goals repeat' (first | exact pj_peek (by repeat' (first | assumption | with_reducible refine Jm.put ?_ (by decide) (by decide))) | exact pj_byte (by repeat' (first | assumption | with_reducible refine Jm.put ?_ (by decide) (by decide))) (by decide) | exact pj_push (by repeat' (first | assumption | with_reducible refine Jm.put ?_ (by decide) (by decide))) | exact ih _ _ _ _ (by repeat' (first | assumption | with_reducible refine Jm.put ?_ (by decide) (by decide))) | with_reducible refine pj_b ?_ (fun _ _ => ?_) | exact pj_n | with_reducible refine pj_i (fun _ => ?_) (fun _ => ?_) | with_reducible refine pj_s ?_ | assumption | with_reducible refine Jm.put ?_ (by decide) (by decide))
theorem pj_op {e : w_E} {N : Nat} {f len x : Int} {G : Int → Int} {S : w_S} (h : Jm f len G S) : Pj f len G (E_Question_openBrackets e N x S) := by
  unfold E_Question_openBrackets
  repeat' (first | exact pj_opl _ _ _ _ _ (by repeat' (first | assumption | with_reducible refine Jm.put ?_ (by decide) (by decide))) | with_reducible refine pj_b ?_ (fun _ _ => ?_) | exact pj_n | with_reducible refine pj_i (fun _ => ?_) (fun _ => ?_) | with_reducible refine pj_s ?_ | assumption | with_reducible refine Jm.put ?_ (by decide) (by decide))
theorem pj_rwl {e : w_E} {N : Nat} {f len : Int} {G : Int → Int} (hN : 2001 ≤ N) : ∀ (n l : Nat) (xs : List Int) (as : List Nat) (S : w_S), Jm f len G S → Pj f len G (El_Question_readWords e N n l xs as S)
  | 0, _, _, _, _, _ => by
    rw [El_Question_readWords]
    exact pj_n
  | n + 1, l, xs, as, S, h => by
    have ih := pj_rwl (e := e) (N := N) (f := f) (len := len) (G := G) hN n
    rw [El_Question_readWords.eq_def]
    split
    all_goals try (cases ‹n + 1 = Nat.succ _›)
    all_goals repeat' (first | exact pj_peek (by repeat' (first | assumption | with_reducible refine Jm.put ?_ (by decide) (by decide))) | exact pj_byte (by repeat' (first | assumption | with_reducible refine Jm.put ?_ (by decide) (by decide))) (by decide) | exact pj_small hN (by repeat' (first | assumption | with_reducible refine Jm.put ?_ (by decide) (by decide))) | exact pj_addw (by repeat' (first | assumption | with_reducible refine Jm.put ?_ (by decide) (by decide))) | exact pj_stop (by repeat' (first | assumption | with_reducible refine Jm.put ?_ (by decide) (by decide))) | exact ih _ _ _ _ (by repeat' (first | assumption | with_reducible refine Jm.put ?_ (by decide) (by decide))) | with_reducible refine pj_b ?_ (fun _ _ => ?_) | exact pj_n | with_reducible refine pj_i (fun _ => ?_) (fun _ => ?_) | with_reducible refine pj_s ?_ | assumption | with_reducible refine Jm.put ?_ (by decide) (by decide))
/-- one byte more, or none, where a star stands or none -/
theorem jm_star {e : w_E} {N : Nat} {f len : Int} {G : Int → Int} {S : w_S} {q : Int × w_S} (h : Jm f len G S) (hq : E_Tape_peek e N S = some q) {k : Nat} : q.2 = S ∧ Jm f len G (w_put (w_put S 100 k 0) 1 4 (S.1 1 4 + 0)) ∧ (q.1 = 42 → Jm f len G (w_put (w_put S 100 k 1) 1 4 (S.1 1 4 + 1))) := by
  have hh := h
  obtain ⟨T, a, w, p, e1, e2, e3, e4⟩ := h
  subst e1
  rw [x_peek e2 e3] at hq
  cases hq
  refine ⟨rfl, ?_, fun z => ?_⟩
  · rw [tp4, Int.add_zero, tp_put _ _ _ _ (by decide), tp_p4]
    exact ⟨_, a, w, p, rfl, e2.put (by decide) (by decide), e3, e4⟩
  · rw [tp4, tp_put _ _ _ _ (by decide), tp_p4]
    have h42 : 0 ≤ p ∧ G p = 42 := by
      dsimp only at z
      split at z
      · omega
      · exact ⟨by omega, z⟩
    have pl : p < len := by
      rcases Int.lt_or_le p len with d | d
      · exact d
      · have := e2.e p d
        omega
    obtain ⟨w1, w2, w3⟩ := e3.right.1 h42.1
    refine ⟨_, a + 1, w, p + 1, rfl, e2.put (by decide) (by decide), ⟨by omega, by omega, Or.inl ⟨by omega, by omega⟩⟩, ?_⟩
    unfold Bd at e4 ⊢
    omega
theorem pj_rw {e : w_E} {N : Nat} {f len : Int} {G : Int → Int} {S : w_S} (hN : 2001 ≤ N) (h : Jm f len G S) : Pj f len G (E_Question_readWords e N S) := by
  unfold E_Question_readWords
  refine pj_b (pj_peek h) (fun q1 h1 => pj_i (fun _ => ?_) (fun _ => ?_))
  · repeat' (first | exact pj_byte (by repeat' (first | assumption | with_reducible refine Jm.put ?_ (by decide) (by decide))) (by decide) | exact pj_small hN (by repeat' (first | assumption | with_reducible refine Jm.put ?_ (by decide) (by decide))) | exact pj_addw (by repeat' (first | assumption | with_reducible refine Jm.put ?_ (by decide) (by decide))) | exact pj_rwl hN _ _ _ _ _ (by repeat' (first | assumption | with_reducible refine Jm.put ?_ (by decide) (by decide))) | with_reducible refine pj_b ?_ (fun _ _ => ?_) | exact pj_n | with_reducible refine pj_i (fun _ => ?_) (fun _ => ?_) | with_reducible refine pj_s ?_ | assumption | with_reducible refine Jm.put ?_ (by decide) (by decide))
  · refine pj_b (pj_small hN h1) (fun q2 h2 => pj_b (pj_addw h2) (fun q3 h3 => ?_))
    intro v S1 hv
    cases hp : E_Tape_peek e N q3.2 with
    | none =>
      rw [hp] at hv
      cases hv
    | some q4 =>
      rw [hp] at hv
      obtain ⟨a1, a2, a3⟩ := jm_star (k := (q3.2.1 94 6).toNat) h3 hp
      revert v S1
      show Pj f len G _
      dsimp only [Option.bind]
      rw [a1]
      refine pj_i (fun _ => ?_) (fun c => ?_)
      · refine pj_i (fun _ => pj_i (fun _ => pj_i (fun _ => pj_i (fun _ => pj_s a2) (fun _ => pj_n)) (fun c => ?_)) (fun _ => pj_n)) (fun _ => pj_n)
        exfalso
        refine c ?_
        simp only [w_put_r, reduceIte, Nat.reduceEqDiff, pt_at]
      · have h42 : q4.1 = 42 := Decidable.of_not_not c
        refine pj_i (fun _ => pj_i (fun _ => pj_i (fun c => ?_) (fun c => pj_i (fun _ => pj_s (a3 h42)) (fun _ => pj_n))) (fun _ => pj_n)) (fun _ => pj_n)
        exfalso
        simp only [w_put_r, reduceIte, Nat.reduceEqDiff, pt_at] at c
        cases c
theorem pj_ql {e : w_E} {N : Nat} {f len : Int} {G : Int → Int} (hN : 2001 ≤ N) : ∀ (n l : Nat) (xs : List Int) (as : List Nat) (S : w_S), Jm f len G S → Pj f len G (El_Question_readQuestion e N n l xs as S)
  | 0, _, _, _, _, _ => by
    rw [El_Question_readQuestion]
    exact pj_n
  | n + 1, l, xs, as, S, h => by
    have ih := pj_ql (e := e) (N := N) (f := f) (len := len) (G := G) hN n
    rw [El_Question_readQuestion.eq_def]
    split
    all_goals try (cases ‹n + 1 = Nat.succ _›)
    all_goals repeat' (first | exact pj_peek (by repeat' (first | assumption | with_reducible refine Jm.put ?_ (by decide) (by decide))) | exact pj_byte (by repeat' (first | assumption | with_reducible refine Jm.put ?_ (by decide) (by decide))) (by decide) | exact pj_small hN (by repeat' (first | assumption | with_reducible refine Jm.put ?_ (by decide) (by decide))) | exact pj_num hN (by repeat' (first | assumption | with_reducible refine Jm.put ?_ (by decide) (by decide))) | exact pj_w5 hN (by repeat' (first | assumption | with_reducible refine Jm.put ?_ (by decide) (by decide))) | exact pj_w6 hN (by repeat' (first | assumption | with_reducible refine Jm.put ?_ (by decide) (by decide))) | exact pj_stop (by repeat' (first | assumption | with_reducible refine Jm.put ?_ (by decide) (by decide))) | exact pj_op (by repeat' (first | assumption | with_reducible refine Jm.put ?_ (by decide) (by decide))) | exact pj_cl (by repeat' (first | assumption | with_reducible refine Jm.put ?_ (by decide) (by decide))) | exact pj_rw hN (by repeat' (first | assumption | with_reducible refine Jm.put ?_ (by decide) (by decide))) | exact pj_push (by repeat' (first | assumption | with_reducible refine Jm.put ?_ (by decide) (by decide))) | exact pj_set (by repeat' (first | assumption | with_reducible refine Jm.put ?_ (by decide) (by decide))) | exact pj_atp (by repeat' (first | assumption | with_reducible refine Jm.put ?_ (by decide) (by decide))) | exact ih _ _ _ _ (by repeat' (first | assumption | with_reducible refine Jm.put ?_ (by decide) (by decide))) | with_reducible refine pj_b ?_ (fun _ _ => ?_) | exact pj_n | with_reducible refine pj_i (fun _ => ?_) (fun _ => ?_) | with_reducible refine pj_s ?_ | assumption | with_reducible refine Jm.put ?_ (by decide) (by decide))
theorem pj_q {e : w_E} {N : Nat} {f len : Int} {G : Int → Int} {S : w_S} (hN : 2001 ≤ N) (h : Jm f len G S) : Pj f len G (E_Question_readQuestion e N S) := by
  unfold E_Question_readQuestion
  repeat' (first | exact pj_ql hN _ _ _ _ _ (by repeat' (first | assumption | with_reducible refine Jm.put ?_ (by decide) (by decide))) | with_reducible refine pj_b ?_ (fun _ _ => ?_) | exact pj_n | with_reducible refine pj_i (fun _ => ?_) (fun _ => ?_) | with_reducible refine pj_s ?_ | assumption | with_reducible refine Jm.put ?_ (by decide) (by decide))
end
section
-- fs
abbrev QFa : List Nat := [95, 96, 97, 98, 99, 100, 101, 102, 103, 104, 105, 108, 109, 110, 121, 122, 123, 124, 125, 126, 127]
abbrev QFj : List (Nat × Nat) := [(1, 2), (1, 3), (1, 4), (1, 5), (1, 6), (94, 3), (94, 5), (94, 6), (94, 12), (94, 15), (106, 4), (106, 8), (120, 0)]
abbrev QGa : List Nat := [150, 152, 153, 154, 155, 156, 157, 158, 159, 160, 161, 162]
abbrev QGj : List (Nat × Nat) := [(129, 1), (129, 2), (129, 3), (129, 37), (129, 40), (129, 46), (129, 48), (129, 51), (129, 55), (129, 56), (129, 57), (129, 58), (129, 102)]
theorem Qst.cg {S R S1 R1 : w_S} {f len : Int} {G : Int → Int} (h : Qst S R f len G) (a : ∀ c, 95 ≤ c → c ≤ 102 → S1.1 c = S.1 c) (b : S1.1 94 = S.1 94) (a' : ∀ c, 152 ≤ c → c ≤ 158 → R1.1 c = R.1 c) (b' : R1.1 129 46 = R.1 129 46 ∧ R1.1 129 48 = R.1 129 48 ∧ R1.1 129 40 = R.1 129 40) : Qst S1 R1 f len G := by
  obtain ⟨pr, nt, wb, tms, q1, q2, q3, q4, q5, q6, q7, q8, q9⟩ := h
  refine ⟨pr, nt, wb, tms, ?_, ?_, q3, q4, q5, q6, q7, q8, fun i hi => ?_⟩
  · exact q1.cg (by rw [b]) (a 95 (by omega) (by omega)) (by rw [b]) (a 96 (by omega) (by omega)) (by rw [b])
  · unfold HR at q2 ⊢
    rw [b'.1, b'.2.1, b'.2.2, a' 157 (by omega) (by omega), a' 158 (by omega) (by omega)]
    exact q2
  · obtain ⟨z1, z2, z3⟩ := q9 i hi
    exact ⟨z1, z2.cg (fun c c1 c2 => a c (by omega) (by omega)), z3.cg (fun c c1 c2 => a' c (by omega) (by omega))⟩
/-- find: the answer is the same; what was found before stays where the question is wrong -/
theorem q_find {e : w_E} {N : Nat} {S R : w_S} {top : Int} {ta L E V n : Nat} (hN : 16000000 ≤ N) (htop : top ≤ 10240) (ht : RelTp S R) (hv : RelVr S R top ta L E V n) (hk : RelLk S R) (hn : RelNm S R top) (hAb : RelAb S R) (hG : RelG S R) (hd : R.1 129 12 = S.1 27 1) : Ok (E_C_find e N S) (fun y S1 => Ok (E_R_find e N R) (fun y' R1 => y' = y ∧ S1.1 1 2 = 0 ∧ R1.1 129 1 = 0 ∧ frm QFa [1, 94, 106, 120] QFj S S1 ∧ frm QGa [129] QGj R R1 ∧ ((RelFn S1 R1 ∧ S1.1 106 8 = 0 ∧ R1.1 129 58 = 0) ∨ (S1.1 106 = S.1 106 ∧ S1.1 108 = S.1 108 ∧ R1.1 160 = R.1 160 ∧ R1.1 129 51 = R.1 129 51 ∧ R1.1 129 58 = R.1 129 58)))) := by
  have n150 := hv.2.2.2.2.2.2.2.1
  unfold E_C_find E_R_find E_Tape_openText E_R_takeTape
  have htt := ht
  obtain ⟨t1, t2, t3, t4, t5, t6⟩ := htt
  refine ok_b (ok_nb (by omega) (ok_s ?_))
  dsimp only
  generalize hT : w_put (w_put (w_put (w_put (w_put S 1 3 (S.1 1 1)) 1 4 (S.1 1 1)) 1 5 (S.1 1 1 + S.1 1 2)) 1 6 (-1)) 1 2 0 = T
  generalize hR0 : w_put (w_put R 129 2 (R.1 129 1)) 129 1 0 = R0
  have T2 : T.1 2 = S.1 2 := by rw [← hT]; rfl
  have fS0 : frm QFa [1, 94, 106, 120] QFj S T := by
    rw [← hT]
    repeat (first | exact frm.refl _ _ _ _ | refine frm.put ?_ rfl | refine frm.puto ?_ rfl rfl)
  have fR0 : frm QGa [129] QGj R R0 := by
    rw [← hR0]
    repeat (first | exact frm.refl _ _ _ _ | refine frm.put ?_ rfl | refine frm.puto ?_ rfl rfl)
  have X : TX T (S.1 1 1) (S.1 1 2) (txt R (S.1 1 2)) := tx_open ht T2 (by rw [← hT]; rfl) (by rw [← hT]; rfl)
  have Y : TR R0 (S.1 1 2) (txt R (S.1 1 2)) := by
    rw [← hR0]
    exact tr_open ht
  have e0 : T = tp T (S.1 1 1) (-1) := by
    have k := tp_self T
    rw [show T.1 1 4 = S.1 1 1 by rw [← hT]; rfl, show T.1 1 6 = -1 by rw [← hT]; rfl] at k
    exact k.symm
  have hq := x_ques (e := e) (N := N) (en := -1) (by omega) (Or.inl rfl) X Y
  rw [← e0] at hq
  obtain ⟨v1, S1, hv1, y', R1, hy, T', a', w', q', z1, z2, z3, z4, z5, z6⟩ := hq
  have jm : Jm (S.1 1 1) (S.1 1 2) (txt R (S.1 1 2)) T := ⟨T, S.1 1 1, -1, 0, e0, X, ⟨by omega, by omega, Or.inl ⟨rfl, by omega⟩⟩, by unfold Bd; omega⟩
  have wl : w' ≤ S.1 1 2 := by
    obtain ⟨T2, a2, w2, q2, j1, j2, j3, j4⟩ := pj_q (e := e) (N := N) (by omega) jm v1 S1 hv1
    have k1 : S1.1 1 6 = w' := by rw [z1]; rfl
    have k2 : S1.1 1 6 = w2 := by rw [j1]; rfl
    unfold At at j3
    unfold Bd at j4
    omega
  refine ok_b (ok_of hv1 ?_)
  dsimp only
  have X' : TX T' (S.1 1 1) (S.1 1 2) (txt R (S.1 1 2)) := X.cg (z3.2.1 1 rfl rfl) (z3.2.1 2 rfl rfl)
  have Y' : TR R1 (S.1 1 2) (txt R (S.1 1 2)) := Y.cg (z4.2.2 129 2 rfl rfl) (z4.2.1 130 rfl rfl)
  rw [z1]
  refine ok_b ((x_takeEnd X' z2).mono ?_)
  intro _ S2 ⟨a, w, u1, u2, _⟩
  have hpe : pE (txt R (S.1 1 2)) q' = y' := by
    rw [z5]
    unfold pE
    by_cases c : q' < 0
    · rw [if_pos c, if_neg (by omega)]
    · rw [if_neg c]
      by_cases c2 : txt R (S.1 1 2) q' = -1
      · rw [if_pos c2, if_neg (fun z => z.2 c2)]
      · rw [if_neg c2, if_pos ⟨by omega, c2⟩]
  have yb : -1 - S.1 1 2 ≤ y' := by
    unfold At at z2
    rw [z5]
    split <;> omega
  rw [hpe] at u2
  obtain ⟨v1, v2, v3⟩ := u2
  have fS2 : frm QFa [1, 94, 106, 120] QFj S S2 := by
    rw [u1]
    exact fS0.trans ((z3.weak (by decide)).trans (frm.weak (L := []) (O := [1]) (J := [(1, 4), (1, 6)]) (by unfold tp; repeat (first | exact frm.refl _ _ _ _ | refine frm.put ?_ rfl | refine frm.puto ?_ rfl rfl)) (by decide)))
  have fR1 : frm QGa [129] QGj R R1 := fR0.trans (z4.weak (by decide))
  have ok1 : ∀ b, b ≠ 1 → S2.1 b = T'.1 b := fun b hb => by rw [u1]; exact tpo T' a w hb
  dsimp only
  rw [show S2.1 1 6 = w by rw [u1]; rfl]
  have len : S.1 1 2 ≤ 2000 := t3
  rcases v3 with ⟨w1, w2⟩ | ⟨w1, w2⟩
  rotate_left
  · -- a wrong question
    refine ok_t (by omega) (ok_nb (by omega) (ok_s ?_))
    refine ok_b (ok_s ?_)
    refine ok_b (show Ok _ _ from ⟨_, _, hy, ?_⟩)
    dsimp only
    refine ok_e (by omega) (ok_nb (by omega) (ok_s ⟨by omega, ?_, ?_, fS2, fR1, Or.inr ⟨?_, ?_, ?_, ?_, ?_⟩⟩))
    · rw [u1]
      exact (z3.2.2 1 2 rfl rfl).trans (by rw [← hT]; rfl)
    · rw [z4.2.2 129 1 rfl rfl, ← hR0]; rfl
    · rw [ok1 106 (by decide), z3.2.1 106 rfl rfl, ← hT]; rfl
    · rw [ok1 108 (by decide), z3.2.1 108 rfl rfl, ← hT]; rfl
    · rw [z4.2.1 160 rfl rfl, ← hR0]; rfl
    · rw [z4.2.2 129 51 rfl rfl, ← hR0]; rfl
    · rw [z4.2.2 129 58 rfl rfl, ← hR0]; rfl
  have hqs := z6 (by omega)
  subst w1
  refine ok_e (fun z => z rfl) ?_
  generalize hR2 : w_put R1 129 102 0 = R2
  have fR2 : frm QGa [129] QGj R R2 := fR1.trans (by rw [← hR2]; repeat (first | exact frm.refl _ _ _ _ | refine frm.put ?_ rfl | refine frm.puto ?_ rfl rfl))
  have hQ : Qry S2 R2 (S.1 1 1) (S.1 1 2) (txt R (S.1 1 2)) := by
    refine ⟨hqs.cg (fun c c1 c2 => ok1 c (by omega)) (ok1 94 (by decide)) (fun c c1 c2 => ?_) ⟨?_, ?_, ?_⟩, ?_, ?_, fun p hp => ?_⟩
    · rw [← hR2]
      exact w_put_f (by omega)
    · rw [← hR2]; rfl
    · rw [← hR2]; rfl
    · rw [← hR2]; rfl
    · rw [u1]
      exact X'.tp
    · exact Y'.cg (by rw [← hR2]; rfl) (by rw [← hR2]; rfl)
    · rw [show R2.1 130 = R1.1 130 by rw [← hR2]; rfl, z4.2.1 130 rfl rfl, ← hR0]
      exact (t6 p hp).2
  have hS : SrR S2 R2 (S.1 1 1) (S.1 1 2) (txt R (S.1 1 2)) top ta L E V n := by
    have ca : ∀ c, 2 ≤ c ∧ c ≤ 27 → S2.1 c = S.1 c := fun c hc => fS2.2.1 c (by
      simp only [List.contains_cons, List.contains_nil, Bool.or_false, Bool.or_eq_false_iff, beq_eq_false_iff_ne, ne_eq]
      omega) (by
      simp only [List.contains_cons, List.contains_nil, Bool.or_false, Bool.or_eq_false_iff, beq_eq_false_iff_ne, ne_eq]
      omega)
    have ra : ∀ c, ((136 ≤ c ∧ c ≤ 149) ∨ 238 ≤ c) → R2.1 c = R.1 c := fun c hc => fR2.2.1 c (by
      simp only [List.contains_cons, List.contains_nil, Bool.or_false, Bool.or_eq_false_iff, beq_eq_false_iff_ne, ne_eq]
      omega) (by
      simp only [List.contains_cons, List.contains_nil, Bool.or_false, beq_eq_false_iff_ne, ne_eq]
      omega)
    refine ⟨hQ, hv.fr (fun a ha => ca a (by omega)) (by rw [ca 3 (by omega)]) (by rw [ca 3 (by omega)]) (by rw [ca 27 (by omega)]; exact Int.le_refl _) (fun a ha => ra a (by omega)) (fR2.2.2 129 13 rfl rfl) (fR2.2.2 129 17 rfl rfl) (fR2.2.2 129 23 rfl rfl) fR2.1, hk.fr fS2 fR2 (by decide), hn.fr fS2 fR2 (by decide), hAb.fr fS2 fR2 (by decide), hG.fr fS2 fR2 (by decide), ?_⟩
    rw [fR2.2.2 129 12 rfl rfl, ca 27 (by omega)]
    exact hd
  refine ok_b ((x_search (e := e) hN htop hS).mono ?_)
  intro _ S3 ⟨y3, R3, hy3, L', m1, m2, m3, m4, m5, m6, m7⟩
  refine ok_s ?_
  refine ok_b (ok_s ?_)
  refine ok_b (show Ok _ _ from ⟨_, _, hy, ?_⟩)
  dsimp only
  refine ok_t (by omega) ?_
  rw [hR2]
  refine ok_b (show Ok _ _ from ⟨_, _, hy3, ?_⟩)
  refine ok_s ⟨by rw [m1, m2.1], ?_, ?_, fS2.trans (m6.weak (by decide)), fR2.trans (m7.weak (by decide)), Or.inl ⟨m2.rel (by omega) (fun y hy => ?_), m4, m5⟩⟩
  · rw [m6.2.1 1 rfl rfl, u1]
    exact (z3.2.2 1 2 rfl rfl).trans (by rw [← hT]; rfl)
  · rw [m7.2.2 129 1 rfl rfl, ← hR2]
    show R1.1 129 1 = 0
    rw [z4.2.2 129 1 rfl rfl, ← hR0]; rfl
  · rw [m6.2.1 3 rfl rfl, fS2.2.1 3 rfl rfl, hv.2.2.2.2.2.1]
    have := m3.2 y hy
    omega
end
section
-- ft
/-- a value: its row, how many records have it, the last of them -/
abbrev Vl : Type := List Int × Int × Int
def vl0 : Vl := ([], 0, 0)
/-- a row of a record added to the values -/
def adv (row : List Int) (r : Int) : List Vl → List Vl
  | [] => [(row, 1, r)]
  | v :: l => if v.1 = row then (row, (if v.2.2 = r then v.2.1 else v.2.1 + 1), r) :: l else v :: adv row r l
def vok (A : Nat) (v : Vl) : Prop := vrow v.1 ∧ 0 ≤ v.2.1 ∧ v.2.1 ≤ (A : Int)
theorem adv_len (row : List Int) (r : Int) : ∀ l : List Vl, (adv row r l).length ≤ l.length + 1
  | [] => by rw [adv]; exact Nat.le_refl _
  | v :: l => by
    rw [adv]
    split
    · rw [List.length_cons, List.length_cons]
      omega
    · rw [List.length_cons, List.length_cons]
      have := adv_len row r l
      omega
theorem adv_ok {row : List Int} {r : Int} {A : Nat} (hr : vrow row) : ∀ (l : List Vl), (∀ v, v ∈ l → vok A v) → ∀ v, v ∈ adv row r l → vok (A + 1) v
  | [], h, v, hv => by
    rw [adv, List.mem_singleton] at hv
    subst hv
    exact ⟨hr, by dsimp only; omega, by dsimp only; omega⟩
  | u :: l, h, v, hv => by
    have hu := h u List.mem_cons_self
    have up : ∀ w, w ∈ l → vok (A + 1) w := fun w hw => by
      obtain ⟨a, b, c⟩ := h w (List.mem_cons_of_mem _ hw)
      exact ⟨a, b, by omega⟩
    obtain ⟨a, b, c⟩ := hu
    rw [adv] at hv
    split at hv
    · rcases List.mem_cons.1 hv with z | z
      · subst z
        refine ⟨hr, ?_, ?_⟩
        · dsimp only
          split <;> omega
        · dsimp only
          split <;> omega
      · exact up v z
    · rcases List.mem_cons.1 hv with z | z
      · subst z
        exact ⟨a, b, by omega⟩
      · exact adv_ok hr l (fun w hw => h w (List.mem_cons_of_mem _ hw)) v z
/-- a value held by the class, by the reference -/
def Vc1 (S : w_S) (top : Int) (p : Nat) (v : Vl) : Prop := Rw (S.1 2) top (S.1 112 p) v.1.length (fun u => v.1.getD u 0) ∧ S.1 113 p = v.2.1 ∧ S.1 114 p = v.2.2
def Vr1 (R : w_S) (p : Nat) (v : Vl) : Prop := byt (R.1 163) (40 * p) v.1 ∧ R.1 164 p = (v.1.length : Nat) ∧ R.1 165 p = v.2.1 ∧ R.1 166 p = v.2.2
def Hvc (S : w_S) (top : Int) : Nat → List Vl → Prop
  | _, [] => True
  | p, v :: l => Vc1 S top p v ∧ Hvc S top (p + 1) l
def Hvr (R : w_S) : Nat → List Vl → Prop
  | _, [] => True
  | p, v :: l => Vr1 R p v ∧ Hvr R (p + 1) l
theorem Hvc.cg {S S1 : w_S} {top : Int} : ∀ {l : List Vl} {p : Nat}, Hvc S top p l → S1.1 2 = S.1 2 → (∀ k, p ≤ k → k < p + l.length → S1.1 112 k = S.1 112 k ∧ S1.1 113 k = S.1 113 k ∧ S1.1 114 k = S.1 114 k) → Hvc S1 top p l
  | [], _, _, _, _ => trivial
  | v :: l, p, h, h2, hk => by
    rw [List.length_cons] at hk
    obtain ⟨⟨a, b, c⟩, d⟩ := h
    obtain ⟨k1, k2, k3⟩ := hk p (by omega) (by omega)
    exact ⟨⟨by rw [h2, k1]; exact a, by rw [k2]; exact b, by rw [k3]; exact c⟩, Hvc.cg d h2 (fun k q1 q2 => hk k (by omega) (by omega))⟩
theorem Hvr.cg {R R1 : w_S} : ∀ {l : List Vl} {p : Nat}, Hvr R p l → (∀ v, v ∈ l → v.1.length ≤ 40) → (∀ k, p ≤ k → k < p + l.length → R1.1 164 k = R.1 164 k ∧ R1.1 165 k = R.1 165 k ∧ R1.1 166 k = R.1 166 k) → (∀ k, 40 * p ≤ k → k < 40 * (p + l.length) → R1.1 163 k = R.1 163 k) → Hvr R1 p l
  | [], _, _, _, _, _ => trivial
  | v :: l, p, h, h0, hk, hb => by
    rw [List.length_cons] at hk hb
    obtain ⟨⟨z, a, b, c⟩, d⟩ := h
    have l40 := h0 v List.mem_cons_self
    obtain ⟨k1, k2, k3⟩ := hk p (by omega) (by omega)
    exact ⟨⟨byt_congr z (fun q hq => hb _ (by omega) (by omega)), by rw [k1]; exact a, by rw [k2]; exact b, by rw [k3]; exact c⟩, Hvr.cg d (fun w hw => h0 w (List.mem_cons_of_mem _ hw)) (fun k q1 q2 => hk k (by omega) (by omega)) (fun k q1 q2 => hb k (by omega) (by omega))⟩
theorem getD_el {l : List Int} {k : Nat} (h : k < l.length) : l.getD k 0 = l[k] := by
  rw [List.getD_eq_getElem?_getD, List.getElem?_eq_getElem h]
  rfl
/-- two rows are the same -/
theorem row_eqv {g h : Nat → Int} {a b : List Int} (ha : ∀ k, k < a.length → g k = a.getD k 0) (hb : ∀ k, k < b.length → h k = b.getD k 0) (h40 : a.length ≤ 64) : cmr g h a.length b.length 64 0 = 0 ↔ a = b := by
  rw [cmr_zero 64 0 (by omega)]
  constructor
  · intro ⟨z1, z2⟩
    refine List.ext_getElem z1 (fun k q1 q2 => ?_)
    have := z2 k (by omega) q1
    rw [ha k q1, hb k q2, getD_el q1, getD_el q2] at this
    exact this
  · intro z
    subst z
    exact ⟨rfl, fun k _ q => by rw [ha k q, hb k q]⟩
abbrev VCj : List (Nat × Nat) := [(106, 9)]
theorem l_adC {e : w_E} {N A : Nat} {S : w_S} {top x1 r : Int} {row : List Int} (hN : 1000 ≤ N) (htop : top ≤ 10240) (hs : ∀ j, -128 ≤ S.1 2 j ∧ S.1 2 j ≤ 127) (hx : Rw (S.1 2) top x1 row.length (fun u => row.getD u 0)) (hr : vrow row) (hA : A ≤ 1800) : ∀ (l : List Vl) (p nf : Nat), S.1 106 9 = ((p + l.length : Nat) : Int) → p + l.length < 1800 → (∀ v, v ∈ l → vok A v) → Hvc S top p l → l.length < nf → Ok (El_Desk_addValue e N nf 0 [x1, r, (p : Int)] [] S) (fun _ S1 => frm [112, 113, 114] [106] VCj S S1 ∧ S1.1 106 9 = ((p + (adv row r l).length : Nat) : Int) ∧ Hvc S1 top p (adv row r l) ∧ ∀ k, k < p → S1.1 112 k = S.1 112 k ∧ S1.1 113 k = S.1 113 k ∧ S1.1 114 k = S.1 114 k)
  | _, _, 0, _, _, _, _, h => by omega
  | [], p, nf + 1, g1, g2, g3, g4, g5 => by
    rw [List.length_nil] at g1 g2
    rw [El_Desk_addValue, g1, show (((p + 0 : Nat) : Int)).toNat = p by omega]
    refine ok_t (by omega) (ok_e (by omega) (ok_ib (by omega) (ok_nb (by omega) (ok_s ?_))))
    refine ⟨by repeat (first | exact frm.refl _ _ _ _ | refine frm.put ?_ rfl | refine frm.puto ?_ rfl rfl), ?_, ?_, fun k hk => ?_⟩
    · rw [adv]
      simp only [w_put_r, reduceIte, Nat.reduceEqDiff, pt_at]
      rw [List.length_singleton]
      omega
    · rw [adv]
      refine ⟨⟨?_, ?_, ?_⟩, trivial⟩
      · simp only [w_put_r, reduceIte, Nat.reduceEqDiff, pt_at]
        exact hx
      · simp only [w_put_r, reduceIte, Nat.reduceEqDiff, pt_at]
      · simp only [w_put_r, reduceIte, Nat.reduceEqDiff, pt_at]
    · simp only [w_put_r, reduceIte, Nat.reduceEqDiff, pt_at]
      rw [if_neg (by omega), if_neg (by omega), if_neg (by omega)]
      exact ⟨rfl, rfl, rfl⟩
  | v :: l, p, nf + 1, g1, g2, g3, g4, g5 => by
    rw [List.length_cons] at g1 g2 g5
    obtain ⟨⟨v1, v2, v3⟩, v4⟩ := g4
    obtain ⟨a, a1, a2, a3⟩ := v1
    obtain ⟨b, b1, b2, b3⟩ := hx
    have vk := g3 v List.mem_cons_self
    have m1 := vk.1.2.1
    have m2 := hr.2.1
    rw [El_Desk_addValue, g1, show ((p : Int)).toNat = p by omega, a1, b1]
    refine ok_e (by omega) (ok_ib (by omega) (ok_b (ok_of (x_cmp (e := e) hN (by omega) (by omega) (by omega) (by omega) hs) ?_)))
    dsimp only
    have re := row_eqv (g := fun j => S.1 2 (a + j)) (h := fun j => S.1 2 (b + j)) (a := v.1) (b := row) a3 b3 (by omega)
    rw [adv, v2, v3]
    by_cases c : v.1 = row
    rotate_left
    · rw [if_neg c]
      refine ok_t (fun z => c (re.1 z)) (ok_nb (by omega) ?_)
      rw [show (p : Int) + 1 = ((p + 1 : Nat) : Int) by omega, ← b1]
      refine (l_adC hN htop hs ⟨b, b1, b2, b3⟩ hr hA l (p + 1) nf (by rw [g1]; omega) (by omega) (fun w hw => g3 w (List.mem_cons_of_mem _ hw)) v4 (by omega)).mono ?_
      intro _ S1 ⟨q1, q2, q3, q4⟩
      refine ⟨q1, by rw [q2, List.length_cons]; omega, ⟨⟨?_, ?_, ?_⟩, q3⟩, fun k hk => q4 k (by omega)⟩
      · rw [(q4 p (by omega)).1, q1.2.1 2 rfl rfl]
        exact ⟨a, a1, a2, a3⟩
      · rw [(q4 p (by omega)).2.1]
        exact v2
      · rw [(q4 p (by omega)).2.2]
        exact v3
    · rw [if_pos c]
      have cz := re.2 c
      have k0 := vk.2.1
      have k1 := vk.2.2
      refine ok_e (fun z => z cz) ?_
      have fin : ∀ x : Int, x = (if v.2.2 = r then v.2.1 else v.2.1 + 1) → (frm [112, 113, 114] [106] VCj S (w_put (w_put S 113 p x) 114 p r) ∧ (w_put (w_put S 113 p x) 114 p r).1 106 9 = ((p + ((row, (if v.2.2 = r then v.2.1 else v.2.1 + 1), r) :: l).length : Nat) : Int) ∧ Hvc (w_put (w_put S 113 p x) 114 p r) top p ((row, (if v.2.2 = r then v.2.1 else v.2.1 + 1), r) :: l) ∧ ∀ k, k < p → (w_put (w_put S 113 p x) 114 p r).1 112 k = S.1 112 k ∧ (w_put (w_put S 113 p x) 114 p r).1 113 k = S.1 113 k ∧ (w_put (w_put S 113 p x) 114 p r).1 114 k = S.1 114 k) := by
        intro x hx
        refine ⟨by repeat (first | exact frm.refl _ _ _ _ | refine frm.put ?_ rfl | refine frm.puto ?_ rfl rfl), ?_, ⟨⟨?_, ?_, ?_⟩, ?_⟩, fun k hk => ?_⟩
        · simp only [w_put_r, reduceIte, Nat.reduceEqDiff, pt_at]
          rw [g1, List.length_cons]
        · simp only [w_put_r, reduceIte, Nat.reduceEqDiff, pt_at]
          rw [← c]
          exact ⟨a, a1, a2, a3⟩
        · simp only [w_put_r, reduceIte, Nat.reduceEqDiff, pt_at]
          exact hx
        · simp only [w_put_r, reduceIte, Nat.reduceEqDiff, pt_at]
        · refine v4.cg rfl (fun k q1 q2 => ?_)
          simp only [w_put_r, reduceIte, Nat.reduceEqDiff, pt_at]
          rw [if_neg (by omega), if_neg (by omega)]
          exact ⟨trivial, rfl, rfl⟩
        · simp only [w_put_r, reduceIte, Nat.reduceEqDiff, pt_at]
          rw [if_neg (by omega), if_neg (by omega)]
          exact ⟨trivial, rfl, rfl⟩
      by_cases c2 : v.2.2 = r
      · refine ok_e (fun z => z c2) (ok_nb (by omega) (ok_s (fin _ ?_)))
        rw [if_pos c2]
        omega
      · refine ok_t c2 (ok_nb (by omega) (ok_s (fin _ ?_)))
        rw [if_neg c2]
end
section
-- fu
theorem l_isv {e : w_E} {N p x2 m : Nat} {R : w_S} (hp : p < 1800) (hm : m ≤ 40) (hx : x2 + m ≤ 4000) : ∀ (a b : List Int) (i nf : Nat), a.length = b.length → i + a.length = m → byt (R.1 163) (40 * p + i) a → byt (R.1 150) (x2 + i) b → a.length + 1 < nf → El_R_isValue e N nf 0 [(p : Int), (x2 : Int), ((x2 + m : Nat) : Int), 1, (i : Int)] [] R = some ((if a = b then 1 else 0), R)
  | _, _, _, 0, _, _, _, _, h => by omega
  | [], b, i, nf + 1, g1, g2, g3, g4, g5 => by
    rw [List.length_nil] at g1 g2
    have hb : b = [] := List.length_eq_zero_iff.1 g1.symm
    rw [if_pos hb.symm]
    refine ok_eq ?_
    rw [El_R_isValue]
    exact ok_nb (by omega) (ok_t (by omega) (ok_t (Or.inr rfl) (ok_s ⟨rfl, rfl⟩)))
  | x :: a, [], i, nf + 1, g1, _, _, _, _ => by
    rw [List.length_nil, List.length_cons] at g1
    omega
  | x :: a, y :: b, i, nf + 1, g1, g2, g3, g4, g5 => by
    rw [List.length_cons, List.length_cons] at g1
    rw [List.length_cons] at g2 g5
    have h1 : R.1 163 (40 * p + i) = x := g3.1
    have h2 : R.1 150 (x2 + i) = y := g4.1
    refine ok_eq ?_
    rw [El_R_isValue, show (40 * (p : Int) + (i : Int)).toNat = 40 * p + i by omega, show ((x2 : Int) + (i : Int)).toNat = x2 + i by omega, h1, h2]
    refine ok_nb (by omega) (ok_e (by omega) (ok_e (by decide) (ok_nb (by omega) (ok_nb (by omega) (ok_ib (by omega) (ok_nb (by omega) (ok_ib (by omega) ?_)))))))
    by_cases c : x = y
    · have ih := l_isv (e := e) (N := N) hp hm hx a b (i + 1) nf (by omega) (by omega) g3.2 g4.2 (by omega)
      rw [show ((i + 1 : Nat) : Int) = (i : Int) + 1 by omega] at ih
      refine ok_e (fun z => z c) (ok_nb (by omega) (ok_of ih ⟨?_, rfl⟩))
      subst c
      by_cases d : a = b
      · rw [if_pos d, if_pos (by rw [d])]
      · rw [if_neg d, if_neg (fun z => d (List.cons.inj z).2)]
    · refine ok_t c (ok_nb (by omega) ?_)
      rw [if_neg (fun z => c (List.cons.inj z).1)]
      cases nf with
      | zero => omega
      | succ nf =>
        rw [El_R_isValue]
        refine ok_nb (by omega) ?_
        by_cases d : ((x2 + m : Nat) : Int) - (x2 : Int) ≤ (i : Int) + 1
        · exact ok_t d (ok_t (Or.inl rfl) (ok_s ⟨rfl, rfl⟩))
        · exact ok_e d (ok_t rfl (ok_t (Or.inl rfl) (ok_s ⟨rfl, rfl⟩)))
theorem x_isv {e : w_E} {N p x2 : Nat} {R : w_S} {v : Vl} {row : List Int} (hN : 1000 ≤ N) (hp : p < 1800) (hr : vrow row) (hx : x2 + row.length ≤ 4000) (hv : Vr1 R p v) (hb : byt (R.1 150) x2 row) : E_R_isValue e N (p : Int) (x2 : Int) ((x2 + row.length : Nat) : Int) R = some ((if v.1 = row then 1 else 0), R) := by
  obtain ⟨v1, v2, v3, v4⟩ := hv
  have r1 := hr.1
  have r2 := hr.2.1
  refine ok_eq ?_
  unfold E_R_isValue
  rw [show ((p : Int)).toNat = p by omega, v2]
  refine ok_ib (by omega) (ok_nb (by omega) ?_)
  by_cases c : v.1.length = row.length
  · refine ok_e (by omega) (ok_of (l_isv (m := row.length) (i := 0) hp r2 hx v.1 row N c (by omega) v1 hb (by omega)) ⟨rfl, rfl⟩)
  · refine ok_t (by omega) ?_
    rw [if_neg (fun z => c (by rw [z]))]
    cases N with
    | zero => omega
    | succ N =>
      rw [El_R_isValue]
      exact ok_nb (by omega) (ok_e (by omega) (ok_t rfl (ok_t (Or.inl rfl) (ok_s ⟨rfl, rfl⟩))))
abbrev VRa : List Nat := [163, 164, 165, 166]
abbrev VRj : List (Nat × Nat) := [(129, 60)]
theorem l_adR1 {e : w_E} {N p x2 m : Nat} {r : Int} (hp : p < 1800) (hm : m ≤ 40) (hx : x2 + m ≤ 4000) (hr1 : 1 ≤ r) : ∀ (b dn : List Int) (nf : Nat) (R : w_S), dn.length + b.length = m → byt (R.1 150) (x2 + dn.length) b → byt (R.1 163) (40 * p) dn → (∀ y, y ∈ b → 0 ≤ y ∧ y ≤ 127) → R.1 129 60 = (p : Int) → R.1 164 p = (m : Nat) → R.1 165 p = 0 → R.1 166 p = 0 → b.length < nf → Ok (El_R_addValue e N nf 1 [r, (x2 : Int), ((x2 + m : Nat) : Int), (p : Int), (dn.length : Int)] [] R) (fun _ R1 => frm VRa [129] VRj R R1 ∧ R1.1 129 60 = (p : Int) + 1 ∧ Vr1 R1 p (dn ++ b, 1, r) ∧ (∀ k, k < p → R1.1 164 k = R.1 164 k ∧ R1.1 165 k = R.1 165 k ∧ R1.1 166 k = R.1 166 k) ∧ ∀ k, k < 40 * p → R1.1 163 k = R.1 163 k)
  | _, _, 0, _, _, _, _, _, _, _, _, _, h => by omega
  | [], dn, nf + 1, R, g1, g2, g3, g4, g5, g6, g7, g8, g9 => by
    rw [List.length_nil] at g1
    rw [El_R_addValue, show ((p : Int)).toNat = p by omega, g5, g7, g8]
    refine ok_nb (by omega) (ok_t (by omega) (ok_nb (by omega) (ok_ib (by omega) (ok_t (by omega) (ok_nb (by omega) (ok_s ?_))))))
    refine ⟨by repeat (first | exact frm.refl _ _ _ _ | refine frm.put ?_ rfl | refine frm.puto ?_ rfl rfl), by simp only [w_put_r, reduceIte, Nat.reduceEqDiff, pt_at], ?_, fun k hk => ?_, fun k hk => by simp only [w_put_r, reduceIte, Nat.reduceEqDiff, pt_at]⟩
    · rw [List.append_nil]
      refine ⟨?_, ?_, ?_, ?_⟩
      · simp only [w_put_r, reduceIte, Nat.reduceEqDiff, pt_at]
        exact g3
      · simp only [w_put_r, reduceIte, Nat.reduceEqDiff, pt_at]
        rw [g6]
        omega
      · simp only [w_put_r, reduceIte, Nat.reduceEqDiff, pt_at]
        omega
      · simp only [w_put_r, reduceIte, Nat.reduceEqDiff, pt_at]
    · simp only [w_put_r, reduceIte, Nat.reduceEqDiff, pt_at]
      rw [if_neg (by omega), if_neg (by omega)]
      exact ⟨trivial, rfl, rfl⟩
  | y :: b, dn, nf + 1, R, g1, g2, g3, g4, g5, g6, g7, g8, g9 => by
    rw [List.length_cons] at g1 g9
    have hb : R.1 150 (x2 + dn.length) = y := g2.1
    have yb := g4 y List.mem_cons_self
    rw [El_R_addValue, show (40 * (p : Int) + (dn.length : Int)).toNat = 40 * p + dn.length by omega, show ((x2 : Int) + (dn.length : Int)).toNat = x2 + dn.length by omega, hb, w_b_id (by omega) (by omega)]
    refine ok_nb (by omega) (ok_e (by omega) (ok_nb (by omega) (ok_nb (by omega) (ok_nb (by omega) (ok_ib (by omega) (ok_ib (by omega) (ok_nb (by omega) ?_)))))))
    generalize hR : w_put R 163 (40 * p + dn.length) y = R1
    have f1 : frm VRa [129] VRj R R1 := by
      rw [← hR]
      repeat (first | exact frm.refl _ _ _ _ | refine frm.put ?_ rfl | refine frm.puto ?_ rfl rfl)
    have a1 : ∀ j, R1.1 163 j = if j = 40 * p + dn.length then y else R.1 163 j := fun j => by
      rw [← hR]
      show pt (R.1 163) _ y j = _
      rw [pt_at]
    have ot : ∀ c, c ≠ 163 → R1.1 c = R.1 c := fun c hc => by
      rw [← hR]
      exact w_put_f hc
    have l1 : (dn ++ [y]).length = dn.length + 1 := by rw [List.length_append, List.length_singleton]
    have key := l_adR1 (e := e) (N := N) (x2 := x2) hp hm hx hr1 b (dn ++ [y]) nf R1 (by omega) (by rw [l1, ot 150 (by decide)]; exact g2.2) (by
      rw [byt_app]
      refine ⟨byt_congr g3 (fun k hk => by rw [a1, if_neg (by omega)]), ?_, trivial⟩
      rw [a1, if_pos rfl]) (fun z hz => g4 z (List.mem_cons_of_mem _ hz)) (by rw [ot 129 (by decide)]; exact g5) (by rw [ot 164 (by decide)]; exact g6) (by rw [ot 165 (by decide)]; exact g7) (by rw [ot 166 (by decide)]; exact g8) (by omega)
    rw [l1, show ((dn.length + 1 : Nat) : Int) = (dn.length : Int) + 1 by omega, List.append_assoc] at key
    refine key.mono ?_
    intro _ R2 ⟨q1, q2, q3, q4, q5⟩
    refine ⟨f1.trans q1, q2, q3, fun k hk => ?_, fun k hk => ?_⟩
    · rw [← ot 164 (by decide), ← ot 165 (by decide), ← ot 166 (by decide)]
      exact q4 k hk
    · rw [q5 k hk, a1, if_neg (by omega)]
theorem l_adR {e : w_E} {N A x2 : Nat} {R : w_S} {r : Int} {row : List Int} (hN : 1000 ≤ N) (hb : byt (R.1 150) x2 row) (hx : x2 + row.length ≤ 4000) (hr : vrow row) (hA : A ≤ 1800) (hr1 : 1 ≤ r) : ∀ (l : List Vl) (p nf : Nat), R.1 129 60 = ((p + l.length : Nat) : Int) → p + l.length < 1800 → (∀ v, v ∈ l → vok A v) → Hvr R p l → l.length + 50 < nf → Ok (El_R_addValue e N nf 0 [r, (x2 : Int), ((x2 + row.length : Nat) : Int), (p : Int)] [] R) (fun _ R1 => frm VRa [129] VRj R R1 ∧ R1.1 129 60 = ((p + (adv row r l).length : Nat) : Int) ∧ Hvr R1 p (adv row r l) ∧ (∀ k, k < p → R1.1 164 k = R.1 164 k ∧ R1.1 165 k = R.1 165 k ∧ R1.1 166 k = R.1 166 k) ∧ ∀ k, k < 40 * p → R1.1 163 k = R.1 163 k)
  | _, _, 0, _, _, _, _, h => by omega
  | [], p, nf + 1, g1, g2, g3, g4, g5 => by
    have r2 := hr.2.1
    rw [List.length_nil] at g1 g2 g5
    rw [El_R_addValue, g1, show ((p : Int)).toNat = p by omega]
    refine ok_t (by omega) (ok_e (by omega) (ok_nb (by omega) (ok_ib (by omega) ?_)))
    generalize hR : w_put (w_put (w_put R 164 p (((x2 + row.length : Nat) : Int) - (x2 : Int))) 165 p 0) 166 p 0 = R1
    have f1 : frm VRa [129] VRj R R1 := by
      rw [← hR]
      repeat (first | exact frm.refl _ _ _ _ | refine frm.put ?_ rfl | refine frm.puto ?_ rfl rfl)
    have key := l_adR1 (e := e) (N := N) (x2 := x2) (p := p) (m := row.length) (by omega) r2 hx hr1 row [] nf R1 (by rw [List.length_nil]; omega) (by rw [f1.2.1 150 rfl rfl]; exact hb) trivial (vrow_b hr) (by rw [show R1.1 129 60 = R.1 129 60 by rw [← hR]; rfl, g1]; omega) (by rw [← hR]; simp only [w_put_r, reduceIte, Nat.reduceEqDiff, pt_at]; omega) (by rw [← hR]; simp only [w_put_r, reduceIte, Nat.reduceEqDiff, pt_at]) (by rw [← hR]; simp only [w_put_r, reduceIte, Nat.reduceEqDiff, pt_at]) (by omega)
    refine key.mono ?_
    intro _ R2 ⟨q1, q2, q3, q4, q5⟩
    rw [adv, List.length_singleton]
    refine ⟨f1.trans q1, by rw [q2]; omega, ⟨q3, trivial⟩, fun k hk => ?_, fun k hk => ?_⟩
    · obtain ⟨u1, u2, u3⟩ := q4 k hk
      rw [u1, u2, u3, ← hR]
      simp only [w_put_r, reduceIte, Nat.reduceEqDiff, pt_at]
      rw [if_neg (by omega), if_neg (by omega), if_neg (by omega)]
      exact ⟨rfl, rfl, rfl⟩
    · rw [q5 k hk, ← hR]
      simp only [w_put_r, reduceIte, Nat.reduceEqDiff, pt_at]
  | v :: l, p, nf + 1, g1, g2, g3, g4, g5 => by
    rw [List.length_cons] at g1 g2 g5
    obtain ⟨v0, v4⟩ := g4
    have vk := g3 v List.mem_cons_self
    have m1 := vk.1.2.1
    have iv := x_isv (e := e) (N := N) hN (show p < 1800 by omega) hr hx v0 hb
    obtain ⟨u1, u2, u3, u4⟩ := v0
    rw [El_R_addValue, g1, show ((p : Int)).toNat = p by omega]
    refine ok_e (by omega) (ok_b (ok_of iv ?_))
    dsimp only
    rw [adv, g1, u3, u4]
    by_cases c : v.1 = row
    rotate_left
    · rw [if_neg c, if_neg c]
      refine ok_e (fun z => z rfl) (ok_nb (by omega) ?_)
      rw [show (p : Int) + 1 = ((p + 1 : Nat) : Int) by omega]
      refine (l_adR hN hb hx hr hA hr1 l (p + 1) nf (by rw [g1]; omega) (by omega) (fun w hw => g3 w (List.mem_cons_of_mem _ hw)) v4 (by omega)).mono ?_
      intro _ R1 ⟨q1, q2, q3, q4, q5⟩
      refine ⟨q1, by rw [q2, List.length_cons]; omega, ⟨⟨?_, ?_, ?_, ?_⟩, q3⟩, fun k hk => q4 k (by omega), fun k hk => q5 k (by omega)⟩
      · exact byt_congr u1 (fun k hk => q5 _ (by omega))
      · rw [(q4 p (by omega)).1]
        exact u2
      · rw [(q4 p (by omega)).2.1]
        exact u3
      · rw [(q4 p (by omega)).2.2]
        exact u4
    · rw [if_pos c, if_pos c]
      have k0 := vk.2.1
      have k1 := vk.2.2
      refine ok_t (show (1 : Int) ≠ 0 by decide) (ok_t (by omega) (ok_ib (by omega) ?_))
      have fin : ∀ x : Int, x = (if v.2.2 = r then v.2.1 else v.2.1 + 1) → (frm VRa [129] VRj R (w_put (w_put R 165 p x) 166 p r) ∧ (w_put (w_put R 165 p x) 166 p r).1 129 60 = ((p + ((row, (if v.2.2 = r then v.2.1 else v.2.1 + 1), r) :: l).length : Nat) : Int) ∧ Hvr (w_put (w_put R 165 p x) 166 p r) p ((row, (if v.2.2 = r then v.2.1 else v.2.1 + 1), r) :: l) ∧ (∀ k, k < p → (w_put (w_put R 165 p x) 166 p r).1 164 k = R.1 164 k ∧ (w_put (w_put R 165 p x) 166 p r).1 165 k = R.1 165 k ∧ (w_put (w_put R 165 p x) 166 p r).1 166 k = R.1 166 k) ∧ ∀ k, k < 40 * p → (w_put (w_put R 165 p x) 166 p r).1 163 k = R.1 163 k) := by
        intro x hx
        refine ⟨by repeat (first | exact frm.refl _ _ _ _ | refine frm.put ?_ rfl | refine frm.puto ?_ rfl rfl), ?_, ⟨⟨?_, ?_, ?_, ?_⟩, ?_⟩, fun k hk => ?_, fun k hk => by simp only [w_put_r, reduceIte, Nat.reduceEqDiff, pt_at]⟩
        · simp only [w_put_r, reduceIte, Nat.reduceEqDiff, pt_at]
          rw [g1, List.length_cons]
        · simp only [w_put_r, reduceIte, Nat.reduceEqDiff, pt_at]
          rw [← c]
          exact u1
        · simp only [w_put_r, reduceIte, Nat.reduceEqDiff, pt_at]
          rw [← c]
          exact u2
        · simp only [w_put_r, reduceIte, Nat.reduceEqDiff, pt_at]
          exact hx
        · simp only [w_put_r, reduceIte, Nat.reduceEqDiff, pt_at]
        · refine v4.cg (fun w hw => (g3 w (List.mem_cons_of_mem _ hw)).1.2.1) (fun k q1 q2 => ?_) (fun k q1 q2 => by simp only [w_put_r, reduceIte, Nat.reduceEqDiff, pt_at])
          simp only [w_put_r, reduceIte, Nat.reduceEqDiff, pt_at]
          rw [if_neg (by omega), if_neg (by omega)]
          exact ⟨trivial, rfl, rfl⟩
        · simp only [w_put_r, reduceIte, Nat.reduceEqDiff, pt_at]
          rw [if_neg (by omega), if_neg (by omega)]
          exact ⟨trivial, rfl, rfl⟩
      by_cases c2 : v.2.2 = r
      · refine ok_e (fun z => z c2) (ok_nb (by omega) (ok_s (fin _ ?_)))
        rw [if_pos c2]
        omega
      · refine ok_t c2 (ok_nb (by omega) (ok_s (fin _ ?_)))
        rw [if_neg c2]
end
