section
-- h0
theorem frb_nt {a : Nat} (h : 238 ≤ a) : w_frb Tr B_R_note_129 a = false := by
  have e1 : Nat.testBit B_R_note_129 301 = true := by decide +kernel
  have e2 : Nat.blt a 129 = false := by
    cases q : Nat.blt a 129 with
    | false => rfl
    | true =>
      have q2 : Nat.ble (a + 1) 129 = true := q
      rw [Nat.ble_eq] at q2
      omega
  unfold w_frb
  rw [Tr_new h, Tr_new2 h, e1, e2]
  cases Nat.testBit B_R_note_129 a <;> rfl
/-- how long the reference's array of the log's texts is -/
def sl (S : w_S) : Nat := (e_len Tr S (S.2.1 1) 1).getD 0
theorem sl_of {S : w_S} {a L : Nat} (h : S.2.1 1 = a) (k : e_len Tr S a 1 = some L) : sl S = L := by
  unfold sl
  rw [h, k]
  rfl
/-- where the reference keeps its log, and the texts of it -/
def Sd (R : w_S) (sa Ls : Nat) : Prop := R.2.1 0 = 131 ∧ R.2.1 1 = sa ∧ (sa = 132 ∨ 238 ≤ sa) ∧ sa < R.2.2.2.1 ∧ e_len Tr R sa 1 = some Ls ∧ 4096 ≤ Ls ∧ Ls < 20481 ∧ e_len Tr R 131 0 = some 3584
/-- an entry more in the log -/
def nput (S : w_S) (t : Nat) (x1 x2 x3 x4 x5 x7 x6 : Int) : w_S := w_put (w_put (w_put (w_put (w_put (w_put (w_put (w_put S 131 (7 * t) x1) 131 (7 * t + 1) x2) 131 (7 * t + 2) x3) 131 (7 * t + 3) x4) 131 (7 * t + 4) x5) 131 (7 * t + 5) x7) 131 (7 * t + 6) x6) 129 7 ((t : Int) + 1)
theorem any_len {S : w_S} {a L k : Nat} (h : e_len Tr S a k = some L) (hk : k = 0 ∨ k = 1) : e_any Tr S a = some L := by
  unfold e_len at h
  unfold e_any
  cases q : w_a Tr S a with
  | none =>
    rw [q] at h
    cases h
  | some z =>
    obtain ⟨u, n⟩ := z
    rw [q] at h
    dsimp only at h ⊢
    by_cases c : u = k
    · rw [if_pos c] at h
      rw [if_pos (by omega)]
      exact h
    · rw [if_neg c] at h
      cases h
theorem l_nt2 {e : w_E} {N sa Ls t F n : Nat} {x1 x2 x3 x4 x5 : Int} (ht : t < 512) (hF : F + n ≤ Ls) (hL : Ls < 2000000000) (hn : n ≤ 2000) (h130 : sa ≠ 130) (h129 : sa ≠ 129) (hfr : w_frb Tr B_R_note_129 sa = false) (hf1 : w_frb Tr B_R_note_129 131 = false) : ∀ (k j nf : Nat) (S : w_S), j + k = n → k < nf → S.2.1 0 = 131 → S.2.1 1 = sa → e_len Tr S sa 1 = some Ls → e_len Tr S 131 0 = some 3584 → S.1 129 7 = t → El_R_note e N nf 2 [x1, x2, x3, x4, x5, (n : Int), (F : Int), (j : Int)] [] S = some (0, nput (cpb S 130 sa F j n) t x1 x2 x3 x4 x5 (F : Int) (n : Int))
  | _, _, 0, _, _, h, _, _, _, _, _ => by omega
  | 0, j, nf + 1, S, g1, g2, g3, g4, g5, g6, g7 => by
    have : j = n := by omega
    subst this
    rw [cpb_0]
    have e0 : (7 * (t : Int)).toNat = 7 * t := by omega
    have e1 : (7 * (t : Int) + 1).toNat = 7 * t + 1 := by omega
    have e2 : (7 * (t : Int) + 2).toNat = 7 * t + 2 := by omega
    have e3 : (7 * (t : Int) + 3).toNat = 7 * t + 3 := by omega
    have e4 : (7 * (t : Int) + 4).toNat = 7 * t + 4 := by omega
    have e5 : (7 * (t : Int) + 5).toNat = 7 * t + 5 := by omega
    have e6 : (7 * (t : Int) + 6).toNat = 7 * t + 6 := by omega
    refine ok_eq ?_
    rw [El_R_note, g7, g3, e0, e1, e2, e3, e4, e5, e6]
    have r7 : (w_put (w_put (w_put (w_put (w_put (w_put (w_put S 131 (7 * t) x1) 131 (7 * t + 1) x2) 131 (7 * t + 2) x3) 131 (7 * t + 3) x4) 131 (7 * t + 4) x5) 131 (7 * t + 5) (F : Int)) 131 (7 * t + 6) (j : Int)).1 129 7 = (t : Int) := by
      simp only [w_put_r, reduceIte, Nat.reduceEqDiff, pt_at]
      exact g7
    rw [r7]
    have gl : ∀ (k : Nat) (x : Int) (T : w_S), e_len Tr T 131 0 = some 3584 → e_len Tr (w_put T 131 k x) 131 0 = some 3584 := fun _ _ _ h => h
    have k1 := gl (7 * t) x1 S g6
    have k2 := gl (7 * t + 1) x2 _ k1
    have k3 := gl (7 * t + 2) x3 _ k2
    have k4 := gl (7 * t + 3) x4 _ k3
    have k5 := gl (7 * t + 4) x5 _ k4
    have k6 := gl (7 * t + 5) (F : Int) _ k5
    refine ok_t (by omega) (ok_nb (by omega) (ok_t hf1 (ok_len g6 ?_)))
    with_reducible refine ok_t (by omega) (ok_t (by omega) (ok_nb (by omega) (ok_t hf1 (ok_len k1 ?_))))
    with_reducible refine ok_t (by omega) (ok_t (by omega) (ok_nb (by omega) (ok_t hf1 (ok_len k2 ?_))))
    with_reducible refine ok_t (by omega) (ok_t (by omega) (ok_nb (by omega) (ok_t hf1 (ok_len k3 ?_))))
    with_reducible refine ok_t (by omega) (ok_t (by omega) (ok_nb (by omega) (ok_t hf1 (ok_len k4 ?_))))
    with_reducible refine ok_t (by omega) (ok_t (by omega) (ok_nb (by omega) (ok_t hf1 (ok_len k5 ?_))))
    with_reducible refine ok_t (by omega) (ok_t (by omega) (ok_nb (by omega) (ok_t hf1 (ok_len k6 ?_))))
    with_reducible refine ok_t (by omega) (ok_t (by omega) (ok_nb (by omega) ?_))
    exact ok_s ⟨rfl, rfl⟩
  | k + 1, j, nf + 1, S, g1, g2, g3, g4, g5, g6, g7 => by
    have ih := l_nt2 (e := e) (N := N) (sa := sa) (Ls := Ls) (t := t) (F := F) (n := n) (x1 := x1) (x2 := x2) (x3 := x3) (x4 := x4) (x5 := x5) ht hF hL hn h130 h129 hfr hf1 k (j + 1) nf (w_put S sa (F + j) (w_b (S.1 130 j))) (by omega) (by omega) g3 g4 g5 g6 (by rw [w_put_r, if_neg (Ne.symm h129)]; exact g7)
    rw [cpb_s S (Ne.symm h130) (by omega), show ((j + 1 : Nat) : Int) = (j : Int) + 1 by omega] at ih
    refine ok_eq ?_
    rw [El_R_note, g4, show ((F : Int) + (j : Int)).toNat = F + j by omega, show ((j : Int)).toNat = j by omega]
    refine ok_e (by omega) (ok_nb (by omega) (ok_ib (by omega) (ok_t hfr (ok_len g5 ?_))))
    with_reducible refine ok_t (by omega) (ok_t (by omega) (ok_nb (by omega) ?_))
    exact ok_of ih ⟨rfl, rfl⟩
/-- bytes copied from the old array of texts into the new one -/
theorem l_nt3 {e : w_E} {N sa a4 Ls L4 F : Nat} {x1 x2 x3 x4 x5 x6 : Int} (hF : F ≤ Ls) (hF4 : F ≤ L4) (hL : Ls < 2000000000) (hL4 : L4 < 2000000000) (hta : sa ≠ a4) (hfr : w_frb Tr B_R_note_129 a4 = false) : ∀ (k j nf : Nat) (S : w_S), j + k = F → k < nf → S.2.1 1 = sa → e_len Tr S sa 1 = some Ls → e_len Tr S a4 1 = some L4 → ∃ n', nf ≤ n' + k + 1 ∧ El_R_note e N nf 3 [x1, x2, x3, x4, x5, x6, (F : Int), (j : Int)] [a4] S = El_R_note e N n' 0 [x1, x2, x3, x4, x5, x6, (F : Int)] [] (w_rfp (cpb S sa a4 0 j F) 1 a4)
  | _, _, 0, _, _, h, _, _, _ => by omega
  | 0, j, nf + 1, S, g1, g2, g3, g4, g5 => by
    have : j = F := by omega
    subst this
    refine ⟨nf, by omega, ?_⟩
    rw [El_R_note, if_pos (by omega), cpb_0]
  | k + 1, j, nf + 1, S, g1, g2, g3, g4, g5 => by
    obtain ⟨n', n1, n2⟩ := l_nt3 (e := e) (N := N) (sa := sa) (a4 := a4) (Ls := Ls) (L4 := L4) (F := F) (x1 := x1) (x2 := x2) (x3 := x3) (x4 := x4) (x5 := x5) (x6 := x6) hF hF4 hL hL4 hta hfr k (j + 1) nf (w_put S a4 (0 + j) (w_b (S.1 sa j))) (by omega) (by omega) g3 g4 g5
    rw [cpb_s S hta (by omega), show ((j + 1 : Nat) : Int) = (j : Int) + 1 by omega] at n2
    refine ⟨n', by omega, ?_⟩
    rw [El_R_note, if_neg (by omega), g3, g4]
    show (if 0 ≤ (j : Int) then (if (j : Int) < (Ls : Int) then (if w_frb Tr B_R_note_129 a4 = false then (e_len Tr S a4 1).bind (fun n116 => if 0 ≤ (j : Int) then (if (j : Int) < (n116 : Int) then (if w_nb ((j : Int) + 1) = true then El_R_note e N nf 3 [x1, x2, x3, x4, x5, x6, (F : Int), (j : Int) + 1] [a4] (w_put S a4 ((j : Int)).toNat (w_b (S.1 sa ((j : Int)).toNat))) else none) else none) else none) else none) else none) else none) = _
    rw [if_pos (by omega), if_pos (by omega), if_pos hfr, g5]
    show (if 0 ≤ (j : Int) then (if (j : Int) < (L4 : Int) then (if w_nb ((j : Int) + 1) = true then El_R_note e N nf 3 [x1, x2, x3, x4, x5, x6, (F : Int), (j : Int) + 1] [a4] (w_put S a4 ((j : Int)).toNat (w_b (S.1 sa ((j : Int)).toNat))) else none) else none) else none) = _
    rw [if_pos (by omega), if_pos (by omega), if_pos (by rw [w_nbE]; omega), show ((j : Int)).toNat = 0 + j by omega, show S.1 sa (0 + j) = S.1 sa j by rw [Nat.zero_add], n2]
/-- what a note leaves: an entry more, and its text behind the others -/
def Nt (R : w_S) (t F n : Nat) (x1 x2 x3 x4 x5 : Int) (sa : Nat) (R1 : w_S) : Prop := ∃ sa' Ls', Sd R1 sa' Ls' ∧ (F + n ≤ Ls' ∧ R1.2.2.2.2 + 2 * sl R ≤ R.2.2.2.2 + 2 * Ls') ∧ R1.1 129 7 = (t : Int) + 1 ∧ (∀ j, j ≠ 7 → R1.1 129 j = R.1 129 j) ∧ R1.1 131 = pt (pt (pt (pt (pt (pt (pt (R.1 131) (7 * t) x1) (7 * t + 1) x2) (7 * t + 2) x3) (7 * t + 3) x4) (7 * t + 4) x5) (7 * t + 5) (F : Int)) (7 * t + 6) (n : Int) ∧ (∀ u, u < F → R1.1 sa' u = R.1 sa u) ∧ (∀ u, u < n → R1.1 sa' (F + u) = R.1 130 u) ∧ (∀ b, b < R.2.2.2.1 → b ≠ 129 → b ≠ 131 → b ≠ sa → R1.1 b = R.1 b) ∧ (∀ i, i ≠ 1 → R1.2.1 i = R.2.1 i) ∧ (∀ b, b < R.2.2.2.1 → R1.2.2.1 b = R.2.2.1 b) ∧ R.2.2.2.1 ≤ R1.2.2.2.1 ∧ R1.2.2.2.1 ≤ R.2.2.2.1 + 1 ∧ (sa' = sa ∨ R.2.2.2.1 ≤ sa')
theorem nput_r (S : w_S) (t : Nat) (x1 x2 x3 x4 x5 x7 x6 : Int) : (nput S t x1 x2 x3 x4 x5 x7 x6).1 129 7 = (t : Int) + 1 ∧ (∀ j, j ≠ 7 → (nput S t x1 x2 x3 x4 x5 x7 x6).1 129 j = S.1 129 j) ∧ (nput S t x1 x2 x3 x4 x5 x7 x6).1 131 = pt (pt (pt (pt (pt (pt (pt (S.1 131) (7 * t) x1) (7 * t + 1) x2) (7 * t + 2) x3) (7 * t + 3) x4) (7 * t + 4) x5) (7 * t + 5) x7) (7 * t + 6) x6 ∧ (∀ b, b ≠ 129 → b ≠ 131 → (nput S t x1 x2 x3 x4 x5 x7 x6).1 b = S.1 b) ∧ (nput S t x1 x2 x3 x4 x5 x7 x6).2 = S.2 := by
  unfold nput
  refine ⟨by simp only [w_put_r, reduceIte, Nat.reduceEqDiff, pt_at], fun j hj => ?_, by simp only [w_put_r, reduceIte, Nat.reduceEqDiff], fun b b1 b2 => ?_, rfl⟩
  · simp only [w_put_r, reduceIte, Nat.reduceEqDiff, pt_at, if_neg hj]
  · simp only [w_put_r, if_neg b1, if_neg b2]
theorem x_note {e : w_E} {N sa Ls t F n : Nat} {x1 x2 x3 x4 x5 : Int} {R : w_S} (hN : 100000 ≤ N) (h : Sd R sa Ls) (ht : t < 512) (h7 : R.1 129 7 = t) (hF0 : t = 0 → F = 0) (hF1 : t ≠ 0 → R.1 131 (7 * t - 2) + R.1 131 (7 * t - 1) = (F : Int)) (hF : F ≤ Ls) (hFn : F + n ≤ 10240) (hn : n ≤ 2000) (n1 : 238 ≤ R.2.2.2.1) (n2 : R.2.2.2.1 ≤ 899000) (hb : ∀ u, u < F → -128 ≤ R.1 sa u ∧ R.1 sa u ≤ 127) (hb2 : ∀ u, u < n → -128 ≤ R.1 130 u ∧ R.1 130 u ≤ 127) : Ok (E_R_note e N x1 x2 x3 x4 x5 (n : Int) R) (fun _ R1 => Nt R t F n x1 x2 x3 x4 x5 sa R1) := by
  obtain ⟨s1, s2, s3, s4, s5, s6, s7, s8⟩ := h
  have f131 : w_frb Tr B_R_note_129 131 = false := by decide +kernel
  have fsa : w_frb Tr B_R_note_129 sa = false := by
    rcases s3 with rfl | s3
    · decide +kernel
    · exact frb_nt s3
  have a129 : sa ≠ 129 := by omega
  have a130 : sa ≠ 130 := by omega
  have a131 : sa ≠ 131 := by omega
  have any0 := any_len s8 (Or.inl rfl)
  -- the loop from label 0
  have key : Ok (El_R_note e N N 0 [x1, x2, x3, x4, x5, (n : Int), (F : Int)] [] R) (fun _ R1 => Nt R t F n x1 x2 x3 x4 x5 sa R1) := by
    obtain ⟨N1, hN1⟩ : ∃ q, N = q + 1 := ⟨N - 1, by omega⟩
    have any1 := any_len s5 (Or.inr rfl)
    by_cases c : F + n ≤ Ls
    · have k2 := l_nt2 (e := e) (N := N) (sa := sa) (Ls := Ls) (t := t) (F := F) (n := n) (x1 := x1) (x2 := x2) (x3 := x3) (x4 := x4) (x5 := x5) ht c (by omega) hn a130 a129 fsa f131 n 0 N1 R (by omega) (by omega) s1 s2 s5 s8 h7
      rw [hN1, El_R_note, s2, ← hN1]
      refine ok_nb (by omega) (ok_len any1 ?_)
      with_reducible refine ok_t (by omega) (ok_t (by omega) ?_)
      refine ok_of k2 ?_
      obtain ⟨p1, p2, p3, p4, p5⟩ := nput_r (cpb R 130 sa F 0 n) t x1 x2 x3 x4 x5 (F : Int) (n : Int)
      have pc : ∀ b, b ≠ sa → (cpb R 130 sa F 0 n).1 b = R.1 b := fun b hb => by
        unfold cpb
        rw [w_arr_r, if_neg hb]
      refine ⟨sa, Ls, ⟨by rw [p5]; exact s1, by rw [p5]; exact s2, s3, by rw [p5]; exact s4, by
        unfold e_len w_a at s5 ⊢
        rw [p5]
        exact s5, s6, s7, by
        unfold e_len w_a at s8 ⊢
        rw [p5]
        exact s8⟩, ⟨c, by rw [sl_of s2 s5, p5]; exact Nat.le_refl _⟩, p1, fun j hj => ?_, ?_, fun u hu => ?_, fun u hu => ?_, fun b b1 b2 b3 b4 => ?_, fun i _ => by rw [p5]; rfl, fun b _ => by rw [p5]; rfl, by rw [p5]; exact Nat.le_refl _, by rw [p5]; exact Nat.le_succ _, Or.inl rfl⟩
      · rw [p2 j hj, pc 129 (Ne.symm a129)]
      · rw [p3, pc 131 (Ne.symm a131)]
      · rw [p4 sa a129 a131]
        unfold cpb
        rw [w_arr_r, if_pos rfl, if_neg (by omega)]
      · rw [p4 sa a129 a131]
        unfold cpb
        rw [w_arr_r, if_pos rfl, if_pos (by omega), show F + u - F = u by omega, w_b_id (hb2 u hu).1 (hb2 u hu).2]
      · rw [p4 b b2 b3, pc b b4]
    · -- a new array of texts
      have tax : sa ≠ R.2.2.2.1 := by omega
      have fr4 := frb_nt n1
      obtain ⟨n', m1, m2⟩ := l_nt3 (e := e) (N := N) (sa := sa) (a4 := R.2.2.2.1) (Ls := Ls) (L4 := 2 * Ls) (F := F) (x1 := x1) (x2 := x2) (x3 := x3) (x4 := x4) (x5 := x5) (x6 := (n : Int)) hF (by omega) (by omega) (by omega) tax fr4 F 0 N1 (w_new R 1 (2 * Ls)) (by omega) (by omega) s2 (by rw [len_old tax]; exact s5) (len_new n1)
      obtain ⟨n3, hn3⟩ : ∃ q, n' = q + 1 := ⟨n' - 1, by omega⟩
      subst hn3
      generalize hR2 : w_rfp (cpb (w_new R 1 (2 * Ls)) sa R.2.2.2.1 0 0 F) 1 R.2.2.2.1 = R2 at m2
      have cold : ∀ b, b ≠ R.2.2.2.1 → R2.1 b = R.1 b := fun b hb => by
        rw [← hR2]
        show (cpb (w_new R 1 (2 * Ls)) sa R.2.2.2.1 0 0 F).1 b = _
        unfold cpb
        rw [w_arr_r, if_neg hb]
        funext j
        exact if_neg hb
      have cnx : ∀ u, u < F → R2.1 R.2.2.2.1 u = R.1 sa u := fun u hu => by
        rw [← hR2]
        show (cpb (w_new R 1 (2 * Ls)) sa R.2.2.2.1 0 0 F).1 R.2.2.2.1 u = _
        unfold cpb
        rw [w_arr_r, if_pos rfl, if_pos (by omega), show u - 0 = u by omega, show (w_new R 1 (2 * Ls)).1 sa u = R.1 sa u from if_neg tax, w_b_id (hb u hu).1 (hb u hu).2]
      have z1 : R2.2.1 0 = 131 := by
        rw [← hR2]
        exact s1
      have z2 : R2.2.1 1 = R.2.2.2.1 := by
        rw [← hR2]
        rfl
      have z3 : e_len Tr R2 R.2.2.2.1 1 = some (2 * Ls) := by
        rw [← hR2]
        exact len_new (n := 2 * Ls) n1
      have z4 : e_len Tr R2 131 0 = some 3584 := by
        have : R2.2.2.1 131 = R.2.2.1 131 := by
          rw [← hR2]
          show (if 131 = R.2.2.2.1 then _ else R.2.2.1 131) = _
          rw [if_neg (by omega)]
        unfold e_len w_a at s8 ⊢
        rw [this]
        exact s8
      have z5 : R2.2.2.2.1 = R.2.2.2.1 + 1 := by
        rw [← hR2]
        rfl
      have z8 : R2.2.2.2.2 = R.2.2.2.2 + 2 * Ls := by
        rw [← hR2]
        rfl
      have z6 : ∀ b, b < R.2.2.2.1 → R2.2.2.1 b = R.2.2.1 b := fun b hb => by
        rw [← hR2]
        show (if b = R.2.2.2.1 then _ else R.2.2.1 b) = _
        rw [if_neg (by omega)]
      have z7 : ∀ i, i ≠ 1 → R2.2.1 i = R.2.1 i := fun i hi => by
        rw [← hR2]
        show (if i = 1 then _ else (w_new R 1 (2 * Ls)).2.1 i) = _
        rw [if_neg hi]
        rfl
      have any2 := any_len z3 (Or.inr rfl)
      have k2 := l_nt2 (e := e) (N := N) (sa := R.2.2.2.1) (Ls := 2 * Ls) (t := t) (F := F) (n := n) (x1 := x1) (x2 := x2) (x3 := x3) (x4 := x4) (x5 := x5) ht (by omega) (by omega) hn (by omega) (by omega) fr4 f131 n 0 n3 R2 (by omega) (by omega) z1 z2 z3 z4 (by rw [cold 129 (by omega)]; exact h7)
      rw [hN1, El_R_note, s2, ← hN1]
      refine ok_nb (by omega) (ok_len any1 ?_)
      with_reducible refine ok_t (by omega) (ok_e (by omega) ?_)
      refine ok_len any1 ?_
      with_reducible refine ok_t (by omega) (ok_nb (by omega) (ok_t (by omega) ?_))
      refine ok_t (by show R.2.2.2.1 < 1000000; omega) ?_
      with_reducible refine ok_t (by omega) (ok_t (by omega) ?_)
      rw [show (2 * (Ls : Int)).toNat = 2 * Ls by omega]
      have m3 : El_R_note e N N1 3 [x1, x2, x3, x4, x5, (n : Int), (F : Int), 0] [R.2.2.2.1] (w_new R 1 (2 * Ls)) = _ := m2
      rw [m3, El_R_note, z2]
      refine ok_nb (by omega) (ok_len any2 ?_)
      with_reducible refine ok_t (by omega) (ok_t (by omega) ?_)
      refine ok_of k2 ?_
      obtain ⟨p1, p2, p3, p4, p5⟩ := nput_r (cpb R2 130 R.2.2.2.1 F 0 n) t x1 x2 x3 x4 x5 (F : Int) (n : Int)
      have p5' : (nput (cpb R2 130 R.2.2.2.1 F 0 n) t x1 x2 x3 x4 x5 (F : Int) (n : Int)).2 = R2.2 := p5
      have pc : ∀ b, b ≠ R.2.2.2.1 → (cpb R2 130 R.2.2.2.1 F 0 n).1 b = R.1 b := fun b hb => by
        unfold cpb
        rw [w_arr_r, if_neg hb, cold b hb]
      refine ⟨R.2.2.2.1, 2 * Ls, ⟨by rw [p5']; exact z1, by rw [p5']; exact z2, Or.inr n1, by rw [p5', z5]; omega, by
        unfold e_len w_a at z3 ⊢
        rw [p5']
        exact z3, by omega, by omega, by
        unfold e_len w_a at z4 ⊢
        rw [p5']
        exact z4⟩, ⟨by omega, by rw [sl_of s2 s5, p5', z8]; omega⟩, p1, fun j hj => ?_, ?_, fun u hu => ?_, fun u hu => ?_, fun b b1 b2 b3 b4 => ?_, fun i hi => by rw [p5']; exact z7 i hi, fun b hb => by rw [p5']; exact z6 b hb, by rw [p5', z5]; omega, by rw [p5', z5]; exact Nat.le_refl _, Or.inr (Nat.le_refl _)⟩
      · rw [p2 j hj, pc 129 (by omega)]
      · rw [p3, pc 131 (by omega)]
      · rw [p4 _ (by omega) (by omega)]
        unfold cpb
        rw [w_arr_r, if_pos rfl, if_neg (by omega), cnx u hu]
      · rw [p4 _ (by omega) (by omega)]
        unfold cpb
        rw [w_arr_r, if_pos rfl, if_pos (by omega), show F + u - F = u by omega, cold 130 (by omega), w_b_id (hb2 u hu).1 (hb2 u hu).2]
      · rw [p4 b b2 b3, pc b (by omega)]
  unfold E_R_note
  rw [h7, s1]
  by_cases c0 : t = 0
  · have := hF0 c0
    subst this
    subst c0
    refine ok_e (by decide) (ok_nb (by omega) (ok_nb (by omega) (ok_len any0 ?_)))
    with_reducible refine ok_t (by omega) (ok_t (by omega) ?_)
    exact key
  · have hh := hF1 c0
    rw [show (7 * (t : Int) - 2).toNat = 7 * t - 2 by omega, show (7 * (t : Int) - 1).toNat = 7 * t - 1 by omega, hh]
    refine ok_t (by omega) (ok_nb (by omega) (ok_nb (by omega) (ok_len s8 ?_)))
    with_reducible refine ok_t (by omega) (ok_t (by omega) (ok_nb (by omega) ?_))
    refine ok_len s8 ?_
    with_reducible refine ok_t (by omega) (ok_t (by omega) (ok_nb (by omega) (ok_nb (by omega) ?_)))
    refine ok_len any0 ?_
    with_reducible refine ok_t (by omega) (ok_t (by omega) ?_)
    exact key
end
section
-- h2
/-- the reference's number of the class's act -/
def km (k : Int) : Int := [1, 4, 7, 8, 9, 10, 11, 13, 14, 15, 16, 17, 18, 19, 21, 22, 23, 24, 25, 26, 28, 29, 30, 31, 32, 33, 35, 36, 37, 40, 43, 44, 2, 3, 5, 6, 12, 20, 27, 34, 38, 39, 41, 42, 45].getD k.toNat 0
/-- the text at hand, in both -/
def Tpx (S R : w_S) (k f len : Int) : Prop := S.1 1 3 = f ∧ S.1 1 5 = f + len ∧ S.1 1 4 = f ∧ S.1 1 6 = -1 ∧ 0 ≤ f ∧ 0 ≤ len ∧ len ≤ 2000 ∧ f + len ≤ 10240 ∧ (k < 32 → len = 0) ∧ (32 ≤ k → R.1 129 2 = len ∧ ∀ p : Nat, (p : Int) < len → R.1 130 p = S.1 2 (f.toNat + p))
/-- both answers -/
def Ans (k a : Int) (S S1 : w_S) (y y' : Int) : Prop := (k ≠ 13 → k ≠ 44 → y' = y) ∧ (k = 13 → (S1.1 46 0 = S.1 46 0 ∧ S.1 46 0 ≤ 60) ∧ ((y = -1 ∧ y' = -1000000 ∧ ¬ (1 ≤ a ∧ a ≤ S.1 46 0)) ∨ (y = -2 ∧ y' = -1000001) ∨ (y = 1 ∧ 1 ≤ a ∧ a ≤ S.1 46 0 ∧ y' = S1.1 48 a.toNat))) ∧ (k = 44 → ((y < -999 ∧ y' = y) ∨ (y = -3 ∧ y' = S1.1 0 18) ∨ (y = 1 ∧ y' = S1.1 0 18)))
/-- what a batch leaves besides -/
def Pbt (S R : w_S) (V : Nat) (y : Int) (S1 R1 : w_S) : Prop := RelWk R1 ∧ RelFn S1 R1 ∧ RelRs S1 R1 ∧ R1.1 129 58 = 0 ∧ R1.1 129 159 = R.1 129 159 + y ∧ (∀ u : Nat, (u : Int) < R.1 129 159 → R1.1 237 u = R.1 237 u) ∧ R1.1 129 17 = V + y ∧ ∀ v : Nat, V ≤ v → (v : Int) < R1.1 129 17 → R1.1 136 v = R1.1 237 ((R.1 129 159).toNat + (v - V))
/-- what any act leaves -/
def Pg (k a : Int) (S R : w_S) (t f g : Int) (ta L E V n : Nat) (y y' : Int) (S1 R1 : w_S) : Prop := Ans k a S S1 y y' ∧ PHb S R t f g ta L E V n y S1 R1 ∧ (k ≠ 42 ∨ y < 0 → okC S S1 ∧ okR R R1) ∧ (k = 42 → 0 ≤ y → Pbt S R V y S1 R1)
theorem pg_of {k a y y' t f g : Int} {S R S1 R1 : w_S} {ta L E V n : Nat} (h13 : k ≠ 13) (h42 : k ≠ 42) (h44 : k ≠ 44) (h : y' = y ∧ PH S R t f g ta L E V n y S1 R1) : Pg k a S R t f g ta L E V n y y' S1 R1 := ⟨⟨fun _ _ => h.1, fun z => absurd z h13, fun z => absurd z h44⟩, h.2.b, fun _ => ⟨h.2.1, h.2.2.1⟩, fun z => absurd z h42⟩
theorem ex_ans {S R S1 R1 : w_S} {t f g y y' : Int} {ta L E V n : Nat} (h : (y < -999 ∧ y' = y) ∨ (y = -3 ∧ y' = S.1 0 18) ∨ (y = 1 ∧ y' = S1.1 0 18)) (p : PH S R t f g ta L E V n y S1 R1) : (y < -999 ∧ y' = y) ∨ (y = -3 ∧ y' = S1.1 0 18) ∨ (y = 1 ∧ y' = S1.1 0 18) := by
  rcases h with h | ⟨h1, h2⟩ | h
  · exact Or.inl h
  · rcases p.2.2.2 with ⟨_, _, sm, _⟩ | ⟨z, _⟩
    · exact Or.inr (Or.inl ⟨h1, by rw [h2, sm.1.2.2 0 18 rfl rfl]⟩)
    · omega
  · exact Or.inr (Or.inr h)
theorem pay46 {e : w_E} {N : Nat} {x1 x2 y : Int} {S S1 : w_S} (h : E_Readers_takeMoney e N x1 x2 S = some (y, S1)) : S1.1 46 0 = S.1 46 0 := by
  unfold E_Readers_takeMoney at h
  repeat' split at h
  all_goals first | (cases h; done) | (obtain ⟨rfl, rfl⟩ := Prod.mk.inj (Option.some.inj h); first | rfl | rw [w_put_f (by decide)])
theorem p_all {e : w_E} {N : Nat} {S R : w_S} {k a b c d t f len : Int} {ta L E V n : Nat} (hN : 16000000 ≤ N) (hk : 0 ≤ k) (hk2 : k ≤ 44) (hT : Tpx S R k f len) (hs : ∀ j, -128 ≤ S.1 2 j ∧ S.1 2 j ≤ 127) (hnx : R.2.2.2.1 + 150 < 899000) (h4 : R.1 129 4 = 0) (hw : RelWk R) (b0 : k = 42 → 0 ≤ R.1 129 159) (b1 : k = 42 → R.1 129 159 ≤ (V : Int)) (hH : Hs S R t f ta L E V n) (ht : 0 ≤ t) (ht2 : t ≤ 512) : Ok (E_C_perform e N k a b c d S) (fun y S1 => Ok (E_R_perform e N (km k) a b c d R) (fun y' R1 => Pg k a S R t f (f + len) ta L E V n y y' S1 R1)) := by
  obtain ⟨t1, t2, t3, t4, t5, t6, t7, t8, t9, t10⟩ := hT
  have l0 : k < 32 → f + len = f := fun z => by rw [t9 z, Int.add_zero]
  have htop : f ≤ 10240 := by omega
  have htp : f ≤ f + len := by omega
  have tb : 32 ≤ k → TB S R f len := fun z p hp => by
    have := (t10 z).2 p hp
    rw [this]
    exact ⟨rfl, hs _⟩
  have tx : 32 ≤ k → TX S f len (txt R len) := fun z => by
    refine ⟨t1, t2, t5, t6, t7, t8, fun p hp => ⟨fun hl => ?_, fun hl => ?_⟩⟩
    · have k1 := (t10 z).2 p.toNat (by omega)
      have k2 := hs (f.toNat + p.toNat)
      have k4 := b_and255 (S.1 2 (f.toNat + p.toNat)) k2.1 k2.2
      rw [show (f + p).toNat = f.toNat + p.toNat by omega]
      unfold txt
      rw [if_pos hl, k1]
      exact ⟨k2.1, k2.2, rfl, k4⟩
    · unfold txt
      rw [if_neg (by omega)]
  have tr : 32 ≤ k → TR R len (txt R len) := fun z => by
    refine ⟨(t10 z).1, t6, t7, fun p hp => ⟨fun hl => ?_, fun hl => ?_⟩⟩
    · have k1 := (t10 z).2 p.toNat (by omega)
      have k2 := hs (f.toNat + p.toNat)
      have k4 := b_and255 (S.1 2 (f.toNat + p.toNat)) k2.1 k2.2
      unfold txt
      rw [if_pos hl]
      refine ⟨rfl, ?_⟩
      rw [k1, k4]
      split <;> omega
    · unfold txt
      rw [if_neg (by omega)]
  have hb : 32 ≤ k → ∀ p : Nat, (p : Int) < len → -128 ≤ R.1 130 p ∧ R.1 130 p ≤ 127 := fun z p hp => (tb z p hp).2
  clear t10
  rcases (show k = 0 ∨ k = 1 ∨ k = 2 ∨ k = 3 ∨ k = 4 ∨ k = 5 ∨ k = 6 ∨ k = 7 ∨ k = 8 ∨ k = 9 ∨ k = 10 ∨ k = 11 ∨ k = 12 ∨ k = 13 ∨ k = 14 ∨ k = 15 ∨ k = 16 ∨ k = 17 ∨ k = 18 ∨ k = 19 ∨ k = 20 ∨ k = 21 ∨ k = 22 ∨ k = 23 ∨ k = 24 ∨ k = 25 ∨ k = 26 ∨ k = 27 ∨ k = 28 ∨ k = 29 ∨ k = 30 ∨ k = 31 ∨ k = 32 ∨ k = 33 ∨ k = 34 ∨ k = 35 ∨ k = 36 ∨ k = 37 ∨ k = 38 ∨ k = 39 ∨ k = 40 ∨ k = 41 ∨ k = 42 ∨ k = 43 ∨ k = 44 by omega) with rfl | rfl | rfl | rfl | rfl | rfl | rfl | rfl | rfl | rfl | rfl | rfl | rfl | rfl | rfl | rfl | rfl | rfl | rfl | rfl | rfl | rfl | rfl | rfl | rfl | rfl | rfl | rfl | rfl | rfl | rfl | rfl | rfl | rfl | rfl | rfl | rfl | rfl | rfl | rfl | rfl | rfl | rfl | rfl | rfl
  · rw [l0 (by decide), show km 0 = 1 from rfl]
    exact (p_0 hN htop hs hH ht ht2).mono (fun _ _ q => q.mono (fun _ _ r => pg_of (by decide) (by decide) (by decide) r))
  · rw [l0 (by decide), show km 1 = 4 from rfl]
    exact (p_1 hN htop hs hH ht ht2).mono (fun _ _ q => q.mono (fun _ _ r => pg_of (by decide) (by decide) (by decide) r))
  · rw [l0 (by decide), show km 2 = 7 from rfl]
    exact (p_2 hN htop hs hH ht ht2).mono (fun _ _ q => q.mono (fun _ _ r => pg_of (by decide) (by decide) (by decide) r))
  · rw [l0 (by decide), show km 3 = 8 from rfl]
    exact (p_3 hN htop hs hH ht ht2).mono (fun _ _ q => q.mono (fun _ _ r => pg_of (by decide) (by decide) (by decide) r))
  · rw [l0 (by decide), show km 4 = 9 from rfl]
    exact (p_4 hN htop hs hH ht ht2).mono (fun _ _ q => q.mono (fun _ _ r => pg_of (by decide) (by decide) (by decide) r))
  · rw [l0 (by decide), show km 5 = 10 from rfl]
    exact (p_5 hN htop hs hH ht ht2).mono (fun _ _ q => q.mono (fun _ _ r => pg_of (by decide) (by decide) (by decide) r))
  · rw [l0 (by decide), show km 6 = 11 from rfl]
    exact (p_6 hN htop hs hH ht ht2).mono (fun _ _ q => q.mono (fun _ _ r => pg_of (by decide) (by decide) (by decide) r))
  · rw [l0 (by decide), show km 7 = 13 from rfl]
    exact (p_7 hN htop hs hH ht ht2).mono (fun _ _ q => q.mono (fun _ _ r => pg_of (by decide) (by decide) (by decide) r))
  · rw [l0 (by decide), show km 8 = 14 from rfl]
    exact (p_8 hN htop hs hH ht ht2).mono (fun _ _ q => q.mono (fun _ _ r => pg_of (by decide) (by decide) (by decide) r))
  · rw [l0 (by decide), show km 9 = 15 from rfl]
    exact (p_9 hN htop hs hH ht ht2).mono (fun _ _ q => q.mono (fun _ _ r => pg_of (by decide) (by decide) (by decide) r))
  · rw [l0 (by decide), show km 10 = 16 from rfl]
    exact (p_10 hN htop hs hH ht ht2).mono (fun _ _ q => q.mono (fun _ _ r => pg_of (by decide) (by decide) (by decide) r))
  · rw [l0 (by decide), show km 11 = 17 from rfl]
    exact (p_11 hN htop hs hH ht ht2).mono (fun _ _ q => q.mono (fun _ _ r => pg_of (by decide) (by decide) (by decide) r))
  · rw [l0 (by decide), show km 12 = 18 from rfl]
    exact (p_12 hN htop hs hH ht ht2).mono (fun _ _ q => q.mono (fun _ _ r => pg_of (by decide) (by decide) (by decide) r))
  · rw [l0 (by decide), show km 13 = 19 from rfl, pc_13]
    simp only [pr_19]
    obtain ⟨y, S1, e1, q⟩ := h_pay (e := e) (N := N) (x1 := a) (x2 := b) hH ht ht2
    exact ⟨y, S1, e1, q.mono (fun _ _ r => ⟨⟨fun z => absurd rfl z, fun _ => ⟨⟨pay46 e1, hH.2.2.1.2.2.2.2.1.2.2.1⟩, r.1⟩, fun z => by omega⟩, r.2.b, fun _ => ⟨r.2.1, r.2.2.1⟩, fun z => by omega⟩)⟩
  · rw [l0 (by decide), show km 14 = 21 from rfl]
    exact (p_14 hN htop hs hH ht ht2).mono (fun _ _ q => q.mono (fun _ _ r => pg_of (by decide) (by decide) (by decide) r))
  · rw [l0 (by decide), show km 15 = 22 from rfl]
    exact (p_15 hN htop hs hH ht ht2).mono (fun _ _ q => q.mono (fun _ _ r => pg_of (by decide) (by decide) (by decide) r))
  · rw [l0 (by decide), show km 16 = 23 from rfl]
    exact (p_16 hN htop hs hH ht ht2).mono (fun _ _ q => q.mono (fun _ _ r => pg_of (by decide) (by decide) (by decide) r))
  · rw [l0 (by decide), show km 17 = 24 from rfl]
    exact (p_17 hN htop hs hH ht ht2).mono (fun _ _ q => q.mono (fun _ _ r => pg_of (by decide) (by decide) (by decide) r))
  · rw [l0 (by decide), show km 18 = 25 from rfl]
    exact (p_18 hN htop hs hH ht ht2).mono (fun _ _ q => q.mono (fun _ _ r => pg_of (by decide) (by decide) (by decide) r))
  · rw [l0 (by decide), show km 19 = 26 from rfl]
    exact (p_19 hN htop hs hH ht ht2).mono (fun _ _ q => q.mono (fun _ _ r => pg_of (by decide) (by decide) (by decide) r))
  · rw [l0 (by decide), show km 20 = 28 from rfl]
    exact (p_20 hN htop hs hH ht ht2).mono (fun _ _ q => q.mono (fun _ _ r => pg_of (by decide) (by decide) (by decide) r))
  · rw [l0 (by decide), show km 21 = 29 from rfl]
    exact (p_21 hN htop hs hH ht ht2).mono (fun _ _ q => q.mono (fun _ _ r => pg_of (by decide) (by decide) (by decide) r))
  · rw [l0 (by decide), show km 22 = 30 from rfl]
    exact (p_22 hN htop hs hH ht ht2).mono (fun _ _ q => q.mono (fun _ _ r => pg_of (by decide) (by decide) (by decide) r))
  · rw [l0 (by decide), show km 23 = 31 from rfl]
    exact (p_23 hN htop hs hH ht ht2).mono (fun _ _ q => q.mono (fun _ _ r => pg_of (by decide) (by decide) (by decide) r))
  · rw [l0 (by decide), show km 24 = 32 from rfl]
    exact (p_24 hN htop hs hH ht ht2).mono (fun _ _ q => q.mono (fun _ _ r => pg_of (by decide) (by decide) (by decide) r))
  · rw [l0 (by decide), show km 25 = 33 from rfl]
    exact (p_25 hN htop hs hH ht ht2).mono (fun _ _ q => q.mono (fun _ _ r => pg_of (by decide) (by decide) (by decide) r))
  · rw [l0 (by decide), show km 26 = 35 from rfl]
    exact (p_26 hN htop hs hH ht ht2).mono (fun _ _ q => q.mono (fun _ _ r => pg_of (by decide) (by decide) (by decide) r))
  · rw [l0 (by decide), show km 27 = 36 from rfl]
    exact (p_27 hN htop hs hH ht ht2).mono (fun _ _ q => q.mono (fun _ _ r => pg_of (by decide) (by decide) (by decide) r))
  · rw [l0 (by decide), show km 28 = 37 from rfl]
    exact (p_28 hN htop hs hH ht ht2).mono (fun _ _ q => q.mono (fun _ _ r => pg_of (by decide) (by decide) (by decide) r))
  · rw [l0 (by decide), show km 29 = 40 from rfl]
    exact (p_29 hN htop hs hH ht ht2).mono (fun _ _ q => q.mono (fun _ _ r => pg_of (by decide) (by decide) (by decide) r))
  · rw [l0 (by decide), show km 30 = 43 from rfl]
    exact (p_30 hN htop hs hH ht ht2).mono (fun _ _ q => q.mono (fun _ _ r => pg_of (by decide) (by decide) (by decide) r))
  · rw [l0 (by decide), show km 31 = 44 from rfl]
    exact (p_31 hN htop hs hH ht ht2).mono (fun _ _ q => q.mono (fun _ _ r => pg_of (by decide) (by decide) (by decide) r))
  · rw [show km 32 = 2 from rfl]
    exact (p_32 hN (tx (by decide)) (tr (by decide)) t3 t4 (tb (by decide)) (hb (by decide)) htp hs hnx hH ht ht2).mono (fun _ _ q => q.mono (fun _ _ r => pg_of (by decide) (by decide) (by decide) r))
  · rw [show km 33 = 3 from rfl]
    exact (p_33 hN (tx (by decide)) (tr (by decide)) t3 t4 (tb (by decide)) (hb (by decide)) htp hs hnx hH ht ht2).mono (fun _ _ q => q.mono (fun _ _ r => pg_of (by decide) (by decide) (by decide) r))
  · rw [show km 34 = 5 from rfl]
    exact (p_34 hN (tx (by decide)) (tr (by decide)) t3 t4 (tb (by decide)) (hb (by decide)) htp hs hnx hH ht ht2).mono (fun _ _ q => q.mono (fun _ _ r => pg_of (by decide) (by decide) (by decide) r))
  · rw [show km 35 = 6 from rfl]
    exact (p_35 hN (tx (by decide)) (tr (by decide)) t3 t4 (tb (by decide)) (hb (by decide)) htp hs hnx hH ht ht2).mono (fun _ _ q => q.mono (fun _ _ r => pg_of (by decide) (by decide) (by decide) r))
  · rw [show km 36 = 12 from rfl]
    exact (p_36 hN (tx (by decide)) (tr (by decide)) t3 t4 (tb (by decide)) (hb (by decide)) htp hs hnx hH ht ht2).mono (fun _ _ q => q.mono (fun _ _ r => pg_of (by decide) (by decide) (by decide) r))
  · rw [show km 37 = 20 from rfl]
    exact (p_37 hN (tx (by decide)) (tr (by decide)) t3 t4 (tb (by decide)) (hb (by decide)) htp hs hnx hH ht ht2).mono (fun _ _ q => q.mono (fun _ _ r => pg_of (by decide) (by decide) (by decide) r))
  · rw [show km 38 = 27 from rfl]
    exact (p_38 hN (tx (by decide)) (tr (by decide)) t3 t4 (tb (by decide)) (hb (by decide)) htp hs hnx hH ht ht2).mono (fun _ _ q => q.mono (fun _ _ r => pg_of (by decide) (by decide) (by decide) r))
  · rw [show km 39 = 34 from rfl]
    exact (p_39 hN (tx (by decide)) (tr (by decide)) t3 t4 (tb (by decide)) (hb (by decide)) htp hs hnx hH ht ht2).mono (fun _ _ q => q.mono (fun _ _ r => pg_of (by decide) (by decide) (by decide) r))
  · rw [show km 40 = 38 from rfl]
    exact (p_40 hN (tx (by decide)) (tr (by decide)) t3 t4 (tb (by decide)) (hb (by decide)) htp hs hnx hH ht ht2).mono (fun _ _ q => q.mono (fun _ _ r => pg_of (by decide) (by decide) (by decide) r))
  · rw [show km 41 = 39 from rfl]
    exact (p_41 hN (tx (by decide)) (tr (by decide)) t3 t4 (tb (by decide)) (hb (by decide)) htp hs hnx hH ht ht2).mono (fun _ _ q => q.mono (fun _ _ r => pg_of (by decide) (by decide) (by decide) r))
  · rw [show km 42 = 41 from rfl, pc_42]
    simp only [pr_41]
    exact (h_batch hN (tx (by decide)) (tr (by decide)) t3 t4 (hb (by decide)) htp hs hw (b0 rfl) (b1 rfl) hnx hH).mono (fun _ _ q => q.mono (fun _ _ r => ⟨⟨fun _ _ => r.1, fun z => by omega, fun z => by omega⟩, r.2.1, fun z => r.2.2.1 (by omega), fun _ => r.2.2.2⟩))
  · rw [show km 43 = 42 from rfl]
    exact (p_43 hN (tx (by decide)) (tr (by decide)) t3 t4 (tb (by decide)) (hb (by decide)) htp hs hnx hH ht ht2).mono (fun _ _ q => q.mono (fun _ _ r => pg_of (by decide) (by decide) (by decide) r))
  · rw [show km 44 = 45 from rfl, pc_44]
    simp only [pr_45]
    exact (h_exchange hN (tx (by decide)) (tr (by decide)) t3 t4 (tb (by decide)) htp htop hs h4 hH ht ht2).mono (fun _ _ q => q.mono (fun _ _ r => ⟨⟨fun _ z => absurd rfl z, fun z => by omega, fun _ => ex_ans r.1 r.2⟩, r.2.b, fun _ => ⟨r.2.1, r.2.2.1⟩, fun z => by omega⟩))
end
section
-- h3
/-- how many bytes the texts of the first acts have, by the class's journal -/
def kp (j : Nat → Int) : Nat → Int
  | 0 => 0
  | k + 1 => kp j k + j (6 * k + 5)
/-- a text is opened in the class -/
def Opn (C : w_S) (f len : Int) : Prop := C.1 1 3 = f ∧ C.1 1 5 = f + len ∧ C.1 1 4 = f ∧ C.1 1 6 = -1
/-- an empty house, in the class -/
def Clean (C : w_S) : Prop := C.1 3 0 = 0 ∧ C.1 3 5 = 0 ∧ C.1 17 0 = 0 ∧ C.1 17 3 = 0 ∧ C.1 17 7 = 0 ∧ C.1 27 1 = 0 ∧ C.1 27 2 = 0 ∧ C.1 27 4 = 0 ∧ C.1 35 0 = 0 ∧ C.1 35 1 = 0 ∧ C.1 35 2 = 0 ∧ C.1 35 3 = 0 ∧ C.1 46 0 = 0 ∧ C.1 46 4 = 0 ∧ C.1 46 12 = 0 ∧ C.1 62 3 = 0 ∧ C.1 62 14 = 0 ∧ C.1 76 0 = 0 ∧ C.1 76 7 = 0 ∧ C.1 76 11 = 0 ∧ C.1 89 0 = 0 ∧ C.1 0 17 = 0 ∧ ∀ s : Nat, s < 6 → C.1 91 s = 0
/-- the class's states that so many acts of the journal make of an empty house -/
def Rch (e : w_E) (N : Nat) (j T : Nat → Int) : Nat → w_S → Prop
  | 0, C => Clean C
  | k + 1, C1 => ∃ C C' y C2, Rch e N j T k C ∧ Same (kp j k) C C' ∧ Opn C' (kp j k) (j (6 * k + 5)) ∧ (∀ p : Nat, (p : Int) < kp j (k + 1) → C'.1 2 p = T p) ∧ (∀ p, -128 ≤ C'.1 2 p ∧ C'.1 2 p ≤ 127) ∧ E_C_perform e N (j (6 * k)) (j (6 * k + 1)) (j (6 * k + 2)) (j (6 * k + 3)) (j (6 * k + 4)) C' = some (y, C2) ∧ 0 ≤ y ∧ Same (kp j (k + 1)) C2 C1
theorem Clean.same {top : Int} {C C1 : w_S} (h : Clean C) (k : Same top C C1) : Clean C1 := by
  have b : ∀ a j, (2 :: NA).contains a = false → NJ.contains (a, j) = false → C1.1 a j = C.1 a j := k.1.2.2
  obtain ⟨h1, h2, h3, h4, h5, h6, h7, h8, h9, h10, h11, h12, h13, h14, h15, h16, h17, h18, h19, h20, h21, h22, h23⟩ := h
  unfold Clean
  rw [b 3 0 rfl rfl, b 3 5 rfl rfl, b 17 0 rfl rfl, b 17 3 rfl rfl, b 17 7 rfl rfl, b 27 1 rfl rfl, b 27 2 rfl rfl, b 27 4 rfl rfl, b 35 0 rfl rfl, b 35 1 rfl rfl, b 35 2 rfl rfl, b 35 3 rfl rfl, b 46 0 rfl rfl, b 46 4 rfl rfl, b 46 12 rfl rfl, b 62 3 rfl rfl, b 62 14 rfl rfl, b 76 0 rfl rfl, b 76 7 rfl rfl, b 76 11 rfl rfl, b 89 0 rfl rfl, b 0 17 rfl rfl, k.1.2.1 91 rfl rfl]
  exact ⟨h1, h2, h3, h4, h5, h6, h7, h8, h9, h10, h11, h12, h13, h14, h15, h16, h17, h18, h19, h20, h21, h22, h23⟩
theorem Rch.same {e : w_E} {N : Nat} {j T : Nat → Int} {C C1 : w_S} : ∀ {k : Nat}, Rch e N j T k C → Same (kp j k) C C1 → Rch e N j T k C1
  | 0, h, s => Clean.same h s
  | _ + 1, ⟨D, D', y, D2, h1, h2, h3, h4, h5, h6, h7, h8⟩, s => ⟨D, D', y, D2, h1, h2, h3, h4, h5, h6, h7, h8.trans s⟩
theorem kp_cg {j j' : Nat → Int} : ∀ {k : Nat}, (∀ u, u < 6 * k → j' u = j u) → kp j' k = kp j k
  | 0, _ => rfl
  | k + 1, h => by
    rw [kp, kp, kp_cg (fun u hu => h u (by omega)), h (6 * k + 5) (by omega)]
theorem kp_le {j : Nat → Int} {k : Nat} : ∀ {t : Nat}, (∀ i, i < t → 0 ≤ j (6 * i + 5)) → k ≤ t → kp j k ≤ kp j t
  | 0, _, h => by
    have : k = 0 := by omega
    subst this
    exact Int.le_refl _
  | t + 1, hj, h => by
    by_cases c : k = t + 1
    · subst c
      exact Int.le_refl _
    · have := kp_le (j := j) (k := k) (t := t) (fun i hi => hj i (by omega)) (by omega)
      have h2 := hj t (by omega)
      rw [kp]
      omega
theorem kpj_ge {j : Nat → Int} {t : Nat} (hj : ∀ i, i < t → 0 ≤ j (6 * i + 5)) : 0 ≤ kp j t := kp_le (k := 0) hj (Nat.zero_le t)
/-- only the entries and texts of those acts count -/
theorem Rch.cg {e : w_E} {N : Nat} {j T j' T' : Nat → Int} : ∀ {k : Nat} {C : w_S}, (∀ u, u < 6 * k → j' u = j u) → (∀ i, i < k → 0 ≤ j (6 * i + 5)) → (∀ p : Nat, (p : Int) < kp j k → T' p = T p) → Rch e N j T k C → Rch e N j' T' k C
  | 0, _, _, _, _, h => h
  | k + 1, C, g1, g0, g2, ⟨D, D', y, D2, h1, h2, h3, h4, h5, h6, h7, h8⟩ => by
    have e1 : kp j' k = kp j k := kp_cg (fun u hu => g1 u (by omega))
    have e2 : kp j' (k + 1) = kp j (k + 1) := kp_cg g1
    have l1 := kp_le (k := k) g0 (Nat.le_succ k)
    refine ⟨D, D', y, D2, Rch.cg (fun u hu => g1 u (by omega)) (fun i hi => g0 i (by omega)) (fun p hp => g2 p (by omega)) h1, by rw [e1]; exact h2, by rw [e1, g1 _ (by omega)]; exact h3, fun p hp => ?_, h5, by rw [g1 _ (by omega), g1 _ (by omega), g1 _ (by omega), g1 _ (by omega), g1 _ (by omega)]; exact h6, h7, by rw [e2]; exact h8⟩
    rw [e2] at hp
    rw [h4 p hp, g2 p hp]
/-- a reference's state that every such state of the class is one house with -/
def Al (e : w_E) (N : Nat) (j T : Nat → Int) (k : Nat) (X : w_S) : Prop := ∀ C, Rch e N j T k C → ∃ ta L E V n, Hs C X (k : Int) (kp j k) ta L E V n
theorem Al.cg {e : w_E} {N k : Nat} {j T j' T' : Nat → Int} {X : w_S} (h : Al e N j T k X) (g1 : ∀ u, u < 6 * k → j' u = j u) (g0 : ∀ i, i < k → 0 ≤ j (6 * i + 5)) (g2 : ∀ p : Nat, (p : Int) < kp j k → T' p = T p) : Al e N j' T' k X := fun C hC => by
  have e1 : kp j' k = kp j k := kp_cg g1
  have hC' : Rch e N j T k C := Rch.cg (fun u hu => (g1 u hu).symm) (fun i hi => by rw [g1 _ (by omega)]; exact g0 i hi) (fun p hp => (g2 p (by rw [← e1]; exact hp)).symm) hC
  obtain ⟨ta, L, E, V, n, hh⟩ := h C hC'
  exact ⟨ta, L, E, V, n, by rw [e1]; exact hh⟩
theorem Al.rf {e : w_E} {N k : Nat} {j T : Nat → Int} {X X1 : w_S} (h : Al e N j T k X) (g : frn X X1) (hn : X1.2.2.2.1 ≤ 899000) : Al e N j T k X1 := fun C hC => by
  obtain ⟨ta, L, E, V, n, hh⟩ := h C hC
  exact ⟨ta, L, E, V, n, hh.rf g hn⟩
/-- an entry of the journal and of the log -/
def Ent (j l : Nat → Int) (k : Nat) : Prop := 0 ≤ j (6 * k) ∧ j (6 * k) ≤ 44 ∧ l (7 * k) = km (j (6 * k)) ∧ l (7 * k + 5) = kp j k ∧ l (7 * k + 6) = j (6 * k + 5) ∧ 0 ≤ j (6 * k + 5) ∧ j (6 * k + 5) ≤ 2000 ∧ (j (6 * k) < 32 → j (6 * k + 5) = 0) ∧ (j (6 * k) ≠ 42 → j (6 * k) ≠ 31 → l (7 * k + 1) = j (6 * k + 1) ∧ l (7 * k + 2) = j (6 * k + 2) ∧ l (7 * k + 3) = j (6 * k + 3) ∧ l (7 * k + 4) = j (6 * k + 4))
/-- a reference's state in which an act can be done: its text is laid -/
def Rdy (j T : Nat → Int) (k : Nat) (X : w_S) : Prop := X.2.2.2.1 + 150 < 899000 ∧ X.1 129 4 = 0 ∧ RelWk X ∧ (j (6 * k) = 42 → 0 ≤ X.1 129 159) ∧ (j (6 * k) = 42 → X.1 129 159 ≤ X.1 129 17) ∧ (32 ≤ j (6 * k) → X.1 129 2 = j (6 * k + 5) ∧ ∀ p : Nat, (p : Int) < j (6 * k + 5) → X.1 130 p = T ((kp j k).toNat + p))
/-- what is needed of an entry to do its act -/
def Eok (j : Nat → Int) (k : Nat) : Prop := k ≤ 512 ∧ 0 ≤ j (6 * k) ∧ j (6 * k) ≤ 44 ∧ 0 ≤ j (6 * k + 5) ∧ j (6 * k + 5) ≤ 2000 ∧ 0 ≤ kp j k ∧ kp j (k + 1) ≤ 10240 ∧ (j (6 * k) < 32 → j (6 * k + 5) = 0)
/-- both do the act of an entry -/
theorem r_tan {e : w_E} {N k : Nat} {j T : Nat → Int} {X C C' : w_S} (hN : 16000000 ≤ N) (hj : Eok j k) (hX : Rdy j T k X) (hA : Al e N j T k X) (hC : Rch e N j T k C) (hS : Same (kp j k) C C') (hO : Opn C' (kp j k) (j (6 * k + 5))) (hT : ∀ p : Nat, (p : Int) < kp j (k + 1) → C'.1 2 p = T p) (hs : ∀ p, -128 ≤ C'.1 2 p ∧ C'.1 2 p ≤ 127) : ∃ ta L E V n, Hs C' X (k : Int) (kp j k) ta L E V n ∧ Ok (E_C_perform e N (j (6 * k)) (j (6 * k + 1)) (j (6 * k + 2)) (j (6 * k + 3)) (j (6 * k + 4)) C') (fun y S1 => Ok (E_R_perform e N (km (j (6 * k))) (j (6 * k + 1)) (j (6 * k + 2)) (j (6 * k + 3)) (j (6 * k + 4)) X) (fun y' R1 => Pg (j (6 * k)) (j (6 * k + 1)) C' X (k : Int) (kp j k) (kp j (k + 1)) ta L E V n y y' S1 R1)) := by
  obtain ⟨ta, L, E, V, n, hh⟩ := hA C hC
  have hh2 := hh.same hS
  obtain ⟨j1, j2, j3, j4, j5, j6, j7, j8⟩ := hj
  obtain ⟨x1, x2, x3, x4, x5, x6⟩ := hX
  have kk : kp j (k + 1) = kp j k + j (6 * k + 5) := rfl
  rw [kk] at j7 hT ⊢
  have v17 : X.1 129 17 = (V : Int) := hh.2.2.2.2.2.2.2.2.2.2.2.2.2.1.2.2.2.1
  refine ⟨ta, L, E, V, n, hh2, p_all hN j2 j3 ⟨hO.1, hO.2.1, hO.2.2.1, hO.2.2.2, j6, j4, j5, j7, j8, fun z => ⟨(x6 z).1, fun p hp => ?_⟩⟩ hs x1 x2 x3 x4 (fun z => by have := x5 z; omega) hh2 (by omega) (by omega)⟩
  rw [(x6 z).2 p hp, hT _ (by omega)]
/-- what the reference makes of the next act is one house with all that the class makes of it -/
theorem r_all {e : w_E} {N k : Nat} {j T : Nat → Int} {X X1 : w_S} {y' : Int} (hN : 16000000 ≤ N) (hj : Eok j k) (hX : Rdy j T k X) (hA : Al e N j T k X) (hR : E_R_perform e N (km (j (6 * k))) (j (6 * k + 1)) (j (6 * k + 2)) (j (6 * k + 3)) (j (6 * k + 4)) X = some (y', X1)) (h4 : X1.1 129 4 = 0) : Al e N j T (k + 1) X1 := fun C1 hC1 => by
  obtain ⟨C, C', y, C2, c1, c2, c3, c4, c5, c6, c7, c8⟩ := hC1
  obtain ⟨ta, L, E, V, n, _, z, S1, q1, z', R1, q2, q3⟩ := r_tan hN hj hX hA c1 c2 c3 c4 c5
  rw [c6] at q1
  rw [hR] at q2
  obtain ⟨rfl, rfl⟩ := Prod.mk.inj (Option.some.inj q1)
  obtain ⟨rfl, rfl⟩ := Prod.mk.inj (Option.some.inj q2)
  rcases q3.2.1.2.2.2 with ⟨a, b, _⟩ | ⟨_, _, ta', L', E', V', n', hh, _⟩
  · omega
  · exact ⟨ta', L', E', V', n', hh.same c8⟩
end
section
-- h4
theorem nmo_fn {R R1 : w_S} (k : frn R R1) (v d : Int) (F : Nat) : nmo R1 v d F = nmo R v d F := by
  have ar : ∀ a, 142 ≤ a → a ≤ 149 → R1.1 a = R.1 a := fun a a1 a2 => by
    rcases (show a = 142 ∨ a = 143 ∨ a = 144 ∨ a = 145 ∨ a = 146 ∨ a = 147 ∨ a = 148 ∨ a = 149 by omega) with rfl | rfl | rfl | rfl | rfl | rfl | rfl | rfl
    all_goals exact k.1 _ (by decide) rfl (by decide)
  have s1 : R1.1 129 31 = R.1 129 31 := k.2.1 31 rfl
  have s2 : R1.1 129 26 = R.1 129 26 := k.2.1 26 rfl
  unfold nmo nmb nmk
  simp only [lko_cg (ar 146 (by decide) (by decide)) (ar 147 (by decide) (by decide)) (ar 148 (by decide) (by decide)) (ar 149 (by decide) (by decide)), ar 142 (by decide) (by decide), ar 143 (by decide) (by decide), ar 144 (by decide) (by decide), ar 145 (by decide) (by decide), s1, s2]
/-- how the k-th act was done: a state of the reference in which it can be done again -/
def Gh (e : w_E) (N : Nat) (j T : Nat → Int) (R : w_S) (k : Nat) : Prop := ∃ X X1 y', Rdy j T k X ∧ Al e N j T k X ∧ E_R_perform e N (km (j (6 * k))) (j (6 * k + 1)) (j (6 * k + 2)) (j (6 * k + 3)) (j (6 * k + 4)) X = some (y', X1) ∧ X1.1 129 4 = 0 ∧ (j (6 * k) = 31 → R.1 131 (7 * k + 1) = y') ∧ (j (6 * k) = 42 → R.1 131 (7 * k + 1) = X.1 129 159 ∧ R.1 131 (7 * k + 2) = X1.1 129 159 - X.1 129 159 ∧ X1.1 129 159 ≤ R.1 129 159 ∧ X.1 129 159 ≤ X1.1 129 159 ∧ ∀ u : Nat, X.1 129 159 ≤ (u : Int) → (u : Int) < X1.1 129 159 → R.1 237 u = X1.1 237 u)
theorem Rdy.cg {j T j' T' : Nat → Int} {k : Nat} {X : w_S} (h : Rdy j T k X) (g1 : ∀ u, u < 6 * k + 6 → j' u = j u) (g0 : 0 ≤ kp j k) (g2 : ∀ p : Nat, (p : Int) < kp j (k + 1) → T' p = T p) : Rdy j' T' k X := by
  obtain ⟨h1, h2, h3, h4, h5, h6⟩ := h
  have kk : kp j (k + 1) = kp j k + j (6 * k + 5) := rfl
  refine ⟨h1, h2, h3, by rw [g1 _ (by omega)]; exact h4, by rw [g1 _ (by omega)]; exact h5, fun z => ?_⟩
  rw [g1 _ (by omega)] at z
  rw [g1 _ (by omega), kp_cg (fun u hu => g1 u (by omega))]
  refine ⟨(h6 z).1, fun p hp => ?_⟩
  rw [(h6 z).2 p hp, g2 _ (by omega)]
theorem Gh.cg {e : w_E} {N : Nat} {j T j' T' : Nat → Int} {R R1 : w_S} {k : Nat} (h : Gh e N j T R k) (g1 : ∀ u, u < 6 * k + 6 → j' u = j u) (g0 : ∀ i, i < k + 1 → 0 ≤ j (6 * i + 5)) (g2 : ∀ p : Nat, (p : Int) < kp j (k + 1) → T' p = T p) (d1 : R1.1 131 (7 * k + 1) = R.1 131 (7 * k + 1)) (d2 : R1.1 131 (7 * k + 2) = R.1 131 (7 * k + 2)) (d3 : j (6 * k) = 42 → R.1 131 (7 * k + 1) + R.1 131 (7 * k + 2) ≤ R1.1 129 159 ∧ ∀ u : Nat, (u : Int) < R.1 131 (7 * k + 1) + R.1 131 (7 * k + 2) → R1.1 237 u = R.1 237 u) : Gh e N j' T' R1 k := by
  obtain ⟨X, X1, y', h1, h2, h3, h4, h5, h6⟩ := h
  have k0 : 0 ≤ kp j k := kpj_ge (fun i hi => g0 i (by omega))
  have kl := kp_le (k := k) g0 (Nat.le_succ k)
  refine ⟨X, X1, y', h1.cg g1 k0 g2, h2.cg (fun u hu => g1 u (by omega)) (fun i hi => g0 i (by omega)) (fun p hp => g2 p (by omega)), ?_, h4, fun z => ?_, fun z => ?_⟩
  · rw [g1 _ (by omega), g1 _ (by omega), g1 _ (by omega), g1 _ (by omega), g1 _ (by omega)]
    exact h3
  · rw [g1 _ (by omega)] at z
    rw [d1]
    exact h5 z
  · rw [g1 _ (by omega)] at z
    rw [d1, d2]
    obtain ⟨a1, a2, a3, a4, a5⟩ := h6 z
    obtain ⟨b1, b2⟩ := d3 z
    refine ⟨a1, a2, by omega, a4, fun u u1 u2 => ?_⟩
    rw [b2 u (by omega)]
    exact a5 u u1 u2
/-- what batches recorded stands in the order of the acts -/
def Mo (j l : Nat → Int) (t : Nat) : Prop := ∀ k m, k < m → m < t → j (6 * k) = 42 → j (6 * m) = 42 → l (7 * k + 1) + l (7 * k + 2) ≤ l (7 * m + 1)
/-- the journal, the log, and what the acts made, in both -/
def Core (e : w_E) (N i : Nat) (S R : w_S) (t sa Ls : Nat) : Prop := S.1 0 12 = (t : Int) ∧ t ≤ i ∧ S.1 1 1 = kp (S.1 128) t ∧ kp (S.1 128) t ≤ 10240 ∧ (∀ p, -128 ≤ S.1 2 p ∧ S.1 2 p ≤ 127) ∧ (R.2.2.2.1 ≤ 238 + 500 * i ∧ R.2.2.2.2 + 16384 ≤ 340000 + 2 * tl R + 2 * Ls) ∧ (Sd R sa Ls ∧ sa ≠ R.2.1 2 ∧ kp (S.1 128) t ≤ (Ls : Int) ∧ (∀ p : Nat, (p : Int) < kp (S.1 128) t → R.1 sa p = S.1 2 p)) ∧ (∀ k, k < t → Ent (S.1 128) (R.1 131) k) ∧ (0 ≤ R.1 129 159 ∧ R.1 129 159 ≤ R.1 129 17) ∧ Rch e N (S.1 128) (S.1 2) t S ∧ Al e N (S.1 128) (S.1 2) t R ∧ (∀ k, k < t → Gh e N (S.1 128) (S.1 2) R k) ∧ Mo (S.1 128) (R.1 131) t
/-- numbers of acts -/
def Num (S R : w_S) (t : Nat) : Prop := RelM S R ∧ 0 ≤ S.1 0 14 ∧ S.1 0 14 ≤ S.1 0 13 ∧ S.1 0 13 ≤ (t : Int) ∧ (S.1 0 16 = -1 ∨ (S.1 0 13 ≤ S.1 0 16 ∧ S.1 0 16 ≤ (t : Int)))
theorem RelWk.kp {R R1 : w_S} (h : RelWk R) (h3 : R1.2.1 3 = R.2.1 3) (h4 : R1.2.1 4 = R.2.1 4) (hd : ∀ b, b < 238 → R1.2.2.1 b = R.2.2.1 b) : RelWk R1 := by
  obtain ⟨a, b, c⟩ := h
  refine ⟨by rw [h3, h4]; exact a, ?_, ?_⟩
  · unfold e_len w_a at b ⊢
    rw [hd 194 (by decide)]
    exact b
  · unfold e_len w_a at c ⊢
    rw [hd 195 (by decide)]
    exact c
/-- the rows of a batch; no row that was there at the beginning has been made anew -/
def Wk2 (R : w_S) : Prop := RelWk R ∧ ∀ b, b < 129 → R.2.2.1 b = none
theorem Wk2.cg {R R1 : w_S} (h : Wk2 R) (k : R1.2 = R.2) : Wk2 R1 := ⟨h.1.cg k, by rw [k]; exact h.2⟩
theorem Wk2.kp {R R1 : w_S} (h : Wk2 R) (h3 : R1.2.1 3 = R.2.1 3) (h4 : R1.2.1 4 = R.2.1 4) (hd : ∀ b, b < 238 → R1.2.2.1 b = R.2.2.1 b) : Wk2 R1 := ⟨h.1.kp h3 h4 hd, fun b hb => by rw [hd b (by omega)]; exact h.2 b hb⟩
/-- what was asked -/
def Ask (S R : w_S) : Prop := RelK S R ∧ RelPr S R ∧ RelFn S R ∧ RelRs S R ∧ Wk2 R
def Val (S R : w_S) (t : Nat) : Prop := ∃ ta L E V n, Hs S R (t : Int) (kp (S.1 128) t) ta L E V n ∧ RelVa S R (kp (S.1 128) t) ta E V
/-- both, after so many calls -/
def Inv (e : w_E) (N i : Nat) (S R : w_S) : Prop := ∃ t sa Ls, Core e N i S R t sa Ls ∧ Num S R t ∧ (RelTp S R ∧ S.1 1 1 + S.1 1 2 ≤ 20 * (i : Int)) ∧ Ask S R ∧ Val S R t
theorem Core.lens {e : w_E} {N i t sa Ls : Nat} {S R : w_S} (h : Core e N i S R t sa Ls) : ∀ k, k < t → 0 ≤ S.1 128 (6 * k + 5) := fun k hk => (h.2.2.2.2.2.2.2.1 k hk).2.2.2.2.2.1
/-- the class's text is opened -/
def opx (S : w_S) (f len : Int) : w_S := w_put (w_put (w_put (w_put S 1 3 f) 1 4 f) 1 5 (f + len)) 1 6 (-1)
/-- an entry more in the class's journal -/
def j6 (j : Nat → Int) (t : Nat) (k a b c d len : Int) : Nat → Int := pt (pt (pt (pt (pt (pt j (6 * t) k) (6 * t + 1) a) (6 * t + 2) b) (6 * t + 3) c) (6 * t + 4) d) (6 * t + 5) len
theorem j6_lo {j : Nat → Int} {t : Nat} {k a b c d len : Int} {u : Nat} (h : u < 6 * t) : j6 j t k a b c d len u = j u := by
  unfold j6
  simp only [pt_at]
  rw [if_neg (by omega), if_neg (by omega), if_neg (by omega), if_neg (by omega), if_neg (by omega), if_neg (by omega)]
theorem j6_at {j : Nat → Int} {t : Nat} {k a b c d len : Int} : j6 j t k a b c d len (6 * t) = k ∧ j6 j t k a b c d len (6 * t + 1) = a ∧ j6 j t k a b c d len (6 * t + 2) = b ∧ j6 j t k a b c d len (6 * t + 3) = c ∧ j6 j t k a b c d len (6 * t + 4) = d ∧ j6 j t k a b c d len (6 * t + 5) = len := by
  unfold j6
  simp only [pt_at]
  refine ⟨?_, ?_, ?_, ?_, ?_, ?_⟩
  · rw [if_neg (by omega), if_neg (by omega), if_neg (by omega), if_neg (by omega), if_neg (by omega), if_pos trivial]
  · rw [if_neg (by omega), if_neg (by omega), if_neg (by omega), if_neg (by omega), if_pos trivial]
  · rw [if_neg (by omega), if_neg (by omega), if_neg (by omega), if_pos trivial]
  · rw [if_neg (by omega), if_neg (by omega), if_pos trivial]
  · rw [if_neg (by omega), if_pos trivial]
  · rw [if_pos trivial]
theorem j6_kp {j : Nat → Int} {t : Nat} {k a b c d len : Int} {u : Nat} (h : u ≤ t) : kp (j6 j t k a b c d len) u = kp j u := kp_cg (fun v hv => j6_lo (by omega))
theorem j6_kp1 {j : Nat → Int} {t : Nat} {k a b c d len : Int} : kp (j6 j t k a b c d len) (t + 1) = kp j t + len := by
  rw [kp, j6_kp (Nat.le_refl t), j6_at.2.2.2.2.2]
theorem opx_f (S : w_S) (f len : Int) : frm [] [1] [(1, 3), (1, 4), (1, 5), (1, 6)] S (opx S f len) := by
  unfold opx
  repeat (first | exact frm.refl _ _ _ _ | refine frm.put ?_ rfl | refine frm.puto ?_ rfl rfl)
theorem opx_o (S : w_S) (f len : Int) : Opn (opx S f len) f len := by
  unfold opx Opn
  simp only [w_put_r, reduceIte, Nat.reduceEqDiff, pt_at]
  exact ⟨trivial, trivial, trivial, trivial⟩
/-- the next act, in both -/
theorem a_tan {e : w_E} {N i t sa Ls : Nat} {S R R' : w_S} {k a b c d len : Int} (hN : 16000000 ≤ N) (hi : i < 512) (hk : 0 ≤ k) (hk2 : k ≤ 44) (h : Core e N i S R t sa Ls) (l0 : 0 ≤ len) (l1 : len ≤ 2000) (l2 : kp (S.1 128) t + len ≤ 10240) (l3 : k < 32 → len = 0) (hX : Rdy (j6 (S.1 128) t k a b c d len) (S.1 2) t R') (hf : frn R R') : Al e N (j6 (S.1 128) t k a b c d len) (S.1 2) t R' ∧ ∃ ta L E V n, Hs (opx S (kp (S.1 128) t) len) R' (t : Int) (kp (S.1 128) t) ta L E V n ∧ Ok (E_C_perform e N k a b c d (opx S (kp (S.1 128) t) len)) (fun y S1 => Ok (E_R_perform e N (km k) a b c d R') (fun y' R1 => Pg k a (opx S (kp (S.1 128) t) len) R' (t : Int) (kp (S.1 128) t) (kp (S.1 128) t + len) ta L E V n y y' S1 R1)) := by
  have ln := h.lens
  obtain ⟨h1, h2, h3, h4, h5, h6, h7, h8, h9, h10, h11, h12, h13⟩ := h
  have hA : Al e N (j6 (S.1 128) t k a b c d len) (S.1 2) t R' := (h11.cg (fun u hu => j6_lo hu) ln (fun _ _ => rfl)).rf hf (by have := hX.1; omega)
  refine ⟨hA, ?_⟩
  have hC : Rch e N (j6 (S.1 128) t k a b c d len) (S.1 2) t S := h10.cg (fun u hu => j6_lo hu) ln (fun _ _ => rfl)
  obtain ⟨a0, a1, a2, a3, a4, a5⟩ := @j6_at (S.1 128) t k a b c d len
  have k0 := kpj_ge ln
  have E1 : Eok (j6 (S.1 128) t k a b c d len) t := by
    unfold Eok
    rw [a0, a5, j6_kp (Nat.le_refl t), j6_kp1]
    exact ⟨by omega, hk, hk2, l0, l1, k0, l2, l3⟩
  have o2 : (opx S (kp (S.1 128) t) len).1 2 = S.1 2 := (opx_f S _ _).2.1 2 rfl rfl
  have key := r_tan (C := S) (C' := opx S (kp (S.1 128) t) len) hN E1 hX hA hC (by rw [j6_kp (Nat.le_refl t)]; exact Same.of (opx_f S _ _) (by decide)) (by rw [j6_kp (Nat.le_refl t), a5]; exact opx_o S _ _) (fun p _ => by rw [o2]) (fun p => by rw [o2]; exact h5 p)
  rw [a0, a1, a2, a3, a4, j6_kp (Nat.le_refl t), j6_kp1] at key
  exact key
end
