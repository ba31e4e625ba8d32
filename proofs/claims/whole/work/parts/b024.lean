section
-- cw
/-- a subfield: its code and its row; a field: tag, two indicators, subfields -/
abbrev Sfl : Type := Int × List Int
abbrev Fdl : Type := Int × Int × Int × List Sfl
def tg3 (t : Int) : List Int := [48 + t / 100, 48 + t / 10 % 10, 48 + t % 10]
def sb (s : Sfl) : List Int := 36 :: s.1 :: s.2
/-- what stands behind a field's tag and space, before its end -/
def fbd (f : Fdl) : List Int := if f.1 < 10 then f.2.2.2.flatMap (fun s => s.2) else f.2.1 :: f.2.2.1 :: f.2.2.2.flatMap sb
def ser (f : Fdl) : List Int := tg3 f.1 ++ 32 :: fbd f ++ [10]
def doc (l : List Fdl) : List Int := l.flatMap ser
def vrow (r : List Int) : Prop := 1 ≤ r.length ∧ r.length ≤ 40 ∧ ∀ b, b ∈ r → rwb b = true
/-- a field as it may be -/
def vfd (f : Fdl) : Prop := 1 ≤ f.1 ∧ f.1 ≤ 999 ∧ (∀ s, s ∈ f.2.2.2 → vrow s.2) ∧ (f.1 < 10 → f.2.1 = 0 ∧ f.2.2.1 = 0 ∧ ∃ r, f.2.2.2 = [(0, r)]) ∧ (10 ≤ f.1 → inb f.2.1 = true ∧ inb f.2.2.1 = true ∧ f.2.2.2 ≠ [] ∧ ∀ s, s ∈ f.2.2.2 → cdb s.1 = true)
/-- an array holds bytes from a place on -/
def byt (a : Nat → Int) : Nat → List Int → Prop
  | _, [] => True
  | p, b :: l => a p = b ∧ byt a (p + 1) l
theorem byt_app {a : Nat → Int} : ∀ (l m : List Int) (p : Nat), byt a p (l ++ m) ↔ byt a p l ∧ byt a (p + l.length) m
  | [], m, p => by
    rw [List.nil_append, byt, List.length_nil, Nat.add_zero]
    exact ⟨fun h => ⟨trivial, h⟩, fun h => h.2⟩
  | b :: l, m, p => by
    rw [List.cons_append, byt, byt, byt_app l m (p + 1), List.length_cons, show p + 1 + l.length = p + (l.length + 1) by omega]
    exact ⟨fun h => ⟨⟨h.1, h.2.1⟩, h.2.2⟩, fun h => ⟨h.1.1, h.1.2, h.2⟩⟩
theorem byt_at {a : Nat → Int} : ∀ {l : List Int} {p : Nat}, byt a p l → ∀ k, k < l.length → a (p + k) = l.getD k 0
  | [], p, _, k, hk => by
    rw [List.length_nil] at hk
    omega
  | b :: l, p, h, k, hk => by
    rw [byt] at h
    rcases k with _ | k
    · exact h.1
    · have := byt_at h.2 k (by rw [List.length_cons] at hk; omega)
      rw [show p + 1 + k = p + (k + 1) by omega] at this
      exact this
theorem byt_of {a : Nat → Int} : ∀ {l : List Int} {p : Nat}, (∀ k, k < l.length → a (p + k) = l.getD k 0) → byt a p l
  | [], p, _ => trivial
  | b :: l, p, h => by
    rw [byt]
    refine ⟨h 0 (by rw [List.length_cons]; omega), byt_of (fun k hk => ?_)⟩
    have := h (k + 1) (by rw [List.length_cons]; omega)
    rw [show p + 1 + k = p + (k + 1) by omega]
    exact this
theorem byt_congr {a b : Nat → Int} : ∀ {l : List Int} {p q : Nat}, byt a p l → (∀ k, k < l.length → b (q + k) = a (p + k)) → byt b q l := by
  intro l p q h hc
  refine byt_of (fun k hk => ?_)
  rw [hc k hk]
  exact byt_at h k hk
theorem fbd_ne {f : Fdl} (h : vfd f) : ∀ b, b ∈ fbd f → b ≠ 10 ∧ 0 ≤ b ∧ b ≤ 127 := by
  obtain ⟨h1, h2, h3, h4, h5⟩ := h
  have rw1 : ∀ b, rwb b = true → b ≠ 10 ∧ 0 ≤ b ∧ b ≤ 127 := fun b hb => by
    unfold rwb at hb
    simp only [Bool.and_eq_true, decide_eq_true_eq] at hb
    omega
  intro b hb
  unfold fbd at hb
  split at hb
  · rw [List.mem_flatMap] at hb
    obtain ⟨s, s1, s2⟩ := hb
    exact rw1 b ((h3 s s1).2.2 b s2)
  · rename_i c
    obtain ⟨g1, g2, g3, g4⟩ := h5 (by omega)
    rcases List.mem_cons.1 hb with hb | hb
    · have := inb_iff.1 g1
      omega
    · rcases List.mem_cons.1 hb with hb | hb
      · have := inb_iff.1 g2
        omega
      · rw [List.mem_flatMap] at hb
        obtain ⟨s, s1, s2⟩ := hb
        unfold sb at s2
        rcases List.mem_cons.1 s2 with s2 | s2
        · omega
        · rcases List.mem_cons.1 s2 with s2 | s2
          · have := cdb_iff.1 (g4 s s1)
            omega
          · exact rw1 b ((h3 s s1).2.2 b s2)
theorem l_fieldEnd {e : w_E} {N n a0 : Nat} {S : w_S} (hl : e_len Tr S a0 1 = some n) (hn : n < 2000000000) : ∀ (l : List Int) (p nf : Nat), (∀ b, b ∈ l → b ≠ 10) → byt (S.1 a0) p (l ++ [10]) → p + l.length < n → l.length < nf → El_R_fieldEnd e N nf 0 [(p : Int)] [a0] S = some (((p + l.length : Nat) : Int), S)
  | _, _, 0, _, _, _, h => by omega
  | [], p, nf + 1, h1, h2, h3, h4 => by
    rw [List.nil_append, byt] at h2
    rw [List.length_nil] at h3
    rw [El_R_fieldEnd, hl]
    show (if 0 ≤ (p : Int) then (if (p : Int) < (n : Int) then (if S.1 a0 ((p : Int)).toNat = 10 then some ((p : Int), S) else _) else none) else none) = _
    rw [if_pos (by omega), if_pos (by omega), show ((p : Int)).toNat = p by omega, if_pos h2.1, List.length_nil, Nat.add_zero]
  | b :: l, p, nf + 1, h1, h2, h3, h4 => by
    rw [List.cons_append, byt] at h2
    rw [List.length_cons] at h3 h4
    have ih := l_fieldEnd (e := e) (N := N) hl hn l (p + 1) nf (fun c hc => h1 c (List.mem_cons_of_mem _ hc)) h2.2 (by omega) (by omega)
    rw [El_R_fieldEnd, hl]
    show (if 0 ≤ (p : Int) then (if (p : Int) < (n : Int) then (if S.1 a0 ((p : Int)).toNat = 10 then some ((p : Int), S) else (if w_nb ((p : Int) + 1) = true then El_R_fieldEnd e N nf 0 [(p : Int) + 1] [a0] S else none)) else none) else none) = _
    have hb := h1 b (List.mem_cons_self ..)
    rw [if_pos (by omega), if_pos (by omega), show ((p : Int)).toNat = p by omega, if_neg (by rw [h2.1]; exact hb), if_pos (by rw [w_nbE]; omega), show (p : Int) + 1 = ((p + 1 : Nat) : Int) by omega, ih, List.length_cons, show p + 1 + l.length = p + (l.length + 1) by omega]
theorem l_rowEnd {e : w_E} {N n a0 : Nat} {q : Int} {S : w_S} (hl : e_len Tr S a0 1 = some n) (hn : n < 2000000000) : ∀ (l : List Int) (p nf : Nat), (∀ b, b ∈ l → b ≠ 36) → byt (S.1 a0) p l → ((p + l.length : Nat) : Int) ≤ q → q ≤ n → (((p + l.length : Nat) : Int) = q ∨ S.1 a0 (p + l.length) = 36) → l.length < nf → El_R_rowEnd e N nf 0 [q, (p : Int)] [a0] S = some (((p + l.length : Nat) : Int), S)
  | _, _, 0, _, _, _, _, _, h => by omega
  | [], p, nf + 1, h1, h2, h3, h4, h5, h6 => by
    rw [List.length_nil, Nat.add_zero] at h3 h5
    rw [El_R_rowEnd, List.length_nil, Nat.add_zero]
    by_cases c : q ≤ (p : Int)
    · rw [if_pos c]
    · rw [if_neg c, hl]
      show (if 0 ≤ (p : Int) then (if (p : Int) < (n : Int) then (if S.1 a0 ((p : Int)).toNat = 36 then some ((p : Int), S) else _) else none) else none) = _
      have h7 : S.1 a0 p = 36 := by omega
      rw [if_pos (by omega), if_pos (by omega), show ((p : Int)).toNat = p by omega, if_pos h7]
  | b :: l, p, nf + 1, h1, h2, h3, h4, h5, h6 => by
    rw [byt] at h2
    rw [List.length_cons] at h3 h5 h6
    have ih := l_rowEnd (e := e) (N := N) (q := q) hl hn l (p + 1) nf (fun c hc => h1 c (List.mem_cons_of_mem _ hc)) h2.2 (by omega) h4 (by rw [show p + 1 + l.length = p + (l.length + 1) by omega]; exact h5) (by omega)
    have hb := h1 b (List.mem_cons_self ..)
    rw [El_R_rowEnd, if_neg (by omega), hl]
    show (if 0 ≤ (p : Int) then (if (p : Int) < (n : Int) then (if S.1 a0 ((p : Int)).toNat = 36 then some ((p : Int), S) else (if w_nb ((p : Int) + 1) = true then El_R_rowEnd e N nf 0 [q, (p : Int) + 1] [a0] S else none)) else none) else none) = _
    rw [if_pos (by omega), if_pos (by omega), show ((p : Int)).toNat = p by omega, if_neg (by rw [h2.1]; exact hb), if_pos (by rw [w_nbE]; omega), show (p : Int) + 1 = ((p + 1 : Nat) : Int) by omega, ih, List.length_cons, show p + 1 + l.length = p + (l.length + 1) by omega]
/-- where the first subfield with a code begins among them, if there is one -/
def fsb (c : Int) : List Sfl → Option Nat
  | [] => none
  | s :: ss => if s.1 = c then some 0 else (fsb c ss).map (fun n => (sb s).length + n)
theorem l_firstA {e : w_E} {N n a0 : Nat} {q : Nat} {S : w_S} (hN : 2001 ≤ N) (hl : e_len Tr S a0 1 = some n) (hn : n < 2000000000) (hq : q < n) (h10 : S.1 a0 q = 10) : ∀ (ss : List Sfl) (p nf : Nat), (∀ s, s ∈ ss → vrow s.2) → byt (S.1 a0) p (ss.flatMap sb) → p + (ss.flatMap sb).length = q → ss.length < nf → El_R_firstA e N nf 0 [(q : Int), (p : Int)] [a0] S = some ((match fsb 97 ss with | some k => ((p + k : Nat) : Int) | none => -1), S)
  | _, _, 0, _, _, _, h => by omega
  | [], p, nf + 1, h1, h2, h3, h4 => by
    rw [List.flatMap_nil, List.length_nil] at h3
    rw [El_R_firstA, if_pos (by omega), fsb]
  | s :: ss, p, nf + 1, h1, h2, h3, h4 => by
    rw [List.flatMap_cons] at h2 h3
    rw [List.length_append] at h3
    rw [byt_app] at h2
    obtain ⟨h5, h6⟩ := h2
    have vr := h1 s (List.mem_cons_self ..)
    have l1 : (sb s).length = s.2.length + 2 := by
      unfold sb
      rw [List.length_cons, List.length_cons]
    unfold sb at h5
    rw [byt, byt] at h5
    obtain ⟨b1, b2, b3⟩ := h5
    rw [List.length_cons] at h4
    rw [fsb]
    rw [El_R_firstA, if_neg (by omega), if_pos (by rw [w_nbE]; omega), hl]
    show (if 0 ≤ (p : Int) + 1 then (if (p : Int) + 1 < (n : Int) then (if S.1 a0 ((p : Int) + 1).toNat ≠ 97 then (if w_nb ((p : Int) + 2) = true then ((E_R_rowEnd e N ((p : Int) + 2) (q : Int) a0 S).bind (fun q744 => El_R_firstA e N nf 0 [(q : Int), q744.1] [a0] q744.2)) else none) else some ((p : Int), S)) else none) else none) = _
    rw [if_pos (by omega), if_pos (by omega), show ((p : Int) + 1).toNat = p + 1 by omega, b2]
    by_cases c : s.1 = 97
    · rw [if_neg (by omega), if_pos c]
      rfl
    · rw [if_pos c, if_neg c, if_pos (by rw [w_nbE]; omega)]
      have ne : ∀ b, b ∈ s.2 → b ≠ 36 := fun b hb => by
        have := vr.2.2 b hb
        unfold rwb at this
        simp only [Bool.and_eq_true, decide_eq_true_eq, Bool.not_eq_true', decide_eq_false_iff_not] at this
        exact this.2
      have re := l_rowEnd (e := e) (N := N) (q := (q : Int)) hl hn s.2 (p + 2) N ne b3 (by omega) (by omega) (by
        cases ss with
        | nil =>
          rw [List.flatMap_nil, List.length_nil] at h3
          left
          omega
        | cons s2 ss2 =>
          right
          rw [List.flatMap_cons, byt_app] at h6
          have h7 := h6.1
          unfold sb at h7
          rw [byt] at h7
          have := h7.1
          rw [List.length_cons, List.length_cons, show p + (s.2.length + 1 + 1) = p + 2 + s.2.length by omega] at this
          exact this) (by have := vr.2.1; omega)
      have re' : E_R_rowEnd e N ((p : Int) + 2) (q : Int) a0 S = some (((p + 2 + s.2.length : Nat) : Int), S) := by
        unfold E_R_rowEnd
        rw [show (p : Int) + 2 = ((p + 2 : Nat) : Int) by omega]
        exact re
      rw [re']
      have ih := l_firstA (e := e) (N := N) hN hl hn hq h10 ss (p + (sb s).length) nf (fun x hx => h1 x (List.mem_cons_of_mem _ hx)) h6 (by omega) (by omega)
      show El_R_firstA e N nf 0 [(q : Int), ((p + 2 + s.2.length : Nat) : Int)] [a0] S = _
      rw [show p + 2 + s.2.length = p + (sb s).length by omega, ih]
      cases fsb 97 ss with
      | none => rfl
      | some k =>
        show some (((p + (sb s).length + k : Nat) : Int), S) = some (((p + ((sb s).length + k) : Nat) : Int), S)
        rw [Nat.add_assoc]
end
section
-- cx
/-- subfields behind the first one, as the reference reads them -/
def sfR (G : Int → Int) : Nat → Int → Int
  | 0, q => if G q = 36 then -1 - q else q
  | k + 1, q => if G q = 36 then (if pV G (pP cdb G (q + 1)) < 0 then pV G (pP cdb G (q + 1)) else sfR G k (pV G (pP cdb G (q + 1)))) else q
def sfF (G : Int → Int) (q : Int) : Int := if pV G (pP cdb G (pB G 36 q)) < 0 then pV G (pP cdb G (pB G 36 q)) else sfR G 4 (pV G (pP cdb G (pB G 36 q)))
/-- and as the class does -/
def sfC (G : Int → Int) : Nat → Int → Int
  | 0, q => q
  | k + 1, q => if G q = 36 then (if pW G (pP cdb G (q + 1)) < 0 then pW G (pP cdb G (q + 1)) else sfC G k (pW G (pP cdb G (q + 1)))) else q
def sfD (G : Int → Int) (q : Int) : Int := if pW G (pP cdb G (pB G 36 q)) < 0 then pW G (pP cdb G (pB G 36 q)) else sfC G 4 (pW G (pP cdb G (pB G 36 q)))
def fqs (G : Int → Int) (p : Int) : Int := pB G 32 (pT G 1 p)
def fqR (G : Int → Int) (p : Int) : Int := if fqs G p < 0 then fqs G p else pB G 10 (if vl G p 3 < 10 then pV G (fqs G p) else sfF G (pP inb G (pP inb G (fqs G p))))
def fqC (G : Int → Int) (p : Int) : Int := if fqs G p < 0 then fqs G p else pB G 10 (if vl G p 3 < 10 then pW G (fqs G p) else sfD G (pP inb G (pP inb G (fqs G p))))
theorem row2 {G : Int → Int} {x : Int} (h : 0 ≤ x) : pV G x = pW G x ∨ (pW G x = x + 40 ∧ pV G x = -1 - (x + 40) ∧ rwb (G (x + 40)) = true) := by
  have c : ¬ x < 0 := by omega
  have nl := nw_le rwb G 40 x
  have eV : pV G x = if nw rwb G 41 x = 0 then -1 - x else if nw rwb G 41 x = 41 then -1 - (x + 40) else x + (nw rwb G 41 x : Nat) := by
    unfold pV
    rw [if_neg c]
  have eW : pW G x = if nw rwb G 40 x = 0 then -1 - x else x + (nw rwb G 40 x : Nat) := by
    unfold pW
    rw [if_neg c]
  have ns := nw_succ rwb G 40 x
  by_cases d : nw rwb G 40 x = 40 ∧ rwb (G (x + (40 : Nat))) = true
  · right
    rw [if_pos d] at ns
    rw [ns, if_neg (by omega), if_pos (by omega)] at eV
    rw [d.1, if_neg (by omega)] at eW
    refine ⟨eW, eV, ?_⟩
    have := d.2
    rw [show x + ((40 : Nat) : Int) = x + 40 by omega] at this
    exact this
  · left
    rw [if_neg d] at ns
    rw [ns] at eV
    rw [eV, eW]
    by_cases g : nw rwb G 40 x = 0
    · rw [if_pos g, if_pos g]
    · rw [if_neg g, if_neg g, if_neg (by omega : ¬ nw rwb G 40 x = 41)]
theorem sf_eq {G : Int → Int} : ∀ (k : Nat) (q : Int), 0 ≤ q → pB G 10 (sfC G k q) = pB G 10 (sfR G k q)
  | 0, q, h => by
    rw [sfC, sfR]
    by_cases c : G q = 36
    · rw [if_pos c, pB_neg (q := -1 - q) (by omega), pB_n h (by omega)]
    · rw [if_neg c]
  | k + 1, q, h => by
    rw [sfC, sfR]
    by_cases c : G q = 36
    · rw [if_pos c, if_pos c]
      by_cases d : pP cdb G (q + 1) < 0
      · rw [pW_neg d, pV_neg d, if_pos d, if_pos d]
      · have d0 : 0 ≤ pP cdb G (q + 1) := by omega
        generalize pP cdb G (q + 1) = x at d d0
        rcases row2 (G := G) d0 with r | ⟨r1, r2, r3⟩
        · rw [r]
          by_cases g : pW G x < 0
          · rw [if_pos g, if_pos g]
          · rw [if_neg g, if_neg g]
            exact sf_eq k _ (by omega)
        · have ne : G (x + 40) ≠ 36 ∧ G (x + 40) ≠ 10 := by
            unfold rwb at r3
            simp only [Bool.and_eq_true, decide_eq_true_eq, Bool.not_eq_true', decide_eq_false_iff_not] at r3
            omega
          have e1 : sfC G k (x + 40) = x + 40 := by
            cases k with
            | zero => rfl
            | succ k => rw [sfC, if_neg ne.1]
          rw [r1, r2, if_neg (by omega), if_pos (by omega), e1, pB_n (by omega) ne.2, pB_neg (q := -1 - (x + 40)) (by omega)]
    · rw [if_neg c, if_neg c]
theorem fq_eq (G : Int → Int) (p : Int) : fqC G p = fqR G p := by
  unfold fqC fqR
  by_cases c : fqs G p < 0
  · rw [if_pos c, if_pos c]
  · rw [if_neg c, if_neg c]
    by_cases d : vl G p 3 < 10
    · rw [if_pos d, if_pos d]
      exact pB_row G (by decide) _
    · rw [if_neg d, if_neg d]
      unfold sfD sfF
      generalize pP inb G (pP inb G (fqs G p)) = u
      by_cases g : pP cdb G (pB G 36 u) < 0
      · rw [pW_neg g, pV_neg g, if_pos g, if_pos g]
      · have g0 : 0 ≤ pP cdb G (pB G 36 u) := by omega
        generalize pP cdb G (pB G 36 u) = x at g g0
        rcases row2 (G := G) g0 with r | ⟨r1, r2, r3⟩
        · rw [r]
          by_cases m : pW G x < 0
          · rw [if_pos m, if_pos m]
          · rw [if_neg m, if_neg m]
            exact sf_eq 4 _ (by omega)
        · have ne : G (x + 40) ≠ 36 ∧ G (x + 40) ≠ 10 := by
            unfold rwb at r3
            simp only [Bool.and_eq_true, decide_eq_true_eq, Bool.not_eq_true', decide_eq_false_iff_not] at r3
            omega
          have e1 : sfC G 4 (x + 40) = x + 40 := by
            rw [sfC, if_neg ne.1]
          rw [r1, r2, if_neg (by omega), if_pos (by omega), e1, pB_n (by omega) ne.2, pB_neg (q := -1 - (x + 40)) (by omega)]
theorem sfR_bd {G : Int → Int} {len : Int} (hG : ∀ p, len ≤ p → G p = -1) : ∀ (k : Nat) (q : Int), 0 ≤ q → q ≤ len → Bd len (sfR G k q)
  | 0, q, h, h1 => by
    rw [sfR]
    split
    · exact ⟨by omega, by omega⟩
    · exact ⟨by omega, h1⟩
  | k + 1, q, h, h1 => by
    rw [sfR]
    split
    · have := hG q
      have b := (pV_bd hG (pP_bd (P := cdb) hG (by decide) (show Bd len (q + 1) from ⟨by omega, by omega⟩))).1
      split
      · exact b
      · unfold Bd at b
        exact sfR_bd hG k _ (by omega) b.2
    · exact ⟨by omega, h1⟩
theorem sfF_bd {G : Int → Int} {len q : Int} (hG : ∀ p, len ≤ p → G p = -1) (h : Bd len q) : Bd len (sfF G q) := by
  have b := (pV_bd hG (pP_bd (P := cdb) hG (by decide) (pB_bd (b := 36) hG (by decide) h))).1
  unfold sfF
  split
  · exact b
  · unfold Bd at b
    exact sfR_bd hG 4 _ (by omega) b.2
theorem fqR_bd {G : Int → Int} {len p : Int} (hG : ∀ p, len ≤ p → G p = -1) (h : Bd len p) : Bd len (fqR G p) := by
  have b : Bd len (fqs G p) := pB_bd hG (by decide) (pT_bd hG h)
  unfold fqR
  split
  · exact b
  · refine pB_bd hG (by decide) ?_
    split
    · exact (pV_bd hG b).1
    · exact sfF_bd hG (pP_bd hG (by decide) (pP_bd hG (by decide) b))
/-- subfields in the reference -/
theorem l_subR {e : w_E} {N : Nat} {len : Int} {G : Int → Int} {R : w_S} (hN : 2001 ≤ N) (hR : TR R len G) : ∀ (k i nf : Nat) (q : Int), i + k = 5 → 1 ≤ i → k < nf → 0 ≤ q → q ≤ len → El_R_subfields e N nf 0 [q, (i : Int)] [] R = some (sfR G k q, R)
  | _, _, 0, _, _, _, h, _, _ => by omega
  | k, i, nf + 1, q, g1, g2, g3, g4, g5 => by
    have lb := hR.2.2.1
    have hx := x_at (e := e) (N := N) hR g4
    have hb := hR.b g4
    refine ok_eq ?_
    rw [El_R_subfields]
    refine ok_e (by omega) (ok_b (ok_of hx ?_))
    dsimp only
    by_cases c : G q = 36
    · refine ok_e (by omega) ?_
      cases k with
      | zero =>
        rw [sfR, if_pos c]
        exact ok_t (by omega) (ok_nb (by omega) (ok_s ⟨rfl, rfl⟩))
      | succ k =>
        have hlt := tr_lt hR g4 (by omega)
        have hx1 := x_at (e := e) (N := N) hR (show 0 ≤ q + 1 by omega)
        have hb1 := hR.b (show 0 ≤ q + 1 by omega)
        refine ok_e (by omega) (ok_b (ok_of hx ?_))
        dsimp only
        refine ok_t c (ok_nb (by omega) (ok_b (ok_of hx1 ?_)))
        dsimp only
        by_cases d : cdb (G (q + 1)) = true
        · have d1 := cdb_iff.1 d
          have hlt1 := tr_lt hR (show 0 ≤ q + 1 by omega) (by omega)
          have pc : pP cdb G (q + 1) = q + 2 := by
            unfold pP
            rw [if_neg (by omega), if_pos d]
            omega
          have hrow := x_rowR (e := e) (N := N) hN hR (show 0 ≤ q + 2 by omega) (by omega)
          have bv := (pV_bd hR.e (show Bd len (q + 2) from ⟨by omega, by omega⟩)).1
          unfold Bd at bv
          have rest : Ok ((E_R_row e N (q + 2) R).bind (fun q678 => (if 0 ≤ q678.1 then (if w_nb ((i : Int) + 1) = true then El_R_subfields e N nf 0 [q678.1, (i : Int) + 1] [] q678.2 else none) else some (q678.1, q678.2)))) (fun y S1 => y = sfR G (k + 1) q ∧ S1 = R) := by
            rw [sfR, if_pos c, pc]
            refine ok_b (ok_of hrow ?_)
            dsimp only
            by_cases m : 0 ≤ pV G (q + 2)
            · rw [if_neg (by omega : ¬ pV G (q + 2) < 0)]
              have ih := l_subR (e := e) (N := N) hN hR k (i + 1) nf (pV G (q + 2)) (by omega) (by omega) (by omega) m (by omega)
              rw [show ((i + 1 : Nat) : Int) = (i : Int) + 1 by omega] at ih
              exact ok_t m (ok_nb (by omega) (ok_of ih ⟨rfl, rfl⟩))
            · rw [if_pos (by omega : pV G (q + 2) < 0)]
              exact ok_e m (ok_s ⟨rfl, rfl⟩)
          rcases d1 with d1 | d1
          · exact ok_e (by omega) (ok_e (by omega) (ok_nb (by omega) rest))
          · refine ok_t (by omega) (ok_b (ok_of hx1 ?_))
            dsimp only
            exact ok_e (by omega) (ok_e (by omega) (ok_nb (by omega) rest))
        · have d1 : ¬ ((97 ≤ G (q + 1) ∧ G (q + 1) ≤ 122) ∨ (48 ≤ G (q + 1) ∧ G (q + 1) ≤ 57)) := fun z => d (cdb_iff.2 z)
          have pc : pP cdb G (q + 1) = -1 - (q + 1) := by
            unfold pP
            rw [if_neg (by omega), if_neg d]
          rw [sfR, if_pos c, pc, pV_neg (by omega), if_pos (by omega : -1 - (q + 1) < 0)]
          have fy : (fun y S1 => y = -1 - (q + 1) ∧ S1 = R) (-1 - (q + 1)) R := ⟨rfl, rfl⟩
          clear pc d
          repeat' (first | (with_reducible refine ok_of hx1 ?_; dsimp only) | with_reducible refine ok_nb (by omega) ?_ | with_reducible refine ok_ib (by omega) ?_ | with_reducible refine ok_t (by omega) ?_ | with_reducible refine ok_e (by omega) ?_ | with_reducible refine ok_if (fun h => ?_) (fun h => ?_) | with_reducible refine ok_s ?_ | with_reducible refine ok_b ?_)
          all_goals first | (exfalso; omega) | exact fy
    · have e1 : sfR G k q = q := by
        cases k with
        | zero => rw [sfR, if_neg c]
        | succ k => rw [sfR, if_neg c]
      rw [e1]
      exact ok_t c (ok_s ⟨rfl, rfl⟩)
end
section
-- cy
theorem x_subfields {e : w_E} {N : Nat} {len q : Int} {G : Int → Int} {R : w_S} (hN : 2001 ≤ N) (hR : TR R len G) (g4 : 0 ≤ q) (g5 : q ≤ len) : E_R_subfields e N q R = some (sfF G q, R) := by
  have lb := hR.2.2.1
  have hx := x_at (e := e) (N := N) hR g4
  have hb := hR.b g4
  obtain ⟨nf, hnf⟩ : ∃ n, N = n + 1 := ⟨N - 1, by omega⟩
  refine ok_eq ?_
  unfold E_R_subfields
  rw [show El_R_subfields e N N = El_R_subfields e N (nf + 1) by rw [← hnf], El_R_subfields]
  refine ok_t rfl (ok_e (by omega) (ok_b (ok_of hx ?_)))
  dsimp only
  unfold sfF
  by_cases c : G q = 36
  · have hlt := tr_lt hR g4 (by omega)
    rw [pB_y g4 c]
    have hx1 := x_at (e := e) (N := N) hR (show 0 ≤ q + 1 by omega)
    have hb1 := hR.b (show 0 ≤ q + 1 by omega)
    refine ok_t c (ok_nb (by omega) (ok_b (ok_of hx1 ?_)))
    dsimp only
    by_cases d : cdb (G (q + 1)) = true
    · have d1 := cdb_iff.1 d
      have hlt1 := tr_lt hR (show 0 ≤ q + 1 by omega) (by omega)
      have pc : pP cdb G (q + 1) = q + 2 := by
        unfold pP
        rw [if_neg (by omega), if_pos d]
        omega
      have hrow := x_rowR (e := e) (N := N) hN hR (show 0 ≤ q + 2 by omega) (by omega)
      have bv := (pV_bd hR.e (show Bd len (q + 2) from ⟨by omega, by omega⟩)).1
      unfold Bd at bv
      rw [pc]
      have rest : Ok ((E_R_row e N (q + 2) R).bind (fun q678 => (if 0 ≤ q678.1 then (if w_nb ((0 : Int) + 1) = true then El_R_subfields e N nf 0 [q678.1, (0 : Int) + 1] [] q678.2 else none) else some (q678.1, q678.2)))) (fun y S1 => y = (if pV G (q + 2) < 0 then pV G (q + 2) else sfR G 4 (pV G (q + 2))) ∧ S1 = R) := by
        refine ok_b (ok_of hrow ?_)
        dsimp only
        by_cases m : 0 ≤ pV G (q + 2)
        · have ih := l_subR (e := e) (N := N) hN hR 4 1 nf (pV G (q + 2)) (by omega) (by omega) (by omega) m (by omega)
          exact ok_t m (ok_nb (by omega) (ok_of ih ⟨by rw [if_neg (by omega)], rfl⟩))
        · exact ok_e m (ok_s ⟨by rw [if_pos (by omega)], rfl⟩)
      rcases d1 with d1 | d1
      · exact ok_e (by omega) (ok_e (by omega) (ok_nb (by omega) rest))
      · refine ok_t (by omega) (ok_b (ok_of hx1 ?_))
        dsimp only
        exact ok_e (by omega) (ok_e (by omega) (ok_nb (by omega) rest))
    · have d1 : ¬ ((97 ≤ G (q + 1) ∧ G (q + 1) ≤ 122) ∨ (48 ≤ G (q + 1) ∧ G (q + 1) ≤ 57)) := fun z => d (cdb_iff.2 z)
      have pc : pP cdb G (q + 1) = -1 - (q + 1) := by
        unfold pP
        rw [if_neg (by omega), if_neg d]
      have fy : (fun y S1 => y = (if pV G (pP cdb G (q + 1)) < 0 then pV G (pP cdb G (q + 1)) else sfR G 4 (pV G (pP cdb G (q + 1)))) ∧ S1 = R) (-1 - (q + 1)) R := ⟨by rw [pc, pV_neg (q := -1 - (q + 1)) (by omega), if_pos (by omega)], rfl⟩
      clear pc d
      repeat' (first | (with_reducible refine ok_of hx1 ?_; dsimp only) | with_reducible refine ok_nb (by omega) ?_ | with_reducible refine ok_ib (by omega) ?_ | with_reducible refine ok_t (by omega) ?_ | with_reducible refine ok_e (by omega) ?_ | with_reducible refine ok_if (fun h => ?_) (fun h => ?_) | with_reducible refine ok_s ?_ | with_reducible refine ok_b ?_)
      all_goals first | (exfalso; omega) | exact fy
  · have pc := pB_n g4 c
    refine ok_e c (ok_nb (by omega) (ok_s ⟨?_, rfl⟩))
    rw [pc, pP_neg (q := -1 - q) (by omega), pV_neg (q := -1 - q) (by omega), if_pos (by omega)]
theorem l_ft0 {e : w_E} {N : Nat} {R : w_S} {len p : Int} {G : Int → Int} {Q : Int → w_S → Prop} (h : TR R len G) (h0 : 0 ≤ p) (hl : p ≤ len) : ∀ (k i nf : Nat), i + k = 3 → k < nf → (∀ j : Nat, j < i → dgt (G (p + j)) = true) → (i + nd G k (p + i) < 3 → Q (-1 - (p + (i + nd G k (p + i) : Nat))) R) → (i + nd G k (p + i) = 3 → ∀ n', nf ≤ n' + k → Ok (El_R_fieldText e N n' 0 [p, vl G p 3, 3] [] R) Q) → Ok (El_R_fieldText e N nf 0 [p, vl G p i, (i : Int)] [] R) Q
  | _, _, 0, _, h, _, _, _ => by omega
  | 0, i, nf + 1, hk, _, hj, q1, q2 => by
    have : i = 3 := by omega
    subst this
    exact q2 rfl (nf + 1) (by omega)
  | k + 1, i, nf + 1, hk, hf, hj, q1, q2 => by
    have lb : len ≤ 2000 := h.2.2.1
    have hx : E_R_at e N (p + i) R = some (G (p + i), R) := x_at h (by omega)
    have hb := h.b (show 0 ≤ p + i by omega)
    have hvb := vl_b (G := G) (p := p) i hj
    rw [El_R_fieldText]
    refine ok_e (by omega) (ok_nb (by omega) (ok_b (ok_of hx ?_)))
    dsimp only
    by_cases c : dgt (G (p + i)) = true
    · have c1 := dgt_iff.1 c
      have e1 : i + nd G (k + 1) (p + i) = i + 1 + nd G k (p + (i + 1 : Nat)) := by
        rw [nd, if_pos c, show p + ((i + 1 : Nat) : Int) = p + i + 1 by omega]
        omega
      have e2 : vl G p (i + 1) = 10 * vl G p i + G (p + i) - 48 := by
        rw [vl, if_pos (by omega)]
        omega
      rw [e1] at q1 q2
      have ih := l_ft0 (e := e) (N := N) (Q := Q) h h0 hl k (i + 1) nf (by omega) (by omega) (fun j hj2 => by
        rcases Nat.lt_or_ge j i with d | d
        · exact hj j d
        · rw [show j = i by omega]
          exact c) q1 (fun z n' hn => q2 z n' (by omega))
      rw [e2, show ((i + 1 : Nat) : Int) = (i : Int) + 1 by omega] at ih
      refine ok_e (by omega) (ok_e (by omega) (ok_nb (by omega) (ok_b (ok_of hx ?_))))
      dsimp only
      exact ok_nb (by omega) (ok_nb (by omega) (ok_nb (by omega) ih))
    · have c1 : ¬ (48 ≤ G (p + i) ∧ G (p + i) ≤ 57) := fun z => c (dgt_iff.2 z)
      have e1 : nd G (k + 1) (p + i) = 0 := by
        rw [nd, if_neg c]
      rw [e1, show i + 0 = i from rfl] at q1
      have fy := q1 (by omega)
      by_cases d : G (p + i) < 48
      · exact ok_t d (ok_nb (by omega) (ok_s fy))
      · exact ok_e d (ok_t (by omega) (ok_nb (by omega) (ok_s fy)))
/-- the indicators and what follows -/
theorem l_ft1 {e : w_E} {N : Nat} {len : Int} {G : Int → Int} {R : w_S} (hN : 2001 ≤ N) (hR : TR R len G) {s : Int} (s0 : 0 ≤ s) : ∀ (k i nf : Nat), i + k = 2 → k < nf → s + i ≤ len → El_R_fieldText e N nf 1 [s, (i : Int)] [] R = some (pB G 10 (sfF G (if i = 0 then pP inb G (pP inb G s) else if i = 1 then pP inb G (s + 1) else s + 2)), R)
  | _, _, 0, _, h, _ => by omega
  | 0, i, nf + 1, g1, g2, g3 => by
    have lb := hR.2.2.1
    have : i = 2 := by omega
    subst this
    have hx := x_subfields (e := e) (N := N) hN hR (show 0 ≤ s + 2 by omega) (by omega)
    have bf := sfF_bd hR.e (show Bd len (s + 2) from ⟨by omega, by omega⟩)
    unfold Bd at bf
    rw [show (if (2 : Nat) = 0 then pP inb G (pP inb G s) else if (2 : Nat) = 1 then pP inb G (s + 1) else s + 2) = s + 2 from rfl]
    refine ok_eq ?_
    rw [El_R_fieldText]
    refine ok_t (by omega) (ok_nb (by omega) (ok_b (ok_of hx ?_)))
    dsimp only
    generalize sfF G (s + 2) = u at *
    by_cases c : 0 ≤ u
    · refine ok_t c (ok_b (ok_of (x_at hR c) ?_))
      dsimp only
      by_cases d : G u = 10
      · exact ok_e (by omega) (ok_nb (by omega) (ok_s ⟨(pB_y c d).symm, rfl⟩))
      · exact ok_t d (ok_nb (by omega) (ok_s ⟨(pB_n c d).symm, rfl⟩))
    · exact ok_e c (ok_s ⟨(pB_neg (by omega)).symm, rfl⟩)
  | k + 1, i, nf + 1, g1, g2, g3 => by
    have lb := hR.2.2.1
    have hx := x_at (e := e) (N := N) hR (show 0 ≤ s + i by omega)
    have hb := hR.b (show 0 ≤ s + i by omega)
    have tgt : (if i = 0 then pP inb G (pP inb G s) else if i = 1 then pP inb G (s + 1) else s + 2) = if inb (G (s + i)) = true then (if i + 1 = 0 then pP inb G (pP inb G s) else if i + 1 = 1 then pP inb G (s + 1) else s + 2) else -1 - (s + i) := by
      have ii : i = 0 ∨ i = 1 := by omega
      rcases ii with rfl | rfl
      · show pP inb G (pP inb G s) = if inb (G (s + ((0 : Nat) : Int))) = true then pP inb G (s + 1) else -1 - (s + ((0 : Nat) : Int))
        rw [show s + ((0 : Nat) : Int) = s by omega]
        by_cases d : inb (G s) = true
        · rw [if_pos d]
          have : pP inb G s = s + 1 := by
            unfold pP
            rw [if_neg (by omega), if_pos d]
          rw [this]
        · rw [if_neg d]
          have : pP inb G s = -1 - s := by
            unfold pP
            rw [if_neg (by omega), if_neg d]
          rw [this, pP_neg (by omega)]
      · show pP inb G (s + 1) = if inb (G (s + ((1 : Nat) : Int))) = true then s + 2 else -1 - (s + ((1 : Nat) : Int))
        rw [show s + ((1 : Nat) : Int) = s + 1 by omega]
        unfold pP
        rw [if_neg (by omega)]
        by_cases d : inb (G (s + 1)) = true
        · rw [if_pos d, if_pos d]
          omega
        · rw [if_neg d, if_neg d]
    rw [tgt]
    refine ok_eq ?_
    rw [El_R_fieldText]
    refine ok_e (by omega) (ok_nb (by omega) (ok_b (ok_of hx ?_)))
    dsimp only
    by_cases d : inb (G (s + i)) = true
    · have d1 := inb_iff.1 d
      have hlt := tr_lt hR (show 0 ≤ s + i by omega) (by omega)
      have ih := l_ft1 (e := e) (N := N) hN hR s0 k (i + 1) nf (by omega) (by omega) (by omega)
      rw [show ((i + 1 : Nat) : Int) = (i : Int) + 1 by omega] at ih
      rw [if_pos d]
      rcases d1 with d1 | d1
      · refine ok_t (by omega) (ok_b (ok_of hx ?_))
        dsimp only
        exact ok_t d1 (ok_nb (by omega) (ok_of ih ⟨rfl, rfl⟩))
      · exact ok_e (by omega) (ok_e (by omega) (ok_nb (by omega) (ok_of ih ⟨rfl, rfl⟩)))
    · have d1 : ¬ (G (s + i) = 32 ∨ (48 ≤ G (s + i) ∧ G (s + i) ≤ 57)) := fun z => d (inb_iff.2 z)
      rw [if_neg d]
      have neg : pB G 10 (sfF G (-1 - (s + i))) = -1 - (s + i) := by
        unfold sfF
        rw [pB_neg (q := -1 - (s + i)) (by omega), pP_neg (q := -1 - (s + i)) (by omega), pV_neg (q := -1 - (s + i)) (by omega), if_pos (by omega), pB_neg (by omega)]
      rw [neg]
      by_cases g : G (s + i) < 48
      · refine ok_t g (ok_b (ok_of hx ?_))
        dsimp only
        exact ok_e (by omega) (ok_nb (by omega) (ok_s ⟨rfl, rfl⟩))
      · refine ok_e g (ok_t (by omega) (ok_b (ok_of hx ?_)))
        dsimp only
        exact ok_e (by omega) (ok_nb (by omega) (ok_s ⟨rfl, rfl⟩))
theorem x_fieldText {e : w_E} {N : Nat} {len p : Int} {G : Int → Int} {R : w_S} (hN : 2001 ≤ N) (hR : TR R len G) (h0 : 0 ≤ p) (hl : p ≤ len) : E_R_fieldText e N p R = some (fqR G p, R) := by
  have lb := hR.2.2.1
  refine ok_eq ?_
  unfold E_R_fieldText
  have es : fqs G p = pB G 32 (pT G 1 p) := rfl
  have neg : fqs G p < 0 → fqR G p = fqs G p := fun z => by
    unfold fqR
    rw [if_pos z]
  refine Ok.mono (l_ft0 (e := e) (N := N) (Q := fun y S1 => y = fqR G p ∧ S1 = R) hR h0 hl 3 0 N (by omega) (by omega) (fun j hj => by omega) (fun z => ?_) (fun z n' hn => ?_)) (fun y S1 q => q)
  · rw [show p + ((0 : Nat) : Int) = p by omega, Nat.zero_add] at z ⊢
    have pt : pT G 1 p = -1 - (p + (nd G 3 p : Nat)) := by
      unfold pT
      rw [if_neg (by omega), if_pos z]
    have := neg (by rw [es, pt, pB_neg (by omega)]; omega)
    exact ⟨by rw [this, es, pt, pB_neg (by omega)], rfl⟩
  · rw [show p + ((0 : Nat) : Int) = p by omega, Nat.zero_add] at z
    have hd := nd_all (G := G) 3 p
    rw [z] at hd
    have vb := vl_b (G := G) (p := p) 3 hd
    obtain ⟨m, hm⟩ : ∃ m, n' = m + 1 := ⟨n' - 1, by omega⟩
    have h3 := hd 2 (by omega)
    have h3' := dgt_iff.1 h3
    have hlt := tr_lt hR (show 0 ≤ p + ((2 : Nat) : Int) by omega) (by omega)
    rw [hm, El_R_fieldText]
    refine ok_t (by omega) ?_
    by_cases c : vl G p 3 = 0
    · have pt : pT G 1 p = -1 - p := by
        unfold pT
        rw [if_neg (by omega), if_neg (by omega), if_pos (by omega)]
      have := neg (by rw [es, pt, pB_neg (by omega)]; omega)
      exact ok_e (by omega) (ok_nb (by omega) (ok_s ⟨by rw [this, es, pt, pB_neg (by omega)], rfl⟩))
    · have pt : pT G 1 p = p + 3 := by
        unfold pT
        rw [if_neg (by omega), if_neg (by omega), if_neg (by omega)]
      rw [pt] at es
      refine ok_t c (ok_nb (by omega) (ok_b (ok_of (x_at hR (by omega)) ?_)))
      dsimp only
      by_cases d : G (p + 3) = 32
      · have hlt3 := tr_lt hR (show 0 ≤ p + 3 by omega) (by omega)
        rw [pB_y (by omega) d] at es
        have fe : fqR G p = pB G 10 (if vl G p 3 < 10 then pV G (p + 4) else sfF G (pP inb G (pP inb G (p + 4)))) := by
          unfold fqR
          rw [es, if_neg (by omega), show p + 3 + 1 = p + 4 by omega]
        rw [fe]
        refine ok_t d (ok_nb (by omega) ?_)
        by_cases g : 10 ≤ vl G p 3
        · rw [if_neg (by omega : ¬ vl G p 3 < 10)]
          have key := l_ft1 (e := e) (N := N) hN hR (show 0 ≤ p + 4 by omega) 2 0 m (by omega) (by omega) (by omega)
          rw [if_pos rfl] at key
          exact ok_t g (ok_of key ⟨rfl, rfl⟩)
        · rw [if_pos (by omega : vl G p 3 < 10)]
          have bv := (pV_bd hR.e (show Bd len (p + 4) from ⟨by omega, by omega⟩)).1
          unfold Bd at bv
          refine ok_e g (ok_b (ok_of (x_rowR hN hR (by omega) (by omega)) ?_))
          dsimp only
          generalize pV G (p + 4) = u at *
          by_cases k : 0 ≤ u
          · refine ok_t k (ok_b (ok_of (x_at hR k) ?_))
            dsimp only
            by_cases o : G u = 10
            · exact ok_e (by omega) (ok_nb (by omega) (ok_s ⟨(pB_y k o).symm, rfl⟩))
            · exact ok_t o (ok_nb (by omega) (ok_s ⟨(pB_n k o).symm, rfl⟩))
          · exact ok_e k (ok_s ⟨(pB_neg (by omega)).symm, rfl⟩)
      · rw [pB_n (by omega) d] at es
        have := neg (by omega)
        exact ok_e d (ok_nb (by omega) (ok_s ⟨by omega, rfl⟩))
end
section
-- cz
/-- a row's bytes out of the text -/
def rowL (G : Int → Int) (x : Int) : List Int := (List.range (nw rwb G 40 x)).map (fun k => G (x + (k : Nat)))
theorem rowL_len (G : Int → Int) (x : Int) : (rowL G x).length = nw rwb G 40 x := by
  unfold rowL
  rw [List.length_map, List.length_range]
theorem rowL_get (G : Int → Int) (x : Int) {k : Nat} (h : k < nw rwb G 40 x) : (rowL G x).getD k 0 = G (x + k) := by
  unfold rowL
  rw [List.getD_eq_getElem?_getD, List.getElem?_map, List.getElem?_range h]
  rfl
/-- subfields behind the first one, out of the text -/
def sfl (G : Int → Int) : Nat → Int → List Sfl
  | 0, _ => []
  | k + 1, q => if G q = 36 then (G (q + 1), rowL G (q + 2)) :: sfl G k (q + 2 + (nw rwb G 40 (q + 2) : Nat)) else []
theorem sfl_len (G : Int → Int) : ∀ (k : Nat) (q : Int), (sfl G k q).length ≤ k
  | 0, _ => by
    rw [sfl, List.length_nil]
    omega
  | k + 1, q => by
    rw [sfl]
    split
    · rw [List.length_cons]
      have := sfl_len G k (q + 2 + (nw rwb G 40 (q + 2) : Nat))
      omega
    · rw [List.length_nil]
      omega
/-- what the class's row says -/
theorem Rw_text {S : w_S} {f len x : Int} {G : Int → Int} (h : TX S f len G) (hx : 0 ≤ x) : (x + (nw rwb G 40 x : Nat) ≤ len) → Rw (S.1 2) (f + len) ((f + x) * 64 + (nw rwb G 40 x : Nat)) (rowL G x).length (fun u => (rowL G x).getD u 0) := by
  intro hl
  have f0 := h.2.2.1
  refine ⟨(f + x).toNat, by rw [rowL_len]; omega, by rw [rowL_len]; omega, fun k hk => ?_⟩
  rw [rowL_len] at hk
  show S.1 2 ((f + x).toNat + k) = (rowL G x).getD k 0
  rw [rowL_get G x hk]
  have na := nw_all 40 x k hk
  have ra : 32 ≤ G (x + k) ∧ G (x + k) ≤ 126 := by
    unfold rwb at na
    simp only [Bool.and_eq_true, decide_eq_true_eq] at na
    exact na.1
  have hg := (h.2.2.2.2.2.2 (x + k) (by omega)).1 (by omega)
  rw [show (f + (x + (k : Int))).toNat = (f + x).toNat + k by omega] at hg
  have h4' := hg.2.2.2
  split at h4' <;> omega
theorem pW_ge2 {G : Int → Int} {x : Int} (h : 0 ≤ pW G x) : 0 ≤ x ∧ pW G x = x + (nw rwb G 40 x : Nat) ∧ 1 ≤ nw rwb G 40 x := by
  have h0 := pW_ge h
  unfold pW at h ⊢
  rw [if_neg (by omega)] at h ⊢
  by_cases d : nw rwb G 40 x = 0
  · rw [if_pos d] at h
    omega
  · rw [if_neg d]
    exact ⟨h0, rfl, by omega⟩
theorem x_addSub {e : w_E} {N F i : Nat} {T : w_S} {c r : Int} (h1 : T.1 120 0 = (F : Int) + 1) (h2 : T.1 125 F = i) (hF : F < 20) (hi : i < 13) : E_Draft_addSubfield e N (F : Int) c r T = some (0, w_put (w_put (w_put T 126 (13 * F + i) c) 127 (13 * F + i) r) 125 F ((i : Int) + 1)) := by
  refine ok_eq ?_
  unfold E_Draft_addSubfield
  rw [h1, show ((F : Int)).toNat = F by omega, h2]
  refine ok_e (by omega) (ok_e (by omega) (ok_ib (by omega) (ok_e (by omega) (ok_nb (by omega) (ok_nb (by omega) (ok_ib (by omega) (ok_nb (by omega) ?_)))))))
  rw [show ((F : Int) * 13 + (i : Int)).toNat = 13 * F + i by omega]
  exact ok_s ⟨rfl, rfl⟩
theorem At.pos {f len a w q : Int} (h : At f len a w q) (k : 0 ≤ q) : q ≤ len := (h.right.1 k).2.2
/-- the class's loop over subfields -/
theorem l_rf {e : w_E} {N F : Nat} {f len : Int} {G : Int → Int} (hN : 2001 ≤ N) (hF : F < 20) : ∀ (k i nf : Nat) (T : w_S) (a w q : Int), i + k = 5 → 1 ≤ i → k < nf → TX T f len G → At f len a w q → T.1 120 0 = (F : Int) + 1 → T.1 125 F = i → Ok (El_Draft_readField e N nf 0 [0, (F : Int), (i : Int)] [] (tp T a w)) (fun _ S1 => ∃ T' a' w', S1 = tp T' a' w' ∧ At f len a' w' (if q < 0 then q else pB G 10 (sfC G k q)) ∧ frm [125, 126, 127] [] [] T T' ∧ (∀ u, u ≠ F → T'.1 125 u = T.1 125 u) ∧ (∀ u, (u < 13 * F + i ∨ 13 * F + 13 ≤ u) → T'.1 126 u = T.1 126 u ∧ T'.1 127 u = T.1 127 u) ∧ (0 ≤ q → 0 ≤ pB G 10 (sfC G k q) → T'.1 125 F = (i : Int) + (sfl G k q).length ∧ ∀ j, j < (sfl G k q).length → T'.1 126 (13 * F + i + j) = ((sfl G k q).getD j (0, [])).1 ∧ Rw (T.1 2) (f + len) (T'.1 127 (13 * F + i + j)) ((sfl G k q).getD j (0, [])).2.length (fun u => ((sfl G k q).getD j (0, [])).2.getD u 0)))
  | _, _, 0, _, _, _, _, _, _, h, _, _, _, _ => by omega
  | k, i, nf + 1, T, a, w, q, g1, g2, g3, hT, ha, h1, h2 => by
    have stop : sfC G k q = q → sfl G k q = [] → Ok ((E_Tape_takeByte e N 10 (tp T a w)).bind (fun q138 => some (0, q138.2))) (fun _ S1 => ∃ T' a' w', S1 = tp T' a' w' ∧ At f len a' w' (if q < 0 then q else pB G 10 (sfC G k q)) ∧ frm [125, 126, 127] [] [] T T' ∧ (∀ u, u ≠ F → T'.1 125 u = T.1 125 u) ∧ (∀ u, (u < 13 * F + i ∨ 13 * F + 13 ≤ u) → T'.1 126 u = T.1 126 u ∧ T'.1 127 u = T.1 127 u) ∧ (0 ≤ q → 0 ≤ pB G 10 (sfC G k q) → T'.1 125 F = (i : Int) + (sfl G k q).length ∧ ∀ j, j < (sfl G k q).length → T'.1 126 (13 * F + i + j) = ((sfl G k q).getD j (0, [])).1 ∧ Rw (T.1 2) (f + len) (T'.1 127 (13 * F + i + j)) ((sfl G k q).getD j (0, [])).2.length (fun u => ((sfl G k q).getD j (0, [])).2.getD u 0))) := fun e1 e2 => by
      refine tk_b (x_takeByte hT ha (by decide)) (fun _ a1 w1 ha1 _ => ok_s ?_)
      refine ⟨T, a1, w1, rfl, ?_, frm.refl _ _ _ _, fun _ _ => rfl, fun _ _ => ⟨rfl, rfl⟩, fun _ _ => ⟨?_, fun j hj => ?_⟩⟩
      · rw [e1]
        by_cases c : q < 0
        · rw [if_pos c]
          rw [pB_neg c] at ha1
          exact ha1
        · rw [if_neg c]
          exact ha1
      · rw [e2, h2, List.length_nil]
        omega
      · rw [e2, List.length_nil] at hj
        omega
    have hp := x_peek (e := e) (N := N) hT ha
    rw [El_Draft_readField]
    cases k with
    | zero => exact ok_t (by omega) (stop rfl rfl)
    | succ k =>
      refine ok_e (by omega) (ok_e (by omega) (ok_e (by omega) (ok_b (ok_of hp ?_))))
      dsimp only
      by_cases c : ¬ q < 0 ∧ G q = 36
      · rw [if_neg c.1]
        refine ok_e (by omega) ?_
        have q0 : 0 ≤ q := by omega
        refine tk_b (x_takeByte hT ha (by decide)) (fun _ a1 w1 ha1 _ => ?_)
        rw [pB_y q0 c.2] at ha1
        dsimp only
        refine tk_b (x_takeCode hT ha1) (fun y2 a2 w2 ha2 hy2 => ?_)
        dsimp only
        refine tk_b (x_takeRow hN hT ha2) (fun y3 a3 w3 ha3 hy3 => ?_)
        dsimp only
        have t120 : (tp T a3 w3).1 120 0 = (F : Int) + 1 := by
          rw [tpo T a3 w3 (by decide)]
          exact h1
        have t125 : (tp T a3 w3).1 125 F = i := by
          rw [tpo T a3 w3 (by decide)]
          exact h2
        refine ok_b (ok_of (x_addSub t120 t125 hF (by omega)) ?_)
        dsimp only
        rw [tp_put _ _ _ _ (by decide), tp_put _ _ _ _ (by decide), tp_put _ _ _ _ (by decide)]
        refine ok_nb (by omega) ?_
        have ih := l_rf (e := e) (N := N) (F := F) (f := f) (len := len) (G := G) hN hF k (i + 1) nf (w_put (w_put (w_put T 126 (13 * F + i) y2) 127 (13 * F + i) y3) 125 F ((i : Int) + 1)) a3 w3 (pW G (pP cdb G (q + 1))) (by omega) (by omega) (by omega) (((hT.put (by decide) (by decide)).put (by decide) (by decide)).put (by decide) (by decide)) ha3 (by simp only [w_put_r, reduceIte, Nat.reduceEqDiff, pt_at]; exact h1) (by simp only [w_put_r, reduceIte, Nat.reduceEqDiff, pt_at]; omega)
        rw [show ((i + 1 : Nat) : Int) = (i : Int) + 1 by omega] at ih
        refine ih.mono (fun _ S1 z => ?_)
        obtain ⟨T', a', w', z1, z2, z3, z4, z5, z6⟩ := z
        have sc : sfC G (k + 1) q = if pW G (pP cdb G (q + 1)) < 0 then pW G (pP cdb G (q + 1)) else sfC G k (pW G (pP cdb G (q + 1))) := by
          rw [sfC, if_pos c.2]
        refine ⟨T', a', w', z1, ?_, frm.trans (by repeat (first | exact frm.refl _ _ _ _ | refine frm.put ?_ rfl | refine frm.puto ?_ rfl rfl)) z3, fun u hu => ?_, fun u hu => ?_, fun _ hpos => ?_⟩
        · rw [if_neg c.1, sc]
          by_cases d : pW G (pP cdb G (q + 1)) < 0
          · rw [if_pos d, pB_neg d]
            rw [if_pos d] at z2
            exact z2
          · rw [if_neg d]
            rw [if_neg d] at z2
            exact z2
        · rw [z4 u hu]
          simp only [w_put_r, reduceIte, Nat.reduceEqDiff, pt_at]
          rw [if_neg hu]
        · have := z5 u (by omega)
          simp only [w_put_r, reduceIte, Nat.reduceEqDiff, pt_at] at this
          rw [if_neg (by omega), if_neg (by omega)] at this
          exact this
        · rw [sc] at hpos
          have d : ¬ pW G (pP cdb G (q + 1)) < 0 := fun d => by
            rw [if_pos d] at hpos
            have := (pB_ge hpos).1
            omega
          rw [if_neg d] at hpos
          obtain ⟨x0, x1, x2⟩ := pW_ge2 (show 0 ≤ pW G (pP cdb G (q + 1)) by omega)
          obtain ⟨c0, c1, c2⟩ := pP_ge x0
          rw [c2, show q + 1 + 1 = q + 2 by omega] at x1 x2
          have y2e := (hy2 (ha2.wm x0)).1
          have y3e := (hy3 (ha3.wm (by omega))).1
          rw [c2, show q + 1 + 1 = q + 2 by omega] at y3e
          have hlen := ha3.pos (by omega)
          rw [c2, show q + 1 + 1 = q + 2 by omega, x1] at hlen
          have sl : sfl G (k + 1) q = (G (q + 1), rowL G (q + 2)) :: sfl G k (q + 2 + (nw rwb G 40 (q + 2) : Nat)) := by
            rw [sfl, if_pos c.2]
          have e1 : pW G (pP cdb G (q + 1)) = q + 2 + (nw rwb G 40 (q + 2) : Nat) := by
            rw [c2, show q + 1 + 1 = q + 2 by omega, x1]
          rw [e1] at hpos z6
          obtain ⟨v1, v2⟩ := z6 (by omega) hpos
          rw [sl, List.length_cons]
          refine ⟨by rw [v1]; omega, fun j hj => ?_⟩
          rcases j with _ | j
          · have := z5 (13 * F + i + 0) (by omega)
            simp only [w_put_r, reduceIte, Nat.reduceEqDiff, pt_at] at this
            rw [if_pos (by omega), if_pos (by omega)] at this
            rw [this.1, this.2]
            refine ⟨y2e, ?_⟩
            show Rw (T.1 2) (f + len) y3 (rowL G (q + 2)).length (fun u => (rowL G (q + 2)).getD u 0)
            rw [y3e]
            exact Rw_text hT (by omega) hlen
          · have := v2 j (by omega)
            simp only [w_put_r, reduceIte, Nat.reduceEqDiff, pt_at] at this
            rw [show 13 * F + i + (j + 1) = 13 * F + (i + 1) + j by omega]
            exact this
      · have e1 : (if q < 0 then (-1 : Int) else G q) ≠ 36 := by
          by_cases d : q < 0
          · rw [if_pos d]
            decide
          · rw [if_neg d]
            exact fun z => c ⟨d, z⟩
        refine ok_t e1 ?_
        by_cases d : q < 0
        · refine tk_b (x_takeByte hT ha (by decide)) (fun _ a1 w1 ha1 _ => ok_s ?_)
          rw [pB_neg d] at ha1
          refine ⟨T, a1, w1, rfl, ?_, frm.refl _ _ _ _, fun _ _ => rfl, fun _ _ => ⟨rfl, rfl⟩, fun z _ => by omega⟩
          rw [if_pos d]
          exact ha1
        · have ne : ¬ G q = 36 := fun z => c ⟨d, z⟩
          exact stop (by rw [sfC, if_neg ne]) (by rw [sfl, if_neg ne])
end
section
-- d0
/-- a field out of the text -/
def Fld (G : Int → Int) (p : Int) : Fdl := if vl G p 3 < 10 then (vl G p 3, 0, 0, [(0, rowL G (p + 4))]) else (vl G p 3, G (p + 4), G (p + 5), (G (p + 7), rowL G (p + 8)) :: sfl G 4 (p + 8 + (nw rwb G 40 (p + 8) : Nat)))
/-- a field of the class's draft -/
def DrF (T : w_S) (t2 : Nat → Int) (top : Int) (F : Nat) (d : Fdl) : Prop := T.1 121 F = d.1 ∧ T.1 122 F = d.2.1 ∧ T.1 123 F = d.2.2.1 ∧ T.1 125 F = (d.2.2.2.length : Nat) ∧ ∀ j, j < d.2.2.2.length → T.1 126 (13 * F + j) = (d.2.2.2.getD j (0, [])).1 ∧ Rw t2 top (T.1 127 (13 * F + j)) (d.2.2.2.getD j (0, [])).2.length (fun u => (d.2.2.2.getD j (0, [])).2.getD u 0)
theorem x_addField {e : w_E} {N F : Nat} {T : w_S} {x y z : Int} (h1 : T.1 120 0 = F) (hF : F < 20) : E_Draft_addField e N x y z T = some ((F : Int), w_put (w_put (w_put (w_put (w_put T 121 F x) 122 F y) 123 F z) 125 F 0) 120 0 ((F : Int) + 1)) := by
  refine ok_eq ?_
  unfold E_Draft_addField
  rw [h1, show ((F : Int)).toNat = F by omega]
  exact ok_t (by omega) (ok_ib (by omega) (ok_nb (by omega) (ok_nb (by omega) (ok_s ⟨by omega, rfl⟩))))
theorem pT_neg {G : Int → Int} {lo q : Int} (h : q < 0) : pT G lo q = q := by
  unfold pT
  rw [if_pos h]
/-- what the reading of a field leaves -/
def Rf (T : w_S) (f len : Int) (G : Int → Int) (F : Nat) (p : Int) (S1 : w_S) : Prop := ∃ T' a' w', S1 = tp T' a' w' ∧ At f len a' w' (fqC G p) ∧ frm [121, 122, 123, 125, 126, 127] [120] [(120, 0)] T T' ∧ T'.1 120 0 = (F : Int) + 1 ∧ (∀ u, u ≠ F → T'.1 121 u = T.1 121 u ∧ T'.1 122 u = T.1 122 u ∧ T'.1 123 u = T.1 123 u ∧ T'.1 125 u = T.1 125 u) ∧ (∀ u, (u < 13 * F ∨ 13 * F + 13 ≤ u) → T'.1 126 u = T.1 126 u ∧ T'.1 127 u = T.1 127 u) ∧ (0 ≤ p → 0 ≤ fqC G p → DrF T' (T.1 2) (f + len) F (Fld G p))
theorem x_readField {e : w_E} {N F : Nat} {T : w_S} {f len a w p : Int} {G : Int → Int} (hN : 2001 ≤ N) (hF : F < 20) (hT : TX T f len G) (ha : At f len a w p) (h1 : T.1 120 0 = F) : Ok (E_Draft_readField e N (tp T a w)) (fun _ S1 => Rf T f len G F p S1) := by
  have hc : fqs G p < 0 → fqC G p = fqs G p := fun z => by
    unfold fqC
    rw [if_pos z]
  unfold E_Draft_readField
  refine tk_b (x_takeTag hN hT ha) (fun y0 a0 w0 ha0 hy0 => ?_)
  dsimp only
  refine tk_b (x_takeByte hT ha0 (by decide)) (fun _ a1 w1 ha1 _ => ?_)
  dsimp only
  have e0 : pB G 32 (pT G 1 p) = fqs G p := rfl
  rw [e0] at ha1
  have yt : 0 ≤ fqs G p → y0 = vl G p 3 ∧ fqs G p = p + 4 ∧ 0 ≤ p := fun z => by
    obtain ⟨b1, b2, b3⟩ := pB_ge (show 0 ≤ pB G 32 (pT G 1 p) from z)
    have p0 := pT_ge b1
    refine ⟨(hy0 (ha0.wm b1)).1, ?_, p0⟩
    rw [← e0, b3]
    unfold pT at b1 ⊢
    rw [if_neg (by omega)] at b1 ⊢
    split at b1
    · omega
    · rename_i c1
      rw [if_neg c1]
      split at b1
      · omega
      · rename_i c2
        rw [if_neg c2]
        omega
  have t120 : ∀ a w, (tp T a w).1 120 0 = F := fun a w => by
    rw [tpo T a w (by decide)]
    exact h1
  by_cases c : 10 ≤ y0
  · refine ok_t c ?_
    refine tk_b (x_takeIndicator hT ha1) (fun y2 a2 w2 ha2 hy2 => ?_)
    dsimp only
    refine tk_b (x_takeIndicator hT ha2) (fun y3 a3 w3 ha3 hy3 => ?_)
    dsimp only
    refine ok_b (ok_of (x_addField (t120 a3 w3) hF) ?_)
    dsimp only
    rw [tp_put _ _ _ _ (by decide), tp_put _ _ _ _ (by decide), tp_put _ _ _ _ (by decide), tp_put _ _ _ _ (by decide), tp_put _ _ _ _ (by decide)]
    have hT1 : TX (w_put (w_put (w_put (w_put (w_put T 121 F y0) 122 F y2) 123 F y3) 125 F 0) 120 0 ((F : Int) + 1)) f len G := ((((hT.put (by decide) (by decide)).put (by decide) (by decide)).put (by decide) (by decide)).put (by decide) (by decide)).put (by decide) (by decide)
    obtain ⟨nf, hnf⟩ : ∃ n, N = n + 1 := ⟨N - 1, by omega⟩
    rw [show El_Draft_readField e N N = El_Draft_readField e N (nf + 1) by rw [← hnf], El_Draft_readField]
    refine ok_e (by omega) (ok_e (fun z => z rfl) (ok_t rfl ?_))
    refine tk_b (x_takeByte hT1 ha3 (by decide)) (fun _ a4 w4 ha4 _ => ?_)
    dsimp only
    refine tk_b (x_takeCode hT1 ha4) (fun y5 a5 w5 ha5 hy5 => ?_)
    dsimp only
    refine tk_b (x_takeRow hN hT1 ha5) (fun y6 a6 w6 ha6 hy6 => ?_)
    dsimp only
    have u120 : (tp (w_put (w_put (w_put (w_put (w_put T 121 F y0) 122 F y2) 123 F y3) 125 F 0) 120 0 ((F : Int) + 1)) a6 w6).1 120 0 = (F : Int) + 1 := by
      rw [tpo _ a6 w6 (by decide)]
      simp only [w_put_r, reduceIte, Nat.reduceEqDiff, pt_at]
    have u125 : (tp (w_put (w_put (w_put (w_put (w_put T 121 F y0) 122 F y2) 123 F y3) 125 F 0) 120 0 ((F : Int) + 1)) a6 w6).1 125 F = ((0 : Nat) : Int) := by
      rw [tpo _ a6 w6 (by decide)]
      simp only [w_put_r, reduceIte, Nat.reduceEqDiff, pt_at]
      rfl
    refine ok_b (ok_of (x_addSub u120 u125 hF (by omega)) ?_)
    dsimp only
    rw [tp_put _ _ _ _ (by decide), tp_put _ _ _ _ (by decide), tp_put _ _ _ _ (by decide)]
    refine ok_nb (by omega) ?_
    have lr := l_rf (e := e) (N := N) (F := F) (f := f) (len := len) (G := G) hN hF 4 1 nf (w_put (w_put (w_put (w_put (w_put (w_put (w_put (w_put T 121 F y0) 122 F y2) 123 F y3) 125 F 0) 120 0 ((F : Int) + 1)) 126 (13 * F + 0) y5) 127 (13 * F + 0) y6) 125 F (((0 : Nat) : Int) + 1)) a6 w6 (pW G (pP cdb G (pB G 36 (pP inb G (pP inb G (fqs G p)))))) (by omega) (by omega) (by omega) (((hT1.put (by decide) (by decide)).put (by decide) (by decide)).put (by decide) (by decide)) ha6 (by simp only [w_put_r, reduceIte, Nat.reduceEqDiff, pt_at]) (by simp only [w_put_r, reduceIte, Nat.reduceEqDiff, pt_at]; omega)
    refine Ok.mono (show Ok (El_Draft_readField e N nf 0 [0, (F : Int), 0 + 1] [] _) _ from lr) (fun _ S1 z => ?_)
    obtain ⟨T', a', w', z1, z2, z3, z4, z5, z6⟩ := z
    refine ⟨T', a', w', z1, ?_, frm.trans (by repeat (first | exact frm.refl _ _ _ _ | refine frm.put ?_ rfl | refine frm.puto ?_ rfl rfl)) (z3.weak (by decide)), ?_, fun u hu => ⟨?_, ?_, ?_, ?_⟩, fun u hu => ?_, fun p0 hpos => ?_⟩
    · by_cases d : fqs G p < 0
      · rw [hc d]
        have e9 : pW G (pP cdb G (pB G 36 (pP inb G (pP inb G (fqs G p))))) = fqs G p := by
          rw [pP_neg d, pP_neg d, pB_neg d, pP_neg d, pW_neg d]
        rw [e9, if_pos d] at z2
        exact z2
      · have yt' := yt (by omega)
        unfold fqC
        rw [if_neg d, if_neg (by omega : ¬ vl G p 3 < 10)]
        unfold sfD
        by_cases g : pW G (pP cdb G (pB G 36 (pP inb G (pP inb G (fqs G p))))) < 0
        · rw [if_pos g, pB_neg g]
          rw [if_pos g] at z2
          exact z2
        · rw [if_neg g]
          rw [if_neg g] at z2
          exact z2
    · rw [z3.2.1 120 rfl rfl]
      simp only [w_put_r, reduceIte, Nat.reduceEqDiff, pt_at]
    · rw [z3.2.1 121 rfl rfl]
      simp only [w_put_r, reduceIte, Nat.reduceEqDiff, pt_at]
      rw [if_neg hu]
    · rw [z3.2.1 122 rfl rfl]
      simp only [w_put_r, reduceIte, Nat.reduceEqDiff, pt_at]
      rw [if_neg hu]
    · rw [z3.2.1 123 rfl rfl]
      simp only [w_put_r, reduceIte, Nat.reduceEqDiff, pt_at]
      rw [if_neg hu]
    · rw [z4 u hu]
      simp only [w_put_r, reduceIte, Nat.reduceEqDiff, pt_at]
      rw [if_neg hu, if_neg hu]
    · have := z5 u (by omega)
      simp only [w_put_r, reduceIte, Nat.reduceEqDiff, pt_at] at this
      rw [if_neg (by omega), if_neg (by omega)] at this
      exact this
    · have d : ¬ fqs G p < 0 := fun d => by
        rw [hc d] at hpos
        omega
      obtain ⟨v0, v1, _⟩ := yt (by omega)
      unfold fqC at hpos
      rw [if_neg d, if_neg (by omega : ¬ vl G p 3 < 10)] at hpos
      unfold sfD at hpos
      have g : ¬ pW G (pP cdb G (pB G 36 (pP inb G (pP inb G (fqs G p))))) < 0 := fun g => by
        rw [if_pos g] at hpos
        have := (pB_ge hpos).1
        omega
      rw [if_neg g] at hpos
      obtain ⟨x0, x1, x2⟩ := pW_ge2 (show 0 ≤ pW G (pP cdb G (pB G 36 (pP inb G (pP inb G (fqs G p))))) by omega)
      obtain ⟨c0, c1, c2⟩ := pP_ge x0
      obtain ⟨b0, b1, b2⟩ := pB_ge c0
      obtain ⟨i0, i1, i2⟩ := pP_ge b0
      obtain ⟨j0, j1, j2⟩ := pP_ge i0
      have k0 : pP inb G (fqs G p) = p + 5 := by omega
      have k1 : pP inb G (pP inb G (fqs G p)) = p + 6 := by omega
      have k2 : pB G 36 (pP inb G (pP inb G (fqs G p))) = p + 7 := by omega
      have k3 : pP cdb G (pB G 36 (pP inb G (pP inb G (fqs G p)))) = p + 8 := by omega
      have y2e := (hy2 (ha2.wm i0)).1
      have y3e := (hy3 (ha3.wm b0)).1
      have y5e := (hy5 (ha5.wm x0)).1
      have y6e := (hy6 (ha6.wm (by omega))).1
      have hlen := ha6.pos (by omega)
      rw [k3] at x1 x2 y6e
      rw [k3] at hpos hlen z6
      rw [k2] at y5e
      rw [k0] at y3e
      rw [v1] at y2e
      rw [x1] at hpos z6 hlen
      obtain ⟨o1, o2⟩ := z6 (by omega) hpos
      unfold Fld
      rw [if_neg (by omega : ¬ vl G p 3 < 10)]
      refine ⟨?_, ?_, ?_, ?_, fun j hj => ?_⟩
      · rw [z3.2.1 121 rfl rfl]
        simp only [w_put_r, reduceIte, Nat.reduceEqDiff, pt_at]
        exact v0
      · rw [z3.2.1 122 rfl rfl]
        simp only [w_put_r, reduceIte, Nat.reduceEqDiff, pt_at]
        exact y2e
      · rw [z3.2.1 123 rfl rfl]
        simp only [w_put_r, reduceIte, Nat.reduceEqDiff, pt_at]
        exact y3e
      · rw [o1]
        show _ = (((((G (p + 7), rowL G (p + 8)) :: sfl G 4 (p + 8 + (nw rwb G 40 (p + 8) : Nat))).length : Nat)) : Int)
        rw [List.length_cons]
        omega
      · rcases j with _ | j
        · have := z5 (13 * F + 0) (by omega)
          simp only [w_put_r, reduceIte, Nat.reduceEqDiff, pt_at] at this
          rw [this.1, this.2]
          refine ⟨y5e, ?_⟩
          show Rw (T.1 2) (f + len) y6 (rowL G (p + 8)).length (fun u => (rowL G (p + 8)).getD u 0)
          rw [y6e]
          exact Rw_text hT (by omega) hlen
        · have hj' : j < (sfl G 4 (p + 8 + (nw rwb G 40 (p + 8) : Nat))).length := by
            have hj2 : j + 1 < ((G (p + 7), rowL G (p + 8)) :: sfl G 4 (p + 8 + (nw rwb G 40 (p + 8) : Nat))).length := hj
            rw [List.length_cons] at hj2
            omega
          have := o2 j hj'
          simp only [w_put_r, reduceIte, Nat.reduceEqDiff, pt_at] at this
          rw [show 13 * F + (j + 1) = 13 * F + 1 + j by omega]
          exact this
  · refine ok_e c ?_
    refine ok_b (ok_of (x_addField (t120 a1 w1) hF) ?_)
    dsimp only
    rw [tp_put _ _ _ _ (by decide), tp_put _ _ _ _ (by decide), tp_put _ _ _ _ (by decide), tp_put _ _ _ _ (by decide), tp_put _ _ _ _ (by decide)]
    have hT1 : TX (w_put (w_put (w_put (w_put (w_put T 121 F y0) 122 F 0) 123 F 0) 125 F 0) 120 0 ((F : Int) + 1)) f len G := ((((hT.put (by decide) (by decide)).put (by decide) (by decide)).put (by decide) (by decide)).put (by decide) (by decide)).put (by decide) (by decide)
    refine tk_b (x_takeRow hN hT1 ha1) (fun y6 a6 w6 ha6 hy6 => ?_)
    dsimp only
    have u120 : (tp (w_put (w_put (w_put (w_put (w_put T 121 F y0) 122 F 0) 123 F 0) 125 F 0) 120 0 ((F : Int) + 1)) a6 w6).1 120 0 = (F : Int) + 1 := by
      rw [tpo _ a6 w6 (by decide)]
      simp only [w_put_r, reduceIte, Nat.reduceEqDiff, pt_at]
    have u125 : (tp (w_put (w_put (w_put (w_put (w_put T 121 F y0) 122 F 0) 123 F 0) 125 F 0) 120 0 ((F : Int) + 1)) a6 w6).1 125 F = ((0 : Nat) : Int) := by
      rw [tpo _ a6 w6 (by decide)]
      simp only [w_put_r, reduceIte, Nat.reduceEqDiff, pt_at]
      rfl
    refine ok_b (ok_of (x_addSub u120 u125 hF (by omega)) ?_)
    dsimp only
    rw [tp_put _ _ _ _ (by decide), tp_put _ _ _ _ (by decide), tp_put _ _ _ _ (by decide)]
    have hT2 : TX (w_put (w_put (w_put (w_put (w_put (w_put (w_put (w_put T 121 F y0) 122 F 0) 123 F 0) 125 F 0) 120 0 ((F : Int) + 1)) 126 (13 * F + 0) 0) 127 (13 * F + 0) y6) 125 F (((0 : Nat) : Int) + 1)) f len G := ((hT1.put (by decide) (by decide)).put (by decide) (by decide)).put (by decide) (by decide)
    obtain ⟨nf, hnf⟩ : ∃ n, N = n + 1 := ⟨N - 1, by omega⟩
    rw [show El_Draft_readField e N N = El_Draft_readField e N (nf + 1) by rw [← hnf], El_Draft_readField]
    refine ok_e (by omega) (ok_t (by decide) ?_)
    refine tk_b (x_takeByte hT2 ha6 (by decide)) (fun _ a7 w7 ha7 _ => ok_s ?_)
    refine ⟨_, a7, w7, rfl, ?_, by repeat (first | exact frm.refl _ _ _ _ | refine frm.put ?_ rfl | refine frm.puto ?_ rfl rfl), by simp only [w_put_r, reduceIte, Nat.reduceEqDiff, pt_at], fun u hu => ?_, fun u hu => ?_, fun p0 hpos => ?_⟩
    · by_cases d : fqs G p < 0
      · rw [hc d]
        rw [pW_neg d, pB_neg d] at ha7
        exact ha7
      · have yt' := yt (by omega)
        unfold fqC
        rw [if_neg d, if_pos (by omega : vl G p 3 < 10)]
        exact ha7
    · simp only [w_put_r, reduceIte, Nat.reduceEqDiff, pt_at]
      rw [if_neg hu, if_neg hu, if_neg hu, if_neg hu, if_neg hu]
      exact ⟨rfl, rfl, rfl, rfl⟩
    · simp only [w_put_r, reduceIte, Nat.reduceEqDiff, pt_at]
      rw [if_neg (by omega), if_neg (by omega)]
      exact ⟨rfl, rfl⟩
    · have d : ¬ fqs G p < 0 := fun d => by
        rw [hc d] at hpos
        omega
      obtain ⟨v0, v1, _⟩ := yt (by omega)
      unfold fqC at hpos
      rw [if_neg d, if_pos (by omega : vl G p 3 < 10)] at hpos
      have r0 := (pB_ge hpos).1
      have y6e := (hy6 (ha6.wm r0)).1
      have hlen := ha6.pos r0
      obtain ⟨x0, x1, x2⟩ := pW_ge2 r0
      rw [x1, v1] at hlen
      rw [v1] at y6e
      unfold Fld
      rw [if_pos (by omega : vl G p 3 < 10)]
      refine ⟨?_, ?_, ?_, ?_, fun j hj => ?_⟩
      · simp only [w_put_r, reduceIte, Nat.reduceEqDiff, pt_at]
        exact v0
      · simp only [w_put_r, reduceIte, Nat.reduceEqDiff, pt_at]
      · simp only [w_put_r, reduceIte, Nat.reduceEqDiff, pt_at]
      · simp only [w_put_r, reduceIte, Nat.reduceEqDiff, pt_at]
        rfl
      · have hj2 : j < 1 := hj
        have j0 : j = 0 := by omega
        subst j0
        simp only [w_put_r, reduceIte, Nat.reduceEqDiff, pt_at]
        refine ⟨rfl, ?_⟩
        show Rw (T.1 2) (f + len) y6 (rowL G (p + 4)).length (fun u => (rowL G (p + 4)).getD u 0)
        rw [y6e]
        exact Rw_text hT (by omega) hlen
end
