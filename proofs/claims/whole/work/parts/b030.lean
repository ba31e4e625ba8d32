section
-- e6
/-- a byte as it comes into the exchange form -/
def exb (c : Bool) (b : Int) : Int := if c = false ∧ b = 36 then 31 else b
theorem map_row {r : List Int} (h : ∀ b, b ∈ r → rwb b = true) : r.map (exb false) = r := by
  induction r with
  | nil => rfl
  | cons b r ih =>
    rw [List.map_cons, ih (fun c hc => h c (List.mem_cons_of_mem _ hc))]
    have := rw36 (h b List.mem_cons_self)
    rw [exb, if_neg (fun w => this w.2)]
theorem map_sb : ∀ {l : List Sfl}, (∀ s, s ∈ l → vrow s.2 ∧ cdb s.1 = true) → (l.flatMap sb).map (exb false) = l.flatMap (sbx 31)
  | [], _ => rfl
  | s :: l, h => by
    obtain ⟨h1, h2⟩ := h s List.mem_cons_self
    have h3 := cdb_iff.1 h2
    rw [List.flatMap_cons, List.flatMap_cons, List.map_append, map_sb (fun t ht => h t (List.mem_cons_of_mem _ ht)), sb, List.map_cons, List.map_cons, map_row h1.2.2, sbx]
    rw [exb, if_pos ⟨rfl, rfl⟩, exb, if_neg (by omega)]
theorem map_fb {f : Fdl} (h : vfd f) : (fbd f).map (exb (decide (f.1 < 10))) = fbx 31 f := by
  obtain ⟨v1, v2, v3, v4, v5⟩ := h
  unfold fbd fbx
  by_cases c : f.1 < 10
  · rw [if_pos c, if_pos c, decide_eq_true c]
    have : exb true = fun b => b := by
      funext b
      rw [exb, if_neg (by simp)]
    rw [this, List.map_id']
  · rw [if_neg c, if_neg c, decide_eq_false c]
    obtain ⟨i1, i2, _, i4⟩ := v5 (by omega)
    have j1 := inb_iff.1 i1
    have j2 := inb_iff.1 i2
    rw [List.map_cons, List.map_cons, map_sb (fun s hs => ⟨v3 s hs, i4 s hs⟩), exb, if_neg (by omega), exb, if_neg (by omega)]
theorem l_exf {e : w_E} {N : Nat} {x1 x2 x4 : Int} {c : Bool} {a0 : Nat → Int} (hx : 0 ≤ x1 ∧ x1 + 4 ≤ x2 ∧ x2 ≤ 4000) (hc : (c = true ∧ x4 = 1) ∨ (c = false ∧ x4 = 0)) : ∀ (l : List Int) (p nf : Nat) (S : w_S), ((p + l.length : Nat) : Int) = x2 → byt a0 p l → (∀ b, b ∈ l → 0 ≤ b ∧ b ≤ 127) → l.length < nf → S.1 150 = a0 → 0 ≤ S.1 129 39 → S.1 129 39 + (l.length : Nat) + 1 ≤ 4000 → Ok (El_R_exchangeField e N nf 0 [x1, x2, 1, x4, (p : Int)] [] S) (fun y S1 => y = x2 - x1 - 4 + 1 ∧ Wr 151 129 39 S (l.map (exb c) ++ [30]) S1)
  | _, _, 0, _, _, _, _, h, _, _, _ => by omega
  | [], p, nf + 1, S, g1, g2, g3, g4, g5, g6, g7 => by
    rw [List.length_nil] at g1 g7
    rw [El_R_exchangeField, w_b2 (b := 30) (by decide) (by decide)]
    refine ok_t (by omega) (ok_e (by decide) (ok_ib (by omega) (ok_nb (by omega) (ok_nb (by omega) (ok_nb (by omega) (ok_nb (by omega) (ok_s ⟨rfl, ?_⟩)))))))
    exact Wr.one (by decide) S 30 g6
  | b :: l, p, nf + 1, S, g1, g2, g3, g4, g5, g6, g7 => by
    rw [List.length_cons] at g1 g4 g7
    have hb := g3 b List.mem_cons_self
    have h0 : a0 p = b := g2.1
    rw [El_R_exchangeField, show ((p : Int)).toNat = p by omega, g5, h0]
    have nx : ∀ b', b' = exb c b → 0 ≤ b' ∧ b' ≤ 127 → Ok (El_R_exchangeField e N nf 0 [x1, x2, 1, x4, (p : Int) + 1] [] (w_put (w_put S 151 ((S.1 129 39).toNat) b') 129 39 ((S.1 129 39) + 1))) (fun y S1 => y = x2 - x1 - 4 + 1 ∧ Wr 151 129 39 S ((b :: l).map (exb c) ++ [30]) S1) := by
      intro b' e1 _
      have ih := l_exf (e := e) (N := N) hx hc l (p + 1) nf (w_put (w_put S 151 ((S.1 129 39).toNat) b') 129 39 ((S.1 129 39) + 1)) (by omega) g2.2 (fun d hd => g3 d (List.mem_cons_of_mem _ hd)) (by omega) (by simp only [w_put_r, reduceIte, Nat.reduceEqDiff, pt_at]; exact g5) (by rw [Wr.at]; omega) (by rw [Wr.at]; omega)
      rw [show (p : Int) + 1 = ((p + 1 : Nat) : Int) by omega]
      refine ih.mono (fun y S1 q => ⟨q.1, ?_⟩)
      rw [List.map_cons, ← e1]
      exact Wr.cons (by decide) g6 q.2
    refine ok_e (by omega) (ok_e (by decide) ?_)
    rcases hc with ⟨c1, c2⟩ | ⟨c1, c2⟩
    · rw [w_b2 hb.1 hb.2]
      refine ok_t (by omega) (ok_ib (by omega) (ok_ib (by omega) (ok_nb (by omega) (ok_nb (by omega) (nx b ?_ hb)))))
      rw [exb, if_neg (by rw [c1]; simp)]
    · refine ok_e (by omega) (ok_ib (by omega) ?_)
      by_cases c3 : b = 36
      · rw [w_b2 (b := 31) (by decide) (by decide)]
        refine ok_e (by omega) (ok_ib (by omega) (ok_nb (by omega) (ok_nb (by omega) (nx 31 ?_ (by decide)))))
        rw [exb, if_pos ⟨c1, c3⟩]
      · rw [w_b2 hb.1 hb.2]
        refine ok_t c3 (ok_ib (by omega) (ok_nb (by omega) (ok_nb (by omega) (nx b ?_ hb))))
        rw [exb, if_neg (fun w => c3 w.2)]
theorem x_exf {e : w_E} {N p : Nat} {S : w_S} {f : Fdl} {P : Int → w_S → Prop} {x3 : Int} (hN : 5000 ≤ N) (h : Fat S 150 4000 p f) (k : Ok (El_R_exchangeField e N N 0 [(p : Int), ((p + (fbd f).length + 4 : Nat) : Int), x3, (if f.1 < 10 then 1 else 0), (p : Int) + 4] [] S) P) : Ok (E_R_exchangeField e N (p : Int) ((p + (fbd f).length + 4 : Nat) : Int) x3 S) P := by
  obtain ⟨b0, b1, b2, b3⟩ := h.tag
  obtain ⟨h1, h2, h3, h4, h5⟩ := h
  have sl := ser_len f
  have t1 := h5.1
  have t2 := h5.2.1
  unfold E_R_exchangeField
  rw [show ((p : Int)).toNat = p by omega, show ((p : Int) + 1).toNat = p + 1 by omega, show ((p : Int) + 2).toNat = p + 2 by omega, b0, b1, b2]
  refine ok_len h1 ?_
  with_reducible refine ok_t (by omega) ?_
  with_reducible refine ok_t (by omega) (ok_nb (by omega) (ok_nb (by omega) (ok_nb (by omega) ?_)))
  refine ok_len h1 ?_
  with_reducible refine ok_t (by omega) ?_
  with_reducible refine ok_t (by omega) (ok_nb (by omega) (ok_nb (by omega) (ok_nb (by omega) (ok_nb (by omega) ?_))))
  refine ok_len h1 ?_
  with_reducible refine ok_t (by omega) ?_
  with_reducible refine ok_t (by omega) (ok_nb (by omega) (ok_nb (by omega) ?_))
  rw [show 100 * (48 + f.1 / 100 - 48) + 10 * (48 + f.1 / 10 % 10 - 48) + (48 + f.1 % 10) - 48 = f.1 by omega]
  by_cases c : f.1 < 10
  · rw [if_pos c] at k
    exact ok_e (by omega) (ok_nb (by omega) k)
  · rw [if_neg c] at k
    exact ok_t (by omega) (ok_nb (by omega) k)
theorem x_exf0 {e : w_E} {N p : Nat} {S : w_S} {f : Fdl} (hN : 5000 ≤ N) (h : Fat S 150 4000 p f) : E_R_exchangeField e N (p : Int) ((p + (fbd f).length + 4 : Nat) : Int) 0 S = some (((fbd f).length : Int) + 1, S) := by
  refine ok_eq (x_exf hN h ?_)
  have h4 := h.2.2.2.1
  have sl := ser_len f
  obtain ⟨m, hm⟩ : ∃ m, N = m + 1 := ⟨N - 1, by omega⟩
  rw [show El_R_exchangeField e N N = El_R_exchangeField e N (m + 1) by rw [← hm], El_R_exchangeField]
  refine ok_if (fun c => ?_) (fun c => ?_)
  · exact ok_t rfl (ok_nb (by omega) (ok_nb (by omega) (ok_nb (by omega) (ok_s ⟨by omega, rfl⟩))))
  · exact ok_t rfl (ok_nb (by omega) (ok_nb (by omega) (ok_nb (by omega) (ok_s ⟨by omega, rfl⟩))))
theorem x_exf1 {e : w_E} {N p : Nat} {S : w_S} {f : Fdl} (hN : 5000 ≤ N) (h : Fat S 150 4000 p f) (g6 : 0 ≤ S.1 129 39) (g7 : S.1 129 39 + ((fbd f).length : Nat) + 1 ≤ 4000) : Ok (E_R_exchangeField e N (p : Int) ((p + (fbd f).length + 4 : Nat) : Int) 1 S) (fun y S1 => y = ((fbd f).length : Int) + 1 ∧ Wr 151 129 39 S (fbx 31 f ++ [30]) S1) := by
  refine x_exf hN h ?_
  obtain ⟨_, _, _, b3⟩ := h.tag
  have h4 := h.2.2.2.1
  have h5 := h.2.2.2.2
  have sl := ser_len f
  have key := l_exf (e := e) (N := N) (x1 := (p : Int)) (x2 := ((p + (fbd f).length + 4 : Nat) : Int)) (x4 := if f.1 < 10 then 1 else 0) (c := decide (f.1 < 10)) (a0 := S.1 150) (by omega) (by
    by_cases c : f.1 < 10
    · rw [if_pos c, decide_eq_true c]; exact Or.inl ⟨rfl, rfl⟩
    · rw [if_neg c, decide_eq_false c]; exact Or.inr ⟨rfl, rfl⟩) (fbd f) (p + 4) N S (by omega) ((byt_app (fbd f) [10] (p + 4)).1 b3).1 (fun b hb => (fbd_ne h5 b hb).2) (by omega) rfl g6 (by omega)
  rw [map_fb h5] at key
  rw [show (p : Int) + 4 = ((p + 4 : Nat) : Int) by omega]
  exact key.mono (fun y S1 q => ⟨by have := q.1; omega, q.2⟩)
end
section
-- e7
def exl (f : Fdl) : Int := ((fbd f).length : Int) + 1
def exs : List Fdl → Int
  | [] => 0
  | f :: l => exl f + exs l
/-- the rows that say where fields are -/
def drs : Int → List Fdl → List Int
  | _, [] => []
  | b, f :: l => dgl 3 f.1 ++ (dgl 4 (exl f) ++ (dgl 5 b ++ drs (b + exl f) l))
def bds (l : List Fdl) : List Int := l.flatMap (fun f => fbx 31 f ++ [30])
/-- the exchange form -/
def exc (D : List Fdl) : List Int := dgl 5 (11 + 12 * (D.length : Int) + exs D + 1) ++ (dgl 5 (11 + 12 * (D.length : Int)) ++ (drs 0 D ++ ([30] ++ (bds D ++ [29]))))
theorem drs_len : ∀ (l : List Fdl) (b : Int), (drs b l).length = 12 * l.length
  | [], _ => rfl
  | f :: l, b => by
    rw [drs, List.length_append, List.length_append, List.length_append, dgl_len, dgl_len, dgl_len, drs_len l, List.length_cons]
    omega
theorem bds_len : ∀ l : List Fdl, (((bds l).length : Nat) : Int) = exs l
  | [] => rfl
  | f :: l => by
    have ih := bds_len l
    rw [bds] at ih
    rw [bds, List.flatMap_cons, List.length_append, List.length_append, fbx_len, List.length_singleton, exs, exl]
    omega
theorem exs_le : ∀ {l : List Fdl}, (∀ f, f ∈ l → vfd f ∧ f.2.2.2.length ≤ 5) → 0 ≤ exs l ∧ exs l ≤ 213 * (l.length : Int)
  | [], _ => by
    rw [exs, List.length_nil]
    omega
  | f :: l, h => by
    have ih := exs_le (l := l) (fun g hg => h g (List.mem_cons_of_mem _ hg))
    obtain ⟨h1, h2⟩ := h f List.mem_cons_self
    have := ser_le h1 h2
    have sl := ser_len f
    rw [exs, exl, List.length_cons]
    omega
theorem l_exB {e : w_E} {N F : Nat} {top x2 : Int} {S : w_S} {n : Nat} {cc : Bool} (hF : F < 20) (hn : n ≤ 13) (htop : top ≤ 10240) (h125 : S.1 125 F = n) (hc : (cc = true ∧ x2 = 1) ∨ (cc = false ∧ x2 = 0)) : ∀ (ss : List Sfl) (j nf : Nat) (x3 : Int), j + ss.length = n → ss.length < nf → (∀ i, i < ss.length → Rw (S.1 2) top (S.1 127 (13 * F + j + i)) (ss.getD i (0, [])).2.length (fun u => (ss.getD i (0, [])).2.getD u 0)) → (∀ s, s ∈ ss → vrow s.2) → 0 ≤ x3 → x3 + 42 * (ss.length : Int) ≤ 3000 → El_Draft_exchangeBytes e N nf 0 [(F : Int), x2, x3, (j : Int)] [] S = some (x3 + ((ss.flatMap (sbq cc 36)).length : Nat), S)
  | _, _, 0, _, _, h, _, _, _, _ => by omega
  | [], j, nf + 1, x3, g1, g2, g3, g4, g5, g6 => by
    refine ok_eq ?_
    rw [El_Draft_exchangeBytes, show ((F : Int)).toNat = F by omega, h125]
    rw [List.length_nil] at g1
    exact ok_ib (by omega) (ok_t (by omega) (ok_s ⟨by rw [List.flatMap_nil, List.length_nil]; omega, rfl⟩))
  | s :: ss, j, nf + 1, x3, g1, g2, g3, g4, g5, g6 => by
    rw [List.length_cons] at g1 g2 g6
    obtain ⟨A, q2, q3, q4⟩ := g3 0 (by rw [List.length_cons]; omega)
    rw [List.getD_cons_zero] at q2 q3
    rw [Nat.add_zero] at q2
    obtain ⟨v1, v2, v3⟩ := g4 s List.mem_cons_self
    have nx : ∀ x3' : Int, x3' = x3 + ((sbq cc 36 s).length : Nat) → x3' ≤ x3 + 42 → El_Draft_exchangeBytes e N nf 0 [(F : Int), x2, x3', (j : Int) + 1] [] S = some (x3 + (((s :: ss).flatMap (sbq cc 36)).length : Nat), S) := by
      intro x3' h1 h2
      have ih := l_exB (e := e) (N := N) hF hn htop h125 hc ss (j + 1) nf x3' (by omega) (by omega) (fun i hi => by
        have := g3 (i + 1) (by rw [List.length_cons]; omega)
        rw [List.getD_cons_succ] at this
        rw [show 13 * F + (j + 1) + i = 13 * F + j + (i + 1) by omega]
        exact this) (fun t ht => g4 t (List.mem_cons_of_mem _ ht)) (by omega) (by omega)
      rw [show (j : Int) + 1 = ((j + 1 : Nat) : Int) by omega, ih, List.flatMap_cons, List.length_append, h1]
      congr 2
      omega
    refine ok_eq ?_
    rw [El_Draft_exchangeBytes, show ((F : Int)).toNat = F by omega, h125, show ((F : Int) * 13 + j).toNat = 13 * F + j by omega, q2, b_and63 (by omega) (by omega), show ((A : Int) * 64 + (s.2.length : Nat)) % 64 = (s.2.length : Nat) by omega]
    refine ok_ib (by omega) (ok_e (by omega) (ok_nb (by omega) (ok_nb (by omega) (ok_ib (by omega) ?_))))
    rcases hc with ⟨c1, c3⟩ | ⟨c1, c3⟩
    · have e1 : sbq cc 36 s = s.2 := by rw [sbq, if_pos c1]
      exact ok_e (by omega) (ok_nb (by omega) (ok_nb (by omega) (ok_nb (by omega) (ok_of (nx _ (by rw [e1]; omega) (by omega)) ⟨rfl, rfl⟩))))
    · have e1 : sbq cc 36 s = 36 :: s.1 :: s.2 := by rw [sbq, if_neg (by rw [c1]; decide), sbx]
      exact ok_t (by omega) (ok_nb (by omega) (ok_nb (by omega) (ok_nb (by omega) (ok_of (nx _ (by rw [e1, List.length_cons, List.length_cons]; omega) (by omega)) ⟨rfl, rfl⟩))))
theorem x_exB {e : w_E} {N F : Nat} {top : Int} {S : w_S} {f : Fdl} (hN : 1000 ≤ N) (hF : F < 20) (htop : top ≤ 10240) (hv : vfd f) (h5 : f.2.2.2.length ≤ 5) (h : DrF S (S.1 2) top F f) : E_Draft_exchangeBytes e N (F : Int) S = some (exl f, S) := by
  obtain ⟨d1, d2, d3, d4, d5⟩ := h
  obtain ⟨v1, v2, v3, v4, v5⟩ := hv
  refine ok_eq ?_
  unfold E_Draft_exchangeBytes
  rw [show ((F : Int)).toNat = F by omega, d1]
  refine ok_ib (by omega) ?_
  by_cases c : f.1 < 10
  · have key := l_exB (e := e) (N := N) (top := top) (x2 := 1) (cc := true) (n := f.2.2.2.length) hF (by omega) htop d4 (Or.inl ⟨rfl, rfl⟩) f.2.2.2 0 N 1 (by omega) (by omega) (fun i hi => (d5 i hi).2) v3 (by omega) (by omega)
    refine ok_e (by omega) (ok_of key ⟨?_, rfl⟩)
    rw [exl, ← fbx_36, fbx, if_pos c]
    show (1 : Int) + ((f.2.2.2.flatMap (sbq true 36)).length : Nat) = ((f.2.2.2.flatMap (fun s => s.2)).length : Nat) + 1
    rw [show (sbq true 36) = fun s : Sfl => s.2 from rfl]
    omega
  · have key := l_exB (e := e) (N := N) (top := top) (x2 := 0) (cc := false) (n := f.2.2.2.length) hF (by omega) htop d4 (Or.inr ⟨rfl, rfl⟩) f.2.2.2 0 N 3 (by omega) (by omega) (fun i hi => (d5 i hi).2) v3 (by omega) (by omega)
    refine ok_t (by omega) (ok_of key ⟨?_, rfl⟩)
    rw [exl, ← fbx_36, fbx, if_neg c, List.length_cons, List.length_cons]
    rw [show (sbq false 36) = sbx 36 from rfl]
    omega
theorem l_we0 {e : w_E} {N : Nat} {top base : Int} {S : w_S} {D : List Fdl} {P : Int → w_S → Prop} (hN : 1000 ≤ N) (htop : top ≤ 10240) (hD2 : D.length ≤ 12) (hD : Dr S (S.1 2) top D) : ∀ (l : List Fdl) (F nf : Nat) (x3 : Int), F + l.length = D.length → l.length < nf → (∀ i, i < l.length → D.getD (F + i) (0, 0, 0, []) = l.getD i (0, 0, 0, [])) → (∀ f, f ∈ l → vfd f ∧ f.2.2.2.length ≤ 5) → 0 ≤ x3 → x3 + 213 * (l.length : Int) ≤ 5000 → (∀ n', nf ≤ n' + l.length + 1 → Ok (El_Desk_writeExchange e N (n' + 1) 0 [base, x3 + exs l, (D.length : Int)] [] S) P) → Ok (El_Desk_writeExchange e N nf 0 [base, x3, (F : Int)] [] S) P
  | _, _, 0, _, _, h, _, _, _, _, _ => by omega
  | [], F, nf + 1, x3, g1, g2, g3, g4, g5, g6, g7 => by
    rw [List.length_nil] at g1
    have := g7 nf (by omega)
    rw [exs, Int.add_zero, show (D.length : Int) = (F : Int) by omega] at this
    exact this
  | f :: l, F, nf + 1, x3, g1, g2, g3, g4, g5, g6, g7 => by
    rw [List.length_cons] at g1 g2 g6
    obtain ⟨fv, f5⟩ := g4 f List.mem_cons_self
    have df := hD.2 F (by omega)
    have e0 := g3 0 (by rw [List.length_cons]; omega)
    rw [Nat.add_zero, List.getD_cons_zero] at e0
    rw [e0] at df
    have sl := ser_len f
    have sle := ser_le fv f5
    rw [El_Desk_writeExchange, hD.1]
    have ee : exl f = ((fbd f).length : Int) + 1 := rfl
    refine ok_e (by omega) (ok_b (ok_of (x_exB hN (by omega) htop fv f5 df) (ok_nb (by omega) (ok_nb (by omega) ?_))))
    dsimp only
    rw [show (F : Int) + 1 = ((F + 1 : Nat) : Int) by omega]
    refine l_we0 hN htop hD2 hD l (F + 1) nf (x3 + exl f) (by omega) (by omega) (fun i hi => by
      have := g3 (i + 1) (by rw [List.length_cons]; omega)
      rw [List.getD_cons_succ] at this
      rw [← this, show F + 1 + i = F + (i + 1) by omega]) (fun g hg => g4 g (List.mem_cons_of_mem _ hg)) (by omega) (by omega) (fun n' hn' => ?_)
    have := g7 n' (by rw [List.length_cons]; omega)
    rw [exs, ← Int.add_assoc] at this
    exact this
theorem l_we1 {e : w_E} {N : Nat} {top : Int} {S0 : w_S} {D : List Fdl} {P : Int → w_S → Prop} (hN : 1000 ≤ N) (htop : top ≤ 10240) (hD2 : D.length ≤ 12) (hD : Dr S0 (S0.1 2) top D) : ∀ (l : List Fdl) (F nf : Nat) (b : Int) (S : w_S), F + l.length = D.length → l.length < nf → (∀ i, i < l.length → D.getD (F + i) (0, 0, 0, []) = l.getD i (0, 0, 0, [])) → (∀ f, f ∈ l → vfd f ∧ f.2.2.2.length ≤ 5) → 0 ≤ b → b + 213 * (l.length : Int) ≤ 5000 → frm [107] [106] [(106, 2)] S0 S → 0 ≤ S.1 106 2 → S.1 106 2 + 12 * (l.length : Int) ≤ 3000 → (∀ S1 n', nf ≤ n' + l.length + 1 → Wr 107 106 2 S (drs b l) S1 → Ok (El_Desk_writeExchange e N (n' + 1) 1 [b + exs l, (D.length : Int)] [] S1) P) → Ok (El_Desk_writeExchange e N nf 1 [b, (F : Int)] [] S) P
  | _, _, 0, _, _, _, h, _, _, _, _, _, _, _, _ => by omega
  | [], F, nf + 1, b, S, g1, g2, g3, g4, g5, g6, g7, g8, g9, g10 => by
    rw [List.length_nil] at g1
    have := g10 S nf (by omega) (Wr.nil _ _ _ S)
    rw [exs, Int.add_zero, show (D.length : Int) = (F : Int) by omega] at this
    exact this
  | f :: l, F, nf + 1, b, S, g1, g2, g3, g4, g5, g6, g7, g8, g9, g10 => by
    rw [List.length_cons] at g1 g2 g6 g9
    obtain ⟨fv, f5⟩ := g4 f List.mem_cons_self
    have df := hD.2 F (by omega)
    have e0 := g3 0 (by rw [List.length_cons]; omega)
    rw [Nat.add_zero, List.getD_cons_zero] at e0
    rw [e0] at df
    have sl := ser_len f
    have sle := ser_le fv f5
    have ee : exl f = ((fbd f).length : Int) + 1 := rfl
    rw [El_Desk_writeExchange, g7.2.1 120 rfl rfl, hD.1, g7.2.1 121 rfl rfl, show ((F : Int)).toNat = F by omega, df.1]
    have xb : ∀ T, frm [107] [106] [(106, 2)] S0 T → E_Draft_exchangeBytes e N (F : Int) T = some (exl f, T) := fun T hT => x_exB (top := top) hN (by omega) htop fv f5 (by rw [hT.2.1 2 rfl rfl]; exact df.fr hT (by decide))
    refine ok_e (by omega) (ok_ib (by omega) (ok_b ?_))
    refine (x_wnum (e := e) (N := N) (k := 2) (by omega) rfl (by omega) (by have := fv.1; omega) (by have := fv.2.1; omega) g8 (by omega)).mono ?_
    intro _ Sa wa
    have ea := wa.2.1
    rw [dgl_len] at ea
    have fa := g7.trans wa.1
    refine ok_b (ok_of (xb Sa fa) (ok_b ?_))
    dsimp only
    refine (x_wnum (e := e) (N := N) (k := 3) (by omega) rfl (by omega) (by omega) (by omega) (by omega) (by omega)).mono ?_
    intro _ Sb wb
    have eb := wb.2.1
    rw [dgl_len] at eb
    have fb := fa.trans wb.1
    refine ok_b ((x_wnum (e := e) (N := N) (k := 4) (by omega) rfl (by omega) (by omega) (by omega) (by omega) (by omega)).mono ?_)
    intro _ Sc wc
    have ec := wc.2.1
    rw [dgl_len] at ec
    have fc := fb.trans wc.1
    dsimp only
    refine ok_b (ok_of (xb Sc fc) (ok_nb (by omega) (ok_nb (by omega) ?_)))
    dsimp only
    rw [show (F : Int) + 1 = ((F + 1 : Nat) : Int) by omega]
    refine l_we1 hN htop hD2 hD l (F + 1) nf (b + exl f) Sc (by omega) (by omega) (fun i hi => by
      have := g3 (i + 1) (by rw [List.length_cons]; omega)
      rw [List.getD_cons_succ] at this
      rw [← this, show F + 1 + i = F + (i + 1) by omega]) (fun g hg => g4 g (List.mem_cons_of_mem _ hg)) (by omega) (by omega) fc (by omega) (by omega) (fun S1 n' hn' q => ?_)
    have := g10 S1 n' (by rw [List.length_cons]; omega) (Wr.trans g8 wa (Wr.trans (by omega) wb (Wr.trans (by omega) wc q)))
    rw [exs, ← Int.add_assoc] at this
    exact this
theorem l_we2 {e : w_E} {N : Nat} {top : Int} {S0 : w_S} {D : List Fdl} (hN : 1000 ≤ N) (htop : top ≤ 10240) (hD2 : D.length ≤ 12) (hD : Dr S0 (S0.1 2) top D) : ∀ (l : List Fdl) (F nf : Nat) (S : w_S), F + l.length = D.length → l.length < nf → (∀ i, i < l.length → D.getD (F + i) (0, 0, 0, []) = l.getD i (0, 0, 0, [])) → (∀ f, f ∈ l → vfd f ∧ f.2.2.2.length ≤ 5) → frm [107] [106] [(106, 2)] S0 S → 0 ≤ S.1 106 2 → S.1 106 2 + exs l + 1 ≤ 3000 → Ok (El_Desk_writeExchange e N nf 2 [(F : Int)] [] S) (fun _ S1 => Wr 107 106 2 S (bds l ++ [29]) S1)
  | _, _, 0, _, _, h, _, _, _, _, _ => by omega
  | [], F, nf + 1, S, g1, g2, g3, g4, g5, g6, g7 => by
    rw [exs] at g7
    rw [El_Desk_writeExchange, g5.2.1 120 rfl rfl, hD.1, w_b2 (b := 29) (by decide) (by decide)]
    rw [List.length_nil] at g1
    exact ok_t (by omega) (ok_e (by omega) (ok_ib (by omega) (ok_nb (by omega) (ok_s (Wr.one (by decide) S 29 g6)))))
  | f :: l, F, nf + 1, S, g1, g2, g3, g4, g5, g6, g7 => by
    rw [List.length_cons] at g1 g2
    rw [exs] at g7
    obtain ⟨fv, f5⟩ := g4 f List.mem_cons_self
    have df := hD.2 F (by omega)
    have e0 := g3 0 (by rw [List.length_cons]; omega)
    rw [Nat.add_zero, List.getD_cons_zero] at e0
    rw [e0] at df
    have sl := ser_len f
    have ee : exl f = ((fbd f).length : Int) + 1 := rfl
    have el := exs_le (l := l) (fun g hg => g4 g (List.mem_cons_of_mem _ hg))
    have xl := fbx_len 31 f
    rw [El_Desk_writeExchange, g5.2.1 120 rfl rfl, hD.1]
    refine ok_e (by omega) (ok_b ?_)
    refine (x_wfield (e := e) (N := N) (F := F) (a := 31) (top := top) (f := f) hN (by omega) htop (by decide) fv f5 (by rw [g5.2.1 2 rfl rfl]; exact df.fr g5 (by decide)) g6 (by omega)).mono ?_
    intro _ Sc wc
    have ec := wc.2.1
    have fc := g5.trans wc.1
    dsimp only
    rw [w_b2 (b := 30) (by decide) (by decide)]
    refine ok_e (by omega) (ok_ib (by omega) (ok_nb (by omega) (ok_nb (by omega) ?_)))
    generalize hSd : w_put (w_put Sc 107 ((Sc.1 106 2).toNat) 30) 106 2 ((Sc.1 106 2) + 1) = Sd
    have wd : Wr 107 106 2 Sc [30] Sd := by
      rw [← hSd]
      exact Wr.one (by decide) Sc 30 (by omega)
    have ed := wd.2.1
    rw [List.length_singleton] at ed
    have ih := l_we2 (e := e) (N := N) hN htop hD2 hD l (F + 1) nf Sd (by omega) (by omega) (fun i hi => by
      have := g3 (i + 1) (by rw [List.length_cons]; omega)
      rw [List.getD_cons_succ] at this
      rw [← this, show F + 1 + i = F + (i + 1) by omega]) (fun g hg => g4 g (List.mem_cons_of_mem _ hg)) (fc.trans wd.1) (by omega) (by omega)
    rw [show (F : Int) + 1 = ((F + 1 : Nat) : Int) by omega]
    refine ih.mono (fun _ S1 q => ?_)
    have := Wr.trans g6 (Wr.trans g6 wc wd) q
    rw [bds, List.flatMap_cons, List.append_assoc]
    exact this
theorem x_wexch {e : w_E} {N : Nat} {top : Int} {S : w_S} {D : List Fdl} (hN : 1000 ≤ N) (htop : top ≤ 10240) (hD2 : D.length ≤ 12) (hD : Dr S (S.1 2) top D) (hv : ∀ f, f ∈ D → vfd f ∧ f.2.2.2.length ≤ 5) (g6 : S.1 106 2 = 0) : Ok (E_Desk_writeExchange e N S) (fun _ S1 => Wr 107 106 2 S (exc D) S1) := by
  have el := exs_le hv
  unfold E_Desk_writeExchange
  rw [hD.1]
  refine ok_nb (by omega) (ok_nb (by omega) ?_)
  have get : ∀ i, i < D.length → D.getD (0 + i) (0, 0, 0, []) = D.getD i (0, 0, 0, []) := fun i hi => by rw [Nat.zero_add]
  refine l_we0 (top := top) hN htop hD2 hD D 0 N 0 (by omega) (by omega) get hv (by omega) (by omega) (fun n' hn' => ?_)
  rw [El_Desk_writeExchange, hD.1, Int.zero_add]
  refine ok_t (by omega) (ok_nb (by omega) (ok_nb (by omega) (ok_b ?_)))
  refine (x_wnum (e := e) (N := N) (k := 4) (by omega) rfl (by omega) (by omega) (by omega) (by omega) (by omega)).mono ?_
  intro _ Sa wa
  have ea := wa.2.1
  rw [dgl_len] at ea
  dsimp only
  refine ok_b ((x_wnum (e := e) (N := N) (k := 4) (by omega) rfl (by omega) (by omega) (by omega) (by omega) (by omega)).mono ?_)
  intro _ Sb wb
  have eb := wb.2.1
  rw [dgl_len] at eb
  have fb := wa.1.trans wb.1
  dsimp only
  refine l_we1 (top := top) hN htop hD2 hD D 0 n' 0 Sb (by omega) (by omega) get hv (by omega) (by omega) fb (by omega) (by omega) (fun Sc n'' hn'' wc => ?_)
  have ec := wc.2.1
  rw [drs_len] at ec
  have fc := fb.trans wc.1
  rw [El_Desk_writeExchange, fc.2.1 120 rfl rfl, hD.1, w_b2 (b := 30) (by decide) (by decide)]
  refine ok_t (by omega) (ok_e (by omega) (ok_ib (by omega) (ok_nb (by omega) ?_)))
  generalize hSd : w_put (w_put Sc 107 ((Sc.1 106 2).toNat) 30) 106 2 ((Sc.1 106 2) + 1) = Sd
  have wd : Wr 107 106 2 Sc [30] Sd := by
    rw [← hSd]
    exact Wr.one (by decide) Sc 30 (by omega)
  have ed := wd.2.1
  rw [List.length_singleton] at ed
  refine (l_we2 (e := e) (N := N) hN htop hD2 hD D 0 n'' Sd (by omega) (by omega) get hv (fc.trans wd.1) (by omega) (by omega)).mono ?_
  intro _ S1 q
  exact Wr.trans (by omega) wa (Wr.trans (by omega) wb (Wr.trans (by omega) wc (Wr.trans (by omega) wd q)))
end
section
-- e8
theorem l_re0 {e : w_E} {N : Nat} {ps : Int} {S : w_S} {P : Int → w_S → Prop} (hN : 5000 ≤ N) (hp : S.1 129 37 = ps) (hps : ps ≤ 4000) : ∀ (l : List Fdl) (p nf : Nat) (x1 x2 : Int), (∀ f, f ∈ l → vfd f ∧ f.2.2.2.length ≤ 5) → byt (S.1 150) p (doc l) → ((p + (doc l).length : Nat) : Int) = ps → l.length < nf → 0 ≤ x1 → x1 + l.length ≤ 1000 → 0 ≤ x2 → x2 + 213 * (l.length : Int) ≤ 5000 → (∀ n', nf ≤ n' + l.length + 1 → Ok (El_R_writeExchange e N (n' + 1) 0 [x1 + l.length, x2 + exs l, ps] [] S) P) → Ok (El_R_writeExchange e N nf 0 [x1, x2, (p : Int)] [] S) P
  | _, _, 0, _, _, _, _, _, h, _, _, _, _, _ => by omega
  | [], p, nf + 1, x1, x2, g1, g2, g3, g4, g5, g6, g7, g8, g9 => by
    have := g9 nf (by omega)
    rw [doc, List.flatMap_nil, List.length_nil] at g3
    rw [exs, Int.add_zero, List.length_nil, ← g3] at this
    rw [show x1 + ((0 : Nat) : Int) = x1 by omega] at this
    exact this
  | f :: l, p, nf + 1, x1, x2, g1, g2, g3, g4, g5, g6, g7, g8, g9 => by
    rw [List.length_cons] at g4 g6 g8
    obtain ⟨fv, f5⟩ := g1 f List.mem_cons_self
    have sl := ser_len f
    have sle := ser_le fv f5
    have ee : exl f = ((fbd f).length : Int) + 1 := rfl
    rw [doc, List.flatMap_cons] at g2 g3
    rw [byt_app] at g2
    rw [List.length_append] at g3
    have fa : Fat S 150 4000 p f := ⟨rfl, by decide, g2.1, by omega, fv⟩
    rw [El_R_writeExchange, hp]
    refine ok_e (by omega) (ok_nb (by omega) (ok_b (ok_of (x_fieldEnd (by omega) fa) (ok_b (ok_of (x_exf0 hN fa) (ok_nb (by omega) (ok_b (ok_of (x_fieldEnd (by omega) fa) (ok_nb (by omega) ?_)))))))))
    dsimp only
    rw [show ((p + (fbd f).length + 4 : Nat) : Int) + 1 = ((p + (ser f).length : Nat) : Int) by omega]
    refine l_re0 hN hp hps l (p + (ser f).length) nf (x1 + 1) (x2 + (((fbd f).length : Int) + 1)) (fun g hg => g1 g (List.mem_cons_of_mem _ hg)) g2.2 (by rw [doc]; omega) (by omega) (by omega) (by omega) (by omega) (by omega) (fun n' hn' => ?_)
    have := g9 n' (by rw [List.length_cons]; omega)
    rw [exs, ← Int.add_assoc, List.length_cons] at this
    rw [show x1 + 1 + (l.length : Int) = x1 + ((l.length + 1 : Nat) : Int) by omega]
    exact this
theorem l_re1 {e : w_E} {N : Nat} {ps : Int} {S0 : w_S} {P : Int → w_S → Prop} (hN : 5000 ≤ N) (hp : S0.1 129 37 = ps) (hps : ps ≤ 4000) : ∀ (l : List Fdl) (p nf : Nat) (b : Int) (S : w_S), (∀ f, f ∈ l → vfd f ∧ f.2.2.2.length ≤ 5) → byt (S0.1 150) p (doc l) → ((p + (doc l).length : Nat) : Int) = ps → l.length < nf → 0 ≤ b → b + 213 * (l.length : Int) ≤ 5000 → frm [151] [129] [(129, 39)] S0 S → 0 ≤ S.1 129 39 → S.1 129 39 + 12 * (l.length : Int) ≤ 4000 → (∀ S1 n', nf ≤ n' + l.length + 1 → Wr 151 129 39 S (drs b l) S1 → Ok (El_R_writeExchange e N (n' + 1) 1 [b + exs l, ps] [] S1) P) → Ok (El_R_writeExchange e N nf 1 [b, (p : Int)] [] S) P
  | _, _, 0, _, _, _, _, _, h, _, _, _, _, _, _ => by omega
  | [], p, nf + 1, b, S, g1, g2, g3, g4, g5, g6, g7, g8, g9, g10 => by
    have := g10 S nf (by omega) (Wr.nil _ _ _ S)
    rw [doc, List.flatMap_nil, List.length_nil] at g3
    rw [exs, Int.add_zero, ← g3] at this
    exact this
  | f :: l, p, nf + 1, b, S, g1, g2, g3, g4, g5, g6, g7, g8, g9, g10 => by
    rw [List.length_cons] at g4 g6 g9
    obtain ⟨fv, f5⟩ := g1 f List.mem_cons_self
    have sl := ser_len f
    have sle := ser_le fv f5
    have ee : exl f = ((fbd f).length : Int) + 1 := rfl
    have t1 := fv.1
    have t2 := fv.2.1
    rw [doc, List.flatMap_cons] at g2 g3
    rw [byt_app] at g2
    rw [List.length_append] at g3
    have fat : ∀ T, frm [151] [129] [(129, 39)] S0 T → Fat T 150 4000 p f := fun T hT => ⟨rfl, by decide, by rw [hT.2.1 150 rfl rfl]; exact g2.1, by omega, fv⟩
    have fa := fat S g7
    obtain ⟨b0, b1, b2, b3⟩ := fa.tag
    rw [El_R_writeExchange, g7.2.2 129 37 rfl rfl, hp]
    refine ok_e (by omega) (ok_b (ok_of (x_fieldEnd (by omega) fa) (ok_b (ok_of (x_exf0 hN fa) ?_))))
    dsimp only
    rw [show ((p : Int)).toNat = p by omega, show ((p : Int) + 1).toNat = p + 1 by omega, show ((p : Int) + 2).toNat = p + 2 by omega, b0, b1, b2]
    refine ok_len fa.1 ?_
    with_reducible refine ok_t (by omega) ?_
    with_reducible refine ok_t (by omega) (ok_nb (by omega) (ok_nb (by omega) (ok_nb (by omega) ?_)))
    refine ok_len fa.1 ?_
    with_reducible refine ok_t (by omega) ?_
    with_reducible refine ok_t (by omega) (ok_nb (by omega) (ok_nb (by omega) (ok_nb (by omega) (ok_nb (by omega) ?_))))
    refine ok_len fa.1 ?_
    with_reducible refine ok_t (by omega) ?_
    with_reducible refine ok_t (by omega) (ok_nb (by omega) (ok_nb (by omega) ?_))
    rw [show 100 * (48 + f.1 / 100 - 48) + 10 * (48 + f.1 / 10 % 10 - 48) + (48 + f.1 % 10) - 48 = f.1 by omega]
    refine ok_b ((x_wdig (e := e) (N := N) (k := 2) (by omega) rfl (by omega) (by omega) (by omega) g8 (by omega)).mono ?_)
    intro _ Sa wa
    have ea := wa.2.1
    rw [dgl_len] at ea
    dsimp only
    refine ok_b ((x_wdig (e := e) (N := N) (k := 3) (by omega) rfl (by omega) (by omega) (by omega) (by omega) (by omega)).mono ?_)
    intro _ Sb wb
    have eb := wb.2.1
    rw [dgl_len] at eb
    dsimp only
    refine ok_b ((x_wdig (e := e) (N := N) (k := 4) (by omega) rfl (by omega) (by omega) (by omega) (by omega) (by omega)).mono ?_)
    intro _ Sc wc
    have ec := wc.2.1
    rw [dgl_len] at ec
    have fc := g7.trans (wa.1.trans (wb.1.trans wc.1))
    dsimp only
    refine ok_nb (by omega) (ok_b (ok_of (x_fieldEnd (by omega) (fat Sc fc)) (ok_nb (by omega) ?_)))
    dsimp only
    rw [show ((p + (fbd f).length + 4 : Nat) : Int) + 1 = ((p + (ser f).length : Nat) : Int) by omega]
    refine l_re1 hN hp hps l (p + (ser f).length) nf (b + (((fbd f).length : Int) + 1)) Sc (fun g hg => g1 g (List.mem_cons_of_mem _ hg)) g2.2 (by rw [doc]; omega) (by omega) (by omega) (by omega) fc (by omega) (by omega) (fun S1 n' hn' q => ?_)
    have := g10 S1 n' (by rw [List.length_cons]; omega) (Wr.trans g8 wa (Wr.trans (by omega) wb (Wr.trans (by omega) wc q)))
    rw [exs, ← Int.add_assoc] at this
    exact this
theorem l_re2 {e : w_E} {N : Nat} {ps : Int} {S0 : w_S} (hN : 5000 ≤ N) (hp : S0.1 129 37 = ps) (hps : ps ≤ 4000) : ∀ (l : List Fdl) (p nf : Nat) (b : Int) (S : w_S), (∀ f, f ∈ l → vfd f ∧ f.2.2.2.length ≤ 5) → byt (S0.1 150) p (doc l) → ((p + (doc l).length : Nat) : Int) = ps → l.length < nf → 0 ≤ b → b + exs l ≤ 10000 → frm [151] [129] [(129, 39)] S0 S → 0 ≤ S.1 129 39 → S.1 129 39 + exs l + 1 ≤ 4000 → Ok (El_R_writeExchange e N nf 2 [b, (p : Int)] [] S) (fun _ S1 => Wr 151 129 39 S (bds l ++ [29]) S1)
  | _, _, 0, _, _, _, _, _, h, _, _, _, _, _ => by omega
  | [], p, nf + 1, b, S, g1, g2, g3, g4, g5, g6, g7, g8, g9 => by
    rw [exs] at g9
    rw [doc, List.flatMap_nil, List.length_nil] at g3
    rw [El_R_writeExchange, g7.2.2 129 37 rfl rfl, hp, w_b2 (b := 29) (by decide) (by decide)]
    exact ok_t (by omega) (ok_ib (by omega) (ok_nb (by omega) (ok_s (Wr.one (by decide) S 29 g8))))
  | f :: l, p, nf + 1, b, S, g1, g2, g3, g4, g5, g6, g7, g8, g9 => by
    rw [List.length_cons] at g4
    rw [exs] at g6 g9
    obtain ⟨fv, f5⟩ := g1 f List.mem_cons_self
    have sl := ser_len f
    have ee : exl f = ((fbd f).length : Int) + 1 := rfl
    have el := exs_le (l := l) (fun g hg => g1 g (List.mem_cons_of_mem _ hg))
    have xl := fbx_len 31 f
    rw [doc, List.flatMap_cons] at g2 g3
    rw [byt_app] at g2
    rw [List.length_append] at g3
    have fat : ∀ T, frm [151] [129] [(129, 39)] S0 T → Fat T 150 4000 p f := fun T hT => ⟨rfl, by decide, by rw [hT.2.1 150 rfl rfl]; exact g2.1, by omega, fv⟩
    rw [El_R_writeExchange, g7.2.2 129 37 rfl rfl, hp]
    refine ok_e (by omega) (ok_b (ok_of (x_fieldEnd (by omega) (fat S g7)) (ok_b ?_)))
    dsimp only
    refine (x_exf1 (e := e) hN (fat S g7) g8 (by omega)).mono ?_
    intro y Sa ⟨hy, wa⟩
    have ea := wa.2.1
    rw [List.length_append, List.length_singleton] at ea
    have fa := g7.trans wa.1
    subst hy
    refine ok_nb (by omega) (ok_b (ok_of (x_fieldEnd (by omega) (fat Sa fa)) (ok_nb (by omega) ?_)))
    dsimp only
    rw [show ((p + (fbd f).length + 4 : Nat) : Int) + 1 = ((p + (ser f).length : Nat) : Int) by omega]
    refine (l_re2 hN hp hps l (p + (ser f).length) nf (b + (((fbd f).length : Int) + 1)) Sa (fun g hg => g1 g (List.mem_cons_of_mem _ hg)) g2.2 (by rw [doc]; omega) (by omega) (by omega) (by omega) fa (by omega) (by omega)).mono (fun _ S1 q => ?_)
    have := Wr.trans g8 wa q
    rw [bds, List.flatMap_cons, List.append_assoc]
    exact this
theorem x_rexch {e : w_E} {N : Nat} {S : w_S} {D : List Fdl} (hN : 5000 ≤ N) (hD2 : D.length ≤ 12) (hp : S.1 129 37 = ((doc D).length : Nat)) (hb : byt (S.1 150) 0 (doc D)) (hv : ∀ f, f ∈ D → vfd f ∧ f.2.2.2.length ≤ 5) (g6 : S.1 129 39 = 0) : Ok (E_R_writeExchange e N S) (fun _ S1 => Wr 151 129 39 S (exc D) S1) := by
  have el := exs_le hv
  have dl := doc_le hv
  unfold E_R_writeExchange
  refine l_re0 hN hp (by omega) D 0 N 0 0 hv hb (by omega) (by omega) (by omega) (by omega) (by omega) (by omega) (fun n' hn' => ?_)
  rw [El_R_writeExchange, hp, Int.zero_add, Int.zero_add]
  refine ok_t (by omega) (ok_nb (by omega) (ok_nb (by omega) (ok_nb (by omega) (ok_nb (by omega) (ok_b ?_)))))
  refine (x_wdig (e := e) (N := N) (k := 4) (by omega) rfl (by omega) (by omega) (by omega) (by omega) (by omega)).mono ?_
  intro _ Sa wa
  have ea := wa.2.1
  rw [dgl_len] at ea
  dsimp only
  refine ok_b ((x_wdig (e := e) (N := N) (k := 4) (by omega) rfl (by omega) (by omega) (by omega) (by omega) (by omega)).mono ?_)
  intro _ Sb wb
  have eb := wb.2.1
  rw [dgl_len] at eb
  have fb := wa.1.trans wb.1
  dsimp only
  refine l_re1 hN hp (by omega) D 0 n' 0 Sb hv hb (by omega) (by omega) (by omega) (by omega) fb (by omega) (by omega) (fun Sc n'' hn'' wc => ?_)
  have ec := wc.2.1
  rw [drs_len] at ec
  have fc := fb.trans wc.1
  rw [El_R_writeExchange, fc.2.2 129 37 rfl rfl, hp, w_b2 (b := 30) (by decide) (by decide)]
  refine ok_t (by omega) (ok_ib (by omega) (ok_nb (by omega) ?_))
  generalize hSd : w_put (w_put Sc 151 ((Sc.1 129 39).toNat) 30) 129 39 ((Sc.1 129 39) + 1) = Sd
  have wd : Wr 151 129 39 Sc [30] Sd := by
    rw [← hSd]
    exact Wr.one (by decide) Sc 30 (by omega)
  have ed := wd.2.1
  rw [List.length_singleton] at ed
  refine (l_re2 (e := e) hN hp (by omega) D 0 n'' (0 + exs D) Sd hv hb (by omega) (by omega) (by omega) (by omega) (fc.trans wd.1) (by omega) (by omega)).mono ?_
  intro _ S1 q
  exact Wr.trans (by omega) wa (Wr.trans (by omega) wb (Wr.trans (by omega) wc (Wr.trans (by omega) wd q)))
/-- the page is written out as it stands -/
theorem l_rpr {e : w_E} {N : Nat} {ps : Int} {a0 : Nat → Int} (hps : ps ≤ 4000) : ∀ (l : List Int) (p nf : Nat) (S : w_S), byt a0 p l → ((p + l.length : Nat) : Int) = ps → (∀ b, b ∈ l → 0 ≤ b ∧ b ≤ 127) → l.length < nf → S.1 129 37 = ps → S.1 150 = a0 → 0 ≤ S.1 129 39 → S.1 129 39 + (l.length : Int) ≤ 4000 → Ok (El_R_print e N nf 0 [0, (p : Int)] [] S) (fun y S1 => y = S1.1 129 39 ∧ Wr 151 129 39 S l S1)
  | _, _, 0, _, _, _, _, h, _, _, _, _ => by omega
  | [], p, nf + 1, S, g1, g2, g3, g4, g5, g6, g7, g8 => by
    rw [List.length_nil] at g2
    rw [El_R_print, g5]
    exact ok_t (by omega) (ok_s ⟨rfl, Wr.nil _ _ _ S⟩)
  | b :: l, p, nf + 1, S, g1, g2, g3, g4, g5, g6, g7, g8 => by
    rw [List.length_cons] at g2 g4 g8
    have hb := g3 b List.mem_cons_self
    have h0 : a0 p = b := g1.1
    rw [El_R_print, g5, g6, show ((p : Int)).toNat = p by omega, h0, w_b2 hb.1 hb.2]
    refine ok_e (by omega) (ok_e (fun w => w rfl) (ok_ib (by omega) (ok_ib (by omega) (ok_nb (by omega) (ok_nb (by omega) ?_)))))
    have ih := l_rpr (e := e) (N := N) hps l (p + 1) nf (w_put (w_put S 151 ((S.1 129 39).toNat) b) 129 39 ((S.1 129 39) + 1)) g1.2 (by omega) (fun c hc => g3 c (List.mem_cons_of_mem _ hc)) (by omega) (by simp only [w_put_r, reduceIte, Nat.reduceEqDiff, pt_at]; exact g5) (by simp only [w_put_r, reduceIte, Nat.reduceEqDiff, pt_at]; exact g6) (by rw [Wr.at]; omega) (by rw [Wr.at]; omega)
    rw [show (p : Int) + 1 = ((p + 1 : Nat) : Int) by omega]
    exact ih.mono (fun y S1 q => ⟨q.1, Wr.cons (by decide) g7 q.2⟩)
end
section
-- e9
/-- what was printed last -/
def RelPr (S R : w_S)  : Prop := R.1 129 39 = S.1 106 2 ∧ 0 ≤ S.1 106 2 ∧ S.1 106 2 ≤ 3000 ∧ ∀ k : Nat, (k : Int) < S.1 106 2 → R.1 151 k = S.1 107 k
theorem RelPr.fr {S R S1 R1 : w_S}  {L O L' O' : List Nat} {J J' : List (Nat × Nat)} (h : RelPr S R ) (hf : frm L O J S S1) (hg : frm L' O' J' R R1) (dd : (ckA L O [107] && (ckS L J [(106, 2)] && (ckA L' O' [151] && ckS L' J' [(129, 39)]))) = true) : RelPr S1 R1  := by
  have d := ck4 dd
  have a0 : S1.1 107 = S.1 107 := hf.2.1 107 (d.1 107 (by decide)).1 (d.1 107 (by decide)).2
  have b0 : S1.1 106 2 = S.1 106 2 := hf.2.2 106 2 (d.2.1 (106, 2) (by decide)).1 (d.2.1 (106, 2) (by decide)).2
  have g0 : R1.1 151 = R.1 151 := hg.2.1 151 (d.2.2.1 151 (by decide)).1 (d.2.2.1 151 (by decide)).2
  have k0 : R1.1 129 39 = R.1 129 39 := hg.2.2 129 39 (d.2.2.2 (129, 39) (by decide)).1 (d.2.2.2 (129, 39) (by decide)).2
  unfold RelPr at h ⊢
  simp only [a0, b0, g0, k0]
  exact h
/-- the day on which a record came is that of its first version -/
def RelCm (S R : w_S)  : Prop := ∀ r : Nat, 1 ≤ r → (r : Int) ≤ R.1 129 13 → (∃ v : Nat, (v : Int) < R.1 129 17 ∧ R.1 136 v = r ∧ R.1 137 v = R.1 133 r) ∧ ∀ u : Nat, (u : Int) < R.1 129 17 → R.1 136 u = r → R.1 133 r ≤ R.1 137 u
theorem RelCm.fr {S R S1 R1 : w_S}  {L O L' O' : List Nat} {J J' : List (Nat × Nat)} (h : RelCm S R ) (hf : frm L O J S S1) (hg : frm L' O' J' R R1) (dd : (ckA L O [] && (ckS L J [] && (ckA L' O' [133, 136, 137] && ckS L' J' [(129, 13), (129, 17)]))) = true) : RelCm S1 R1  := by
  have d := ck4 dd
  have g0 : R1.1 133 = R.1 133 := hg.2.1 133 (d.2.2.1 133 (by decide)).1 (d.2.2.1 133 (by decide)).2
  have g1 : R1.1 136 = R.1 136 := hg.2.1 136 (d.2.2.1 136 (by decide)).1 (d.2.2.1 136 (by decide)).2
  have g2 : R1.1 137 = R.1 137 := hg.2.1 137 (d.2.2.1 137 (by decide)).1 (d.2.2.1 137 (by decide)).2
  have k0 : R1.1 129 13 = R.1 129 13 := hg.2.2 129 13 (d.2.2.2 (129, 13) (by decide)).1 (d.2.2.2 (129, 13) (by decide)).2
  have k1 : R1.1 129 17 = R.1 129 17 := hg.2.2 129 17 (d.2.2.2 (129, 17) (by decide)).1 (d.2.2.2 (129, 17) (by decide)).2
  unfold RelCm at h ⊢
  simp only [g0, g1, g2, k0, k1]
  exact h
theorem pr_of {S R Sa Ra S1 R1 : w_S} {l : List Int} (h : Wr 107 106 2 Sa l S1) (k : Wr 151 129 39 Ra l R1) (hs : Sa.1 106 2 = 0) (hr : Ra.1 129 39 = 0) (hl : l.length ≤ 3000) : R1.1 129 39 = S1.1 106 2 ∧ RelPr S1 R1 := by
  have h1 := h.2.1
  have k1 := k.2.1
  have h2 := h.2.2.2
  have k2 := k.2.2.2
  rw [hs] at h2
  rw [hr] at k2
  refine ⟨by omega, by omega, by omega, by omega, fun u hu => ?_⟩
  have a := byt_at h2 u (by omega)
  have b := byt_at k2 u (by omega)
  rw [show (0 : Int).toNat + u = u by omega] at a b
  rw [a, b]
theorem doc_b {D : List Fdl} (h : ∀ f, f ∈ D → vfd f) : ∀ b, b ∈ doc D → 0 ≤ b ∧ b ≤ 127 := by
  intro b hb
  rw [doc, List.mem_flatMap] at hb
  obtain ⟨f, h1, h2⟩ := hb
  exact ser_b (h f h1) b h2
theorem lyd_v {S R : w_S} {top v d : Int} {D : List Fdl} (hk : RelLk S R) (hn : RelNm S R top) (hv : ∀ f, f ∈ D → vfd f ∧ f.2.2.2.length ≤ 5) : ∀ f, f ∈ lyd (nmo R v d) 0 D → vfd f ∧ f.2.2.2.length ≤ 5 := by
  intro f hf
  obtain ⟨g, k, g1, rfl⟩ := lyd_mem hf
  exact ⟨lyf_v (hv g g1).1 (nmo_v hk hn k), by rw [lyf_sub]; exact (hv g g1).2⟩
/-- the class's version on a day -/
theorem x_vOn {e : w_E} {N r : Nat} {S R : w_S} {d top : Int} {ta L E V n : Nat} (hN : 1000 ≤ N) (hv : RelVr S R top ta L E V n) (h1 : 1 ≤ r) (h2 : r ≤ n) : El_Catalog_versionOn e N N 0 [d, S.1 4 r, 0] [] S = some (gk (fun j => decide (R.1 136 j = (r : Int)) && decide (R.1 137 j ≤ d)) V, S) := by
  obtain ⟨k1, k2, k3, k4, k5, k6, k7, k8, k9, k10, k11⟩ := hv
  have key := l_vOn (e := e) (N := N) (S := S) (d := d) (P := fun k => decide (R.1 136 k = (r : Int))) k5 (fun v hv hp => by
    have := (k11 v hv).1
    rw [of_decide_eq_true hp] at this
    exact this) V N 0 (by omega) (by omega) (by omega)
  rw [(k10 r h1 h2).1, show (0 : Int) = ((0 : Nat) : Int) from rfl, key]
  congr 2
  exact gk_congr V (fun k hk => by rw [(k11 k hk).2.1])
/-- print -/
theorem q_print {e : w_E} {N : Nat} {S R : w_S} {x1 x2 x3 top : Int} {ta L E V n : Nat} (hN : 16000000 ≤ N) (hG : RelG S R) (hv : RelVr S R top ta L E V n) (hk : RelLk S R) (hn : RelNm S R top) (hcm : RelCm S R) (hpr : RelPr S R) (hd : R.1 129 12 = S.1 27 1) (htop : top ≤ 10240) : Ok (E_C_print e N x1 x2 x3 S) (fun y S1 => Ok (E_R_print e N x1 x2 x3 R) (fun y' R1 => y' = y ∧ frm [107, 121, 122, 123, 124, 125, 126, 127] [106, 120] [(106, 2), (120, 0)] S S1 ∧ frm [150, 151] [129] [(129, 37), (129, 39)] R R1 ∧ RelPr S1 R1)) := by
  have hh := hv
  obtain ⟨k1, k2, k3, k4, k5, k6, k7, k8, k9, k10, k11⟩ := hh
  have gg := hG
  obtain ⟨g1, g2, g3, g4⟩ := gg
  have no : ∀ y : Int, Ok (some (y, R)) (fun y' R1 => y' = y ∧ frm [107, 121, 122, 123, 124, 125, 126, 127] [106, 120] [(106, 2), (120, 0)] S S ∧ frm [150, 151] [129] [(129, 37), (129, 39)] R R1 ∧ RelPr S R1) := fun y => ok_s ⟨rfl, frm.refl _ _ _ _, frm.refl _ _ _ _, hpr⟩
  unfold E_C_print E_R_print E_Catalog_versionOn
  by_cases c1 : x1 < 1
  · rw [if_pos c1, if_pos c1]
    exact ok_b (ok_s (ok_e (fun w => w rfl) (ok_s (no _))))
  rw [if_neg c1, if_neg c1]
  by_cases c2 : x1 ≤ S.1 3 0
  rotate_left
  · rw [if_neg c2, if_pos (show R.1 129 13 < x1 by omega)]
    exact ok_b (ok_s (ok_e (fun w => w rfl) (ok_s (no _))))
  obtain ⟨r, hr⟩ : ∃ r : Nat, x1 = r := ⟨x1.toNat, by omega⟩
  subst hr
  have ib : w_ib (r : Int) 151 = true := by rw [w_ibE]; omega
  rw [if_pos c2, if_neg (show ¬ R.1 129 13 < (r : Int) by omega), if_pos ib, if_pos ib, show ((r : Int)).toNat = r by omega]
  obtain ⟨gr, gr2, gr3⟩ := g4 r (by omega) c2
  rw [gr]
  obtain ⟨⟨v1, w1, w2, w3⟩, w4⟩ := hcm r (by omega) (by omega)
  have xv := x_vOn (e := e) (N := N) (d := x3) (by omega) hv (show 1 ≤ r by omega) (by omega)
  have gb := gk_b (fun j => decide (R.1 136 j = (r : Int)) && decide (R.1 137 j ≤ x3)) V
  have gs := gk_spec (fun j => decide (R.1 136 j = (r : Int)) && decide (R.1 137 j ≤ x3)) V
  generalize hg : gk (fun j => decide (R.1 136 j = (r : Int)) && decide (R.1 137 j ≤ x3)) V = g at xv gb gs
  -- what follows once the version is known
  have main : ∀ v : Nat, g = v → Ok (if x2 < 0 then some ((-2), S) else (if 1 < x2 then some ((-2), S) else (if x3 ≤ (S.1 27 1) then ((E_Catalog_copyTo e N g S).bind (fun q1271 => ((E_Authority_layNames e N g x3 q1271.2).bind (fun q1272 => (if x2 ≠ 0 then ((E_Desk_writeExchange e N (w_put q1272.2 106 2 0)).bind (fun q1273 => some (q1273.2.1 106 2, q1273.2))) else ((E_Desk_writeText e N (w_put q1272.2 106 2 0)).bind (fun q1283 => some (q1283.2.1 106 2, q1283.2)))))))) else some ((-2), S)))) (fun y S1 => Ok (if x2 < 0 then some ((-2), R) else (if 1 < x2 then some ((-2), R) else (if x3 ≤ (R.1 129 12) then ((E_R_build e N (r : Int) x3 R).bind (fun q1287 => (if x2 ≠ 1 then El_R_print e N N 0 [x2, 0] [] (w_put q1287.2 129 39 0) else ((E_R_writeExchange e N (w_put q1287.2 129 39 0)).bind (fun q1288 => El_R_print e N N 0 [x2, 0] [] q1288.2))))) else some ((-2), R)))) (fun y' R1 => y' = y ∧ frm [107, 121, 122, 123, 124, 125, 126, 127] [106, 120] [(106, 2), (120, 0)] S S1 ∧ frm [150, 151] [129] [(129, 37), (129, 39)] R R1 ∧ RelPr S1 R1)) := by
    intro v ev
    subst ev
    by_cases a1 : x2 < 0
    · rw [if_pos a1, if_pos a1]
      exact ok_s (no _)
    rw [if_neg a1, if_neg a1]
    by_cases a2 : 1 < x2
    · rw [if_pos a2, if_pos a2]
      exact ok_s (no _)
    rw [if_neg a2, if_neg a2, hd]
    by_cases a3 : x3 ≤ S.1 27 1
    rotate_left
    · rw [if_neg a3, if_neg a3]
      exact ok_s (no _)
    rw [if_pos a3, if_pos a3]
    obtain ⟨_, _, _, _, _, _, D, hD⟩ := k11 v (by omega)
    have bd := x_build (e := e) (N := N) hN hv hk hn hg hD
    have hDD := hD
    obtain ⟨D1, D2, D3, D4, D5, D6, _⟩ := hDD
    refine ok_b ((x_lay (e := e) (N := N) (d := x3) (by omega) (by omega) hk hn hD).mono ?_)
    intro _ T lt
    refine ok_b (lt.mono ?_)
    intro _ Ta ⟨t1, t2, t3⟩
    have dv : ∀ f, f ∈ lyd (nmo R (v : Int) x3) 0 D → vfd f ∧ f.2.2.2.length ≤ 5 := lyd_v hk hn (fun f hf => by
      obtain ⟨F, hF, rfl⟩ := mem_of_get hf
      exact ⟨D5 _ hf, D4 F hF⟩)
    have dl : (lyd (nmo R (v : Int) x3) 0 D).length ≤ 12 := by rw [lyd_len]; exact D3
    generalize hD' : lyd (nmo R (v : Int) x3) 0 D = D' at bd t2 dv dl
    have dle := doc_le dv
    have ele := exs_le dv
    have el : (exc D').length ≤ 3000 := by
      have b1 := bds_len D'
      rw [exc]
      simp only [List.length_append, dgl_len, drs_len, List.length_singleton]
      omega
    dsimp only
    generalize hTb : w_put Ta 106 2 0 = Tb
    have tb0 : Tb.1 106 2 = 0 := by
      rw [← hTb]
      simp only [w_put_r, reduceIte, Nat.reduceEqDiff, pt_at]
    have tbf : frm [107] [106] [(106, 2)] Ta Tb := by
      rw [← hTb]
      repeat (first | exact frm.refl _ _ _ _ | refine frm.put ?_ rfl | refine frm.puto ?_ rfl rfl)
    have tb2 : Tb.1 2 = S.1 2 := by rw [tbf.2.1 2 rfl rfl, t1.2.1 2 rfl rfl]
    have dr : Dr Tb (Tb.1 2) top D' := by
      rw [tb2]
      exact ⟨by rw [tbf.2.1 120 rfl rfl]; exact t2.1, fun F hF => (t2.2 F hF).fr tbf (by decide)⟩
    have fS : ∀ {S1 l}, Wr 107 106 2 Tb l S1 → frm [107, 121, 122, 123, 124, 125, 126, 127] [106, 120] [(106, 2), (120, 0)] S S1 := by
      intro S1 l q
      refine (t1.wide ?_ ?_ ?_).trans ((tbf.wide ?_ ?_ ?_).trans (q.1.wide ?_ ?_ ?_))
      all_goals
        intros
        simp at *
        omega
    have fR : ∀ {Ra Rb R1 : w_S} {l}, frm [150] [129] [(129, 37)] R Ra → w_put Ra 129 39 0 = Rb → Wr 151 129 39 Rb l R1 → frm [150, 151] [129] [(129, 37), (129, 39)] R R1 := by
      intro Ra Rb R1 l a b q
      refine (a.wide ?_ ?_ ?_).trans (frm.trans (S' := Rb) ?_ (q.1.wide ?_ ?_ ?_))
      · intros
        simp at *
        omega
      · intros
        simp at *
        omega
      · intros
        simp at *
        omega
      · rw [← b]
        repeat (first | exact frm.refl _ _ _ _ | refine frm.put ?_ rfl | refine frm.puto ?_ rfl rfl)
      · intros
        simp at *
        omega
      · intros
        simp at *
        omega
      · intros
        simp at *
        omega
    by_cases a4 : x2 = 0
    · rw [if_neg (fun w => w a4)]
      refine ok_b ((x_wtext (e := e) (N := N) (by omega) htop dl dr dv tb0).mono ?_)
      intro _ S1 qs
      refine ok_s (ok_b (bd.mono ?_))
      intro _ Ra ⟨ra1, ra2, ra3⟩
      dsimp only
      rw [if_pos (show x2 ≠ 1 by omega), a4]
      generalize hRb : w_put Ra 129 39 0 = Rb
      have rb0 : Rb.1 129 39 = 0 := by
        rw [← hRb]
        simp only [w_put_r, reduceIte, Nat.reduceEqDiff, pt_at]
      have rb7 : Rb.1 129 37 = Ra.1 129 37 := by
        rw [← hRb]
        simp only [w_put_r, reduceIte, Nat.reduceEqDiff, pt_at]
      have rb5 : Rb.1 150 = Ra.1 150 := by
        rw [← hRb]
        simp only [w_put_r, reduceIte, Nat.reduceEqDiff, pt_at]
      refine (l_rpr (e := e) (N := N) (ps := Rb.1 129 37) (by omega) (doc D') 0 N Rb (by rw [rb5]; exact ra3) (by omega) (doc_b (fun f hf => (dv f hf).1)) (by omega) rfl rfl (by omega) (by omega)).mono ?_
      intro y' R1 ⟨qy, qr⟩
      obtain ⟨p1, p2⟩ := pr_of (S := S) (R := R) qs qr tb0 rb0 (by omega)
      exact ⟨by rw [qy, p1], fS qs, fR ra1 hRb qr, p2⟩
    · rw [if_pos a4]
      refine ok_b ((x_wexch (e := e) (N := N) (by omega) htop dl dr dv tb0).mono ?_)
      intro _ S1 qs
      refine ok_s (ok_b (bd.mono ?_))
      intro _ Ra ⟨ra1, ra2, ra3⟩
      dsimp only
      rw [if_neg (show ¬ x2 ≠ 1 by omega)]
      generalize hRb : w_put Ra 129 39 0 = Rb
      have rb0 : Rb.1 129 39 = 0 := by
        rw [← hRb]
        simp only [w_put_r, reduceIte, Nat.reduceEqDiff, pt_at]
      have rb7 : Rb.1 129 37 = Ra.1 129 37 := by
        rw [← hRb]
        simp only [w_put_r, reduceIte, Nat.reduceEqDiff, pt_at]
      have rb5 : Rb.1 150 = Ra.1 150 := by
        rw [← hRb]
        simp only [w_put_r, reduceIte, Nat.reduceEqDiff, pt_at]
      refine ok_b ((x_rexch (e := e) (N := N) (by omega) dl (by rw [rb7]; exact ra2) (by rw [rb5]; exact ra3) dv rb0).mono ?_)
      intro _ R1 qr
      dsimp only
      obtain ⟨p1, p2⟩ := pr_of (S := S) (R := R) qs qr tb0 rb0 el
      obtain ⟨m, hm⟩ : ∃ m, N = m + 1 := ⟨N - 1, by omega⟩
      rw [show El_R_print e N N = El_R_print e N (m + 1) by rw [← hm], El_R_print]
      refine ok_if (fun _ => ok_s ?_) (fun _ => ok_t a4 (ok_s ?_))
      · exact ⟨p1, fS qs, fR ra1 hRb qr, p2⟩
      · exact ⟨p1, fS qs, fR ra1 hRb qr, p2⟩
  -- no version on that day
  have none' : g = -1 → x3 < R.1 133 r := by
    intro ev
    rcases gs with ⟨_, s2⟩ | ⟨j, s1, s2, _⟩
    · have := s2 v1 (by omega)
      simp only [Bool.and_eq_false_iff, decide_eq_false_iff_not] at this
      omega
    · omega
  have some' : 0 ≤ g → ¬ x3 < R.1 133 r := by
    intro ev
    rcases gs with ⟨s1, _⟩ | ⟨j, s1, s2, s3, _⟩
    · omega
    · simp only [Bool.and_eq_true, decide_eq_true_eq] at s3
      have := w4 j (by omega) s3.1
      omega
  by_cases c3 : S.1 5 r = -1
  · rw [if_pos c3, if_pos c3]
    refine ok_b (ok_of xv ?_)
    dsimp only
    by_cases c4 : g = -1
    · rw [if_neg (fun w => w c4), if_pos (none' c4)]
      exact ok_s (no _)
    · rw [if_pos c4, if_neg (some' (by omega))]
      exact main g.toNat (by omega)
  · rw [if_neg c3, if_neg c3]
    by_cases c5 : x3 < S.1 5 r
    · rw [if_pos c5, if_pos c5]
      refine ok_b (ok_of xv ?_)
      dsimp only
      by_cases c4 : g = -1
      · rw [if_neg (fun w => w c4), if_pos (none' c4)]
        exact ok_s (no _)
      · rw [if_pos c4, if_neg (some' (by omega))]
        exact main g.toNat (by omega)
    · rw [if_neg c5, if_neg c5]
      refine ok_b (ok_s (ok_e (fun w => w rfl) (ok_s ?_)))
      refine ok_if (fun _ => no _) (fun _ => no _)
theorem q_printed {e : w_E} {N : Nat} {S R : w_S} {x1 : Int} (hpr : RelPr S R) : ∃ y, E_C_printed e N x1 S = some (y, S) ∧ E_R_printed e N x1 R = some (y, R) := by
  obtain ⟨p1, p2, p3, p4⟩ := hpr
  unfold E_C_printed E_R_printed
  rw [p1, if_pos (show w_nb (S.1 106 2 - 1) = true by rw [w_nbE]; omega)]
  by_cases c1 : x1 < 0
  · rw [if_pos c1, if_pos c1]
    exact ⟨_, rfl, rfl⟩
  rw [if_neg c1, if_neg c1]
  by_cases c2 : S.1 106 2 ≤ x1
  · rw [if_pos c2, if_pos (by omega)]
    exact ⟨_, rfl, rfl⟩
  rw [if_neg c2, if_neg (show ¬ S.1 106 2 - 1 < x1 by omega), if_pos (show w_ib x1 3000 = true by rw [w_ibE]; omega), if_pos (show w_ib x1 4000 = true by rw [w_ibE]; omega), p4 x1.toNat (by omega)]
  exact ⟨_, rfl, rfl⟩
end
