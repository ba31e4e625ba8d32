section
-- ea
/-- the two rows of the reference's batch, and where they stand -/
def RelWk (R : w_S) : Prop := (R.2.1 3 = 194 ∧ R.2.1 4 = 195 ∨ R.2.1 3 = 195 ∧ R.2.1 4 = 194) ∧ e_len Tr R 194 1 = some 20000 ∧ e_len Tr R 195 1 = some 20000
theorem RelWk.cg {R R1 : w_S} (h : RelWk R) (k : R1.2 = R.2) : RelWk R1 := by
  obtain ⟨h1, h2, h3⟩ := h
  exact ⟨by rw [k]; exact h1, by rw [len_cg k]; exact h2, by rw [len_cg k]; exact h3⟩
theorem RelWk.len {R : w_S} (h : RelWk R) {a : Nat} (ha : a = 194 ∨ a = 195) : e_len Tr R a 1 = some 20000 := by
  rcases ha with rfl | rfl
  · exact h.2.1
  · exact h.2.2
theorem RelWk.w {R : w_S} (h : RelWk R) : R.2.1 3 = 194 ∨ R.2.1 3 = 195 := by
  rcases h.1 with h | h
  · exact Or.inl h.1
  · exact Or.inr h.1
/-- a version's text becomes the row under work -/
theorem l_tkv {e : w_E} {N v wa ta L p m : Nat} {a0 : Nat → Int} (hv : v < 400) (hwa : wa = 194 ∨ wa = 195) (hta : ta = 140 ∨ 238 ≤ ta) (hL : L < 16000000) (hm : m ≤ 20000) (hpm : p + m ≤ L) (hfr : w_frb Tr B_R_takeVersion_129 wa = false) : ∀ (l : List Int) (i nf : Nat) (S : w_S), i + l.length = m → l.length < nf → S.2.1 2 = ta → S.2.1 3 = wa → e_len Tr S ta 1 = some L → e_len Tr S wa 1 = some 20000 → S.1 129 100 = m → S.1 138 v = p → S.1 ta = a0 → byt a0 (p + i) l → (∀ b, b ∈ l → 0 ≤ b ∧ b ≤ 127) → Ok (El_R_takeVersion e N nf 0 [(v : Int), (i : Int)] [] S) (fun _ S1 => frm [wa] [] [] S S1 ∧ (∀ u, u < i → S1.1 wa u = S.1 wa u) ∧ byt (S1.1 wa) i l)
  | _, _, 0, _, _, h, _, _, _, _, _, _, _, _, _ => by omega
  | [], i, nf + 1, S, g1, g2, g3, g4, g5, g6, g7, g8, g9, g10, g11 => by
    rw [El_R_takeVersion, g7]
    rw [List.length_nil] at g1
    exact ok_t (by omega) (ok_s ⟨frm.refl _ _ _ _, fun _ _ => rfl, trivial⟩)
  | b :: l, i, nf + 1, S, g1, g2, g3, g4, g5, g6, g7, g8, g9, g10, g11 => by
    rw [List.length_cons] at g1 g2
    have hb := g11 b List.mem_cons_self
    have h0 : a0 (p + i) = b := g10.1
    rw [El_R_takeVersion, show ((v : Int)).toNat = v by omega, g3, g4, g7, g8, show ((p : Int) + (i : Int)).toNat = p + i by omega, g9, h0, w_b_id (by omega) (by omega)]
    refine ok_e (by omega) (ok_ib (by omega) (ok_nb (by omega) (ok_len g5 ?_)))
    with_reducible refine ok_t (by omega) ?_
    with_reducible refine ok_t (by omega) ?_
    refine ok_t hfr (ok_len g6 ?_)
    with_reducible refine ok_t (by omega) ?_
    refine ok_t (by show (i : Int) < (20000 : Int); omega) (ok_nb (by omega) ?_)
    rw [show ((i : Int)).toNat = i by omega]
    generalize hS : w_put S wa i b = S2
    have f2 : frm [wa] [] [] S S2 := by
      rw [← hS]
      exact frm.put (frm.refl _ _ _ _) (by simp)
    have r2 : ∀ u, S2.1 wa u = if u = i then b else S.1 wa u := fun u => by
      rw [← hS, w_put_r, if_pos rfl, pt_at]
    have c : ∀ x, x ≠ wa → S2.1 x = S.1 x := fun x hx => f2.2.1 x (by simp only [List.contains_cons, List.contains_nil, Bool.or_false, beq_eq_false_iff_ne, ne_eq]; exact hx) rfl
    have ih := l_tkv (e := e) (N := N) hv hwa hta hL hm hpm hfr l (i + 1) nf S2 (by omega) (by omega) (by rw [f2.1]; exact g3) (by rw [f2.1]; exact g4) (by rw [len_cg f2.1]; exact g5) (by rw [len_cg f2.1]; exact g6) (by rw [c 129 (by omega)]; exact g7) (by rw [c 138 (by omega)]; exact g8) (by rw [c ta (by omega)]; exact g9) g10.2 (fun d hd => g11 d (List.mem_cons_of_mem _ hd))
    rw [show (i : Int) + 1 = ((i + 1 : Nat) : Int) by omega]
    refine ih.mono (fun _ S1 ⟨q1, q2, q3⟩ => ⟨f2.trans q1, fun u hu => ?_, ?_, q3⟩)
    · rw [q2 u (by omega), r2, if_neg (by omega)]
    · rw [q2 i (by omega), r2, if_pos rfl]
theorem x_tkv {e : w_E} {N v : Nat} {S R : w_S} {top : Int} {ta L E V n : Nat} {D : List Fdl} (hN : 16000000 ≤ N) (hv : RelVr S R top ta L E V n) (hw : RelWk R) (hv2 : v < 400) (hD : VrD S R (S.1 2) top ta E v D) : Ok (E_R_takeVersion e N (v : Int) R) (fun _ R1 => frm [R.2.1 3] [129] [(129, 100)] R R1 ∧ R1.1 129 100 = ((doc D).length : Nat) ∧ byt (R1.1 (R.2.1 3)) 0 (doc D)) := by
  obtain ⟨k1, k2, k3, k4, k5, k6, k7, k8, k9, k10, k11⟩ := hv
  obtain ⟨D1, D2, D3, D4, D5, D6, p, D7, D8, D9, D10, D11⟩ := hD
  obtain ⟨t1, t2, t3, t4, t5, t6, t7, t8, t9, t10, t11, t12⟩ := k1
  have ww := hw.w
  unfold E_R_takeVersion
  rw [show ((v : Int)).toNat = v by omega, D8]
  refine ok_ib (by omega) ?_
  generalize hR : w_put R 129 100 (((doc D).length : Nat) : Int) = R0
  have f0 : frm [R.2.1 3] [129] [(129, 100)] R R0 := by
    rw [← hR]
    exact frm.puto (frm.refl _ _ _ _) rfl rfl
  have f1 : frm [] [129] [(129, 100)] R R0 := by
    rw [← hR]
    repeat (first | exact frm.refl _ _ _ _ | refine frm.put ?_ rfl | refine frm.puto ?_ rfl rfl)
  have r0 : R0.1 129 100 = ((doc D).length : Nat) := by
    rw [← hR]
    simp only [w_put_r, reduceIte, Nat.reduceEqDiff, pt_at]
  have fr : w_frb Tr B_R_takeVersion_129 (R.2.1 3) = false := by
    rcases ww with w | w <;> rw [w] <;> decide
  refine (l_tkv (e := e) (N := N) (wa := R.2.1 3) (ta := ta) (L := L) (p := p) (m := (doc D).length) (a0 := R.1 ta) hv2 ww k2 (by omega) (by omega) (by omega) fr (doc D) 0 N R0 (by omega) (by omega) (by rw [f1.1]; exact t1) (by rw [f1.1]) (by rw [len_cg f1.1]; exact t7) (by rw [len_cg f1.1]; exact hw.len ww) r0 (by rw [f1.2.1 138 rfl rfl]; exact D7) (f1.2.1 ta rfl (by simp only [List.contains_cons, List.contains_nil, Bool.or_false, beq_eq_false_iff_ne, ne_eq]; omega)) D11 (doc_b D5)).mono ?_
  intro _ R1 ⟨q1, q2, q3⟩
  have n129 : [R.2.1 3].contains 129 = false := by
    simp only [List.contains_cons, List.contains_nil, Bool.or_false, beq_eq_false_iff_ne, ne_eq]
    omega
  refine ⟨f0.trans (q1.wide (fun b h => h) (fun b h => rfl) (fun b j h => rfl)), ?_, q3⟩
  rw [q1.2.2 129 100 n129 rfl]
  exact r0
theorem l_brk {e : w_E} {N a1 m n : Nat} {T R : w_S} {top x2 : Int} {t2 : Nat → Int} {D : List Fdl} (hN : 2001 ≤ N) (hN2 : m < N) (hlen : e_len Tr R a1 1 = some m) (hm : m < 2000000000) (htop : top ≤ 10240) (hn : n ≤ 10) (hn1 : T.1 35 2 = n) (hn2 : R.1 129 93 = n) (hC : ∀ i, i < n → R.1 191 (3 * i) = T.1 32 (3 * i) ∧ R.1 191 (3 * i + 1) = T.1 32 (3 * i + 1) ∧ 0 ≤ T.1 32 (3 * i + 1) ∧ T.1 32 (3 * i + 1) ≤ 3 ∧ (2 ≤ T.1 32 (3 * i + 1) → R.1 191 (3 * i + 2) = T.1 32 (3 * i + 2) ∧ 1 ≤ T.1 32 (3 * i + 2))) (hD : Dr T t2 top D) (hB : byt (R.1 a1) 0 (doc D)) (hs : (doc D).length ≤ m) (hl2 : D.length ≤ 20) (hv : ∀ f, f ∈ D → vfd f ∧ f.2.2.2.length ≤ 13) : ∀ (k i c nf nr : Nat), i + k = n → c ≤ i → k < nf → k < nr → ∃ y, El_C_broke e N nf 0 [x2, (c : Int), (i : Int)] [] T = some (y, T) ∧ El_R_firstBroken e N nr 0 [(((doc D).length : Nat) : Int), x2, (c : Int), (i : Int)] [a1] R = some (y, R)
  | _, _, _, 0, _, _, _, h, _ => by omega
  | _, _, _, _ + 1, 0, _, _, _, h => by omega
  | 0, i, c, nf + 1, nr + 1, g1, g0, g2, g3 => by
    refine ⟨-1, ?_, ?_⟩
    · rw [El_C_broke, hn1, if_pos (by omega)]
    · rw [El_R_firstBroken, hn2, if_pos (by omega)]
  | k + 1, i, c, nf + 1, nr + 1, g1, g0, g2, g3 => by
    obtain ⟨c1, c2, c3, c4, c5⟩ := hC i (by omega)
    have xa := x_isBroken (e := e) (N := N) (l := i) (by omega) (by omega) htop ⟨c3, c4⟩ hD hl2 hv
    have xb := x_breaks (e := e) (N := N) (l := i) (R := R) hN hN2 hlen hm (by omega) (by rw [c2]; exact ⟨c3, c4⟩) (fun z => by have := c5 (by omega); omega) hB hs (fun f hf => (hv f hf).1) (by omega)
    have same : abr (R.1 191 (3 * i)) (R.1 191 (3 * i + 1)) (R.1 191 (3 * i + 2)) D = abr (T.1 32 (3 * i)) (T.1 32 (3 * i + 1)) (T.1 32 (3 * i + 2)) D := by
      rw [c1, c2]
      by_cases z : 2 ≤ T.1 32 (3 * i + 1)
      · rw [(c5 z).1]
      · rw [abr_k (by omega), abr_k (by omega)]
    rw [same, c1, c2] at xb
    generalize brs (T.1 32 (3 * i + 1)) (ctg (T.1 32 (3 * i)) D) (abr (T.1 32 (3 * i)) (T.1 32 (3 * i + 1)) (T.1 32 (3 * i + 2)) D) = w at xa xb
    have ih := fun c' (hc : c' ≤ i + 1) => l_brk (e := e) (N := N) (x2 := x2) hN hN2 hlen hm htop hn hn1 hn2 hC hD hB hs hl2 hv k (i + 1) c' nf nr (by omega) hc (by omega) (by omega)
    rw [show ((i + 1 : Nat) : Int) = (i : Int) + 1 by omega] at ih
    by_cases bb : w = 0
    · obtain ⟨y, q1, q2⟩ := ih c (by omega)
      refine ⟨y, ok_eq ?_, ok_eq ?_⟩
      · rw [El_C_broke, hn1]
        exact ok_e (by omega) (ok_b (ok_of xa (ok_t bb (ok_nb (by omega) (ok_of q1 ⟨rfl, rfl⟩)))))
      · rw [El_R_firstBroken, hn2]
        exact ok_e (by omega) (ok_b (ok_of xb (ok_e (fun z => z bb) (ok_nb (by omega) (ok_of q2 ⟨rfl, rfl⟩)))))
    · by_cases b2 : (c : Int) = x2
      · refine ⟨(i : Int), ok_eq ?_, ok_eq ?_⟩
        · rw [El_C_broke, hn1]
          exact ok_e (by omega) (ok_b (ok_of xa (ok_e bb (ok_e (fun z => z b2) (ok_s ⟨rfl, rfl⟩)))))
        · rw [El_R_firstBroken, hn2]
          exact ok_e (by omega) (ok_b (ok_of xb (ok_t bb (ok_e (fun z => z b2) (ok_s ⟨rfl, rfl⟩)))))
      · obtain ⟨y, q1, q2⟩ := ih (c + 1) (by omega)
        rw [show ((c + 1 : Nat) : Int) = (c : Int) + 1 by omega] at q1 q2
        refine ⟨y, ok_eq ?_, ok_eq ?_⟩
        · rw [El_C_broke, hn1]
          exact ok_e (by omega) (ok_b (ok_of xa (ok_e bb (ok_t b2 (ok_nb (by omega) (ok_nb (by omega) (ok_of q1 ⟨rfl, rfl⟩)))))))
        · rw [El_R_firstBroken, hn2]
          exact ok_e (by omega) (ok_b (ok_of xb (ok_t bb (ok_t b2 (ok_nb (by omega) (ok_nb (by omega) (ok_of q2 ⟨rfl, rfl⟩)))))))
/-- the version of a record that is there, today -/
theorem x_today {e : w_E} {N r : Nat} {S R : w_S} {top : Int} {ta L E V n : Nat} (hN : 1000 ≤ N) (hv : RelVr S R top ta L E V n) (hd : R.1 129 12 = S.1 27 1) (h1 : 1 ≤ r) (h2 : r ≤ n) : ∃ v D, v < V ∧ S.1 4 r = (v : Nat) ∧ E_R_versionOn e N (r : Int) (R.1 129 12) R = some ((v : Int), R) ∧ gk (fun j => decide (R.1 136 j = (r : Int)) && decide (R.1 137 j ≤ R.1 129 12)) V = (v : Nat) ∧ VrD S R (S.1 2) top ta E v D := by
  obtain ⟨k1, k2, k3, k4, k5, k6, k7, k8, k9, k10, k11⟩ := hv
  obtain ⟨v1, v2⟩ := k10 r h1 h2
  have gb := gk_b (fun k => decide (R.1 136 k = (r : Int))) V
  have vo := x_rvOn (e := e) (N := N) (r := (r : Int)) (d := R.1 129 12) (by omega) k4 k5
  have ge : gk (fun j => decide (R.1 136 j = (r : Int)) && decide (R.1 137 j ≤ R.1 129 12)) V = gk (fun k => decide (R.1 136 k = (r : Int))) V := gk_congr V (fun k hk => by
    have := (k11 k hk).2.2.2.1
    rw [decide_eq_true (show R.1 137 k ≤ R.1 129 12 by omega), Bool.and_true])
  rw [ge, ← v1] at vo
  rw [← v1] at gb
  obtain ⟨v, hvv⟩ : ∃ v : Nat, S.1 4 r = v := ⟨(S.1 4 r).toNat, by omega⟩
  rw [hvv] at vo
  obtain ⟨_, _, _, _, _, _, D, hD⟩ := k11 v (by omega)
  exact ⟨v, D, by omega, hvv, vo, by rw [ge, ← v1, hvv], hD⟩
/-- broke -/
theorem q_broke {e : w_E} {N : Nat} {S R : w_S} {x1 x2 top : Int} {ta L E V n : Nat} (hN : 16000000 ≤ N) (hG : RelG S R) (hv : RelVr S R top ta L E V n) (hC : RelCk S R) (hw : RelWk R) (hd : R.1 129 12 = S.1 27 1) (htop : top ≤ 10240) : Ok (E_C_broke e N x1 x2 S) (fun y S1 => Ok (E_R_broke e N x1 x2 R) (fun y' R1 => y' = y ∧ frm [121, 122, 123, 124, 125, 126, 127] [120] [(120, 0)] S S1 ∧ frm [194, 195] [129] [(129, 100)] R R1)) := by
  have hh := hv
  obtain ⟨k1, k2, k3, k4, k5, k6, k7, k8, k9, k10, k11⟩ := hh
  unfold E_C_broke E_R_broke
  by_cases ok : 1 ≤ x1 ∧ x1 ≤ S.1 3 0 ∧ S.1 5 x1.toNat = -1
  · have ir := x_isRec1 (e := e) (N := N) hG ok
    obtain ⟨o1, o2, o3⟩ := ok
    obtain ⟨r, hrr⟩ : ∃ r : Nat, x1 = r := ⟨x1.toNat, by omega⟩
    subst hrr
    rw [show ((r : Int)).toNat = r by omega] at o3 ⊢
    obtain ⟨v, D, v1, v2, v3, _, hD⟩ := x_today (e := e) (N := N) (by omega) hv hd (show 1 ≤ r by omega) (by omega)
    rw [v2]
    have tk := x_tkv (e := e) hN hv hw (show v < 400 by omega) hD
    have hDD := hD
    obtain ⟨D1, D2, D3, D4, D5, D6, p, D7, D8, D9, D10, D11⟩ := hDD
    obtain ⟨nc, c1, c2, c3, c4⟩ := hC
    have ww := hw.w
    refine ok_e (by omega) (ok_e (by omega) (ok_ib (by omega) (ok_e (fun w => w o3) ?_)))
    have cp := x_copyTo (e := e) (N := N) (t2 := S.1 2) (top := top) (by omega) (show v < 400 by omega) D3 D4 D1 D6
    -- what the reference does, for every class state with the draft
    have key : ∀ T, frm [121, 122, 123, 124, 125, 126, 127] [120] [(120, 0)] S T → Dr T (S.1 2) top D → ∃ y, El_C_broke e N N 0 [x2, 0, 0] [] T = some (y, T) ∧ Ok ((E_R_isRecord e N (r : Int) R).bind (fun q1817 => (if q1817.1 ≠ 0 then ((E_R_versionOn e N (r : Int) (q1817.2.1 129 12) q1817.2).bind (fun q1818 => ((E_R_takeVersion e N q1818.1 q1818.2).bind (fun q1819 => ((E_R_firstBroken e N (q1819.2.1 129 100) x2 (q1819.2.2.1 3) q1819.2).bind (fun q1820 => some (q1820.1, q1820.2))))))) else some ((-1), q1817.2)))) (fun y' R1 => y' = y ∧ frm [194, 195] [129] [(129, 100)] R R1) := by
      intro T f1 f2
      obtain ⟨_, R1, e1, q1, q2, q3⟩ := tk
      have fR : frm [194, 195] [129] [(129, 100)] R R1 := q1.wide (fun b h => by
        simp only [List.contains_cons, List.contains_nil, Bool.or_false, beq_eq_false_iff_ne, ne_eq, Bool.or_eq_false_iff] at h ⊢
        omega) (fun b h => h) (fun b j h => h)
      have c191 : R1.1 191 = R.1 191 := fR.2.1 191 rfl rfl
      obtain ⟨y, y1, y2⟩ := l_brk (e := e) (N := N) (a1 := R.2.1 3) (m := 20000) (n := nc) (T := T) (R := R1) (top := top) (x2 := x2) (t2 := S.1 2) (D := D) (by omega) (by omega) (by rw [len_cg q1.1]; exact hw.len ww) (by decide) htop c1 (by rw [f1.2.1 35 rfl rfl]; exact c2) (by rw [fR.2.2 129 93 rfl rfl]; exact c3) (fun i hi => by
        obtain ⟨a1, a2, _, _, a3, a4, a5⟩ := c4 i hi
        rw [c191, f1.2.1 32 rfl rfl]
        exact ⟨a1, a2, a3, a4, fun w => ⟨(a5 w).1, (a5 w).2.1⟩⟩) f2 q3 (by omega) (by omega) (fun f hf => by
        obtain ⟨F, hF, rfl⟩ := mem_of_get hf
        exact ⟨D5 _ hf, by have := D4 F hF; omega⟩) nc 0 0 N N (by omega) (by omega) (by omega) (by omega)
      refine ⟨y, y1, ?_⟩
      refine ok_b (ok_of ir ?_)
      dsimp only
      refine ok_t (by decide) (ok_b (ok_of v3 (ok_b (ok_of e1 ?_))))
      dsimp only
      rw [q1.1, q2]
      unfold E_R_firstBroken
      exact ok_b (ok_of y2 (ok_s ⟨rfl, fR⟩))
    by_cases a1 : 0 ≤ x2
    · refine ok_t a1 (ok_b (cp.mono ?_))
      intro _ T ⟨f1, f2, _⟩
      obtain ⟨y, y1, y2⟩ := key T f1 f2
      exact ok_of y1 (y2.mono (fun y' R1 q => ⟨q.1, f1, q.2⟩))
    · obtain ⟨_, T, _, f1, f2, _⟩ := cp
      obtain ⟨y, y1, y2⟩ := key T f1 f2
      have ym : y = -1 := by
        have : ∀ (k i c nf : Nat) (y : Int), i + k = nc → k < nf → El_C_broke e N nf 0 [x2, (c : Int), (i : Int)] [] T = some (y, T) → y = -1 := by
          intro k
          induction k with
          | zero =>
            intro i c nf y h1 h2 h3
            obtain ⟨nf, rfl⟩ : ∃ m, nf = m + 1 := ⟨nf - 1, by omega⟩
            rw [El_C_broke, f1.2.1 35 rfl rfl, c2, if_pos (by omega)] at h3
            cases h3
            rfl
          | succ k ih =>
            intro i c nf y h1 h2 h3
            obtain ⟨nf, rfl⟩ : ∃ m, nf = m + 1 := ⟨nf - 1, by omega⟩
            obtain ⟨a1, a2, _, _, a3, a4, a5⟩ := c4 i (by omega)
            have t32 : T.1 32 = S.1 32 := f1.2.1 32 rfl rfl
            have xa := x_isBroken (e := e) (N := N) (T := T) (l := i) (top := top) (t2 := S.1 2) (D := D) (by omega) (by omega) htop (by rw [t32]; exact ⟨a3, a4⟩) f2 (by omega) (fun f hf => by
              obtain ⟨F, hF, rfl⟩ := mem_of_get hf
              exact ⟨D5 _ hf, by have := D4 F hF; omega⟩)
            rw [El_C_broke, f1.2.1 35 rfl rfl, c2, if_neg (by omega), xa, Option.bind_some] at h3
            dsimp only at h3
            split at h3
            · split at h3
              · rw [show (i : Int) + 1 = ((i + 1 : Nat) : Int) by omega] at h3
                exact ih (i + 1) c nf y (by omega) (by omega) h3
              · cases h3
            · split at h3
              · split at h3
                · split at h3
                  · rw [show (i : Int) + 1 = ((i + 1 : Nat) : Int) by omega, show (c : Int) + 1 = ((c + 1 : Nat) : Int) by omega] at h3
                    exact ih (i + 1) (c + 1) nf y (by omega) (by omega) h3
                  · cases h3
                · cases h3
              · omega
        exact this nc 0 0 N y (by omega) (by omega) y1
      subst ym
      exact ok_e a1 (ok_s (y2.mono (fun y' R1 q => ⟨q.1, frm.refl _ _ _ _, q.2⟩)))
  · have ir := x_isRec0 (e := e) (N := N) hG ok
    have fin : Ok ((E_R_isRecord e N x1 R).bind (fun q1817 => (if q1817.1 ≠ 0 then ((E_R_versionOn e N x1 (q1817.2.1 129 12) q1817.2).bind (fun q1818 => ((E_R_takeVersion e N q1818.1 q1818.2).bind (fun q1819 => ((E_R_firstBroken e N (q1819.2.1 129 100) x2 (q1819.2.2.1 3) q1819.2).bind (fun q1820 => some (q1820.1, q1820.2))))))) else some ((-1), q1817.2)))) (fun y' R1 => y' = -1 ∧ frm [121, 122, 123, 124, 125, 126, 127] [120] [(120, 0)] S S ∧ frm [194, 195] [129] [(129, 100)] R R1) := by
      refine ok_b (ok_of ir (ok_e (fun w => w rfl) (ok_s ⟨rfl, frm.refl _ _ _ _, frm.refl _ _ _ _⟩)))
    by_cases a1 : x1 < 1
    · exact ok_t a1 (ok_s fin)
    · refine ok_e a1 ?_
      by_cases a2 : S.1 3 0 < x1
      · exact ok_t a2 (ok_s fin)
      · refine ok_e a2 (ok_ib (by omega) ?_)
        exact ok_t (fun w => ok ⟨by omega, by omega, w⟩) (ok_s fin)
end
section
-- eb
theorem ok_sw {A B : e_R} {Q : Int → w_S → Int → w_S → Prop} (h : Ok B (fun y' R1 => Ok A (fun y S1 => Q y S1 y' R1))) : Ok A (fun y S1 => Ok B (fun y' R1 => Q y S1 y' R1)) := by
  obtain ⟨y', R1, h1, y, S1, h2, h3⟩ := h
  exact ⟨y, S1, h2, y', R1, h1, h3⟩
theorem two2_93 (S : w_S) : e_two Tc S 2 93 = some (10240, 37200) := rfl
theorem l_pk0 {e : w_E} {N : Nat} {S : w_S} {x2 : Int} {P : Int → w_S → Prop} : ∀ (k i nf : Nat) (x3 : Int), i + k = 6 → k < nf → 0 ≤ x3 → x3 + k ≤ 100 → (∀ n', nf ≤ n' + k + 1 → Ok (El_Stores_addPackage e N (n' + 1) 0 [x2, x3 + cnt (fun j => decide (S.1 91 j = 0)) i k, 6] [] S) P) → Ok (El_Stores_addPackage e N nf 0 [x2, x3, (i : Int)] [] S) P
  | _, _, 0, _, _, h, _, _, _ => by omega
  | 0, i, nf + 1, x3, g1, g2, g3, g4, g5 => by
    have := g5 nf (by omega)
    rw [cnt, Int.add_zero, show (6 : Int) = (i : Int) by omega] at this
    exact this
  | k + 1, i, nf + 1, x3, g1, g2, g3, g4, g5 => by
    rw [cnt] at g5
    rw [El_Stores_addPackage, show ((i : Int)).toNat = i by omega]
    refine ok_e (by omega) (ok_ib (by omega) ?_)
    rw [show (i : Int) + 1 = ((i + 1 : Nat) : Int) by omega]
    by_cases c : S.1 91 i = 0
    · refine ok_t c (ok_nb (by omega) (ok_nb (by omega) (l_pk0 k (i + 1) nf (x3 + 1) (by omega) (by omega) (by omega) (by omega) (fun n' h => ?_))))
      have := g5 n' (by omega)
      rw [decide_eq_true c, if_pos rfl] at this
      rw [show x3 + 1 + cnt (fun j => decide (S.1 91 j = 0)) (i + 1) k = x3 + (1 + cnt (fun j => decide (S.1 91 j = 0)) (i + 1) k) by omega]
      exact this
    · refine ok_e c (ok_nb (by omega) (ok_nb (by omega) (l_pk0 k (i + 1) nf (x3 + 0) (by omega) (by omega) (by omega) (by omega) (fun n' h => ?_))))
      have := g5 n' (by omega)
      rw [decide_eq_false c, if_neg (by decide)] at this
      rw [show x3 + 0 + cnt (fun j => decide (S.1 91 j = 0)) (i + 1) k = x3 + (0 + cnt (fun j => decide (S.1 91 j = 0)) (i + 1) k) by omega]
      exact this
theorem l_rk0 {e : w_E} {N : Nat} {S R : w_S} {P : Int → w_S → Prop} (h : ∀ s : Nat, s < 6 → (S.1 91 s = 0 ∨ S.1 91 s = 1) ∧ R.1 229 s = 1 - S.1 91 s) : ∀ (k i nf : Nat) (x3 : Int), i + k = 6 → k < nf → 0 ≤ x3 → x3 + k ≤ 100 → (∀ n', nf ≤ n' + k + 1 → Ok (El_R_doPack e N (n' + 1) 0 [x3 + cnt (fun j => decide (S.1 91 j = 0)) i k, 6] [] R) P) → Ok (El_R_doPack e N nf 0 [x3, (i : Int)] [] R) P
  | _, _, 0, _, _, h, _, _, _ => by omega
  | 0, i, nf + 1, x3, g1, g2, g3, g4, g5 => by
    have := g5 nf (by omega)
    rw [cnt, Int.add_zero, show (6 : Int) = (i : Int) by omega] at this
    exact this
  | k + 1, i, nf + 1, x3, g1, g2, g3, g4, g5 => by
    rw [cnt] at g5
    obtain ⟨h1, h2⟩ := h i (by omega)
    rw [El_R_doPack, show ((i : Int)).toNat = i by omega]
    refine ok_e (by omega) (ok_ib (by omega) ?_)
    rw [show (i : Int) + 1 = ((i + 1 : Nat) : Int) by omega]
    by_cases c : S.1 91 i = 0
    · refine ok_e (by omega) (ok_nb (by omega) (ok_nb (by omega) (l_rk0 h k (i + 1) nf (x3 + 1) (by omega) (by omega) (by omega) (by omega) (fun n' h => ?_))))
      have := g5 n' (by omega)
      rw [decide_eq_true c, if_pos rfl] at this
      rw [show x3 + 1 + cnt (fun j => decide (S.1 91 j = 0)) (i + 1) k = x3 + (1 + cnt (fun j => decide (S.1 91 j = 0)) (i + 1) k) by omega]
      exact this
    · refine ok_t (by omega) (ok_nb (by omega) (ok_nb (by omega) (l_rk0 h k (i + 1) nf (x3 + 0) (by omega) (by omega) (by omega) (by omega) (fun n' h => ?_))))
      have := g5 n' (by omega)
      rw [decide_eq_false c, if_neg (by decide)] at this
      rw [show x3 + 0 + cnt (fun j => decide (S.1 91 j = 0)) (i + 1) k = x3 + (0 + cnt (fun j => decide (S.1 91 j = 0)) (i + 1) k) by omega]
      exact this
theorem l_pk1 {e : w_E} {N p : Nat} {x2 : Int} {P : Int → w_S → Prop} (hp : p ≤ 30) : ∀ (k i nf : Nat) (S : w_S), i + k = 6 → k < nf → S.1 89 0 = p → (∀ S1 n', nf ≤ n' + k + 1 → frm [92] [] [] S S1 → (∀ u, S1.1 92 u = if 6 * p + i ≤ u ∧ u < 6 * p + 6 then 0 else S.1 92 u) → Ok (El_Stores_addPackage e N n' 2 [x2, 0] [] S1) P) → Ok (El_Stores_addPackage e N nf 1 [x2, (i : Int)] [] S) P
  | _, _, 0, _, _, h, _, _ => by omega
  | 0, i, nf + 1, S, g1, g2, g3, g4 => by
    rw [El_Stores_addPackage]
    exact ok_t (by omega) (g4 S nf (by omega) (frm.refl _ _ _ _) (fun u => by rw [if_neg (by omega)]))
  | k + 1, i, nf + 1, S, g1, g2, g3, g4 => by
    rw [El_Stores_addPackage, g3, show ((p : Int) * 6 + i).toNat = 6 * p + i by omega]
    refine ok_e (by omega) (ok_nb (by omega) (ok_nb (by omega) (ok_ib (by omega) (ok_nb (by omega) ?_))))
    rw [show (i : Int) + 1 = ((i + 1 : Nat) : Int) by omega]
    have f1 : frm [92] [] [] S (w_put S 92 (6 * p + i) 0) := by repeat (first | exact frm.refl _ _ _ _ | refine frm.put ?_ rfl | refine frm.puto ?_ rfl rfl)
    refine l_pk1 hp k (i + 1) nf _ (by omega) (by omega) (by simp only [w_put_r, reduceIte, Nat.reduceEqDiff, pt_at]; exact g3) (fun S1 n' h1 h2 h3 => g4 S1 n' (by omega) (f1.trans h2) (fun u => ?_))
    rw [h3]
    simp only [w_put_r, reduceIte, Nat.reduceEqDiff, pt_at]
    by_cases c : u = 6 * p + i
    · rw [if_neg (by omega), if_pos c, if_pos (by omega)]
    · by_cases c2 : 6 * p + (i + 1) ≤ u ∧ u < 6 * p + 6
      · rw [if_pos c2, if_pos (by omega)]
      · rw [if_neg c2, if_neg c, if_neg (by omega)]
theorem l_rk1 {e : w_E} {N p : Nat} {P : Int → w_S → Prop} (hp : p ≤ 30) : ∀ (k i nf : Nat) (S : w_S), i + k = 6 → k < nf → S.1 129 148 = p → (∀ S1 n', nf ≤ n' + k + 1 → frm [230] [] [] S S1 → (∀ u, S1.1 230 u = if 6 * p + i ≤ u ∧ u < 6 * p + 6 then 0 else S.1 230 u) → Ok (El_R_doPack e N n' 2 [0] [] S1) P) → Ok (El_R_doPack e N nf 1 [(i : Int)] [] S) P
  | _, _, 0, _, _, h, _, _ => by omega
  | 0, i, nf + 1, S, g1, g2, g3, g4 => by
    rw [El_R_doPack]
    exact ok_t (by omega) (g4 S nf (by omega) (frm.refl _ _ _ _) (fun u => by rw [if_neg (by omega)]))
  | k + 1, i, nf + 1, S, g1, g2, g3, g4 => by
    rw [El_R_doPack, g3, show (6 * (p : Int) + i).toNat = 6 * p + i by omega]
    refine ok_e (by omega) (ok_nb (by omega) (ok_nb (by omega) (ok_ib (by omega) (ok_nb (by omega) ?_))))
    rw [show (i : Int) + 1 = ((i + 1 : Nat) : Int) by omega]
    have f1 : frm [230] [] [] S (w_put S 230 (6 * p + i) 0) := by repeat (first | exact frm.refl _ _ _ _ | refine frm.put ?_ rfl | refine frm.puto ?_ rfl rfl)
    refine l_rk1 hp k (i + 1) nf _ (by omega) (by omega) (by simp only [w_put_r, reduceIte, Nat.reduceEqDiff, pt_at]; exact g3) (fun S1 n' h1 h2 h3 => g4 S1 n' (by omega) (f1.trans h2) (fun u => ?_))
    rw [h3]
    simp only [w_put_r, reduceIte, Nat.reduceEqDiff, pt_at]
    by_cases c : u = 6 * p + i
    · rw [if_neg (by omega), if_pos c, if_pos (by omega)]
    · by_cases c2 : 6 * p + (i + 1) ≤ u ∧ u < 6 * p + 6
      · rw [if_pos c2, if_pos (by omega)]
      · rw [if_neg c2, if_neg c, if_neg (by omega)]
theorem l_rk3 {e : w_E} {N p v : Nat} {len t : Int} {P : Int → w_S → Prop} (hp : p ≤ 30) (hv : v < 6) (hl : len ≤ 200) (ht : 0 ≤ t ∧ t ≤ 100) : ∀ (k i nf : Nat) (S : w_S), (i : Int) + k = len → k < nf → S.1 129 148 = p → S.1 129 2 = len → (∀ S1 n', nf ≤ n' + k + 1 → frm [231] [] [] S S1 → (∀ u, S1.1 231 u = if 200 * (6 * p + v) + i ≤ u ∧ (u : Int) < 200 * (6 * p + v : Nat) + len then w_b (S.1 130 (u - 200 * (6 * p + v))) else S.1 231 u) → Ok (El_R_doPack e N n' 2 [t + 1] [] S1) P) → Ok (El_R_doPack e N nf 3 [t, (v : Int), (i : Int)] [] S) P
  | _, _, 0, _, _, h, _, _, _ => by omega
  | 0, i, nf + 1, S, g1, g2, g3, g4, g5 => by
    rw [El_R_doPack, g4]
    exact ok_t (by omega) (ok_nb (by omega) (g5 S nf (by omega) (frm.refl _ _ _ _) (fun u => by rw [if_neg (by omega)])))
  | k + 1, i, nf + 1, S, g1, g2, g3, g4, g5 => by
    rw [El_R_doPack, g3, g4, show (200 * (6 * (p : Int) + v) + i).toNat = 200 * (6 * p + v) + i by omega, show ((i : Int)).toNat = i by omega]
    refine ok_e (by omega) (ok_nb (by omega) (ok_nb (by omega) (ok_nb (by omega) (ok_nb (by omega) (ok_ib (by omega) (ok_ib (by omega) (ok_nb (by omega) ?_)))))))
    rw [show (i : Int) + 1 = ((i + 1 : Nat) : Int) by omega]
    have f1 : frm [231] [] [] S (w_put S 231 (200 * (6 * p + v) + i) (w_b (S.1 130 i))) := by repeat (first | exact frm.refl _ _ _ _ | refine frm.put ?_ rfl | refine frm.puto ?_ rfl rfl)
    refine l_rk3 hp hv hl ht k (i + 1) nf _ (by omega) (by omega) (by simp only [w_put_r, reduceIte, Nat.reduceEqDiff, pt_at]; exact g3) (by simp only [w_put_r, reduceIte, Nat.reduceEqDiff, pt_at]; exact g4) (fun S1 n' h1 h2 h3 => g5 S1 n' (by omega) (f1.trans h2) (fun u => ?_))
    rw [h3]
    simp only [w_put_r, reduceIte, Nat.reduceEqDiff, pt_at]
    by_cases c : u = 200 * (6 * p + v) + i
    · rw [if_neg (by omega), if_pos c, if_pos (by omega), show u - 200 * (6 * p + v) = i by omega]
    · by_cases c2 : 200 * (6 * p + v) + (i + 1) ≤ u ∧ (u : Int) < 200 * (6 * p + v : Nat) + len
      · rw [if_pos c2, if_pos (by omega)]
      · rw [if_neg c2, if_neg c, if_neg (by omega)]
/-- a package comes to a store more -/
theorem q_pk {S R S1 R1 : w_S} {p v : Nat} {f len : Int} (h : RelS S R) (hp : 1 ≤ p) (hp2 : (p : Int) = S.1 89 0) (hv : v < 6) (hl : S.1 90 p = len) (c89 : S1.1 89 0 = S.1 89 0) (c90 : S1.1 90 = S.1 90) (c91 : S1.1 91 = S.1 91) (c92 : S1.1 92 = pt (S.1 92) (6 * p + v) 1) (c93 : ∀ u, S1.1 93 u = if 200 * (6 * p + v) ≤ u ∧ (u : Int) < 200 * (6 * p + v : Nat) + len then S.1 2 (f.toNat + (u - 200 * (6 * p + v))) else S.1 93 u) (d148 : R1.1 129 148 = R.1 129 148) (d228 : R1.1 228 = R.1 228) (d229 : R1.1 229 = R.1 229) (d230 : R1.1 230 = pt (R.1 230) (6 * p + v) 1) (d231 : ∀ u, R1.1 231 u = if 200 * (6 * p + v) ≤ u ∧ (u : Int) < 200 * (6 * p + v : Nat) + len then w_b (R.1 130 (u - 200 * (6 * p + v))) else R.1 231 u) (hB : TB S R f len) : RelS S1 R1 := by
  obtain ⟨h1, h2, h3, h4, h5⟩ := h
  have hp200 := (h5 p hp (by omega)).2.2.1
  refine ⟨by rw [d148, c89]; exact h1, by rw [c89]; exact h2, by rw [c89]; exact h3, by rw [c91, d229]; exact h4, fun q q1 q2 => ?_⟩
  rw [c89] at q2
  obtain ⟨y1, y2, y3, y4⟩ := h5 q q1 q2
  rw [c90, d228, c92, d230]
  refine ⟨y1, y2, y3, fun s hs => ?_⟩
  obtain ⟨z1, z2, z3⟩ := y4 s hs
  simp only [pt_at]
  by_cases c : 6 * q + s = 6 * p + v
  · have eq1 : q = p := by omega
    have es : s = v := by omega
    subst eq1 es
    simp only [if_pos]
    refine ⟨Or.inr trivial, trivial, fun _ i hi => ?_⟩
    have hb := hB i (by omega)
    rw [c93, d231, if_pos (by omega), if_pos (by omega), show 200 * (6 * q + s) + i - 200 * (6 * q + s) = i by omega, w_b_id hb.2.1 hb.2.2, hb.1]
    refine ⟨rfl, ?_, ?_⟩
    · rw [← hb.1]; exact hb.2.1
    · rw [← hb.1]; exact hb.2.2
  · simp only [if_neg c]
    refine ⟨z1, z2, fun w i hi => ?_⟩
    have w2 := z3 w i hi
    rw [c93, d231, if_neg (by omega), if_neg (by omega)]
    exact w2
theorem cnt_mono {P Q : Nat → Bool} : ∀ (n c : Nat), (∀ k, c ≤ k → k < c + n → P k = true → Q k = true) → cnt P c n ≤ cnt Q c n
  | 0, _, _ => by rw [cnt, cnt]; omega
  | n + 1, c, h => by
    have ih := cnt_mono n (c + 1) (fun k a b => h k (by omega) (by omega))
    have h0 := h c (by omega) (by omega)
    rw [cnt, cnt]
    cases hp : P c with
    | false => rw [if_neg (by decide)]; split <;> omega
    | true => rw [h0 hp, if_pos rfl]; omega
theorem t_pk2 {e : w_E} {N p : Nat} {f len : Int} (hN : 1000 ≤ N) (hp : 1 ≤ p) (hp3 : p ≤ 30) (hf : 0 ≤ f) (hfl : f + len ≤ 10240) (hl : 1 ≤ len ∧ len ≤ 200) : ∀ (k t nf nr : Nat) (S R : w_S), t + k = 3 → k < nf → 202 * k < nr → RelS S R → (p : Int) = S.1 89 0 → S.1 90 p = len → S.1 1 3 = f → R.1 129 2 = len → TB S R f len → cnt (fun j => !decide (S.1 92 (6 * p + j) = 0)) 0 6 = t → 3 ≤ cnt (fun j => decide (S.1 91 j = 0)) 0 6 → Ok (El_Stores_addPackage e N nf 2 [len, (t : Int)] [] S) (fun y S1 => Ok (El_R_doPack e N nr 2 [(t : Int)] [] R) (fun y' R1 => y' = y ∧ y = (p : Int) ∧ frm [92, 93] [] [] S S1 ∧ frm [230, 231] [] [] R R1 ∧ RelS S1 R1))
  | _, _, 0, _, _, _, _, h, _, _, _, _, _, _, _, _, _ => by omega
  | _, _, _ + 1, 0, _, _, _, _, h, _, _, _, _, _, _, _, _ => by omega
  | 0, t, nf + 1, nr + 1, S, R, g1, g2, g3, g4, g5, g6, g7, g8, g9, g10, g11 => by
    rw [El_Stores_addPackage, El_R_doPack]
    exact ok_t (by omega) (ok_s (ok_t (by omega) (ok_s ⟨by rw [g4.1], by omega, frm.refl _ _ _ _, frm.refl _ _ _ _, g4⟩)))
  | k + 1, t, nf + 1, nr + 1, S, R, g1, g2, g3, g4, g5, g6, g7, g8, g9, g10, g11 => by
    obtain ⟨v0, x1, x2, x3⟩ := x_store (e := e) (N := N) (p := p) hN g4 hp (by omega)
    have hv : 0 ≤ v0 ∧ v0 < 6 ∧ S.1 91 v0.toNat = 0 ∧ S.1 92 (6 * p + v0.toNat) = 0 := by
      rcases x3 with ⟨_, w⟩ | w
      · exfalso
        have := cnt_mono (P := fun j => decide (S.1 91 j = 0)) (Q := fun j => !decide (S.1 92 (6 * p + j) = 0)) 6 0 (fun s _ hs hq => by
          have := w s (by omega)
          simp only [decide_eq_true_eq] at hq
          simp only [Bool.not_eq_true', decide_eq_false_iff_not]
          exact fun z => this ⟨hq, z⟩)
        omega
      · exact w
    clear x3
    obtain ⟨v, hvv⟩ : ∃ v : Nat, v0 = v := ⟨v0.toNat, by omega⟩
    subst hvv
    rw [show ((v : Int)).toNat = v by omega] at hv
    obtain ⟨hv1, hv2, hv3, hv4⟩ := hv
    have r148 : R.1 129 148 = p := by rw [g4.1]; omega
    rw [El_Stores_addPackage, El_R_doPack, r148, ← g5]
    refine ok_e (by omega) (ok_b (ok_of x1 ?_))
    dsimp only
    rw [← g5, g7, show ((p : Int) * 6 + (v : Int)).toNat = 6 * p + v by omega, show (((p : Int) * 6 + (v : Int)) * 200).toNat = 200 * (6 * p + v) by omega, w_cpy_arr]
    refine ok_e (by omega) (ok_nb (by omega) (ok_nb (by omega) (ok_nb (by omega) (ok_t rfl (ok_two (two2_93 _) ?_)))))
    with_reducible refine ok_t (by omega) ?_
    with_reducible refine ok_t (by omega) ?_
    with_reducible refine ok_t (by omega) ?_
    refine ok_t (by show f + len ≤ (10240 : Int); omega) ?_
    refine ok_t (by show ((p : Int) * 6 + (v : Int)) * 200 + len ≤ (37200 : Int); omega) (ok_ib (by omega) (ok_nb (by omega) ?_))
    generalize hS2 : w_put (w_arr S 93 (fun j => if 200 * (6 * p + v) ≤ j ∧ j < 200 * (6 * p + v) + len.toNat then S.1 2 (f.toNat + (j - 200 * (6 * p + v))) else S.1 93 j)) 92 (6 * p + v) 1 = S2
    have fS : frm [92, 93] [] [] S S2 := by
      rw [← hS2]
      repeat (first | exact frm.refl _ _ _ _ | refine frm.put ?_ rfl | refine frm.puto ?_ rfl rfl | refine frm.arr ?_ rfl)
    have s92 : S2.1 92 = pt (S.1 92) (6 * p + v) 1 := by
      rw [← hS2]
      funext u
      simp only [w_put_r, w_arr_r, reduceIte, Nat.reduceEqDiff, pt_at]
    have s93 : ∀ u, S2.1 93 u = if 200 * (6 * p + v) ≤ u ∧ (u : Int) < 200 * (6 * p + v : Nat) + len then S.1 2 (f.toNat + (u - 200 * (6 * p + v))) else S.1 93 u := fun u => by
      rw [← hS2]
      simp only [w_put_r, w_arr_r, reduceIte, Nat.reduceEqDiff, pt_at]
      by_cases c : 200 * (6 * p + v) ≤ u ∧ (u : Int) < 200 * (6 * p + v : Nat) + len
      · rw [if_pos c, if_pos (by omega)]
      · rw [if_neg c, if_neg (by omega)]
    clear hS2
    -- the reference's turn
    have turn : ∀ {P : Int → w_S → Prop}, (∀ R2 n', nr ≤ n' + 201 → frm [230, 231] [] [] R R2 → RelS S2 R2 → Ok (El_R_doPack e N n' 2 [(t : Int) + 1] [] R2) P) → Ok (if (3 : Int) ≤ (t : Int) then some ((p : Int), R) else ((E_R_storeFor e N (p : Int) R).bind (fun q845 => (if w_nb (6 * (q845.2.1 129 148)) = true then (if w_nb ((6 * (q845.2.1 129 148)) + q845.1) = true then (if w_ib ((6 * (q845.2.1 129 148)) + q845.1) 186 = true then El_R_doPack e N nr 3 [(t : Int), q845.1, 0] [] (w_put q845.2 230 (((6 * (q845.2.1 129 148)) + q845.1).toNat) 1) else none) else none) else none)))) P := by
      intro P hP
      refine ok_e (by omega) (ok_b (ok_of x2 ?_))
      dsimp only
      rw [r148, show (6 * (p : Int) + (v : Int)).toNat = 6 * p + v by omega]
      refine ok_nb (by omega) (ok_nb (by omega) (ok_ib (by omega) ?_))
      have f1 : frm [230, 231] [] [] R (w_put R 230 (6 * p + v) 1) := by repeat (first | exact frm.refl _ _ _ _ | refine frm.put ?_ rfl | refine frm.puto ?_ rfl rfl)
      refine l_rk3 (e := e) (N := N) (p := p) (v := v) (len := len) (t := (t : Int)) hp3 (by omega) hl.2 (by omega) len.toNat 0 nr _ (by omega) (by omega) (by simp only [w_put_r, reduceIte, Nat.reduceEqDiff, pt_at]; exact r148) (by simp only [w_put_r, reduceIte, Nat.reduceEqDiff, pt_at]; exact g8) (fun R2 n' h1 h2 h3 => ?_)
      have fR : frm [230, 231] [] [] R R2 := f1.trans (h2.wide (fun b h => by
        simp only [List.contains_cons, List.contains_nil, Bool.or_false, beq_eq_false_iff_ne, ne_eq, Bool.or_eq_false_iff] at h ⊢
        exact h.2) (fun b h => rfl) (fun b j h => rfl))
      refine hP R2 n' (by omega) fR ?_
      refine q_pk (f := f) (len := len) g4 hp g5 (by omega) g6 (by rw [fS.2.1 89 rfl rfl]) (fS.2.1 90 rfl rfl) (fS.2.1 91 rfl rfl) s92 s93 (by rw [fR.2.1 129 rfl rfl]) (fR.2.1 228 rfl rfl) (fR.2.1 229 rfl rfl) ?_ (fun u => ?_) g9
      · rw [h2.2.1 230 rfl rfl]
        funext u
        simp only [w_put_r, reduceIte, Nat.reduceEqDiff, pt_at]
      · rw [h3]
        simp only [w_put_r, reduceIte, Nat.reduceEqDiff, pt_at]
        rw [Nat.add_zero]
    have c1 : cnt (fun j => !decide (S2.1 92 (6 * p + j) = 0)) 0 6 = cnt (fun j => !decide (S.1 92 (6 * p + j) = 0)) 0 6 + 1 := by
      refine cnt_drop (a := v) (by omega) (by omega) ?_ ?_ (fun j hj => ?_)
      · rw [s92, pt_at, if_pos rfl]
        rfl
      · rw [hv4]
        rfl
      · rw [s92, pt_at, if_neg (by omega)]
    -- both go on
    have both : ∀ R2 n', nr ≤ n' + 201 → frm [230, 231] [] [] R R2 → RelS S2 R2 → Ok (El_Stores_addPackage e N nf 2 [len, (t : Int) + 1] [] S2) (fun y S1 => Ok (El_R_doPack e N n' 2 [(t : Int) + 1] [] R2) (fun y' R1 => y' = y ∧ y = (p : Int) ∧ frm [92, 93] [] [] S2 S1 ∧ frm [230, 231] [] [] R2 R1 ∧ RelS S1 R1)) := by
      intro R2 n' h1 h2 h3
      have ih := t_pk2 (e := e) (N := N) hN hp hp3 hf hfl hl k (t + 1) nf n' S2 R2 (by omega) (by omega) (by omega) h3 (by rw [fS.2.1 89 rfl rfl]; exact g5) (by rw [fS.2.1 90 rfl rfl]; exact g6) (by rw [fS.2.1 1 rfl rfl]; exact g7) (by rw [h2.2.1 129 rfl rfl]; exact g8) (fun q hq => by rw [h2.2.1 130 rfl rfl, fS.2.1 2 rfl rfl]; exact g9 q hq) (by rw [c1, g10]; omega) (by rw [fS.2.1 91 rfl rfl]; exact g11)
      rw [show (t : Int) + 1 = ((t + 1 : Nat) : Int) by omega]
      exact ih
    refine ok_sw (turn (fun R2 n' h1 h2 h3 => ok_sw ((both R2 n' h1 h2 h3).mono (fun y S1 q => q.mono (fun y' R1 w => ?_)))))
    exact ⟨w.1, w.2.1, fS.trans w.2.2.1, h2.trans w.2.2.2.1, w.2.2.2.2⟩
/-- a package is stored -/
theorem t_pack {e : w_E} {N : Nat} {S R : w_S} {f len : Int} {G : Int → Int} (hN : 1000 ≤ N) (h : TX S f len G) (hr : TR R len G) (hB : TB S R f len) (hS : RelS S R) : Ok (E_Stores_addPackage e N S) (fun y S1 => Ok (E_R_doPack e N R) (fun y' R1 => Pa S R (fun _ => Qs S R) y S1 y' R1)) := by
  obtain ⟨t1, t2, t3, t4, t5, t6, _⟩ := h
  obtain ⟨r1, _⟩ := hr
  have hSS := hS
  obtain ⟨h1, h2, h3, h4, h5⟩ := hSS
  unfold E_Stores_addPackage E_R_doPack
  rw [t1, t2, r1, show f + len - f = len by omega]
  refine ok_nb (by omega) ?_
  by_cases c1 : len < 1
  · exact ok_t c1 (ok_s (ok_t c1 (ok_s ⟨rfl, Or.inl ⟨by decide, rfl, rfl⟩⟩)))
  refine ok_e c1 ?_
  rw [if_neg c1]
  by_cases c2 : len ≤ 200
  rotate_left
  · exact ok_e c2 (ok_s (ok_t (by omega) (ok_s ⟨rfl, Or.inl ⟨by decide, rfl, rfl⟩⟩)))
  refine ok_t c2 ?_
  rw [if_neg (show ¬ 200 < len by omega)]
  have cb := cnt_le (fun j => decide (S.1 91 j = 0)) 6 0
  refine ok_sw (l_rk0 (S := S) h4 6 0 N 0 (by omega) (by omega) (by omega) (by omega) (fun n' hn' => ok_sw (l_pk0 6 0 N 0 (by omega) (by omega) (by omega) (by omega) (fun n'' hn'' => ?_))))
  rw [Int.zero_add, El_Stores_addPackage, El_R_doPack, h1]
  refine ok_t (by omega) ?_
  rw [if_pos (show (6 : Int) ≤ 6 by omega)]
  by_cases c3 : 3 ≤ cnt (fun j => decide (S.1 91 j = 0)) 0 6
  rotate_left
  · exact ok_e c3 (ok_s (ok_e c3 (ok_s ⟨rfl, Or.inl ⟨by decide, rfl, rfl⟩⟩)))
  refine ok_t c3 ?_
  rw [if_pos c3]
  by_cases c4 : S.1 89 0 < 30
  rotate_left
  · exact ok_e c4 (ok_s (ok_e (fun w => w (by omega)) (ok_s ⟨rfl, Or.inl ⟨by decide, rfl, rfl⟩⟩)))
  obtain ⟨m, hm⟩ : ∃ m : Nat, S.1 89 0 = m := ⟨(S.1 89 0).toNat, by omega⟩
  rw [hm, show ((m : Int) + 1).toNat = m + 1 by omega]
  refine ok_t (by omega) (ok_nb (by omega) (ok_ib (by omega) ?_))
  rw [if_pos (show (m : Int) ≠ 30 by omega), if_pos (show w_nb ((m : Int) + 1) = true by rw [w_nbE]; omega), if_pos (show w_ib ((m : Int) + 1) 31 = true by rw [w_ibE]; omega)]
  generalize hSa : w_put (w_put S 89 0 ((m : Int) + 1)) 90 (m + 1) len = Sa
  generalize hRa : w_put (w_put R 129 148 ((m : Int) + 1)) 228 (m + 1) (R.1 129 2) = Ra
  have fS : frm SC [89] SJ S Sa := by
    rw [← hSa]
    repeat (first | exact frm.refl _ _ _ _ | refine frm.put ?_ rfl | refine frm.puto ?_ rfl rfl)
  have fR : frm SCr [129] SJr R Ra := by
    rw [← hRa]
    repeat (first | exact frm.refl _ _ _ _ | refine frm.put ?_ rfl | refine frm.puto ?_ rfl rfl)
  have sa0 : Sa.1 89 0 = ((m + 1 : Nat) : Int) := by
    rw [← hSa]
    simp only [w_put_r, reduceIte, Nat.reduceEqDiff, pt_at]
    omega
  have ra0 : Ra.1 129 148 = ((m + 1 : Nat) : Int) := by
    rw [← hRa]
    simp only [w_put_r, reduceIte, Nat.reduceEqDiff, pt_at]
    omega
  have sa90 : ∀ u, Sa.1 90 u = if u = m + 1 then len else S.1 90 u := fun u => by
    rw [← hSa]
    simp only [w_put_r, reduceIte, Nat.reduceEqDiff, pt_at]
  have ra28 : ∀ u, Ra.1 228 u = if u = m + 1 then len else R.1 228 u := fun u => by
    rw [← hRa, r1]
    simp only [w_put_r, reduceIte, Nat.reduceEqDiff, pt_at]
  have sa91 : Sa.1 91 = S.1 91 := by
    rw [← hSa]
    simp only [w_put_r, reduceIte, Nat.reduceEqDiff, pt_at]
  have sa92 : Sa.1 92 = S.1 92 := by
    rw [← hSa]
    simp only [w_put_r, reduceIte, Nat.reduceEqDiff, pt_at]
  have sa93 : Sa.1 93 = S.1 93 := by
    rw [← hSa]
    simp only [w_put_r, reduceIte, Nat.reduceEqDiff, pt_at]
  have ra29 : Ra.1 229 = R.1 229 := by
    rw [← hRa]
    simp only [w_put_r, reduceIte, Nat.reduceEqDiff, pt_at]
  have ra30 : Ra.1 230 = R.1 230 := by
    rw [← hRa]
    simp only [w_put_r, reduceIte, Nat.reduceEqDiff, pt_at]
  have ra31 : Ra.1 231 = R.1 231 := by
    rw [← hRa]
    simp only [w_put_r, reduceIte, Nat.reduceEqDiff, pt_at]
  clear hSa hRa
  refine ok_sw (l_rk1 (e := e) (N := N) (p := m + 1) (by omega) 6 0 n' Ra (by omega) (by omega) ra0 (fun R1 n1 hn1 q1 q2 => ok_sw (l_pk1 (e := e) (N := N) (p := m + 1) (by omega) 6 0 n'' Sa (by omega) (by omega) sa0 (fun S1 n2 hn2 p1 p2 => ?_))))
  have gS : frm SC [89] SJ S S1 := fS.trans (p1.wide (fun b h => by
    simp at h ⊢
    omega) (fun b h => rfl) (fun b j h => rfl))
  have gR : frm SCr [129] SJr R R1 := fR.trans (q1.wide (fun b h => by
    simp at h ⊢
    omega) (fun b h => rfl) (fun b j h => rfl))
  have s91 : S1.1 91 = S.1 91 := by rw [p1.2.1 91 rfl rfl, sa91]
  have hS1 : RelS S1 R1 := by
    refine ⟨by rw [q1.2.1 129 rfl rfl, p1.2.1 89 rfl rfl, ra0, sa0], by rw [p1.2.1 89 rfl rfl, sa0]; omega, by rw [p1.2.1 89 rfl rfl, sa0]; omega, ?_, fun q q3 q4 => ?_⟩
    · rw [s91, q1.2.1 229 rfl rfl, ra29]
      exact h4
    · rw [p1.2.1 89 rfl rfl, sa0] at q4
      rw [p1.2.1 90 rfl rfl, q1.2.1 228 rfl rfl, sa90, ra28, p1.2.1 93 rfl rfl, q1.2.1 231 rfl rfl, sa93, ra31]
      by_cases c : q = m + 1
      · rw [if_pos c, if_pos c]
        refine ⟨rfl, by omega, c2, fun s hs => ?_⟩
        rw [p2, q2, if_pos (by omega), if_pos (by omega)]
        exact ⟨Or.inl rfl, rfl, fun w => absurd w (by decide)⟩
      · rw [if_neg c, if_neg c]
        obtain ⟨y1, y2, y3, y4⟩ := h5 q q3 (by omega)
        refine ⟨y1, y2, y3, fun s hs => ?_⟩
        rw [p2, q2, if_neg (by omega), if_neg (by omega), sa92, ra30]
        exact y4 s hs
  have key := t_pk2 (e := e) (N := N) (p := m + 1) (f := f) (len := len) hN (by omega) (by omega) t3 t6 ⟨by omega, c2⟩ 3 0 n2 n1 S1 R1 (by omega) (by omega) (by omega) hS1 (by rw [p1.2.1 89 rfl rfl, sa0]) (by rw [p1.2.1 90 rfl rfl, sa90, if_pos rfl]) (by rw [gS.2.1 1 rfl rfl]; exact t1) (by rw [gR.2.2 129 2 rfl rfl]; exact r1) (fun q hq => by rw [gR.2.1 130 rfl rfl, gS.2.1 2 rfl rfl]; exact hB q hq) ?_ (by rw [s91]; exact c3)
  · refine key.mono (fun y S2 q => q.mono (fun y' R2 w => ?_))
    refine ⟨w.1, Or.inr ⟨by have := w.2.1; omega, gS.trans (w.2.2.1.wide (fun b h => by
      simp at h ⊢
      omega) (fun b h => rfl) (fun b j h => rfl)), gR.trans (w.2.2.2.1.wide (fun b h => by
      simp at h ⊢
      omega) (fun b h => rfl) (fun b j h => rfl)), w.2.2.2.2⟩⟩
  · have : cnt (fun j => !decide (S1.1 92 (6 * (m + 1) + j) = 0)) 0 6 = cnt (fun _ => false) 0 6 := cnt_congr 6 0 (fun k a b => by
      rw [p2, if_pos (by omega)]
      rfl)
    rw [this]
    rfl
end
section
-- ec
/-- the row of a field's first subfield a -/
def far (f : Fdl) : Option (List Int) := (fsi 97 f.2.2.2).map (fun k => (f.2.2.2.getD k (0, [])).2)
/-- is there a field with a tag and that row? -/
def fit (t : Int) (r : List Int) : List Fdl → Bool
  | [] => false
  | f :: l => (decide (f.1 = t) && decide (far f = some r)) || fit t r l
/-- the row of a retention line -/
def kpr (R : w_S) (i : Nat) : List Int := (List.range (R.1 197 (3 * i + 2)).toNat).map (fun j => R.1 198 (40 * i + j))
theorem kpr_len (R : w_S) (i : Nat) : (kpr R i).length = (R.1 197 (3 * i + 2)).toNat := by
  unfold kpr
  rw [List.length_map, List.length_range]
theorem kpr_get (R : w_S) {i j : Nat} (h : j < (R.1 197 (3 * i + 2)).toNat) : (kpr R i).getD j 0 = R.1 198 (40 * i + j) := by
  unfold kpr
  rw [List.getD_eq_getElem?_getD, List.getElem?_map, List.getElem?_range h]
  rfl
theorem list_eq {l r : List Int} (h : l.length = r.length) (k : ∀ j, j < l.length → l.getD j 0 = r.getD j 0) : l = r := by
  refine List.ext_getElem h (fun j h1 h2 => ?_)
  have := k j h1
  rw [List.getD_eq_getElem?_getD, List.getD_eq_getElem?_getD, List.getElem?_eq_getElem h1, List.getElem?_eq_getElem h2] at this
  exact this
/-- two rows compared: the same or not -/
theorem x_srow {e : w_E} {N : Nat} {S : w_S} {x y top : Int} {l r : List Int} (hN : 1000 ≤ N) (htop : top ≤ 10240) (hs : ∀ j, -128 ≤ S.1 2 j ∧ S.1 2 j ≤ 127) (hl : l.length < 64) (hr : r.length < 64) (h1 : Rw (S.1 2) top x l.length (fun u => l.getD u 0)) (h2 : Rw (S.1 2) top y r.length (fun u => r.getD u 0)) : ∃ z, E_Tape_compareRows e N x y S = some (z, S) ∧ (z = 0 ↔ l = r) := by
  obtain ⟨a, a1, a2, a3⟩ := h1
  obtain ⟨b, b1, b2, b3⟩ := h2
  refine ⟨_, by rw [a1, b1]; exact x_cmp hN (by omega) (by omega) hl hr hs, ?_⟩
  rw [cmr_zero 64 0 (by omega)]
  constructor
  · rintro ⟨c1, c2⟩
    refine list_eq c1 (fun j hj => ?_)
    exact (a3 j hj).symm.trans ((c2 j (by omega) hj).trans (b3 j (by omega)))
  · intro c
    subst c
    exact ⟨rfl, fun j _ hj => by rw [a3 j hj, b3 j hj]⟩
theorem wid3 : ((pg_sv.getD 0 []).getD 3 0).toInt = 3 := by decide +kernel
theorem l_dtk1 {e : w_E} {N i : Nat} {S : w_S} {top : Int} {P : Int → w_S → Prop} (hN : 1000 ≤ N) (htop : top ≤ 10240) (hs : ∀ j, -128 ≤ S.1 2 j ∧ S.1 2 j ≤ 127) (hi : i < 8) (r : List Int) (hr : r.length ≤ 40) (hk : Rw (S.1 2) top (S.1 33 (3 * i + 2)) r.length (fun u => r.getD u 0)) : ∀ (l : List Fdl) (F nf : Nat), ((F + l.length : Nat) : Int) = S.1 120 0 → F + l.length ≤ 12 → l.length < nf → (∀ j, j < l.length → DrF S (S.1 2) top (F + j) (l.getD j (0, 0, 0, []))) → (∀ f, f ∈ l → vfd f ∧ f.2.2.2.length ≤ 5) → (fit (S.1 33 (3 * i)) r l = true → P (S.1 33 (3 * i + 1)) S) → (fit (S.1 33 (3 * i)) r l = false → ∀ n', nf ≤ n' + l.length + 1 → Ok (El_RuleBook_daysToKeep e N n' 0 [(i : Int) + 1] [] S) P) → Ok (El_RuleBook_daysToKeep e N nf 1 [(i : Int), 3 * (i : Int), (F : Int)] [] S) P
  | _, _, 0, _, _, h, _, _, _, _ => by omega
  | [], F, nf + 1, g1, g2, g3, g4, g5, g6, g7 => by
    rw [List.length_nil] at g1
    rw [El_RuleBook_daysToKeep, ← g1]
    exact ok_t (by omega) (ok_nb (by omega) (g7 rfl nf (by rw [List.length_nil]; omega)))
  | f :: l, F, nf + 1, g1, g2, g3, g4, g5, g6, g7 => by
    rw [List.length_cons] at g1 g2 g3
    have df := g4 0 (by rw [List.length_cons]; omega)
    rw [Nat.add_zero, List.getD_cons_zero] at df
    obtain ⟨fv, f5⟩ := g5 f List.mem_cons_self
    obtain ⟨z, z1, z2⟩ := x_slot2 (e := e) (N := N) (c := 97) hN (show F < 20 by omega) (show f.2.2.2.length ≤ 13 by omega) df
    obtain ⟨m, m1, m2⟩ : ∃ m, 24 ≤ m ∧ e_len Tc S 33 0 = some m := ⟨_, by decide +kernel, rfl⟩
    have nx : fit (S.1 33 (3 * i)) r (f :: l) = fit (S.1 33 (3 * i)) r l → Ok (El_RuleBook_daysToKeep e N nf 1 [(i : Int), 3 * (i : Int), (F : Int) + 1] [] S) P := by
      intro w
      rw [w] at g6 g7
      rw [show (F : Int) + 1 = ((F + 1 : Nat) : Int) by omega]
      refine l_dtk1 hN htop hs hi r hr hk l (F + 1) nf (by omega) (by omega) (by omega) (fun j hj => ?_) (fun g hg => g5 g (List.mem_cons_of_mem _ hg)) g6 (fun q n' hn' => g7 q n' (by rw [List.length_cons]; omega))
      have := g4 (j + 1) (by rw [List.length_cons]; omega)
      rw [List.getD_cons_succ] at this
      rw [show F + 1 + j = F + (j + 1) by omega]
      exact this
    rw [El_RuleBook_daysToKeep, ← g1]
    refine ok_e (by omega) (ok_b (ok_of z1 (ok_ib (by omega) ?_)))
    dsimp only
    rw [show ((F : Int)).toNat = F by omega, show (3 * (i : Int)).toNat = 3 * i by omega, show (3 * (i : Int) + 2).toNat = 3 * i + 2 by omega, show (3 * (i : Int) + 1).toNat = 3 * i + 1 by omega, df.1]
    refine ok_len m2 ?_
    with_reducible refine ok_t (by omega) ?_
    refine ok_t (by show 3 * (i : Int) < (m : Int); omega) ?_
    by_cases c1 : f.1 = S.1 33 (3 * i)
    rotate_left
    · refine ok_t c1 (ok_nb (by omega) (nx ?_))
      rw [fit, decide_eq_false c1, Bool.false_and, Bool.false_or]
    refine ok_e (fun w => w c1) ?_
    rcases z2 with ⟨s1, s2⟩ | ⟨k, s1, s2⟩
    · refine ok_t s2 (ok_nb (by omega) (nx ?_))
      rw [fit, far, s1]
      simp
    · subst s2
      have kl := fsi_lt s1
      refine ok_e (by omega) (ok_ib (by omega) (ok_nb (by omega) ?_))
      rw [show (((13 * F + k : Nat) : Int)).toNat = 13 * F + k by omega]
      refine ok_len m2 ?_
      with_reducible refine ok_t (by omega) ?_
      refine ok_t (by show 3 * (i : Int) + 2 < (m : Int); omega) (ok_b ?_)
      have d5 := (df.2.2.2.2 k kl).2
      have rv := fv.2.2.1 (f.2.2.2.getD k (0, [])) (by
        rw [List.getD_eq_getElem?_getD, List.getElem?_eq_getElem kl, Option.getD_some]
        exact List.getElem_mem kl)
      obtain ⟨y, y1, y2⟩ := x_srow (e := e) (N := N) hN htop hs (by have := rv.2.1; omega) (by omega) d5 hk
      refine ok_of y1 ?_
      dsimp only
      have fe : (decide (f.1 = S.1 33 (3 * i)) && decide (far f = some r)) = decide (y = 0) := by
        rw [decide_eq_true c1, Bool.true_and, far, s1, Option.map_some, decide_eq_decide]
        exact ⟨fun w => y2.mpr (Option.some.inj w), fun w => congrArg some (y2.mp w)⟩
      by_cases c2 : y = 0
      · rw [fit, fe, decide_eq_true c2, Bool.true_or] at g6
        refine ok_e (fun w => w c2) (ok_nb (by omega) (ok_len m2 ?_))
        with_reducible refine ok_t (by omega) ?_
        refine ok_t (by show 3 * (i : Int) + 1 < (m : Int); omega) (ok_s (g6 rfl))
      · refine ok_t c2 (ok_nb (by omega) (nx ?_))
        rw [fit, fe, decide_eq_false c2, Bool.false_or]
/-- which line fits a document first -/
def kpl (R : w_S) (D : List Fdl) (n : Nat) : Option Nat := fst (fun i => fit (R.1 197 (3 * i)) (kpr R i) D) 0 n
theorem l_dtk0 {e : w_E} {N n : Nat} {S R : w_S} {top : Int} {D : List Fdl} (hN : 1000 ≤ N) (htop : top ≤ 10240) (hs : ∀ j, -128 ≤ S.1 2 j ∧ S.1 2 j ≤ 127) (hn : n ≤ 8) (h35 : S.1 35 3 = n) (hK : ∀ i, i < n → R.1 197 (3 * i) = S.1 33 (3 * i) ∧ (kpr R i).length ≤ 40 ∧ Rw (S.1 2) top (S.1 33 (3 * i + 2)) (kpr R i).length (fun u => (kpr R i).getD u 0)) (hD : Dr S (S.1 2) top D) (hl : D.length ≤ 12) (hv : ∀ f, f ∈ D → vfd f ∧ f.2.2.2.length ≤ 5) : ∀ (k i nf : Nat), i + k = n → 14 * k < nf → El_RuleBook_daysToKeep e N nf 0 [(i : Int)] [] S = some (((fst (fun i => fit (R.1 197 (3 * i)) (kpr R i) D) i k).map (fun j => S.1 33 (3 * j + 1))).getD (-1), S)
  | _, _, 0, _, h => by omega
  | 0, i, nf + 1, g1, g2 => by
    refine ok_eq ?_
    rw [El_RuleBook_daysToKeep, h35, fst]
    exact ok_t (by omega) (ok_s ⟨rfl, rfl⟩)
  | k + 1, i, nf + 1, g1, g2 => by
    obtain ⟨k1, k2, k3⟩ := hK i (by omega)
    refine ok_eq ?_
    rw [El_RuleBook_daysToKeep, h35, fst, wid3, show (i : Int) * 3 = 3 * (i : Int) by omega, k1]
    refine ok_e (by omega) (ok_nb (by omega) ?_)
    refine l_dtk1 hN htop hs (by omega) (kpr R i) k2 k3 D 0 nf (by rw [hD.1]; omega) (by omega) (by omega) (fun j hj => by rw [Nat.zero_add]; exact hD.2 j hj) hv (fun w => ?_) (fun w n' hn' => ?_)
    · rw [w]
      exact ⟨rfl, rfl⟩
    · rw [w, if_neg (by decide)]
      have ih := l_dtk0 (e := e) hN htop hs hn h35 hK hD hl hv k (i + 1) n' (by omega) (by omega)
      rw [show (i : Int) + 1 = ((i + 1 : Nat) : Int) by omega]
      exact ok_of ih ⟨rfl, rfl⟩
end
section
-- ed
theorem far_split : ∀ {ss : List Sfl} {k : Nat}, fsb 97 ss = some k → ∃ pre s post, ss = pre ++ s :: post ∧ s.1 = 97 ∧ k = (pre.flatMap sb).length ∧ (fsi 97 ss).map (fun k => (ss.getD k (0, [])).2) = some s.2
  | [], k, h => by cases h
  | s :: ss, k, h => by
    rw [fsb] at h
    by_cases c : s.1 = 97
    · rw [if_pos c] at h
      cases h
      exact ⟨[], s, ss, rfl, c, rfl, by rw [fsi, if_pos c]; rfl⟩
    · rw [if_neg c] at h
      cases h2 : fsb 97 ss with
      | none => rw [h2] at h; cases h
      | some k' =>
        rw [h2, Option.map_some, Option.some.injEq] at h
        subst h
        obtain ⟨pre, t, post, h3, h4, h5, h6⟩ := far_split h2
        refine ⟨s :: pre, t, post, by rw [h3]; rfl, h4, ?_, ?_⟩
        · rw [List.flatMap_cons, List.length_append, h5]
        · rw [fsi, if_neg c]
          cases h7 : fsi 97 ss with
          | none => rw [h7] at h6; cases h6
          | some j =>
            rw [h7, Option.map_some] at h6
            rw [Option.map_some, Option.map_some, List.getD_cons_succ]
            exact h6
theorem far_none {f : Fdl} (hv : vfd f) (h : (if f.1 < 10 then none else fsb 97 f.2.2.2) = none) : far f = none := by
  unfold far
  by_cases c : f.1 < 10
  · rw [fsi_ctl hv c]
    rfl
  · rw [if_neg c] at h
    have := fsb_fsi 97 f.2.2.2
    rw [h] at this
    cases hb : fsi 97 f.2.2.2 with
    | none => rfl
    | some k => rw [hb] at this; cases this
/-- the row of a field's first subfield a, as the reference finds it -/
theorem x_aRow {e : w_E} {N a0 n p : Nat} {S : w_S} {f : Fdl} (hN : 2001 ≤ N) (hN2 : n < N) (h : Fat S a0 n p f) : ∃ z : Int, E_R_firstA e N (p : Int) ((p + (fbd f).length + 4 : Nat) : Int) a0 S = some (z, S) ∧ ((far f = none ∧ z = -1) ∨ ∃ (k : Nat) (s : List Int), z = ((p + 6 + k : Nat) : Int) ∧ ¬ f.1 < 10 ∧ far f = some s ∧ vrow s ∧ byt (S.1 a0) (p + 6 + k + 2) s ∧ p + 6 + k + 2 + s.length ≤ p + (fbd f).length + 4 ∧ E_R_rowEnd e N (((p + 6 + k : Nat) : Int) + 2) ((p + (fbd f).length + 4 : Nat) : Int) a0 S = some (((p + 6 + k + 2 + s.length : Nat) : Int), S)) := by
  obtain ⟨z, z1, z2⟩ := x_firstA2 (e := e) hN hN2 h
  refine ⟨z, z1, ?_⟩
  have hv := h.2.2.2.2
  rcases z2 with ⟨w1, w2⟩ | ⟨k, w1, w2⟩
  · exact Or.inl ⟨far_none hv w1, w2⟩
  · right
    have c : ¬ f.1 < 10 := fun w => by rw [if_pos w] at w1; cases w1
    rw [if_neg c] at w1
    obtain ⟨pre, s, post, s1, s2, s3, s4⟩ := far_split w1
    have sv := hv.2.2.1 s (by rw [s1]; exact List.mem_append_right _ List.mem_cons_self)
    obtain ⟨h1, h2, h3, h4, _⟩ := h
    have e1 := ser_bd c s1
    have sl := ser_len f
    generalize hA : (tg3 f.1 ++ 32 :: f.2.1 :: f.2.2.1 :: pre.flatMap sb) ++ [36, s.1] = A at e1
    generalize hB : post.flatMap sb ++ [10] = B at e1
    rw [e1] at h3 h4 sl
    rw [byt_app, byt_app] at h3
    rw [List.length_append, List.length_append] at h4 sl
    have lA : A.length = k + 8 := by
      rw [← hA]
      simp only [List.length_append, List.length_cons, List.length_nil, tg3_len]
      omega
    have lB : 1 ≤ B.length := by
      rw [← hB, List.length_append, List.length_singleton]
      omega
    rw [lA, show p + (k + 8) = p + 6 + k + 2 by omega] at h3
    refine ⟨k, s.2, w2, c, s4, sv, h3.2.1, by omega, ?_⟩
    have re := l_rowEnd (e := e) (N := N) (q := ((p + (fbd f).length + 4 : Nat) : Int)) h1 h2 s.2 (p + 6 + k + 2) N (fun b hb => rw36 (sv.2.2 b hb)) h3.2.1 (by omega) (by omega) ?_ (by have := sv.2.1; omega)
    · unfold E_R_rowEnd
      rw [show ((p + 6 + k : Nat) : Int) + 2 = ((p + 6 + k + 2 : Nat) : Int) by omega]
      exact re
    · have by3 := h3.2.2
      cases post with
      | nil =>
        left
        rw [List.flatMap_nil, List.nil_append] at hB
        rw [← hB, List.length_singleton] at sl
        omega
      | cons t post =>
        right
        rw [List.flatMap_cons, sb, List.cons_append, List.cons_append] at hB
        rw [← hB] at by3
        exact by3.1
/-- the tag of a field, as the reference reads it -/
theorem ok_tag {a0 n p : Nat} {S : w_S} {f : Fdl} {P : Int → w_S → Prop} {K : Int → e_R} (h : Fat S a0 n p f) (hn : n < 2000000000) (k : Ok (K f.1) P) : Ok ((e_len Tr S a0 1).bind (fun n117 => if 0 ≤ (p : Int) then (if (p : Int) < n117 then (if w_nb ((S.1 a0 ((p : Int)).toNat) - 48) = true then (if w_nb (100 * ((S.1 a0 ((p : Int)).toNat) - 48)) = true then (if w_nb ((p : Int) + 1) = true then ((e_len Tr S a0 1).bind (fun n118 => if 0 ≤ ((p : Int) + 1) then (if ((p : Int) + 1) < n118 then (if w_nb ((S.1 a0 (((p : Int) + 1).toNat)) - 48) = true then (if w_nb (10 * ((S.1 a0 (((p : Int) + 1).toNat)) - 48)) = true then (if w_nb ((100 * ((S.1 a0 ((p : Int)).toNat) - 48)) + (10 * ((S.1 a0 (((p : Int) + 1).toNat)) - 48))) = true then (if w_nb ((p : Int) + 2) = true then ((e_len Tr S a0 1).bind (fun n119 => if 0 ≤ ((p : Int) + 2) then (if ((p : Int) + 2) < n119 then (if w_nb (((100 * ((S.1 a0 ((p : Int)).toNat) - 48)) + (10 * ((S.1 a0 (((p : Int) + 1).toNat)) - 48))) + (S.1 a0 (((p : Int) + 2).toNat))) = true then (if w_nb ((((100 * ((S.1 a0 ((p : Int)).toNat) - 48)) + (10 * ((S.1 a0 (((p : Int) + 1).toNat)) - 48))) + (S.1 a0 (((p : Int) + 2).toNat))) - 48) = true then K ((((100 * ((S.1 a0 ((p : Int)).toNat) - 48)) + (10 * ((S.1 a0 (((p : Int) + 1).toNat)) - 48))) + (S.1 a0 (((p : Int) + 2).toNat))) - 48) else none) else none) else none) else none)) else none) else none) else none) else none) else none) else none)) else none) else none) else none) else none) else none)) P := by
  obtain ⟨b0, b1, b2, b3⟩ := h.tag
  obtain ⟨h1, h2, h3, h4, h5⟩ := h
  have sl := ser_len f
  have t1 := h5.1
  have t2 := h5.2.1
  rw [show ((p : Int)).toNat = p by omega, show ((p : Int) + 1).toNat = p + 1 by omega, show ((p : Int) + 2).toNat = p + 2 by omega, b0, b1, b2]
  refine ok_len h1 ?_
  with_reducible refine ok_t (by omega) ?_
  with_reducible refine ok_t (by omega) (ok_nb (by omega) (ok_nb (by omega) (ok_nb (by omega) ?_)))
  refine ok_len h1 ?_
  with_reducible refine ok_t (by omega) ?_
  with_reducible refine ok_t (by omega) (ok_nb (by omega) (ok_nb (by omega) (ok_nb (by omega) (ok_nb (by omega) ?_))))
  refine ok_len h1 ?_
  with_reducible refine ok_t (by omega) ?_
  with_reducible refine ok_t (by omega) (ok_nb (by omega) (ok_nb (by omega) ?_))
  rw [show 100 * (48 + f.1 / 100 - 48) + 10 * (48 + f.1 / 10 % 10 - 48) + (48 + f.1 % 10) - 48 = f.1 by omega]
  exact k
end
