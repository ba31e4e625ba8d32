section
-- g0
theorem cnt_ltj (j : Nat) : ∀ (m c : Nat), cnt (fun z => decide (z < j)) c m = (if j ≤ c then 0 else if j ≤ c + m then (j : Int) - c else (m : Int))
  | 0, c => by
    rw [cnt]
    by_cases h : j ≤ c
    · rw [if_pos h]
    · rw [if_neg h, if_neg (by omega)]
      rfl
  | m + 1, c => by
    rw [cnt, cnt_ltj j m (c + 1)]
    by_cases h : j ≤ c
    · rw [if_pos h, if_pos (show j ≤ c + 1 by omega), decide_eq_false (show ¬ c < j by omega), if_neg (fun z => by cases z)]
      rfl
    · rw [if_neg h, decide_eq_true (show c < j by omega), if_pos rfl]
      by_cases h2 : j ≤ c + 1
      · rw [if_pos h2, if_pos (by omega)]
        omega
      · rw [if_neg h2]
        by_cases h3 : j ≤ c + (m + 1)
        · rw [if_pos (by omega), if_pos h3]
          omega
        · rw [if_neg (by omega), if_neg h3]
          omega
theorem vsrt_cnt {f : Nat → Vl} {n j : Nat} (h : vsrt f n n) (hj : j < n) : cnt (fun z => vah (f z) (f j)) 0 n = (j : Int) := by
  rw [cnt_congr (Q := fun z => decide (z < j)) n 0 (fun k _ h2 => ?_), cnt_ltj]
  · by_cases c : j = 0
    · rw [if_pos (by omega)]
      omega
    · rw [if_neg (by omega), if_pos (by omega)]
      omega
  · by_cases c : k < j
    · rw [decide_eq_true c]
      exact h k j (by omega) c hj
    · rw [decide_eq_false c]
      by_cases c2 : k = j
      · rw [c2]
        exact vah_irr _
      · cases z : vah (f k) (f j) with
        | false => rfl
        | true =>
          have := vah_tr z (h j k hj (by omega) (by omega))
          rw [vah_irr] at this
          cases this
theorem pm_mem {f g : Nat → Vl} {n k : Nat} (h : Pm f g n) (hk : k < n) : ∃ j, j < n ∧ f j = g k := by
  have h1 : 0 < cnt (fun z => decide (g z = g k)) 0 n := by
    rw [cnt_pos, anyb_true]
    exact ⟨k, by omega, by omega, decide_eq_true rfl⟩
  have h2 := h (fun v => decide (v = g k))
  rw [← h2, cnt_pos, anyb_true] at h1
  obtain ⟨j, _, j2, j3⟩ := h1
  exact ⟨j, by omega, of_decide_eq_true j3⟩
/-- the value of a rank -/
theorem rank_eq {f g : Nat → Vl} {n k : Nat} {i : Int} (h : Pm f g n) (hs : vsrt f n n) (hk : k < n) (hc : cnt (fun j => vah (g j) (g k)) 0 n = i) : ∃ j, j < n ∧ i = (j : Int) ∧ f j = g k := by
  obtain ⟨j, j1, j2⟩ := pm_mem h hk
  refine ⟨j, j1, ?_, j2⟩
  have h2 := h (fun v => vah v (g k))
  rw [hc, ← j2] at h2
  rw [← h2]
  exact vsrt_cnt hs j1
theorem rank_ex {f g : Nat → Vl} {n j : Nat} (h : Pm f g n) (hs : vsrt f n n) (hj : j < n) : ∃ k, k < n ∧ cnt (fun z => vah (g z) (g k)) 0 n = (j : Int) := by
  obtain ⟨k, k1, k2⟩ := pm_mem (f := g) (g := f) (fun q => (h q).symm) hj
  refine ⟨k, k1, ?_⟩
  have h2 := h (fun v => vah v (g k))
  rw [← h2, k2]
  exact vsrt_cnt hs hj
/-- what value says -/
def ans (f : Nat → Vl) (n : Nat) (i k : Int) : Int := if i < 0 ∨ (n : Int) ≤ i then -1 else if k = -1 then (f i.toNat).2.1 else if 0 ≤ k ∧ k < ((f i.toNat).1.length : Nat) then w_and ((f i.toNat).1.getD k.toNat 0) 255 else -1
def vtl (x2 x3 : Int) (S : w_S) : e_R := (if w_nb ((S.1 129 60) - 1) = true then (if x2 < 0 then some ((-1), S) else (if ((S.1 129 60) - 1) < x2 then some ((-1), S) else (if x3 ≠ (-1) then (if w_ib x2 1800 = true then (if w_nb ((S.1 164 x2.toNat) - 1) = true then (if x3 < 0 then some ((-1), S) else (if ((S.1 164 x2.toNat) - 1) < x3 then some ((-1), S) else (if w_nb (40 * x2) = true then (if w_nb ((40 * x2) + x3) = true then (if w_ib ((40 * x2) + x3) 72000 = true then some (w_and (S.1 163 (((40 * x2) + x3).toNat)) 255, S) else none) else none) else none))) else none) else none) else (if w_ib x2 1800 = true then some (S.1 165 x2.toNat, S) else none)))) else none)
theorem E_R_value_v (e : w_E) (N : Nat) (x1 x2 x3 : Int) (S : w_S) : E_R_value e N x1 x2 x3 S = (if (S.1 129 58) = 0 then ((E_R_gatherValues e N x1 S).bind (fun q => vtl x2 x3 q.2)) else (if (S.1 129 59) = x1 then vtl x2 x3 S else ((E_R_gatherValues e N x1 S).bind (fun q => vtl x2 x3 q.2)))) := rfl
theorem ans_o {f : Nat → Vl} {n : Nat} {i k : Int} (h : i < 0 ∨ (n : Int) ≤ i) : ans f n i k = -1 := by
  unfold ans
  rw [if_pos h]
theorem ans_n {f : Nat → Vl} {n : Nat} {i k : Int} (h : 0 ≤ i) (h2 : i < (n : Int)) (h3 : k = -1) : ans f n i k = (f i.toNat).2.1 := by
  unfold ans
  rw [if_neg (by omega), if_pos h3]
theorem ans_b {f : Nat → Vl} {n : Nat} {i k : Int} (h : 0 ≤ i) (h2 : i < (n : Int)) (h3 : ¬ k = -1) : ans f n i k = if 0 ≤ k ∧ k < ((f i.toNat).1.length : Nat) then w_and ((f i.toNat).1.getD k.toNat 0) 255 else -1 := by
  unfold ans
  rw [if_neg (by omega), if_neg h3]
theorem x_vtl {R : w_S} {x2 x3 : Int} {f : Nat → Vl} {n : Nat} (hn : n ≤ 1800) (h6 : R.1 129 60 = (n : Nat)) (h : Vsl R n f) : vtl x2 x3 R = some (ans f n x2 x3, R) := by
  refine ok_eq ?_
  unfold vtl
  rw [h6]
  refine ok_nb (by omega) ?_
  by_cases c1 : x2 < 0
  · exact ok_t c1 (ok_s ⟨(ans_o (Or.inl c1)).symm, rfl⟩)
  refine ok_e c1 ?_
  by_cases c2 : (n : Int) ≤ x2
  · exact ok_t (by omega) (ok_s ⟨(ans_o (Or.inr c2)).symm, rfl⟩)
  refine ok_e (by omega) ?_
  obtain ⟨⟨u1, u2, u3⟩, u4⟩ := h x2.toNat (by omega)
  have l40 := u4.2.1
  rw [u2, u3]
  by_cases c3 : x3 = -1
  · exact ok_e (fun z => z c3) (ok_ib (by omega) (ok_s ⟨(ans_n (by omega) (by omega) c3).symm, rfl⟩))
  refine ok_t c3 (ok_ib (by omega) (ok_nb (by omega) ?_))
  rw [ans_b (by omega) (by omega) c3]
  by_cases c4 : x3 < 0
  · exact ok_t c4 (ok_s ⟨by rw [if_neg (by omega)], rfl⟩)
  refine ok_e c4 ?_
  by_cases c5 : (((f x2.toNat).1.length : Nat) : Int) ≤ x3
  · exact ok_t (by omega) (ok_s ⟨by rw [if_neg (by omega)], rfl⟩)
  refine ok_e (by omega) (ok_nb (by omega) (ok_nb (by omega) (ok_ib (by omega) (ok_s ⟨?_, rfl⟩))))
  rw [if_pos (by omega), show (40 * x2 + x3).toNat = 40 * x2.toNat + x3.toNat by omega, byt_at u1 x3.toNat (by omega)]
/-- values that were gathered stand, until something happens -/
def RelVa (S R : w_S) (top : Int) (ta E V : Nat) : Prop := R.1 129 58 = 0 ∨ (R.1 129 58 = 1 ∧ ∃ (Ds : Nat → List Fdl) (f : Nat → Vl) (c m : Nat), S.1 106 4 = (c : Nat) ∧ (∀ k : Nat, (k : Int) < S.1 106 4 → S.1 5 (S.1 108 k).toNat = -1 → DocT S R top ta E V (S.1 108 k) (Ds k)) ∧ m = (gvl (S.1 5) (S.1 108) (R.1 129 59) Ds c).length ∧ m ≤ 1800 ∧ R.1 129 60 = (m : Nat) ∧ Vsl R m f ∧ Pm f (fun k => (gvl (S.1 5) (S.1 108) (R.1 129 59) Ds c).getD k vl0) m ∧ vsrt f m m)
theorem RelVa.cg {S R S1 R1 : w_S} {top : Int} {ta E V : Nat} (h : RelVa S R top ta E V) (c : ∀ a, (a = 2 ∨ a = 4 ∨ a = 5 ∨ (8 ≤ a ∧ a ≤ 16) ∨ a = 108) → S1.1 a = S.1 a) (c4 : S1.1 106 4 = S.1 106 4) (d : ∀ a, ((136 ≤ a ∧ a ≤ 149) ∨ a = ta ∨ (163 ≤ a ∧ a ≤ 165)) → R1.1 a = R.1 a) (d12 : R1.1 129 12 = R.1 129 12) (d58 : R1.1 129 58 = R.1 129 58) (d59 : R1.1 129 59 = R.1 129 59) (d60 : R1.1 129 60 = R.1 129 60) (hn : ∀ v d F, nmo R1 v d F = nmo R v d F) : RelVa S1 R1 top ta E V := by
  rcases h with h | ⟨h, Ds, f, cc, m, h1, h2, h3, h4, h5, h6, h7, h8⟩
  · exact Or.inl (by rw [d58]; exact h)
  · refine Or.inr ⟨by rw [d58]; exact h, Ds, f, cc, m, by rw [c4]; exact h1, fun k k1 k2 => ?_, by rw [c 5 (by omega), c 108 (by omega), d59]; exact h3, h4, by rw [d60]; exact h5, fun k hk => ?_, by rw [c 5 (by omega), c 108 (by omega), d59]; exact h7, h8⟩
    · rw [c4] at k1
      rw [c 5 (by omega), c 108 (by omega)] at k2
      rw [c 108 (by omega)]
      exact (h2 k k1 k2).cg (fun a ha => c a (by omega)) (fun a ha => d a (by omega)) d12 hn
    · have := h6 k hk
      unfold Vs1 at this ⊢
      rw [d 163 (by omega), d 164 (by omega), d 165 (by omega)]
      exact this
/-- the class's answer -/
theorem c_value {e : w_E} {N : Nat} {S R : w_S} {top t x2 x3 : Int} {ta L E V n : Nat} {Ds : Nat → List Fdl} {f : Nat → Vl} {c m : Nat} (hN : 16000000 ≤ N) (htop : top ≤ 10240) (hV : VlR S R top ta L E V n Ds) (hc : S.1 106 4 = (c : Nat)) (hm : m = (gvl (S.1 5) (S.1 108) t Ds c).length) (hP : Pm f (fun k => (gvl (S.1 5) (S.1 108) t Ds c).getD k vl0) m) (hs : vsrt f m m) : Ok (E_C_value e N t x2 x3 S) (fun y S1 => y = ans f m x2 x3 ∧ frm VSa [106, 120] VSj S S1) := by
  have bd := gvl_bd (t := t) hV c (by omega)
  have c150 := hV.2.2.2.2.1.2.2.1
  have m18 := bd.1
  unfold E_C_value
  generalize hS0 : w_put S 106 9 0 = S0
  have f0 : frm VSa [106, 120] VSj S S0 := by
    rw [← hS0]
    repeat (first | exact frm.refl _ _ _ _ | refine frm.put ?_ rfl | refine frm.puto ?_ rfl rfl)
  obtain ⟨n', S', i1, i2, i3, i4, i5⟩ := l_cv (e := e) (N := N) (R := R) (top := top) (t := t) (x2 := x2) (x3 := x3) (ta := ta) (L := L) (E := E) (V := V) (n := n) (Ds := Ds) (g5 := S.1 5) (g8 := S.1 108) (cnt := c) hN htop c 0 N S0 (f0.2.1 5 rfl rfl) (f0.2.1 108 rfl rfl) (by rw [f0.2.2 106 4 rfl rfl]; exact hc) (by omega) (by omega) (hV.fr f0 (frm.refl _ _ _ _)) (by rw [← hS0]; simp only [w_put_r, reduceIte, Nat.reduceEqDiff, pt_at]; rfl) trivial
  refine i5 _ ?_
  have fS : frm VSa [106, 120] VSj S S' := f0.trans i2
  have h4 : S'.1 106 4 = (c : Nat) := by rw [fS.2.2 106 4 rfl rfl]; exact hc
  have e2 : S'.1 2 = S.1 2 := fS.2.1 2 rfl rfl
  have hb : ∀ j, -128 ≤ S'.1 2 j ∧ S'.1 2 j ≤ 127 := by
    rw [e2]
    exact hV.2.2.2.2.2.2.1
  generalize gvl (S.1 5) (S.1 108) t Ds c = l at *
  subst hm
  have vc : Vcl S' top l.length (fun k => l.getD k vl0) := fun k hk => by
    refine ⟨?_, ?_⟩
    · have := i4.get hk
      rw [Nat.zero_add] at this
      exact this
    · obtain ⟨q1, q2, q3⟩ := bd.2 _ (memD (d := vl0) hk)
      have q3' : (l.getD k vl0).2.1 ≤ ((12 * c : Nat) : Int) := q3
      exact ⟨q1, q2, by show (l.getD k vl0).2.1 ≤ _; omega⟩
  cases n' with
  | zero => omega
  | succ n' =>
    rw [El_C_value, h4]
    refine ok_t (by omega) (ok_b ?_)
    unfold E_Desk_valueOfRank
    refine (l_vr0 (e := e) (N := N) (x1 := x2) (by omega) htop hb (show l.length ≤ 1800 by omega) i3 vc l.length 0 N (by omega) (by omega)).mono ?_
    intro y S1 ⟨q1, q2⟩
    subst q1
    dsimp only
    rcases q2 with ⟨q3, q4⟩ | ⟨k, q3, q4, q5⟩
    · refine ok_e (fun z => z q3) (ok_s ⟨?_, fS⟩)
      by_cases cx : x2 < 0 ∨ (l.length : Int) ≤ x2
      · rw [ans_o cx]
      · exfalso
        obtain ⟨k, k1, k2⟩ := rank_ex (j := x2.toNat) hP hs (by omega)
        exact q4 k (by omega) k1 (by rw [k2]; omega)
    · obtain ⟨j, j1, j2, j3⟩ := rank_eq hP hs q3 q5
      subst q4
      have vk := vc k q3
      obtain ⟨⟨⟨a, a1, a2, a3⟩, v2, v3⟩, v4⟩ := vk
      have l40 := v4.1.2.1
      refine ok_t (by omega) ?_
      have fj : f x2.toNat = l.getD k vl0 := by rw [show x2.toNat = j by omega, j3]
      rw [show ((k : Int)).toNat = k by omega]
      by_cases c3 : x3 = -1
      · rw [ans_n (by omega) (by omega) c3, fj]
        exact ok_e (fun z => z c3) (ok_ib (by omega) (ok_s ⟨v2, fS⟩))
      rw [ans_b (by omega) (by omega) c3, fj]
      refine ok_t c3 (ok_ib (by omega) (ok_b ?_))
      rw [a1]
      refine ok_of (x_rowByte (by omega) (by omega)) (ok_s ⟨?_, fS⟩)
      dsimp only at a3 ⊢
      by_cases c4 : 0 ≤ x3 ∧ x3 < ((l.getD k vl0).1.length : Nat)
      · rw [if_pos c4, if_pos c4, a3 x3.toNat (by omega)]
      · rw [if_neg c4, if_neg c4]
/-- the reference gathers, and files -/
theorem r_gather {e : w_E} {N : Nat} {S R : w_S} {top t : Int} {ta L E V n : Nat} {Ds : Nat → List Fdl} {c : Nat} (hN : 16000000 ≤ N) (hV : VlR S R top ta L E V n Ds) (hc : S.1 106 4 = (c : Nat)) : Ok (E_R_gatherValues e N t R) (fun _ R1 => frm VTa [129] [(129, 37), (129, 58), (129, 59), (129, 60)] R R1 ∧ R1.1 129 58 = 1 ∧ R1.1 129 59 = t ∧ R1.1 129 60 = ((gvl (S.1 5) (S.1 108) t Ds c).length : Nat) ∧ (gvl (S.1 5) (S.1 108) t Ds c).length ≤ 1800 ∧ ∃ f, Vsl R1 (gvl (S.1 5) (S.1 108) t Ds c).length f ∧ Pm f (fun k => (gvl (S.1 5) (S.1 108) t Ds c).getD k vl0) (gvl (S.1 5) (S.1 108) t Ds c).length ∧ vsrt f (gvl (S.1 5) (S.1 108) t Ds c).length (gvl (S.1 5) (S.1 108) t Ds c).length) := by
  have bd := gvl_bd (t := t) hV c (by omega)
  have c150 := hV.2.2.2.2.1.2.2.1
  have m18 := bd.1
  unfold E_R_gatherValues
  generalize hR0 : w_put R 129 60 0 = R0
  have f0 : frm VTa [129] VTj R R0 := by
    rw [← hR0]
    repeat (first | exact frm.refl _ _ _ _ | refine frm.put ?_ rfl | refine frm.puto ?_ rfl rfl)
  obtain ⟨n', R', i1, i2, i3, i4, i5⟩ := l_rv (e := e) (N := N) (S := S) (top := top) (t := t) (ta := ta) (L := L) (E := E) (V := V) (n := n) (Ds := Ds) (cnt := c) hN hc c 0 N R0 (by omega) (by omega) (hV.fr (frm.refl _ _ _ _) f0) (by rw [← hR0]; simp only [w_put_r, reduceIte, Nat.reduceEqDiff, pt_at]; rfl) trivial
  refine i5 _ ?_
  have dd := gvl_dst (g5 := S.1 5) (g8 := S.1 108) (t := t) (Ds := Ds) c
  have f1 := f0.trans i2
  have h51 : R'.1 129 51 = (c : Nat) := by
    rw [f1.2.2 129 51 rfl rfl, hV.2.2.2.2.1.1]
    exact hc
  generalize gvl (S.1 5) (S.1 108) t Ds c = l at *
  cases n' with
  | zero => omega
  | succ n' =>
    rw [El_R_gatherValues, h51]
    refine ok_t (by omega) ?_
    refine (l_srt1 (e := e) (N := N) (t := t) (g := fun k => l.getD k vl0) (by omega) (show l.length ≤ 1800 by omega) l.length 0 n' R' (fun k => l.getD k vl0) (by omega) (by omega) i3 (fun k hk => ⟨?_, (bd.2 _ (memD (d := vl0) hk)).1⟩) (fun i j hi hj hij => dd.get hi hj hij) (fun _ => rfl) (fun i k h1 => by omega)).mono ?_
    · have := i4.get hk
      rw [Nat.zero_add] at this
      exact this
    · intro _ R1 ⟨q1, q2, q3, q4⟩
      exact ⟨(f1.weak (by decide)).trans (q1.weak (by decide)), q2, q3, by rw [q1.2.2 129 60 rfl rfl]; exact i3, by omega, q4⟩
/-- value -/
theorem q_value {e : w_E} {N : Nat} {S R : w_S} {x1 x2 x3 top : Int} {ta L E V n : Nat} (hN : 16000000 ≤ N) (htop : top ≤ 10240) (hv : RelVr S R top ta L E V n) (hk : RelLk S R) (hn : RelNm S R top) (hG : RelG S R) (hF : RelFn S R) (hd : R.1 129 12 = S.1 27 1) (hs : ∀ j, -128 ≤ S.1 2 j ∧ S.1 2 j ≤ 127) (hC : RelVa S R top ta E V) : Ok (E_C_value e N x1 x2 x3 S) (fun y S1 => Ok (E_R_value e N x1 x2 x3 R) (fun y' R1 => y' = y ∧ frm VSa [106, 120] VSj S S1 ∧ frm VTa [129] [(129, 37), (129, 58), (129, 59), (129, 60)] R R1 ∧ RelVa S1 R1 top ta E V)) := by
  have c0 := hF.2.1
  obtain ⟨c, hc⟩ : ∃ c : Nat, S.1 106 4 = (c : Nat) := ⟨(S.1 106 4).toNat, by omega⟩
  have hta := hv.2.1
  -- what stays of the values where the class has answered
  have stay : ∀ {S1 R1 : w_S}, RelVa S R1 top ta E V → frm VSa [106, 120] VSj S S1 → RelVa S1 R1 top ta E V := fun h hf => h.cg (fun a ha => hf.2.1 a (by
    simp only [List.contains_cons, List.contains_nil, Bool.or_false, Bool.or_eq_false_iff, beq_eq_false_iff_ne, ne_eq]
    omega) (by
    simp only [List.contains_cons, List.contains_nil, Bool.or_false, Bool.or_eq_false_iff, beq_eq_false_iff_ne, ne_eq]
    omega)) (hf.2.2 106 4 rfl rfl) (fun _ _ => rfl) rfl rfl rfl rfl (fun _ _ _ => rfl)
  by_cases c1 : R.1 129 58 ≠ 0 ∧ R.1 129 59 = x1
  · rcases hC with h | ⟨h, Ds, f, cc, m, h1, h2, h3, h4, h5, h6, h7, h8⟩
    · exact absurd h c1.1
    have hcc : cc = c := by omega
    subst hcc
    have hC' : RelVa S R top ta E V := Or.inr ⟨h, Ds, f, cc, m, h1, h2, h3, h4, h5, h6, h7, h8⟩
    rw [c1.2] at h3 h7
    refine (c_value (e := e) (N := N) (x2 := x2) (x3 := x3) hN htop ⟨hv, hk, hn, hG, hF, hd, hs, h2⟩ hc h3 h7 h8).mono ?_
    intro y S1 ⟨y1, y2⟩
    rw [E_R_value_v]
    refine ok_e c1.1 (ok_t c1.2 (ok_of (x_vtl h4 h5 h6) ⟨y1.symm, y2, frm.refl _ _ _ _, stay hC' y2⟩))
  · -- the reference gathers anew
    have ex : ∀ k : Nat, ∃ D, (k : Int) < S.1 106 4 → S.1 5 (S.1 108 k).toNat = -1 → DocT S R top ta E V (S.1 108 k) D := fun k => by
      by_cases ck : (k : Int) < S.1 106 4
      · obtain ⟨_, q2, q3⟩ := hF.2.2.2 k ck
        have n3 := hv.2.2.2.2.2.1
        obtain ⟨v, D, w1, w2, w3, w4, hD⟩ := x_today (e := e) (N := N) (r := (S.1 108 k).toNat) (by omega) hv hd (by omega) (by omega)
        rw [show (((S.1 108 k).toNat : Nat) : Int) = S.1 108 k by omega] at w4
        exact ⟨_, fun _ _ => ⟨v, D, w1, w2, w4, hD, rfl⟩⟩
      · exact ⟨[], fun z => absurd z ck⟩
    obtain ⟨Ds, hDs⟩ := Classical.axiomOfChoice ex
    have hV : VlR S R top ta L E V n Ds := ⟨hv, hk, hn, hG, hF, hd, hs, fun k k1 k2 => hDs k k1 k2⟩
    obtain ⟨vg, R1, hg, g1, g2, g3, g4, g5, f, g6, g7, g8⟩ := r_gather (e := e) (N := N) (t := x1) hN hV hc
    refine (c_value (e := e) (N := N) (x2 := x2) (x3 := x3) hN htop hV hc rfl g7 g8).mono ?_
    intro y S1 ⟨y1, y2⟩
    have ra : ∀ a, ((136 ≤ a ∧ a ≤ 149) ∨ a = ta) → R1.1 a = R.1 a := fun a ha => g1.2.1 a (by
      simp only [List.contains_cons, List.contains_nil, Bool.or_false, Bool.or_eq_false_iff, beq_eq_false_iff_ne, ne_eq]
      omega) (by
      simp only [List.contains_cons, List.contains_nil, Bool.or_false, beq_eq_false_iff_ne, ne_eq]
      omega)
    have new : RelVa S R1 top ta E V := Or.inr ⟨g2, Ds, f, c, _, hc, fun k k1 k2 => (hDs k k1 k2).cg (fun _ _ => rfl) ra (g1.2.2 129 12 rfl rfl) (fun v d F => nmo_fr g1 (by decide) v d F), by rw [g3], g5, g4, g6, by rw [g3]; exact g7, g8⟩
    have tail : Ok (vtl x2 x3 R1) (fun y' R1' => y' = y ∧ frm VSa [106, 120] VSj S S1 ∧ frm VTa [129] [(129, 37), (129, 58), (129, 59), (129, 60)] R R1' ∧ RelVa S1 R1' top ta E V) := ok_of (x_vtl g5 g4 g6) ⟨y1.symm, y2, g1, stay new y2⟩
    rw [E_R_value_v]
    by_cases c2 : R.1 129 58 = 0
    · exact ok_t c2 (ok_b (ok_of hg tail))
    · exact ok_e c2 (ok_e (fun z => c1 ⟨c2, z⟩) (ok_b (ok_of hg tail)))
end
section
-- g2
theorem x_addSub1 {e : w_E} {N F i : Nat} {T : w_S} {c r : Int} (h1 : T.1 37 0 = (F : Int) + 1) (h2 : T.1 42 F = i) (hF : F < 20) (hi : i < 13) : E_Draft_addSubfield_v1 e N (F : Int) c r T = some (0, w_put (w_put (w_put T 43 (13 * F + i) c) 44 (13 * F + i) r) 42 F ((i : Int) + 1)) := by
  refine ok_eq ?_
  unfold E_Draft_addSubfield_v1
  rw [h1, show ((F : Int)).toNat = F by omega, h2]
  refine ok_e (by omega) (ok_e (by omega) (ok_ib (by omega) (ok_e (by omega) (ok_nb (by omega) (ok_nb (by omega) (ok_ib (by omega) (ok_nb (by omega) ?_)))))))
  rw [show ((F : Int) * 13 + (i : Int)).toNat = 13 * F + i by omega]
  exact ok_s ⟨rfl, rfl⟩
theorem l_rf1 {e : w_E} {N F : Nat} {f len : Int} {G : Int → Int} (hN : 2001 ≤ N) (hF : F < 20) : ∀ (k i nf : Nat) (T : w_S) (a w q : Int), i + k = 5 → 1 ≤ i → k < nf → TX T f len G → At f len a w q → T.1 37 0 = (F : Int) + 1 → T.1 42 F = i → Ok (El_Draft_readField_v1 e N nf 0 [0, (F : Int), (i : Int)] [] (tp T a w)) (fun _ S1 => ∃ T' a' w', S1 = tp T' a' w' ∧ At f len a' w' (if q < 0 then q else pB G 10 (sfC G k q)) ∧ frm [42, 43, 44] [] [] T T' ∧ (∀ u, u ≠ F → T'.1 42 u = T.1 42 u) ∧ (∀ u, (u < 13 * F + i ∨ 13 * F + 13 ≤ u) → T'.1 43 u = T.1 43 u ∧ T'.1 44 u = T.1 44 u) ∧ (0 ≤ q → 0 ≤ pB G 10 (sfC G k q) → T'.1 42 F = (i : Int) + (sfl G k q).length ∧ ∀ j, j < (sfl G k q).length → T'.1 43 (13 * F + i + j) = ((sfl G k q).getD j (0, [])).1 ∧ Rw (T.1 2) (f + len) (T'.1 44 (13 * F + i + j)) ((sfl G k q).getD j (0, [])).2.length (fun u => ((sfl G k q).getD j (0, [])).2.getD u 0)))
  | _, _, 0, _, _, _, _, _, _, h, _, _, _, _ => by omega
  | k, i, nf + 1, T, a, w, q, g1, g2, g3, hT, ha, h1, h2 => by
    have stop : sfC G k q = q → sfl G k q = [] → Ok ((E_Tape_takeByte e N 10 (tp T a w)).bind (fun q138 => some (0, q138.2))) (fun _ S1 => ∃ T' a' w', S1 = tp T' a' w' ∧ At f len a' w' (if q < 0 then q else pB G 10 (sfC G k q)) ∧ frm [42, 43, 44] [] [] T T' ∧ (∀ u, u ≠ F → T'.1 42 u = T.1 42 u) ∧ (∀ u, (u < 13 * F + i ∨ 13 * F + 13 ≤ u) → T'.1 43 u = T.1 43 u ∧ T'.1 44 u = T.1 44 u) ∧ (0 ≤ q → 0 ≤ pB G 10 (sfC G k q) → T'.1 42 F = (i : Int) + (sfl G k q).length ∧ ∀ j, j < (sfl G k q).length → T'.1 43 (13 * F + i + j) = ((sfl G k q).getD j (0, [])).1 ∧ Rw (T.1 2) (f + len) (T'.1 44 (13 * F + i + j)) ((sfl G k q).getD j (0, [])).2.length (fun u => ((sfl G k q).getD j (0, [])).2.getD u 0))) := fun e1 e2 => by
      refine tk_b (x_takeByte hT ha (by decide)) (fun _ a1 w1 ha1 _ => ok_s ?_)
      refine ⟨T, a1, w1, rfl, ?_, frm.refl _ _ _ _, fun _ _ => rfl, fun _ _ => ⟨rfl, rfl⟩, fun _ _ => ⟨?_, fun j hj => ?_⟩⟩
      · rw [e1]
        by_cases c : q < 0
        · rw [if_pos c]
          rw [pB_neg c] at ha1
          exact ha1
        · rw [if_neg c]
          exact ha1
      · rw [e2, h2, List.length_nil]
        omega
      · rw [e2, List.length_nil] at hj
        omega
    have hp := x_peek (e := e) (N := N) hT ha
    rw [El_Draft_readField_v1]
    cases k with
    | zero => exact ok_t (by omega) (stop rfl rfl)
    | succ k =>
      refine ok_e (by omega) (ok_e (by omega) (ok_e (by omega) (ok_b (ok_of hp ?_))))
      dsimp only
      by_cases c : ¬ q < 0 ∧ G q = 36
      · rw [if_neg c.1]
        refine ok_e (by omega) ?_
        have q0 : 0 ≤ q := by omega
        refine tk_b (x_takeByte hT ha (by decide)) (fun _ a1 w1 ha1 _ => ?_)
        rw [pB_y q0 c.2] at ha1
        dsimp only
        refine tk_b (x_takeCode hT ha1) (fun y2 a2 w2 ha2 hy2 => ?_)
        dsimp only
        refine tk_b (x_takeRow hN hT ha2) (fun y3 a3 w3 ha3 hy3 => ?_)
        dsimp only
        have t37 : (tp T a3 w3).1 37 0 = (F : Int) + 1 := by
          rw [tpo T a3 w3 (by decide)]
          exact h1
        have t42 : (tp T a3 w3).1 42 F = i := by
          rw [tpo T a3 w3 (by decide)]
          exact h2
        refine ok_b (ok_of (x_addSub1 t37 t42 hF (by omega)) ?_)
        dsimp only
        rw [tp_put _ _ _ _ (by decide), tp_put _ _ _ _ (by decide), tp_put _ _ _ _ (by decide)]
        refine ok_nb (by omega) ?_
        have ih := l_rf1 (e := e) (N := N) (F := F) (f := f) (len := len) (G := G) hN hF k (i + 1) nf (w_put (w_put (w_put T 43 (13 * F + i) y2) 44 (13 * F + i) y3) 42 F ((i : Int) + 1)) a3 w3 (pW G (pP cdb G (q + 1))) (by omega) (by omega) (by omega) (((hT.put (by decide) (by decide)).put (by decide) (by decide)).put (by decide) (by decide)) ha3 (by simp only [w_put_r, reduceIte, Nat.reduceEqDiff, pt_at]; exact h1) (by simp only [w_put_r, reduceIte, Nat.reduceEqDiff, pt_at]; omega)
        rw [show ((i + 1 : Nat) : Int) = (i : Int) + 1 by omega] at ih
        refine ih.mono (fun _ S1 z => ?_)
        obtain ⟨T', a', w', z1, z2, z3, z4, z5, z6⟩ := z
        have sc : sfC G (k + 1) q = if pW G (pP cdb G (q + 1)) < 0 then pW G (pP cdb G (q + 1)) else sfC G k (pW G (pP cdb G (q + 1))) := by
          rw [sfC, if_pos c.2]
        refine ⟨T', a', w', z1, ?_, frm.trans (by repeat (first | exact frm.refl _ _ _ _ | refine frm.put ?_ rfl | refine frm.puto ?_ rfl rfl)) z3, fun u hu => ?_, fun u hu => ?_, fun _ hpos => ?_⟩
        · rw [if_neg c.1, sc]
          by_cases d : pW G (pP cdb G (q + 1)) < 0
          · rw [if_pos d, pB_neg d]
            rw [if_pos d] at z2
            exact z2
          · rw [if_neg d]
            rw [if_neg d] at z2
            exact z2
        · rw [z4 u hu]
          simp only [w_put_r, reduceIte, Nat.reduceEqDiff, pt_at]
          rw [if_neg hu]
        · have := z5 u (by omega)
          simp only [w_put_r, reduceIte, Nat.reduceEqDiff, pt_at] at this
          rw [if_neg (by omega), if_neg (by omega)] at this
          exact this
        · rw [sc] at hpos
          have d : ¬ pW G (pP cdb G (q + 1)) < 0 := fun d => by
            rw [if_pos d] at hpos
            have := (pB_ge hpos).1
            omega
          rw [if_neg d] at hpos
          obtain ⟨x0, x1, x2⟩ := pW_ge2 (show 0 ≤ pW G (pP cdb G (q + 1)) by omega)
          obtain ⟨c0, c1, c2⟩ := pP_ge x0
          rw [c2, show q + 1 + 1 = q + 2 by omega] at x1 x2
          have y2e := (hy2 (ha2.wm x0)).1
          have y3e := (hy3 (ha3.wm (by omega))).1
          rw [c2, show q + 1 + 1 = q + 2 by omega] at y3e
          have hlen := ha3.pos (by omega)
          rw [c2, show q + 1 + 1 = q + 2 by omega, x1] at hlen
          have sl : sfl G (k + 1) q = (G (q + 1), rowL G (q + 2)) :: sfl G k (q + 2 + (nw rwb G 40 (q + 2) : Nat)) := by
            rw [sfl, if_pos c.2]
          have e1 : pW G (pP cdb G (q + 1)) = q + 2 + (nw rwb G 40 (q + 2) : Nat) := by
            rw [c2, show q + 1 + 1 = q + 2 by omega, x1]
          rw [e1] at hpos z6
          obtain ⟨v1, v2⟩ := z6 (by omega) hpos
          rw [sl, List.length_cons]
          refine ⟨by rw [v1]; omega, fun j hj => ?_⟩
          rcases j with _ | j
          · have := z5 (13 * F + i + 0) (by omega)
            simp only [w_put_r, reduceIte, Nat.reduceEqDiff, pt_at] at this
            rw [if_pos (by omega), if_pos (by omega)] at this
            rw [this.1, this.2]
            refine ⟨y2e, ?_⟩
            show Rw (T.1 2) (f + len) y3 (rowL G (q + 2)).length (fun u => (rowL G (q + 2)).getD u 0)
            rw [y3e]
            exact Rw_text hT (by omega) hlen
          · have := v2 j (by omega)
            simp only [w_put_r, reduceIte, Nat.reduceEqDiff, pt_at] at this
            rw [show 13 * F + i + (j + 1) = 13 * F + (i + 1) + j by omega]
            exact this
      · have e1 : (if q < 0 then (-1 : Int) else G q) ≠ 36 := by
          by_cases d : q < 0
          · rw [if_pos d]
            decide
          · rw [if_neg d]
            exact fun z => c ⟨d, z⟩
        refine ok_t e1 ?_
        by_cases d : q < 0
        · refine tk_b (x_takeByte hT ha (by decide)) (fun _ a1 w1 ha1 _ => ok_s ?_)
          rw [pB_neg d] at ha1
          refine ⟨T, a1, w1, rfl, ?_, frm.refl _ _ _ _, fun _ _ => rfl, fun _ _ => ⟨rfl, rfl⟩, fun z _ => by omega⟩
          rw [if_pos d]
          exact ha1
        · have ne : ¬ G q = 36 := fun z => c ⟨d, z⟩
          exact stop (by rw [sfC, if_neg ne]) (by rw [sfl, if_neg ne])
def DrF1 (T : w_S) (t2 : Nat → Int) (top : Int) (F : Nat) (d : Fdl) : Prop := T.1 38 F = d.1 ∧ T.1 39 F = d.2.1 ∧ T.1 40 F = d.2.2.1 ∧ T.1 42 F = (d.2.2.2.length : Nat) ∧ ∀ j, j < d.2.2.2.length → T.1 43 (13 * F + j) = (d.2.2.2.getD j (0, [])).1 ∧ Rw t2 top (T.1 44 (13 * F + j)) (d.2.2.2.getD j (0, [])).2.length (fun u => (d.2.2.2.getD j (0, [])).2.getD u 0)
theorem x_addField1 {e : w_E} {N F : Nat} {T : w_S} {x y z : Int} (h1 : T.1 37 0 = F) (hF : F < 20) : E_Draft_addField_v1 e N x y z T = some ((F : Int), w_put (w_put (w_put (w_put (w_put T 38 F x) 39 F y) 40 F z) 42 F 0) 37 0 ((F : Int) + 1)) := by
  refine ok_eq ?_
  unfold E_Draft_addField_v1
  rw [h1, show ((F : Int)).toNat = F by omega]
  exact ok_t (by omega) (ok_ib (by omega) (ok_nb (by omega) (ok_nb (by omega) (ok_s ⟨by omega, rfl⟩))))
def Rf1 (T : w_S) (f len : Int) (G : Int → Int) (F : Nat) (p : Int) (S1 : w_S) : Prop := ∃ T' a' w', S1 = tp T' a' w' ∧ At f len a' w' (fqC G p) ∧ frm [38, 39, 40, 42, 43, 44] [37] [(37, 0)] T T' ∧ T'.1 37 0 = (F : Int) + 1 ∧ (∀ u, u ≠ F → T'.1 38 u = T.1 38 u ∧ T'.1 39 u = T.1 39 u ∧ T'.1 40 u = T.1 40 u ∧ T'.1 42 u = T.1 42 u) ∧ (∀ u, (u < 13 * F ∨ 13 * F + 13 ≤ u) → T'.1 43 u = T.1 43 u ∧ T'.1 44 u = T.1 44 u) ∧ (0 ≤ p → 0 ≤ fqC G p → DrF1 T' (T.1 2) (f + len) F (Fld G p))
theorem x_readField1 {e : w_E} {N F : Nat} {T : w_S} {f len a w p : Int} {G : Int → Int} (hN : 2001 ≤ N) (hF : F < 20) (hT : TX T f len G) (ha : At f len a w p) (h1 : T.1 37 0 = F) : Ok (E_Draft_readField_v1 e N (tp T a w)) (fun _ S1 => Rf1 T f len G F p S1) := by
  have hc : fqs G p < 0 → fqC G p = fqs G p := fun z => by
    unfold fqC
    rw [if_pos z]
  unfold E_Draft_readField_v1
  refine tk_b (x_takeTag hN hT ha) (fun y0 a0 w0 ha0 hy0 => ?_)
  dsimp only
  refine tk_b (x_takeByte hT ha0 (by decide)) (fun _ a1 w1 ha1 _ => ?_)
  dsimp only
  have e0 : pB G 32 (pT G 1 p) = fqs G p := rfl
  rw [e0] at ha1
  have yt : 0 ≤ fqs G p → y0 = vl G p 3 ∧ fqs G p = p + 4 ∧ 0 ≤ p := fun z => by
    obtain ⟨b1, b2, b3⟩ := pB_ge (show 0 ≤ pB G 32 (pT G 1 p) from z)
    have p0 := pT_ge b1
    refine ⟨(hy0 (ha0.wm b1)).1, ?_, p0⟩
    rw [← e0, b3]
    unfold pT at b1 ⊢
    rw [if_neg (by omega)] at b1 ⊢
    split at b1
    · omega
    · rename_i c1
      rw [if_neg c1]
      split at b1
      · omega
      · rename_i c2
        rw [if_neg c2]
        omega
  have t37 : ∀ a w, (tp T a w).1 37 0 = F := fun a w => by
    rw [tpo T a w (by decide)]
    exact h1
  by_cases c : 10 ≤ y0
  · refine ok_t c ?_
    refine tk_b (x_takeIndicator hT ha1) (fun y2 a2 w2 ha2 hy2 => ?_)
    dsimp only
    refine tk_b (x_takeIndicator hT ha2) (fun y3 a3 w3 ha3 hy3 => ?_)
    dsimp only
    refine ok_b (ok_of (x_addField1 (t37 a3 w3) hF) ?_)
    dsimp only
    rw [tp_put _ _ _ _ (by decide), tp_put _ _ _ _ (by decide), tp_put _ _ _ _ (by decide), tp_put _ _ _ _ (by decide), tp_put _ _ _ _ (by decide)]
    have hT1 : TX (w_put (w_put (w_put (w_put (w_put T 38 F y0) 39 F y2) 40 F y3) 42 F 0) 37 0 ((F : Int) + 1)) f len G := ((((hT.put (by decide) (by decide)).put (by decide) (by decide)).put (by decide) (by decide)).put (by decide) (by decide)).put (by decide) (by decide)
    obtain ⟨nf, hnf⟩ : ∃ n, N = n + 1 := ⟨N - 1, by omega⟩
    rw [show El_Draft_readField_v1 e N N = El_Draft_readField_v1 e N (nf + 1) by rw [← hnf], El_Draft_readField_v1]
    refine ok_e (by omega) (ok_e (fun z => z rfl) (ok_t rfl ?_))
    refine tk_b (x_takeByte hT1 ha3 (by decide)) (fun _ a4 w4 ha4 _ => ?_)
    dsimp only
    refine tk_b (x_takeCode hT1 ha4) (fun y5 a5 w5 ha5 hy5 => ?_)
    dsimp only
    refine tk_b (x_takeRow hN hT1 ha5) (fun y6 a6 w6 ha6 hy6 => ?_)
    dsimp only
    have u37 : (tp (w_put (w_put (w_put (w_put (w_put T 38 F y0) 39 F y2) 40 F y3) 42 F 0) 37 0 ((F : Int) + 1)) a6 w6).1 37 0 = (F : Int) + 1 := by
      rw [tpo _ a6 w6 (by decide)]
      simp only [w_put_r, reduceIte, Nat.reduceEqDiff, pt_at]
    have u42 : (tp (w_put (w_put (w_put (w_put (w_put T 38 F y0) 39 F y2) 40 F y3) 42 F 0) 37 0 ((F : Int) + 1)) a6 w6).1 42 F = ((0 : Nat) : Int) := by
      rw [tpo _ a6 w6 (by decide)]
      simp only [w_put_r, reduceIte, Nat.reduceEqDiff, pt_at]
      rfl
    refine ok_b (ok_of (x_addSub1 u37 u42 hF (by omega)) ?_)
    dsimp only
    rw [tp_put _ _ _ _ (by decide), tp_put _ _ _ _ (by decide), tp_put _ _ _ _ (by decide)]
    refine ok_nb (by omega) ?_
    have lr := l_rf1 (e := e) (N := N) (F := F) (f := f) (len := len) (G := G) hN hF 4 1 nf (w_put (w_put (w_put (w_put (w_put (w_put (w_put (w_put T 38 F y0) 39 F y2) 40 F y3) 42 F 0) 37 0 ((F : Int) + 1)) 43 (13 * F + 0) y5) 44 (13 * F + 0) y6) 42 F (((0 : Nat) : Int) + 1)) a6 w6 (pW G (pP cdb G (pB G 36 (pP inb G (pP inb G (fqs G p)))))) (by omega) (by omega) (by omega) (((hT1.put (by decide) (by decide)).put (by decide) (by decide)).put (by decide) (by decide)) ha6 (by simp only [w_put_r, reduceIte, Nat.reduceEqDiff, pt_at]) (by simp only [w_put_r, reduceIte, Nat.reduceEqDiff, pt_at]; omega)
    refine Ok.mono (show Ok (El_Draft_readField_v1 e N nf 0 [0, (F : Int), 0 + 1] [] _) _ from lr) (fun _ S1 z => ?_)
    obtain ⟨T', a', w', z1, z2, z3, z4, z5, z6⟩ := z
    refine ⟨T', a', w', z1, ?_, frm.trans (by repeat (first | exact frm.refl _ _ _ _ | refine frm.put ?_ rfl | refine frm.puto ?_ rfl rfl)) (z3.weak (by decide)), ?_, fun u hu => ⟨?_, ?_, ?_, ?_⟩, fun u hu => ?_, fun p0 hpos => ?_⟩
    · by_cases d : fqs G p < 0
      · rw [hc d]
        have e9 : pW G (pP cdb G (pB G 36 (pP inb G (pP inb G (fqs G p))))) = fqs G p := by
          rw [pP_neg d, pP_neg d, pB_neg d, pP_neg d, pW_neg d]
        rw [e9, if_pos d] at z2
        exact z2
      · have yt' := yt (by omega)
        unfold fqC
        rw [if_neg d, if_neg (by omega : ¬ vl G p 3 < 10)]
        unfold sfD
        by_cases g : pW G (pP cdb G (pB G 36 (pP inb G (pP inb G (fqs G p))))) < 0
        · rw [if_pos g, pB_neg g]
          rw [if_pos g] at z2
          exact z2
        · rw [if_neg g]
          rw [if_neg g] at z2
          exact z2
    · rw [z3.2.1 37 rfl rfl]
      simp only [w_put_r, reduceIte, Nat.reduceEqDiff, pt_at]
    · rw [z3.2.1 38 rfl rfl]
      simp only [w_put_r, reduceIte, Nat.reduceEqDiff, pt_at]
      rw [if_neg hu]
    · rw [z3.2.1 39 rfl rfl]
      simp only [w_put_r, reduceIte, Nat.reduceEqDiff, pt_at]
      rw [if_neg hu]
    · rw [z3.2.1 40 rfl rfl]
      simp only [w_put_r, reduceIte, Nat.reduceEqDiff, pt_at]
      rw [if_neg hu]
    · rw [z4 u hu]
      simp only [w_put_r, reduceIte, Nat.reduceEqDiff, pt_at]
      rw [if_neg hu, if_neg hu]
    · have := z5 u (by omega)
      simp only [w_put_r, reduceIte, Nat.reduceEqDiff, pt_at] at this
      rw [if_neg (by omega), if_neg (by omega)] at this
      exact this
    · have d : ¬ fqs G p < 0 := fun d => by
        rw [hc d] at hpos
        omega
      obtain ⟨v0, v1, _⟩ := yt (by omega)
      unfold fqC at hpos
      rw [if_neg d, if_neg (by omega : ¬ vl G p 3 < 10)] at hpos
      unfold sfD at hpos
      have g : ¬ pW G (pP cdb G (pB G 36 (pP inb G (pP inb G (fqs G p))))) < 0 := fun g => by
        rw [if_pos g] at hpos
        have := (pB_ge hpos).1
        omega
      rw [if_neg g] at hpos
      obtain ⟨x0, x1, x2⟩ := pW_ge2 (show 0 ≤ pW G (pP cdb G (pB G 36 (pP inb G (pP inb G (fqs G p))))) by omega)
      obtain ⟨c0, c1, c2⟩ := pP_ge x0
      obtain ⟨b0, b1, b2⟩ := pB_ge c0
      obtain ⟨i0, i1, i2⟩ := pP_ge b0
      obtain ⟨j0, j1, j2⟩ := pP_ge i0
      have k0 : pP inb G (fqs G p) = p + 5 := by omega
      have k1 : pP inb G (pP inb G (fqs G p)) = p + 6 := by omega
      have k2 : pB G 36 (pP inb G (pP inb G (fqs G p))) = p + 7 := by omega
      have k3 : pP cdb G (pB G 36 (pP inb G (pP inb G (fqs G p)))) = p + 8 := by omega
      have y2e := (hy2 (ha2.wm i0)).1
      have y3e := (hy3 (ha3.wm b0)).1
      have y5e := (hy5 (ha5.wm x0)).1
      have y6e := (hy6 (ha6.wm (by omega))).1
      have hlen := ha6.pos (by omega)
      rw [k3] at x1 x2 y6e
      rw [k3] at hpos hlen z6
      rw [k2] at y5e
      rw [k0] at y3e
      rw [v1] at y2e
      rw [x1] at hpos z6 hlen
      obtain ⟨o1, o2⟩ := z6 (by omega) hpos
      unfold Fld
      rw [if_neg (by omega : ¬ vl G p 3 < 10)]
      refine ⟨?_, ?_, ?_, ?_, fun j hj => ?_⟩
      · rw [z3.2.1 38 rfl rfl]
        simp only [w_put_r, reduceIte, Nat.reduceEqDiff, pt_at]
        exact v0
      · rw [z3.2.1 39 rfl rfl]
        simp only [w_put_r, reduceIte, Nat.reduceEqDiff, pt_at]
        exact y2e
      · rw [z3.2.1 40 rfl rfl]
        simp only [w_put_r, reduceIte, Nat.reduceEqDiff, pt_at]
        exact y3e
      · rw [o1]
        show _ = (((((G (p + 7), rowL G (p + 8)) :: sfl G 4 (p + 8 + (nw rwb G 40 (p + 8) : Nat))).length : Nat)) : Int)
        rw [List.length_cons]
        omega
      · rcases j with _ | j
        · have := z5 (13 * F + 0) (by omega)
          simp only [w_put_r, reduceIte, Nat.reduceEqDiff, pt_at] at this
          rw [this.1, this.2]
          refine ⟨y5e, ?_⟩
          show Rw (T.1 2) (f + len) y6 (rowL G (p + 8)).length (fun u => (rowL G (p + 8)).getD u 0)
          rw [y6e]
          exact Rw_text hT (by omega) hlen
        · have hj' : j < (sfl G 4 (p + 8 + (nw rwb G 40 (p + 8) : Nat))).length := by
            have hj2 : j + 1 < ((G (p + 7), rowL G (p + 8)) :: sfl G 4 (p + 8 + (nw rwb G 40 (p + 8) : Nat))).length := hj
            rw [List.length_cons] at hj2
            omega
          have := o2 j hj'
          simp only [w_put_r, reduceIte, Nat.reduceEqDiff, pt_at] at this
          rw [show 13 * F + (j + 1) = 13 * F + 1 + j by omega]
          exact this
  · refine ok_e c ?_
    refine ok_b (ok_of (x_addField1 (t37 a1 w1) hF) ?_)
    dsimp only
    rw [tp_put _ _ _ _ (by decide), tp_put _ _ _ _ (by decide), tp_put _ _ _ _ (by decide), tp_put _ _ _ _ (by decide), tp_put _ _ _ _ (by decide)]
    have hT1 : TX (w_put (w_put (w_put (w_put (w_put T 38 F y0) 39 F 0) 40 F 0) 42 F 0) 37 0 ((F : Int) + 1)) f len G := ((((hT.put (by decide) (by decide)).put (by decide) (by decide)).put (by decide) (by decide)).put (by decide) (by decide)).put (by decide) (by decide)
    refine tk_b (x_takeRow hN hT1 ha1) (fun y6 a6 w6 ha6 hy6 => ?_)
    dsimp only
    have u37 : (tp (w_put (w_put (w_put (w_put (w_put T 38 F y0) 39 F 0) 40 F 0) 42 F 0) 37 0 ((F : Int) + 1)) a6 w6).1 37 0 = (F : Int) + 1 := by
      rw [tpo _ a6 w6 (by decide)]
      simp only [w_put_r, reduceIte, Nat.reduceEqDiff, pt_at]
    have u42 : (tp (w_put (w_put (w_put (w_put (w_put T 38 F y0) 39 F 0) 40 F 0) 42 F 0) 37 0 ((F : Int) + 1)) a6 w6).1 42 F = ((0 : Nat) : Int) := by
      rw [tpo _ a6 w6 (by decide)]
      simp only [w_put_r, reduceIte, Nat.reduceEqDiff, pt_at]
      rfl
    refine ok_b (ok_of (x_addSub1 u37 u42 hF (by omega)) ?_)
    dsimp only
    rw [tp_put _ _ _ _ (by decide), tp_put _ _ _ _ (by decide), tp_put _ _ _ _ (by decide)]
    have hT2 : TX (w_put (w_put (w_put (w_put (w_put (w_put (w_put (w_put T 38 F y0) 39 F 0) 40 F 0) 42 F 0) 37 0 ((F : Int) + 1)) 43 (13 * F + 0) 0) 44 (13 * F + 0) y6) 42 F (((0 : Nat) : Int) + 1)) f len G := ((hT1.put (by decide) (by decide)).put (by decide) (by decide)).put (by decide) (by decide)
    obtain ⟨nf, hnf⟩ : ∃ n, N = n + 1 := ⟨N - 1, by omega⟩
    rw [show El_Draft_readField_v1 e N N = El_Draft_readField_v1 e N (nf + 1) by rw [← hnf], El_Draft_readField_v1]
    refine ok_e (by omega) (ok_t (by decide) ?_)
    refine tk_b (x_takeByte hT2 ha6 (by decide)) (fun _ a7 w7 ha7 _ => ok_s ?_)
    refine ⟨_, a7, w7, rfl, ?_, by repeat (first | exact frm.refl _ _ _ _ | refine frm.put ?_ rfl | refine frm.puto ?_ rfl rfl), by simp only [w_put_r, reduceIte, Nat.reduceEqDiff, pt_at], fun u hu => ?_, fun u hu => ?_, fun p0 hpos => ?_⟩
    · by_cases d : fqs G p < 0
      · rw [hc d]
        rw [pW_neg d, pB_neg d] at ha7
        exact ha7
      · have yt' := yt (by omega)
        unfold fqC
        rw [if_neg d, if_pos (by omega : vl G p 3 < 10)]
        exact ha7
    · simp only [w_put_r, reduceIte, Nat.reduceEqDiff, pt_at]
      rw [if_neg hu, if_neg hu, if_neg hu, if_neg hu, if_neg hu]
      exact ⟨rfl, rfl, rfl, rfl⟩
    · simp only [w_put_r, reduceIte, Nat.reduceEqDiff, pt_at]
      rw [if_neg (by omega), if_neg (by omega)]
      exact ⟨rfl, rfl⟩
    · have d : ¬ fqs G p < 0 := fun d => by
        rw [hc d] at hpos
        omega
      obtain ⟨v0, v1, _⟩ := yt (by omega)
      unfold fqC at hpos
      rw [if_neg d, if_pos (by omega : vl G p 3 < 10)] at hpos
      have r0 := (pB_ge hpos).1
      have y6e := (hy6 (ha6.wm r0)).1
      have hlen := ha6.pos r0
      obtain ⟨x0, x1, x2⟩ := pW_ge2 r0
      rw [x1, v1] at hlen
      rw [v1] at y6e
      unfold Fld
      rw [if_pos (by omega : vl G p 3 < 10)]
      refine ⟨?_, ?_, ?_, ?_, fun j hj => ?_⟩
      · simp only [w_put_r, reduceIte, Nat.reduceEqDiff, pt_at]
        exact v0
      · simp only [w_put_r, reduceIte, Nat.reduceEqDiff, pt_at]
      · simp only [w_put_r, reduceIte, Nat.reduceEqDiff, pt_at]
      · simp only [w_put_r, reduceIte, Nat.reduceEqDiff, pt_at]
        rfl
      · have hj2 : j < 1 := hj
        have j0 : j = 0 := by omega
        subst j0
        simp only [w_put_r, reduceIte, Nat.reduceEqDiff, pt_at]
        refine ⟨rfl, ?_⟩
        show Rw (T.1 2) (f + len) y6 (rowL G (p + 4)).length (fun u => (rowL G (p + 4)).getD u 0)
        rw [y6e]
        exact Rw_text hT (by omega) hlen
end
section
-- g3
/-- a step of a batch: its kind, tag, code, row, field -/
abbrev Bst : Type := Int × Int × Int × List Int × Fdl
def fd0 : Fdl := (0, 0, 0, [])
def sts (G : Int → Int) (q : Int) : Int := pB G 32 (pL G (skw (skd G q)) q)
/-- where a step's line ends -/
def stq (G : Int → Int) (q : Int) : Int := if sts G q < 0 then sts G q else if skd G q = 0 then pB G 10 (pT G 1 (sts G q)) else if skd G q = 1 then pB G 10 (pW G (pB G 32 (pP cdb G (pB G 32 (pT G 10 (sts G q)))))) else fqC G (sts G q)
def bsp (G : Int → Int) (q : Int) : Bst := if skd G q = 0 then (0, vl G (q + 4) 3, 0, [], fd0) else if skd G q = 1 then (1, vl G (q + 4) 3, G (q + 8), rowL G (q + 10), fd0) else (2, 0, 0, [], Fld G (q + 4))
/-- a step as the class holds it -/
def BsC (g : Nat → Int) (T : w_S) (t2 : Nat → Int) (top : Int) (i : Nat) (s : Bst) : Prop := g (4 * i) = s.1 ∧ (s.1 = 0 → g (4 * i + 1) = s.2.1) ∧ (s.1 = 1 → g (4 * i + 1) = s.2.1 ∧ g (4 * i + 2) = s.2.2.1 ∧ Rw t2 top (g (4 * i + 3)) s.2.2.2.1.length (fun u => s.2.2.2.1.getD u 0)) ∧ (s.1 = 2 → ∃ F : Nat, g (4 * i + 1) = (F : Int) ∧ (F : Int) < T.1 37 0 ∧ F < 8 ∧ DrF1 T t2 top F s.2.2.2.2)
theorem skd_bd (G : Int → Int) (q : Int) : skd G q = 0 ∨ skd G q = 1 ∨ skd G q = 2 := by
  unfold skd
  split
  · exact Or.inl rfl
  · split
    · exact Or.inr (Or.inl rfl)
    · exact Or.inr (Or.inr rfl)
theorem pL_ge {G : Int → Int} : ∀ {L : List Int} {q : Int}, 0 ≤ pL G L q → 0 ≤ q ∧ pL G L q = q + (L.length : Nat)
  | [], q, h => ⟨h, by rw [pL, List.length_nil]; omega⟩
  | c :: cs, q, h => by
    rw [pL] at h ⊢
    obtain ⟨h1, h2⟩ := pL_ge h
    obtain ⟨h3, _, h4⟩ := pB_ge h1
    rw [h2, h4, List.length_cons]
    exact ⟨h3, by omega⟩
theorem sts_ge {G : Int → Int} {q : Int} (h : 0 ≤ sts G q) : 0 ≤ q ∧ sts G q = q + 4 := by
  unfold sts at h ⊢
  obtain ⟨h1, _, h2⟩ := pB_ge h
  obtain ⟨h3, h4⟩ := pL_ge h1
  have l3 : (skw (skd G q)).length = 3 := by
    unfold skw
    split
    · rfl
    · split <;> rfl
  rw [h2, h4, l3]
  exact ⟨h3, by omega⟩
theorem pT_ge2 {G : Int → Int} {lo q : Int} (h : 0 ≤ pT G lo q) : 0 ≤ q ∧ pT G lo q = q + 3 := by
  have h0 := pT_ge h
  refine ⟨h0, ?_⟩
  unfold pT at h ⊢
  rw [if_neg (by omega)] at h ⊢
  split at h
  · omega
  · rename_i c1
    rw [if_neg c1]
    split at h
    · omega
    · rename_i c2
      rw [if_neg c2]
theorem pP_ge2 {P : Int → Bool} {G : Int → Int} {q : Int} (h : 0 ≤ pP P G q) : 0 ≤ q ∧ P (G q) = true ∧ pP P G q = q + 1 := by
  unfold pP at h ⊢
  split at h
  · omega
  · rename_i c
    split at h
    · rename_i c1
      rw [if_neg c, if_pos c1]
      exact ⟨by omega, c1, rfl⟩
    · omega
/-- places of a step that sets -/
theorem set_ge {G : Int → Int} {s : Int} (h : 0 ≤ pB G 10 (pW G (pB G 32 (pP cdb G (pB G 32 (pT G 10 s)))))) : 0 ≤ s ∧ pT G 10 s = s + 3 ∧ pB G 32 (pT G 10 s) = s + 4 ∧ pP cdb G (pB G 32 (pT G 10 s)) = s + 5 ∧ cdb (G (s + 4)) = true ∧ pB G 32 (pP cdb G (pB G 32 (pT G 10 s))) = s + 6 ∧ pW G (s + 6) = s + 6 + (nw rwb G 40 (s + 6) : Nat) ∧ 1 ≤ nw rwb G 40 (s + 6) ∧ pB G 10 (pW G (pB G 32 (pP cdb G (pB G 32 (pT G 10 s))))) = s + 6 + (nw rwb G 40 (s + 6) : Nat) + 1 := by
  obtain ⟨a1, _, a2⟩ := pB_ge h
  obtain ⟨b1, b2, b3⟩ := pW_ge2 a1
  obtain ⟨c1, _, c2⟩ := pB_ge b1
  obtain ⟨d1, d2, d3⟩ := pP_ge2 c1
  obtain ⟨e1, _, e2⟩ := pB_ge d1
  obtain ⟨f1, f2⟩ := pT_ge2 e1
  have hA : pB G 32 (pT G 10 s) = s + 4 := by omega
  have hB : pP cdb G (pB G 32 (pT G 10 s)) = s + 5 := by omega
  have hC : pB G 32 (pP cdb G (pB G 32 (pT G 10 s))) = s + 6 := by omega
  rw [hC] at b2 b3 a2
  rw [hA] at d2
  rw [hC]
  exact ⟨f1, f2, hA, hB, d2, rfl, b2, b3, by omega⟩
/-- a line of a batch, the class -/
theorem x_ln4 {e : w_E} {N i F : Nat} {T : w_S} {f len a w q : Int} {G : Int → Int} {K : w_S → e_R} {Q : Int → w_S → Prop} (hN : 2001 ≤ N) (hT : TX T f len G) (ha : At f len a w q) (hi : i < 8) (hF : F ≤ i) (h37 : T.1 37 0 = (F : Int)) (hk : ∀ (T' : w_S) (F' : Nat) (a' w' : Int), At f len a' w' (if q < 0 then q else stq G q) → frm [36, 38, 39, 40, 42, 43, 44] [37] [(37, 0)] T T' → T'.1 37 0 = (F' : Int) → F ≤ F' → F' ≤ F + 1 → (∀ u, u < 4 * i → T'.1 36 u = T.1 36 u) → (∀ u, u < F → T'.1 38 u = T.1 38 u ∧ T'.1 39 u = T.1 39 u ∧ T'.1 40 u = T.1 40 u ∧ T'.1 42 u = T.1 42 u) → (∀ u, u < 13 * F → T'.1 43 u = T.1 43 u ∧ T'.1 44 u = T.1 44 u) → (0 ≤ q → 0 ≤ stq G q → BsC (T'.1 36) T' (T.1 2) (f + len) i (bsp G q)) → Ok (K (tp T' a' w')) Q) : Ok (Ln4 e N 4 (i : Int) (tp T a w) K) Q := by
  unfold Ln4
  refine tk_b (x_word1 hN hT ha) (fun y a0 w0 ha0 hy0 => ?_)
  dsimp only
  refine tk_b (x_takeByte hT ha0 (by decide)) (fun _ a1 w1 ha1 _ => ?_)
  dsimp only
  rw [show ((i : Int) * 4).toNat = 4 * i by omega, show ((i : Int) * 4 + 1).toNat = 4 * i + 1 by omega, show ((i : Int) * 4 + 2).toNat = 4 * i + 2 by omega, show ((i : Int) * 4 + 3).toNat = 4 * i + 3 by omega]
  refine ok_ib (by omega) ?_
  generalize hs : pB G 32 (pK (wl 1) G q) = s at ha1
  -- where the word is right
  have good : 0 ≤ s → 0 ≤ q ∧ y = skd G q ∧ s = sts G q ∧ s = q + 4 := fun c => by
    rw [← hs] at c
    obtain ⟨c1, _, c2⟩ := pB_ge c
    have q0 : 0 ≤ q := by
      rcases Int.lt_or_le q 0 with d | d
      · rw [pK_neg d] at c1
        exact c1
      · exact d
    obtain ⟨k1, k2⟩ := st_word (G := G) q0
    have e1 : s = sts G q := by
      rw [← hs]
      unfold sts
      rw [k1]
    refine ⟨q0, ?_, e1, ?_⟩
    · rw [(hy0 (ha0.wm c1)).1, k2 c1]
    · rw [e1]
      refine (sts_ge ?_).2
      rw [← e1, ← hs]
      exact c
  have bad : s < 0 → (if q < 0 then q else stq G q) = s := fun c => by
    by_cases d : q < 0
    · rw [if_pos d, ← hs, pK_neg d, pB_neg d]
    · rw [if_neg d]
      obtain ⟨k1, k2⟩ := st_word (G := G) (show 0 ≤ q by omega)
      have e1 : sts G q = s := by
        rw [← hs]
        unfold sts
        rw [k1]
      unfold stq
      rw [e1, if_pos c]
  by_cases c0 : y = 0
  · -- del
    refine ok_e (fun z => z c0) (ok_nb (by omega) ?_)
    rw [tp_put _ _ _ _ (by decide)]
    have hT1 : TX (w_put T 36 (4 * i) y) f len G := hT.put (by decide) (by decide)
    refine tk_b (x_takeTag hN hT1 ha1) (fun y2 a2 w2 ha2 hy2 => ?_)
    dsimp only
    refine ok_ib (by omega) ?_
    rw [tp_put _ _ _ _ (by decide)]
    refine tk_b (x_takeByte (hT1.put (by decide) (by decide)) ha2 (by decide)) (fun _ a3 w3 ha3 _ => ?_)
    dsimp only
    refine ok_nb (by omega) (hk _ F a3 w3 ?_ (by repeat (first | exact frm.refl _ _ _ _ | refine frm.put ?_ rfl | refine frm.puto ?_ rfl rfl)) (by simp only [w_put_r, reduceIte, Nat.reduceEqDiff, pt_at]; exact h37) (Nat.le_refl _) (by omega) (fun u hu => ?_) (fun u hu => ?_) (fun u hu => ?_) (fun q0 sq => ?_))
    · by_cases cs : s < 0
      · rw [bad cs]
        rw [pT_neg cs, pB_neg cs] at ha3
        exact ha3
      · obtain ⟨g1, g2, g3, g4⟩ := good (by omega)
        rw [if_neg (by omega)]
        unfold stq
        rw [← g3, if_neg cs, if_pos (by omega)]
        exact ha3
    · simp only [w_put_r, reduceIte, Nat.reduceEqDiff, pt_at]
      rw [if_neg (by omega), if_neg (by omega)]
    · simp only [w_put_r, reduceIte, Nat.reduceEqDiff, pt_at]
      exact ⟨trivial, trivial, trivial, trivial⟩
    · simp only [w_put_r, reduceIte, Nat.reduceEqDiff, pt_at]
      exact ⟨trivial, trivial⟩
    · have cs : 0 ≤ s := by
        rcases Int.lt_or_le s 0 with d | d
        · have := bad d
          rw [if_neg (by omega)] at this
          omega
        · exact d
      obtain ⟨g1, g2, g3, g4⟩ := good cs
      have sk : skd G q = 0 := by omega
      unfold stq at sq
      rw [← g3, if_neg (by omega), if_pos sk] at sq
      have t1 := (pB_ge sq).1
      have y2e := (hy2 (ha2.wm t1)).1
      unfold bsp
      rw [if_pos sk]
      refine ⟨?_, fun _ => ?_, fun z => (by cases z), fun z => (by cases z)⟩
      · simp only [w_put_r, reduceIte, Nat.reduceEqDiff, pt_at]
        rw [if_neg (by omega)]
        exact c0
      · simp only [w_put_r, reduceIte, Nat.reduceEqDiff, pt_at]
        rw [y2e, g4]
  refine ok_t c0 ?_
  by_cases c1 : y = 1
  · -- set
    refine ok_e (fun z => z c1) (ok_nb (by omega) ?_)
    rw [tp_put _ _ _ _ (by decide)]
    have hT1 : TX (w_put T 36 (4 * i) y) f len G := hT.put (by decide) (by decide)
    refine tk_b (x_takeTag hN hT1 ha1) (fun y2 a2 w2 ha2 hy2 => ?_)
    dsimp only
    refine ok_ib (by omega) ?_
    rw [tp_put _ _ _ _ (by decide)]
    have hT2 : TX (w_put (w_put T 36 (4 * i) y) 36 (4 * i + 1) y2) f len G := hT1.put (by decide) (by decide)
    refine tk_b (x_takeByte hT2 ha2 (by decide)) (fun _ a3 w3 ha3 _ => ?_)
    dsimp only
    refine ok_nb (by omega) (tk_b (x_takeCode hT2 ha3) (fun y4 a4 w4 ha4 hy4 => ?_))
    dsimp only
    refine ok_ib (by omega) ?_
    rw [tp_put _ _ _ _ (by decide)]
    have hT3 : TX (w_put (w_put (w_put T 36 (4 * i) y) 36 (4 * i + 1) y2) 36 (4 * i + 2) y4) f len G := hT2.put (by decide) (by decide)
    refine tk_b (x_takeByte hT3 ha4 (by decide)) (fun _ a5 w5 ha5 _ => ?_)
    dsimp only
    refine ok_nb (by omega) (tk_b (x_takeRow hN hT3 ha5) (fun y6 a6 w6 ha6 hy6 => ?_))
    dsimp only
    refine ok_ib (by omega) ?_
    rw [tp_put _ _ _ _ (by decide)]
    refine tk_b (x_takeByte (hT3.put (by decide) (by decide)) ha6 (by decide)) (fun _ a7 w7 ha7 _ => ?_)
    dsimp only
    refine ok_nb (by omega) (hk _ F a7 w7 ?_ (by repeat (first | exact frm.refl _ _ _ _ | refine frm.put ?_ rfl | refine frm.puto ?_ rfl rfl)) (by simp only [w_put_r, reduceIte, Nat.reduceEqDiff, pt_at]; exact h37) (Nat.le_refl _) (by omega) (fun u hu => ?_) (fun u hu => ?_) (fun u hu => ?_) (fun q0 sq => ?_))
    · by_cases cs : s < 0
      · rw [bad cs]
        rw [pT_neg cs, pB_neg cs, pP_neg cs, pB_neg cs, pW_neg cs, pB_neg cs] at ha7
        exact ha7
      · obtain ⟨g1, g2, g3, g4⟩ := good (by omega)
        rw [if_neg (by omega)]
        unfold stq
        rw [← g3, if_neg cs, if_neg (by omega), if_pos (by omega)]
        exact ha7
    · simp only [w_put_r, reduceIte, Nat.reduceEqDiff, pt_at]
      rw [if_neg (by omega), if_neg (by omega), if_neg (by omega), if_neg (by omega)]
    · simp only [w_put_r, reduceIte, Nat.reduceEqDiff, pt_at]
      exact ⟨trivial, trivial, trivial, trivial⟩
    · simp only [w_put_r, reduceIte, Nat.reduceEqDiff, pt_at]
      exact ⟨trivial, trivial⟩
    · have cs : 0 ≤ s := by
        rcases Int.lt_or_le s 0 with d | d
        · have := bad d
          rw [if_neg (by omega)] at this
          omega
        · exact d
      obtain ⟨g1, g2, g3, g4⟩ := good cs
      have sk : skd G q = 1 := by omega
      unfold stq at sq
      rw [← g3, if_neg (by omega), if_neg (by omega), if_pos sk] at sq
      obtain ⟨t1, t2, t3, t4, t5, t6, t7, t8, t9⟩ := set_ge sq
      rw [t2] at ha2
      rw [t3] at ha3 hy4
      rw [t4] at ha4
      rw [t6] at ha5 ha6 hy6
      have y2e := (hy2 (ha2.wm (by omega))).1
      have y4e := (hy4 (ha4.wm (by omega))).1
      have y6e := (hy6 (ha6.wm (by omega))).1
      have rl := ha6.pos (by omega)
      unfold bsp
      rw [if_neg (by omega), if_pos sk]
      refine ⟨?_, fun z => (by cases z), fun _ => ⟨?_, ?_, ?_⟩, fun z => (by cases z)⟩
      · simp only [w_put_r, reduceIte, Nat.reduceEqDiff, pt_at]
        rw [if_neg (by omega), if_neg (by omega), if_neg (by omega)]
        exact c1
      · simp only [w_put_r, reduceIte, Nat.reduceEqDiff, pt_at]
        rw [if_neg (by omega), if_neg (by omega), y2e, g4]
      · simp only [w_put_r, reduceIte, Nat.reduceEqDiff, pt_at]
        rw [if_neg (by omega), y4e, g4, show q + 4 + 4 = q + 8 by omega]
      · simp only [w_put_r, reduceIte, Nat.reduceEqDiff, pt_at]
        rw [y6e, g4, show q + 4 + 6 = q + 10 by omega]
        rw [g4, show q + 4 + 6 = q + 10 by omega] at rl t7
        exact Rw_text hT (by omega) (by omega)
  -- add
  refine ok_t c1 (ok_nb (by omega) (ok_ib (by omega) ?_))
  rw [tp_put _ _ _ _ (by decide), tp_put _ _ _ _ (by decide), show (tp T a1 w1).1 37 0 = (F : Int) by rw [tpo T a1 w1 (by decide)]; exact h37]
  have hT1 : TX (w_put (w_put T 36 (4 * i) y) 36 (4 * i + 1) (F : Int)) f len G := (hT.put (by decide) (by decide)).put (by decide) (by decide)
  refine ok_b ((x_readField1 (e := e) (F := F) hN (by omega) hT1 ha1 (by simp only [w_put_r, reduceIte, Nat.reduceEqDiff, pt_at]; exact h37)).mono ?_)
  intro _ S1 ⟨T', a', w', r1, r2, r3, r4, r5, r6, r7⟩
  rw [r1]
  dsimp only
  refine ok_nb (by omega) (hk T' (F + 1) a' w' ?_ (frm.trans (S' := w_put (w_put T 36 (4 * i) y) 36 (4 * i + 1) (F : Int)) (by repeat (first | exact frm.refl _ _ _ _ | refine frm.put ?_ rfl | refine frm.puto ?_ rfl rfl)) (r3.weak (by decide))) (by rw [r4]; omega) (by omega) (by omega) (fun u hu => ?_) (fun u hu => ?_) (fun u hu => ?_) (fun q0 sq => ?_))
  · by_cases cs : s < 0
    · rw [bad cs]
      have : fqC G s = s := by
        unfold fqC
        have e1 : fqs G s = s := by
          show pB G 32 (pT G 1 s) = s
          rw [pT_neg cs, pB_neg cs]
        rw [e1, if_pos cs]
      rw [this] at r2
      exact r2
    · obtain ⟨g1, g2, g3, g4⟩ := good (by omega)
      rw [if_neg (by omega)]
      unfold stq
      rw [← g3, if_neg cs, if_neg (by omega), if_neg (by omega)]
      exact r2
  · rw [r3.2.1 36 rfl rfl]
    simp only [w_put_r, reduceIte, Nat.reduceEqDiff, pt_at]
    rw [if_neg (by omega), if_neg (by omega)]
  · obtain ⟨k1, k2, k3, k4⟩ := r5 u (by omega)
    rw [k1, k2, k3, k4]
    simp only [w_put_r, reduceIte, Nat.reduceEqDiff, pt_at]
    exact ⟨trivial, trivial, trivial, trivial⟩
  · obtain ⟨k1, k2⟩ := r6 u (by omega)
    rw [k1, k2]
    simp only [w_put_r, reduceIte, Nat.reduceEqDiff, pt_at]
    exact ⟨trivial, trivial⟩
  · have cs : 0 ≤ s := by
      rcases Int.lt_or_le s 0 with d | d
      · have := bad d
        rw [if_neg (by omega)] at this
        omega
      · exact d
    obtain ⟨g1, g2, g3, g4⟩ := good cs
    have sk := skd_bd G q
    unfold stq at sq
    rw [← g3, if_neg (by omega), if_neg (by omega), if_neg (by omega)] at sq
    unfold bsp
    rw [if_neg (by omega), if_neg (by omega), r3.2.1 36 rfl rfl]
    refine ⟨?_, fun z => (by cases z), fun z => (by cases z), fun _ => ⟨F, ?_, by rw [r4]; omega, by omega, ?_⟩⟩
    · simp only [w_put_r, reduceIte, Nat.reduceEqDiff, pt_at]
      rw [if_neg (by omega)]
      omega
    · simp only [w_put_r, reduceIte, Nat.reduceEqDiff, pt_at]
    · have := r7 cs sq
      rw [g4] at this
      exact this
end
