section
-- f3
theorem wps_in : ∀ (l : List Int) (i sz : Nat) (w : Nat × Nat), sz ≤ i → w ∈ wps l i sz → 1 ≤ w.2 ∧ i - sz ≤ w.1 ∧ w.1 + w.2 ≤ i + l.length
  | [], i, sz, w, h, hw => by
    rw [wps] at hw
    split at hw
    · cases hw
    · rw [List.mem_singleton.1 hw, List.length_nil]
      dsimp only
      omega
  | b :: l, i, sz, w, h, hw => by
    rw [wps] at hw
    rw [List.length_cons]
    split at hw
    · have := wps_in l (i + 1) (sz + 1) w (by omega) hw
      omega
    · split at hw
      · have := wps_in l (i + 1) 0 w (by omega) hw
        omega
      · rcases List.mem_cons.1 hw with hw | hw
        · rw [hw]
          dsimp only
          omega
        · have := wps_in l (i + 1) 0 w (by omega) hw
          omega
/-- the words of a row as bytes -/
def wds (row : List Int) : List (List Int) := (wps row 0 0).map (fun w => (row.drop w.1).take w.2)
theorem wds_len (row : List Int) (h : row.length ≤ 40) : (wds row).length ≤ 20 := by
  have := wps_len row 0 0
  rw [if_pos rfl] at this
  unfold wds
  rw [List.length_map]
  omega
/-- the class's words of a record, with their bytes -/
def SwB (T : w_S) (sw : List (List Int × Nat)) : Prop := T.1 94 15 = ((sw.length : Nat) : Int) ∧ ∀ i, i < sw.length → ∃ p : Nat, T.1 104 i = (p : Int) * 64 + (((sw.getD i ([], 0)).1.length : Nat) : Int) ∧ p + (sw.getD i ([], 0)).1.length ≤ 10240 ∧ (sw.getD i ([], 0)).1.length ≤ 40 ∧ (∀ k, k < (sw.getD i ([], 0)).1.length → T.1 2 (p + k) = (sw.getD i ([], 0)).1.getD k 0) ∧ T.1 105 i = (((sw.getD i ([], 0)).2 : Nat) : Int)
theorem take_get {row : List Int} {s n k : Nat} (h : s + n ≤ row.length) (hk : k < n) : ((row.drop s).take n).length = n ∧ ((row.drop s).take n).getD k 0 = row.getD (s + k) 0 := by
  have l1 : ((row.drop s).take n).length = n := by
    rw [List.length_take, List.length_drop]
    omega
  refine ⟨l1, ?_⟩
  rw [List.getD_eq_getElem?_getD, List.getD_eq_getElem?_getD, List.getElem?_take, if_pos hk, List.getElem?_drop]
theorem getD_map' {α β : Type} {l : List α} {g : α → β} {d : α} {d' : β} {i : Nat} (h : i < l.length) : (l.map g).getD i d' = g (l.getD i d) := by
  rw [List.getD_eq_getElem?_getD, List.getD_eq_getElem?_getD, List.getElem?_map, List.getElem?_eq_getElem h]
  rfl
theorem getD_app {α : Type} {l m : List α} {d : α} {i : Nat} : (l ++ m).getD i d = if i < l.length then l.getD i d else m.getD (i - l.length) d := by
  rw [List.getD_eq_getElem?_getD, List.getD_eq_getElem?_getD, List.getD_eq_getElem?_getD]
  by_cases c : i < l.length
  · rw [if_pos c, List.getElem?_append_left c]
  · rw [if_neg c, List.getElem?_append_right (by omega)]
theorem l_split2 {e : w_E} {N A m slot : Nat} (hm : m < 64) (hA : A + m ≤ 10240) (row : List Int) (hrow : row.length = m) (h40 : m ≤ 40) : ∀ (nf : Nat) (T : w_S) (sw : List (List Int × Nat)), 43 < nf → (∀ u, u < m → T.1 2 (A + u) = row.getD u 0) → SwB T sw → sw.length + (wds row).length ≤ 1200 → Ok (El_Question_splitRow e N nf 0 [(slot : Int), (A : Int), (m : Int), 0, 0] [] T) (fun _ T1 => frm [104, 105] [94] [(94, 15)] T T1 ∧ SwB T1 (sw ++ (wds row).map (fun w => (w, slot)))) := by
  intro nf T sw g1 g2 g3 g4
  -- what stands there already, as places
  have old : ∃ sc : List (Nat × Nat × Nat), sc.length = sw.length ∧ SwC T sc := by
    refine ⟨(List.range sw.length).map (fun i => ((T.1 104 i).toNat / 64, (T.1 104 i).toNat % 64, (T.1 105 i).toNat)), by rw [List.length_map, List.length_range], by rw [List.length_map, List.length_range]; exact g3.1, fun i hi => ?_⟩
    rw [List.length_map, List.length_range] at hi
    rw [getD_map' (d := 0) (by rw [List.length_range]; exact hi)]
    have ri : (List.range sw.length).getD i 0 = i := by
      rw [List.getD_eq_getElem?_getD, List.getElem?_range hi]
      rfl
    rw [ri]
    obtain ⟨p, p1, p2, p3, p4, p5⟩ := g3.2 i hi
    dsimp only
    omega
  obtain ⟨sc, sc1, sc2⟩ := old
  have wl : (wds row).length = (wps row 0 0).length := by
    unfold wds
    rw [List.length_map]
  refine (l_split (e := e) (N := N) (slot := slot) hm hA row 0 0 nf T sc (by omega) (by omega) (by omega) (fun u hu => by rw [Nat.add_zero]; exact g2 u (by omega)) sc2 (by omega)).mono ?_
  intro _ T1 ⟨q1, q2⟩
  refine ⟨q1, ?_, fun i hi => ?_⟩
  · rw [q2.1, List.length_append, List.length_append, List.length_map, List.length_map, sc1, wl]
  · rw [List.length_append, List.length_map, wl] at hi
    have h2 := q2.2 i (by rw [List.length_append, List.length_map, sc1]; omega)
    rw [getD_app, sc1] at h2
    rw [getD_app]
    by_cases c : i < sw.length
    · rw [if_pos c]
      rw [if_pos c] at h2
      obtain ⟨p, p1, p2, p3, p4, p5⟩ := g3.2 i c
      have h3 := sc2.2 i (by omega)
      exact ⟨p, by rw [h2.1, ← h3.1]; exact p1, p2, p3, fun k hk => by rw [q1.2.1 2 rfl rfl]; exact p4 k hk, by rw [h2.2, ← h3.2]; exact p5⟩
    · rw [if_neg c]
      rw [if_neg c] at h2
      have hj : i - sw.length < (wps row 0 0).length := by omega
      rw [getD_map' (d := (0, 0)) hj] at h2
      have e1 : ((wds row).map (fun w => (w, slot))).getD (i - sw.length) ([], 0) = ((row.drop ((wps row 0 0).getD (i - sw.length) (0, 0)).1).take ((wps row 0 0).getD (i - sw.length) (0, 0)).2, slot) := by
        rw [getD_map' (d := []) (by rw [wl]; exact hj)]
        unfold wds
        rw [getD_map' (d := (0, 0)) hj]
      rw [e1]
      have mem : (wps row 0 0).getD (i - sw.length) (0, 0) ∈ wps row 0 0 := by
        rw [List.getD_eq_getElem?_getD, List.getElem?_eq_getElem hj, Option.getD_some]
        exact List.getElem_mem hj
      have wi := wps_in row 0 0 _ (by omega) mem
      generalize (wps row 0 0).getD (i - sw.length) (0, 0) = w at *
      obtain ⟨s, n⟩ := w
      dsimp only at h2 wi ⊢
      have tl := (take_get (row := row) (s := s) (n := n) (k := 0) (by omega) (by omega)).1
      rw [tl]
      refine ⟨A + s, h2.1, by omega, by omega, fun k hk => ?_, h2.2⟩
      rw [(take_get (row := row) (s := s) (n := n) (k := k) (by omega) hk).2, q1.2.1 2 rfl rfl, ← g2 (s + k) (by omega), show A + s + k = A + (s + k) by omega]
/-- the rows of fields from one on, with their places -/
def srw (F : Nat) : Nat → List Sfl → List (Nat × List Int)
  | _, [] => []
  | j, s :: l => (13 * F + j, s.2) :: srw F (j + 1) l
def rws : Nat → List Fdl → List (Nat × List Int)
  | _, [] => []
  | F, f :: l => srw F 0 f.2.2.2 ++ rws (F + 1) l
/-- all words of them -/
def aws (l : List (Nat × List Int)) : List (List Int × Nat) := l.flatMap (fun r => (wds r.2).map (fun w => (w, r.1)))
theorem srw_len (F : Nat) : ∀ (l : List Sfl) (j : Nat), (srw F j l).length = l.length
  | [], _ => rfl
  | s :: l, j => by rw [srw, List.length_cons, List.length_cons, srw_len F l]
theorem aws_len : ∀ {l : List (Nat × List Int)}, (∀ r, r ∈ l → r.2.length ≤ 40) → (aws l).length ≤ 20 * l.length
  | [], _ => by simp [aws]
  | r :: l, h => by
    have h1 := wds_len r.2 (h r List.mem_cons_self)
    have ih := aws_len (l := l) (fun x hx => h x (List.mem_cons_of_mem _ hx))
    unfold aws at ih ⊢
    rw [List.flatMap_cons, List.length_append, List.length_map, List.length_cons]
    omega
theorem srw_in {F : Nat} : ∀ {l : List Sfl} {j : Nat} {r : Nat × List Int}, r ∈ srw F j l → ∃ s, s ∈ l ∧ r.2 = s.2
  | [], _, _, h => by cases h
  | s :: l, j, r, h => by
    rw [srw] at h
    rcases List.mem_cons.1 h with h | h
    · exact ⟨s, List.mem_cons_self, by rw [h]⟩
    · obtain ⟨t, t1, t2⟩ := srw_in h
      exact ⟨t, List.mem_cons_of_mem _ t1, t2⟩
theorem l_sw1 {e : w_E} {N F : Nat} {top : Int} {S0 : w_S} {n : Nat} {P : Int → w_S → Prop} (hN : 100 ≤ N) (hF : F < 20) (hn : n ≤ 13) (htop : top ≤ 10240) (h125 : S0.1 125 F = n) : ∀ (ss : List Sfl) (j nf : Nat) (S : w_S) (sw : List (List Int × Nat)), j + ss.length = n → ss.length < nf → (∀ i, i < ss.length → Rw (S0.1 2) top (S0.1 127 (13 * F + j + i)) (ss.getD i (0, [])).2.length (fun u => (ss.getD i (0, [])).2.getD u 0)) → (∀ s, s ∈ ss → vrow s.2) → frm [104, 105] [94] [(94, 15)] S0 S → SwB S sw → sw.length + (aws (srw F j ss)).length ≤ 1200 → (∀ S1 n', nf ≤ n' + ss.length + 1 → frm [104, 105] [94] [(94, 15)] S0 S1 → SwB S1 (sw ++ aws (srw F j ss)) → Ok (El_Question_splitWords e N n' 0 [(F : Int) + 1] [] S1) P) → Ok (El_Question_splitWords e N nf 1 [(F : Int), (j : Int)] [] S) P
  | _, _, 0, _, _, _, h, _, _, _, _, _, _ => by omega
  | [], j, nf + 1, S, sw, g1, g2, g3, g4, g5, g6, g7, g8 => by
    rw [List.length_nil] at g1
    rw [El_Question_splitWords, show ((F : Int)).toNat = F by omega, g5.2.1 125 rfl rfl, h125]
    have := g8 S nf (by rw [List.length_nil]; omega) g5 (by rw [srw, show aws [] = [] from rfl, List.append_nil]; exact g6)
    exact ok_ib (by omega) (ok_t (by omega) (ok_nb (by omega) this))
  | s :: ss, j, nf + 1, S, sw, g1, g2, g3, g4, g5, g6, g7, g8 => by
    rw [List.length_cons] at g1 g2
    obtain ⟨A, q2, q3, q4⟩ := g3 0 (by rw [List.length_cons]; omega)
    rw [List.getD_cons_zero] at q2 q3 q4
    rw [Nat.add_zero] at q2
    have sv := g4 s List.mem_cons_self
    have aw : aws (srw F j (s :: ss)) = (wds s.2).map (fun w => (w, 13 * F + j)) ++ aws (srw F (j + 1) ss) := by
      unfold aws
      rw [srw, List.flatMap_cons]
    rw [aw, List.length_append, List.length_map] at g7
    rw [El_Question_splitWords, show ((F : Int)).toNat = F by omega, g5.2.1 125 rfl rfl, h125, show ((F : Int) * 13 + (j : Int)).toNat = 13 * F + j by omega, show (F : Int) * 13 + (j : Int) = ((13 * F + j : Nat) : Int) by omega, g5.2.1 127 rfl rfl, q2]
    refine ok_ib (by omega) (ok_e (by omega) (ok_nb (by omega) (ok_nb (by omega) (ok_ib (by omega) (ok_b ?_)))))
    unfold E_Question_splitRow
    have v40 := sv.2.1
    rw [b_and63 (by omega) (by omega), b_shr6 (by omega) (by omega), show ((A : Int) * 64 + (s.2.length : Nat)) % 64 = (s.2.length : Nat) by omega, show ((A : Int) * 64 + (s.2.length : Nat)) / 64 = A by omega]
    refine (l_split2 (e := e) (N := N) (A := A) (m := s.2.length) (slot := 13 * F + j) (by omega) (by omega) s.2 rfl v40 N S sw (by omega) (fun u hu => by rw [g5.2.1 2 rfl rfl]; exact q4 u hu) g6 (by omega)).mono ?_
    intro _ S1 ⟨z1, z2⟩
    refine ok_nb (by omega) ?_
    rw [show (j : Int) + 1 = ((j + 1 : Nat) : Int) by omega]
    refine l_sw1 hN hF hn htop h125 ss (j + 1) nf S1 _ (by omega) (by omega) (fun i hi => ?_) (fun t ht => g4 t (List.mem_cons_of_mem _ ht)) (g5.trans z1) z2 (by rw [List.length_append, List.length_map]; omega) (fun S2 n' h1 h2 h3 => g8 S2 n' (by rw [List.length_cons]; omega) h2 ?_)
    · have := g3 (i + 1) (by rw [List.length_cons]; omega)
      rw [List.getD_cons_succ] at this
      rw [show 13 * F + (j + 1) + i = 13 * F + j + (i + 1) by omega]
      exact this
    · rw [aw, ← List.append_assoc]
      exact h3
theorem l_sw0 {e : w_E} {N : Nat} {top : Int} {S0 : w_S} {D : List Fdl} (hN : 100 ≤ N) (htop : top ≤ 10240) (hD2 : D.length ≤ 12) (hD : Dr S0 (S0.1 2) top D) : ∀ (l : List Fdl) (F nf : Nat) (S : w_S) (sw : List (List Int × Nat)), F + l.length = D.length → 8 * l.length < nf → (∀ i, i < l.length → D.getD (F + i) (0, 0, 0, []) = l.getD i (0, 0, 0, [])) → (∀ f, f ∈ l → vfd f ∧ f.2.2.2.length ≤ 5) → frm [104, 105] [94] [(94, 15)] S0 S → SwB S sw → sw.length + 100 * l.length ≤ 1200 → Ok (El_Question_splitWords e N nf 0 [(F : Int)] [] S) (fun _ S1 => frm [104, 105] [94] [(94, 15)] S0 S1 ∧ SwB S1 (sw ++ aws (rws F l)))
  | _, _, 0, _, _, _, h, _, _, _, _, _ => by omega
  | [], F, nf + 1, S, sw, g1, g2, g3, g4, g5, g6, g7 => by
    rw [List.length_nil] at g1
    rw [El_Question_splitWords, g5.2.1 120 rfl rfl, hD.1]
    refine ok_t (by omega) (ok_s ⟨g5, ?_⟩)
    rw [rws, show aws [] = [] from rfl, List.append_nil]
    exact g6
  | f :: l, F, nf + 1, S, sw, g1, g2, g3, g4, g5, g6, g7 => by
    rw [List.length_cons] at g1 g2 g7
    obtain ⟨fv, f5⟩ := g4 f List.mem_cons_self
    have df := hD.2 F (by omega)
    have e0 := g3 0 (by rw [List.length_cons]; omega)
    rw [Nat.add_zero, List.getD_cons_zero] at e0
    rw [e0] at df
    have al := aws_len (l := srw F 0 f.2.2.2) (fun r hr => by
      obtain ⟨s, s1, s2⟩ := srw_in hr
      rw [s2]
      exact (fv.2.2.1 s s1).2.1)
    rw [srw_len] at al
    have aw : aws (rws F (f :: l)) = aws (srw F 0 f.2.2.2) ++ aws (rws (F + 1) l) := by
      unfold aws
      rw [rws, List.flatMap_append]
    rw [El_Question_splitWords, g5.2.1 120 rfl rfl, hD.1]
    refine ok_e (by omega) ?_
    refine l_sw1 (top := top) (n := f.2.2.2.length) hN (by omega) (by omega) htop df.2.2.2.1 f.2.2.2 0 nf S sw (by omega) (by omega) (fun i hi => (df.2.2.2.2 i hi).2) fv.2.2.1 g5 g6 (by omega) (fun S1 n' h1 h2 h3 => ?_)
    rw [show (F : Int) + 1 = ((F + 1 : Nat) : Int) by omega]
    refine (l_sw0 hN htop hD2 hD l (F + 1) n' S1 _ (by omega) (by omega) (fun i hi => ?_) (fun g hg => g4 g (List.mem_cons_of_mem _ hg)) h2 h3 (by rw [List.length_append]; omega)).mono ?_
    · have := g3 (i + 1) (by rw [List.length_cons]; omega)
      rw [List.getD_cons_succ] at this
      rw [← this, show F + 1 + i = F + (i + 1) by omega]
    · intro _ S2 ⟨z1, z2⟩
      refine ⟨z1, ?_⟩
      rw [aw, ← List.append_assoc]
      exact z2
/-- the class makes out the words of a record -/
theorem x_swords {e : w_E} {N : Nat} {top : Int} {S : w_S} {D : List Fdl} (hN : 1000 ≤ N) (htop : top ≤ 10240) (hD2 : D.length ≤ 12) (hD : Dr S (S.1 2) top D) (hv : ∀ f, f ∈ D → vfd f ∧ f.2.2.2.length ≤ 5) : Ok (E_Question_splitWords e N S) (fun _ S1 => frm [104, 105] [94] [(94, 15)] S S1 ∧ SwB S1 (aws (rws 0 D))) := by
  unfold E_Question_splitWords
  have f0 : frm [104, 105] [94] [(94, 15)] S (w_put S 94 15 0) := by repeat (first | exact frm.refl _ _ _ _ | refine frm.put ?_ rfl | refine frm.puto ?_ rfl rfl)
  have s0 : SwB (w_put S 94 15 0) [] := ⟨by simp only [w_put_r, reduceIte, Nat.reduceEqDiff, pt_at]; rfl, fun i hi => absurd hi (by simp)⟩
  refine (l_sw0 (e := e) (N := N) (by omega) htop hD2 hD D 0 N _ [] (by omega) (by omega) (fun i hi => by rw [Nat.zero_add]) hv f0 s0 (by rw [List.length_nil]; omega)).mono ?_
  intro _ S1 ⟨z1, z2⟩
  exact ⟨z1, z2⟩
end
section
-- f4
/-- a byte of a word, small -/
def low (b : Int) : Int := if 65 ≤ b ∧ b ≤ 90 then b + 32 else b
theorem b_low {b : Int} (h : wby b = true) : w_or b 32 = low b := by
  have h1 := wby_iff.1 h
  rw [b_or32 b (by omega) (by omega)]
  unfold low
  split <;> split <;> omega
/-- do the bytes of a question's word begin a word? -/
def eqw : List Int → List Int → Bool
  | [], _ => true
  | _ :: _, [] => false
  | q :: qs, w :: ws => decide (low w = q) && eqw qs ws
def okw (pre : Bool) (q w : List Int) : Bool := (if pre = true then decide (q.length ≤ w.length) else decide (w.length = q.length)) && eqw q w
/-- do words stand at the beginning of others? -/
def mt (pre : Bool) : List (List Int) → List (List Int) → Bool
  | [], _ => true
  | _ :: _, [] => false
  | q :: l, w :: ws => okw pre q w && mt pre l ws
/-- the same among words with places, in one row -/
def mtS (pre : Bool) (s : Nat) : List (List Int) → List (List Int × Nat) → Bool
  | [], _ => true
  | _ :: _, [] => false
  | q :: l, w :: ws => decide (w.2 = s) && (okw pre q w.1 && mtS pre s l ws)
theorem mtS_mt {pre : Bool} {s : Nat} {rest : List (List Int × Nat)} (h : ∀ x, x ∈ rest → x.2 ≠ s) : ∀ (l ws : List (List Int)), mtS pre s l (ws.map (fun w => (w, s)) ++ rest) = mt pre l ws
  | [], _ => by rw [mtS, mt]
  | q :: l, [] => by
    rw [List.map_nil, List.nil_append, mt]
    cases rest with
    | nil => rfl
    | cons x rest =>
      rw [mtS, decide_eq_false (h x List.mem_cons_self), Bool.false_and]
  | q :: l, w :: ws => by
    rw [List.map_cons, List.cons_append, mtS, mt, mtS_mt h l ws, decide_eq_true rfl, Bool.true_and]
/-- the words of a term, as the class keeps them -/
def QW (T : w_S) (t : Nat) (pre : Bool) (l : List (List Int)) : Prop := T.1 99 t = ((l.length : Nat) : Int) ∧ 1 ≤ l.length ∧ l.length ≤ 4 ∧ T.1 100 t = bi pre ∧ ∃ wb : Nat, T.1 98 t = (wb : Nat) ∧ wb + l.length ≤ 80 ∧ ∀ w, w < l.length → ∃ p : Nat, T.1 102 (wb + w) = (p : Int) * 64 + (((l.getD w []).length : Nat) : Int) ∧ p + (l.getD w []).length ≤ 10240 ∧ 1 ≤ (l.getD w []).length ∧ (l.getD w []).length ≤ 12 ∧ ∀ u, u < (l.getD w []).length → T.1 2 (p + u) = (l.getD w []).getD u 0
theorem l_ph1 {e : w_E} {N t p4 p5 m : Nat} {x1 x3 y4 y5 : Int} {T : w_S} {P : Int → w_S → Prop} (hx3 : 0 ≤ x3 ∧ x3 ≤ 100) (h4 : w_shr y4 6 = (p4 : Nat)) (h5 : w_shr y5 6 = (p5 : Nat)) (hb4 : p4 + m ≤ 10240) : ∀ (qs ws : List Int) (k nf : Nat) (b : Bool), k + qs.length = m → qs.length < nf → (b = true → qs.length ≤ ws.length ∧ p5 + k + ws.length ≤ 10240) → (∀ u, u < qs.length → T.1 2 (p4 + k + u) = qs.getD u 0) → (∀ u, u < ws.length → T.1 2 (p5 + k + u) = ws.getD u 0) → (∀ w, w ∈ ws → wby w = true) → ((b && eqw qs ws) = false → P 0 T) → ((b && eqw qs ws) = true → ∀ n', nf ≤ n' + qs.length + 1 → Ok (El_Question_isPhraseAt e N n' 0 [x1, (t : Int), x3 + 1] [] T) P) → Ok (El_Question_isPhraseAt e N nf 1 [x1, (t : Int), x3, y4, y5, (m : Int), bi b, (k : Int)] [] T) P
  | _, _, _, 0, _, _, h, _, _, _, _, _, _ => by omega
  | qs, ws, k, nf + 1, false, g1, g2, g3, g4, g5, g6, g7, g8 => by
    rw [El_Question_isPhraseAt]
    exact ok_t rfl (ok_s (g7 rfl))
  | [], ws, k, nf + 1, true, g1, g2, g3, g4, g5, g6, g7, g8 => by
    rw [List.length_nil] at g1
    rw [El_Question_isPhraseAt]
    exact ok_e (by decide) (ok_t (by omega) (ok_nb (by omega) (g8 (by rw [eqw]; rfl) nf (by rw [List.length_nil]; omega))))
  | q :: qs, [], k, nf + 1, true, g1, g2, g3, g4, g5, g6, g7, g8 => by
    have := (g3 rfl).1
    rw [List.length_cons, List.length_nil] at this
    omega
  | q :: qs, w :: ws, k, nf + 1, true, g1, g2, g3, g4, g5, g6, g7, g8 => by
    obtain ⟨g31, g32⟩ := g3 rfl
    rw [List.length_cons] at g1 g2
    rw [List.length_cons, List.length_cons] at g31
    rw [List.length_cons] at g32
    have hq := g4 0 (by rw [List.length_cons]; omega)
    have hw := g5 0 (by rw [List.length_cons]; omega)
    rw [List.getD_cons_zero, Nat.add_zero] at hq hw
    rw [eqw, Bool.true_and] at g7 g8
    have t4 : ∀ u, u < qs.length → T.1 2 (p4 + (k + 1) + u) = qs.getD u 0 := fun u hu => by
      have := g4 (u + 1) (by rw [List.length_cons]; omega)
      rw [List.getD_cons_succ] at this
      rw [← this, show p4 + (k + 1) + u = p4 + k + (u + 1) by omega]
    have t5 : ∀ u, u < ws.length → T.1 2 (p5 + (k + 1) + u) = ws.getD u 0 := fun u hu => by
      have := g5 (u + 1) (by rw [List.length_cons]; omega)
      rw [List.getD_cons_succ] at this
      rw [← this, show p5 + (k + 1) + u = p5 + k + (u + 1) by omega]
    rw [El_Question_isPhraseAt, h4, h5, show (((p5 : Nat) : Int) + (k : Int)).toNat = p5 + k by omega, show (((p4 : Nat) : Int) + (k : Int)).toNat = p4 + k by omega, hq, hw, b_low (g6 w List.mem_cons_self)]
    refine ok_e (by decide) (ok_e (by omega) (ok_nb (by omega) (ok_ib (by omega) (ok_nb (by omega) (ok_ib (by omega) ?_)))))
    rw [show (k : Int) + 1 = ((k + 1 : Nat) : Int) by omega]
    by_cases c : low w = q
    · rw [decide_eq_true c, Bool.true_and] at g7 g8
      refine ok_e (fun z => z c) (ok_nb (by omega) ?_)
      exact l_ph1 (e := e) hx3 h4 h5 hb4 qs ws (k + 1) nf true (by omega) (by omega) (fun _ => ⟨by omega, by omega⟩) t4 t5 (fun x hx => g6 x (List.mem_cons_of_mem _ hx)) (by rw [Bool.true_and]; exact g7) (fun z n' hn' => g8 (by rw [Bool.true_and] at z; exact z) n' (by rw [List.length_cons]; omega))
    · rw [decide_eq_false c, Bool.false_and] at g7
      refine ok_t c (ok_nb (by omega) ?_)
      exact l_ph1 (e := e) hx3 h4 h5 hb4 qs ws (k + 1) nf false (by omega) (by omega) (fun z => by cases z) t4 t5 (fun x hx => g6 x (List.mem_cons_of_mem _ hx)) (fun _ => g7 rfl) (fun z => by cases z)
theorem and63_row {p n : Nat} (hp : p + n ≤ 10240) (hn : n < 64) : w_and ((p : Int) * 64 + (n : Nat)) 63 = (n : Nat) ∧ w_shr ((p : Int) * 64 + (n : Nat)) 6 = (p : Nat) := by
  rw [b_and63 (by omega) (by omega), b_shr6 (by omega) (by omega)]
  omega
theorem drop_cons {α : Type} {l : List α} {i : Nat} {d : α} (h : i < l.length) : l.drop i = l.getD i d :: l.drop (i + 1) := by
  rw [List.drop_eq_getElem_cons h, List.getD_eq_getElem?_getD, List.getElem?_eq_getElem h, Option.getD_some]
/-- the class: do a term's words stand from a word on? -/
theorem l_ph0 {e : w_E} {N t i : Nat} {T : w_S} {pre : Bool} {l : List (List Int)} {sw : List (List Int × Nat)} (ht : t < 20) (hW : QW T t pre l) (hS : SwB T sw) (hb : ∀ x, x ∈ sw → ∀ w, w ∈ x.1 → wby w = true) (hi : i + l.length ≤ sw.length) (h12 : sw.length ≤ 1200) : ∀ (k j nf : Nat), j + k = l.length → 20 * k < nf → El_Question_isPhraseAt e N nf 0 [(i : Int), (t : Int), (j : Int)] [] T = some (bi (mtS pre (sw.getD i ([], 0)).2 (l.drop j) (sw.drop (i + j))), T)
  | _, _, 0, _, h => by omega
  | 0, j, nf + 1, g1, g2 => by
    refine ok_eq ?_
    rw [El_Question_isPhraseAt, show ((t : Int)).toNat = t by omega, hW.1, List.drop_of_length_le (by omega), mtS]
    exact ok_ib (by omega) (ok_t (by omega) (ok_s ⟨rfl, rfl⟩))
  | k + 1, j, nf + 1, g1, g2 => by
    obtain ⟨w1, w2, w3, w4, wb, w5, w6, w7⟩ := hW
    obtain ⟨p4, a1, a2, a3, a4, a5⟩ := w7 j (by omega)
    obtain ⟨p5, b1, b2, b3, b4, b5⟩ := hS.2 (i + j) (by omega)
    have b0 := hS.2 i (by omega)
    obtain ⟨_, _, _, _, _, c5⟩ := b0
    have d1 : l.drop j = l.getD j [] :: l.drop (j + 1) := drop_cons (by omega)
    have d2 : sw.drop (i + j) = sw.getD (i + j) ([], 0) :: sw.drop (i + j + 1) := drop_cons (by omega)
    have mem : sw.getD (i + j) ([], 0) ∈ sw := by
      rw [List.getD_eq_getElem?_getD, List.getElem?_eq_getElem (show i + j < sw.length by omega), Option.getD_some]
      exact List.getElem_mem _
    have hbw := hb _ mem
    have ih := l_ph0 (e := e) (N := N) ht ⟨w1, w2, w3, w4, wb, w5, w6, w7⟩ hS hb hi h12 k (j + 1)
    rw [show i + (j + 1) = i + j + 1 by omega] at ih
    rw [d1, d2, mtS]
    generalize l.getD j [] = q at *
    generalize sw.getD (i + j) ([], 0) = x at *
    generalize (sw.getD i ([], 0)).2 = s0 at *
    obtain ⟨r1, r2⟩ := and63_row a2 (show q.length < 64 by omega)
    obtain ⟨r3, r4⟩ := and63_row b2 (show x.1.length < 64 by omega)
    refine ok_eq ?_
    rw [El_Question_isPhraseAt, show ((t : Int)).toNat = t by omega, w1, w5, w4, show (((wb : Nat) : Int) + (j : Int)).toNat = wb + j by omega, show ((i : Int) + (j : Int)).toNat = i + j by omega, show ((i : Int)).toNat = i by omega, a1, b1, b5, c5, r1, r3]
    refine ok_ib (by omega) (ok_e (by omega) (ok_nb (by omega) (ok_ib (by omega) (ok_nb (by omega) (ok_ib (by omega) (ok_ib (by omega) ?_))))))
    have go : ∀ (b : Bool), (b = true → q.length ≤ x.1.length) → (decide (x.2 = s0) && (okw pre q x.1)) = (b && eqw q x.1) → Ok (El_Question_isPhraseAt e N nf 1 [(i : Int), (t : Int), (j : Int), (p4 : Int) * 64 + ((q.length : Nat) : Int), (p5 : Int) * 64 + ((x.1.length : Nat) : Int), ((q.length : Nat) : Int), bi b, 0] [] T) (fun y S1 => y = bi (decide (x.2 = s0) && (okw pre q x.1 && mtS pre s0 (l.drop (j + 1)) (sw.drop (i + j + 1)))) ∧ S1 = T) := by
      intro b h1 h2
      refine l_ph1 (e := e) (N := N) (t := t) (m := q.length) (by omega) r2 r4 a2 q x.1 0 nf b (by omega) (by omega) (fun z => ⟨h1 z, by omega⟩) (fun u hu => by rw [Nat.add_zero]; exact a5 u hu) (fun u hu => by rw [Nat.add_zero]; exact b4 u hu) hbw (fun z => ?_) (fun z n' hn' => ?_)
      · rw [← Bool.and_assoc, h2, z, Bool.false_and]
        exact ⟨rfl, rfl⟩
      · rw [← Bool.and_assoc, h2, z, Bool.true_and, show (j : Int) + 1 = ((j + 1 : Nat) : Int) by omega]
        exact ok_of (ih n' (by omega) (by omega)) ⟨rfl, rfl⟩
    by_cases c1 : x.2 = s0
    rotate_left
    · refine ok_t (by omega) (go false (fun z => by cases z) ?_)
      rw [decide_eq_false c1, Bool.false_and, Bool.false_and]
    refine ok_e (by omega) ?_
    unfold okw at go ⊢
    rw [decide_eq_true c1, Bool.true_and] at go ⊢
    cases pre with
    | false =>
      rw [if_neg (show ¬ (false = true) by decide)] at go
      refine ok_t rfl ?_
      by_cases c2 : x.1.length = q.length
      · refine ok_e (by omega) ?_
        have := go true (fun _ => by omega) (by rw [decide_eq_true c2])
        exact this
      · refine ok_t (by omega) ?_
        have := go false (fun z => by cases z) (by rw [decide_eq_false c2])
        exact this
    | true =>
      rw [if_pos rfl] at go
      refine ok_e (by decide) ?_
      by_cases c2 : q.length ≤ x.1.length
      · refine ok_e (by omega) ?_
        have := go true (fun _ => c2) (by rw [decide_eq_true c2])
        exact this
      · refine ok_t (by omega) ?_
        have := go false (fun z => by cases z) (by rw [decide_eq_false c2])
        exact this
end
section
-- f5
/-- does a term look into a field with a tag? -/
def tld (p tag : Int) : Bool := if p = 0 then decide (tag = 245) else if p = 1 then (decide (tag = 100) || decide (tag = 700)) else if p = 2 then decide (tag = 650) else true
def tmS (p : Int) (pre : Bool) (l : List (List Int)) (tg : Nat → Int) : List (List Int × Nat) → Bool
  | [] => false
  | w :: ws => (tld p (tg (w.2 / 13)) && mtS pre w.2 l (w :: ws)) || tmS p pre l tg ws
theorem mtS_short {pre : Bool} {s : Nat} : ∀ (l : List (List Int)) (ws : List (List Int × Nat)), ws.length < l.length → mtS pre s l ws = false
  | [], _, h => by rw [List.length_nil] at h; omega
  | q :: l, [], _ => rfl
  | q :: l, w :: ws, h => by
    rw [List.length_cons, List.length_cons] at h
    rw [mtS, mtS_short l ws (by omega), Bool.and_false, Bool.and_false]
theorem tmS_short {p : Int} {pre : Bool} {l : List (List Int)} {tg : Nat → Int} : ∀ (ws : List (List Int × Nat)), ws.length < l.length → tmS p pre l tg ws = false
  | [], _ => rfl
  | w :: ws, h => by
    have h2 := h
    rw [List.length_cons] at h2
    rw [tmS, mtS_short l (w :: ws) h, Bool.and_false, tmS_short ws (by omega), Bool.false_or]
theorem l_tm0 {e : w_E} {N t : Nat} {T : w_S} {pre : Bool} {l : List (List Int)} {sw : List (List Int × Nat)} {p : Int} (hN : 100 ≤ N) (ht : t < 20) (hW : QW T t pre l) (hS : SwB T sw) (hb : ∀ x, x ∈ sw → (∀ w, w ∈ x.1 → wby w = true) ∧ x.2 < 260) (h12 : sw.length ≤ 1200) (hp : T.1 97 t = p) (hp2 : 0 ≤ p ∧ p ≤ 3) : ∀ (k i nf : Nat), i + k = sw.length → k < nf → El_Question_isTermMet e N nf 0 [(t : Int), (i : Int)] [] T = some (bi (tmS p pre l (fun F => T.1 121 F) (sw.drop i)), T)
  | _, _, 0, _, h => by omega
  | 0, i, nf + 1, g1, g2 => by
    obtain ⟨w1, w2, _⟩ := hW
    refine ok_eq ?_
    rw [El_Question_isTermMet, show ((t : Int)).toNat = t by omega, w1, hS.1, List.drop_of_length_le (by omega), tmS]
    exact ok_ib (by omega) (ok_nb (by omega) (ok_t (by omega) (ok_s ⟨rfl, rfl⟩)))
  | k + 1, i, nf + 1, g1, g2 => by
    have hWW := hW
    obtain ⟨w1, w2, w3, _⟩ := hWW
    have ih := l_tm0 (e := e) (N := N) hN ht hW hS hb h12 hp hp2 k (i + 1) nf (by omega) (by omega)
    refine ok_eq ?_
    rw [El_Question_isTermMet, show ((t : Int)).toNat = t by omega, w1, hS.1, hp]
    refine ok_ib (by omega) (ok_nb (by omega) ?_)
    by_cases c : ((sw.length : Nat) : Int) < (i : Int) + ((l.length : Nat) : Int)
    · rw [tmS_short _ (by rw [List.length_drop]; omega)]
      exact ok_t c (ok_s ⟨rfl, rfl⟩)
    refine ok_e c ?_
    have ph := l_ph0 (e := e) (N := N) (i := i) ht hW hS (fun x hx => (hb x hx).1) (by omega) h12 l.length 0 N (by omega) (by omega)
    have ph' : E_Question_isPhraseAt e N (i : Int) (t : Int) T = some (bi (mtS pre (sw.getD i ([], 0)).2 l (sw.drop i)), T) := by
      rw [List.drop_zero, Nat.add_zero] at ph
      exact ph
    obtain ⟨p5, b1, b2, b3, b4, b5⟩ := hS.2 i (by omega)
    have d2 : sw.drop i = sw.getD i ([], 0) :: sw.drop (i + 1) := drop_cons (by omega)
    have mem : sw.getD i ([], 0) ∈ sw := by
      rw [List.getD_eq_getElem?_getD, List.getElem?_eq_getElem (show i < sw.length by omega), Option.getD_some]
      exact List.getElem_mem _
    have hb2 := (hb _ mem).2
    rw [d2] at ph' ⊢
    rw [tmS]
    generalize hx : sw.getD i ([], 0) = x at *
    rw [show ((i : Int)).toNat = i by omega, b5, b_div (by omega) (by omega) (by omega) (by omega), show (((x.2 : Nat) : Int) / 13).toNat = x.2 / 13 by omega, show (i : Int) + 1 = ((i + 1 : Nat) : Int) by omega]
    refine ok_ib (by omega) (ok_ib (by omega) ?_)
    -- the field is looked into, or not
    have yes : tld p (T.1 121 (x.2 / 13)) = true → Ok ((E_Question_isPhraseAt e N (i : Int) (t : Int) T).bind (fun q548 => (if q548.1 = 0 then (if w_nb (((i + 1 : Nat) : Int)) = true then El_Question_isTermMet e N nf 0 [(t : Int), ((i + 1 : Nat) : Int)] [] q548.2 else none) else some (1, q548.2)))) (fun y S1 => y = bi ((tld p (T.1 121 (x.2 / 13)) && mtS pre x.2 l (x :: sw.drop (i + 1))) || tmS p pre l (fun F => T.1 121 F) (sw.drop (i + 1))) ∧ S1 = T) := by
      intro z
      rw [z, Bool.true_and]
      refine ok_b (ok_of ph' ?_)
      dsimp only
      cases hm : mtS pre x.2 l (x :: sw.drop (i + 1)) with
      | false =>
        rw [Bool.false_or]
        exact ok_t rfl (ok_nb (by omega) (ok_of ih ⟨rfl, rfl⟩))
      | true =>
        rw [Bool.true_or]
        exact ok_e (by decide) (ok_s ⟨rfl, rfl⟩)
    have no : tld p (T.1 121 (x.2 / 13)) = false → Ok (if w_nb (((i + 1 : Nat) : Int)) = true then El_Question_isTermMet e N nf 0 [(t : Int), ((i + 1 : Nat) : Int)] [] T else none) (fun y S1 => y = bi ((tld p (T.1 121 (x.2 / 13)) && mtS pre x.2 l (x :: sw.drop (i + 1))) || tmS p pre l (fun F => T.1 121 F) (sw.drop (i + 1))) ∧ S1 = T) := by
      intro z
      rw [z, Bool.false_and, Bool.false_or]
      exact ok_nb (by omega) (ok_of ih ⟨rfl, rfl⟩)
    rcases (show p = 0 ∨ p = 1 ∨ p = 2 ∨ p = 3 by omega) with rfl | rfl | rfl | rfl
    · show Ok (if T.1 121 (x.2 / 13) ≠ 245 then _ else _) _
      by_cases c1 : T.1 121 (x.2 / 13) = 245
      · exact ok_e (fun z => z c1) (yes (decide_eq_true c1))
      · exact ok_t c1 (no (decide_eq_false c1))
    · show Ok (if T.1 121 (x.2 / 13) = 100 then _ else _) _
      by_cases c1 : T.1 121 (x.2 / 13) = 100
      · refine ok_t c1 (yes ?_)
        show (decide (T.1 121 (x.2 / 13) = 100) || _) = true
        rw [decide_eq_true c1, Bool.true_or]
      · refine ok_e c1 ?_
        by_cases c2 : T.1 121 (x.2 / 13) = 700
        · refine ok_e (fun z => z c2) (yes ?_)
          show (decide (T.1 121 (x.2 / 13) = 100) || decide (T.1 121 (x.2 / 13) = 700)) = true
          rw [decide_eq_true c2, Bool.or_true]
        · refine ok_t c2 (no ?_)
          show (decide (T.1 121 (x.2 / 13) = 100) || decide (T.1 121 (x.2 / 13) = 700)) = false
          rw [decide_eq_false c1, decide_eq_false c2]
          rfl
    · show Ok (if T.1 121 (x.2 / 13) ≠ 650 then _ else _) _
      by_cases c1 : T.1 121 (x.2 / 13) = 650
      · exact ok_e (fun z => z c1) (yes (decide_eq_true c1))
      · exact ok_t c1 (no (decide_eq_false c1))
    · exact yes rfl
end
section
-- f6
/-- do a term's words stand somewhere among the words of a row? -/
def sfx (pre : Bool) (l : List (List Int)) : List (List Int) → Bool
  | [] => false
  | w :: ws => mt pre l (w :: ws) || sfx pre l ws
def anyR (pre : Bool) (l : List (List Int)) : List Sfl → Bool
  | [] => false
  | s :: ss => sfx pre l (wds s.2) || anyR pre l ss
/-- does a record meet a term with words? -/
def dcm (p : Int) (pre : Bool) (l : List (List Int)) : List Fdl → Bool
  | [] => false
  | f :: D => (tld p f.1 && anyR pre l f.2.2.2) || dcm p pre l D
theorem tmS_row {p : Int} {pre : Bool} {l : List (List Int)} {tg : Nat → Int} {s : Nat} {rest : List (List Int × Nat)} (h : ∀ x, x ∈ rest → x.2 ≠ s) : ∀ (ws : List (List Int)), tmS p pre l tg (ws.map (fun w => (w, s)) ++ rest) = ((tld p (tg (s / 13)) && sfx pre l ws) || tmS p pre l tg rest)
  | [] => by
    rw [List.map_nil, List.nil_append, sfx, Bool.and_false, Bool.false_or]
  | w :: ws => by
    have e1 := mtS_mt (pre := pre) (s := s) h l (w :: ws)
    rw [List.map_cons, List.cons_append] at e1
    rw [List.map_cons, List.cons_append, tmS, e1, tmS_row h ws, sfx, ← Bool.or_assoc, ← Bool.and_or_distrib_left]
theorem aws_mem {l : List (Nat × List Int)} {x : List Int × Nat} (h : x ∈ aws l) : ∃ r, r ∈ l ∧ x.2 = r.1 ∧ x.1 ∈ wds r.2 := by
  unfold aws at h
  rw [List.mem_flatMap] at h
  obtain ⟨r, r1, r2⟩ := h
  obtain ⟨w, w1, w2⟩ := List.mem_map.1 r2
  exact ⟨r, r1, by rw [← w2], by rw [← w2]; exact w1⟩
theorem srw_slot {F : Nat} : ∀ {l : List Sfl} {j : Nat} {r : Nat × List Int}, r ∈ srw F j l → 13 * F + j ≤ r.1 ∧ r.1 < 13 * F + j + l.length
  | [], _, _, h => by cases h
  | s :: l, j, r, h => by
    rw [srw] at h
    rw [List.length_cons]
    rcases List.mem_cons.1 h with h | h
    · rw [h]
      dsimp only
      omega
    · have := srw_slot h
      omega
theorem rws_slot : ∀ {l : List Fdl} {F : Nat} {r : Nat × List Int}, r ∈ rws F l → 13 * F ≤ r.1
  | [], _, _, h => by cases h
  | f :: l, F, r, h => by
    rw [rws] at h
    rcases List.mem_append.1 h with h | h
    · have := srw_slot h
      omega
    · have := rws_slot h
      omega
theorem tmS_sub {p : Int} {pre : Bool} {l : List (List Int)} {tg : Nat → Int} {F : Nat} {rows : List (Nat × List Int)} (h : ∀ r, r ∈ rows → 13 * F + 13 ≤ r.1) : ∀ (ss : List Sfl) (j : Nat), j + ss.length ≤ 13 → tmS p pre l tg (aws (srw F j ss ++ rows)) = ((tld p (tg F) && anyR pre l ss) || tmS p pre l tg (aws rows))
  | [], j, _ => by
    rw [srw, List.nil_append, anyR, Bool.and_false, Bool.false_or]
  | s :: ss, j, hj => by
    rw [List.length_cons] at hj
    have e1 : aws (srw F j (s :: ss) ++ rows) = (wds s.2).map (fun w => (w, 13 * F + j)) ++ aws (srw F (j + 1) ss ++ rows) := by
      unfold aws
      rw [srw, List.cons_append, List.flatMap_cons]
    rw [e1, tmS_row (fun x hx => ?_), tmS_sub h ss (j + 1) (by omega), show (13 * F + j) / 13 = F by omega, anyR, ← Bool.or_assoc, ← Bool.and_or_distrib_left]
    obtain ⟨r, r1, r2, _⟩ := aws_mem hx
    rw [r2]
    rcases List.mem_append.1 r1 with r1 | r1
    · have := srw_slot r1
      omega
    · have := h r r1
      omega
/-- the class's look at a record is that at its rows -/
theorem tmS_doc {p : Int} {pre : Bool} {l : List (List Int)} {tg : Nat → Int} : ∀ (D : List Fdl) (F : Nat), (∀ f, f ∈ D → f.2.2.2.length ≤ 13) → (∀ i, i < D.length → tg (F + i) = (D.getD i (0, 0, 0, [])).1) → tmS p pre l tg (aws (rws F D)) = dcm p pre l D
  | [], F, _, _ => rfl
  | f :: D, F, h1, h2 => by
    have e0 := h2 0 (by rw [List.length_cons]; omega)
    rw [Nat.add_zero, List.getD_cons_zero] at e0
    rw [rws, tmS_sub (fun r hr => by have := rws_slot hr; omega) f.2.2.2 0 (by have := h1 f List.mem_cons_self; omega), e0, dcm, tmS_doc D (F + 1) (fun g hg => h1 g (List.mem_cons_of_mem _ hg)) (fun i hi => ?_)]
    have := h2 (i + 1) (by rw [List.length_cons]; omega)
    rw [List.getD_cons_succ] at this
    rw [← this, show F + 1 + i = F + (i + 1) by omega]
theorem wps_wby : ∀ (l pr : List Int) (i sz : Nat) (w : Nat × Nat), pr.length = i → sz ≤ i → (∀ k, i - sz ≤ k → k < i → wby (pr.getD k 0) = true) → w ∈ wps l i sz → ∀ k, w.1 ≤ k → k < w.1 + w.2 → wby ((pr ++ l).getD k 0) = true
  | [], pr, i, sz, w, h1, h2, h3, hw, k, k1, k2 => by
    rw [wps] at hw
    split at hw
    · cases hw
    · rw [List.mem_singleton.1 hw] at k1 k2
      dsimp only at k1 k2
      rw [List.append_nil]
      exact h3 k (by omega) (by omega)
  | b :: l, pr, i, sz, w, h1, h2, h3, hw, k, k1, k2 => by
    rw [wps] at hw
    rw [show pr ++ b :: l = (pr ++ [b]) ++ l by rw [List.append_assoc]; rfl]
    have l1 : (pr ++ [b]).length = i + 1 := by
      rw [List.length_append, List.length_singleton, h1]
    have low1 : ∀ z, z < i → (pr ++ [b]).getD z 0 = pr.getD z 0 := fun z hz => by
      rw [getD_snoc, if_pos (by omega)]
    have at1 : (pr ++ [b]).getD i 0 = b := by
      rw [getD_snoc, if_neg (by omega), if_pos h1.symm]
    split at hw
    · next cb =>
      refine wps_wby l (pr ++ [b]) (i + 1) (sz + 1) w l1 (by omega) (fun z z1 z2 => ?_) hw k k1 k2
      by_cases c : z = i
      · rw [c, at1]
        exact cb
      · rw [low1 z (by omega)]
        exact h3 z (by omega) (by omega)
    · split at hw
      · exact wps_wby l (pr ++ [b]) (i + 1) 0 w l1 (by omega) (fun z z1 z2 => by omega) hw k k1 k2
      · rcases List.mem_cons.1 hw with hw | hw
        · rw [hw] at k1 k2
          dsimp only at k1 k2
          rw [getD_app, if_pos (by omega), low1 k (by omega)]
          exact h3 k (by omega) (by omega)
        · exact wps_wby l (pr ++ [b]) (i + 1) 0 w l1 (by omega) (fun z z1 z2 => by omega) hw k k1 k2
/-- words have bytes of words alone -/
theorem wds_wby {row w : List Int} (h : w ∈ wds row) : (∀ b, b ∈ w → wby b = true) ∧ 1 ≤ w.length ∧ w.length ≤ row.length := by
  unfold wds at h
  obtain ⟨x, x1, rfl⟩ := List.mem_map.1 h
  obtain ⟨y1, _, y3⟩ := wps_in row 0 0 x (by omega) x1
  have wb := wps_wby row [] 0 0 x rfl (by omega) (fun k k1 k2 => by omega) x1
  have tl := (take_get (row := row) (s := x.1) (n := x.2) (k := 0) (by omega) (by omega)).1
  refine ⟨fun b hb => ?_, by omega, by omega⟩
  obtain ⟨k, hk, rfl⟩ := List.getElem_of_mem hb
  rw [tl] at hk
  have tg := (take_get (row := row) (s := x.1) (n := x.2) (k := k) (by omega) hk).2
  have := wb (x.1 + k) (by omega) (by omega)
  rw [List.nil_append, ← tg, List.getD_eq_getElem?_getD, List.getElem?_eq_getElem (by rw [tl]; exact hk), Option.getD_some] at this
  exact this
end
section
-- f7
/-- words of bytes, with what was read of one already -/
def wdl : List Int → List Int → List (List Int)
  | [], c => if c = [] then [] else [c]
  | b :: l, c => if wby b = true then wdl l (c ++ [b]) else if c = [] then wdl l [] else c :: wdl l []
theorem wps_wdl : ∀ (l pr : List Int) (sz : Nat), sz ≤ pr.length → (wps l pr.length sz).map (fun w => ((pr ++ l).drop w.1).take w.2) = wdl l (pr.drop (pr.length - sz))
  | [], pr, sz, h => by
    have lc : (pr.drop (pr.length - sz)).length = sz := by
      rw [List.length_drop]
      omega
    rw [wps, wdl, List.append_nil]
    by_cases c : sz = 0
    · rw [if_pos c, if_pos (List.length_eq_zero_iff.1 (by omega)), List.map_nil]
    · rw [if_neg c, if_neg (fun z => by rw [z, List.length_nil] at lc; omega), List.map_cons, List.map_nil]
      dsimp only
      rw [List.take_of_length_le (by omega)]
  | b :: l, pr, sz, h => by
    have lc : (pr.drop (pr.length - sz)).length = sz := by
      rw [List.length_drop]
      omega
    have ih := wps_wdl l (pr ++ [b])
    rw [List.length_append, List.length_singleton] at ih
    have e1 : pr ++ b :: l = pr ++ [b] ++ l := by
      rw [List.append_assoc]
      rfl
    rw [wps, wdl, e1]
    by_cases cb : wby b = true
    · rw [if_pos cb, if_pos cb, ih (sz + 1) (by omega), show pr.length + 1 - (sz + 1) = pr.length - sz by omega, List.drop_append_of_le_length (by omega)]
    · rw [if_neg cb, if_neg cb]
      have nil : ∀ z, z = (pr ++ [b]).drop (pr.length + 1 - 0) → z = [] := fun z hz => by
        rw [hz]
        exact List.drop_of_length_le (by rw [List.length_append, List.length_singleton]; omega)
      by_cases c : sz = 0
      · rw [if_pos c, if_pos (List.length_eq_zero_iff.1 (by omega)), ih 0 (by omega), nil _ rfl]
      · rw [if_neg c, if_neg (fun z => by rw [z, List.length_nil] at lc; omega), List.map_cons, ih 0 (by omega), nil _ rfl]
        dsimp only
        rw [List.append_assoc, List.drop_append_of_le_length (by omega), List.take_append_of_le_length (by omega), List.take_of_length_le (by omega)]
theorem wds_wdl (row : List Int) : wds row = wdl row [] := wps_wdl row [] 0 (Nat.le_refl 0)
theorem wdl_c : ∀ (l c : List Int), c ≠ [] → wdl l c = (c ++ l.takeWhile wby) :: wdl (l.dropWhile wby) []
  | [], c, h => by
    rw [wdl, if_neg h, List.takeWhile_nil, List.append_nil, List.dropWhile_nil, wdl, if_pos rfl]
  | b :: l, c, h => by
    rw [wdl]
    by_cases cb : wby b = true
    · rw [if_pos cb, wdl_c l (c ++ [b]) (by simp), List.takeWhile_cons_of_pos cb, List.dropWhile_cons_of_pos cb, List.append_assoc]
      rfl
    · rw [if_neg cb, if_neg h, List.takeWhile_cons_of_neg cb, List.dropWhile_cons_of_neg cb, List.append_nil, wdl, if_neg cb, if_pos rfl]
theorem wds_no {b : Int} {l : List Int} (h : wby b = false) : wds (b :: l) = wds l := by
  rw [wds_wdl, wds_wdl, wdl, if_neg (by rw [h]; decide), if_pos rfl]
theorem wds_yes {b : Int} {l : List Int} (h : wby b = true) : wds (b :: l) = (b :: l).takeWhile wby :: wds ((b :: l).dropWhile wby) := by
  rw [wds_wdl, wds_wdl, wdl, if_pos h, List.nil_append, wdl_c l [b] (by simp), List.takeWhile_cons_of_pos h, List.dropWhile_cons_of_pos h]
  rfl
theorem wds_skip : ∀ r : List Int, wds (r.dropWhile (fun b => !wby b)) = wds r
  | [] => rfl
  | b :: r => by
    cases h : wby b with
    | true => rw [List.dropWhile_cons_of_neg (by rw [h]; decide)]
    | false => rw [List.dropWhile_cons_of_pos (by rw [h]; rfl), wds_skip r, wds_no h]
/-- the reference's look along a row -/
def rmm (pre : Bool) (l : List (List Int)) : Bool → List Int → Bool
  | _, [] => false
  | pv, b :: r => (wby b && (!pv && mt pre l (wds (b :: r)))) || rmm pre l (wby b) r
theorem rmm_eq (pre : Bool) (l : List (List Int)) : ∀ (r : List Int), rmm pre l false r = sfx pre l (wds r) ∧ rmm pre l true r = sfx pre l (wds (r.dropWhile wby))
  | [] => ⟨rfl, rfl⟩
  | b :: r => by
    obtain ⟨i1, i2⟩ := rmm_eq pre l r
    rw [rmm, rmm]
    cases h : wby b with
    | true =>
      rw [i2, List.dropWhile_cons_of_pos h, Bool.not_false, Bool.true_and, Bool.true_and, Bool.not_true, Bool.false_and, Bool.and_false, Bool.false_or]
      refine ⟨?_, rfl⟩
      rw [wds_yes h, sfx, List.dropWhile_cons_of_pos h]
    | false =>
      rw [i1, List.dropWhile_cons_of_neg (by rw [h]; decide), wds_no h, Bool.false_and, Bool.false_and, Bool.false_or]
      exact ⟨rfl, rfl⟩
def ltr (b : Int) : Bool := (decide (65 ≤ b) && decide (b ≤ 90)) || (decide (97 ≤ b) && decide (b ≤ 122))
theorem x_isLet {e : w_E} {N : Nat} {b : Int} {S : w_S} (h : 0 ≤ b ∧ b ≤ 127) : E_R_isLetter e N b S = some (bi (ltr b), S) := by
  refine ok_eq ?_
  unfold E_R_isLetter
  have yes : (65 ≤ b ∧ b ≤ 90) ∨ (97 ≤ b ∧ b ≤ 122) → ltr b = true := fun w => by
    unfold ltr
    simp only [Bool.or_eq_true, Bool.and_eq_true, decide_eq_true_eq]
    exact w
  have no : ¬ ((65 ≤ b ∧ b ≤ 90) ∨ (97 ≤ b ∧ b ≤ 122)) → ltr b = false := fun w => by
    cases hl : ltr b with
    | false => rfl
    | true =>
      unfold ltr at hl
      simp only [Bool.or_eq_true, Bool.and_eq_true, decide_eq_true_eq] at hl
      exact absurd hl w
  by_cases c1 : b < 65
  · rw [no (by omega)]
    exact ok_t c1 (ok_t (by omega) (ok_s ⟨rfl, rfl⟩))
  refine ok_e c1 ?_
  by_cases c2 : 90 < b
  · refine ok_t c2 ?_
    by_cases c3 : b < 97
    · rw [no (by omega)]
      exact ok_t c3 (ok_s ⟨rfl, rfl⟩)
    · refine ok_e c3 ?_
      by_cases c4 : 122 < b
      · rw [no (by omega)]
        exact ok_t c4 (ok_s ⟨rfl, rfl⟩)
      · rw [yes (by omega)]
        exact ok_e c4 (ok_s ⟨rfl, rfl⟩)
  · rw [yes (by omega)]
    exact ok_e c2 (ok_nb (by omega) (ok_e (by omega) (ok_e (by omega) (ok_s ⟨rfl, rfl⟩))))
theorem wby_ltr (b : Int) : wby b = (ltr b || (decide (48 ≤ b) && decide (b ≤ 57))) := by
  unfold wby ltr
  rw [Bool.eq_iff_iff]
  simp only [Bool.or_eq_true, Bool.and_eq_true, decide_eq_true_eq]
  omega
end
section
-- f8
/-- the words of a term, as the reference keeps them -/
def RW (R : w_S) (t : Nat) (pre : Bool) (l : List (List Int)) : Prop := R.1 154 t = ((l.length : Nat) : Int) ∧ 1 ≤ l.length ∧ l.length ≤ 4 ∧ R.1 153 t ≠ 3 ∧ (R.1 153 t = 1 ↔ pre = true) ∧ ∀ w, w < l.length → ∃ p : Nat, R.1 155 (4 * t + w) = (p : Int) ∧ R.1 156 (4 * t + w) = (((l.getD w []).length : Nat) : Int) ∧ p + (l.getD w []).length ≤ 2000 ∧ 1 ≤ (l.getD w []).length ∧ (l.getD w []).length ≤ 12 ∧ ∀ u, u < (l.getD w []).length → R.1 130 (p + u) = (l.getD w []).getD u 0
theorem l_st3 {e : w_E} {N x5 p5 p4 m : Nat} {x1 x3 x6 : Int} {R : w_S} {P : Int → w_S → Prop} (h5 : x5 < 80) (h6 : R.1 156 x5 = (m : Nat)) (h7 : R.1 155 x5 = (p5 : Nat)) (hb5 : p5 + m ≤ 2000) : ∀ (qs ws : List Int) (k nf : Nat), k + qs.length = m → qs.length < nf → qs.length ≤ ws.length → p4 + k + ws.length ≤ 4000 → (∀ u, u < qs.length → R.1 130 (p5 + k + u) = qs.getD u 0) → byt (R.1 150) (p4 + k) ws → (∀ w, w ∈ ws → wby w = true) → (eqw qs ws = false → P 0 R) → (eqw qs ws = true → ∀ n', nf ≤ n' + qs.length + 1 → Ok (El_R_stands e N n' 0 [x1, x3, x6, ((x5 + 1 : Nat) : Int)] [] R) P) → Ok (El_R_stands e N nf 3 [x1, x3, (p4 : Int), (x5 : Int), x6, (k : Int)] [] R) P
  | _, _, _, 0, _, h, _, _, _, _, _, _, _ => by omega
  | [], ws, k, nf + 1, g1, g2, g3, g4, g5, g6, g7, g8, g9 => by
    rw [List.length_nil] at g1
    rw [El_R_stands, show ((x5 : Int)).toNat = x5 by omega, h6]
    refine ok_ib (by omega) (ok_t (by omega) (ok_nb (by omega) ?_))
    exact g9 (by rw [eqw]) nf (by rw [List.length_nil]; omega)
  | q :: qs, [], k, nf + 1, g1, g2, g3, g4, g5, g6, g7, g8, g9 => by
    rw [List.length_cons, List.length_nil] at g3
    omega
  | q :: qs, w :: ws, k, nf + 1, g1, g2, g3, g4, g5, g6, g7, g8, g9 => by
    rw [List.length_cons] at g1 g2
    rw [List.length_cons, List.length_cons] at g3
    rw [List.length_cons] at g4
    have hq := g5 0 (by rw [List.length_cons]; omega)
    rw [List.getD_cons_zero, Nat.add_zero] at hq
    have hw : R.1 150 (p4 + k) = w := g6.1
    have hw2 := g6.2
    rw [show p4 + k + 1 = p4 + (k + 1) by omega] at hw2
    have wb := wby_iff.1 (g7 w List.mem_cons_self)
    rw [eqw] at g8 g9
    have t5 : ∀ u, u < qs.length → R.1 130 (p5 + (k + 1) + u) = qs.getD u 0 := fun u hu => by
      have := g5 (u + 1) (by rw [List.length_cons]; omega)
      rw [List.getD_cons_succ] at this
      rw [← this, show p5 + (k + 1) + u = p5 + k + (u + 1) by omega]
    have go : Ok (if w_nb (((p5 : Nat) : Int) + (k : Int)) = true then (if w_ib (((p5 : Nat) : Int) + (k : Int)) 2000 = true then (if low w = q then (if w_nb ((k : Int) + 1) = true then El_R_stands e N nf 3 [x1, x3, (p4 : Int), (x5 : Int), x6, (k : Int) + 1] [] R else none) else some (0, R)) else none) else none) P := by
      refine ok_nb (by omega) (ok_ib (by omega) ?_)
      by_cases c : low w = q
      · rw [decide_eq_true c, Bool.true_and] at g8 g9
        refine ok_t c (ok_nb (by omega) ?_)
        rw [show (k : Int) + 1 = ((k + 1 : Nat) : Int) by omega]
        exact l_st3 (e := e) h5 h6 h7 hb5 qs ws (k + 1) nf (by omega) (by omega) (by omega) (by omega) t5 hw2 (fun x hx => g7 x (List.mem_cons_of_mem _ hx)) g8 (fun z n' hn' => g9 z n' (by rw [List.length_cons]; omega))
      · rw [decide_eq_false c, Bool.false_and] at g8
        exact ok_e c (ok_s (g8 rfl))
    rw [El_R_stands, show ((x5 : Int)).toNat = x5 by omega, h6, h7, show (((p5 : Nat) : Int) + (k : Int)).toNat = p5 + k by omega, show (((p4 : Nat) : Int) + (k : Int)).toNat = p4 + k by omega, hq, hw]
    refine ok_ib (by omega) (ok_e (by omega) (ok_nb (by omega) (ok_ib (by omega) ?_)))
    unfold low at go
    by_cases c1 : w < 65
    · rw [if_neg (show ¬ (65 ≤ w ∧ w ≤ 90) by omega)] at go
      exact ok_t c1 go
    refine ok_e c1 ?_
    by_cases c2 : 90 < w
    · rw [if_neg (show ¬ (65 ≤ w ∧ w ≤ 90) by omega)] at go
      exact ok_t c2 go
    · rw [if_pos (show (65 ≤ w ∧ w ≤ 90) by omega)] at go
      exact ok_e c2 (ok_nb (by omega) go)
/-- a word's end is found: its size is looked at -/
def Rse (e : w_E) (N n : Nat) (x1 x3 x4 x5 x6 : Int) (S : w_S) : e_R := (if w_nb (x6 - x4) = true then (if w_ib x5 80 = true then (if (x6 - x4) < (S.1 156 x5.toNat) then some (0, S) else (if (x6 - x4) ≤ (S.1 156 x5.toNat) then El_R_stands e N n 3 [x1, x3, x4, x5, x6, 0] [] S else (if w_ib x1 20 = true then (if (S.1 153 x1.toNat) = 1 then El_R_stands e N n 3 [x1, x3, x4, x5, x6, 0] [] S else some (0, S)) else none))) else none) else none)
theorem l_st2 {e : w_E} {N : Nat} {x1 x4 x5 : Int} {R : w_S} {P : Int → w_S → Prop} : ∀ (r : List Int) (p nf : Nat), byt (R.1 150) p r → p + r.length ≤ 4000 → (∀ b, b ∈ r → 0 ≤ b ∧ b ≤ 127) → r.length < nf → (∀ n', nf ≤ n' + r.length + 1 → Ok (Rse e N n' x1 ((p + r.length : Nat) : Int) x4 x5 ((p + (r.takeWhile wby).length : Nat) : Int) R) P) → Ok (El_R_stands e N nf 2 [x1, ((p + r.length : Nat) : Int), x4, x5, (p : Int)] [] R) P
  | _, _, 0, _, _, _, h, _ => by omega
  | [], p, nf + 1, g1, g2, g3, g4, g5 => by
    rw [El_R_stands]
    refine ok_t (by rw [List.length_nil]; omega) ?_
    have := g5 nf (by rw [List.length_nil]; omega)
    rw [List.takeWhile_nil] at this
    exact this
  | b :: r, p, nf + 1, g1, g2, g3, g4, g5 => by
    have hb := g3 b List.mem_cons_self
    have gb : R.1 150 p = b := g1.1
    rw [List.length_cons] at g2 g4 g5 ⊢
    rw [El_R_stands, show ((p : Int)).toNat = p by omega, gb]
    refine ok_e (by omega) (ok_ib (by omega) (ok_b (ok_of (x_isLet hb) ?_)))
    dsimp only
    have wl := wby_ltr b
    have yes : wby b = true → Ok (if w_nb ((p : Int) + 1) = true then El_R_stands e N nf 2 [x1, ((p + (r.length + 1) : Nat) : Int), x4, x5, (p : Int) + 1] [] R else none) P := fun z => by
      rw [List.takeWhile_cons_of_pos z, List.length_cons] at g5
      refine ok_nb (by omega) ?_
      rw [show (p : Int) + 1 = ((p + 1 : Nat) : Int) by omega, show p + (r.length + 1) = p + 1 + r.length by omega]
      refine l_st2 r (p + 1) nf g1.2 (by omega) (fun x hx => g3 x (List.mem_cons_of_mem _ hx)) (by omega) (fun n' hn' => ?_)
      have := g5 n' (by omega)
      rw [show p + (r.length + 1) = p + 1 + r.length by omega, show p + ((r.takeWhile wby).length + 1) = p + 1 + (r.takeWhile wby).length by omega] at this
      exact this
    have no : wby b = false → Ok (Rse e N nf x1 ((p + (r.length + 1) : Nat) : Int) x4 x5 (p : Int) R) P := fun z => by
      rw [List.takeWhile_cons_of_neg (by rw [z]; decide), List.length_nil] at g5
      exact g5 nf (by omega)
    unfold Rse at no
    cases hl : ltr b with
    | true =>
      rw [hl, Bool.true_or] at wl
      exact ok_t (by decide) (yes wl)
    | false =>
      rw [hl, Bool.false_or] at wl
      refine ok_e (by decide) ?_
      by_cases c1 : b < 48
      · exact ok_t c1 (no (by rw [wl, decide_eq_false (by omega), Bool.false_and]))
      refine ok_e c1 ?_
      by_cases c2 : 57 < b
      · exact ok_t c2 (no (by rw [wl, decide_eq_false (show ¬ b ≤ 57 by omega), Bool.and_false]))
      · exact ok_e c2 (yes (by rw [wl, decide_eq_true (by omega), decide_eq_true (by omega), Bool.true_and]))
theorem l_st1 {e : w_E} {N : Nat} {x1 x5 : Int} {R : w_S} {P : Int → w_S → Prop} : ∀ (r : List Int) (p nf : Nat), byt (R.1 150) p r → p + r.length ≤ 4000 → (∀ b, b ∈ r → 0 ≤ b ∧ b ≤ 127) → r.length < nf → (∀ (n' p' : Nat) (r' : List Int), r' = r.dropWhile (fun b => !wby b) → nf ≤ n' + r.length + 1 → p' + r'.length = p + r.length → byt (R.1 150) p' r' → (∀ b, b ∈ r' → 0 ≤ b ∧ b ≤ 127) → Ok (El_R_stands e N n' 2 [x1, ((p + r.length : Nat) : Int), (p' : Int), x5, (p' : Int)] [] R) P) → Ok (El_R_stands e N nf 1 [x1, ((p + r.length : Nat) : Int), (p : Int), x5] [] R) P
  | _, _, 0, _, _, _, h, _ => by omega
  | [], p, nf + 1, g1, g2, g3, g4, g5 => by
    rw [El_R_stands]
    refine ok_t (by rw [List.length_nil]; omega) ?_
    exact g5 nf p [] rfl (by rw [List.length_nil]; omega) rfl trivial (fun _ h => by cases h)
  | b :: r, p, nf + 1, g1, g2, g3, g4, g5 => by
    have hb := g3 b List.mem_cons_self
    have gb : R.1 150 p = b := g1.1
    rw [List.length_cons] at g2 g4 g5 ⊢
    rw [El_R_stands, show ((p : Int)).toNat = p by omega, gb]
    refine ok_e (by omega) (ok_ib (by omega) (ok_b (ok_of (x_isLet hb) ?_)))
    dsimp only
    have wl := wby_ltr b
    have no : wby b = false → Ok (if w_nb ((p : Int) + 1) = true then El_R_stands e N nf 1 [x1, ((p + (r.length + 1) : Nat) : Int), (p : Int) + 1, x5] [] R else none) P := fun z => by
      rw [List.dropWhile_cons_of_pos (by rw [z]; rfl)] at g5
      refine ok_nb (by omega) ?_
      rw [show (p : Int) + 1 = ((p + 1 : Nat) : Int) by omega, show p + (r.length + 1) = p + 1 + r.length by omega]
      refine l_st1 r (p + 1) nf g1.2 (by omega) (fun x hx => g3 x (List.mem_cons_of_mem _ hx)) (by omega) (fun n' p' r' h1 h2 h3 h4 h5 => ?_)
      have := g5 n' p' r' h1 (by omega) (by omega) h4 h5
      rw [show p + (r.length + 1) = p + 1 + r.length by omega] at this
      exact this
    have yes : wby b = true → Ok (El_R_stands e N nf 2 [x1, ((p + (r.length + 1) : Nat) : Int), (p : Int), x5, (p : Int)] [] R) P := fun z => by
      rw [List.dropWhile_cons_of_neg (by rw [z]; decide)] at g5
      exact g5 nf p (b :: r) rfl (by omega) (by rw [List.length_cons]) g1 g3
    cases hl : ltr b with
    | true =>
      rw [hl, Bool.true_or] at wl
      exact ok_t (by decide) (yes wl)
    | false =>
      rw [hl, Bool.false_or] at wl
      refine ok_e (by decide) ?_
      by_cases c1 : b < 48
      · exact ok_t c1 (no (by rw [wl, decide_eq_false (by omega), Bool.false_and]))
      refine ok_e c1 ?_
      by_cases c2 : 57 < b
      · exact ok_t c2 (no (by rw [wl, decide_eq_false (show ¬ b ≤ 57 by omega), Bool.and_false]))
      · exact ok_e c2 (yes (by rw [wl, decide_eq_true (by omega), decide_eq_true (by omega), Bool.true_and]))
theorem mem_tw {w : Int} : ∀ {r : List Int}, w ∈ r.takeWhile wby → wby w = true
  | [], h => by
    rw [List.takeWhile_nil] at h
    cases h
  | b :: r, h => by
    cases hb : wby b with
    | true =>
      rw [List.takeWhile_cons_of_pos hb] at h
      rcases List.mem_cons.1 h with h | h
      · rw [h]
        exact hb
      · exact mem_tw h
    | false =>
      rw [List.takeWhile_cons_of_neg (by rw [hb]; decide)] at h
      cases h
theorem drop_hd (r : List Int) : r.dropWhile (fun b => !wby b) = [] ∨ ∃ b r', r.dropWhile (fun b => !wby b) = b :: r' ∧ wby b = true := by
  induction r with
  | nil => exact Or.inl rfl
  | cons b r ih =>
    cases h : wby b with
    | true => exact Or.inr ⟨b, r, List.dropWhile_cons_of_neg (by rw [h]; decide), h⟩
    | false =>
      rw [List.dropWhile_cons_of_pos (by rw [h]; rfl)]
      exact ih
theorem mt_step {pre : Bool} {q : List Int} {l : List (List Int)} (hq : 1 ≤ q.length) (r : List Int) : mt pre (q :: l) (wds r) = (okw pre q ((r.dropWhile (fun b => !wby b)).takeWhile wby) && mt pre l (wds ((r.dropWhile (fun b => !wby b)).dropWhile wby))) := by
  rw [← wds_skip r]
  rcases drop_hd r with h | ⟨b, r', h, hb⟩
  · rw [h, List.takeWhile_nil]
    have : okw pre q [] = false := by
      unfold okw
      rw [List.length_nil, decide_eq_false (show ¬ q.length ≤ 0 by omega), decide_eq_false (show ¬ 0 = q.length by omega)]
      cases pre <;> rfl
    rw [this, Bool.false_and]
    rfl
  · rw [h, wds_yes hb, mt]
/-- the reference: do a term's words stand from a place of a row on? -/
theorem l_st0 {e : w_E} {N t : Nat} {R : w_S} {pre : Bool} {l : List (List Int)} (ht : t < 20) (hW : RW R t pre l) : ∀ (k j nf : Nat) (r : List Int) (p : Nat), j + k = l.length → byt (R.1 150) p r → p + r.length ≤ 4000 → (∀ b, b ∈ r → 0 ≤ b ∧ b ≤ 127) → 8020 * k < nf → El_R_stands e N nf 0 [(t : Int), ((p + r.length : Nat) : Int), (p : Int), ((4 * t + j : Nat) : Int)] [] R = some (bi (mt pre (l.drop j) (wds r)), R)
  | _, _, 0, _, _, _, _, _, _, h => by omega
  | 0, j, nf + 1, r, p, g1, g2, g3, g4, g5 => by
    obtain ⟨w1, w2, w3, _⟩ := hW
    refine ok_eq ?_
    rw [El_R_stands, show ((t : Int)).toNat = t by omega, w1, List.drop_of_length_le (by omega), mt]
    exact ok_nb (by omega) (ok_ib (by omega) (ok_nb (by omega) (ok_t (by omega) (ok_s ⟨rfl, rfl⟩))))
  | k + 1, j, nf + 1, r, p, g1, g2, g3, g4, g5 => by
    have hWW := hW
    obtain ⟨w1, w2, w3, w4, w5, w6⟩ := hWW
    obtain ⟨p5, a1, a2, a3, a4, a5, a6⟩ := w6 j (by omega)
    have d1 : l.drop j = l.getD j [] :: l.drop (j + 1) := drop_cons (by omega)
    have ih := l_st0 (e := e) (N := N) ht hW k (j + 1)
    rw [d1, mt_step (by omega)]
    generalize l.getD j [] = q at *
    refine ok_eq ?_
    rw [El_R_stands, show ((t : Int)).toNat = t by omega, w1]
    refine ok_nb (by omega) (ok_ib (by omega) (ok_nb (by omega) (ok_e (by omega) ?_)))
    refine l_st1 r p nf g2 g3 g4 (by omega) (fun n1 p1 r1 h1 h2 h3 h4 h5 => ?_)
    rw [← h1, ← h3]
    refine l_st2 r1 p1 n1 h4 (by omega) h5 (by omega) (fun n2 h6 => ?_)
    have tl : (r1.takeWhile wby).length + (r1.dropWhile wby).length = r1.length := by
      rw [← List.length_append, List.takeWhile_append_dropWhile]
    have tb : byt (R.1 150) p1 (r1.takeWhile wby) ∧ byt (R.1 150) (p1 + (r1.takeWhile wby).length) (r1.dropWhile wby) := by
      rw [← byt_app, List.takeWhile_append_dropWhile]
      exact h4
    have tw : ∀ w, w ∈ r1.takeWhile wby → wby w = true := fun w hw => mem_tw hw
    have dw : ∀ b, b ∈ r1.dropWhile wby → 0 ≤ b ∧ b ≤ 127 := fun b hb => h5 b ((List.dropWhile_sublist _).subset hb)
    unfold Rse
    rw [show (((4 * t + j : Nat) : Int)).toNat = 4 * t + j by omega, a2, show ((t : Int)).toNat = t by omega]
    refine ok_nb (by omega) (ok_ib (by omega) ?_)
    have go : q.length ≤ (r1.takeWhile wby).length → (if pre = true then decide (q.length ≤ (r1.takeWhile wby).length) else decide ((r1.takeWhile wby).length = q.length)) = true → Ok (El_R_stands e N n2 3 [(t : Int), ((p1 + r1.length : Nat) : Int), (p1 : Int), ((4 * t + j : Nat) : Int), ((p1 + (r1.takeWhile wby).length : Nat) : Int), 0] [] R) (fun y S1 => y = bi (okw pre q (r1.takeWhile wby) && mt pre (l.drop (j + 1)) (wds (r1.dropWhile wby))) ∧ S1 = R) := by
      intro z1 z2
      unfold okw
      rw [z2, Bool.true_and]
      refine l_st3 (e := e) (x5 := 4 * t + j) (p4 := p1) (by omega) a2 a1 a3 q (r1.takeWhile wby) 0 n2 (by omega) (by omega) z1 (by omega) (fun u hu => by rw [Nat.add_zero]; exact a6 u hu) tb.1 tw (fun z => ?_) (fun z n3 hn3 => ?_)
      · rw [z, Bool.false_and]
        exact ⟨rfl, rfl⟩
      · rw [z, Bool.true_and, show p1 + r1.length = p1 + (r1.takeWhile wby).length + (r1.dropWhile wby).length by omega, show 4 * t + j + 1 = 4 * t + (j + 1) by omega]
        exact ok_of (ih n3 (r1.dropWhile wby) (p1 + (r1.takeWhile wby).length) (by omega) tb.2 (by omega) dw (by omega)) ⟨rfl, rfl⟩
    by_cases c1 : (r1.takeWhile wby).length < q.length
    · refine ok_t (by omega) (ok_s ⟨?_, rfl⟩)
      have : okw pre q (r1.takeWhile wby) = false := by
        unfold okw
        rw [decide_eq_false (show ¬ q.length ≤ (r1.takeWhile wby).length by omega), decide_eq_false (show ¬ (r1.takeWhile wby).length = q.length by omega)]
        cases pre <;> rfl
      rw [this, Bool.false_and]
      rfl
    refine ok_e (by omega) ?_
    by_cases c2 : (r1.takeWhile wby).length = q.length
    · refine ok_t (by omega) (go (by omega) ?_)
      rw [decide_eq_true (show q.length ≤ (r1.takeWhile wby).length by omega), decide_eq_true c2]
      cases pre <;> rfl
    refine ok_e (by omega) (ok_ib (by omega) ?_)
    cases pre with
    | true => exact ok_t (w5.2 rfl) (go (by omega) (by rw [if_pos rfl]; exact decide_eq_true (by omega)))
    | false =>
      refine ok_e (fun z => by have := w5.1 z; cases this) (ok_s ⟨?_, rfl⟩)
      have : okw false q (r1.takeWhile wby) = false := by
        unfold okw
        rw [if_neg (show ¬ (false = true) by decide), decide_eq_false c2, Bool.false_and]
      rw [this, Bool.false_and]
      rfl
end
