def se_en (F : se_F) (k : Nat) (lo : Int) (n : Nat) : List (se_F × Value) := (List.range n).map (fun j : Nat => ((k, lo + (j : Int), lo + (j : Int), []) :: F, .int (Int32.ofInt (lo + (j : Int)))))
theorem se_en_ok {ρ : Nat → Int32} {F : se_F} {k : Nat} {lo : Int} {n : Nat} (h : se_ok ρ F) (h1 : lo ≤ (ρ k).toInt) (h2 : (ρ k).toInt < lo + n) : ∃ e ∈ se_en F k lo n, se_ok ρ e.1 ∧ e.2 = .int (ρ k) := by
  have e1 : lo + (((ρ k).toInt - lo).toNat : Int) = (ρ k).toInt := by omega
  refine ⟨_, List.mem_map.mpr ⟨((ρ k).toInt - lo).toNat, List.mem_range.mpr (by omega), rfl⟩, se_ok_cons h (by omega) (by omega) (fun e he => by cases he), ?_⟩
  show Value.int (Int32.ofInt (lo + (((ρ k).toInt - lo).toNat : Int))) = _
  rw [e1, Int32.ofInt_toInt]
def se_pre (F : se_F) (ins : Instr) (st : List Value) : Option (List (se_F × List Value)) :=
  match ins with
  | .tableswitch _ lo hi _ => match st with
    | .float k :: r =>
      let q := se_lk F k.toNat
      if q.2.1 < lo ∨ hi < q.1 then none else
      some ((if q.1 < lo then [((k.toNat, q.1, lo - 1, q.2.2) :: F, st)] else []) ++ ((if hi < q.2.1 then [((k.toNat, hi + 1, q.2.1, q.2.2) :: F, st)] else []) ++ (se_en F k.toNat (max q.1 lo) (min q.2.1 hi - max q.1 lo + 1).toNat).map (fun e => (e.1, e.2 :: r))))
    | _ => none
  | .iaload => match st with
    | .float k :: r =>
      let q := se_lk F k.toNat
      if 0 ≤ q.1 ∧ q.2.1 < 64 then some ((se_en F k.toNat q.1 (q.2.1 - q.1 + 1).toNat).map (fun e => (e.1, e.2 :: r))) else none
    | _ => none
  | .baload => match st with
    | .float k :: r =>
      let q := se_lk F k.toNat
      if 0 ≤ q.1 ∧ q.2.1 < 64 then some ((se_en F k.toNat q.1 (q.2.1 - q.1 + 1).toNat).map (fun e => (e.1, e.2 :: r))) else none
    | _ => none
  | .iastore => match st with
    | x :: .float k :: r =>
      let q := se_lk F k.toNat
      if 0 ≤ q.1 ∧ q.2.1 < 64 then some ((se_en F k.toNat q.1 (q.2.1 - q.1 + 1).toNat).map (fun e => (e.1, x :: e.2 :: r))) else none
    | _ => none
  | .bastore => match st with
    | x :: .float k :: r =>
      let q := se_lk F k.toNat
      if 0 ≤ q.1 ∧ q.2.1 < 64 then some ((se_en F k.toNat q.1 (q.2.1 - q.1 + 1).toNat).map (fun e => (e.1, x :: e.2 :: r))) else none
    | _ => none
  | _ => none
theorem se_pre_ok {ρ : Nat → Int32} {F : se_F} {ins : Instr} {st st' : List Value} {l : List (se_F × List Value)} (h : se_pre F ins st = some l) (hF : se_ok ρ F) (hs : se_St ρ st st') : ∃ e ∈ l, se_ok ρ e.1 ∧ se_St ρ e.2 st' := by
  unfold se_pre at h
  split at h
  next lo hi _ =>
    split at h
    next k r =>
      have hs0 := hs
      obtain ⟨kv, st2, hst9, hk, hs9⟩ := se_cons hs; clear hs; subst hst9; have hs := hs9; clear hs9
      cases se_r_var hk
      obtain ⟨b1, b2, b3⟩ := se_lk_ok hF k.toNat
      dsimp only at h
      split at h
      next => cases h
      next hq =>
        cases h
        by_cases c1 : (ρ k.toNat).toInt < lo
        · refine ⟨((k.toNat, (se_lk F k.toNat).1, lo - 1, (se_lk F k.toNat).2.2) :: F, .float k :: r), List.mem_append_left _ ?_, se_ok_cons hF b1 (by omega) b3, hs0⟩
          rw [if_pos (by omega)]
          exact List.mem_cons_self
        · by_cases c2 : hi < (ρ k.toNat).toInt
          · refine ⟨((k.toNat, hi + 1, (se_lk F k.toNat).2.1, (se_lk F k.toNat).2.2) :: F, .float k :: r), List.mem_append_right _ (List.mem_append_left _ ?_), se_ok_cons hF (by omega) b2 b3, hs0⟩
            rw [if_pos (by omega)]
            exact List.mem_cons_self
          · obtain ⟨e, e1, e2, e3⟩ := se_en_ok (k := k.toNat) (lo := max (se_lk F k.toNat).1 lo) (n := (min (se_lk F k.toNat).2.1 hi - max (se_lk F k.toNat).1 lo + 1).toNat) hF (by omega) (by omega)
            exact ⟨_, List.mem_append_right _ (List.mem_append_right _ (List.mem_map.mpr ⟨e, e1, rfl⟩)), e2, by rw [e3]; rfl, hs⟩
    next => cases h
  all_goals first
    | (cases h; done)
    | skip
  all_goals
    split at h
    next =>
      have hs0 := hs
      first
        | (obtain ⟨kv, st2, hst9, hk, hs9⟩ := se_cons hs; clear hs; subst hst9; have hs := hs9; clear hs9
           cases se_r_var hk
           rename_i k r
           obtain ⟨b1, b2, b3⟩ := se_lk_ok hF k.toNat
           dsimp only at h
           split at h
           next hq =>
             cases h
             obtain ⟨e, e1, e2, e3⟩ := se_en_ok (k := k.toNat) (lo := (se_lk F k.toNat).1) (n := ((se_lk F k.toNat).2.1 - (se_lk F k.toNat).1 + 1).toNat) hF (by omega) (by omega)
             exact ⟨_, List.mem_map.mpr ⟨e, e1, rfl⟩, e2, by rw [e3]; rfl, hs⟩
           next => cases h)
        | (obtain ⟨xv, st1, hst9, hx, hs9⟩ := se_cons hs; clear hs; subst hst9; have hs := hs9; clear hs9
           obtain ⟨kv, st2, hst9, hk, hs9⟩ := se_cons hs; clear hs; subst hst9; have hs := hs9; clear hs9
           cases se_r_var hk
           rename_i x k r
           obtain ⟨b1, b2, b3⟩ := se_lk_ok hF k.toNat
           dsimp only at h
           split at h
           next hq =>
             cases h
             obtain ⟨e, e1, e2, e3⟩ := se_en_ok (k := k.toNat) (lo := (se_lk F k.toNat).1) (n := ((se_lk F k.toNat).2.1 - (se_lk F k.toNat).1 + 1).toNat) hF (by omega) (by omega)
             exact ⟨_, List.mem_map.mpr ⟨e, e1, rfl⟩, e2, hx, by rw [e3]; rfl, hs⟩
           next => cases h)
    next => cases h
def se_is (G : rm_G) (h : se_H) (b ci : Nat) : Bool :=
  if ci = rm_Str then decide (rm_K ≤ b) && (decide ((b - rm_K) % 2 = 0) && decide ((b - rm_K) / 2 < rm_nS G))
  else match h[b]? with
    | some (.inr (cj, _)) => decide (cj = ci)
    | _ => false
theorem se_is_ok {ρ : Nat → Int32} {G G' : rm_G} {h : se_H} {h' : rm_H} {b ci : Nat} (hn : rm_nS G' = rm_nS G) (hh : se_Hp ρ h h') (hi : se_is G h b ci = true) : rm_is G' h' b ci = true := by
  unfold se_is at hi
  unfold rm_is
  split at hi
  next hc => rw [if_pos hc, hn]; exact hi
  next hc =>
    rw [if_neg hc]
    split at hi
    next cj fs hf =>
      obtain ⟨gs, o1, -⟩ := se_obj hh hf
      rw [o1]
      exact hi
    next => cases hi
theorem se_catE {ρ : Nat → Int32} : ∀ {st st' : List Value}, se_St ρ st st' → rm_cat st' = rm_cat st
  | [], _, h => by rw [se_nil h]
  | v :: st, m, h => by
    obtain ⟨w, m', rfl, h1, h2⟩ := se_cons h
    have ih := se_catE h2
    unfold rm_cat at ih ⊢
    rw [List.map_cons, List.map_cons, List.sum_cons, List.sum_cons, ih, se_r_cat h1]
theorem se_slE {ρ : Nat → Int32} : ∀ {st st' : List Value}, se_St ρ st st' → (lg_sl st').length = (lg_sl st).length
  | [], _, h => by rw [se_nil h]
  | v :: st, m, h => by
    obtain ⟨w, m', rfl, h1, h2⟩ := se_cons h
    have ih := se_slE h2
    unfold lg_sl at ih ⊢
    rw [List.flatMap_cons, List.flatMap_cons, List.length_append, List.length_append, ih, se_r_cat h1]
    congr 1
    split <;> rfl
theorem se_mayE {ρ : Nat → Int32} {M M' : rm_M} {as as' rest rest' : List Value} (h1 : se_St ρ as as') (h2 : se_St ρ rest rest') (h : rm_may M M' as rest = true) : rm_may M M' as' rest' = true := by
  unfold rm_may at h ⊢
  rw [se_catE h2, se_slE h1]
  exact h
def se_s3 (G : rm_G) (pr : Nat → Option rm_M) (M : rm_M) (ins : Instr) (st : List Value) (h : se_H) : Option (Nat × List Value × List Value) :=
  match ins with
  | .invokevirtual idx => match rm_mp M idx with
    | some (2, j, _, _) => match pr j with
      | some M' => if rm_mk M' = 0 ∧ (st.take (rm_mn M')).length = rm_mn M' then (match st.drop (rm_mn M') with
        | .ref b :: rest => if se_is G h b (rm_mi M') && rm_may M M' (.ref b :: (st.take (rm_mn M')).reverse) rest then some (j, .ref b :: (st.take (rm_mn M')).reverse, rest) else none
        | _ => none) else none
      | none => none
    | _ => none
  | .invokestatic idx => match rm_mp M idx with
    | some (2, j, _, _) => match pr j with
      | some M' => if rm_mk M' = 1 ∧ (st.take (rm_mn M')).length = rm_mn M' then (if rm_may M M' (st.take (rm_mn M')).reverse (st.drop (rm_mn M')) then some (j, (st.take (rm_mn M')).reverse, st.drop (rm_mn M')) else none) else none
      | none => none
    | some (3, j, _, _) => match pr j with
      | some M' => if rm_mk M' = 1 ∧ (st.take (rm_mn M')).length = rm_mn M' then (if rm_may M M' (st.take (rm_mn M')).reverse (st.drop (rm_mn M')) then some (j, (st.take (rm_mn M')).reverse, st.drop (rm_mn M')) else none) else none
      | none => none
    | _ => none
  | .invokespecial idx => match rm_mp M idx with
    | some (2, j, _, _) => match pr j with
      | some M' => if rm_mk M' = 2 ∧ (st.take (rm_mn M')).length = rm_mn M' then (match st.drop (rm_mn M') with
        | .ref b :: rest => if rm_may M M' (.ref b :: (st.take (rm_mn M')).reverse) rest then some (j, .ref b :: (st.take (rm_mn M')).reverse, rest) else none
        | _ => none) else none
      | none => none
    | some (3, j, _, _) => match pr j with
      | some M' => if rm_mk M' = 2 ∧ (st.take (rm_mn M')).length = rm_mn M' then (match st.drop (rm_mn M') with
        | .ref b :: rest => if rm_may M M' (.ref b :: (st.take (rm_mn M')).reverse) rest then some (j, .ref b :: (st.take (rm_mn M')).reverse, rest) else none
        | _ => none) else none
      | none => none
    | _ => none
  | _ => none
set_option maxHeartbeats 4000000 in
theorem se_s3_ok {ρ : Nat → Int32} {G G' : rm_G} {pr : Nat → Option rm_M} {M : rm_M} {ins : Instr} {st st' : List Value} {h : se_H} {h' : rm_H} {j : Nat} {as rest : List Value} (hn : rm_nS G' = rm_nS G) (hs : se_St ρ st st') (hh : se_Hp ρ h h') (hq : se_s3 G pr M ins st h = some (j, as, rest)) :
    ∃ as' rest', rm_s3 G' pr M ins st' h' = some (j, as', rest') ∧ se_St ρ as as' ∧ se_St ρ rest rest' := by
  unfold se_s3 at hq
  split at hq
  next idx =>
    split at hq
    next hp =>
      split at hq
      next M' hj =>
        split at hq
        next hc =>
          split at hq
          next b rest2 hd =>
            split at hq
            next hb =>
              cases hq
              have h1 := se_drop (n := rm_mn M') hs
              rw [hd] at h1
              obtain ⟨bv, st2, h2, h3, h4⟩ := se_cons h1
              cases se_r_ref h3
              have h5 := se_rev (se_take (n := rm_mn M') hs)
              simp only [Bool.and_eq_true] at hb
              refine ⟨.ref b :: (st'.take (rm_mn M')).reverse, st2, ?_, ⟨rfl, h5⟩, h4⟩
              simp only [rm_s3, hp, hj, h2]
              rw [if_pos ⟨hc.1, by rw [se_len (se_take (n := rm_mn M') hs)]; exact hc.2⟩, if_pos]
              rw [se_is_ok hn hh hb.1, se_mayE (ρ := ρ) (se_c2 (show se_r ρ (.ref b) (.ref b) from rfl) h5) h4 hb.2]
              rfl
            next => cases hq
          next => cases hq
        next => cases hq
      next => cases hq
    next => cases hq
  next idx =>
    split at hq
    all_goals first
      | (cases hq; done)
      | skip
    all_goals
      rename_i hp
      split at hq
      next M' hj =>
        split at hq
        next hc =>
          split at hq
          next hb =>
            cases hq
            have h1 := se_drop (n := rm_mn M') hs
            have h5 := se_rev (se_take (n := rm_mn M') hs)
            refine ⟨(st'.take (rm_mn M')).reverse, st'.drop (rm_mn M'), ?_, h5, h1⟩
            simp only [rm_s3, hp, hj]
            rw [if_pos ⟨hc.1, by rw [se_len (se_take (n := rm_mn M') hs)]; exact hc.2⟩, if_pos (se_mayE h5 h1 hb)]
          next => cases hq
        next => cases hq
      next => cases hq
  next idx =>
    split at hq
    all_goals first
      | (cases hq; done)
      | skip
    all_goals
      rename_i hp
      split at hq
      next M' hj =>
        split at hq
        next hc =>
          split at hq
          next b rest2 hd =>
            split at hq
            next hb =>
              cases hq
              have h1 := se_drop (n := rm_mn M') hs
              rw [hd] at h1
              obtain ⟨bv, st2, h2, h3, h4⟩ := se_cons h1
              cases se_r_ref h3
              have h5 := se_rev (se_take (n := rm_mn M') hs)
              refine ⟨.ref b :: (st'.take (rm_mn M')).reverse, st2, ?_, ⟨rfl, h5⟩, h4⟩
              simp only [rm_s3, hp, hj, h2]
              rw [if_pos ⟨hc.1, by rw [se_len (se_take (n := rm_mn M') hs)]; exact hc.2⟩, if_pos (se_mayE (ρ := ρ) (se_c2 (show se_r ρ (.ref b) (.ref b) from rfl) h5) h4 hb)]
            next => cases hq
          next => cases hq
        next => cases hq
      next => cases hq
  next => cases hq
def se_s4 (M : rm_M) (ins : Instr) (st : List Value) : Option (List Value) :=
  match ins with
  | .invokespecial idx => match rm_mp M idx with
    | some (11, _, _, _) => match st with
      | .ref _ :: r => if 1 ≤ rm_mf M ∧ rm_cat r + 12 ≤ rm_ml M then some r else none
      | _ => none
    | _ => none
  | .invokestatic idx => match rm_mp M idx with
    | some (17, _, _, _) => match st with
      | b :: a :: r => match se_op (fun x y => if x < y then y else x) a b with
        | some v => if 1 ≤ rm_mf M ∧ rm_cat r + 13 ≤ rm_ml M then some (v :: r) else none
        | none => none
      | _ => none
    | some (18, _, _, _) => match st with
      | b :: a :: r => match se_op (fun x y => if y < x then y else x) a b with
        | some v => if 1 ≤ rm_mf M ∧ rm_cat r + 13 ≤ rm_ml M then some (v :: r) else none
        | none => none
      | _ => none
    | _ => none
  | _ => none
theorem se_s4_ok {ρ : Nat → Int32} {M : rm_M} {ins : Instr} {st st' r : List Value} {h' : rm_H} (hs : se_St ρ st st') (hq : se_s4 M ins st = some r) : ∃ r', rm_s4 M ins st' h' = some (r', h') ∧ se_St ρ r r' := by
  unfold se_s4 at hq
  split at hq
  next idx =>
    split at hq
    next hp =>
      split at hq
      next a r0 =>
        obtain ⟨av, st2, hst9, ha, hs9⟩ := se_cons hs; clear hs; subst hst9; have hs := hs9; clear hs9
        cases se_r_ref ha
        split at hq
        next hc =>
          cases hq
          refine ⟨st2, ?_, hs⟩
          simp only [rm_s4, hp]
          exact if_pos (by rw [se_catE hs]; exact hc)
        next => cases hq
      next => cases hq
    next => cases hq
  next idx =>
    split at hq
    next hp =>
      split at hq
      next b a r0 =>
        obtain ⟨bv, st2, hst9, hb, hs9⟩ := se_cons hs; clear hs; subst hst9; have hs := hs9; clear hs9
        obtain ⟨av, st3, hst9, ha, hs9⟩ := se_cons hs; clear hs; subst hst9; have hs := hs9; clear hs9
        split at hq
        next v hv =>
          split at hq
          next hc =>
            cases hq
            obtain ⟨x, y, rfl, rfl, hr⟩ := se_op_ok hv ha hb
            refine ⟨.int (if x < y then y else x) :: st3, ?_, se_c2 hr hs⟩
            simp only [rm_s4, hp]
            exact if_pos (by rw [se_catE hs]; exact hc)
          next => cases hq
        next => cases hq
      next => cases hq
    next hp =>
      split at hq
      next b a r0 =>
        obtain ⟨bv, st2, hst9, hb, hs9⟩ := se_cons hs; clear hs; subst hst9; have hs := hs9; clear hs9
        obtain ⟨av, st3, hst9, ha, hs9⟩ := se_cons hs; clear hs; subst hst9; have hs := hs9; clear hs9
        split at hq
        next v hv =>
          split at hq
          next hc =>
            cases hq
            obtain ⟨x, y, rfl, rfl, hr⟩ := se_op_ok hv ha hb
            refine ⟨.int (if y < x then y else x) :: st3, ?_, se_c2 hr hs⟩
            simp only [rm_s4, hp]
            exact if_pos (by rw [se_catE hs]; exact hc)
          next => cases hq
        next => cases hq
      next => cases hq
    next => cases hq
  next => cases hq
def se_rt (ty : FieldType) (v : Value) : Bool := se_int v && (if se_sym v then decide (ty = .int) else decide (narrow ty v = v))
theorem se_rt_ok {ρ : Nat → Int32} {ty : FieldType} {v w : Value} (h : se_rt ty v = true) (hv : se_r ρ v w) : ∃ y, w = .int y ∧ narrow ty (.int y) = .int y := by
  unfold se_rt at h
  cases v with
  | int x =>
    cases se_r_lit hv
    exact ⟨x, rfl, by simpa [se_int, se_sym] using h⟩
  | float k =>
    rw [show w = _ from hv, show ty = .int by simpa [se_int, se_sym] using h]
    exact ⟨_, rfl, rfl⟩
  | retAddr k =>
    obtain ⟨y, rfl⟩ := hv
    rw [show ty = .int by simpa [se_int, se_sym] using h]
    exact ⟨_, rfl, rfl⟩
  | _ => simp [se_int] at h
def se_s5 (M : rm_M) (ins : Instr) (st : List Value) : Option (Option Value) :=
  match ins with
  | .return_ => match st with
    | [] => if rm_mr M = none then some none else none
    | _ => none
  | .ireturn => match st with
    | [v] => match rm_mr M with
      | some ty => if se_rt ty v = true then some (some v) else none
      | none => none
    | _ => none
  | _ => none
def se_o (ρ : Nat → Int32) : Option Value → Option Value → Prop
  | none, none => True
  | some a, some b => se_r ρ a b
  | _, _ => False
theorem se_s5_ok {ρ : Nat → Int32} {M : rm_M} {ins : Instr} {st st' : List Value} {v : Option Value} (hs : se_St ρ st st') (hq : se_s5 M ins st = some v) : ∃ w, rm_s5 M ins st' = some w ∧ se_o ρ v w := by
  unfold se_s5 at hq
  split at hq
  next =>
    split at hq
    next =>
      cases se_nil hs
      split at hq
      next hc => cases hq; exact ⟨none, by simp only [rm_s5]; exact if_pos hc, trivial⟩
      next => cases hq
    next => cases hq
  next =>
    split at hq
    next x =>
      obtain ⟨xv, st2, hst9, hx, hs9⟩ := se_cons hs; clear hs; subst hst9; have hs := hs9; clear hs9
      cases se_nil hs
      split at hq
      next ty hty =>
        split at hq
        next hc =>
          cases hq
          obtain ⟨y, rfl, hy⟩ := se_rt_ok hc hx
          refine ⟨some (.int y), ?_, hx⟩
          simp only [rm_s5, hty]
          exact if_pos hy
        next => cases hq
      next => cases hq
    next => cases hq
  next => cases hq
