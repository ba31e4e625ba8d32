theorem rm_addE {c d : Nat} {r : rm_R} {v : Option Value} {h : rm_H} {a b : Nat} (hr : rm_add c d r = some (v, h, a, b)) : ∃ a' b', r = some (v, h, a', b') ∧ a = c + a' ∧ b = d + b' := by
  unfold rm_add at hr
  split at hr
  next v' h' a' b' =>
    cases hr
    exact ⟨a', b', rfl, rfl, rfl⟩
  next => cases hr
theorem rm_mon (m : MethodId) (pc : Nat) (arr : Array Slot) (st : List Value) : (F0 m pc arr st).monitorRoom = 0 := by rfl
set_option maxHeartbeats 4000000 in
theorem rm_s4_ok {p : Program} {l : Launch} {e : Env} {R : Room} {s : State} {m : MethodId} {args : Array Value} {below : List Frame} {meth : Method} {c : Code} {H : Heap} {locs : List Loc} {cells slots : Nat} {Q : State → Prop} {G : rm_G} {fin : Nat → Nat → Bool} {pr : Nat → Option rm_M} {D : va_G} {ad : Nat → Nat} {tc : Nat → ClassId} {base pc : Nat} {M : rm_M} {ins : Instr} {ls : rm_L} {st : List Value} {h : rm_H} {y : List Value × rm_H} {arr : Array Slot}
    (hM : rm_BOk G pr M) (hd : rm_dec (rm_mc M) pc ins) (h4 : rm_s4 M ins st h = some y) (X : rm_Cx G D ad tc base fin (rm_iM M) (rm_mp M) (rm_mo M) p s m args meth c (rm_mc M)) (hF : rm_mf M ≤ R.frames) (hL : rm_ml M ≤ R.locals) (hml : c.maxLocals = rm_mx M) (hl : lv_has arr (rm_mx M) (rm_vl ad ls)) (ok : rm_Ok G D ad tc base h s H locs) (hRc : cells ≤ R.cells ∧ slots ≤ R.slots)
    (kk : ∀ (H1 : Heap) (locs1 : List Loc), rm_Ok G D ad tc base y.2 s H1 locs1 → W p l e R s m args below meth c H1 locs1 cells slots Q (F0 m (pc + 3) arr (y.1.map (rm_v ad)))) : W p l e R s m args below meth c H locs cells slots Q (F0 m pc arr (st.map (rm_v ad))) := by
  have hts := X.2.2.1
  unfold rm_s4 at h4
  split at h4
  next idx =>
    split at h4
    next a b z hp =>
      split at h4
      next a0 r0 =>
        split at h4
        next hq =>
          cases h4
          obtain ⟨w1, w2, w3⟩ := hM.1.2.2.1 _ _ _ _ hp
          refine W.objInit X.1 X.2.1 X.2.2.2.1 (hts _ w1) (hts _ w2) (hts _ w3) rfl (by rw [hml]; exact hl.1) rfl (hd.at rfl (by decide)) (Nat.le_trans hq.1 hF) ?_ (kk H locs ok)
          rw [rm_mon, rm_cat_map]
          have := hq.2
          omega
        next => cases h4
      next => cases h4
    next => cases h4
  next idx =>
    split at h4
    next a b z hp =>
      split at h4
      next n1 dp a1 sp a0 r0 =>
        split at h4
        next t0 n0 f t1 n2 g e0 e1 =>
          split at h4
          next hq =>
            obtain ⟨q1, q2, q3, q4, q5, q6, q7, q8, q9, q10⟩ := hq
            subst q2
            cases h4
            obtain ⟨w1, w2, w3, w4⟩ := hM.1.2.2.2.1 _ _ _ _ hp
            obtain ⟨ty, hty, hpm, hft⟩ : ∃ ty, (rm_T tc)[t0]? = some (tc t0, ty) ∧ refKind ty = false ∧ ∀ i, i < n1.toNatClampNeg → fits ty (.int (f (sp.toNatClampNeg + i))) = true := by
              match t0, q1, q8 with
              | 0, _, _ => exact ⟨_, rfl, rfl, fun i _ => rfl⟩
              | 1, _, q8 =>
                rcases q8 with q8 | q8
                · cases q8
                · exact ⟨_, rfl, rfl, fun i hi => (List.all_eq_true.mp q8) i (List.mem_range.mpr hi)⟩
            exact rm_copy_ok X ok (by rw [hml]; exact hl.1.symm) (hts _ w1) (hts _ w2) (hts _ w3) (hts _ w4) e0 e1 hty hpm q3 q4 q5 q6 q7 hft (Nat.le_trans q9 hF) (Nat.le_trans q10 hL) (hd.at rfl (by decide)) kk
          next => cases h4
        next => cases h4
      next => cases h4
    next a b z hp =>
      split at h4
      next y x r =>
        split at h4
        next hq =>
          cases h4
          obtain ⟨w1, w2, w3, w4⟩ := hM.1.2.2.2.2.1 _ _ _ _ hp
          exact va_mmax X.1 X.2.1 (by rw [hml]; exact hl.1.symm) X.2.2.2.1 (hts _ w1) (hts _ w2) (hts _ w3) (hts _ w4) (Nat.le_trans hq.1 hF) (by rw [rm_cat_map]; exact Nat.le_trans hq.2 hL) hRc.1 hRc.2 (hd.at rfl (by decide)) (kk H locs ok)
        next => cases h4
      next => cases h4
    next a b z hp =>
      split at h4
      next y x r =>
        split at h4
        next hq =>
          cases h4
          obtain ⟨w1, w2, w3, w4⟩ := hM.1.2.2.2.2.2 _ _ _ _ hp
          exact va_mmin X.1 X.2.1 (by rw [hml]; exact hl.1.symm) X.2.2.2.1 (hts _ w1) (hts _ w2) (hts _ w3) (hts _ w4) (Nat.le_trans hq.1 hF) (by rw [rm_cat_map]; exact Nat.le_trans hq.2 hL) hRc.1 hRc.2 (hd.at rfl (by decide)) (kk H locs ok)
        next => cases h4
      next => cases h4
    next => cases h4
  next => cases h4
set_option maxHeartbeats 4000000 in
theorem rm_sound {G : rm_G} {fin : Nat → Nat → Bool} {pr : Nat → Option rm_M} (l : Launch) (hpr : rm_PrOk G fin pr) : ∀ n : Nat, rm_Sound G fin pr l n := by
  intro n
  induction n with
  | zero =>
    intro M pc ls st h v h' c1 d1 hrun
    cases hrun
  | succ n ih =>
    intro M pc ls st h v h' c1 d1 hrun hM p e R s m args below meth c H locs cells slots Q arr D ad tc base X hF hL hml hl ok hR kret
    unfold rm_run at hrun
    split at hrun
    next => cases hrun
    next ins hbd =>
      have hd := hM.2 pc ins hbd
      split at hrun
      next x h1 =>
        exact rm_s1_ok X.1 X.2.1 hd h1 hl (fun arr' hl' => ih M x.1 x.2.1 x.2.2 h v h' c1 d1 hrun hM p e R s m args below meth c H locs cells slots Q arr' D ad tc base X hF hL hml hl' ok hR kret)
      next =>
        split at hrun
        next x h2 =>
          obtain ⟨a', b', hr, rfl, rfl⟩ := rm_addE hrun
          refine rm_s2_ok X hd h2 hl ok ⟨by omega, by omega⟩ (fun H1 locs1 ok1 arr' hl' => ?_)
          exact ih M x.1 x.2.1 x.2.2.1 x.2.2.2.1 v h' a' b' hr hM p e R s m args below meth c H1 locs1 _ _ Q arr' D ad tc base X hF hL hml hl' ok1 ⟨by omega, by omega⟩ (fun pcR ins2 arr2 stR H2 locs2 k1 k2 k3 => by
            have := kret pcR ins2 arr2 stR H2 locs2 k1 k2 k3
            rw [Nat.add_assoc, Nat.add_assoc]
            exact this)
        next =>
          split at hrun
          next j as rest h3 =>
            split at hrun
            next => cases hrun
            next M' hj =>
              split at hrun
              next => cases hrun
              next v1 h1 c2 d2 hcall =>
                obtain ⟨a', b', hr, rfl, rfl⟩ := rm_addE hrun
                have hrunW := rm_call_ok (e := e) (below := below) hpr ih hM hd h3 hj hcall X hF hL hml hl ok (cells := cells) (slots := slots) ⟨by omega, by omega⟩
                refine rm_back X ok hrunW (fun H1 locs1 ok1 => ?_)
                exact ih M (pc + 3) ls (v1.toList ++ rest) h1 v h' a' b' hr hM p e R s m args below meth c H1 locs1 _ _ Q arr D ad tc base X hF hL hml hl ok1 ⟨by omega, by omega⟩ (fun pcR ins2 arr2 stR H2 locs2 k1 k2 k3 => by
                  have := kret pcR ins2 arr2 stR H2 locs2 k1 k2 k3
                  rw [Nat.add_assoc, Nat.add_assoc]
                  exact this)
          next =>
            split at hrun
            next y h4 =>
              exact rm_s4_ok hM hd h4 X hF hL hml hl ok ⟨by omega, by omega⟩ (fun H1 locs1 ok1 => ih M (pc + 3) ls y.1 y.2 v h' c1 d1 hrun hM p e R s m args below meth c H1 locs1 cells slots Q arr D ad tc base X hF hL hml hl ok1 hR kret)
            next =>
              split at hrun
              next v0 h5 =>
                cases hrun
                exact kret pc ins arr st H locs hbd h5 ok
              next => cases hrun
