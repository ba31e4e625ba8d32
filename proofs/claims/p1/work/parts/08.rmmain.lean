section RMC
variable {p : Program} {l : Launch} {e : Env} {R : Room} {s : State} {m : MethodId} {args : Array Value} {below : List Frame} {meth : Method} {c : Code} {H : Heap} {locs : List Loc} {cells slots : Nat} {Q : State → Prop}
variable {G : rm_G} {fin : Nat → Nat → Bool} {pr : Nat → Option rm_M} {D : va_G} {ad : Nat → Nat} {tc : Nat → ClassId} {base : Nat} {cc : ByteArray} {iM : Option Nat} {pl : Nat → Option rm_P} {own : String}
theorem rm_back {pc mc ms : Nat} {arr : Array Slot} {st0 rest : List Value} {v : Option Value} {h h1 : rm_H} {a : Array Value} (X : rm_Cx G D ad tc base fin iM pl own p s m args meth c cc) (ok : rm_Ok G D ad tc base h s H locs)
    (hr : va_Run p l e R s m args below meth c H locs cells slots mc ms (F0 m pc arr st0) (rest.map (rm_v ad)) (rm_Qc G D ad tc base v h1 a) (rm_A base))
    (kk : ∀ (H1 : Heap) (locs1 : List Loc), rm_Ok G D ad tc base h1 s H1 locs1 → W p l e R s m args below meth c H1 locs1 (cells + mc) (slots + ms) Q (F0 m (pc + 3) arr ((v.toList ++ rest).map (rm_v ad)))) : W p l e R s m args below meth c H locs cells slots Q (F0 m pc arr st0) := by
  intro T hT X1
  obtain ⟨w, st₀, t, T', L, h0, X', hL, e1, e2, ⟨hv, q1, q2, q3, hz, hk⟩, st⟩ := hr T hT X1
  rw [h0] at hz hk
  have hS := ok.S
  have hw : w = v.map (rm_v ad) := by cases hv; rfl
  subst hw
  have hS1 : va_S (rm_A base) s.heap t.heap (locs ++ L) := ⟨Nat.le_trans hS.1 hz, fun q h1 h2 => by rw [hk q (Nat.lt_of_lt_of_le h1 hS.1) h2]; exact hS.2.1 q h1 h2, fun q hq => by
      rcases List.mem_append.mp hq with h | h
      · exact hS.2.2 q h
      · exact hL q h⟩
  obtain ⟨t2, a1, b1⟩ := kk t.heap (locs ++ L) ⟨q1, q2, q3, hS1⟩ T' e1 X'
  refine ⟨t2, st t2 ?_, b1⟩
  have e9 : (v.map (rm_v ad)).toList ++ rest.map (rm_v ad) = (v.toList ++ rest).map (rm_v ad) := by
    cases v <;> simp
  show Steps p.tables e below (T'.setTop { (F0 m pc arr st0) with pc := pc + 3, stack := (v.map (rm_v ad)).toList ++ rest.map (rm_v ad) }) t2
  rw [e9]
  exact a1
theorem rm_pre {as : List Value} {h : rm_H} (X : rm_Cx G D ad tc base fin iM pl own p s m args meth c cc) (ok : rm_Ok G D ad tc base h s H locs) : ∀ U : State, U.heap = H → s.WarmedH U.vm → rm_Pc G D ad tc base as h (as.map (rm_v ad)).toArray U := by
  intro U hU hW
  obtain ⟨-, -, -, -, -, -, -, -, hK, -, -, hE, -⟩ := X
  obtain ⟨o1, o2, o3, o4⟩ := ok
  subst hU
  exact ⟨rfl, o1, o2, o3, va_K.moved hW.alike hK, (hE.kept o4.2.1).warm hW⟩
theorem rm_good (hpr : rm_PrOk G fin pr) {ws : List Cond} (h : ∀ w ∈ ws, w ∈ rm_TW G) : GoodIn (rm_TW G) ws := fun w hw => ⟨h w hw, good_of_word (hpr.2.2.2.2 w (h w hw))⟩
theorem rm_isw {h : rm_H} {b ci : Nat} {C : String} (X : rm_Cx G D ad tc base fin iM pl own p s m args meth c cc) (ok : rm_Ok G D ad tc base h s H locs) (hi : rm_is G h b ci = true) (hC : if ci = rm_Str then C = "java/lang/String" else ∃ T N, (rm_cl G)[ci]? = some (C, T, N)) : ∃ cellB : Cell, H[ad b]? = some cellB ∧ cellB.vm.isStatics = false ∧ s.vm.findClass C = some cellB.cls := by
  obtain ⟨-, -, -, -, -, -, -, -, hK, -, -, hE, -⟩ := X
  unfold rm_is at hi
  split at hi
  next hc =>
    rw [if_pos hc] at hC
    simp only [Bool.and_eq_true, decide_eq_true_eq] at hi
    have h1 := (hE.1 _ hi.2.2).1
    rw [rm_K_half hi.1 hi.2.1] at h1
    obtain ⟨cell, g1, g2, g3, -⟩ := h1.kept ok.S.2.1
    subst hC
    exact ⟨cell, g1, g2, g3⟩
  next hc =>
    rw [if_neg hc] at hC
    obtain ⟨T, N, hC⟩ := hC
    split at hi
    next cj fs hh =>
      have : cj = ci := of_decide_eq_true hi
      subst this
      exact va_recv hK ok.1 hC (rm_W_in hh)
    next => cases hi
theorem rm_mayE {M M' : rm_M} {as rest : List Value} (h : rm_may M M' as rest = true) : rm_mf M' + 1 ≤ rm_mf M ∧ 8 + (rm_mx M' + 11) + rm_ml M' ≤ rm_ml M ∧ rm_cat rest ≤ 8 ∧ (lg_sl as).length ≤ rm_mx M' := by
  unfold rm_may at h
  simp only [Bool.and_eq_true, decide_eq_true_eq] at h
  exact ⟨h.1, h.2.1, h.2.2.1, h.2.2.2⟩
theorem rm_stk {st : List Value} {n : Nat} : st.map (rm_v ad) = (((st.take n).reverse).map (rm_v ad)).reverse ++ (st.drop n).map (rm_v ad) := by
  rw [← List.map_reverse, List.reverse_reverse, ← List.map_append, List.take_append_drop]
theorem rm_nn {z : Int32} (hz : ¬ z < 0) : z.toInt = (z.toNatClampNeg : Int) := by
  have hz0 : (0 : Int) ≤ z.toInt := by
    have := Int32.not_lt.mp hz
    simpa using Int32.le_iff_toInt_le.mp this
  show z.toInt = ((z.toInt.toNat : Nat) : Int)
  omega
theorem rm_copy_ok {pc index t n0 n1 a a0 : Nat} {ty : FieldType} {f g : Nat → Int32} {sp dp n : Int32} {r : List Value} {h : rm_H} {arr : Array Slot} (X : rm_Cx G D ad tc base fin iM pl own p s m args meth c cc) (ok : rm_Ok G D ad tc base h s H locs) (hml : c.maxLocals = arr.size)
    (hlink : (Cond.methodLink own index arraycopyName).before args s = true) (hnat : (Cond.native arraycopyName).before args s = true) (hstat : (Cond.static arraycopyName).before args s = true) (hini : (Cond.initialized "java/lang/System").before args s = true)
    (ha0 : h[a0]? = some (.inl (t, n0, .inl f))) (ha1 : h[a]? = some (.inl (t, n1, .inl g))) (ht : (rm_T tc)[t]? = some (tc t, ty)) (hprim : refKind ty = false)
    (h1 : ¬ sp < 0) (h2 : ¬ dp < 0) (h3 : ¬ n < 0) (h4 : sp.toNatClampNeg + n.toNatClampNeg ≤ n0) (h5 : dp.toNatClampNeg + n.toNatClampNeg ≤ n1) (hfit : ∀ i, i < n.toNatClampNeg → fits ty (.int (f (sp.toNatClampNeg + i))) = true)
    (hframes : 1 ≤ R.frames) (hlocals : rm_cat r + (nativeFrameWords "java/lang/System" "arraycopy" 5 + 11) ≤ R.locals) (hdg : decode cc pc = .ok (.invokestatic index, 3))
    (kk : ∀ (H1 : Heap) (locs1 : List Loc), rm_Ok G D ad tc base (h.set a (.inl (t, n1, .inl (va_cpy f g sp.toNatClampNeg dp.toNatClampNeg n.toNatClampNeg)))) s H1 locs1 → W p l e R s m args below meth c H1 locs1 cells slots Q (F0 m (pc + 3) arr (r.map (rm_v ad)))) : W p l e R s m args below meth c H locs cells slots Q (F0 m pc arr (.int n :: .int dp :: .ref (ad a) :: .int sp :: .ref (ad a0) :: r.map (rm_v ad))) := by
  obtain ⟨hx, hb, hts, hown, hCl, hPl, hfin, hiM, hK, had, hbs, hE, hAr⟩ := X
  intro T hT X1
  have hc0 : H[ad a0]? = some (vp_cell (tc t) (n0, .inl f)) := ok.1 a0 _ (rm_W_in ha0)
  have hc1 : H[ad a]? = some (vp_cell (tc t) (n1, .inl g)) := ok.1 a _ (rm_W_in ha1)
  obtain ⟨-, k0, hk0, cm0, hkk0⟩ := (hK.2 t _ ht).1 n0 (fun j => .int (f j))
  obtain ⟨-, k1, hk1, cm1, hkk1⟩ := (hK.2 t _ ht).1 n1 (fun j => .int (g j))
  obtain ⟨vm', X', step⟩ := X1.arraycopy hx hown hlink hnat hstat hini (src := ad a0) (dst := ad a) (cs := vp_cell (tc t) (n0, .inl f)) (cd := vp_cell (tc t) (n1, .inl g)) (srcPos := sp) (destPos := dp) (n := n) (by rw [hT]; exact hc0) (by rw [hT]; exact hc1)
    (fun _ h => by cases h) (fun _ h => by cases h) (fun h => by cases h) (fun h => by cases h) hk0 hk1 hkk0 hkk1 (by simp [hprim]) h1 h2 h3
    (by rw [rm_nn h1, rm_nn h3]; show ¬ _ > ((arrV (tc t) n0 (fun j => .int (f j))).slots.size : Int); rw [arrV_size]; omega)
    (by rw [rm_nn h2, rm_nn h3]; show ¬ _ > ((arrV (tc t) n1 (fun j => .int (g j))).slots.size : Int); rw [arrV_size]; omega)
    (fun vm₁ _ i hi => by
      have e : (vp_cell (tc t) (n0, .inl f)).slots.getD (sp.toNatClampNeg + i) .null = .int (f (sp.toNatClampNeg + i)) := by
        show (arrV (tc t) n0 (fun j => .int (f j))).slots.getD _ _ = _
        rw [Array.getD_eq_getD_getElem?, arrV_read _ _ (by omega)]
        rfl
      refine ⟨?_, ?_⟩
      · rw [e]
        exact hfit i hi
      · rw [e]
        exact trivial)
    (g := F0 m pc arr (.int n :: .int dp :: .ref (ad a) :: .int sp :: .ref (ad a0) :: r.map (rm_v ad))) rfl (by rw [hml]) (rest := r.map (rm_v ad)) rfl (by rw [hb]; exact hdg) hframes (by show 2 * 0 + _ + _ ≤ _; rw [rm_cat_map]; omega)
  have e1 : copied (vp_cell (tc t) (n0, .inl f)) (vp_cell (tc t) (n1, .inl g)) sp dp n = vp_cell (tc t) (n1, .inl (va_cpy f g sp.toNatClampNeg dp.toNatClampNeg n.toNatClampNeg)) := va_copied (fun z => .int z) (tc t) (tc t) f g h4
  rw [e1] at X' step
  have hl : ad a < H.size := (Array.getElem?_eq_some_iff.mp hc1).1
  have hheap : ((T.setVm vm').setCell (ad a) (vp_cell (tc t) (n1, .inl (va_cpy f g sp.toNatClampNeg dp.toNatClampNeg n.toNatClampNeg)))).heap = H.setIfInBounds (ad a) (vp_cell (tc t) (n1, .inl (va_cpy f g sp.toNatClampNeg dp.toNatClampNeg n.toNatClampNeg))) := by rw [← hT]; rfl
  have oq : ∀ q : Nat, q ≠ ad a → (H.setIfInBounds (ad a) (vp_cell (tc t) (n1, .inl (va_cpy f g sp.toNatClampNeg dp.toNatClampNeg n.toNatClampNeg))))[q]? = H[q]? := fun q hq => by simp [Array.getElem?_setIfInBounds, Ne.symm hq]
  have hb0 : rm_A base (ad a) := (rm_D (tc := tc) had ok.2.2.1).2 a _ (rm_W_in ha1)
  have okk := rm_Ok.put (k := 0) (e1 := .inl (t, n1, .inl (va_cpy f g sp.toNatClampNeg dp.toNatClampNeg n.toNatClampNeg))) had ok ha1 (show (H.setIfInBounds (ad a) _)[ad a]? = some (vp_cell (tc t) _) by simp [Array.getElem?_setIfInBounds, hl]; rfl) (by simp) oq
  obtain ⟨t2, a1, b1⟩ := kk _ _ ⟨okk.1, okk.2.1, okk.2.2.1, okk.2.2.2.1, okk.2.2.2.2.1, fun q hq => by
      rcases List.mem_append.mp hq with h | h
      · exact ok.S.2.2 q h
      · obtain ⟨z, -, hz⟩ := List.mem_map.mp h
        rw [← hz]
        exact hb0⟩ _ hheap X'
  exact ⟨t2, step t2 a1, b1⟩
set_option maxHeartbeats 4000000 in
theorem rm_call_ok {n j pc c1 d1 : Nat} {M M' : rm_M} {ins : Instr} {ls : rm_L} {st as rest : List Value} {h h1 : rm_H} {v : Option Value} {arr : Array Slot} (hpr : rm_PrOk G fin pr) (ih : rm_Sound G fin pr l n) (hMok : rm_BOk G pr M) (hd : rm_dec (rm_mc M) pc ins) (hs : rm_s3 G pr M ins st h = some (j, as, rest)) (hj : pr j = some M') (hrun : rm_run G fin pr n M' 0 (lv_args 0 as) [] h = some (v, h1, c1, d1))
    (X : rm_Cx G D ad tc base fin (rm_iM M) (rm_mp M) (rm_mo M) p s m args meth c (rm_mc M)) (hF : rm_mf M ≤ R.frames) (hL : rm_ml M ≤ R.locals) (hml : c.maxLocals = rm_mx M) (hl : lv_has arr (rm_mx M) (rm_vl ad ls)) (ok : rm_Ok G D ad tc base h s H locs) (hR : cells + c1 ≤ R.cells ∧ slots + d1 ≤ R.slots) :
    va_Run p l e R s m args below meth c H locs cells slots c1 d1 (F0 m pc arr (st.map (rm_v ad))) (rest.map (rm_v ad)) (rm_Qc G D ad tc base v h1 (as.map (rm_v ad)).toArray) (rm_A base) := by
  obtain ⟨hx, hb, hts, hown, hCl, hPl, hfin, hiM, hK, had, hbs, hE, hAr⟩ := id X
  obtain ⟨m4', -⟩ := hMok
  unfold rm_s3 at hs
  split at hs
  next idx =>
    split at hs
    next j' b z hp =>
      split at hs
      next M2 hj2 =>
        split at hs
        next hk =>
          split at hs
          next b0 rest2 hdr =>
            split at hs
            next hq =>
              cases hs
              cases hj.symm.trans hj2
              simp only [Bool.and_eq_true] at hq
              obtain ⟨f1, f2, f3, f4⟩ := rm_mayE hq.2
              obtain ⟨m1, m2, m3, m4, m5, m6, m7, m8, m9, m10, m11⟩ := hpr.1 _ _ hj
              obtain ⟨v1, v2, v3⟩ := m9 hk.1
              have hlk := m4'.1 _ _ _ _ hp _ hj
              have hmet := rm_met (D := D) (tc := tc) (base := base) hpr ih (hpr.1 _ _ hj) f4 hrun had
              refine va_runV (As := ((st.take (rm_mn M')).reverse).map (rm_v ad)) (b := ad b0) (n := rm_mn M') ⟨hx, hb, hml, hown, hts⟩ hmet (cwV (rm_mn M') hts (rm_good hpr ?_) rfl rfl rfl ⟨rfl, m7⟩ ⟨Nat.le_trans f1 hF, Nat.le_trans f2 hL⟩) ⟨rm_Pc_blind _ _ _ _ _ _ _, rm_isw X ok hq.1 v3, rm_pre X ok⟩ rfl (by rw [List.length_map, List.length_reverse]; exact hk.2) hl.1 ?_ (lv_room (by rw [rm_cat_map]; exact f3)) (hd.at rfl (by decide)) hR
              · intro w hw
                rcases List.mem_append.mp hw with hw | hw
                · simp only [List.mem_cons, List.not_mem_nil, or_false] at hw
                  rcases hw with rfl | rfl | rfl | rfl
                  · exact hlk
                  · exact v1
                  · exact v2
                  · exact m8
                · rcases List.mem_cons.mp hw with rfl | hw
                  · exact m6
                  · exact hw
              · show st.map (rm_v ad) = _
                rw [rm_stk (n := rm_mn M'), hdr]
                rfl
            next => cases hs
          next => cases hs
        next => cases hs
      next => cases hs
    next => cases hs
  next idx =>
    split at hs
    next j' b z hp =>
      split at hs
      next M2 hj2 =>
        split at hs
        next hk =>
          split at hs
          next hq =>
            cases hs
            cases hj.symm.trans hj2
            obtain ⟨f1, f2, f3, f4⟩ := rm_mayE hq
            obtain ⟨m1, m2, m3, m4, m5, m6, m7, m8, m9, m10, m11⟩ := hpr.1 _ _ hj
            have hlk := m4'.1 _ _ _ _ hp _ hj
            have hmet := rm_met (D := D) (tc := tc) (base := base) hpr ih (hpr.1 _ _ hj) f4 hrun had
            refine va_runS (As := ((st.take (rm_mn M')).reverse).map (rm_v ad)) (n := rm_mn M') ⟨hx, hb, hml, hown, hts⟩ hmet ⟨callB_of (rm_mn M') hts (rm_good hpr ?_) rfl rfl rfl (hts _ m8) (hts _ hlk) m7 ⟨Nat.le_trans f1 hF, Nat.le_trans f2 hL⟩, hts _ (m10 hk.1)⟩ ⟨rm_Pc_blind _ _ _ _ _ _ _, rm_pre X ok⟩ rfl (by rw [List.length_map, List.length_reverse]; exact hk.2) hl.1 ?_ (lv_room (by rw [rm_cat_map]; exact f3)) (hd.at rfl (by decide)) hR
            · intro w hw
              rcases List.mem_cons.mp hw with rfl | hw
              · exact m6
              · exact hw
            · exact rm_stk
          next => cases hs
        next => cases hs
      next => cases hs
    next j' b z hp =>
      split at hs
      next M2 hj2 =>
        split at hs
        next hk =>
          split at hs
          next hq =>
            cases hs
            cases hj.symm.trans hj2
            obtain ⟨f1, f2, f3, f4⟩ := rm_mayE hq
            obtain ⟨m1, m2, m3, m4, m5, m6, m7, m8, m9, m10, m11⟩ := hpr.1 _ _ hj
            have hlk := hE.2.2.2.2.2.1 _ (m4'.2.1 _ _ _ _ hp _ hj)
            have hmet := rm_met (D := D) (tc := tc) (base := base) hpr ih (hpr.1 _ _ hj) f4 hrun had
            refine va_runSN (As := ((st.take (rm_mn M')).reverse).map (rm_v ad)) (n := rm_mn M') ⟨hx, hb, hml, hown, hts⟩ hmet ⟨va_cnB (rm_mn M') hts (rm_good hpr ?_) rfl rfl rfl hlk (hts _ m8) m7 ⟨Nat.le_trans f1 hF, Nat.le_trans f2 hL⟩, hts _ (m10 hk.1), trivial⟩ ⟨rm_Pc_blind _ _ _ _ _ _ _, rm_pre X ok⟩ rfl (by rw [List.length_map, List.length_reverse]; exact hk.2) hl.1 ?_ (lv_room (by rw [rm_cat_map]; exact f3)) (hd.at rfl (by decide)) hR
            · intro w hw
              rcases List.mem_cons.mp hw with rfl | hw
              · exact m6
              · exact hw
            · exact rm_stk
          next => cases hs
        next => cases hs
      next => cases hs
    next => cases hs
  next idx =>
    split at hs
    next j' b z hp =>
      split at hs
      next M2 hj2 =>
        split at hs
        next hk =>
          split at hs
          next b0 rest2 hdr =>
            split at hs
            next hq =>
              cases hs
              cases hj.symm.trans hj2
              obtain ⟨f1, f2, f3, f4⟩ := rm_mayE hq
              obtain ⟨m1, m2, m3, m4, m5, m6, m7, m8, m9, m10, m11⟩ := hpr.1 _ _ hj
              obtain ⟨i1, i2, i3, i4⟩ := m11 hk.1
              have hlk := m4'.1 _ _ _ _ hp _ hj
              have hmet := rm_met (D := D) (tc := tc) (base := base) hpr ih (hpr.1 _ _ hj) f4 hrun had
              rw [i3] at hmet m6
              refine va_runI (As := ((st.take (rm_mn M')).reverse).map (rm_v ad)) (b := ad b0) (n := rm_mn M') ⟨hx, hb, hml, hown, hts⟩ hmet ⟨callB_of (rm_mn M') hts (rm_good hpr ?_) rfl rfl rfl (hts _ m8) (hts _ hlk) m7 ⟨Nat.le_trans f1 hF, Nat.le_trans f2 hL⟩, i2, hts _ i1⟩ ⟨rm_Pc_blind _ _ _ _ _ _ _, rm_pre X ok⟩ rfl (by rw [List.length_map, List.length_reverse]; exact hk.2) hl.1 ?_ (lv_room (by rw [rm_cat_map]; exact f3)) (hd.at rfl (by decide)) hR
              · intro w hw
                rcases List.mem_cons.mp hw with rfl | hw
                · exact m6
                · exact hw
              · show st.map (rm_v ad) = _
                rw [rm_stk (n := rm_mn M'), hdr]
                rfl
            next => cases hs
          next => cases hs
        next => cases hs
      next => cases hs
    next j' b z hp =>
      split at hs
      next M2 hj2 =>
        split at hs
        next hk =>
          split at hs
          next b0 rest2 hdr =>
            split at hs
            next hq =>
              cases hs
              cases hj.symm.trans hj2
              obtain ⟨f1, f2, f3, f4⟩ := rm_mayE hq
              obtain ⟨m1, m2, m3, m4, m5, m6, m7, m8, m9, m10, m11⟩ := hpr.1 _ _ hj
              obtain ⟨i1, i2, i3, i4⟩ := m11 hk.1
              have hlk := hE.2.2.2.2.2.1 _ (m4'.2.1 _ _ _ _ hp _ hj)
              have hmet := rm_met (D := D) (tc := tc) (base := base) hpr ih (hpr.1 _ _ hj) f4 hrun had
              rw [i3] at hmet m6
              refine va_runIN (As := ((st.take (rm_mn M')).reverse).map (rm_v ad)) (b := ad b0) (n := rm_mn M') ⟨hx, hb, hml, hown, hts⟩ hmet ⟨va_cnB (rm_mn M') hts (rm_good hpr ?_) rfl rfl rfl hlk (hts _ m8) m7 ⟨Nat.le_trans f1 hF, Nat.le_trans f2 hL⟩, i2, hts _ i1⟩ ⟨rm_Pc_blind _ _ _ _ _ _ _, rm_pre X ok⟩ rfl (by rw [List.length_map, List.length_reverse]; exact hk.2) hl.1 ?_ (lv_room (by rw [rm_cat_map]; exact f3)) (hd.at rfl (by decide)) hR
              · intro w hw
                rcases List.mem_cons.mp hw with rfl | hw
                · exact m6
                · exact hw
              · show st.map (rm_v ad) = _
                rw [rm_stk (n := rm_mn M'), hdr]
                rfl
            next => cases hs
          next => cases hs
        next => cases hs
      next => cases hs
    next => cases hs
  next => cases hs
end RMC
