def rm_ArOk (G : rm_G) : Prop := ∀ t u, rm_at t = some u → Cond.arrayClass (newarray.typeOf t) ∈ rm_TW G
section RMB
variable {p : Program} {l : Launch} {e : Env} {R : Room} {s : State} {m : MethodId} {args : Array Value} {below : List Frame} {meth : Method} {c : Code} {H : Heap} {locs : List Loc} {cells slots : Nat} {Q : State → Prop}
variable {cc : ByteArray} {ad : Nat → Nat} {tc : Nat → ClassId} {mx pc base : Nat} {ls : rm_L} {st : List Value} {arr : Array Slot}
variable {G : rm_G} {D : va_G} {fin : Nat → Nat → Bool} {iM : Option Nat} {pl : Nat → Option rm_P} {own : String} {h : rm_H}
def rm_Cx (G : rm_G) (D : va_G) (ad : Nat → Nat) (tc : Nat → ClassId) (base : Nat) (fin : Nat → Nat → Bool) (iM : Option Nat) (pl : Nat → Option rm_P) (own : String) (p : Program) (s : State) (m : MethodId) (args : Array Value) (meth : Method) (c : Code) (cc : ByteArray) : Prop :=
  p.tables.exec = Jvm.exec ∧ c.code = cc ∧ (∀ w ∈ rm_TW G, w.before args s = true) ∧ s.vm.findClass own = some m.cls ∧ rm_ClOk G ∧ rm_PlOk G own pl ∧
  (∀ ci C T N k, (rm_cl G)[ci]? = some (C, T, N) → k < N → fin ci k = (T k).2.2.2) ∧ (∀ ci, iM = some ci → meth.name = "<init>" ∧ ∃ T N, (rm_cl G)[ci]? = some (own, T, N)) ∧
  va_K D (rm_cl G) (rm_T tc) s ∧ (∀ k, k < rm_K → ad k = base + k) ∧ base ≤ s.heap.size ∧ rm_Env G ad (rm_A base) s s.heap ∧ rm_ArOk G
theorem rm_Ok.put {a k : Nat} {e0 e1 : rm_E} {H1 : Heap} (had : ∀ k, k < rm_K → ad k = base + k) (ok : rm_Ok G D ad tc base h s H locs) (he : h[a]? = some e0) (hw : va_at D (rm_cl G) (ad a, rm_e ad tc e1) H1) (z : H1.size = H.size) (oq : ∀ q, q ≠ ad a → H1[q]? = H[q]?) : rm_Ok G D ad tc base (h.set a e1) s H1 (locs ++ [⟨ad a, k⟩]) := by
  obtain ⟨hP, hsz, hl, hS⟩ := ok
  have hD := rm_D (tc := tc) had hl
  have hin := rm_W_in (ad := ad) (tc := tc) he
  refine ⟨?_, by rw [z, hsz, List.length_set], by rw [List.length_set]; exact hl, hS.put z oq (hD.2 a _ hin)⟩
  rw [← rm_W_set]
  exact hP.set hD hin hw oq
theorem rm_Ok.push {e1 : rm_E} {H1 : Heap} (had : ∀ k, k < rm_K → ad k = base + k) (hbs : base ≤ s.heap.size) (ok : rm_Ok G D ad tc base h s H locs) (hlt : h.length < rm_K) (hw : va_at D (rm_cl G) (H.size, rm_e ad tc e1) H1) (z : H1.size = H.size + 1) (oq : ∀ q, q < H.size → H1[q]? = H[q]?) : rm_Ok G D ad tc base (h ++ [e1]) s H1 locs := by
  obtain ⟨hP, hsz, hl, hS⟩ := ok
  have ha : ad h.length = H.size := by rw [had _ hlt, hsz]
  refine ⟨?_, by rw [z, hsz, List.length_append]; simp; omega, by rw [List.length_append]; simp; omega, ⟨by have := hS.1; omega, fun q h1 h2 => ?_, hS.2.2⟩⟩
  · rw [rm_W_push]
    refine (hP.kept (fun k q hq => oq _ ((hP k q hq).lt))).app (fun k q hq => ?_)
    have h0 : k < 1 := (List.getElem?_eq_some_iff.mp hq).1
    rw [show k = 0 by omega] at hq
    cases hq
    rw [ha]
    exact hw
  · rw [oq q (Nat.lt_of_lt_of_le h1 hS.1)]
    exact hS.2.1 q h1 h2
theorem rm_put_ok {C : String} {T : u_T} {N ci index a k : Nat} {fs : List Value} {v : Value} {r : List Value} (X : rm_Cx G D ad tc base fin iM pl own p s m args meth c cc) (ok : rm_Ok G D ad tc base h s H locs) (hc : (rm_cl G)[ci]? = some (C, T, N)) (hk : k < N) (hlink : (Cond.fieldLink own index (T k).1 (T k).2.1 (T k).2.2.1).before args s = true)
    (he : h[a]? = some (.inr (ci, fs))) (hl : k < fs.length) (hn : narrow (rm_ty G ci k) v = v) (hfit : fits (rm_ty G ci k) v = true) (hf : fin ci k = false ∨ iM = some ci) (hdg : decode cc pc = .ok (.putfield index, 3))
    (kk : ∀ (H1 : Heap) (locs1 : List Loc), rm_Ok G D ad tc base (h.set a (.inr (ci, fs.set k v))) s H1 locs1 → W p l e R s m args below meth c H1 locs1 cells slots Q (F0 m (pc + 3) arr (r.map (rm_v ad)))) : W p l e R s m args below meth c H locs cells slots Q (F0 m pc arr (rm_v ad v :: .ref (ad a) :: r.map (rm_v ad))) := by
  obtain ⟨hx, hb, hts, hown, hCl, hPl, hfin, hiM, hK, had, hbs, hE⟩ := X
  obtain ⟨c1, c2, c3, -, -, -, c7, -, -⟩ := hCl ci C T N hc
  have hap := va_apart (own := own) hts c1 (rm_ty G ci) c2 c3 hK hc
  have hP := ok.1
  obtain ⟨r0, h1, cell, q1, q2, q3, q4⟩ := hP a _ (rm_W_in he)
  have hr : r0 = (C, T, N) := Option.some.inj (h1.symm.trans hc)
  subst hr
  obtain ⟨hS, hfc, kC, hkC, hkind⟩ := hK.1 ci _ hc
  obtain ⟨cf, kf, fi, f, hi, hsl⟩ := hS k hk
  have hst := (u_facts hfc hkC (u_lays hts c1 hk) hi).1
  have hn' : narrow (rm_ty G ci k) (rm_v ad v) = rm_v ad v := by
    cases v <;> first | exact hn | (cases hty : rm_ty G ci k <;> rfl)
  have hfit' : fits (rm_ty G ci k) (rm_v ad v) = true := by
    cases v <;> first | exact hfit | (cases hty : rm_ty G ci k <;> rw [hty] at hfit <;> first | rfl | (simp [fits] at hfit))
  have back : ∀ H' : Heap, H'[ad a]? = some (cell.setSlot f.slot (rm_v ad v)) → H'.size = H.size → (∀ q, q ≠ ad a → H'[q]? = H[q]?) → W p l e R s m args below meth c H' (locs ++ [⟨ad a, f.slot⟩]) cells slots Q (F0 m (pc + 3) arr (r.map (rm_v ad))) := by
    intro H' e1 e2 e3
    refine kk H' _ (rm_Ok.put had ok he ?_ e2 e3)
    rw [hsl] at e1
    refine ⟨_, hc, ?_⟩
    have hlm : k < (fs.map (rm_v ad)).length := by rw [List.length_map]; exact hl
    have := t_OB.to (V := updV (vp_V (fs.map (rm_v ad))) k (rm_v ad v)) (V' := vp_V ((fs.map (rm_v ad)).set k (rm_v ad v))) ⟨_, e1, q2, q3, t_set q4 hap hk (rm_v ad v)⟩ (fun j _ => vp_updV_set hlm (rm_v ad v) j)
    rw [← List.map_set] at this
    exact this
  have hfa : fin ci k = (T k).2.2.2 := hfin ci C T N k hc hk
  by_cases hF : (T k).2.2.2 = true
  · have him : iM = some ci := by
      rcases hf with hf | hf
      · rw [hfa, hF] at hf; cases hf
      · exact hf
    obtain ⟨hin2, T2, N2, hc2⟩ := hiM ci him
    have hown2 : own = C := by
      have := hc.symm.trans hc2
      simp at this
      exact this.1.symm
    have hlay := hts _ (c1 _ (u_in_lay hk))
    unfold u_lay at hlay
    rw [if_pos hF] at hlay
    have hcf : m.cls = cf := by
      obtain ⟨_, _, c', _, _, _, -, -, hf', -, -, -, hown3, -⟩ := Cond.laysFinal_spec hlay
      have e1 : c' = cf := by have := hi.symm.trans hf'; simp at this; exact this.1.symm
      rw [c7 k hk, ← hown2] at hown3
      rw [← e1]; exact Option.some.inj (hown.symm.trans hown3)
    have h6 := u_fits hfc hkC hkind (Or.inr hlay) hi (c2 k hk) hn' hfit'
    exact W.putFinK hx hb hown hlink hi hst hcf hin2 (by rw [q2]; exact h6) q1 q3 (by rw [hsl]; exact k2_hasslot (q4 k hk)) rfl rfl hdg back
  · have hlay := hts _ (c1 _ (u_in_lay hk))
    unfold u_lay at hlay
    rw [if_neg hF] at hlay
    have h6 := u_store hfc hkC hkind hlay hi (c2 k hk) hn' hfit'
    exact W.putK hx hb (f := f) ⟨hown, hlink, ⟨_, _, _, hi⟩, hst⟩ (by rw [q2]; exact h6) q1 q3 (by rw [hsl]; exact k2_hasslot (q4 k hk)) rfl rfl hdg back
theorem rm_K_half {a : Nat} (h1 : rm_K ≤ a) (h2 : (a - rm_K) % 2 = 0) : rm_K + 2 * ((a - rm_K) / 2) = a := by omega
theorem rm_K_half1 {a : Nat} (h1 : rm_K ≤ a) (h2 : (a - rm_K) % 2 = 0) : rm_K + (2 * ((a - rm_K) / 2) + 1) = a + 1 := by omega
theorem rm_K_sub {a : Nat} (h : ¬ a < rm_K) : rm_K + (a - rm_K) = a := by omega
theorem rm_rdi_ok {t : Nat} {ty : FieldType} {a : Nat} {i x : Int32} {r : List Value} (X : rm_Cx G D ad tc base fin iM pl own p s m args meth c cc) (ok : rm_Ok G D ad tc base h s H locs) (hr : rm_rdi G h t ty a i = some x)
    (hm : ∀ (n : Nat) (f : Nat → Int32), h[a]? = some (.inl (t, n, .inl f)) → vp_in i n → f i.toNatClampNeg = x → W p l e R s m args below meth c H locs cells slots Q (F0 m pc arr (.int i :: .ref (ad a) :: r.map (rm_v ad))))
    (hc : ∀ (n : Nat) (f : Nat → Int32), va_T ty (ad a) n (fun j => .int (f j)) (rm_A base) s s.heap → vp_in i n → f i.toNatClampNeg = x → W p l e R s m args below meth c H locs cells slots Q (F0 m pc arr (.int i :: .ref (ad a) :: r.map (rm_v ad)))) : W p l e R s m args below meth c H locs cells slots Q (F0 m pc arr (.int i :: .ref (ad a) :: r.map (rm_v ad))) := by
  obtain ⟨hx, hb, hts, hown, hCl, hPl, hfin, hiM, hK, had, hbs, hE, -⟩ := X
  unfold rm_rdi at hr
  split at hr
  next =>
    split at hr
    next u n f hh =>
      split at hr
      next hu =>
        subst hu
        split at hr
        next => cases hr
        next hin => cases hr; exact hm n f hh hin rfl
      next => cases hr
    next => cases hr
  next hge =>
    split at hr
    next ty' n f hh =>
      split at hr
      next hu =>
        subst hu
        split at hr
        next => cases hr
        next hin =>
          cases hr
          have := hE.2.1 (a - rm_K) _ n f hh
          rw [rm_K_sub hge] at this
          exact hc n f this hin rfl
      next => cases hr
    next => cases hr
theorem rm_Ok.S (ok : rm_Ok G D ad tc base h s H locs) : va_S (rm_A base) s.heap H locs := ok.2.2.2
theorem rm_new_ok {C : String} {T : u_T} {N ci index : Nat} {r : List Value} (X : rm_Cx G D ad tc base fin iM pl own p s m args meth c cc) (ok : rm_Ok G D ad tc base h s H locs) (hc : (rm_cl G)[ci]? = some (C, T, N)) (hlink : (Cond.classLink own index C).before args s = true) (hlt : h.length < rm_K)
    (hR : cells + 1 ≤ R.cells ∧ slots + (rm_df G ci).length ≤ R.slots) (hdg : decode cc pc = .ok (.new index, 3))
    (kk : ∀ (H1 : Heap), rm_Ok G D ad tc base (h ++ [.inr (ci, rm_df G ci)]) s H1 locs → W p l e R s m args below meth c H1 locs (cells + 1) (slots + (rm_df G ci).length) Q (F0 m (pc + 3) arr (.ref (ad h.length) :: r.map (rm_v ad)))) : W p l e R s m args below meth c H locs cells slots Q (F0 m pc arr (r.map (rm_v ad))) := by
  obtain ⟨hx, hb, hts, hown, hCl, hPl, hfin, hiM, hK, had, hbs, hE, -⟩ := X
  obtain ⟨c1, c2, c3, c4, c5, c6, c7, c8, c9⟩ := hCl ci C T N hc
  have hKn := hK.1 ci _ hc
  have ha : ad h.length = H.size := by rw [had _ hlt, ok.2.1]
  rw [c9] at hR kk
  refine W.newcK hx hb hown hlink (hts _ c4) (hts _ c5) rfl hdg hR.1 hR.2 hKn.2.1 rfl fun H1 kC hkC e1 z1 o1 => ?_
  have := kk H1 (rm_Ok.push had hbs ok hlt ⟨_, hc, by
    have := (u_born (rm_ty G ci) hts c1 hKn hkC e1 c2).to (V' := vp_V (rm_df G ci)) c6
    show t_OB H.size (D.1 ci) N (D.2 ci) H1 (vp_V ((rm_df G ci).map (rm_v ad)))
    rw [c8 ad]
    exact this⟩ z1 o1)
  rw [ha] at this
  exact this
theorem rm_newa_ok {t : ArrayType} {u : Nat} {n : Int32} {r : List Value} (X : rm_Cx G D ad tc base fin iM pl own p s m args meth c cc) (ok : rm_Ok G D ad tc base h s H locs) (hu : rm_at t = some u) (hlt : h.length < rm_K) (hn : ¬ n < 0) (h8 : n.toNatClampNeg * 8 ≤ 536870912)
    (hR : cells + 1 ≤ R.cells ∧ slots + n.toNatClampNeg ≤ R.slots) (hdg : decode cc pc = .ok (.newarray t, 2))
    (kk : ∀ (H1 : Heap), rm_Ok G D ad tc base (h ++ [.inl (u, rm_z u n.toNatClampNeg)]) s H1 locs → W p l e R s m args below meth c H1 locs (cells + 1) (slots + n.toNatClampNeg) Q (F0 m (pc + 2) arr (.ref (ad h.length) :: r.map (rm_v ad)))) : W p l e R s m args below meth c H locs cells slots Q (F0 m pc arr (.int n :: r.map (rm_v ad))) := by
  obtain ⟨hx, hb, hts, hown, hCl, hPl, hfin, hiM, hK, had, hbs, hE, hAr⟩ := X
  have ha : ad h.length = H.size := by rw [had _ hlt, ok.2.1]
  refine va_newaK hx hb (hts _ (hAr t u hu)) rfl hdg rfl hn rfl (Nat.le_trans (Nat.mul_le_mul_left _ (by cases t <;> first | decide | (simp [rm_at] at hu))) h8) hR.1 hR.2 rfl fun H1 cA e1 z1 o1 hAr2 hNm => ?_
  have hcA : cA = tc u ∧ ∀ N, arrV cA N (fun _ => defaultValue (newarray.typeOf t)) = vp_cell cA (rm_a ad (rm_z u N)) := by
    cases t <;> simp [rm_at] at hu <;> subst hu
    · exact ⟨Option.some.inj (hNm.symm.trans (hK.2 2 (tc 2, .boolean) rfl).2), fun N => rfl⟩
    · exact ⟨Option.some.inj (hNm.symm.trans (hK.2 1 (tc 1, .byte) rfl).2), fun N => rfl⟩
    · exact ⟨Option.some.inj (hNm.symm.trans (hK.2 0 (tc 0, .int) rfl).2), fun N => rfl⟩
    · exact ⟨Option.some.inj (hNm.symm.trans (hK.2 3 (tc 3, .long) rfl).2), fun N => rfl⟩
  have := kk H1 (rm_Ok.push had hbs ok hlt (by
    show H1[H.size]? = some (vp_cell (tc u) _)
    rw [← hcA.1, ← hcA.2]
    exact e1) z1 o1)
  rw [ha] at this
  exact this
theorem rm_iast_ok {a n : Nat} {f : Nat → Int32} {i : Int32} {x : Int32} {r : List Value} (X : rm_Cx G D ad tc base fin iM pl own p s m args meth c cc) (ok : rm_Ok G D ad tc base h s H locs) (he : h[a]? = some (.inl (0, n, .inl (f)))) (hin : vp_in i n) (hdg : decode cc pc = .ok (.iastore, 1))
    (kk : ∀ (H1 : Heap) (locs1 : List Loc), rm_Ok G D ad tc base (h.set a (.inl (0, n, .inl (upd f i.toNatClampNeg x)))) s H1 locs1 → W p l e R s m args below meth c H1 locs1 cells slots Q (F0 m (pc + 1) arr (r.map (rm_v ad)))) : W p l e R s m args below meth c H locs cells slots Q (F0 m pc arr (.int x :: .int i :: .ref (ad a) :: r.map (rm_v ad))) := by
  obtain ⟨hx, hb, hts, hown, hCl, hPl, hfin, hiM, hK, had, hbs, hE, -⟩ := X
  have hP := ok.1 a _ (rm_W_in he)
  refine W.iast hx hb hP ((hK.2 0 (tc 0, .int) rfl).1 n (fun j => .int (f j))) (fun q => by cases q) (by show ¬ (i < 0 ∨ (arrV _ _ _).slots.size ≤ _); rw [arrV_size]; exact hin) rfl rfl hdg fun H1 e1 z oq => ?_
  refine kk H1 _ (rm_Ok.put had ok he ?_ z oq)
  show H1[ad a]? = some (vp_cell (tc 0) (n, .inl (upd f i.toNatClampNeg x)))
  rw [e1]
  show some ((arrV (tc 0) n (fun j => .int (f j))).setSlot _ _) = _
  rw [arrV_store]
  rw [vp_cell_i]
  congr 2
  funext q
  by_cases hq : q = i.toNatClampNeg
  · subst hq
    simp [updV, upd, vp_updL, vp_nar]
    try rfl
  · simp [updV, upd, vp_updL, hq]
theorem rm_bast_ok {a n : Nat} {f : Nat → Int32} {i : Int32} {x : Int32} {r : List Value} (X : rm_Cx G D ad tc base fin iM pl own p s m args meth c cc) (ok : rm_Ok G D ad tc base h s H locs) (he : h[a]? = some (.inl (1, n, .inl (f)))) (hin : vp_in i n) (hdg : decode cc pc = .ok (.bastore, 1))
    (kk : ∀ (H1 : Heap) (locs1 : List Loc), rm_Ok G D ad tc base (h.set a (.inl (1, n, .inl (upd f i.toNatClampNeg (vp_nar .byte x))))) s H1 locs1 → W p l e R s m args below meth c H1 locs1 cells slots Q (F0 m (pc + 1) arr (r.map (rm_v ad)))) : W p l e R s m args below meth c H locs cells slots Q (F0 m pc arr (.int x :: .int i :: .ref (ad a) :: r.map (rm_v ad))) := by
  obtain ⟨hx, hb, hts, hown, hCl, hPl, hfin, hiM, hK, had, hbs, hE, -⟩ := X
  have hP := ok.1 a _ (rm_W_in he)
  refine W.bast hx hb hP ((hK.2 1 (tc 1, .byte) rfl).1 n (fun j => .int (f j))) (fun q => by cases q) (by show ¬ (i < 0 ∨ (arrV _ _ _).slots.size ≤ _); rw [arrV_size]; exact hin) rfl rfl hdg fun H1 e1 z oq => ?_
  refine kk H1 _ (rm_Ok.put had ok he ?_ z oq)
  show H1[ad a]? = some (vp_cell (tc 1) (n, .inl (upd f i.toNatClampNeg (vp_nar .byte x))))
  rw [e1]
  show some ((arrV (tc 1) n (fun j => .int (f j))).setSlot _ _) = _
  rw [arrV_store]
  rw [vp_cell_i]
  congr 2
  funext q
  by_cases hq : q = i.toNatClampNeg
  · subst hq
    simp [updV, upd, vp_updL, vp_nar]
    try rfl
  · simp [updV, upd, vp_updL, hq]
theorem rm_zast_ok {a n : Nat} {f : Nat → Int32} {i : Int32} {x : Int32} {r : List Value} (X : rm_Cx G D ad tc base fin iM pl own p s m args meth c cc) (ok : rm_Ok G D ad tc base h s H locs) (he : h[a]? = some (.inl (2, n, .inl (f)))) (hin : vp_in i n) (hdg : decode cc pc = .ok (.bastore, 1))
    (kk : ∀ (H1 : Heap) (locs1 : List Loc), rm_Ok G D ad tc base (h.set a (.inl (2, n, .inl (upd f i.toNatClampNeg (vp_nar .boolean x))))) s H1 locs1 → W p l e R s m args below meth c H1 locs1 cells slots Q (F0 m (pc + 1) arr (r.map (rm_v ad)))) : W p l e R s m args below meth c H locs cells slots Q (F0 m pc arr (.int x :: .int i :: .ref (ad a) :: r.map (rm_v ad))) := by
  obtain ⟨hx, hb, hts, hown, hCl, hPl, hfin, hiM, hK, had, hbs, hE, -⟩ := X
  have hP := ok.1 a _ (rm_W_in he)
  refine W.zast hx hb hP ((hK.2 2 (tc 2, .boolean) rfl).1 n (fun j => .int (f j))) (fun q => by cases q) (by show ¬ (i < 0 ∨ (arrV _ _ _).slots.size ≤ _); rw [arrV_size]; exact hin) rfl rfl hdg fun H1 e1 z oq => ?_
  refine kk H1 _ (rm_Ok.put had ok he ?_ z oq)
  show H1[ad a]? = some (vp_cell (tc 2) (n, .inl (upd f i.toNatClampNeg (vp_nar .boolean x))))
  rw [e1]
  show some ((arrV (tc 2) n (fun j => .int (f j))).setSlot _ _) = _
  rw [arrV_store]
  rw [vp_cell_i]
  congr 2
  funext q
  by_cases hq : q = i.toNatClampNeg
  · subst hq
    simp [updV, upd, vp_updL, vp_nar]
    try rfl
  · simp [updV, upd, vp_updL, hq]
theorem rm_last_ok {a n : Nat} {f : Nat → Int64} {i : Int32} {x : Int64} {r : List Value} (X : rm_Cx G D ad tc base fin iM pl own p s m args meth c cc) (ok : rm_Ok G D ad tc base h s H locs) (he : h[a]? = some (.inl (3, n, .inr (.inl (f))))) (hin : vp_in i n) (hdg : decode cc pc = .ok (.lastore, 1))
    (kk : ∀ (H1 : Heap) (locs1 : List Loc), rm_Ok G D ad tc base (h.set a (.inl (3, n, .inr (.inl (vp_updL f i.toNatClampNeg x))))) s H1 locs1 → W p l e R s m args below meth c H1 locs1 cells slots Q (F0 m (pc + 1) arr (r.map (rm_v ad)))) : W p l e R s m args below meth c H locs cells slots Q (F0 m pc arr (.long x :: .int i :: .ref (ad a) :: r.map (rm_v ad))) := by
  obtain ⟨hx, hb, hts, hown, hCl, hPl, hfin, hiM, hK, had, hbs, hE, -⟩ := X
  have hP := ok.1 a _ (rm_W_in he)
  refine W.last hx hb hP ((hK.2 3 (tc 3, .long) rfl).1 n (fun j => .long (f j))) (fun q => by cases q) (by show ¬ (i < 0 ∨ (arrV _ _ _).slots.size ≤ _); rw [arrV_size]; exact hin) rfl rfl hdg fun H1 e1 z oq => ?_
  refine kk H1 _ (rm_Ok.put had ok he ?_ z oq)
  show H1[ad a]? = some (vp_cell (tc 3) (n, .inr (.inl (vp_updL f i.toNatClampNeg x))))
  rw [e1]
  show some ((arrV (tc 3) n (fun j => .long (f j))).setSlot _ _) = _
  rw [arrV_store]
  rw [vp_cell_l]
  congr 2
  funext q
  by_cases hq : q = i.toNatClampNeg
  · subst hq
    simp [updV, upd, vp_updL, vp_nar]
    try rfl
  · simp [updV, upd, vp_updL, hq]
theorem rm_outer (c : ClassId) (N h0 : Nat) : ∀ i : Nat, Jvm.Free.Multi.outerC c N h0 i = arrV c N (fun j => va_rf (if j < i then some (h0 + 1 + j) else none))
  | 0 => by
    show ({ cls := c, slots := Array.replicate N .null, vm := .none } : Cell) = _
    rw [arrV_new]
    refine congrArg (arrV c N) (funext fun j => ?_)
    simp [va_rf]
  | i + 1 => by
    show (Jvm.Free.Multi.outerC c N h0 i).setSlot i (.ref (h0 + 1 + i)) = _
    rw [rm_outer c N h0 i, arrV_store]
    refine congrArg (arrV c N) (funext fun j => ?_)
    by_cases e : j = i
    · subst e
      simp [updV, va_rf]
    · by_cases h : j < i
      · simp [updV, e, h, Nat.lt_succ_of_lt h]
      · simp [updV, e, h, show ¬ j < i + 1 by omega]
theorem rm_mna_ok {index : Nat} {n k : Int32} {r : List Value} (X : rm_Cx G D ad tc base fin iM pl own p s m args meth c cc) (ok : rm_Ok G D ad tc base h s H locs) (hlk : (Cond.classLink own index ("[" ++ (FieldType.array .int).toString)).before args s = true) (hlt : h.length + (1 + n.toNatClampNeg) ≤ rm_K) (hn : ¬ n < 0) (hk : ¬ k < 0) (h4 : n.toNatClampNeg * 4 ≤ 536870912) (h5 : k.toNatClampNeg * 4 ≤ 536870912)
    (hR : cells + (1 + n.toNatClampNeg) ≤ R.cells ∧ slots + (n.toNatClampNeg + n.toNatClampNeg * k.toNatClampNeg) ≤ R.slots) (hdg : decode cc pc = .ok (.multianewarray index 2, 4))
    (kk : ∀ (H1 : Heap), rm_Ok G D ad tc base (h ++ (.inl (4, n.toNatClampNeg, .inr (.inr (.inr (.inr (fun i => if i < n.toNatClampNeg then some (h.length + 1 + i) else none))))) :: List.replicate n.toNatClampNeg (.inl (0, rm_z 0 k.toNatClampNeg)))) s H1 locs → W p l e R s m args below meth c H1 locs (cells + (1 + n.toNatClampNeg)) (slots + (n.toNatClampNeg + n.toNatClampNeg * k.toNatClampNeg)) Q (F0 m (pc + 4) arr (.ref (ad h.length) :: r.map (rm_v ad)))) : W p l e R s m args below meth c H locs cells slots Q (F0 m pc arr (.int k :: .int n :: r.map (rm_v ad))) := by
  obtain ⟨hx, hb, hts, hown, hCl, hPl, hfin, hiM, hK, had, hbs, hE, hAr⟩ := X
  have ha : ad h.length = H.size := by rw [had _ (by omega), ok.2.1]
  intro T hT Xs
  obtain ⟨vm₁, cA, comp, -, fA, fC, hO, -, X', step⟩ := Xs.multianewarray2F hx hown hlk (show (Cond.arrayOver (.array .int)).before args s = true from hE.2.2.2.2.2.2) (hts _ (hAr .int 0 rfl)) (g := F0 m pc arr (.int k :: .int n :: r.map (rm_v ad))) rfl (by rw [hb]; exact hdg) rfl hn hk h4 h5 (by omega) rfl rfl hR.1 hR.2
  have eA : cA = tc 4 := Option.some.inj (fA.symm.trans (hK.2 4 (tc 4, .array .int) rfl).2)
  have eC : comp = tc 0 := Option.some.inj (fC.symm.trans (hK.2 0 (tc 0, .int) rfl).2)
  subst eA; subst eC
  generalize hF : Jvm.Free.Multi.fill (T.setVm vm₁) (tc 4) (tc 0) n.toNatClampNeg k.toNatClampNeg (defaultValue .int) n.toNatClampNeg = F at X' step
  have hTh : (T.setVm vm₁).heap = H := hT
  obtain ⟨f1, f2, -, -⟩ := Jvm.Free.Multi.fill_facts (T.setVm vm₁) (tc 4) (tc 0) n.toNatClampNeg k.toNatClampNeg (defaultValue .int) n.toNatClampNeg
  rw [hF, hTh] at f1 f2
  have hold : ∀ x : Nat, x < H.size → F.heap[x]? = H[x]? := fun x hx => by
    have := Jvm.Free.Multi.fill_old (T.setVm vm₁) (tc 4) (tc 0) n.toNatClampNeg k.toNatClampNeg (defaultValue .int) (a := x) (by rw [hTh]; exact hx) n.toNatClampNeg
    rw [hF, hTh] at this
    exact this
  have hrow : ∀ j : Nat, j < n.toNatClampNeg → F.heap[H.size + 1 + j]? = some (vp_cell (tc 0) (rm_z 0 k.toNatClampNeg)) := fun j hj => by
    have := Jvm.Free.Multi.fill_inner (T.setVm vm₁) (tc 4) (tc 0) n.toNatClampNeg k.toNatClampNeg (defaultValue .int) n.toNatClampNeg j hj
    rw [hF, hTh] at this
    rw [this]
    show some ({ cls := tc 0, slots := Array.replicate k.toNatClampNeg (defaultValue .int), vm := .none } : Cell) = some (arrV (tc 0) k.toNatClampNeg (fun _ => .int 0))
    rw [arrV_new]
    rfl
  rw [rm_outer] at f2
  obtain ⟨hP, hsz, hl, hS⟩ := ok
  have okk : rm_Ok G D ad tc base (h ++ (.inl (4, n.toNatClampNeg, .inr (.inr (.inr (.inr (fun i => if i < n.toNatClampNeg then some (h.length + 1 + i) else none))))) :: List.replicate n.toNatClampNeg (.inl (0, rm_z 0 k.toNatClampNeg)))) s F.heap locs := by
    refine ⟨fun q e hq => ?_, ?_, ?_, ⟨by have := hS.1; omega, fun q h1 h2 => ?_, hS.2.2⟩⟩
    · rw [rm_W_at] at hq
      by_cases q1 : q < h.length
      · rw [List.getElem?_append_left q1, ← rm_W_at] at hq
        exact (hP q e hq).kept (hold _ ((hP q e hq).lt))
      · rw [List.getElem?_append_right (by omega)] at hq
        by_cases q2 : q = h.length
        · subst q2
          rw [Nat.sub_self, List.getElem?_cons_zero] at hq
          cases hq
          show F.heap[ad h.length]? = some (vp_cell (tc 4) (n.toNatClampNeg, .inr (.inr (.inr (.inr (fun i => ((if i < n.toNatClampNeg then some (h.length + 1 + i) else none : Option Nat)).map ad))))))
          rw [ha, f2, vp_cell_q]
          refine congrArg (fun z => some (arrV (tc 4) n.toNatClampNeg z)) (funext fun j => ?_)
          by_cases hj : j < n.toNatClampNeg
          · simp only [hj, if_true, Option.map_some]
            rw [had _ (by omega), hsz]
            congr 2
            omega
          · simp only [hj, if_false, Option.map_none]
        · obtain ⟨j, hj⟩ : ∃ j, q = h.length + 1 + j := ⟨q - h.length - 1, by omega⟩
          subst hj
          rw [show h.length + 1 + j - h.length = j + 1 by omega, List.getElem?_cons_succ, List.getElem?_replicate] at hq
          by_cases hjn : j < n.toNatClampNeg
          · rw [if_pos hjn] at hq
            cases hq
            show F.heap[ad (h.length + 1 + j)]? = some (vp_cell (tc 0) (rm_z 0 k.toNatClampNeg))
            rw [had _ (by omega), show base + (h.length + 1 + j) = H.size + 1 + j by omega]
            exact hrow j hjn
          · rw [if_neg hjn] at hq
            cases hq
    · rw [f1, List.length_append, List.length_cons, List.length_replicate]
      omega
    · rw [List.length_append, List.length_cons, List.length_replicate]
      omega
    · rw [hold q (Nat.lt_of_lt_of_le h1 hS.1)]
      exact hS.2.1 q h1 h2
  have := kk F.heap okk
  rw [ha, ← Nat.add_assoc, ← Nat.add_assoc] at this
  obtain ⟨t, a1, b1⟩ := this F rfl X'
  refine ⟨t, step t ?_, b1⟩
  rw [hT]
  exact a1
theorem rm_ldcSW {tx : String} {index q : Nat} {rest : List Value} (hexec : p.tables.exec = Jvm.exec) (hb : c.code = cc) (hown : s.vm.findClass own = some m.cls) (hZ : vk_R own index tx q s) (hdg : decode cc pc = .ok (.ldc_w index, 3))
    (k : W p l e R s m args below meth c H locs cells slots Q (F0 m (pc + 3) arr (.ref q :: rest))) : W p l e R s m args below meth c H locs cells slots Q (F0 m pc arr rest) := by
  intro T hT X
  obtain ⟨t, a1, b1⟩ := k T hT X
  exact ⟨t, X.ldcStringW hexec hown (text := tx) (a := q) hZ.1 hZ.2 (g := F0 m pc arr rest) rfl (by rw [hb]; exact hdg) t a1, b1⟩
set_option maxHeartbeats 4000000 in
theorem rm_s2_ok {ins : Instr} {x : Nat × rm_L × List Value × rm_H × Nat × Nat} (X : rm_Cx G D ad tc base fin iM pl own p s m args meth c cc) (hd : rm_dec cc pc ins) (hs : rm_s2 G fin iM pl ins pc ls st h = some x) (hl : lv_has arr mx (rm_vl ad ls)) (ok : rm_Ok G D ad tc base h s H locs)
    (hR : cells + x.2.2.2.2.1 ≤ R.cells ∧ slots + x.2.2.2.2.2 ≤ R.slots)
    (kk : ∀ (H1 : Heap) (locs1 : List Loc), rm_Ok G D ad tc base x.2.2.2.1 s H1 locs1 → rm_Wk p l e R s m args below meth c H1 locs1 (cells + x.2.2.2.2.1) (slots + x.2.2.2.2.2) Q ad mx (x.1, x.2.1, x.2.2.1)) : W p l e R s m args below meth c H locs cells slots Q (F0 m pc arr (st.map (rm_v ad))) := by
  have X0 := X
  obtain ⟨hx, hb, hts, hown, hCl, ⟨p0, p4, p5, p6, p7, p80, p81, p9, p10, p16, p14⟩, hfin, hiM, hK, had, hbs, hE, hAr⟩ := X
  unfold rm_s2 at hs
  split at hs
  next idx =>
    split at hs
    next ci k z hp =>
      split at hs
      next a r =>
        split at hs
        next cj fs hh =>
          split at hs
          next hj =>
            subst hj
            split at hs
            next v hv =>
              cases hs
              obtain ⟨C, T, N, hc, hk, hlk⟩ := p0 _ _ _ _ hp
              exact va_get (D := D) (C := C) (T := T) (N := N) hx hb hts (hCl _ C T N hc).1 hown hK ok.1 a (rm_W_in hh) hc k hk (hts _ hlk) (fun _ q => q) (v := rm_v ad v) (by rw [List.getElem?_map, hv]; rfl) (hd.at rfl (by decide)) (kk H locs ok arr hl)
            next => cases hs
          next => cases hs
        next => cases hs
      next => cases hs
    next a b z hp =>
      split at hs
      next a r =>
        split at hs
        next hq =>
          cases hs
          have h1 := (hE.1 _ hq.2.2).2.1
          rw [rm_K_half hq.1 hq.2.1] at h1
          exact vk_getf hx hb h1 ok.S hown (hts _ (p80 _ _ _ hp)) (fun _ q => q) (hd.at rfl (by decide)) (kk H locs ok arr hl)
        next => cases hs
      next => cases hs
    next a b z hp =>
      split at hs
      next a r =>
        split at hs
        next hq =>
          cases hs
          have h1 := (hE.1 _ hq.2.2).2.2
          rw [rm_K_half hq.1 hq.2.1, rm_K_half1 hq.1 hq.2.1] at h1
          exact vk_getf hx hb h1 ok.S hown (hts _ (p81 _ _ _ hp)) (fun _ q => q) (hd.at rfl (by decide)) (kk H locs ok arr hl)
        next => cases hs
      next => cases hs
    next => cases hs
  next idx =>
    split at hs
    next ci k z hp =>
      split at hs
      next v a r =>
        split at hs
        next cj fs hh =>
          split at hs
          next hq =>
            obtain ⟨hj, hkl, hn, hf, hfi⟩ := hq
            subst hj
            cases hs
            obtain ⟨C, T, N, hc, hk, hlk⟩ := p0 _ _ _ _ hp
            exact rm_put_ok X0 ok hc hk (hts _ hlk) hh hkl hn hf hfi (hd.at rfl (by decide)) (fun H1 locs1 ok1 => kk H1 locs1 ok1 arr hl)
          next => cases hs
        next => cases hs
      next => cases hs
    next => cases hs
  next idx =>
    split at hs
    next a b z hp =>
      cases hs
      obtain ⟨C, n, d, h1, h2⟩ := p9 _ _ _ _ hp
      exact va_gets hx hb (hE.2.2.2.1 _ h1) ok.S hown (hts _ h2) (fun _ q => q) (hd.at rfl (by decide)) (kk H locs ok arr hl)
    next a b z hp =>
      cases hs
      obtain ⟨C, n, d, h1, h2⟩ := p10 _ _ _ _ hp
      exact va_gets hx hb (hE.2.2.2.2.1 _ h1) ok.S hown (hts _ h2) (fun _ q => q) (hd.at rfl (by decide)) (kk H locs ok arr hl)
    next a b z hp =>
      cases hs
      obtain ⟨C, n, d, h1, h2⟩ := p16 _ _ _ _ hp
      exact va_gets hx hb (hE.2.2.2.2.1 _ h1) ok.S hown (hts _ h2) (fun _ q => q) (hd.at rfl (by decide)) (kk H locs ok arr hl)
    next => cases hs
  next idx =>
    split at hs
    next a b z hp =>
      cases hs
      exact lv_ldc hx hb hown (hts _ (p5 _ _ _ _ hp)) (hd.at rfl (by decide)) (kk H locs ok arr hl)
    next i b z hp =>
      cases hs
      obtain ⟨tx, h1⟩ := hE.2.2.1 _ (p7 _ _ _ _ hp)
      exact va_ldcS hx hb hown h1 (hd.at rfl (by decide)) (kk H locs ok arr hl)
    next => cases hs
  next idx =>
    split at hs
    next a b z hp =>
      cases hs
      exact lv_ldcw hx hb hown (hts _ (p5 _ _ _ _ hp)) (hd.at rfl (by decide)) (kk H locs ok arr hl)
    next i b z hp =>
      cases hs
      obtain ⟨tx, h1⟩ := hE.2.2.1 _ (p7 _ _ _ _ hp)
      exact rm_ldcSW hx hb hown h1 (hd.at rfl (by decide)) (kk H locs ok arr hl)
    next => cases hs
  next idx =>
    split at hs
    next a b z hp =>
      cases hs
      exact lv_ldc2 hx hb hown (hts _ (p6 _ _ _ _ hp)) (hd.at rfl (by decide)) (kk H locs ok arr hl)
    next => cases hs
  next idx =>
    split at hs
    next ci b z hp =>
      split at hs
      next hlt =>
        cases hs
        obtain ⟨C, T, N, hc, hlk⟩ := p4 _ _ _ _ hp
        exact rm_new_ok X0 ok hc (hts _ hlk) hlt hR (hd.at rfl (by decide)) (fun H1 ok1 => kk H1 locs ok1 arr hl)
      next => cases hs
    next => cases hs
  next t =>
    split at hs
    next u n r hu =>
      split at hs
      next hq =>
        cases hs
        exact rm_newa_ok X0 ok hu hq.1 hq.2.1 hq.2.2 hR (hd.at rfl (by decide)) (fun H1 ok1 => kk H1 locs ok1 arr hl)
      next => cases hs
    next => cases hs
  next idx =>
    split at hs
    next a b z hp =>
      split at hs
      next k n r =>
        split at hs
        next hq =>
          cases hs
          exact rm_mna_ok X0 ok (hts _ (p14 _ _ _ _ hp)) hq.1 hq.2.1 hq.2.2.1 hq.2.2.2.1 hq.2.2.2.2 hR (hd.at rfl (by decide)) (fun H1 ok1 => kk H1 locs ok1 arr hl)
        next => cases hs
      next => cases hs
    next => cases hs
  next =>
    split at hs
    next i a r =>
      split at hs
      next y hr =>
        cases hs
        refine rm_rdi_ok X0 ok hr (fun n f hh hin hv => ?_) (fun n f hT hin hv => ?_)
        · subst hv
          exact va_iald hx hb hK ok.1 a 0 (rm_W_in hh) rfl hin (hd.at rfl (by decide)) (kk H locs ok arr hl)
        · subst hv
          exact va_ti hx hb hT ok.S hin rfl (hd.at rfl (by decide)) (kk H locs ok arr hl)
      next => cases hs
    next => cases hs
  next =>
    split at hs
    next i a r =>
      split at hs
      next y hr =>
        cases hs
        refine rm_rdi_ok X0 ok hr (fun n f hh hin hv => ?_) (fun n f hT hin hv => ?_)
        · subst hv
          exact va_bald hx hb hK ok.1 a 1 (rm_W_in hh) rfl hin (hd.at rfl (by decide)) (kk H locs ok arr hl)
        · subst hv
          exact va_tb hx hb hT ok.S hin rfl (hd.at rfl (by decide)) (kk H locs ok arr hl)
      next =>
        split at hs
        next y hr =>
          cases hs
          refine rm_rdi_ok X0 ok hr (fun n f hh hin hv => ?_) (fun n f hT hin hv => ?_)
          · subst hv
            exact va_zald hx hb hK ok.1 a 2 (rm_W_in hh) rfl hin (hd.at rfl (by decide)) (kk H locs ok arr hl)
          · subst hv
            exact va_tz hx hb hT ok.S hin rfl (hd.at rfl (by decide)) (kk H locs ok arr hl)
        next => cases hs
    next => cases hs
  next =>
    split at hs
    next i a r =>
      split at hs
      next n f hh =>
        split at hs
        next => cases hs
        next hin =>
          cases hs
          exact va_lald hx hb hK ok.1 a 3 (rm_W_in hh) rfl hin (hd.at rfl (by decide)) (kk H locs ok arr hl)
      next => cases hs
    next => cases hs
  next =>
    split at hs
    next i a r =>
      split at hs
      next n f hh =>
        split at hs
        next => cases hs
        next hin =>
          cases hs
          have hlt : i.toNatClampNeg < n := Nat.not_le.mp fun q => hin (Or.inr q)
          have kk := kk H locs ok arr hl
          have e0 : rm_v ad (va_rf (f i.toNatClampNeg)) = va_rf ((f i.toNatClampNeg).map ad) := by cases f i.toNatClampNeg <;> rfl
          rw [List.map_cons, e0] at kk
          exact W.aald (v := va_rf ((f i.toNatClampNeg).map ad)) (ty := .array .int) hx hb (ok.1 a _ (rm_W_in hh)) ((hK.2 4 (tc 4, .array .int) rfl).1 n (fun j => va_rf ((f j).map ad))) rfl (fun q => by cases q) (by show ¬ (i < 0 ∨ (arrV _ _ _).slots.size ≤ _); rw [arrV_size]; exact hin) (by show (arrV (tc 4) n (fun j => va_rf ((f j).map ad))).slots[_]? = _; rw [arrV_read _ _ hlt]) rfl rfl (hd.at rfl (by decide)) kk
      next => cases hs
    next => cases hs
  next =>
    split at hs
    next y i a r =>
      split at hs
      next n f hh =>
        split at hs
        next => cases hs
        next hin => cases hs; exact rm_iast_ok X0 ok hh hin (hd.at rfl (by decide)) (fun H1 locs1 ok1 => kk H1 locs1 ok1 arr hl)
      next => cases hs
    next => cases hs
  next =>
    split at hs
    next y i a r =>
      split at hs
      next n f hh =>
        split at hs
        next => cases hs
        next hin => cases hs; exact rm_bast_ok X0 ok hh hin (hd.at rfl (by decide)) (fun H1 locs1 ok1 => kk H1 locs1 ok1 arr hl)
      next n f hh =>
        split at hs
        next => cases hs
        next hin => cases hs; exact rm_zast_ok X0 ok hh hin (hd.at rfl (by decide)) (fun H1 locs1 ok1 => kk H1 locs1 ok1 arr hl)
      next => cases hs
    next => cases hs
  next =>
    split at hs
    next y i a r =>
      split at hs
      next n f hh =>
        split at hs
        next => cases hs
        next hin => cases hs; exact rm_last_ok X0 ok hh hin (hd.at rfl (by decide)) (fun H1 locs1 ok1 => kk H1 locs1 ok1 arr hl)
      next => cases hs
    next => cases hs
  next =>
    split at hs
    next a r =>
      split at hs
      next y hr =>
        cases hs
        have kk := kk H locs ok arr hl
        unfold rm_len2 at hr
        split at hr
        next =>
          split at hr
          next u w hh =>
            split at hr
            next hu =>
              cases hr
              have h9 : (rm_a ad w).1 = w.1 := by
                obtain ⟨n, f | f | f | f | f⟩ := w <;> rfl
              obtain ⟨ty, hty⟩ : ∃ ty, (rm_T tc)[u]? = some (tc u, ty) := by
                match u, hu with
                | 0, _ => exact ⟨_, rfl⟩
                | 1, _ => exact ⟨_, rfl⟩
                | 2, _ => exact ⟨_, rfl⟩
                | 3, _ => exact ⟨_, rfl⟩
                | 4, _ => exact ⟨_, rfl⟩
              exact va_alen hx hb hK ok.1 a u (rm_W_in hh) hty (by rw [h9]) (hd.at rfl (by decide)) kk
            next => cases hr
          next => cases hr
        next hge =>
          split at hr
          next ty n f hh =>
            cases hr
            have h1 := hE.2.1 (a - rm_K) _ n f hh
            rw [rm_K_sub hge] at h1
            exact va_tlen hx hb h1 ok.S rfl (hd.at rfl (by decide)) kk
          next => cases hr
      next => cases hs
    next => cases hs
  next => cases hs
end RMB
