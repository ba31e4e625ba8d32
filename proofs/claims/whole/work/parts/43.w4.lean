theorem w_mem_get {l : rm_L} {i : Nat} {v : Value} (hn : (l.map Prod.fst).Nodup) (hm : (i, v) ∈ l) : rm_get l i = some v := by
  unfold rm_get
  induction l with
  | nil => cases hm
  | cons q l ih =>
    rw [List.find?_cons]
    rw [List.map_cons, List.nodup_cons] at hn
    rcases List.mem_cons.mp hm with e | hm
    · subst e
      simp
    · have : ¬ (q.1 == i) = true := by
        intro e
        have e : q.1 = i := by simpa using e
        exact hn.1 (List.mem_map.mpr ⟨(i, v), hm, e.symm⟩)
      rw [Bool.not_eq_true] at this
      rw [this]
      exact ih hn.2 hm
theorem w_in_get {ls : w_L} {l : rm_L} {i : Nat} {v : w_V} (h : w_in ls l) (hv : w_get ls i = some v) : rm_get l i = some (w_v v) := by
  unfold w_get at hv
  cases hf : ls.find? (fun q => q.1 == i) with
  | none => rw [hf] at hv; cases hv
  | some q =>
    rw [hf] at hv
    cases hv
    have h1 := h.2 q (List.mem_of_find?_eq_some hf)
    have h2 : q.1 = i := by simpa using List.find?_some hf
    rw [h2] at h1
    exact w_mem_get h.1 h1
theorem w_nodup_filter {l : rm_L} (hn : (l.map Prod.fst).Nodup) (p : Nat × Value → Bool) : ((l.filter p).map Prod.fst).Nodup := List.Nodup.sublist (List.Sublist.map _ List.filter_sublist) hn
theorem w_in_set1 {ls : w_L} {l : rm_L} {i : Nat} {v : w_V} (h : w_in ls l) : w_in (w_set1 ls i v) (rm_set1 l i (w_v v)) := by
  refine ⟨?_, ?_⟩
  · unfold rm_set1
    rw [List.map_cons, List.nodup_cons]
    refine ⟨fun hm => ?_, w_nodup_filter h.1 _⟩
    obtain ⟨q, hq, e⟩ := List.mem_map.mp hm
    have := (List.mem_filter.mp hq).2
    simp [e] at this
  · intro q hq
    unfold rm_set1
    unfold w_set1 at hq
    rcases List.mem_cons.mp hq with rfl | hq
    · exact List.mem_cons_self
    · obtain ⟨h1, h2⟩ := List.mem_filter.mp hq
      refine List.mem_cons_of_mem _ (List.mem_filter.mpr ⟨h.2 q h1, ?_⟩)
      rw [w_c2E]
      exact h2
theorem w_in_set2 {ls : w_L} {l : rm_L} {i : Nat} {v : w_V} (h : w_in ls l) : w_in (w_set2 ls i v) (rm_set2 l i (w_v v)) := by
  refine ⟨?_, ?_⟩
  · unfold rm_set2
    rw [List.map_cons, List.nodup_cons]
    refine ⟨fun hm => ?_, w_nodup_filter h.1 _⟩
    obtain ⟨q, hq, e⟩ := List.mem_map.mp hm
    have := (List.mem_filter.mp hq).2
    simp [e] at this
  · intro q hq
    unfold rm_set2
    unfold w_set2 at hq
    rcases List.mem_cons.mp hq with rfl | hq
    · exact List.mem_cons_self
    · obtain ⟨h1, h2⟩ := List.mem_filter.mp hq
      refine List.mem_cons_of_mem _ (List.mem_filter.mpr ⟨h.2 q h1, ?_⟩)
      rw [w_c2E]
      exact h2
theorem w_in_can {ks : List Nat} {ls : w_L} {l : rm_L} (h : w_in ls l) : w_in (w_can ks ls) l := by
  refine ⟨h.1, fun q hq => ?_⟩
  unfold w_can at hq
  obtain ⟨i, _, hi⟩ := List.mem_filterMap.mp hq
  cases hg : w_get ls i with
  | none => rw [hg] at hi; cases hi
  | some v =>
    rw [hg] at hi
    cases hi
    unfold w_get at hg
    cases hf : ls.find? (fun q => q.1 == i) with
    | none => rw [hf] at hg; cases hg
    | some q =>
      rw [hf] at hg
      cases hg
      have h1 := h.2 q (List.mem_of_find?_eq_some hf)
      have h2 : q.1 = i := by simpa using List.find?_some hf
      rw [h2] at h1
      exact h1
theorem w_can_ok {ks : List Nat} {ls : w_L} (h : w_okl ls) : w_okl (w_can ks ls) := by
  intro q hq
  unfold w_can at hq
  obtain ⟨i, _, hi⟩ := List.mem_filterMap.mp hq
  cases hg : w_get ls i with
  | none => rw [hg] at hi; cases hi
  | some v =>
    rw [hg] at hi
    cases hi
    exact w_get_ok h hg
theorem w_args_ge : ∀ (as : List w_V) (i : Nat), ∀ q ∈ lv_args i (as.map w_v), i ≤ q.1
  | [], i, q, h => by cases h
  | v :: as, i, q, h => by
    rcases List.mem_cons.mp h with rfl | h
    · exact Nat.le_refl _
    · have := w_args_ge as _ q h
      split at this <;> omega
theorem w_args_in : ∀ (as : List w_V) (i : Nat), w_in (w_args i as) (lv_args i (as.map w_v))
  | [], i => ⟨List.nodup_nil, fun q h => by cases h⟩
  | v :: as, i => by
    have hE : (if (w_v v).category = 2 then i + 2 else i + 1) = (if w_c2 v = true then i + 2 else i + 1) := by
      rcases v with x | a | a | y <;> rfl
    have ih := w_args_in as (if w_c2 v = true then i + 2 else i + 1)
    show w_in ((i, v) :: w_args (if w_c2 v = true then i + 2 else i + 1) as) ((i, w_v v) :: lv_args (if (w_v v).category = 2 then i + 2 else i + 1) (as.map w_v))
    rw [hE]
    refine ⟨?_, fun q hq => ?_⟩
    · rw [List.map_cons, List.nodup_cons]
      refine ⟨fun hm => ?_, ih.1⟩
      obtain ⟨q, hq, e⟩ := List.mem_map.mp hm
      have := w_args_ge as _ q hq
      split at this <;> omega
    · rcases List.mem_cons.mp hq with rfl | hq
      · exact List.mem_cons_self
      · exact List.mem_cons_of_mem _ (ih.2 q hq)
theorem w_args_ok : ∀ (as : List w_V) (i : Nat), w_oks as → w_okl (w_args i as)
  | [], i, _ => fun q h => by cases h
  | v :: as, i, h => fun q hq => by
    rcases List.mem_cons.mp hq with rfl | hq
    · exact w_oks_hd h
    · exact w_args_ok as _ (w_oks_tl h) q hq
section WB
variable {G : rm_G} {fin : Nat → Nat → Bool} {pr : Nat → Option rm_M} {T : w_T} {Bs : Nat → Nat → Nat} {B : Nat} {M : rm_M} {pc : Nat} {ls : w_L} {st : List w_V} {S : w_S} {Q : Option w_V → w_S → Prop} {ins : Instr}
theorem w_by1 (h0 : rm_mb M pc = some ins) (H : w_okl ls → w_oks st → ∀ l, w_in ls l → ∃ pc' ls' st' l', rm_s1 (rm_mx M) ins pc l (st.map w_v) = some (pc', l', st'.map w_v) ∧ w_in ls' l' ∧ w_okl ls' ∧ w_oks st' ∧ WP G fin pr T Bs B M pc' ls' st' S Q) : WP G fin pr T Bs B M pc ls st S Q := by
  intro hl hs l hin h hh
  obtain ⟨pc', ls', st', l', e, i1, o1, o2, hw⟩ := H hl hs l hin
  obtain ⟨n, r, h', S', c, d, e1, rest⟩ := hw o1 o2 l' i1 h hh
  exact ⟨n + 1, r, h', S', c, d, by rw [rm_b1 h0 e]; exact e1, rest⟩
theorem w_by2 (h0 : rm_mb M pc = some ins) (H : w_okl ls → w_oks st → ∀ l, w_in ls l → ∀ h, w_H T S h → ∃ pc' st' S' h1 c1 d1, rm_s2 G fin (rm_iM M) (rm_mp M) ins pc l (st.map w_v) h = some (pc', l, st'.map w_v, h1, c1, d1) ∧ w_H T S' h1 ∧ S'.2.2.2.1 = S.2.2.2.1 + c1 ∧ S'.2.2.2.2 = S.2.2.2.2 + d1 ∧ w_oks st' ∧ (w_fr T B S S' ∧ w_hf T B h h1) ∧ WP G fin pr T Bs B M pc' ls st' S' Q) : WP G fin pr T Bs B M pc ls st S Q := by
  intro hl hs l hin h hh
  obtain ⟨pc', st', S1, h1, c1, d1, e, i1, n1, n2, o2, hf, hw⟩ := H hl hs l hin h hh
  obtain ⟨n, r, h', S', c, d, e1, r1, r2, r3, r4, r5, r7, r6⟩ := hw hl o2 l hin h1 i1
  refine ⟨n + 1, r, h', S', c1 + c, d1 + d, ?_, r1, by omega, by omega, r4, hf.1.trans r5, hf.2.trans r7, r6⟩
  rw [rm_b2 h0 (rm_s2_1 e) e]
  dsimp only
  rw [e1]
  rfl
theorem w_by3 {j : Nat} {M' : rm_M} {as rest : List w_V} {B' : Nat} (hB : Nat.beq (Nat.land B' B) B' = true) (h0 : rm_mb M pc = some ins) (hj : pr j = some M') (H : ∀ h, w_H T S h → rm_s3 G pr M ins (st.map w_v) h = some (j, as.map w_v, rest.map w_v)) (ho : w_oks st → w_oks as ∧ w_oks rest)
    (hw : WP G fin pr T Bs B' M' 0 (w_args 0 as) [] S (fun r S' => ∃ p : List w_V, (r.map w_v).toList = p.map w_v ∧ ((∀ v, r = some v → w_ok v) → w_oks p) ∧ ((∀ v, r = some v → w_ok v) → w_Q T S' → w_fr T B' S S' → WP G fin pr T Bs B M (pc + 3) ls (p ++ rest) S' Q))) : WP G fin pr T Bs B M pc ls st S Q := by
  intro hl hs l hin h hh
  obtain ⟨oa, orr⟩ := ho hs
  obtain ⟨n1, r1, h1, S1, c1, d1, e1, hH1, a1, a2, a3, a4, a5, p, p1, p2, p3⟩ := hw (w_args_ok as 0 oa) (fun v hv => by cases hv) _ (w_args_in as 0) h hh
  obtain ⟨n2, r2, h2, S2, c2, d2, e2, hH2, b1, b2, b3, b4, b6, b5⟩ := p3 a3 hH1.2.2.2.2.2.2.2 a4 hl (fun v hv => by
    rcases List.mem_append.mp hv with hv | hv
    · exact p2 a3 v hv
    · exact orr v hv) l hin h1 hH1
  have e3 := H h hh
  have w := rm_s3_1 (fin := fin) (mx := rm_mx M) (iM := rm_iM M) (pl := rm_mp M) (pc := pc) (ls := l) e3
  refine ⟨max n1 n2 + 1, r2, h2, S2, c1 + c2, d1 + d2, ?_, hH2, by omega, by omega, b3, (a4.sub hB).trans b4, (a5.sub hB).trans b6, b5⟩
  rw [rm_b3 h0 w.1 w.2 e3 hj (rm_mono (Nat.le_max_left n1 n2) e1), p1, ← List.map_append, rm_mono (Nat.le_max_right n1 n2) e2]
  rfl
theorem w_by4 (h0 : rm_mb M pc = some ins) (H : w_oks st → ∀ h, w_H T S h → ∃ st' S' h1, rm_s4 M ins (st.map w_v) h = some (st'.map w_v, h1) ∧ w_H T S' h1 ∧ S'.2.2.2 = S.2.2.2 ∧ w_oks st' ∧ (w_fr T B S S' ∧ w_hf T B h h1) ∧ WP G fin pr T Bs B M (pc + 3) ls st' S' Q) : WP G fin pr T Bs B M pc ls st S Q := by
  intro hl hs l hin h hh
  obtain ⟨st', S1, h1, e, i1, n1, o2, hf, hw⟩ := H hs h hh
  obtain ⟨n, r, h', S', c, d, e1, r1, r2, r3, r4, r5, r7, r6⟩ := hw hl o2 l hin h1 i1
  have w := rm_s4_1 (G := G) (fin := fin) (pr := pr) (mx := rm_mx M) (iM := rm_iM M) (pl := rm_mp M) (pc := pc) (ls := l) e
  refine ⟨n + 1, r, h', S', c, d, ?_, r1, by rw [← n1]; exact r2, by rw [← n1]; exact r3, r4, hf.1.trans r5, hf.2.trans r7, r6⟩
  rw [rm_b4 h0 w.1 w.2.1 w.2.2 e]
  exact e1
theorem w_by5 (h0 : rm_mb M pc = some ins) (H : w_oks st → ∃ r : Option w_V, rm_s5 M ins (st.map w_v) = some (r.map w_v) ∧ (∀ v, r = some v → w_ok v) ∧ Q r S) : WP G fin pr T Bs B M pc ls st S Q := by
  intro hl hs l hin h hh
  obtain ⟨r, e, o, hq⟩ := H hs
  have y := rm_s5_1 (G := G) (fin := fin) (pr := pr) (mx := rm_mx M) (iM := rm_iM M) (pl := rm_mp M) (pc := pc) (ls := l) (h := h) e
  exact ⟨1, r, h, S, 0, 0, rm_b5 h0 y.1 y.2.1 y.2.2.1 y.2.2.2 e, hh, rfl, rfl, o, w_fr.refl T B S, w_hf.refl T B h, hq⟩
theorem WP.mono {Q' : Option w_V → w_S → Prop} (h : WP G fin pr T Bs B M pc ls st S Q) (hq : ∀ r S', Q r S' → Q' r S') : WP G fin pr T Bs B M pc ls st S Q' := by
  intro hl hs l hin h1 hh
  obtain ⟨n, r, h', S', c, d, e1, r1, r2, r3, r4, r5, r7, r6⟩ := h hl hs l hin h1 hh
  exact ⟨n, r, h', S', c, d, e1, r1, r2, r3, r4, r5, r7, hq _ _ r6⟩
theorem WP.can {ks : List Nat} (h : WP G fin pr T Bs B M pc (w_can ks ls) st S Q) : WP G fin pr T Bs B M pc ls st S Q :=
  fun hl hs l hin h1 hh => h (w_can_ok hl) hs l (w_in_can hin) h1 hh
/-- what may be taken for granted: all numbers are numbers of their sorts -/
theorem WP.nr (h : w_okl ls → w_oks st → w_Q T S → WP G fin pr T Bs B M pc ls st S Q) : WP G fin pr T Bs B M pc ls st S Q :=
  fun hl hs l hin h1 hh => h hl hs hh.2.2.2.2.2.2.2 hl hs l hin h1 hh
theorem WP.keep (h : WP G fin pr T Bs B M pc ls st S Q) : WP G fin pr T Bs B M pc ls st S (fun r S' => (∀ v, r = some v → w_ok v) ∧ w_Q T S' ∧ w_fr T B S S' ∧ Q r S') := by
  intro hl hs l hin h1 hh
  obtain ⟨n, r, h', S', c, d, e1, r1, r2, r3, r4, r5, r7, r6⟩ := h hl hs l hin h1 hh
  exact ⟨n, r, h', S', c, d, e1, r1, r2, r3, r4, r5, r7, r4, r1.2.2.2.2.2.2.2, r5, r6⟩
end WB
