section WE
variable {G : rm_G} {fin : Nat → Nat → Bool} {pr : Nat → Option rm_M} {T : w_T} {Bs : Nat → Nat → Nat} {B : Nat} {M : rm_M} {pc : Nat} {ls : w_L} {st : List w_V} {S : w_S} {Q : Option w_V → w_S → Prop} {ins : Instr} {K : w_K} {P : Prop}
theorem w_oks_take {n : Nat} (h : w_oks st) : w_oks (st.take n) := fun v hv => h v (List.mem_of_mem_take hv)
theorem w_oks_drop {n : Nat} (h : w_oks st) : w_oks (st.drop n) := fun v hv => h v (List.mem_of_mem_drop hv)
theorem w_oks_rev (h : w_oks st) : w_oks st.reverse := fun v hv => h v (List.mem_reverse.mp hv)
theorem w_arg_v (v : w_V) : w_v (w_arg T v) = w_v v := by
  unfold w_arg
  split
  · split <;> rfl
  · rfl
theorem w_arg_ok {v : w_V} (h : w_ok v) : w_ok (w_arg T v) := by
  unfold w_arg
  split
  · split <;> trivial
  · exact h
theorem w_arg_vs (as : List w_V) : (as.map (w_arg T)).map w_v = as.map w_v := by
  rw [List.map_map]
  exact List.map_congr_left (fun v _ => w_arg_v v)
theorem w_call1_ok {Bc j : Nat} {M' : rm_M} {as rest : List w_V} (h0 : rm_mb M pc = some ins) (hj : pr j = some M') (H : rm_may M M' (as.map w_v) (rest.map w_v) = true → ∀ h, w_H T S h → rm_s3 G pr M ins (st.map w_v) h = some (j, as.map w_v, rest.map w_v)) (ho : w_oks st → w_oks as ∧ w_oks rest) (hK : ∀ pc' ls' st' S', K pc' ls' st' S' → WP G fin pr T Bs B M pc' ls' st' S' Q) (h : w_call1 G fin pr T Bs B Bc M M' as rest pc ls S K = some P) (hP : P) : WP G fin pr T Bs B M pc ls st S Q := by
  unfold w_call1 at h
  split at h
  next hm =>
    rw [Bool.and_eq_true] at hm
    cases h
    refine w_by3 (as := as.map (w_arg T)) hm.2 h0 hj (by rw [w_arg_vs]; exact H hm.1) (fun ok => ⟨fun v hv => ?_, (ho ok).2⟩) (hP.mono (fun r S' hr => ?_))
    · obtain ⟨u, hu, rfl⟩ := List.mem_map.mp hv
      exact w_arg_ok ((ho ok).1 u hu)
    cases hmr : rm_mr M' with
    | none =>
      rw [hmr] at hr
      obtain ⟨rfl, hr⟩ := hr
      exact ⟨[], rfl, fun _ v hv => (by cases hv), fun _ hq hf => hK _ _ _ _ (hr hq hf)⟩
    | some ty =>
      rw [hmr] at hr
      cases ty <;> obtain ⟨y, rfl, hr⟩ := hr <;> first | exact ⟨[.inl y], rfl, fun ok => w_oks_cons (ok _ rfl) (fun v hv => by cases hv), fun ok hq hf => hK _ _ _ _ (hr (ok _ rfl) hq hf)⟩ | exact ⟨[.inr (.inr (.inr y))], rfl, fun ok => w_oks_cons (ok _ rfl) (fun v hv => by cases hv), fun ok hq hf => hK _ _ _ _ (hr (ok _ rfl) hq hf)⟩
  next => cases h
theorem w_call_ok {j : Nat} {M' : rm_M} {as rest : List w_V} (h0 : rm_mb M pc = some ins) (hj : pr j = some M') (H : rm_may M M' (as.map w_v) (rest.map w_v) = true → ∀ h, w_H T S h → rm_s3 G pr M ins (st.map w_v) h = some (j, as.map w_v, rest.map w_v)) (ho : w_oks st → w_oks as ∧ w_oks rest) (hK : ∀ pc' ls' st' S', K pc' ls' st' S' → WP G fin pr T Bs B M pc' ls' st' S' Q) (h : w_call G fin pr T Bs B j M M' as rest pc ls S K = some P) (hP : P) : WP G fin pr T Bs B M pc ls st S Q := by
  unfold w_call at h
  split at h
  · exact w_call1_ok h0 hj H ho hK h hP
  · exact w_call1_ok h0 hj H ho hK h hP
theorem w_rcv_ok {b ci : Nat} {h : rm_H} (hH : w_H T S h) (hr : w_rcv G T b ci = true) : rm_is G h b ci = true := by
  unfold w_rcv at hr
  unfold rm_is
  split at hr
  next hc => rw [if_pos hc]; exact hr
  next hc =>
    rw [if_neg hc]
    split at hr
    next cj n fk ha =>
      rw [hH.2.2.2.1 b cj n fk ha]
      exact hr
    next => cases hr
theorem w_st3_ok (h0 : rm_mb M pc = some ins) (hK : ∀ pc' ls' st' S', K pc' ls' st' S' → WP G fin pr T Bs B M pc' ls' st' S' Q) (h : w_st3 G fin pr T Bs B M ins pc ls st S K = some P) (hP : P) : WP G fin pr T Bs B M pc ls st S Q := by
  have hstat : ∀ {j : Nat} {M' : rm_M} {idx : Nat}, ins = .invokestatic idx → pr j = some M' → (rm_may M M' ((st.take (rm_mn M')).reverse.map w_v) ((st.drop (rm_mn M')).map w_v) = true → ∀ h, w_H T S h → rm_s3 G pr M ins (st.map w_v) h = some (j, (st.take (rm_mn M')).reverse.map w_v, (st.drop (rm_mn M')).map w_v)) → w_call G fin pr T Bs B j M M' (st.take (rm_mn M')).reverse (st.drop (rm_mn M')) pc ls S K = some P → WP G fin pr T Bs B M pc ls st S Q := by
    intro j M' idx _ hj H hc
    exact w_call_ok h0 hj H (fun ok => ⟨w_oks_rev (w_oks_take ok), w_oks_drop ok⟩) hK hc hP
  unfold w_st3 at h
  split at h
  next idx =>
    split at h
    next j u z hp =>
      split at h
      next M' hj =>
        split at h
        next hc =>
          split at h
          next b rest hd =>
            split at h
            next hr =>
              refine w_call_ok h0 hj (fun hm hp2 hH => ?_) (fun ok => ⟨w_oks_cons (v := .inr (.inl b)) trivial (w_oks_rev (w_oks_take ok)), ?_⟩) hK h hP
              · have e1 : (st.map w_v).take (rm_mn M') = (st.take (rm_mn M')).map w_v := (List.map_take ..).symm
                have e2 : (st.map w_v).drop (rm_mn M') = .ref b :: rest.map w_v := by
                  rw [← List.map_drop, hd]
                  rfl
                have e3 : rm_is G hp2 b (rm_mi M') = true := w_rcv_ok hH hr
                have e4 : rm_may M M' (.ref b :: ((st.take (rm_mn M')).map w_v).reverse) (rest.map w_v) = true := by
                  rw [← List.map_reverse]
                  exact hm
                simp only [rm_s3, hp, hj, e1, e2, List.length_map, hc, and_self, if_true, e3, e4, Bool.and_self]
                rw [← List.map_reverse]
                rfl
              · have := w_oks_drop (n := rm_mn M') ok
                rw [hd] at this
                exact w_oks_tl this
            next => cases h
          next => cases h
        next => cases h
      next => cases h
    next => cases h
  next idx =>
    split at h
    next j u z hp =>
      split at h
      next M' hj =>
        split at h
        next hc =>
          refine hstat rfl hj (fun hm hp2 hH => ?_) h
          have e1 : (st.map w_v).take (rm_mn M') = (st.take (rm_mn M')).map w_v := (List.map_take ..).symm
          have e2 : (st.map w_v).drop (rm_mn M') = (st.drop (rm_mn M')).map w_v := (List.map_drop ..).symm
          have e4 : rm_may M M' ((st.take (rm_mn M')).map w_v).reverse ((st.drop (rm_mn M')).map w_v) = true := by
            rw [← List.map_reverse]
            exact hm
          simp only [rm_s3, hp, hj, e1, e2, List.length_map, hc, and_self, if_true, e4]
          rw [← List.map_reverse]
        next => cases h
      next => cases h
    next j u z hp =>
      split at h
      next M' hj =>
        split at h
        next hc =>
          refine hstat rfl hj (fun hm hp2 hH => ?_) h
          have e1 : (st.map w_v).take (rm_mn M') = (st.take (rm_mn M')).map w_v := (List.map_take ..).symm
          have e2 : (st.map w_v).drop (rm_mn M') = (st.drop (rm_mn M')).map w_v := (List.map_drop ..).symm
          have e4 : rm_may M M' ((st.take (rm_mn M')).map w_v).reverse ((st.drop (rm_mn M')).map w_v) = true := by
            rw [← List.map_reverse]
            exact hm
          simp only [rm_s3, hp, hj, e1, e2, List.length_map, hc, and_self, if_true, e4]
          rw [← List.map_reverse]
        next => cases h
      next => cases h
    next => cases h
  next => cases h
theorem w_ad_v {v : w_V} {a : Nat} (h : w_ad v = some a) : w_v v = .ref a := by
  unfold w_ad at h
  split at h
  next => cases h; rfl
  next => cases h; rfl
  next => cases h
theorem w_max_n {x y : Int} (hx : w_n x) (hy : w_n y) : w_n (max x y) ∧ w_n (min x y) := by
  unfold w_n at *
  omega
theorem w_fitb {x : Int} (h : -128 ≤ x ∧ x ≤ 127) : fits .byte (.int (Int32.ofInt x)) = true := by
  have hn : w_n x := by unfold w_n; omega
  show (decide ((-128 : Int32) ≤ Int32.ofInt x) && decide (Int32.ofInt x ≤ 127)) = true
  rw [Bool.and_eq_true, decide_eq_true_eq, decide_eq_true_eq]
  have e0 : (-128 : Int32) = Int32.ofInt (-128) := by decide
  have e1 : ((-128 : Int32) ≤ Int32.ofInt x) = (-128 ≤ x) := by rw [e0]; exact w_leE (x := -128) (by unfold w_n; omega) hn
  have e2 : (Int32.ofInt x ≤ (127 : Int32)) = (x ≤ 127) := w_leE (y := 127) hn (by unfold w_n; omega)
  rw [e1, e2]
  exact h
theorem w_st4_ok (h0 : rm_mb M pc = some ins) (hK : ∀ pc' ls' st' S', K pc' ls' st' S' → WP G fin pr T Bs B M pc' ls' st' S' Q) (h : w_st4 T B M ins pc ls st S K = some P) (hP : P) : WP G fin pr T Bs B M pc ls st S Q := by
  unfold w_st4 at h
  split at h
  next idx =>
    split at h
    next u v z hp =>
      split at h
      next n dp v1 sp v0 r =>
        split at h
        next a a0 ha ha0 =>
          split at h
          next hm =>
            cases h
            obtain ⟨t, n0, n1, hfb, ht, q0, q1, p1, p2, p3, p4, p5, p6⟩ := hP
            refine w_by4 h0 (fun ok hp2 hH => ?_)
            have hn : w_n n := w_oks_hd ok
            have hdp : w_n dp := w_oks_hd (w_oks_tl ok)
            have hsp : w_n sp := w_oks_hd (w_oks_tl (w_oks_tl (w_oks_tl ok)))
            refine ⟨r, _, _, ?_, hH.cpy (sp := sp.toNat) (dp := dp.toNat) (m := n.toNat) q0 q1 (by omega), rfl, w_oks_tl (w_oks_tl (w_oks_tl (w_oks_tl (w_oks_tl ok)))), ⟨w_fr.cpy hfb, w_hf.set hfb⟩, hK _ _ _ _ p6⟩
            have e0 := hH.1 a0 t n0 q0 (by omega)
            have e1 := hH.1 a t n1 q1 (by omega)
            have f1 : w_v (.inl n) = .int (Int32.ofInt n) := rfl
            have f2 : w_v (.inl dp) = .int (Int32.ofInt dp) := rfl
            have f3 : w_v (.inl sp) = .int (Int32.ofInt sp) := rfl
            simp only [rm_s4, hp, List.map_cons, f1, f2, f3, w_ad_v ha, w_ad_v ha0, e0, e1, w_lt0 hn, w_lt0 hdp, w_lt0 hsp, w_clamp hn, w_clamp hdp, w_clamp hsp]
            rw [if_pos]
            refine ⟨ht, trivial, by omega, by omega, by omega, by omega, by omega, ?_, hm.1, hm.2⟩
            rcases (by omega : t = 0 ∨ t = 1) with rfl | rfl
            · exact Or.inl rfl
            · refine Or.inr (List.all_eq_true.mpr (fun i _ => ?_))
              exact w_fitb (hH.2.2.2.2.2.2.2.1 a0 1 n0 q0 _)
          next => cases h
        next => cases h
      next => cases h
    next u v z hp =>
      split at h
      next y x r =>
        split at h
        next hm =>
          cases h
          refine w_by4 h0 (fun ok hp2 hH => ⟨.inl (max x y) :: r, S, hp2, ?_, hH, rfl, w_oks_cons (w_max_n (w_oks_hd (w_oks_tl ok)) (w_oks_hd ok)).1 (w_oks_tl (w_oks_tl ok)), ⟨w_fr.refl T B S, w_hf.refl T B hp2⟩, hK _ _ _ _ hP⟩)
          have e : (if Int32.ofInt x < Int32.ofInt y then Int32.ofInt y else Int32.ofInt x) = Int32.ofInt (max x y) := by
            by_cases hxy : x < y
            · rw [if_pos (by rw [w_ltE (w_oks_hd (w_oks_tl ok)) (w_oks_hd ok)]; exact hxy), show max x y = y by omega]
            · rw [if_neg (by rw [w_ltE (w_oks_hd (w_oks_tl ok)) (w_oks_hd ok)]; exact hxy), show max x y = x by omega]
          simp only [rm_s4, hp, List.map_cons, w_v, if_pos hm, e]
        next => cases h
      next => cases h
    next u v z hp =>
      split at h
      next y x r =>
        split at h
        next hm =>
          cases h
          refine w_by4 h0 (fun ok hp2 hH => ⟨.inl (min x y) :: r, S, hp2, ?_, hH, rfl, w_oks_cons (w_max_n (w_oks_hd (w_oks_tl ok)) (w_oks_hd ok)).2 (w_oks_tl (w_oks_tl ok)), ⟨w_fr.refl T B S, w_hf.refl T B hp2⟩, hK _ _ _ _ hP⟩)
          have e : (if Int32.ofInt y < Int32.ofInt x then Int32.ofInt y else Int32.ofInt x) = Int32.ofInt (min x y) := by
            by_cases hxy : y < x
            · rw [if_pos (by rw [w_ltE (w_oks_hd ok) (w_oks_hd (w_oks_tl ok))]; exact hxy), show min x y = y by omega]
            · rw [if_neg (by rw [w_ltE (w_oks_hd ok) (w_oks_hd (w_oks_tl ok))]; exact hxy), show min x y = x by omega]
          simp only [rm_s4, hp, List.map_cons, w_v, if_pos hm, e]
        next => cases h
      next => cases h
    next => cases h
  next => cases h
theorem w_st5_ok (h0 : rm_mb M pc = some ins) (h : w_st5 M ins st S Q = some P) (hP : P) : WP G fin pr T Bs B M pc ls st S Q := by
  unfold w_st5 at h
  split at h
  next =>
    split at h
    next =>
      split at h
      next hm =>
        cases h
        refine w_by5 h0 (fun ok => ⟨none, ?_, fun v hv => (by cases hv), hP⟩)
        simp only [rm_s5, List.map_nil, if_pos hm, Option.map_none]
      next => cases h
    next => cases h
  next =>
    split at h
    next v =>
      split at h
      next hm =>
        cases h
        refine w_by5 h0 (fun ok => ⟨some (.inl v), ?_, fun u hu => by cases hu; exact w_oks_hd ok, hP⟩)
        simp only [rm_s5, List.map_cons, List.map_nil, w_v, hm, Option.map_some]
        rw [if_pos (w_nar_int v).1]
      next =>
        split at h
        next hm =>
          cases h
          refine w_by5 h0 (fun ok => ⟨some (.inl v), ?_, fun u hu => by cases hu; exact w_oks_hd ok, hP.2⟩)
          simp only [rm_s5, List.map_cons, List.map_nil, w_v, hm, Option.map_some]
          rw [if_pos (w_nar_bit hP.1).1]
        next => cases h
    next => cases h
  next =>
    split at h
    next v =>
      split at h
      next hm =>
        cases h
        refine w_by5 h0 (fun ok => ⟨some (.inr (.inr (.inr v))), ?_, fun u hu => by cases hu; exact w_oks_hd ok, hP⟩)
        simp only [rm_s5, List.map_cons, List.map_nil, w_v, if_pos hm, Option.map_some]
      next => cases h
    next => cases h
  next => cases h
theorem w_step_ok (hT : w_TU T) (h0 : rm_mb M pc = some ins) (hK : ∀ pc' ls' st' S', K pc' ls' st' S' → WP G fin pr T Bs B M pc' ls' st' S' Q) (h : w_step G fin pr T Bs B M ins pc ls st S K Q) : WP G fin pr T Bs B M pc ls st S Q := by
  unfold w_step at h
  split at h
  next P e => exact w_st1_ok h0 hK e h
  next =>
    split at h
    next P e => exact w_st2_ok hT h0 hK e h
    next =>
      split at h
      next P e => exact w_st3_ok h0 hK e h
      next =>
        split at h
        next P e => exact w_st4_ok h0 hK e h
        next =>
          split at h
          next P e => exact w_st5_ok h0 e h
          next => exact h.elim
theorem w_vc_ok (hT : w_TU T) {ct : Nat → Option (List Nat)} : ∀ (n pc : Nat) (ls : w_L) (st : List w_V) (S : w_S), w_vc G fin pr T Bs B M ct Q n pc ls st S → WP G fin pr T Bs B M pc ls st S Q
  | 0, pc, ls, st, S, h => h
  | n + 1, pc, ls, st, S, h => by
    unfold w_vc at h
    split at h
    next => exact h.elim
    next ins h0 =>
      refine w_step_ok hT h0 (fun pc' ls' st' S' hk => ?_) h
      split at hk
      next ks hks => exact hk.can
      next => exact w_vc_ok hT n pc' ls' st' S' hk
end WE
