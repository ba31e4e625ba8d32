section WD
variable {G : rm_G} {fin : Nat → Nat → Bool} {pr : Nat → Option rm_M} {T : w_T} {Bs : Nat → Nat → Nat} {B : Nat} {M : rm_M} {pc : Nat} {ls : w_L} {st : List w_V} {S : w_S} {Q : Option w_V → w_S → Prop} {ins : Instr} {K : w_K} {P : Prop}
theorem w_q_n {t : Nat} {x : Int} (ht : t < 3) (h : w_q t x) : w_n x := by
  rcases (by omega : t = 0 ∨ t = 1 ∨ t = 2) with rfl | rfl | rfl
  · exact h
  · have h : -128 ≤ x ∧ x ≤ 127 := h
    unfold w_n
    omega
  · have h : x = 0 ∨ x = 1 := h
    unfold w_n
    omega
theorem w_a_st {a : Nat} {q : Nat × Nat} (h : T.1 a = some q) : w_a T S a = some q := by
  unfold w_a
  rw [h]
theorem w_ix {i : Int} {n : Nat} (hi : w_n i) (h1 : 0 ≤ i) (h2 : i < (n : Int)) : ¬ (Int32.ofInt i < 0 ∨ n ≤ (Int32.ofInt i).toNatClampNeg) := by
  rw [w_lt0 hi, w_clamp hi]
  omega
theorem w_rd_arr {a t n : Nat} {i : Int} {h : rm_H} (hH : w_H T S h) (ha : w_a T S a = some (t, n)) (ht : t < 3) (hi : w_n i) (h1 : 0 ≤ i) (h2 : i < (n : Int)) : rm_rdi G h t (w_ty t) a (Int32.ofInt i) = some (Int32.ofInt (S.1 a i.toNat)) ∧ w_n (S.1 a i.toNat) := by
  have e := hH.1 a t n ha ht
  refine ⟨?_, w_q_n ht (hH.2.2.2.2.2.2.2.1 a t n ha _)⟩
  unfold rm_rdi
  rw [if_pos (hH.lt e), e]
  dsimp only
  rw [if_pos rfl, if_neg (w_ix hi h1 h2), w_clamp hi]
theorem w_rd_ok {t : Nat} {v : w_V} {i : Int} {F : Int → Prop} {h : rm_H} (hH : w_H T S h) (ht : t < 3) (hi : w_n i) (e : w_rd G T S t v i F = some P) (hP : P) : ∃ a x, w_v v = .ref a ∧ rm_rdi G h t (w_ty t) a (Int32.ofInt i) = some (Int32.ofInt x) ∧ w_n x ∧ F x := by
  unfold w_rd at e
  split at e
  next a =>
    split at e
    next hk =>
      split at e
      next u n hT =>
        split at e
        next hu =>
          subst hu
          cases e
          obtain ⟨q1, q2⟩ := w_rd_arr (G := G) hH (w_a_st hT) ht hi hP.1 hP.2.1
          exact ⟨a, _, rfl, q1, q2, hP.2.2⟩
        next => cases e
      next => cases e
    next hk =>
      split at e
      next ty n f hc =>
        split at e
        next hu =>
          subst hu
          cases e
          refine ⟨a, _, rfl, ?_, w_tn _, hP.2.2⟩
          unfold rm_rdi
          rw [if_neg hk, hc]
          dsimp only
          rw [if_pos rfl, if_neg (w_ix hi hP.1 hP.2.1), w_clamp hi, Int32.ofInt_toInt]
        next => cases e
      next => cases e
  next a =>
    cases e
    obtain ⟨n, p1, p2, p3, p4⟩ := hP
    obtain ⟨q1, q2⟩ := w_rd_arr (G := G) hH p1 ht hi p2 p3
    exact ⟨a, _, rfl, q1, q2, p4⟩
  next => cases e
theorem w_no2 {a t n : Nat} {h : rm_H} (hH : w_H T S h) (ha : w_a T S a = some (t, n)) (ht : t < 3) : T.2 a = none := by
  cases hc : T.2 a with
  | none => rfl
  | some q =>
    obtain ⟨ci, m, fk⟩ := q
    exact absurd rfl (w_ob_ne hH ha ht hc)
theorem w_wt_ok {t : Nat} {v : w_V} {i x : Int} {F : w_S → Prop} {h : rm_H} (hH : w_H T S h) (ht : t < 3) (hi : w_n i) (hx : w_q t x) (e : w_wt T B S t v i x F = some P) (hP : P) : ∃ a n, w_v v = .ref a ∧ w_a T S a = some (t, n) ∧ h[a]? = some (.inl (t, n, .inl (fun j => Int32.ofInt (S.1 a j)))) ∧ ¬ (Int32.ofInt i < 0 ∨ n ≤ (Int32.ofInt i).toNatClampNeg) ∧ w_frb T B a = false ∧ F (w_put S a i.toNat x) := by
  unfold w_wt at e
  split at e
  next a =>
    split at e
    next u n hT =>
      split at e
      next hu =>
        obtain ⟨rfl, hB⟩ := hu
        cases e
        exact ⟨a, n, rfl, w_a_st hT, hH.1 a _ n (w_a_st hT) ht, w_ix hi hP.1 hP.2.1, w_frb_a hB, hP.2.2⟩
      next => cases e
    next => cases e
  next a =>
    cases e
    obtain ⟨n, p0, p1, p2, p3, p4⟩ := hP
    exact ⟨a, n, rfl, p1, hH.1 a _ n p1 ht, w_ix hi p2 p3, p0, p4⟩
  next => cases e
theorem w_k2 {pc' : Nat} {st' : List w_V} (h0 : rm_mb M pc = some ins) (hs : w_oks st → ∀ l h, w_H T S h → rm_s2 G fin (rm_iM M) (rm_mp M) ins pc l (st.map w_v) h = some (pc', l, st'.map w_v, h, 0, 0)) (ho : w_oks st → w_Q T S → w_oks st') (hw : WP G fin pr T Bs B M pc' ls st' S Q) : WP G fin pr T Bs B M pc ls st S Q :=
  w_by2 h0 (fun hl ok l hin h hh => ⟨pc', st', S, h, 0, 0, hs ok l h hh, hh, rfl, rfl, ho ok hh.2.2.2.2.2.2.2, ⟨w_fr.refl T B S, w_hf.refl T B h⟩, hw⟩)
theorem w_fld {a ci n k : Nat} {fk : Nat → Nat × Nat} {h : rm_H} (hH : w_H T S h) (ha : T.2 a = some (ci, n, fk)) (hk : k < n) : h[a]? = some (.inr (ci, w_fs S a n fk)) ∧ (w_fs S a n fk)[k]? = some (w_fv S a k (fk k)) := ⟨hH.2.2.2.1 a ci n fk ha, w_fs_at hk⟩
theorem w_nar_int (x : Int) : narrow .int (.int (Int32.ofInt x)) = .int (Int32.ofInt x) ∧ fits .int (.int (Int32.ofInt x)) = true := ⟨rfl, rfl⟩
theorem w_nar_bit {x : Int} (h : x = 0 ∨ x = 1) : narrow .boolean (.int (Int32.ofInt x)) = .int (Int32.ofInt x) ∧ fits .boolean (.int (Int32.ofInt x)) = true := by
  rcases h with rfl | rfl <;> exact ⟨rfl, rfl⟩
theorem w_nar_ref {ty : FieldType} (b : Nat) (h : fits ty (.ref 0) = true) : narrow ty (.ref b) = .ref b ∧ fits ty (.ref b) = true := by
  cases ty <;> first | exact ⟨rfl, rfl⟩ | (cases h)
set_option maxHeartbeats 4000000 in
theorem w_st2_ok (hT : w_TU T) (h0 : rm_mb M pc = some ins) (hK : ∀ pc' ls' st' S', K pc' ls' st' S' → WP G fin pr T Bs B M pc' ls' st' S' Q) (h : w_st2 G fin T B (rm_iM M) (rm_mp M) ins pc ls st S K = some P) (hP : P) : WP G fin pr T Bs B M pc ls st S Q := by
  unfold w_st2 at h
  split at h
  next idx =>
    split at h
    next ci k z hp =>
      split at h
      next a r =>
        split at h
        next cj n fk ha =>
          split at h
          next hc =>
            obtain ⟨rfl, hk⟩ := hc
            split at h
            next t hf =>
              split at h
              next ht =>
                cases h
                refine w_k2 (st' := .inl (S.1 a k) :: r) h0 (fun ok l hp2 hH => ?_) (fun ok hq => w_oks_cons (w_q_n ht (hq.2 a cj n fk ha k t hf)) (w_oks_tl ok)) (hK _ _ _ _ hP)
                obtain ⟨e1, e2⟩ := w_fld hH ha hk
                simp only [rm_s2, hp, List.map_cons, w_v, e1, if_true, e2, hf, w_fv]
              next => cases h
            next b hf =>
              cases h
              refine w_k2 (st' := .inr (.inl b) :: r) h0 (fun ok l hp2 hH => ?_) (fun ok hq => w_oks_cons trivial (w_oks_tl ok)) (hK _ _ _ _ hP)
              obtain ⟨e1, e2⟩ := w_fld hH ha hk
              simp only [rm_s2, hp, List.map_cons, w_v, e1, if_true, e2, hf, w_fv]
            next j hf =>
              cases h
              refine w_k2 (st' := .inr (.inr (.inl (S.2.1 j))) :: r) h0 (fun ok l hp2 hH => ?_) (fun ok hq => w_oks_cons trivial (w_oks_tl ok)) (hK _ _ _ _ hP)
              obtain ⟨e1, e2⟩ := w_fld hH ha hk
              simp only [rm_s2, hp, List.map_cons, w_v, e1, if_true, e2, hf, w_fv]
            next => cases h
          next => cases h
        next => cases h
      next => cases h
    next u z hp =>
      split at h
      next a r =>
        split at h
        next hc =>
          cases h
          refine w_k2 (st' := .inl 0 :: r) h0 (fun ok l hp2 hH => ?_) (fun ok hq => w_oks_cons (v := .inl 0) w_n0 (w_oks_tl ok)) (hK _ _ _ _ hP)
          simp only [rm_s2, hp, List.map_cons, w_v, if_pos hc]
          rfl
        next => cases h
      next => cases h
    next u z hp =>
      split at h
      next a r =>
        split at h
        next hc =>
          cases h
          refine w_k2 (st' := .inr (.inl (a + 1)) :: r) h0 (fun ok l hp2 hH => ?_) (fun ok hq => w_oks_cons (v := .inr (.inl (a + 1))) trivial (w_oks_tl ok)) (hK _ _ _ _ hP)
          simp only [rm_s2, hp, List.map_cons, w_v, if_pos hc]
        next => cases h
      next => cases h
    next => cases h
  next idx =>
    split at h
    next ci k z hp =>
      split at h
      next x a r =>
        split at h
        next cj n fk ha =>
          split at h
          next hc =>
            obtain ⟨rfl, hk, hfin, hB⟩ := hc
            split at h
            next hf =>
              split at h
              next hty =>
                cases h
                refine w_by2 h0 (fun hl ok l hin hp2 hH => ⟨_, r, _, _, 0, 0, ?_, hH.putf ha hk hf (w_oks_hd ok), rfl, rfl, w_oks_tl (w_oks_tl ok), ⟨w_fr.put (w_frb_a hB), w_hf.set (w_frb_a hB)⟩, hK _ _ _ _ hP⟩)
                obtain ⟨e1, e2⟩ := w_fld hH ha hk
                have hl2 : k < (w_fs S a n fk).length := by rw [w_fs_len]; exact hk
                simp only [rm_s2, hp, List.map_cons, w_v, e1]
                rw [if_pos ⟨trivial, hl2, by rw [hty]; exact (w_nar_int x).1, by rw [hty]; exact (w_nar_int x).2, hfin⟩]
              next => cases h
            next hf =>
              split at h
              next hty =>
                cases h
                refine w_by2 h0 (fun hl ok l hin hp2 hH => ⟨_, r, _, _, 0, 0, ?_, hH.putf ha hk hf hP.1, rfl, rfl, w_oks_tl (w_oks_tl ok), ⟨w_fr.put (w_frb_a hB), w_hf.set (w_frb_a hB)⟩, hK _ _ _ _ hP.2⟩)
                obtain ⟨e1, e2⟩ := w_fld hH ha hk
                have hl2 : k < (w_fs S a n fk).length := by rw [w_fs_len]; exact hk
                simp only [rm_s2, hp, List.map_cons, w_v, e1]
                rw [if_pos ⟨trivial, hl2, by rw [hty]; exact (w_nar_bit hP.1).1, by rw [hty]; exact (w_nar_bit hP.1).2, hfin⟩]
              next => cases h
            next => cases h
          next => cases h
        next => cases h
      next b a r =>
        split at h
        next cj n fk ha =>
          split at h
          next hc =>
            obtain ⟨rfl, hk, hfin, hB, hBa⟩ := hc
            split at h
            next j hf =>
              split at h
              next hty =>
                cases h
                refine w_by2 h0 (fun hl ok l hin hp2 hH => ⟨_, r, _, _, 0, 0, ?_, hH.putr hT ha hk hf, rfl, rfl, w_oks_tl (w_oks_tl ok), ⟨w_fr.rfp hB, w_hf.set (w_frb_a hBa)⟩, hK _ _ _ _ hP⟩)
                obtain ⟨e1, e2⟩ := w_fld hH ha hk
                have hl2 : k < (w_fs S a n fk).length := by rw [w_fs_len]; exact hk
                simp only [rm_s2, hp, List.map_cons, w_v, e1]
                rw [if_pos ⟨trivial, hl2, (w_nar_ref b hty).1, (w_nar_ref b hty).2, hfin⟩]
              next => cases h
            next => cases h
          next => cases h
        next => cases h
      next => cases h
    next => cases h
  next idx =>
    split at h
    next a b z hp =>
      cases h
      exact w_k2 (st' := .inl (w_r z) :: st) h0 (fun ok l hp2 hH => by simp only [rm_s2, hp, List.map_cons, w_v, w_of_r]) (fun ok _ => w_oks_cons (w_r_n z) ok) (hK _ _ _ _ hP)
    next a b z hp =>
      cases h
      exact w_k2 (st' := .inr (.inl (rm_K + a)) :: st) h0 (fun ok l hp2 hH => by simp only [rm_s2, hp, List.map_cons, w_v]) (fun ok _ => w_oks_cons trivial ok) (hK _ _ _ _ hP)
    next => cases h
  next idx =>
    split at h
    next a b z hp =>
      cases h
      exact w_k2 (st' := .inl (w_r z) :: st) h0 (fun ok l hp2 hH => by simp only [rm_s2, hp, List.map_cons, w_v, w_of_r]) (fun ok _ => w_oks_cons (w_r_n z) ok) (hK _ _ _ _ hP)
    next a b z hp =>
      cases h
      exact w_k2 (st' := .inr (.inl (rm_K + 2 * a)) :: st) h0 (fun ok l hp2 hH => by simp only [rm_s2, hp, List.map_cons, w_v]) (fun ok _ => w_oks_cons trivial ok) (hK _ _ _ _ hP)
    next => cases h
  next idx =>
    split at h
    next a b z hp =>
      cases h
      exact w_k2 (st' := .inl (w_r z) :: st) h0 (fun ok l hp2 hH => by simp only [rm_s2, hp, List.map_cons, w_v, w_of_r]) (fun ok _ => w_oks_cons (w_r_n z) ok) (hK _ _ _ _ hP)
    next a b z hp =>
      cases h
      exact w_k2 (st' := .inr (.inl (rm_K + 2 * a)) :: st) h0 (fun ok l hp2 hH => by simp only [rm_s2, hp, List.map_cons, w_v]) (fun ok _ => w_oks_cons trivial ok) (hK _ _ _ _ hP)
    next => cases h
  next idx =>
    split at h
    next a b z hp =>
      cases h
      exact w_k2 (st' := .inr (.inr (.inr (w_r64 z))) :: st) h0 (fun ok l hp2 hH => by simp only [rm_s2, hp, List.map_cons, w_v, w_of_r64]) (fun ok _ => w_oks_cons (w_r64_n z) ok) (hK _ _ _ _ hP)
    next => cases h
  next t =>
    split at h
    next u n r hu =>
      split at h
      next hu3 =>
        cases h
        obtain ⟨p0, p1, p2, p3, p4⟩ := hP
        refine w_by2 h0 (fun hl ok l hin hp2 hH => ?_)
        have hn : w_n n := w_oks_hd ok
        have hlen : hp2.length = S.2.2.2.1 := hH.2.2.2.2.2.1
        have hno2 : T.2 S.2.2.2.1 = none := by
          cases hc : T.2 S.2.2.2.1 with
          | none => rfl
          | some q =>
            obtain ⟨ci, m, fk⟩ := q
            have := hH.2.2.2.1 _ ci m fk hc
            rw [← hlen, List.getElem?_eq_none (Nat.le_refl _)] at this
            cases this
        have hno1 : T.1 S.2.2.2.1 = none := by
          cases hc : T.1 S.2.2.2.1 with
          | none => rfl
          | some q =>
            obtain ⟨u1, m⟩ := q
            have hnone : hp2[S.2.2.2.1]? = none := by rw [← hlen]; exact List.getElem?_eq_none (Nat.le_refl _)
            have hu4 := hT.2 _ u1 m hc
            by_cases h3 : u1 < 3
            · rw [hH.1 _ u1 m (w_a_st hc) h3] at hnone
              cases hnone
            · rcases (by omega : u1 = 3 ∨ u1 = 4) with rfl | rfl
              · rw [hH.2.1 _ m hc] at hnone
                cases hnone
              · rw [hH.2.2.1 _ m hc] at hnone
                cases hnone
        refine ⟨_, .inr (.inr (.inl S.2.2.2.1)) :: r, w_new S u n.toNat, _, 1, n.toNat, ?_, hH.new hT hu3.1 (by omega), rfl, rfl, w_oks_cons trivial (w_oks_tl ok), ⟨w_fr.new hu3.2.1 (w_frb_301 hu3.2.2 hno1 hno2 p0), w_hf.new (by rw [hlen]; exact w_frb_301 hu3.2.2 hno1 hno2 p0)⟩, hK _ _ _ _ p4⟩
        have hz : rm_z u n.toNat = (n.toNat, .inl (fun _ => 0)) := by
          unfold rm_z
          rw [if_neg (by have := hu3.1; omega)]
        simp only [rm_s2, hu, List.map_cons, w_v]
        rw [if_pos ⟨by omega, by rw [w_lt0 hn]; omega, by rw [w_clamp hn]; omega⟩, w_clamp hn, hz, hlen]
      next => cases h
    next => cases h
  next =>
    split at h
    next i v r =>
      refine w_by2 h0 (fun hl ok l hin hp2 hH => ?_)
      obtain ⟨a, x, e1, e2, e3, e4⟩ := w_rd_ok hH (by omega) (w_oks_hd ok) h hP
      refine ⟨pc + 1, .inl x :: r, S, hp2, 0, 0, ?_, hH, rfl, rfl, w_oks_cons e3 (w_oks_tl (w_oks_tl ok)), ⟨w_fr.refl T B S, w_hf.refl T B hp2⟩, hK _ _ _ _ e4⟩
      have e2 : rm_rdi G hp2 0 .int a (Int32.ofInt i) = some (Int32.ofInt x) := e2
      have e5 : w_v (.inl i) = .int (Int32.ofInt i) := rfl
      simp only [rm_s2, List.map_cons, e1, e5, e2]
      rfl
    next => cases h
  next =>
    split at h
    next i v r =>
      refine w_by2 h0 (fun hl ok l hin hp2 hH => ?_)
      have e5 : w_v (.inl i) = .int (Int32.ofInt i) := rfl
      split at h
      next hb =>
        obtain ⟨a, x, e1, e2, e3, e4⟩ := w_rd_ok hH (by omega) (w_oks_hd ok) h hP
        refine ⟨pc + 1, .inl x :: r, S, hp2, 0, 0, ?_, hH, rfl, rfl, w_oks_cons e3 (w_oks_tl (w_oks_tl ok)), ⟨w_fr.refl T B S, w_hf.refl T B hp2⟩, hK _ _ _ _ e4⟩
        have e2 : rm_rdi G hp2 2 .boolean a (Int32.ofInt i) = some (Int32.ofInt x) := e2
        have e6 : rm_rdi G hp2 1 .byte a (Int32.ofInt i) = none := by
          unfold w_is at hb
          split at hb
          next a' =>
            cases e1
            split at hb
            next u n hu =>
              have hu2 : u = 2 := by simpa using hb
              subst hu2
              have e7 := hH.1 a 2 n (w_a_st hu) (by omega)
              unfold rm_rdi
              rw [if_pos (hH.lt e7), e7]
              rfl
            next => cases hb
          next => cases hb
        simp only [rm_s2, List.map_cons, e1, e5, e2, e6]
        rfl
      next hb =>
        obtain ⟨a, x, e1, e2, e3, e4⟩ := w_rd_ok hH (by omega) (w_oks_hd ok) h hP
        refine ⟨pc + 1, .inl x :: r, S, hp2, 0, 0, ?_, hH, rfl, rfl, w_oks_cons e3 (w_oks_tl (w_oks_tl ok)), ⟨w_fr.refl T B S, w_hf.refl T B hp2⟩, hK _ _ _ _ e4⟩
        have e2 : rm_rdi G hp2 1 .byte a (Int32.ofInt i) = some (Int32.ofInt x) := e2
        simp only [rm_s2, List.map_cons, e1, e5, e2]
        rfl
    next => cases h
  next =>
    split at h
    next i a r =>
      split at h
      next n ha =>
        cases h
        refine w_by2 h0 (fun hl ok l hin hp2 hH => ?_)
        have e := hH.2.1 a n ha
        have hi : w_n i := w_oks_hd ok
        refine ⟨pc + 1, .inr (.inr (.inr (S.1 a i.toNat))) :: r, S, hp2, 0, 0, ?_, hH, rfl, rfl, w_oks_cons (hH.2.2.2.2.2.2.2.1 a 3 n (w_a_st ha) _) (w_oks_tl (w_oks_tl ok)), ⟨w_fr.refl T B S, w_hf.refl T B hp2⟩, hK _ _ _ _ hP.2.2⟩
        simp only [rm_s2, List.map_cons, w_v, e]
        rw [if_neg (w_ix hi hP.1 hP.2.1), w_clamp hi]
      next => cases h
    next => cases h
  next =>
    split at h
    next i a r =>
      split at h
      next n ha =>
        cases h
        refine w_by2 h0 (fun hl ok l hin hp2 hH => ?_)
        have e := hH.2.2.1 a n ha
        have hi : w_n i := w_oks_hd ok
        refine ⟨pc + 1, .inr (.inr (.inl (a + 1 + i.toNat))) :: r, S, hp2, 0, 0, ?_, hH, rfl, rfl, w_oks_cons trivial (w_oks_tl (w_oks_tl ok)), ⟨w_fr.refl T B S, w_hf.refl T B hp2⟩, hK _ _ _ _ hP.2.2⟩
        simp only [rm_s2, List.map_cons, w_v, e]
        rw [if_neg (w_ix hi hP.1 hP.2.1), w_clamp hi, if_pos (by omega)]
        rfl
      next => cases h
    next => cases h
  next =>
    split at h
    next x i v r =>
      refine w_by2 h0 (fun hl ok l hin hp2 hH => ?_)
      have hi : w_n i := w_oks_hd (w_oks_tl ok)
      obtain ⟨a, n, e1, e2, e3, e4, e0, e5⟩ := w_wt_ok hH (by omega) hi (show w_q 0 x from w_oks_hd ok) h hP
      refine ⟨pc + 1, r, _, _, 0, 0, ?_, hH.put e2 (by omega) (show w_q 0 x from w_oks_hd ok), rfl, rfl, w_oks_tl (w_oks_tl (w_oks_tl ok)), ⟨w_fr.put e0, w_hf.set e0⟩, hK _ _ _ _ e5⟩
      have e6 : w_v (.inl i) = .int (Int32.ofInt i) := rfl
      have e7 : w_v (.inl x) = .int (Int32.ofInt x) := rfl
      simp only [rm_s2, List.map_cons, e6, e7, e1, e3]
      rw [if_neg e4, w_clamp hi]
    next => cases h
  next =>
    split at h
    next x i v r =>
      refine w_by2 h0 (fun hl ok l hin hp2 hH => ?_)
      have hi : w_n i := w_oks_hd (w_oks_tl ok)
      have e6 : w_v (.inl i) = .int (Int32.ofInt i) := rfl
      have e7 : w_v (.inl x) = .int (Int32.ofInt x) := rfl
      split at h
      next hb =>
        split at h
        next P2 h2 =>
          cases h
          obtain ⟨a, n, e1, e2, e3, e4, e0, e5⟩ := w_wt_ok hH (by omega) hi (show w_q 2 x from hP.1) h2 hP.2
          refine ⟨pc + 1, r, _, _, 0, 0, ?_, hH.put e2 (by omega) (show w_q 2 x from hP.1), rfl, rfl, w_oks_tl (w_oks_tl (w_oks_tl ok)), ⟨w_fr.put e0, w_hf.set e0⟩, hK _ _ _ _ e5⟩
          have e8 : vp_nar .boolean (Int32.ofInt x) = Int32.ofInt x := by
            rcases hP.1 with rfl | rfl <;> rfl
          simp only [rm_s2, List.map_cons, e6, e7, e1, e3]
          rw [if_neg e4, w_clamp hi, e8]
        next => cases h
      next hb =>
        have hq : w_q 1 (w_b x) := by
          show -128 ≤ w_b x ∧ w_b x ≤ 127
          unfold w_b
          omega
        obtain ⟨a, n, e1, e2, e3, e4, e0, e5⟩ := w_wt_ok hH (by omega) hi hq h hP
        refine ⟨pc + 1, r, _, _, 0, 0, ?_, hH.put e2 (by omega) hq, rfl, rfl, w_oks_tl (w_oks_tl (w_oks_tl ok)), ⟨w_fr.put e0, w_hf.set e0⟩, hK _ _ _ _ e5⟩
        have e8 : vp_nar .byte (Int32.ofInt x) = Int32.ofInt (w_b x) := w_bE x
        simp only [rm_s2, List.map_cons, e6, e7, e1, e3]
        rw [if_neg e4, w_clamp hi, e8]
    next => cases h
  next =>
    split at h
    next x i a r =>
      split at h
      next n ha =>
        split at h
        next hB =>
          cases h
          refine w_by2 h0 (fun hl ok l hin hp2 hH => ?_)
          have e := hH.2.1 a n ha
          have hi : w_n i := w_oks_hd (w_oks_tl ok)
          refine ⟨pc + 1, r, _, _, 0, 0, ?_, hH.putl (k := i.toNat) ha (show w_n64 x from w_oks_hd ok), rfl, rfl, w_oks_tl (w_oks_tl (w_oks_tl ok)), ⟨w_fr.put (w_frb_a hB), w_hf.set (w_frb_a hB)⟩, hK _ _ _ _ hP.2.2⟩
          simp only [rm_s2, List.map_cons, w_v, e]
          rw [if_neg (w_ix hi hP.1 hP.2.1), w_clamp hi]
        next => cases h
      next => cases h
    next => cases h
  next =>
    split at h
    next a r =>
      split at h
      next hk =>
        split at h
        next u n ha =>
          split at h
          next hu =>
            cases h
            refine w_k2 (st' := .inl (n : Int) :: r) h0 (fun ok l hp2 hH => ?_) (fun ok _ => w_oks_cons (show w_n (n : Int) by unfold w_n; omega) (w_oks_tl ok)) (hK _ _ _ _ hP)
            have hl : rm_len2 G hp2 a = some (Int32.ofNat n) := by
              unfold rm_len2
              rw [if_pos hk]
              rcases (by omega : u < 3 ∨ u = 3 ∨ u = 4) with hu2 | rfl | rfl
              · rw [hH.1 a u n (w_a_st ha) hu2]
                dsimp only
                rw [if_pos hu.1]
              · rw [hH.2.1 a n ha]
                rfl
              · rw [hH.2.2.1 a n ha]
                rfl
            simp only [rm_s2, List.map_cons, w_v, hl, Int32.ofInt_eq_ofNat]
          next => cases h
        next => cases h
      next hk =>
        split at h
        next ty n f ha =>
          cases h
          refine w_k2 (st' := .inl (n : Int) :: r) h0 (fun ok l hp2 hH => ?_) (fun ok _ => w_oks_cons (show w_n (n : Int) by unfold w_n; omega) (w_oks_tl ok)) (hK _ _ _ _ hP.2)
          have hl : rm_len2 G hp2 a = some (Int32.ofNat n) := by
            unfold rm_len2
            rw [if_neg hk, ha]
          simp only [rm_s2, List.map_cons, w_v, hl, Int32.ofInt_eq_ofNat]
        next => cases h
    next a r =>
      cases h
      obtain ⟨t, n, p1, p2, p3, p4⟩ := hP
      refine w_k2 (st' := .inl (n : Int) :: r) h0 (fun ok l hp2 hH => ?_) (fun ok _ => w_oks_cons (show w_n (n : Int) by unfold w_n; omega) (w_oks_tl ok)) (hK _ _ _ _ p4)
      have e := hH.1 a t n p1 p2
      have hl : rm_len2 G hp2 a = some (Int32.ofNat n) := by
        unfold rm_len2
        rw [if_pos (hH.lt e), e]
        dsimp only
        rw [if_pos (by omega)]
      simp only [rm_s2, List.map_cons, w_v, hl, Int32.ofInt_eq_ofNat]
    next => cases h
  next => cases h
end WD
