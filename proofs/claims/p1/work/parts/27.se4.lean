set_option maxHeartbeats 4000000 in
theorem se_s2_ok {ρ : Nat → Int32} {G G' : rm_G} {L : Nat} {fin : Nat → Nat → Bool} {iM : Option Nat} {pl : Nat → Option rm_P} {ins : Instr} {pc : Nat} {ls ls' : rm_L} {st st' : List Value} {h : se_H} {h' : rm_H} {q : Nat × rm_L × List Value × se_H × Nat × Nat}
    (hG : se_G G G' L ρ) (hq : se_s2 G L fin iM pl ins pc ls st h = some q) (hl : se_Ls ρ ls ls') (hs : se_St ρ st st') (hh : se_Hp ρ h h') : se_nx2 ρ q (rm_s2 G' fin iM pl ins pc ls' st' h') := by
  have hG0 := hG
  obtain ⟨g1, g2, ⟨xs, g3, g4⟩, g5, g6, g7, g8⟩ := hG
  have hlen : h'.length = h.length := se_len hh
  unfold se_s2 at hq
  split at hq
  next idx =>
    split at hq
    next ci k z hp =>
      split at hq
      next a r =>
        obtain ⟨av, st2, hst9, ha, hs9⟩ := se_cons hs; clear hs; subst hst9; have hs := hs9; clear hs9
        cases se_r_ref ha
        split at hq
        next cj fs hf =>
          split at hq
          next hj =>
            subst hj
            split at hq
            next v hv =>
              cases hq
              obtain ⟨gs, o1, o2⟩ := se_obj hh hf
              obtain ⟨w, o3, o4⟩ := se_at o2 hv
              exact se_nx2i (by simp only [rm_s2, hp, o1, o3, if_true]) hl (se_c2 (o4) hs) hh
            next => cases hq
          next => cases hq
        next => cases hq
      next => cases hq
    next hp =>
      split at hq
      next a r =>
        obtain ⟨av, st2, hst9, ha, hs9⟩ := se_cons hs; clear hs; subst hst9; have hs := hs9; clear hs9
        cases se_r_ref ha
        split at hq
        next hc =>
          cases hq
          exact se_nx2i (by simp only [rm_s2, hp, g5]; exact if_pos hc) hl (se_c2 (rfl) hs) hh
        next => cases hq
      next => cases hq
    next hp =>
      split at hq
      next a r =>
        obtain ⟨av, st2, hst9, ha, hs9⟩ := se_cons hs; clear hs; subst hst9; have hs := hs9; clear hs9
        cases se_r_ref ha
        split at hq
        next hc =>
          cases hq
          exact se_nx2i (by simp only [rm_s2, hp, g5]; exact if_pos hc) hl (se_c2 (rfl) hs) hh
        next => cases hq
      next => cases hq
    next => cases hq
  next idx =>
    split at hq
    next ci k z hp =>
      split at hq
      next v a r =>
        obtain ⟨vv, st2, hst9, hv, hs9⟩ := se_cons hs; clear hs; subst hst9; have hs := hs9; clear hs9
        obtain ⟨av, st3, hst9, ha, hs9⟩ := se_cons hs; clear hs; subst hst9; have hs := hs9; clear hs9
        cases se_r_ref ha
        split at hq
        next cj fs hf =>
          split at hq
          next hc =>
            obtain ⟨rfl, c2, c3, c4⟩ := hc
            cases hq
            obtain ⟨gs, o1, o2⟩ := se_obj hh hf
            have o3 : gs.length = fs.length := se_len o2
            have c5 := se_pf_ok c3 hv
            refine se_nx2i (st' := st3) (h' := h'.set a (.inr (cj, gs.set k vv))) ?_ hl hs (se_put hh ⟨rfl, se_put o2 hv⟩)
            simp only [rm_s2, hp, o1, g7]
            exact if_pos ⟨trivial, by rw [o3]; exact c2, c5.1, c5.2, c4⟩
          next => cases hq
        next => cases hq
      next => cases hq
    next => cases hq
  next idx =>
    split at hq
    next hp => cases hq; exact se_nx2i (by simp only [rm_s2, hp]) hl (se_c2 (rfl) hs) hh
    next hp => cases hq; exact se_nx2i (by simp only [rm_s2, hp]) hl (se_c2 (rfl) hs) hh
    next hp => cases hq; exact se_nx2i (by simp only [rm_s2, hp]) hl (se_c2 (rfl) hs) hh
    next => cases hq
  next idx =>
    split at hq
    next hp => cases hq; exact se_nx2i (by simp only [rm_s2, hp]) hl (se_c2 (rfl) hs) hh
    next hp => cases hq; exact se_nx2i (by simp only [rm_s2, hp]) hl (se_c2 (rfl) hs) hh
    next => cases hq
  next idx =>
    split at hq
    next hp => cases hq; exact se_nx2i (by simp only [rm_s2, hp]) hl (se_c2 (rfl) hs) hh
    next hp => cases hq; exact se_nx2i (by simp only [rm_s2, hp]) hl (se_c2 (rfl) hs) hh
    next => cases hq
  next idx =>
    split at hq
    next ci b z hp =>
      split at hq
      next hlt =>
        cases hq
        refine se_nx2i (st' := .ref h'.length :: st') (h' := h' ++ [.inr (ci, rm_df G ci)]) ?_ hl (se_c2 (by rw [hlen]; rfl) hs) (se_app hh (se_c2 (show se_e ρ (.inr (ci, rm_df G ci)) (.inr (ci, rm_df G ci)) from ⟨rfl, se_self (g8 ci)⟩) (show se_a2 (se_e ρ) [] [] from trivial)))
        simp only [rm_s2, hp, g6]
        exact if_pos (by rw [hlen]; exact hlt)
      next => cases hq
    next => cases hq
  next t =>
    split at hq
    next u n r hu =>
      split at hq
      next hc =>
        cases hq
        obtain ⟨nv, st2, hst9, hn, hs9⟩ := se_cons hs; clear hs; subst hst9; have hs := hs9; clear hs9
        cases se_r_lit hn
        refine se_nx2i (st' := .ref h'.length :: st2) (h' := h' ++ [.inl (u, rm_z u n.toNatClampNeg)]) ?_ hl (se_c2 (by rw [hlen]; rfl) hs) (se_app hh (se_c2 ?_ (show se_a2 (se_e ρ) [] [] from trivial)))
        · simp only [rm_s2, hu]
          exact if_pos (by rw [hlen]; exact hc)
        · by_cases h3 : u = 3
          · subst h3
            exact ⟨rfl, rfl, fun _ => 0, rfl, fun j => rfl⟩
          · by_cases h4 : u = 4
            · subst h4
              cases t <;> simp [rm_at] at hu
            · have hz : rm_z u n.toNatClampNeg = (n.toNatClampNeg, .inl (fun _ => 0)) := if_neg h3
              rw [hz]
              refine ⟨rfl, rfl, ?_⟩
              rw [if_neg h3, if_neg h4]
              exact ⟨fun _ => 0, rfl, fun j => by rw [if_neg h3]; rfl⟩
      next => cases hq
    next => cases hq
  next idx =>
    split at hq
    next hp =>
      split at hq
      next k n r =>
        obtain ⟨kv, st2, hst9, hk, hs9⟩ := se_cons hs; clear hs; subst hst9; have hs := hs9; clear hs9
        cases se_r_lit hk
        obtain ⟨nv, st3, hst9, hn, hs9⟩ := se_cons hs; clear hs; subst hst9; have hs := hs9; clear hs9
        cases se_r_lit hn
        split at hq
        next hc =>
          cases hq
          refine se_nx2i (st' := .ref h'.length :: st3) (h' := h' ++ (.inl (4, n.toNatClampNeg, .inr (.inr (.inr (.inr (fun i => if i < n.toNatClampNeg then some (h'.length + 1 + i) else none))))) :: List.replicate n.toNatClampNeg (.inl (0, rm_z 0 k.toNatClampNeg)))) ?_ hl (se_c2 (by rw [hlen]; rfl) hs) (se_app hh ⟨?_, se_rep ?_ _⟩)
          · simp only [rm_s2, hp]
            exact if_pos (by rw [hlen]; exact hc)
          · refine ⟨rfl, rfl, ?_⟩
            rw [if_neg (by decide), if_pos rfl]
            exact ⟨_, rfl, fun j => by rw [hlen]⟩
          · exact ⟨rfl, rfl, fun _ => 0, rfl, fun j => rfl⟩
        next => cases hq
      next => cases hq
    next => cases hq
  next =>
    split at hq
    next i a r =>
      obtain ⟨iv, st2, hst9, hi, hs9⟩ := se_cons hs; clear hs; subst hst9; have hs := hs9; clear hs9
      cases se_r_lit hi
      obtain ⟨av, st3, hst9, ha, hs9⟩ := se_cons hs; clear hs; subst hst9; have hs := hs9; clear hs9
      cases se_r_ref ha
      split at hq
      next v hv =>
        cases hq
        obtain ⟨x, o1, o2⟩ := se_rdi_ok hG0 hh hv
        exact se_nx2i (by simp only [rm_s2, o1]) hl (se_c2 (o2) hs) hh
      next => cases hq
    next => cases hq
  next =>
    split at hq
    next i a r =>
      obtain ⟨iv, st2, hst9, hi, hs9⟩ := se_cons hs; clear hs; subst hst9; have hs := hs9; clear hs9
      cases se_r_lit hi
      obtain ⟨av, st3, hst9, ha, hs9⟩ := se_cons hs; clear hs; subst hst9; have hs := hs9; clear hs9
      cases se_r_ref ha
      split at hq
      next hK =>
        split at hq
        next n c hf =>
          split at hq
          next => cases hq
          next hin =>
            cases hq
            obtain ⟨f, o1, o2⟩ := se_arr hh hf (by decide) (by decide)
            have e1 : rm_rdi G' h' 1 .byte a i = some (f i.toNatClampNeg) := by
              unfold rm_rdi
              rw [if_pos hK, o1]
              dsimp only
              rw [if_pos rfl, if_neg hin]
            exact se_nx2i (by simp only [rm_s2, e1]) hl (se_c2 (o2 _) hs) hh
        next n c hf =>
          split at hq
          next => cases hq
          next hin =>
            cases hq
            obtain ⟨f, o1, o2⟩ := se_arr hh hf (by decide) (by decide)
            have e1 : rm_rdi G' h' 1 .byte a i = none := by
              unfold rm_rdi
              rw [if_pos hK, o1]
              dsimp only
              rw [if_neg (by decide)]
            have e2 : rm_rdi G' h' 2 .boolean a i = some (f i.toNatClampNeg) := by
              unfold rm_rdi
              rw [if_pos hK, o1]
              dsimp only
              rw [if_pos rfl, if_neg hin]
            exact se_nx2i (by simp only [rm_s2, e1, e2]) hl (se_c2 (o2 _) hs) hh
        next => cases hq
      next hK =>
        split at hq
        next v hv =>
          cases hq
          obtain ⟨x, o1, o2⟩ := se_rdi_ok hG0 hh hv
          exact se_nx2i (by simp only [rm_s2, o1]) hl (se_c2 (o2) hs) hh
        next => cases hq
    next => cases hq
  next =>
    split at hq
    next x i a r =>
      obtain ⟨xv, st1, hst9, hx, hs9⟩ := se_cons hs; clear hs; subst hst9; have hs := hs9; clear hs9
      obtain ⟨iv, st2, hst9, hi, hs9⟩ := se_cons hs; clear hs; subst hst9; have hs := hs9; clear hs9
      cases se_r_lit hi
      obtain ⟨av, st3, hst9, ha, hs9⟩ := se_cons hs; clear hs; subst hst9; have hs := hs9; clear hs9
      cases se_r_ref ha
      split at hq
      next n c hf =>
        split at hq
        next => cases hq
        next hc =>
          cases hq
          obtain ⟨f, o1, o2⟩ := se_arr hh hf (by decide) (by decide)
          have hi1 : se_int x = true := by
            cases hb : se_int x with
            | true => rfl
            | false => exact absurd (Or.inl hb) hc
          obtain ⟨y, rfl⟩ := se_r_int hx hi1
          have hin : ¬ (i < 0 ∨ n ≤ i.toNatClampNeg) := fun w => hc (Or.inr w)
          refine se_nx2i (st' := st3) (h' := h'.set a (.inl (0, n, .inl (upd f i.toNatClampNeg y)))) ?_ hl hs (se_put hh ⟨rfl, rfl, _, rfl, se_up_ok o2 hx⟩)
          simp only [rm_s2, o1]
          exact if_neg hin
      next => cases hq
    next => cases hq
  next =>
    split at hq
    next x i a r =>
      obtain ⟨xv, st1, hst9, hx, hs9⟩ := se_cons hs; clear hs; subst hst9; have hs := hs9; clear hs9
      obtain ⟨iv, st2, hst9, hi, hs9⟩ := se_cons hs; clear hs; subst hst9; have hs := hs9; clear hs9
      cases se_r_lit hi
      obtain ⟨av, st3, hst9, ha, hs9⟩ := se_cons hs; clear hs; subst hst9; have hs := hs9; clear hs9
      cases se_r_ref ha
      split at hq
      next n c hf =>
        split at hq
        next => cases hq
        next hc =>
          cases hq
          obtain ⟨f, o1, o2⟩ := se_arr hh hf (by decide) (by decide)
          have hi1 : se_int x = true := by
            cases hb : se_int x with
            | true => rfl
            | false => exact absurd (Or.inl hb) hc
          obtain ⟨y, rfl⟩ := se_r_int hx hi1
          have hin : ¬ (i < 0 ∨ n ≤ i.toNatClampNeg) := fun w => hc (Or.inr w)
          refine se_nx2i (st' := st3) (h' := h'.set a (.inl (1, n, .inl (upd f i.toNatClampNeg (vp_nar .byte y))))) ?_ hl hs (se_put hh ⟨rfl, rfl, _, rfl, se_up_ok o2 (se_nb_ok .byte hx)⟩)
          simp only [rm_s2, o1]
          exact if_neg hin
      next n c hf =>
        split at hq
        next => cases hq
        next hc =>
          cases hq
          obtain ⟨f, o1, o2⟩ := se_arr hh hf (by decide) (by decide)
          have hi1 : se_int x = true := by
            cases hb : se_int x with
            | true => rfl
            | false => exact absurd (Or.inl hb) hc
          obtain ⟨y, rfl⟩ := se_r_int hx hi1
          have hin : ¬ (i < 0 ∨ n ≤ i.toNatClampNeg) := fun w => hc (Or.inr w)
          refine se_nx2i (st' := st3) (h' := h'.set a (.inl (2, n, .inl (upd f i.toNatClampNeg (vp_nar .boolean y))))) ?_ hl hs (se_put hh ⟨rfl, rfl, _, rfl, se_up_ok o2 (se_nb_ok .boolean hx)⟩)
          simp only [rm_s2, o1]
          exact if_neg hin
      next => cases hq
    next => cases hq
  next =>
    split at hq
    next a r =>
      obtain ⟨av, st3, hst9, ha, hs9⟩ := se_cons hs; clear hs; subst hst9; have hs := hs9; clear hs9
      cases se_r_ref ha
      split at hq
      next hK =>
        split at hq
        next u n c hf =>
          split at hq
          next hu =>
            cases hq
            obtain ⟨e, o1, o2⟩ := se_at hh hf
            cases e with
            | inr w => cases o2
            | inl w =>
              obtain ⟨u', m, w⟩ := w
              obtain ⟨rfl, rfl, -⟩ := o2
              have e1 : rm_len2 G' h' a = some (Int32.ofNat n) := by
                unfold rm_len2
                rw [if_pos hK, o1]
                exact if_pos hu
              exact se_nx2i (by simp only [rm_s2, e1]) hl (se_c2 (rfl) hs) hh
          next => cases hq
        next => cases hq
      next hK =>
        split at hq
        next hk =>
          cases hq
          have e1 : rm_len2 G' h' a = some (Int32.ofNat L) := by
            unfold rm_len2
            rw [if_neg hK, hk, g3]
          exact se_nx2i (by simp only [rm_s2, e1]) hl (se_c2 (rfl) hs) hh
        next hk =>
          split at hq
          next ty n f hc =>
            cases hq
            have e1 : rm_len2 G' h' a = some (Int32.ofNat n) := by
              unfold rm_len2
              rw [if_neg hK, g2 _ hk, hc]
            exact se_nx2i (by simp only [rm_s2, e1]) hl (se_c2 (rfl) hs) hh
          next => cases hq
    next => cases hq
  next => cases hq
