section
-- ha
theorem m_money {e : w_E} {N i : Nat} {S R : w_S} {x1 x2 : Int} (h : Inv e N i S R) : Ok (E_C_money e N x1 x2 S) (fun y S1 => Ok (E_R_money e N x1 x2 R) (fun y' R1 => y' = y ∧ Inv e N (i + 1) S1 R1)) := by
  obtain ⟨t, top, ta, L, E, V, n, hh, a1, a2, a3, a4, a5⟩ := h.hs
  exact q_eq h (q_money hh.2.1 hh.1 (by omega) a1)
theorem m_state {e : w_E} {N i : Nat} {S R : w_S} {x1 x2 : Int} (h : Inv e N i S R) : Ok (E_C_state e N x1 x2 S) (fun y S1 => Ok (E_R_state e N x1 x2 R) (fun y' R1 => y' = y ∧ Inv e N (i + 1) S1 R1)) := by
  obtain ⟨t, top, ta, L, E, V, n, hh, a1, a2, a3, a4, a5⟩ := h.hs
  exact q_eq h (q_state hh.2.2.1)
theorem m_where {e : w_E} {N i : Nat} {S R : w_S} {x1 x2 : Int} (h : Inv e N i S R) : Ok (E_C_where e N x1 x2 S) (fun y S1 => Ok (E_R_where e N x1 x2 R) (fun y' R1 => y' = y ∧ Inv e N (i + 1) S1 R1)) := by
  obtain ⟨t, top, ta, L, E, V, n, hh, a1, a2, a3, a4, a5⟩ := h.hs
  exact q_eq h (q_where hh.2.2.1)
theorem m_owes {e : w_E} {N i : Nat} {S R : w_S} {x1 : Int} (h : Inv e N i S R) : Ok (E_C_owes e N x1 S) (fun y S1 => Ok (E_R_owes e N x1 R) (fun y' R1 => y' = y ∧ Inv e N (i + 1) S1 R1)) := by
  obtain ⟨t, top, ta, L, E, V, n, hh, a1, a2, a3, a4, a5⟩ := h.hs
  exact q_eq h (q_owes hh.2.2.1)
theorem m_queue {e : w_E} {N i : Nat} {S R : w_S} {x1 x2 : Int} (hN : 16000000 ≤ N) (h : Inv e N i S R) : Ok (E_C_queue e N x1 x2 S) (fun y S1 => Ok (E_R_queue e N x1 x2 R) (fun y' R1 => y' = y ∧ Inv e N (i + 1) S1 R1)) := by
  obtain ⟨t, top, ta, L, E, V, n, hh, a1, a2, a3, a4, a5⟩ := h.hs
  exact q_eq h (q_queue (by omega) hh.2.2.1)
theorem m_load {e : w_E} {N i : Nat} {S R : w_S} {x1 : Int} (hN : 16000000 ≤ N) (h : Inv e N i S R) : Ok (E_C_load e N x1 S) (fun y S1 => Ok (E_R_load e N x1 R) (fun y' R1 => y' = y ∧ Inv e N (i + 1) S1 R1)) := by
  obtain ⟨t, top, ta, L, E, V, n, hh, a1, a2, a3, a4, a5⟩ := h.hs
  exact q_eq h (q_load (by omega) hh.2.2.2.1)
theorem m_octet {e : w_E} {N i : Nat} {S R : w_S} {x1 x2 : Int} (hN : 16000000 ≤ N) (h : Inv e N i S R) : Ok (E_C_octet e N x1 x2 S) (fun y S1 => Ok (E_R_octet e N x1 x2 R) (fun y' R1 => y' = y ∧ Inv e N (i + 1) S1 R1)) := by
  obtain ⟨t, top, ta, L, E, V, n, hh, a1, a2, a3, a4, a5⟩ := h.hs
  exact q_eq h (q_octet (by omega) hh.2.2.2.1)
theorem m_issue {e : w_E} {N i : Nat} {S R : w_S} {x1 x2 x3 : Int} (h : Inv e N i S R) : Ok (E_C_issue e N x1 x2 x3 S) (fun y S1 => Ok (E_R_issue e N x1 x2 x3 R) (fun y' R1 => y' = y ∧ Inv e N (i + 1) S1 R1)) := by
  obtain ⟨t, top, ta, L, E, V, n, hh, a1, a2, a3, a4, a5⟩ := h.hs
  exact q_eq h (q_issue hh.2.2.2.2.1)
theorem m_shelf {e : w_E} {N i : Nat} {S R : w_S} {x1 x2 : Int} (hN : 16000000 ≤ N) (h : Inv e N i S R) : Ok (E_C_shelf e N x1 x2 S) (fun y S1 => Ok (E_R_shelf e N x1 x2 R) (fun y' R1 => y' = y ∧ Inv e N (i + 1) S1 R1)) := by
  obtain ⟨t, top, ta, L, E, V, n, hh, a1, a2, a3, a4, a5⟩ := h.hs
  exact q_eq h (q_shelf (by omega) hh.2.2.2.2.2.2.2.2.2.1 hh.2.2.1)
theorem m_count {e : w_E} {N i : Nat} {S R : w_S} {x1 : Int} (h : Inv e N i S R) : Ok (E_C_count e N x1 S) (fun y S1 => Ok (E_R_count e N x1 R) (fun y' R1 => y' = y ∧ Inv e N (i + 1) S1 R1)) := by
  obtain ⟨t, top, ta, L, E, V, n, hh, a1, a2, a3, a4, a5⟩ := h.hs
  have hM : RelM S R := by
    obtain ⟨_, _, _, _, z, _⟩ := h
    exact z.1
  have hL := hh.2.2.1
  have hv := hh.2.2.2.2.2.2.2.2.2.2.2.2.2.1
  exact q_eq h (q_count ⟨hM.1, hM.2.1, hh.day.1, hL.2.2.2.1.1, by rw [hv.2.2.2.1, hv.2.2.1], hh.2.2.2.2.2.2.2.2.2.2.1.1, hL.2.2.2.2.1.1, hL.2.2.2.2.2.2.2.1.1, hL.2.2.2.2.2.1.1, hL.2.2.1.2.2.1, hh.1.2.1, hh.2.2.2.1.1⟩)
theorem m_tally {e : w_E} {N i : Nat} {S R : w_S} {x1 : Int} (hN : 16000000 ≤ N) (h : Inv e N i S R) : Ok (E_C_tally e N x1 S) (fun y S1 => Ok (E_R_tally e N x1 R) (fun y' R1 => y' = y ∧ Inv e N (i + 1) S1 R1)) := by
  obtain ⟨t, top, ta, L, E, V, n, hh, a1, a2, a3, a4, a5⟩ := h.hs
  have hM : RelM S R := by
    obtain ⟨_, _, _, _, z, _⟩ := h
    exact z.1
  have hL := hh.2.2.1
  obtain ⟨nl, _, l1, l2, _⟩ := hL.1.2.2.2
  obtain ⟨nc, _, c1, c2, _⟩ := hh.2.2.2.2.2.2.2.1
  obtain ⟨nk, _, k1, k2, _⟩ := hh.2.2.2.2.2.2.2.2.1
  exact q_eq h (q_tally (by omega) hL.2.2.2.2.2.2.2.1 (fun k z1 z2 => (hL.2.2.2.2.2.2.2.2.1 k z1 z2 (by omega)).1.1) ⟨hM.1, hM.2.2.2.2.1, hL.2.2.2.2.2.2.1.1, by rw [l1, l2], by rw [c1, c2], by rw [k1, k2], hh.2.2.2.2.2.1.1⟩)
theorem m_printed {e : w_E} {N i : Nat} {S R : w_S} {x1 : Int} (h : Inv e N i S R) : Ok (E_C_printed e N x1 S) (fun y S1 => Ok (E_R_printed e N x1 R) (fun y' R1 => y' = y ∧ Inv e N (i + 1) S1 R1)) := by
  have hA : Ask S R := by
    obtain ⟨_, _, _, _, _, _, z, _⟩ := h
    exact z
  obtain ⟨y, e1, e2⟩ := q_printed (e := e) (N := N) (x1 := x1) hA.2.1
  exact ok_of e1 (ok_of e2 ⟨rfl, h.up⟩)
theorem m_hit {e : w_E} {N i : Nat} {S R : w_S} {x1 : Int} (h : Inv e N i S R) : Ok (E_C_hit e N x1 S) (fun y S1 => Ok (E_R_hit e N x1 R) (fun y' R1 => y' = y ∧ Inv e N (i + 1) S1 R1)) := by
  have hA : Ask S R := by
    obtain ⟨_, _, _, _, _, _, z, _⟩ := h
    exact z
  obtain ⟨y, e1, e2⟩ := q_hit (e := e) (N := N) (x1 := x1) hA.2.2.1
  exact ok_of e1 (ok_of e2 ⟨rfl, h.up⟩)
theorem m_result {e : w_E} {N i : Nat} {S R : w_S} {x1 : Int} (h : Inv e N i S R) : Ok (E_C_result e N x1 S) (fun y S1 => Ok (E_R_result e N x1 R) (fun y' R1 => y' = y ∧ Inv e N (i + 1) S1 R1)) := by
  have hA : Ask S R := by
    obtain ⟨_, _, _, _, _, _, z, _⟩ := h
    exact z
  obtain ⟨y, e1, e2⟩ := q_result (e := e) (N := N) (x1 := x1) hA.2.2.2.1
  exact ok_of e1 (ok_of e2 ⟨rfl, h.up⟩)
theorem m_claim {e : w_E} {N i : Nat} {S R : w_S} {x1 : Int} (hN : 16000000 ≤ N) (h : Inv e N i S R) : Ok (E_C_claim e N x1 S) (fun y S1 => Ok (E_R_claim e N x1 R) (fun y' R1 => y' = y ∧ Inv e N (i + 1) S1 R1)) := by
  obtain ⟨t, top, ta, L, E, V, n, hh, a1, a2, a3, a4, a5⟩ := h.hs
  refine (q_claim (by omega) hh.2.2.2.2.1 hh.day.1).mono (fun y S1 k => k.mono (fun y' R1 r => ?_))
  obtain ⟨r1, ⟨g, rfl⟩, rfl⟩ := r
  have hf : frm [82] [] [] S (w_arr S 82 g) := by repeat (first | exact frm.refl _ _ _ _ | refine frm.put ?_ rfl | refine frm.puto ?_ rfl rfl | refine frm.arr ?_ rfl)
  have hg : frm [] [] [] R1 R1 := frm.refl _ _ _ _
  exact ⟨r1, h.q hf hg (by decide) (by decide) (fun _ _ z => z.fr hf hg (by decide)) (fun z => ⟨z.fr hf hg (by decide), Int.le_refl _⟩) (fun z => z.fr hf hg (by decide)) (fun _ _ z => z.fr hf hg (by decide) (by decide) (by decide))⟩
theorem m_print {e : w_E} {N i : Nat} {S R : w_S} {x1 x2 x3 : Int} (hN : 16000000 ≤ N) (h : Inv e N i S R) : Ok (E_C_print e N x1 x2 x3 S) (fun y S1 => Ok (E_R_print e N x1 x2 x3 R) (fun y' R1 => y' = y ∧ Inv e N (i + 1) S1 R1)) := by
  obtain ⟨t, top, ta, L, E, V, n, hh, a1, a2, a3, a4, a5⟩ := h.hs
  have hA : Ask S R := by
    obtain ⟨_, _, _, _, _, _, z, _⟩ := h
    exact z
  refine (q_print hN hh.2.2.1.2.2.2.1 hh.2.2.2.2.2.2.2.2.2.2.2.2.2.1 hh.2.2.2.2.2.2.2.2.2.2.2.2.2.2.1 hh.2.2.2.2.2.2.2.2.2.2.1 hh.2.2.2.2.2.2.2.2.2.2.2.2.2.2.2 hA.2.1 hh.day.1 a2).mono (fun y S1 k => k.mono (fun y' R1 r => ?_))
  obtain ⟨r1, hf, hg, hp⟩ := r
  refine ⟨r1, h.q hf hg (by decide) (by decide) (fun _ _ z => z.fr hf hg (by decide)) (fun z => ⟨z.fr hf hg (by decide), ?_⟩) (fun z => ?_) (fun _ _ z => z.fr hf hg (by decide) (by decide) (by decide))⟩
  · rw [hf.2.2 1 2 rfl rfl]
    exact Int.le_refl _
  · obtain ⟨h1, h2, h3, h4, h5⟩ := z
    exact ⟨h1.fr hf hg (by decide), hp, h3.cg (hf.2.2 106 4 rfl rfl) (hf.2.1 108 rfl rfl) (hf.2.2 3 0 rfl rfl) (hg.2.2 129 51 rfl rfl) (hg.2.1 160 rfl rfl), h4.cg (hf.2.2 106 8 rfl rfl) (hf.2.1 111 rfl rfl) (hg.2.2 129 102 rfl rfl) (hg.2.2 129 51 rfl rfl) (hg.2.1 196 rfl rfl), h5.cg hg.1⟩
theorem m_broke {e : w_E} {N i : Nat} {S R : w_S} {x1 x2 : Int} (hN : 16000000 ≤ N) (h : Inv e N i S R) : Ok (E_C_broke e N x1 x2 S) (fun y S1 => Ok (E_R_broke e N x1 x2 R) (fun y' R1 => y' = y ∧ Inv e N (i + 1) S1 R1)) := by
  obtain ⟨t, top, ta, L, E, V, n, hh, a1, a2, a3, a4, a5⟩ := h.hs
  have hA : Ask S R := by
    obtain ⟨_, _, _, _, _, _, z, _⟩ := h
    exact z
  refine (q_broke hN hh.2.2.1.2.2.2.1 hh.2.2.2.2.2.2.2.2.2.2.2.2.2.1 hh.2.2.2.2.2.2.2.1 hA.2.2.2.2.1 hh.day.1 a2).mono (fun y S1 k => k.mono (fun y' R1 r => ?_))
  obtain ⟨r1, hf, hg⟩ := r
  refine ⟨r1, h.q hf hg (by decide) (by decide) (fun _ _ z => z.fr hf hg (by decide)) (fun z => ⟨z.fr hf hg (by decide), ?_⟩) (fun z => z.fr hf hg (by decide)) (fun _ _ z => z.fr hf hg (by decide) (by decide) (by decide))⟩
  rw [hf.2.1 1 rfl rfl]
  exact Int.le_refl _
theorem m_due {e : w_E} {N i : Nat} {S R : w_S} {x1 : Int} (hN : 16000000 ≤ N) (h : Inv e N i S R) : Ok (E_C_due e N x1 S) (fun y S1 => Ok (E_R_due e N x1 R) (fun y' R1 => y' = y ∧ Inv e N (i + 1) S1 R1)) := by
  obtain ⟨t, top, ta, L, E, V, n, hh, a1, a2, a3, a4, a5⟩ := h.hs
  refine (q_due hN a2 ⟨hh.2.2.1, hh.2.2.2.2.1, hh.2.2.2.2.2.2.1, hh.2.2.2.2.2.2.2.2.2.2.2.2.2.1, hh.2.2.2.2.2.2.2.2.2.2.2.2.2.2.1, hh.2.2.2.2.2.2.2.2.2.2.1, hh.2.2.2.2.2.2.2.2.1, a3⟩).mono (fun y S1 k => k.mono (fun y' R1 r => ?_))
  obtain ⟨r1, hf, hg⟩ := r
  refine ⟨r1, h.q hf hg (by decide) (by decide) (fun _ _ z => z.fr hf hg (by decide)) (fun z => ⟨z.fr hf hg (by decide), ?_⟩) (fun z => z.fr hf hg (by decide)) (fun _ _ z => z.fr hf hg (by decide) (by decide) (by decide))⟩
  rw [hf.2.1 1 rfl rfl]
  exact Int.le_refl _
theorem m_harvest {e : w_E} {N i : Nat} {S R : w_S} {x1 x2 : Int} (hN : 16000000 ≤ N) (h : Inv e N i S R) : Ok (E_C_harvest e N x1 x2 S) (fun y S1 => Ok (E_R_harvest e N x1 x2 R) (fun y' R1 => y' = y ∧ Inv e N (i + 1) S1 R1)) := by
  have hA : Ask S R := by
    obtain ⟨_, _, _, _, _, _, z, _⟩ := h
    exact z
  refine (q_harvest (by omega) hA.1).mono (fun y S1 k => k.mono (fun y' R1 r => ?_))
  obtain ⟨r1, hf, hg, hp⟩ := r
  refine ⟨r1, h.q hf hg (by decide) (by decide) (fun _ _ z => z.fr hf hg (by decide)) (fun z => ⟨z.fr hf hg (by decide), ?_⟩) (fun z => ?_) (fun _ _ z => z.fr hf hg (by decide) (by decide) (by decide))⟩
  · rw [hf.2.1 1 rfl rfl]
    exact Int.le_refl _
  · obtain ⟨h1, h2, h3, h4, h5⟩ := z
    exact ⟨hp, h2.fr hf hg (by decide), h3.cg (hf.2.2 106 4 rfl rfl) (hf.2.1 108 rfl rfl) (hf.2.2 3 0 rfl rfl) (hg.2.2 129 51 rfl rfl) (hg.2.1 160 rfl rfl), h4.cg (hf.2.2 106 8 rfl rfl) (hf.2.1 111 rfl rfl) (hg.2.2 129 102 rfl rfl) (hg.2.2 129 51 rfl rfl) (hg.2.1 196 rfl rfl), h5.cg hg.1⟩
theorem m_next {e : w_E} {N i : Nat} {S R : w_S} {x1 : Int} (hN : 16000000 ≤ N) (h : Inv e N i S R) : Ok (E_C_next e N x1 S) (fun y S1 => Ok (E_R_next e N x1 R) (fun y' R1 => y' = y ∧ Inv e N (i + 1) S1 R1)) := by
  obtain ⟨t, top, ta, L, E, V, n, hh, a1, a2, a3, a4, a5⟩ := h.hs
  have hA : Ask S R := by
    obtain ⟨_, _, _, _, _, _, z, _⟩ := h
    exact z
  refine (q_next (by omega) hA.1 hh.2.2.2.2.2.2.1 hh.2.2.1.2.2.2.1).mono (fun y S1 k => k.mono (fun y' R1 r => ?_))
  obtain ⟨r1, hf, hg, hp⟩ := r
  refine ⟨r1, h.q hf hg (by decide) (by decide) (fun _ _ z => z.fr hf hg (by decide)) (fun z => ⟨z.fr hf hg (by decide), ?_⟩) (fun z => ?_) (fun _ _ z => z.fr hf hg (by decide) (by decide) (by decide))⟩
  · rw [hf.2.1 1 rfl rfl]
    exact Int.le_refl _
  · obtain ⟨h1, h2, h3, h4, h5⟩ := z
    exact ⟨hp, h2.fr hf hg (by decide), h3.cg (hf.2.2 106 4 rfl rfl) (hf.2.1 108 rfl rfl) (hf.2.2 3 0 rfl rfl) (hg.2.2 129 51 rfl rfl) (hg.2.1 160 rfl rfl), h4.cg (hf.2.2 106 8 rfl rfl) (hf.2.1 111 rfl rfl) (hg.2.2 129 102 rfl rfl) (hg.2.2 129 51 rfl rfl) (hg.2.1 196 rfl rfl), h5.cg hg.1⟩
theorem m_value {e : w_E} {N i : Nat} {S R : w_S} {x1 x2 x3 : Int} (hN : 16000000 ≤ N) (h : Inv e N i S R) : Ok (E_C_value e N x1 x2 x3 S) (fun y S1 => Ok (E_R_value e N x1 x2 x3 R) (fun y' R1 => y' = y ∧ Inv e N (i + 1) S1 R1)) := by
  have h0 := h
  obtain ⟨t, sa, Ls, hC, hnum, ⟨htp, h20⟩, hA, ta, L, E, V, n, hh, hva⟩ := h0
  refine (q_value hN hC.2.2.2.1 hh.2.2.2.2.2.2.2.2.2.2.2.2.2.1 hh.2.2.2.2.2.2.2.2.2.2.2.2.2.2.1 hh.2.2.2.2.2.2.2.2.2.2.1 hh.2.2.1.2.2.2.1 hA.2.2.1 hh.day.1 hC.2.2.2.2.1 hva).mono (fun y S1 k => k.mono (fun y' R1 r => ?_))
  obtain ⟨r1, hf, hg, hp⟩ := r
  refine ⟨r1, h.q hf hg (by decide) (by decide) (fun _ _ z => z.fr hf hg (by decide)) (fun z => ⟨z.fr hf hg (by decide), ?_⟩) (fun z => z.fr hf hg (by decide)) (fun t' z0 z => ?_)⟩
  · rw [hf.2.1 1 rfl rfl]
    exact Int.le_refl _
  · have ht : t' = t := by
      have := hC.1
      omega
    subst ht
    have c128 : S1.1 128 = S.1 128 := hf.2.1 128 rfl rfl
    refine ⟨ta, L, E, V, n, ?_, by rw [c128]; exact hp⟩
    rw [c128]
    exact (hh.same (Same.of hf (by decide))).rf (frn.of hg (by decide) hh.ta) (by rw [hg.1]; exact hh.2.2.2.2.2.2.2.2.2.2.2.2.2.1.1.2.2.2.2.1)
theorem m_end {e : w_E} {N i : Nat} {S R : w_S} {x1 : Int} (h : Inv e N i S R) : Ok (E_C_end e N x1 S) (fun y S1 => Ok (E_R_end e N x1 R) (fun y' R1 => y' = y ∧ Inv e N (i + 1) S1 R1)) := by
  have htp : RelTp S R := by
    obtain ⟨_, _, _, _, _, z, _⟩ := h
    exact z.1
  refine (q_end htp).mono (fun y S1 k => k.mono (fun y' R1 r => ?_))
  obtain ⟨r1, hf, hg, tp1, tp2, _⟩ := r
  exact ⟨r1, h.q hf hg (by decide) (by decide) (fun _ _ z => z.fr hf hg (by decide)) (fun _ => ⟨tp1, tp2⟩) (fun z => z.fr hf hg (by decide)) (fun _ _ z => z.fr hf hg (by decide) (by decide) (by decide))⟩
theorem m_deed {e : w_E} {N i : Nat} {S R : w_S} (h : Inv e N i S R) : Ok (E_C_deed e N S) (fun y S1 => Ok (E_R_deed e N R) (fun y' R1 => y' = y ∧ Inv e N (i + 1) S1 R1)) := by
  have hM : RelM S R := by
    obtain ⟨_, _, _, _, z, _⟩ := h
    exact z.1
  unfold E_C_deed E_R_deed
  rw [hM.2.2.2.2.1]
  by_cases c : S.1 0 16 = -1
  · refine ok_t c (ok_s (ok_t c (ok_s ⟨rfl, ?_⟩)))
    have hf : frm [] [0] [(0, 16)] S (w_put S 0 16 (S.1 0 12)) := by repeat (first | exact frm.refl _ _ _ _ | refine frm.put ?_ rfl | refine frm.puto ?_ rfl rfl)
    have hg : frm [] [129] [(129, 11)] R (w_put R 129 11 (R.1 129 7)) := by repeat (first | exact frm.refl _ _ _ _ | refine frm.put ?_ rfl | refine frm.puto ?_ rfl rfl)
    refine h.q hf hg (by decide) (by decide) (fun t ht z => ?_) (fun z => ⟨z.fr hf hg (by decide), ?_⟩) (fun z => z.fr hf hg (by decide)) (fun _ _ z => z.fr hf hg (by decide) (by decide) (by decide))
    · obtain ⟨⟨m1, m2, m3, m4, m5, m6, m7, m8, m9, m10, m11⟩, z1, z2, z3, z4⟩ := z
      unfold Num RelM
      simp only [w_put_r, reduceIte, Nat.reduceEqDiff, pt_at]
      exact ⟨⟨m1, m2, m3, m4, m1, m6, m7, m8, m9, by omega, by omega⟩, z1, z2, z3, Or.inr ⟨by omega, by omega⟩⟩
    · rw [hf.2.1 1 rfl rfl]
      exact Int.le_refl _
  · exact ok_e c (ok_s (ok_e c (ok_s ⟨rfl, h.up⟩)))
theorem m_sync {e : w_E} {N i : Nat} {S R : w_S} (h : Inv e N i S R) : Ok (E_C_sync e N S) (fun y S1 => Ok (E_R_sync e N R) (fun y' R1 => y' = y ∧ Inv e N (i + 1) S1 R1)) := by
  have hM : RelM S R := by
    obtain ⟨_, _, _, _, z, _⟩ := h
    exact z.1
  obtain ⟨m1, m2, m3, m4, m5, m6, m7, m8, m9, m10, m11⟩ := hM
  unfold E_C_sync E_R_sync
  rw [m1, m2, m5]
  by_cases c : S.1 0 16 = -1
  · refine ok_e (fun z => z c) (ok_nb (by omega) (ok_s (ok_e (fun z => z c) (ok_nb (by omega) (ok_s ⟨rfl, ?_⟩)))))
    have hf : frm [] [0] [(0, 13), (0, 14), (0, 15)] S (w_put (w_put (w_put S 0 14 (S.1 0 13)) 0 13 (S.1 0 12)) 0 15 1) := by repeat (first | exact frm.refl _ _ _ _ | refine frm.put ?_ rfl | refine frm.puto ?_ rfl rfl)
    have hg : frm [] [129] [(129, 8), (129, 9), (129, 10)] R (w_put (w_put (w_put R 129 9 (S.1 0 13)) 129 8 (S.1 0 12)) 129 10 1) := by repeat (first | exact frm.refl _ _ _ _ | refine frm.put ?_ rfl | refine frm.puto ?_ rfl rfl)
    refine h.q hf hg (by decide) (by decide) (fun t ht z => ?_) (fun z => ⟨z.fr hf hg (by decide), ?_⟩) (fun z => z.fr hf hg (by decide)) (fun _ _ z => z.fr hf hg (by decide) (by decide) (by decide))
    · obtain ⟨_, z1, z2, z3, z4⟩ := z
      unfold Num RelM
      simp only [w_put_r, reduceIte, Nat.reduceEqDiff, pt_at]
      exact ⟨⟨m1, trivial, trivial, trivial, m5, m6, m7, m6, m7, m10, m11⟩, m8, by omega, by omega, Or.inl c⟩
    · rw [hf.2.1 1 rfl rfl]
      exact Int.le_refl _
  · refine ok_t c (ok_nb (by omega) (ok_s (ok_t c (ok_nb (by omega) (ok_s ⟨rfl, ?_⟩)))))
    have hf : frm [] [0] [(0, 13), (0, 14), (0, 15)] S (w_put (w_put (w_put S 0 14 (S.1 0 13)) 0 13 (S.1 0 16)) 0 15 1) := by repeat (first | exact frm.refl _ _ _ _ | refine frm.put ?_ rfl | refine frm.puto ?_ rfl rfl)
    have hg : frm [] [129] [(129, 8), (129, 9), (129, 10)] R (w_put (w_put (w_put R 129 9 (S.1 0 13)) 129 8 (S.1 0 16)) 129 10 1) := by repeat (first | exact frm.refl _ _ _ _ | refine frm.put ?_ rfl | refine frm.puto ?_ rfl rfl)
    refine h.q hf hg (by decide) (by decide) (fun t ht z => ?_) (fun z => ⟨z.fr hf hg (by decide), ?_⟩) (fun z => z.fr hf hg (by decide)) (fun _ _ z => z.fr hf hg (by decide) (by decide) (by decide))
    · obtain ⟨_, z1, z2, z3, z4⟩ := z
      have z5 : S.1 0 13 ≤ S.1 0 16 ∧ S.1 0 16 ≤ (t : Int) := by
        rcases z4 with z4 | z4
        · exact absurd z4 c
        · exact z4
      unfold Num RelM
      simp only [w_put_r, reduceIte, Nat.reduceEqDiff, pt_at]
      exact ⟨⟨m1, trivial, trivial, trivial, m5, m6, m7, by omega, m11, m10, m11⟩, m8, by omega, by omega, Or.inr ⟨by omega, by omega⟩⟩
    · rw [hf.2.1 1 rfl rfl]
      exact Int.le_refl _
/-- no fund is overspent -/
theorem l_over {e : w_E} {N : Nat} {S : w_S} {t : Int} (hI : InvF S.1 t) (ht2 : t ≤ 512) (ht : 0 ≤ t) : ∀ (k f nf : Nat), 1 ≤ f → (f : Int) + k = S.1 76 7 + 1 → k < nf → El_Buying_overspentFunds e N nf 0 [0, (f : Int)] [] S = some (0, S)
  | _, _, 0, _, _, h => by omega
  | 0, f, nf + 1, g0, g1, g2 => by
    refine ok_eq ?_
    rw [El_Buying_overspentFunds]
    exact ok_t (by omega) (ok_s ⟨rfl, rfl⟩)
  | k + 1, f, nf + 1, g0, g1, g2 => by
    have ih := l_over (e := e) (N := N) hI ht2 ht k (f + 1) nf (by omega) (by omega) (by omega)
    have b := hI.2.1
    have z := hI.2.2.2.2.1 f g0 (by omega)
    refine ok_eq ?_
    rw [El_Buying_overspentFunds, show ((f : Int)).toNat = f by omega]
    refine ok_e (by omega) (ok_ib (by omega) (ok_nb (by omega) (ok_nb (by omega) (ok_t (by omega) (ok_nb (by omega) (ok_nb (by omega) ?_))))))
    rw [show ((f + 1 : Nat) : Int) = (f : Int) + 1 by omega] at ih
    exact ok_of ih ⟨rfl, rfl⟩
theorem l_overR {e : w_E} {N : Nat} {S R : w_S} {t : Int} (hI : InvF S.1 t) (hR : RelF S.1 R.1) (ht2 : t ≤ 512) (ht : 0 ≤ t) : ∀ (k f nf : Nat), 1 ≤ f → (f : Int) + k = S.1 76 7 + 1 → k < nf → El_R_broken e N nf 0 [0, (f : Int)] [] R = some (0, R)
  | _, _, 0, _, _, h => by omega
  | 0, f, nf + 1, g0, g1, g2 => by
    refine ok_eq ?_
    rw [El_R_broken, hR.1]
    exact ok_t (by omega) (ok_s ⟨rfl, rfl⟩)
  | k + 1, f, nf + 1, g0, g1, g2 => by
    have ih := l_overR (e := e) (N := N) hI hR ht2 ht k (f + 1) nf (by omega) (by omega) (by omega)
    have b := hI.2.1
    have z := hI.2.2.2.2.1 f g0 (by omega)
    have r1 := hR.2.2.1 f g0 (by omega)
    have r2 := hR.2.2.2.1 f g0 (by omega)
    have r3 := hR.2.2.2.2.1 f g0 (by omega)
    refine ok_eq ?_
    rw [El_R_broken, show ((f : Int)).toNat = f by omega, hR.1, r1, r2, r3]
    refine ok_e (by omega) (ok_ib (by omega) (ok_nb (by omega) (ok_nb (by omega) (ok_t (by omega) (ok_nb (by omega) (ok_nb (by omega) ?_))))))
    rw [show ((f + 1 : Nat) : Int) = (f : Int) + 1 by omega] at ih
    exact ok_of ih ⟨rfl, rfl⟩
theorem m_broken {e : w_E} {N i : Nat} {S R : w_S} {x1 : Int} (hN : 16000000 ≤ N) (h : Inv e N i S R) : Ok (E_C_broken e N x1 S) (fun y S1 => Ok (E_R_broken e N x1 R) (fun y' R1 => y' = y ∧ Inv e N (i + 1) S1 R1)) := by
  obtain ⟨t, top, ta, L, E, V, n, hh, a1, a2, a3, a4, a5⟩ := h.hs
  refine q_eq h ?_
  have u0 := q_broken0 (e := e) (N := N) (by omega) hh.2.2.1
  obtain ⟨v1, u1, w1⟩ := q_broken1 (e := e) (N := N) (by omega) hh.2.2.1
  have f7 := hh.2.1.1
  have f20 := hh.2.1.2.1
  have u2 : E_Buying_overspentFunds e N S = some (0, S) := l_over hh.2.1 a1 (by omega) (S.1 76 7).toNat 1 N (by omega) (by omega) (by omega)
  have w2 : El_R_broken e N N 0 [0, 1] [] R = some (0, R) := l_overR hh.2.1 hh.1 a1 (by omega) (S.1 76 7).toNat 1 N (by omega) (by omega) (by omega)
  have u3 := q_broken3 (e := e) (N := N) (by omega) hh.2.2.2.2.2.2.2.2.2.2.2.1
  obtain ⟨v4, u4, w4⟩ := q_broken4 (e := e) (N := N) (by omega) hh.2.2.1
  unfold E_C_broken E_R_broken
  simp only [e_sw_cons, e_sw_nil]
  rw [u0.1, u0.2, u1, w1, u2, w2, u3.1, u3.2, u4, w4]
  clear u0 u1 w1 u2 w2 u3 u4 w4 hh h f7 f20
  repeat' (first | with_reducible refine ok_nb (by omega) ?_ | with_reducible refine ok_ib (by omega) ?_ | with_reducible refine ok_t (by omega) ?_ | with_reducible refine ok_e (by omega) ?_ | with_reducible refine ok_if (fun h => ?_) (fun h => ?_) | with_reducible refine ok_s ?_ | with_reducible refine ok_b ?_)
  all_goals first | exact ⟨rfl, rfl, rfl⟩ | (exfalso; omega)
/-- what feed does to the class's tape -/
def Fb (f : Int) (S S1 : w_S) : Prop := S1.1 1 1 = S.1 1 1 ∧ S.1 1 2 ≤ S1.1 1 2 ∧ (∀ p : Nat, (p : Int) < f → S1.1 2 p = S.1 2 p) ∧ ((∀ p, -128 ≤ S.1 2 p ∧ S.1 2 p ≤ 127) → ∀ p, -128 ≤ S1.1 2 p ∧ S1.1 2 p ≤ 127)
theorem Fb.trans {f : Int} {S S1 S2 : w_S} (h : Fb f S S1) (k : Fb f S1 S2) : Fb f S S2 := ⟨k.1.trans h.1, by have := h.2.1; have := k.2.1; omega, fun p hp => (k.2.2.1 p hp).trans (h.2.2.1 p hp), fun z => k.2.2.2 (h.2.2.2 z)⟩
theorem l_putb {e : w_E} {N : Nat} {x1 f : Int} : ∀ (n : Nat) (x2 : Int) (S : w_S) (v : Int) (S1 : w_S), El_Tape_put e N n 0 [x1, x2] [] S = some (v, S1) → S.1 1 1 = f → 0 ≤ f → 0 ≤ S.1 1 2 → Fb f S S1
  | 0, _, _, _, _, h, _, _, _ => by cases h
  | n + 1, x2, S, v, S1, h, g1, g2, g3 => by
    rw [El_Tape_put] at h
    split at h
    · obtain ⟨_, rfl⟩ := Prod.mk.inj (Option.some.inj h)
      exact ⟨rfl, Int.le_refl _, fun _ _ => rfl, fun z => z⟩
    · repeat' split at h
      all_goals first | (cases h; done) | skip
      have ih := l_putb n (x2 + (-8)) _ v S1 h (by simp only [w_put_r, reduceIte, Nat.reduceEqDiff, pt_at]; exact g1) g2 (by simp only [w_put_r, reduceIte, Nat.reduceEqDiff, pt_at]; omega)
      refine Fb.trans ⟨by simp only [w_put_r, reduceIte, Nat.reduceEqDiff, pt_at], by simp only [w_put_r, reduceIte, Nat.reduceEqDiff, pt_at]; omega, fun p hp => ?_, fun z p => ?_⟩ ih
      · simp only [w_put_r, reduceIte, Nat.reduceEqDiff]
        rw [pt_at, if_neg (by omega)]
      · simp only [w_put_r, reduceIte, Nat.reduceEqDiff]
        rw [pt_at]
        split
        · unfold w_b
          omega
        · exact z p
theorem bind_inv {r : e_R} {f : Int × w_S → e_R} {x : Int × w_S} (h : r.bind f = some x) : ∃ v S, r = some (v, S) ∧ f (v, S) = some x := by
  cases r with
  | none => cases h
  | some q => exact ⟨q.1, q.2, rfl, h⟩
theorem feedb {e : w_E} {N : Nat} {x1 x2 x3 x4 x5 f y : Int} {S S1 : w_S} (h : E_C_feed e N x1 x2 x3 x4 x5 S = some (y, S1)) (g1 : S.1 1 1 = f) (g2 : 0 ≤ f) (g3 : 0 ≤ S.1 1 2) : Fb f S S1 := by
  have st : Fb f S S := ⟨rfl, Int.le_refl _, fun _ _ => rfl, fun z => z⟩
  unfold E_C_feed at h
  split at h
  · split at h
    · obtain ⟨_, rfl⟩ := Prod.mk.inj (Option.some.inj h)
      exact st
    · split at h
      · split at h
        · split at h
          · obtain ⟨_, rfl⟩ := Prod.mk.inj (Option.some.inj h)
            exact st
          · obtain ⟨v1, T1, e1, h⟩ := bind_inv h
            obtain ⟨v2, T2, e2, h⟩ := bind_inv h
            obtain ⟨v3, T3, e3, h⟩ := bind_inv h
            obtain ⟨v4, T4, e4, h⟩ := bind_inv h
            obtain ⟨v5, T5, e5, h⟩ := bind_inv h
            obtain ⟨_, rfl⟩ := Prod.mk.inj (Option.some.inj h)
            have b1 : Fb f S T1 := l_putb N 24 S v1 T1 e1 g1 g2 g3
            have b2 : Fb f T1 T2 := l_putb N 24 T1 v2 T2 e2 (b1.1.trans g1) g2 (by have := b1.2.1; omega)
            have c2 := b1.trans b2
            have b3 : Fb f T2 T3 := l_putb N 24 T2 v3 T3 e3 (c2.1.trans g1) g2 (by have := c2.2.1; omega)
            have c3 := c2.trans b3
            have b4 : Fb f T3 T4 := l_putb N 24 T3 v4 T4 e4 (c3.1.trans g1) g2 (by have := c3.2.1; omega)
            have c4 := c3.trans b4
            have b5 : Fb f T4 T5 := l_putb N 24 T4 v5 T5 e5 (c4.1.trans g1) g2 (by have := c4.2.1; omega)
            exact c4.trans b5
        · cases h
      · cases h
  · cases h
theorem RelVa.tape {S R : w_S} {t' : Nat → Int} {top : Int} {ta E V : Nat} (h : RelVa S R top ta E V) (ht : ∀ p : Nat, (p : Int) < top → t' p = S.1 2 p) : RelVa (w_arr S 2 t') R top ta E V := by
  rcases h with h | ⟨h1, Ds, f, c, m, h2, h3, h4⟩
  · exact Or.inl h
  · refine Or.inr ⟨h1, Ds, f, c, m, h2, fun k k1 k2 => ?_, h4⟩
    obtain ⟨v, D, a1, a2, a3, ⟨b1, b2, b3, b4, b5, b6, b7⟩, a5⟩ := h3 k k1 k2
    refine ⟨v, D, a1, a2, a3, ⟨b1, b2, b3, b4, b5, fun F hF => ?_, b7⟩, a5⟩
    obtain ⟨c1, c2, c3, c4, c5⟩ := b6 F hF
    exact ⟨c1, c2, c3, c4, fun j hj => ⟨(c5 j hj).1, (c5 j hj).2.tape ht⟩⟩
theorem m_feed {e : w_E} {N i : Nat} {S R : w_S} {x1 x2 x3 x4 x5 : Int} (hN : 16000000 ≤ N) (hi : i < 512) (h : Inv e N i S R) : Ok (E_C_feed e N x1 x2 x3 x4 x5 S) (fun y S1 => Ok (E_R_feed e N x1 x2 x3 x4 x5 R) (fun y' R1 => y' = y ∧ Inv e N (i + 1) S1 R1)) := by
  obtain ⟨t, sa, Ls, hC, hnum, ⟨htp, h20⟩, hask, ta, L, E, V, n, hh, hva⟩ := h
  obtain ⟨y, S1, e1, k⟩ := q_feed (e := e) (N := N) (x1 := x1) (x2 := x2) (x3 := x3) (x4 := x4) (x5 := x5) (by omega) htp (by omega)
  have fb := feedb e1 hC.2.2.1 (by rw [← hC.2.2.1]; exact htp.2.2.2.1) htp.2.1
  refine ok_of e1 (k.mono (fun y' R1 r => ?_))
  obtain ⟨r1, hf, hg, tp1, tp2, tp3⟩ := r
  have c128 : S1.1 128 = S.1 128 := hf.2.1 128 rfl rfl
  have smS : Same (kp (S.1 128) t) S S1 := Same.fm (hf.weak (by decide)) fb.2.2.1
  have fn : frn R R1 := frn.of hg (by decide) hh.ta
  have nx : R1.2.2.2.1 ≤ 899000 := by rw [hg.1]; exact hh.2.2.2.2.2.2.2.2.2.2.2.2.2.1.1.2.2.2.2.1
  refine ⟨r1, t, sa, Ls, hC.q (hf.weak (by decide)) fb.2.2.1 (fb.2.2.2 hC.2.2.2.2.1) (hg.weak (by decide)), hnum.fr hf hg (by decide), ⟨tp1, by omega⟩, hask.fr hf hg (by decide), ta, L, E, V, n, ?_, ?_⟩
  · rw [c128]
    exact (hh.same smS).rf fn nx
  · rw [c128]
    refine (hva.tape (t' := S1.1 2) fb.2.2.1).cg (fun a ha => ?_) ?_ (fun a ha => ?_) (hg.2.2 129 12 rfl rfl) (hg.2.2 129 58 rfl rfl) (hg.2.2 129 59 rfl rfl) (hg.2.2 129 60 rfl rfl) (fun v d F => nmo_fr hg (by decide) v d F)
    · rw [w_arr_r]
      rcases (show a = 2 ∨ a = 4 ∨ a = 5 ∨ a = 8 ∨ a = 9 ∨ a = 10 ∨ a = 11 ∨ a = 12 ∨ a = 13 ∨ a = 14 ∨ a = 15 ∨ a = 16 ∨ a = 108 by omega) with rfl | rfl | rfl | rfl | rfl | rfl | rfl | rfl | rfl | rfl | rfl | rfl | rfl
      · rw [if_pos rfl]
      all_goals exact hf.2.1 _ rfl rfl
    · rw [w_arr_r]
      exact hf.2.2 106 4 rfl rfl
    · have hta : R.2.1 2 = ta := hh.2.2.2.2.2.2.2.2.2.2.2.2.2.1.1.1
      rcases ha with ha | ha | ha
      · rcases (show a = 136 ∨ a = 137 ∨ a = 138 ∨ a = 139 ∨ a = 140 ∨ a = 141 ∨ a = 142 ∨ a = 143 ∨ a = 144 ∨ a = 145 ∨ a = 146 ∨ a = 147 ∨ a = 148 ∨ a = 149 by omega) with rfl | rfl | rfl | rfl | rfl | rfl | rfl | rfl | rfl | rfl | rfl | rfl | rfl | rfl
        all_goals exact hg.2.1 _ rfl rfl
      · rw [ha, ← hta]
        exact fn.2.2.2.1
      · rcases (show a = 163 ∨ a = 164 ∨ a = 165 by omega) with rfl | rfl | rfl
        all_goals exact hg.2.1 _ rfl rfl
end
section
-- hb
theorem Rch.dn {e : w_E} {N : Nat} {j T : Nat → Int} {k : Nat} : ∀ {t : Nat} {C : w_S}, Rch e N j T t C → k ≤ t → ∃ C', Rch e N j T k C'
  | 0, C, h, hk => ⟨C, by rw [show k = 0 by omega]; exact h⟩
  | t + 1, C, h, hk => by
    by_cases c : k = t + 1
    · exact ⟨C, by rw [c]; exact h⟩
    · obtain ⟨D, D', y, D2, h1, _⟩ := h
      exact Rch.dn h1 (by omega)
/-- rows filled with 0, one after another -/
theorem l_fill {e : w_E} {N n : Nat} {S0 : w_S} (hn : n ≤ 5) : ∀ (k j nf : Nat) (S : w_S), j + k = n → k < nf → El_Arrays_fill_v2 e N nf 0 [0, (j : Int), (n : Int)] [35] S = some (0, w_arr S 35 (fun u => if j ≤ u ∧ u < n then 0 else S.1 35 u))
  | _, _, 0, _, _, h => by omega
  | 0, j, nf + 1, S, g1, g2 => by
    refine ok_eq ?_
    rw [El_Arrays_fill_v2]
    refine ok_t (by omega) (ok_s ⟨rfl, ?_⟩)
    refine w_ext (fun b u => ?_) rfl
    rw [w_arr_r]
    by_cases c : b = 35
    · rw [if_pos c, if_neg (by omega), c]
    · rw [if_neg c]
  | k + 1, j, nf + 1, S, g1, g2 => by
    have ih := l_fill (e := e) (N := N) (n := n) (S0 := S0) hn k (j + 1) nf (w_put S 35 j 0) (by omega) (by omega)
    have fr : w_frb Tc B_Arrays_fill_35 35 = false := by decide +kernel
    have ln : ∀ T : w_S, e_len Tc T 35 0 = some 5 := fun _ => rfl
    refine ok_eq ?_
    rw [El_Arrays_fill_v2, show ((j : Int)).toNat = j by omega]
    refine ok_e (by omega) (ok_t fr (ok_len (ln S) ?_))
    with_reducible refine ok_t (by omega) (ok_t (by omega) (ok_nb (by omega) ?_))
    rw [show ((j + 1 : Nat) : Int) = (j : Int) + 1 by omega] at ih
    refine ok_of ih ⟨rfl, ?_⟩
    refine w_ext (fun b u => ?_) rfl
    rw [w_arr_r, w_arr_r]
    by_cases c : b = 35
    · subst c
      rw [if_pos rfl, if_pos rfl]
      simp only [w_put_r, reduceIte, Nat.reduceEqDiff, pt_at]
      by_cases c2 : u = j
      · rw [if_neg (by omega), if_pos c2, if_pos (by omega)]
      · rw [if_neg c2]
        by_cases c3 : j ≤ u ∧ u < n
        · rw [if_pos c3, if_pos (by omega)]
        · rw [if_neg c3, if_neg (by omega)]
    · rw [if_neg c, if_neg c, w_put_f c]
theorem l_srs {e : w_E} {N : Nat} : ∀ (k s nf : Nat) (S : w_S), s + k = 6 → k < nf → Ok (El_Stores_restart e N nf 0 [(s : Int)] [] S) (fun _ S1 => frm [91] [] [] S S1 ∧ (∀ u, s ≤ u → u < 6 → S1.1 91 u = 0) ∧ ∀ u, u < s → S1.1 91 u = S.1 91 u)
  | _, _, 0, _, _, h => by omega
  | 0, s, nf + 1, S, g1, g2 => by
    rw [El_Stores_restart]
    exact ok_t (by omega) (ok_s ⟨frm.refl _ _ _ _, fun u u1 u2 => by omega, fun _ _ => rfl⟩)
  | k + 1, s, nf + 1, S, g1, g2 => by
    rw [El_Stores_restart, show ((s : Int)).toNat = s by omega]
    refine ok_e (by omega) (ok_ib (by omega) (ok_nb (by omega) ?_))
    have ih := l_srs (e := e) (N := N) k (s + 1) nf (w_put S 91 s 0) (by omega) (by omega)
    rw [show ((s + 1 : Nat) : Int) = (s : Int) + 1 by omega] at ih
    refine ih.mono (fun _ S1 ⟨q1, q2, q3⟩ => ⟨frm.trans (by repeat (first | exact frm.refl _ _ _ _ | refine frm.put ?_ rfl | refine frm.puto ?_ rfl rfl)) q1, fun u u1 u2 => ?_, fun u hu => ?_⟩)
    · by_cases c : u = s
      · rw [q3 u (by omega), w_put_r, if_pos rfl, pt_at, if_pos c]
      · exact q2 u (by omega) u2
    · rw [q3 u (by omega), w_put_r, if_pos rfl, pt_at, if_neg (by omega)]
theorem l_drs {e : w_E} {N : Nat} : ∀ (k s nf : Nat) (S : w_S), s + k = 11 → k < nf → Ok (El_Desk_restart e N nf 0 [(s : Int)] [] S) (fun _ S1 => frm [115] [] [] S S1 ∧ (∀ u, s ≤ u → u < 11 → S1.1 115 u = 0) ∧ ∀ u, u < s → S1.1 115 u = S.1 115 u)
  | _, _, 0, _, _, h => by omega
  | 0, s, nf + 1, S, g1, g2 => by
    rw [El_Desk_restart]
    exact ok_t (by omega) (ok_s ⟨frm.refl _ _ _ _, fun u u1 u2 => by omega, fun _ _ => rfl⟩)
  | k + 1, s, nf + 1, S, g1, g2 => by
    rw [El_Desk_restart, show ((s : Int)).toNat = s by omega]
    refine ok_e (by omega) (ok_ib (by omega) (ok_nb (by omega) ?_))
    have ih := l_drs (e := e) (N := N) k (s + 1) nf (w_put S 115 s 0) (by omega) (by omega)
    rw [show ((s + 1 : Nat) : Int) = (s : Int) + 1 by omega] at ih
    refine ih.mono (fun _ S1 ⟨q1, q2, q3⟩ => ⟨frm.trans (by repeat (first | exact frm.refl _ _ _ _ | refine frm.put ?_ rfl | refine frm.puto ?_ rfl rfl)) q1, fun u u1 u2 => ?_, fun u hu => ?_⟩)
    · by_cases c : u = s
      · rw [q3 u (by omega), w_put_r, if_pos rfl, pt_at, if_pos c]
      · exact q2 u (by omega) u2
    · rw [q3 u (by omega), w_put_r, if_pos rfl, pt_at, if_neg (by omega)]
/-- what a rewind leaves in the class -/
def Rwd2 (e : w_E) (N : Nat) (j T : Nat → Int) (k : Nat) (S S1 : w_S) : Prop := Rch e N j T k S1 ∧ S1.1 128 = j ∧ S1.1 2 = T ∧ S1.1 1 1 = kp j k ∧ S1.1 1 2 = S.1 1 2 ∧ S1.1 0 12 = (k : Int) ∧ S1.1 106 2 = 0 ∧ S1.1 106 4 = 0 ∧ S1.1 106 8 = 0 ∧ (∀ s : Nat, 1 ≤ s → s ≤ 10 → S1.1 115 s = 0) ∧ ∀ x, x = 13 ∨ x = 14 ∨ x = 15 ∨ x = 16 → S1.1 0 x = S.1 0 x
theorem l_rew {e : w_E} {N t left : Nat} {j T : Nat → Int} {R : w_S} (hN : 16000000 ≤ N) (hl : left ≤ t) (ht : t ≤ 512) (hE : ∀ k, k < t → Eok j k) (hG : ∀ k, k < t → Gh e N j T R k) (hb : ∀ p, -128 ≤ T p ∧ T p ≤ 127) : ∀ (m k nf : Nat) (S : w_S), k + m = left → m < nf → Rch e N j T k S → S.1 128 = j → S.1 2 = T → S.1 1 1 = kp j k → Ok (El_C_rewind e N nf 0 [(left : Int), (k : Int)] [] S) (fun _ S1 => Rwd2 e N j T left S S1)
  | _, _, 0, _, _, h, _, _, _, _ => by omega
  | 0, k, nf + 1, S, g1, g2, g3, g4, g5, g6 => by
    have : k = left := by omega
    subst this
    rw [El_C_rewind]
    refine ok_t (by omega) (ok_b ?_)
    unfold E_Desk_restart
    refine (l_drs (e := e) (N := N) 10 1 N (w_put (w_put (w_put (w_put S 0 12 (k : Int)) 106 2 0) 106 4 0) 106 8 0) (by omega) (by omega)).mono (fun _ S1 ⟨q1, q2, q3⟩ => ok_s ?_)
    have f1 : frm [115] [0, 106] [(0, 12), (106, 2), (106, 4), (106, 8)] S S1 := frm.trans (by repeat (first | exact frm.refl _ _ _ _ | refine frm.put ?_ rfl | refine frm.puto ?_ rfl rfl)) (q1.weak (by decide))
    refine ⟨g3.same (Same.of f1 (by decide)), by rw [f1.2.1 128 rfl rfl]; exact g4, by rw [f1.2.1 2 rfl rfl]; exact g5, by rw [f1.2.2 1 1 rfl rfl]; exact g6, f1.2.2 1 2 rfl rfl, ?_, ?_, ?_, ?_, fun s s1 s2 => q2 s s1 (by omega), fun x hx => f1.2.2 0 x rfl ?_⟩
    · rw [q1.2.1 0 rfl rfl]
      simp only [w_put_r, reduceIte, Nat.reduceEqDiff, pt_at]
    · rw [q1.2.1 106 rfl rfl]
      simp only [w_put_r, reduceIte, Nat.reduceEqDiff, pt_at]
    · rw [q1.2.1 106 rfl rfl]
      simp only [w_put_r, reduceIte, Nat.reduceEqDiff, pt_at]
    · rw [q1.2.1 106 rfl rfl]
      simp only [w_put_r, reduceIte, Nat.reduceEqDiff, pt_at]
    · rcases hx with rfl | rfl | rfl | rfl <;> rfl
  | m + 1, k, nf + 1, S, g1, g2, g3, g4, g5, g6 => by
    have E1 := hE k (by omega)
    obtain ⟨X, X1, y', x1, x2, x3, x4, _, _⟩ := hG k (by omega)
    have kk : kp j (k + 1) = kp j k + j (6 * k + 5) := rfl
    obtain ⟨e1, e2, e3, e4, e5, e6, e7, e8⟩ := E1
    have oF := opx_f S (kp j k) (j (6 * k + 5))
    have o2 : (opx S (kp j k) (j (6 * k + 5))).1 2 = T := by rw [oF.2.1 2 rfl rfl]; exact g5
    obtain ⟨ta, L, E, V, n, hH, y, S1, eC, y2, R1, eR, hP⟩ := r_tan (C := S) (C' := opx S (kp j k) (j (6 * k + 5))) hN ⟨e1, e2, e3, e4, e5, e6, e7, e8⟩ x1 x2 g3 (Same.of oF (by decide)) (opx_o S _ _) (fun p _ => by rw [o2]) (fun p => by rw [o2]; exact hb p)
    rw [x3] at eR
    obtain ⟨rfl, rfl⟩ := Prod.mk.inj (Option.some.inj eR)
    have hy : 0 ≤ y := by
      rcases hP.2.1.2.2.2 with ⟨_, z, _⟩ | ⟨z, _⟩
      · omega
      · exact z
    have oC := hP.2.1.1
    have s11 : S1.1 1 1 = kp j k := by rw [oC.2 1 1 rfl, oF.2.2 1 1 rfl rfl]; exact g6
    have s28 : S1.1 128 = j := by rw [oC.1 128 rfl, oF.2.1 128 rfl rfl]; exact g4
    have o28 : (opx S (kp j k) (j (6 * k + 5))).1 128 = j := by rw [oF.2.1 128 rfl rfl]; exact g4
    have s2 : S1.1 2 = T := by rw [oC.1 2 rfl]; exact o2
    have fz : frm [] [1] [(1, 1)] S1 (w_put S1 1 1 (kp j k + j (6 * k + 5))) := by repeat (first | exact frm.refl _ _ _ _ | refine frm.put ?_ rfl | refine frm.puto ?_ rfl rfl)
    have hR : Rch e N j T (k + 1) (w_put S1 1 1 (kp j k + j (6 * k + 5))) := ⟨S, opx S (kp j k) (j (6 * k + 5)), y, S1, g3, Same.of oF (by decide), opx_o S _ _, fun p _ => by rw [o2], fun p => by rw [o2]; exact hb p, eC, hy, Same.of fz (by decide)⟩
    have ih := l_rew (e := e) (N := N) (left := left) (R := R) hN hl ht hE hG hb m (k + 1) nf (w_put S1 1 1 (kp j k + j (6 * k + 5))) (by omega) (by omega) hR (by rw [fz.2.1 128 rfl rfl]; exact s28) (by rw [fz.2.1 2 rfl rfl]; exact s2) (by simp only [w_put_r, reduceIte, Nat.reduceEqDiff, pt_at]; rfl)
    have eO : E_Tape_openText e N (S.1 1 1) (j (6 * k + 5)) S = some (0, opx S (kp j k) (j (6 * k + 5))) := by
      unfold E_Tape_openText opx
      rw [if_pos (by rw [w_nbE]; omega), g6]
    rw [El_C_rewind, g4, show ((k : Int) * 6 + 5).toNat = 6 * k + 5 by omega]
    refine ok_e (by omega) (ok_nb (by omega) (ok_nb (by omega) (ok_ib (by omega) (ok_b (ok_of eO ?_)))))
    dsimp only
    rw [o28, show ((k : Int) * 6).toNat = 6 * k by omega, show ((k : Int) * 6 + 1).toNat = 6 * k + 1 by omega, show ((k : Int) * 6 + 2).toNat = 6 * k + 2 by omega, show ((k : Int) * 6 + 3).toNat = 6 * k + 3 by omega, show ((k : Int) * 6 + 4).toNat = 6 * k + 4 by omega]
    refine ok_ib (by omega) (ok_nb (by omega) (ok_ib (by omega) (ok_nb (by omega) (ok_ib (by omega) (ok_nb (by omega) (ok_ib (by omega) (ok_nb (by omega) (ok_ib (by omega) (ok_b (ok_of eC ?_))))))))))
    dsimp only
    rw [s11]
    refine ok_nb (by omega) (ok_nb (by omega) ?_)
    rw [show ((k + 1 : Nat) : Int) = (k : Int) + 1 by omega] at ih
    refine ih.mono (fun _ S3 ⟨r1, r2, r3, r4, r5, r6, r7, r8, r9, r10, r11⟩ => ⟨r1, r2, r3, r4, ?_, r6, r7, r8, r9, r10, fun x hx => ?_⟩)
    · rw [r5, fz.2.2 1 2 rfl rfl, oC.2 1 2 rfl, oF.2.2 1 2 rfl rfl]
    · rw [r11 x hx]
      rcases hx with rfl | rfl | rfl | rfl
      all_goals rw [fz.2.2 0 _ rfl rfl, oC.2 0 _ rfl, oF.2.2 0 _ rfl rfl]
/-- the class rewinds -/
theorem x_rewind {e : w_E} {N t left : Nat} {R S : w_S} (hN : 16000000 ≤ N) (hl : left ≤ t) (ht : t ≤ 512) (hE : ∀ k, k < t → Eok (S.1 128) k) (hG : ∀ k, k < t → Gh e N (S.1 128) (S.1 2) R k) (hb : ∀ p, -128 ≤ S.1 2 p ∧ S.1 2 p ≤ 127) : Ok (E_C_rewind e N (left : Int) S) (fun _ S1 => Rch e N (S.1 128) (S.1 2) left S1 ∧ S1.1 128 = S.1 128 ∧ S1.1 2 = S.1 2 ∧ S1.1 1 1 = kp (S.1 128) left ∧ S1.1 1 2 = 0 ∧ S1.1 0 12 = (left : Int) ∧ S1.1 106 2 = 0 ∧ S1.1 106 4 = 0 ∧ S1.1 106 8 = 0 ∧ (∀ s : Nat, 1 ≤ s → s ≤ 10 → S1.1 115 s = 0) ∧ ∀ x, x = 13 ∨ x = 14 ∨ x = 15 ∨ x = 16 → S1.1 0 x = S.1 0 x) := by
  unfold E_C_rewind
  generalize hS0 : w_put (w_put (w_put (w_put (w_put (w_put (w_put (w_put (w_put (w_put S 1 1 0) 1 2 0) 3 0 0) 3 5 0) 17 0 0) 17 3 0) 17 7 0) 27 1 0) 27 2 0) 27 4 0 = S0
  have f0 : frm [] [1, 3, 17, 27] [(1, 1), (1, 2), (3, 0), (3, 5), (17, 0), (17, 3), (17, 7), (27, 1), (27, 2), (27, 4)] S S0 := by
    rw [← hS0]
    repeat (first | exact frm.refl _ _ _ _ | refine frm.put ?_ rfl | refine frm.puto ?_ rfl rfl)
  have lf := l_fill (e := e) (N := N) (n := 5) (S0 := S0) (by omega) 5 0 N S0 (by omega) (by omega)
  have eF : E_Arrays_fill_v2 e N 0 35 S0 = some (0, w_arr S0 35 (fun u => if 0 ≤ u ∧ u < 5 then 0 else S0.1 35 u)) := by
    unfold E_Arrays_fill_v2
    show (if 5 < 2147483648 then El_Arrays_fill_v2 e N N 0 [0, 0, ((5 : Nat) : Int)] [35] S0 else none) = _
    rw [if_pos (by decide)]
    exact lf
  refine ok_b (ok_of eF ?_)
  dsimp only
  generalize hS1 : w_arr S0 35 (fun u => if 0 ≤ u ∧ u < 5 then 0 else S0.1 35 u) = S1
  have f1 : frm [35] [] [] S0 S1 := by
    rw [← hS1]
    repeat (first | exact frm.refl _ _ _ _ | refine frm.put ?_ rfl | refine frm.puto ?_ rfl rfl | refine frm.arr ?_ rfl)
  have z35 : ∀ u, u < 5 → S1.1 35 u = 0 := fun u hu => by
    rw [← hS1, w_arr_r, if_pos rfl, if_pos (by omega)]
  generalize hS2 : w_put (w_put (w_put (w_put (w_put (w_put (w_put (w_put S1 46 0 0) 46 4 0) 46 12 0) 62 3 0) 62 14 0) 76 0 0) 76 7 0) 76 11 0 = S2
  have f2 : frm [] [46, 62, 76] [(46, 0), (46, 4), (46, 12), (62, 3), (62, 14), (76, 0), (76, 7), (76, 11)] S1 S2 := by
    rw [← hS2]
    repeat (first | exact frm.refl _ _ _ _ | refine frm.put ?_ rfl | refine frm.puto ?_ rfl rfl)
  unfold E_Stores_restart
  refine ok_b ((l_srs (e := e) (N := N) 6 0 N (w_put S2 89 0 0) (by omega) (by omega)).mono (fun _ S3 ⟨q1, q2, _⟩ => ?_))
  dsimp only
  have f3 : frm [91] [89] [(89, 0)] S2 S3 := frm.trans (by repeat (first | exact frm.refl _ _ _ _ | refine frm.put ?_ rfl | refine frm.puto ?_ rfl rfl)) (q1.weak (by decide))
  generalize hS4 : w_put (w_put S3 0 17 0) 0 18 0 = S4
  have f4 : frm [] [0] [(0, 17), (0, 18)] S3 S4 := by
    rw [← hS4]
    repeat (first | exact frm.refl _ _ _ _ | refine frm.put ?_ rfl | refine frm.puto ?_ rfl rfl)
  have k0 : ∀ a b, S0.1 a b = S0.1 a b := fun _ _ => rfl
  have cl : Clean S4 := by
    have a3 : ∀ a, a = 3 ∨ a = 17 ∨ a = 27 → S4.1 a = S0.1 a := fun a ha => by
      rcases ha with rfl | rfl | rfl
      all_goals rw [f4.2.1 _ rfl rfl, f3.2.1 _ rfl rfl, f2.2.1 _ rfl rfl, f1.2.1 _ rfl rfl]
    have a35 : S4.1 35 = S1.1 35 := by rw [f4.2.1 _ rfl rfl, f3.2.1 _ rfl rfl, f2.2.1 _ rfl rfl]
    have a4 : ∀ a, a = 46 ∨ a = 62 ∨ a = 76 → S4.1 a = S2.1 a := fun a ha => by
      rcases ha with rfl | rfl | rfl
      all_goals rw [f4.2.1 _ rfl rfl, f3.2.1 _ rfl rfl]
    have a89 : S4.1 89 0 = 0 := by
      rw [f4.2.1 _ rfl rfl, q1.2.1 89 rfl rfl]
      simp only [w_put_r, reduceIte, Nat.reduceEqDiff, pt_at]
    have a91 : ∀ s : Nat, s < 6 → S4.1 91 s = 0 := fun s hs => by
      rw [f4.2.1 _ rfl rfl]
      exact q2 s (by omega) hs
    unfold Clean
    rw [a3 3 (by omega), a3 17 (by omega), a3 27 (by omega), a35, a4 46 (by omega), a4 62 (by omega), a4 76 (by omega), z35 0 (by omega), z35 1 (by omega), z35 2 (by omega), z35 3 (by omega), a89, ← hS0, ← hS2, ← hS4]
    simp only [w_put_r, reduceIte, Nat.reduceEqDiff, pt_at]
    refine ⟨trivial, trivial, trivial, trivial, trivial, trivial, trivial, trivial, trivial, trivial, trivial, trivial, trivial, trivial, trivial, trivial, trivial, trivial, trivial, trivial, trivial, trivial, fun s hs => ?_⟩
    have := a91 s hs
    rw [← hS4] at this
    simp only [w_put_r, reduceIte, Nat.reduceEqDiff, pt_at] at this
    exact this
  have r128 : S4.1 128 = S.1 128 := by rw [f4.2.1 _ rfl rfl, f3.2.1 _ rfl rfl, f2.2.1 _ rfl rfl, f1.2.1 _ rfl rfl, f0.2.1 _ rfl rfl]
  have r2 : S4.1 2 = S.1 2 := by rw [f4.2.1 _ rfl rfl, f3.2.1 _ rfl rfl, f2.2.1 _ rfl rfl, f1.2.1 _ rfl rfl, f0.2.1 _ rfl rfl]
  have r11 : ∀ x, x = 1 ∨ x = 2 → S4.1 1 x = 0 := fun x hx => by
    rw [f4.2.1 1 rfl rfl, f3.2.1 1 rfl rfl, f2.2.1 1 rfl rfl, f1.2.1 1 rfl rfl, ← hS0]
    rcases hx with rfl | rfl <;> simp only [w_put_r, reduceIte, Nat.reduceEqDiff, pt_at]
  have r0 : ∀ x, x = 13 ∨ x = 14 ∨ x = 15 ∨ x = 16 → S4.1 0 x = S.1 0 x := fun x hx => by
    rw [f4.2.2 0 x rfl (by rcases hx with rfl | rfl | rfl | rfl <;> rfl), f3.2.1 0 rfl rfl, f2.2.1 0 rfl rfl, f1.2.1 0 rfl rfl, f0.2.1 0 rfl rfl]
  refine (l_rew (e := e) (N := N) (j := S.1 128) (T := S.1 2) (R := R) hN hl ht hE hG hb left 0 N S4 (by omega) (by omega) cl r128 r2 (r11 1 (by omega))).mono (fun _ S5 ⟨s1, s2, s3, s4, s5, s6, s7, s8, s9, s10, s11⟩ => ?_)
  exact ⟨s1, s2, s3, s4, by rw [s5]; exact r11 2 (by omega), s6, s7, s8, s9, s10, fun x hx => by rw [s11 x hx, r0 x hx]⟩
end
section
-- hc
/-- an empty house, in the reference -/
def Fg (Z : w_S) : Prop := Z.1 129 12 = 0 ∧ Z.1 129 13 = 0 ∧ Z.1 129 17 = 0 ∧ Z.1 129 23 = 0 ∧ Z.1 129 24 = 0 ∧ Z.1 129 26 = 0 ∧ Z.1 129 31 = 0 ∧ Z.1 129 65 = 0 ∧ Z.1 129 68 = 0 ∧ Z.1 129 114 = 0 ∧ Z.1 129 122 = 0 ∧ Z.1 129 125 = 0 ∧ Z.1 129 127 = 0 ∧ Z.1 129 131 = 0 ∧ Z.1 129 140 = 0 ∧ Z.1 129 144 = 0 ∧ Z.1 129 148 = 0 ∧ Z.1 129 83 = 0 ∧ Z.1 129 87 = 0 ∧ Z.1 129 93 = 0 ∧ Z.1 129 96 = 0 ∧ Z.1 129 104 = 0 ∧ Z.1 129 111 = 0 ∧ ∀ s : Nat, s < 6 → Z.1 229 s = 1
theorem hs0 {C Z : w_S} {ta L : Nat} (hC : Clean C) (hZ : Fg Z) (hT : Tx0 Z ta L 0) (hta : ta = 140 ∨ 238 ≤ ta) : Hs C Z 0 0 ta L 0 0 0 := by
  obtain ⟨c1, c2, c3, c4, c5, c6, c7, c8, c9, c10, c11, c12, c13, c14, c15, c16, c17, c18, c19, c20, c21, c22, c23⟩ := hC
  obtain ⟨z1, z2, z3, z4, z5, z6, z7, z8, z9, z10, z11, z12, z13, z14, z15, z16, z17, z18, z19, z20, z21, z22, z23, z24⟩ := hZ
  refine ⟨?_, ?_, ⟨?_, ?_, ?_, ?_, ?_, ?_, ?_, ?_, ?_, ?_, ?_, ?_⟩, ?_, ?_, ?_, ?_, ?_, ?_, ?_, ?_, ?_, ?_, ?_, ?_, ?_⟩
  · exact ⟨by rw [z15, c19], by rw [z16, c20], fun k k1 k2 => by omega, fun k k1 k2 => by omega, fun k k1 k2 => by omega, fun k k1 k2 => by omega, fun k k1 k2 => by omega, fun k k1 k2 => by omega⟩
  · exact ⟨by omega, by omega, by omega, by omega, fun k k1 k2 => by omega, fun k k1 k2 => by omega⟩
  · refine ⟨by omega, by omega, by rw [z1, c6], 0, ?_, by rw [c10]; rfl, by rw [z18]; rfl, fun k hk => by omega⟩
    exact ⟨by omega, fun i hi => by omega⟩
  · exact ⟨by omega, by omega, fun k k1 k2 => by omega⟩
  · refine ⟨by omega, by omega, by rw [z13, c17], ?_, ?_, fun y hy => ?_⟩
    · unfold QC QR
      rw [c17, z13]
      rfl
    · unfold QR
      rw [z13]
      simp [lf, qun]
    · unfold QC at hy
      rw [c17] at hy
      cases hy
  · exact ⟨by rw [z2, c1], by omega, by omega, fun k k1 k2 => by omega⟩
  · exact ⟨by rw [z8, c13], by omega, by omega, fun k k1 k2 => by omega⟩
  · exact ⟨by rw [z10, c14], by omega, by omega, fun k k1 k2 => by omega⟩
  · exact ⟨by rw [z19, c15], by omega, by omega, fun k k1 k2 => by omega⟩
  · exact ⟨by rw [z9, c16], by omega, by omega, fun k k1 k2 => by omega⟩
  · intro k k1 k2
    omega
  · intro k k1 k2
    omega
  · exact ⟨by rw [z12, c8], by omega, by omega, fun k k1 => by omega, fun i j _ k1 => by omega⟩
  · exact ⟨0, by omega, by rw [c9]; rfl, by rw [z11]; rfl, fun k hk => by omega, fun i hi => by omega⟩
  · refine ⟨by rw [z17, c21], by omega, by omega, fun s hs => ?_, fun p p1 p2 => by omega⟩
    rw [c23 s hs, z24 s hs]
    exact ⟨Or.inl rfl, rfl⟩
  · exact ⟨by rw [z14, c18], by omega, by omega, fun k k1 k2 => by omega⟩
  · exact ⟨by rw [z21, c7], Or.inl c7⟩
  · intro k k1 k2
    omega
  · exact ⟨0, by omega, by rw [c11]; rfl, by rw [z20]; rfl, fun i hi => by omega⟩
  · exact ⟨0, by omega, by rw [c12]; rfl, by rw [z22]; rfl, fun i hi => by omega⟩
  · intro k k1 k2
    omega
  · exact ⟨by rw [z5, c3], by omega, by omega, by rw [z6, c4], by omega, by omega, fun k k1 k2 => by omega, fun k k2 => by omega⟩
  · exact ⟨by rw [z5, c3], by omega, by omega, fun k k1 k2 => by omega, fun k k1 k2 => by omega⟩
  · exact ⟨fun z => absurd c22 z, Or.inl ⟨c22, by omega⟩⟩
  · exact ⟨hT, hta, by rw [c2]; rfl, by rw [z3]; rfl, by omega, by rw [c1]; rfl, by rw [z2]; rfl, by omega, by omega, fun r r1 r2 => by omega, fun v hv => by omega⟩
  · exact ⟨by rw [z7, c5], by omega, by omega, fun k k2 => by omega⟩
  · intro r r1 r2
    omega
theorem l_fg {e : w_E} {N : Nat} : ∀ (k s nf : Nat) (S : w_S), s + k = 6 → k < nf → Ok (El_R_forget e N nf 0 [(s : Int)] [] S) (fun _ S1 => ∃ Sm, frm [229] [] [] S Sm ∧ (∀ u, s ≤ u → u < 6 → Sm.1 229 u = 1) ∧ (∀ u, u < s → Sm.1 229 u = S.1 229 u) ∧ S1 = w_put (w_put (w_put (w_put (w_put (w_put Sm 129 83 0) 129 87 0) 129 93 0) 129 96 0) 129 104 0) 129 111 0)
  | _, _, 0, _, _, h => by omega
  | 0, s, nf + 1, S, g1, g2 => by
    rw [El_R_forget]
    exact ok_t (by omega) (ok_s ⟨S, frm.refl _ _ _ _, fun u u1 u2 => by omega, fun _ _ => rfl, rfl⟩)
  | k + 1, s, nf + 1, S, g1, g2 => by
    rw [El_R_forget, show ((s : Int)).toNat = s by omega]
    refine ok_e (by omega) (ok_ib (by omega) (ok_nb (by omega) ?_))
    have ih := l_fg (e := e) (N := N) k (s + 1) nf (w_put S 229 s 1) (by omega) (by omega)
    rw [show ((s + 1 : Nat) : Int) = (s : Int) + 1 by omega] at ih
    refine ih.mono (fun _ S1 ⟨Sm, q1, q2, q3, q4⟩ => ⟨Sm, frm.trans (by repeat (first | exact frm.refl _ _ _ _ | refine frm.put ?_ rfl | refine frm.puto ?_ rfl rfl)) q1, fun u u1 u2 => ?_, fun u hu => ?_, q4⟩)
    · by_cases c : u = s
      · rw [q3 u (by omega), w_put_r, if_pos rfl, pt_at, if_pos c]
      · exact q2 u (by omega) u2
    · rw [q3 u (by omega), w_put_r, if_pos rfl, pt_at, if_neg (by omega)]
abbrev FGj : List (Nat × Nat) := [(129, 12), (129, 13), (129, 17), (129, 23), (129, 24), (129, 26), (129, 31), (129, 65), (129, 68), (129, 114), (129, 122), (129, 125), (129, 127), (129, 131), (129, 140), (129, 144), (129, 148), (129, 83), (129, 87), (129, 93), (129, 96), (129, 104), (129, 111)]
theorem x_forget {e : w_E} {N : Nat} {R : w_S} (hN : 1000 ≤ N) : Ok (E_R_forget e N R) (fun _ Z => frm [229] [129] FGj R Z ∧ Fg Z) := by
  unfold E_R_forget
  generalize hS0 : w_put (w_put (w_put (w_put (w_put (w_put (w_put (w_put (w_put (w_put (w_put (w_put (w_put (w_put (w_put (w_put (w_put R 129 12 0) 129 13 0) 129 17 0) 129 23 0) 129 24 0) 129 26 0) 129 31 0) 129 65 0) 129 68 0) 129 114 0) 129 122 0) 129 125 0) 129 127 0) 129 131 0) 129 140 0) 129 144 0) 129 148 0 = S0
  have f0 : frm [229] [129] FGj R S0 := by
    rw [← hS0]
    repeat (first | exact frm.refl _ _ _ _ | refine frm.put ?_ rfl | refine frm.puto ?_ rfl rfl)
  refine (l_fg (e := e) (N := N) 6 0 N S0 (by omega) (by omega)).mono (fun _ Z ⟨Sm, q1, q2, q3, q4⟩ => ?_)
  have f1 : frm [229] [129] FGj Sm Z := by
    rw [q4]
    repeat (first | exact frm.refl _ _ _ _ | refine frm.put ?_ rfl | refine frm.puto ?_ rfl rfl)
  refine ⟨f0.trans ((q1.weak (by decide)).trans f1), ?_⟩
  have m9 : Sm.1 129 = S0.1 129 := q1.2.1 129 rfl rfl
  unfold Fg
  rw [q4]
  simp only [w_put_r, reduceIte, Nat.reduceEqDiff, pt_at]
  rw [m9, ← hS0]
  simp only [w_put_r, reduceIte, Nat.reduceEqDiff, pt_at]
  exact ⟨trivial, trivial, trivial, trivial, trivial, trivial, trivial, trivial, trivial, trivial, trivial, trivial, trivial, trivial, trivial, trivial, trivial, trivial, trivial, trivial, trivial, trivial, trivial, fun s hs => q2 s (by omega) hs⟩
theorem l_fga {e : w_E} {N : Nat} : ∀ (k s nf : Nat) (S : w_S), s + k = 11 → k < nf → Ok (El_R_forgetAsked e N nf 0 [(s : Int)] [] S) (fun _ S1 => frm [232] [] [] S S1 ∧ (∀ u, s ≤ u → u < 11 → S1.1 232 u = 0) ∧ (∀ u, u < s → S1.1 232 u = S.1 232 u))
  | _, _, 0, _, _, h => by omega
  | 0, s, nf + 1, S, g1, g2 => by
    rw [El_R_forgetAsked]
    exact ok_t (by omega) (ok_s ⟨frm.refl _ _ _ _, fun u u1 u2 => by omega, fun _ _ => rfl⟩)
  | k + 1, s, nf + 1, S, g1, g2 => by
    rw [El_R_forgetAsked, show ((s : Int)).toNat = s by omega]
    refine ok_e (by omega) (ok_ib (by omega) (ok_nb (by omega) ?_))
    have ih := l_fga (e := e) (N := N) k (s + 1) nf (w_put S 232 s 0) (by omega) (by omega)
    rw [show ((s + 1 : Nat) : Int) = (s : Int) + 1 by omega] at ih
    refine ih.mono (fun _ S1 ⟨q1, q2, q3⟩ => ⟨frm.trans (by repeat (first | exact frm.refl _ _ _ _ | refine frm.put ?_ rfl | refine frm.puto ?_ rfl rfl)) q1, fun u u1 u2 => ?_, fun u hu => ?_⟩)
    · by_cases c : u = s
      · rw [q3 u (by omega), w_put_r, if_pos rfl, pt_at, if_pos c]
      · exact q2 u (by omega) u2
    · rw [q3 u (by omega), w_put_r, if_pos rfl, pt_at, if_neg (by omega)]
theorem x_fga {e : w_E} {N : Nat} {R : w_S} (hN : 1000 ≤ N) : Ok (E_R_forgetAsked e N R) (fun _ Z => frm [232] [129] [(129, 1), (129, 39), (129, 51), (129, 58), (129, 102)] R Z ∧ Z.1 129 1 = 0 ∧ Z.1 129 39 = 0 ∧ Z.1 129 51 = 0 ∧ Z.1 129 102 = 0 ∧ Z.1 129 58 = 0 ∧ ∀ s : Nat, s < 11 → Z.1 232 s = 0) := by
  unfold E_R_forgetAsked
  refine (l_fga (e := e) (N := N) 11 0 N (w_put (w_put (w_put (w_put (w_put R 129 1 0) 129 39 0) 129 51 0) 129 102 0) 129 58 0) (by omega) (by omega)).mono (fun _ Z ⟨q1, q2, q3⟩ => ?_)
  refine ⟨frm.trans (by repeat (first | exact frm.refl _ _ _ _ | refine frm.put ?_ rfl | refine frm.puto ?_ rfl rfl)) (q1.weak (by decide)), ?_, ?_, ?_, ?_, ?_, fun s hs => q2 s (by omega) hs⟩
  all_goals (rw [q1.2.1 129 rfl rfl]; simp only [w_put_r, reduceIte, Nat.reduceEqDiff, pt_at])
end
