section
-- h8
theorem act_fin {e : w_E} {N i : Nat} {k a y y' : Int} {S R S2 R2 : w_S} (h13 : k ≠ 13) (h31 : k ≠ 31) (h42 : k ≠ 42) (h44 : k ≠ 44) (h : ActP e N i k a S R y S2 y' R2) : y' = y ∧ Inv e N (i + 1) S2 R2 := by
  obtain ⟨h1, h2⟩ := h
  refine ⟨h1.1 h13 h44, ?_⟩
  rcases h2 with ⟨_, _, z⟩ | ⟨_, t, _, _, _, _, _, z, _⟩
  · exact z
  · unfold pch at z
    rw [if_neg h31, if_neg h42] at z
    exact z
theorem m_tick {e : w_E} {N i : Nat} {S R : w_S} {x1 : Int} (hN : 16000000 ≤ N) (hi : i < 512) (h : Inv e N i S R) : Ok (E_C_tick e N x1 S) (fun y S1 => Ok (E_R_tick e N x1 R) (fun y' R1 => y' = y ∧ Inv e N (i + 1) S1 R1)) := by
  have q := t_act (k := 0) (a := x1) (b := 0) (c := 0) (d := 0) hN hi (by decide) (by decide) h
  refine ok_b (q.mono (fun y S1 q => ok_s ?_))
  show Ok (Ra e N (km 0) x1 0 0 0 R) _
  exact q.mono (fun y' R1 r => act_fin (by decide) (by decide) (by decide) (by decide) r)
theorem m_drop {e : w_E} {N i : Nat} {S R : w_S} {x1 : Int} (hN : 16000000 ≤ N) (hi : i < 512) (h : Inv e N i S R) : Ok (E_C_drop e N x1 S) (fun y S1 => Ok (E_R_drop e N x1 R) (fun y' R1 => y' = y ∧ Inv e N (i + 1) S1 R1)) := by
  have q := t_act (k := 1) (a := x1) (b := 0) (c := 0) (d := 0) hN hi (by decide) (by decide) h
  refine ok_b (q.mono (fun y S1 q => ok_s ?_))
  show Ok (Ra e N (km 1) x1 0 0 0 R) _
  exact q.mono (fun y' R1 r => act_fin (by decide) (by decide) (by decide) (by decide) r)
theorem m_broader {e : w_E} {N i : Nat} {S R : w_S} {x1 x2 : Int} (hN : 16000000 ≤ N) (hi : i < 512) (h : Inv e N i S R) : Ok (E_C_broader e N x1 x2 S) (fun y S1 => Ok (E_R_broader e N x1 x2 R) (fun y' R1 => y' = y ∧ Inv e N (i + 1) S1 R1)) := by
  have q := t_act (k := 2) (a := x1) (b := x2) (c := 0) (d := 0) hN hi (by decide) (by decide) h
  refine ok_b (q.mono (fun y S1 q => ok_s ?_))
  show Ok (Ra e N (km 2) x1 x2 0 0 R) _
  exact q.mono (fun y' R1 r => act_fin (by decide) (by decide) (by decide) (by decide) r)
theorem m_link {e : w_E} {N i : Nat} {S R : w_S} {x1 x2 x3 : Int} (hN : 16000000 ≤ N) (hi : i < 512) (h : Inv e N i S R) : Ok (E_C_link e N x1 x2 x3 S) (fun y S1 => Ok (E_R_link e N x1 x2 x3 R) (fun y' R1 => y' = y ∧ Inv e N (i + 1) S1 R1)) := by
  have q := t_act (k := 3) (a := x1) (b := x2) (c := x3) (d := 0) hN hi (by decide) (by decide) h
  refine ok_b (q.mono (fun y S1 q => ok_s ?_))
  show Ok (Ra e N (km 3) x1 x2 x3 0 R) _
  exact q.mono (fun y' R1 r => act_fin (by decide) (by decide) (by decide) (by decide) r)
theorem m_reader {e : w_E} {N i : Nat} {S R : w_S} {x1 : Int} (hN : 16000000 ≤ N) (hi : i < 512) (h : Inv e N i S R) : Ok (E_C_reader e N x1 S) (fun y S1 => Ok (E_R_reader e N x1 R) (fun y' R1 => y' = y ∧ Inv e N (i + 1) S1 R1)) := by
  have q := t_act (k := 4) (a := x1) (b := 0) (c := 0) (d := 0) hN hi (by decide) (by decide) h
  refine ok_b (q.mono (fun y S1 q => ok_s ?_))
  show Ok (Ra e N (km 4) x1 0 0 0 R) _
  exact q.mono (fun y' R1 r => act_fin (by decide) (by decide) (by decide) (by decide) r)
theorem m_copy {e : w_E} {N i : Nat} {S R : w_S} {x1 x2 : Int} (hN : 16000000 ≤ N) (hi : i < 512) (h : Inv e N i S R) : Ok (E_C_copy e N x1 x2 S) (fun y S1 => Ok (E_R_copy e N x1 x2 R) (fun y' R1 => y' = y ∧ Inv e N (i + 1) S1 R1)) := by
  have q := t_act (k := 5) (a := x1) (b := x2) (c := 0) (d := 0) hN hi (by decide) (by decide) h
  refine ok_b (q.mono (fun y S1 q => ok_s ?_))
  show Ok (Ra e N (km 5) x1 x2 0 0 R) _
  exact q.mono (fun y' R1 r => act_fin (by decide) (by decide) (by decide) (by decide) r)
theorem m_away {e : w_E} {N i : Nat} {S R : w_S} {x1 : Int} (hN : 16000000 ≤ N) (hi : i < 512) (h : Inv e N i S R) : Ok (E_C_away e N x1 S) (fun y S1 => Ok (E_R_away e N x1 R) (fun y' R1 => y' = y ∧ Inv e N (i + 1) S1 R1)) := by
  have q := t_act (k := 6) (a := x1) (b := 0) (c := 0) (d := 0) hN hi (by decide) (by decide) h
  refine ok_b (q.mono (fun y S1 q => ok_s ?_))
  show Ok (Ra e N (km 6) x1 0 0 0 R) _
  exact q.mono (fun y' R1 r => act_fin (by decide) (by decide) (by decide) (by decide) r)
theorem m_closed {e : w_E} {N i : Nat} {S R : w_S} {x1 : Int} (hN : 16000000 ≤ N) (hi : i < 512) (h : Inv e N i S R) : Ok (E_C_closed e N x1 S) (fun y S1 => Ok (E_R_closed e N x1 R) (fun y' R1 => y' = y ∧ Inv e N (i + 1) S1 R1)) := by
  have q := t_act (k := 7) (a := x1) (b := 0) (c := 0) (d := 0) hN hi (by decide) (by decide) h
  refine ok_b (q.mono (fun y S1 q => ok_s ?_))
  show Ok (Ra e N (km 7) x1 0 0 0 R) _
  exact q.mono (fun y' R1 r => act_fin (by decide) (by decide) (by decide) (by decide) r)
theorem m_lend {e : w_E} {N i : Nat} {S R : w_S} {x1 x2 : Int} (hN : 16000000 ≤ N) (hi : i < 512) (h : Inv e N i S R) : Ok (E_C_lend e N x1 x2 S) (fun y S1 => Ok (E_R_lend e N x1 x2 R) (fun y' R1 => y' = y ∧ Inv e N (i + 1) S1 R1)) := by
  have q := t_act (k := 8) (a := x1) (b := x2) (c := 0) (d := 0) hN hi (by decide) (by decide) h
  refine ok_b (q.mono (fun y S1 q => ok_s ?_))
  show Ok (Ra e N (km 8) x1 x2 0 0 R) _
  exact q.mono (fun y' R1 r => act_fin (by decide) (by decide) (by decide) (by decide) r)
theorem m_renew {e : w_E} {N i : Nat} {S R : w_S} {x1 : Int} (hN : 16000000 ≤ N) (hi : i < 512) (h : Inv e N i S R) : Ok (E_C_renew e N x1 S) (fun y S1 => Ok (E_R_renew e N x1 R) (fun y' R1 => y' = y ∧ Inv e N (i + 1) S1 R1)) := by
  have q := t_act (k := 9) (a := x1) (b := 0) (c := 0) (d := 0) hN hi (by decide) (by decide) h
  refine ok_b (q.mono (fun y S1 q => ok_s ?_))
  show Ok (Ra e N (km 9) x1 0 0 0 R) _
  exact q.mono (fun y' R1 r => act_fin (by decide) (by decide) (by decide) (by decide) r)
theorem m_back {e : w_E} {N i : Nat} {S R : w_S} {x1 : Int} (hN : 16000000 ≤ N) (hi : i < 512) (h : Inv e N i S R) : Ok (E_C_back e N x1 S) (fun y S1 => Ok (E_R_back e N x1 R) (fun y' R1 => y' = y ∧ Inv e N (i + 1) S1 R1)) := by
  have q := t_act (k := 10) (a := x1) (b := 0) (c := 0) (d := 0) hN hi (by decide) (by decide) h
  refine ok_b (q.mono (fun y S1 q => ok_s ?_))
  show Ok (Ra e N (km 10) x1 0 0 0 R) _
  exact q.mono (fun y' R1 r => act_fin (by decide) (by decide) (by decide) (by decide) r)
theorem m_hold {e : w_E} {N i : Nat} {S R : w_S} {x1 x2 x3 : Int} (hN : 16000000 ≤ N) (hi : i < 512) (h : Inv e N i S R) : Ok (E_C_hold e N x1 x2 x3 S) (fun y S1 => Ok (E_R_hold e N x1 x2 x3 R) (fun y' R1 => y' = y ∧ Inv e N (i + 1) S1 R1)) := by
  have q := t_act (k := 11) (a := x1) (b := x2) (c := x3) (d := 0) hN hi (by decide) (by decide) h
  refine ok_b (q.mono (fun y S1 q => ok_s ?_))
  show Ok (Ra e N (km 11) x1 x2 x3 0 R) _
  exact q.mono (fun y' R1 r => act_fin (by decide) (by decide) (by decide) (by decide) r)
theorem m_unhold {e : w_E} {N i : Nat} {S R : w_S} {x1 x2 : Int} (hN : 16000000 ≤ N) (hi : i < 512) (h : Inv e N i S R) : Ok (E_C_unhold e N x1 x2 S) (fun y S1 => Ok (E_R_unhold e N x1 x2 R) (fun y' R1 => y' = y ∧ Inv e N (i + 1) S1 R1)) := by
  have q := t_act (k := 12) (a := x1) (b := x2) (c := 0) (d := 0) hN hi (by decide) (by decide) h
  refine ok_b (q.mono (fun y S1 q => ok_s ?_))
  show Ok (Ra e N (km 12) x1 x2 0 0 R) _
  exact q.mono (fun y' R1 r => act_fin (by decide) (by decide) (by decide) (by decide) r)
theorem m_came {e : w_E} {N i : Nat} {S R : w_S} {x1 x2 : Int} (hN : 16000000 ≤ N) (hi : i < 512) (h : Inv e N i S R) : Ok (E_C_came e N x1 x2 S) (fun y S1 => Ok (E_R_came e N x1 x2 R) (fun y' R1 => y' = y ∧ Inv e N (i + 1) S1 R1)) := by
  have q := t_act (k := 14) (a := x1) (b := x2) (c := 0) (d := 0) hN hi (by decide) (by decide) h
  refine ok_b (q.mono (fun y S1 q => ok_s ?_))
  show Ok (Ra e N (km 14) x1 x2 0 0 R) _
  exact q.mono (fun y' R1 r => act_fin (by decide) (by decide) (by decide) (by decide) r)
theorem m_fund {e : w_E} {N i : Nat} {S R : w_S} {x1 : Int} (hN : 16000000 ≤ N) (hi : i < 512) (h : Inv e N i S R) : Ok (E_C_fund e N x1 S) (fun y S1 => Ok (E_R_fund e N x1 R) (fun y' R1 => y' = y ∧ Inv e N (i + 1) S1 R1)) := by
  have q := t_act (k := 15) (a := x1) (b := 0) (c := 0) (d := 0) hN hi (by decide) (by decide) h
  refine ok_b (q.mono (fun y S1 q => ok_s ?_))
  show Ok (Ra e N (km 15) x1 0 0 0 R) _
  exact q.mono (fun y' R1 r => act_fin (by decide) (by decide) (by decide) (by decide) r)
theorem m_order {e : w_E} {N i : Nat} {S R : w_S} {x1 x2 : Int} (hN : 16000000 ≤ N) (hi : i < 512) (h : Inv e N i S R) : Ok (E_C_order e N x1 x2 S) (fun y S1 => Ok (E_R_order e N x1 x2 R) (fun y' R1 => y' = y ∧ Inv e N (i + 1) S1 R1)) := by
  have q := t_act (k := 16) (a := x1) (b := x2) (c := 0) (d := 0) hN hi (by decide) (by decide) h
  refine ok_b (q.mono (fun y S1 q => ok_s ?_))
  show Ok (Ra e N (km 16) x1 x2 0 0 R) _
  exact q.mono (fun y' R1 r => act_fin (by decide) (by decide) (by decide) (by decide) r)
theorem m_invoice {e : w_E} {N i : Nat} {S R : w_S} {x1 x2 : Int} (hN : 16000000 ≤ N) (hi : i < 512) (h : Inv e N i S R) : Ok (E_C_invoice e N x1 x2 S) (fun y S1 => Ok (E_R_invoice e N x1 x2 R) (fun y' R1 => y' = y ∧ Inv e N (i + 1) S1 R1)) := by
  have q := t_act (k := 17) (a := x1) (b := x2) (c := 0) (d := 0) hN hi (by decide) (by decide) h
  refine ok_b (q.mono (fun y S1 q => ok_s ?_))
  show Ok (Ra e N (km 17) x1 x2 0 0 R) _
  exact q.mono (fun y' R1 r => act_fin (by decide) (by decide) (by decide) (by decide) r)
theorem m_cancel {e : w_E} {N i : Nat} {S R : w_S} {x1 : Int} (hN : 16000000 ≤ N) (hi : i < 512) (h : Inv e N i S R) : Ok (E_C_cancel e N x1 S) (fun y S1 => Ok (E_R_cancel e N x1 R) (fun y' R1 => y' = y ∧ Inv e N (i + 1) S1 R1)) := by
  have q := t_act (k := 18) (a := x1) (b := 0) (c := 0) (d := 0) hN hi (by decide) (by decide) h
  refine ok_b (q.mono (fun y S1 q => ok_s ?_))
  show Ok (Ra e N (km 18) x1 0 0 0 R) _
  exact q.mono (fun y' R1 r => act_fin (by decide) (by decide) (by decide) (by decide) r)
theorem m_transfer {e : w_E} {N i : Nat} {S R : w_S} {x1 x2 x3 : Int} (hN : 16000000 ≤ N) (hi : i < 512) (h : Inv e N i S R) : Ok (E_C_transfer e N x1 x2 x3 S) (fun y S1 => Ok (E_R_transfer e N x1 x2 x3 R) (fun y' R1 => y' = y ∧ Inv e N (i + 1) S1 R1)) := by
  have q := t_act (k := 19) (a := x1) (b := x2) (c := x3) (d := 0) hN hi (by decide) (by decide) h
  refine ok_b (q.mono (fun y S1 q => ok_s ?_))
  show Ok (Ra e N (km 19) x1 x2 x3 0 R) _
  exact q.mono (fun y' R1 r => act_fin (by decide) (by decide) (by decide) (by decide) r)
theorem m_alter {e : w_E} {N i : Nat} {S R : w_S} {x1 x2 x3 x4 : Int} (hN : 16000000 ≤ N) (hi : i < 512) (h : Inv e N i S R) : Ok (E_C_alter e N x1 x2 x3 x4 S) (fun y S1 => Ok (E_R_alter e N x1 x2 x3 x4 R) (fun y' R1 => y' = y ∧ Inv e N (i + 1) S1 R1)) := by
  have q := t_act (k := 21) (a := x1) (b := x2) (c := x3) (d := x4) hN hi (by decide) (by decide) h
  refine ok_b (q.mono (fun y S1 q => ok_s ?_))
  show Ok (Ra e N (km 21) x1 x2 x3 x4 R) _
  exact q.mono (fun y' R1 r => act_fin (by decide) (by decide) (by decide) (by decide) r)
theorem m_lose {e : w_E} {N i : Nat} {S R : w_S} {x1 x2 : Int} (hN : 16000000 ≤ N) (hi : i < 512) (h : Inv e N i S R) : Ok (E_C_lose e N x1 x2 S) (fun y S1 => Ok (E_R_lose e N x1 x2 R) (fun y' R1 => y' = y ∧ Inv e N (i + 1) S1 R1)) := by
  have q := t_act (k := 22) (a := x1) (b := x2) (c := 0) (d := 0) hN hi (by decide) (by decide) h
  refine ok_b (q.mono (fun y S1 q => ok_s ?_))
  show Ok (Ra e N (km 22) x1 x2 0 0 R) _
  exact q.mono (fun y' R1 r => act_fin (by decide) (by decide) (by decide) (by decide) r)
theorem m_mend {e : w_E} {N i : Nat} {S R : w_S} {x1 : Int} (hN : 16000000 ≤ N) (hi : i < 512) (h : Inv e N i S R) : Ok (E_C_mend e N x1 S) (fun y S1 => Ok (E_R_mend e N x1 R) (fun y' R1 => y' = y ∧ Inv e N (i + 1) S1 R1)) := by
  have q := t_act (k := 23) (a := x1) (b := 0) (c := 0) (d := 0) hN hi (by decide) (by decide) h
  refine ok_b (q.mono (fun y S1 q => ok_s ?_))
  show Ok (Ra e N (km 23) x1 0 0 0 R) _
  exact q.mono (fun y' R1 r => act_fin (by decide) (by decide) (by decide) (by decide) r)
theorem m_home {e : w_E} {N i : Nat} {S R : w_S} {x1 x2 : Int} (hN : 16000000 ≤ N) (hi : i < 512) (h : Inv e N i S R) : Ok (E_C_home e N x1 x2 S) (fun y S1 => Ok (E_R_home e N x1 x2 R) (fun y' R1 => y' = y ∧ Inv e N (i + 1) S1 R1)) := by
  have q := t_act (k := 24) (a := x1) (b := x2) (c := 0) (d := 0) hN hi (by decide) (by decide) h
  refine ok_b (q.mono (fun y S1 q => ok_s ?_))
  show Ok (Ra e N (km 24) x1 x2 0 0 R) _
  exact q.mono (fun y' R1 r => act_fin (by decide) (by decide) (by decide) (by decide) r)
theorem m_pickup {e : w_E} {N i : Nat} {S R : w_S} {x1 x2 : Int} (hN : 16000000 ≤ N) (hi : i < 512) (h : Inv e N i S R) : Ok (E_C_pickup e N x1 x2 S) (fun y S1 => Ok (E_R_pickup e N x1 x2 R) (fun y' R1 => y' = y ∧ Inv e N (i + 1) S1 R1)) := by
  have q := t_act (k := 25) (a := x1) (b := x2) (c := 0) (d := 0) hN hi (by decide) (by decide) h
  refine ok_b (q.mono (fun y S1 q => ok_s ?_))
  show Ok (Ra e N (km 25) x1 x2 0 0 R) _
  exact q.mono (fun y' R1 r => act_fin (by decide) (by decide) (by decide) (by decide) r)
theorem m_bring {e : w_E} {N i : Nat} {S R : w_S} {x1 x2 : Int} (hN : 16000000 ≤ N) (hi : i < 512) (h : Inv e N i S R) : Ok (E_C_bring e N x1 x2 S) (fun y S1 => Ok (E_R_bring e N x1 x2 R) (fun y' R1 => y' = y ∧ Inv e N (i + 1) S1 R1)) := by
  have q := t_act (k := 26) (a := x1) (b := x2) (c := 0) (d := 0) hN hi (by decide) (by decide) h
  refine ok_b (q.mono (fun y S1 q => ok_s ?_))
  show Ok (Ra e N (km 26) x1 x2 0 0 R) _
  exact q.mono (fun y' R1 r => act_fin (by decide) (by decide) (by decide) (by decide) r)
theorem m_book {e : w_E} {N i : Nat} {S R : w_S} {x1 x2 x3 x4 : Int} (hN : 16000000 ≤ N) (hi : i < 512) (h : Inv e N i S R) : Ok (E_C_book e N x1 x2 x3 x4 S) (fun y S1 => Ok (E_R_book e N x1 x2 x3 x4 R) (fun y' R1 => y' = y ∧ Inv e N (i + 1) S1 R1)) := by
  have q := t_act (k := 27) (a := x1) (b := x2) (c := x3) (d := x4) hN hi (by decide) (by decide) h
  refine ok_b (q.mono (fun y S1 q => ok_s ?_))
  show Ok (Ra e N (km 27) x1 x2 x3 x4 R) _
  exact q.mono (fun y' R1 r => act_fin (by decide) (by decide) (by decide) (by decide) r)
theorem m_unbook {e : w_E} {N i : Nat} {S R : w_S} {x1 : Int} (hN : 16000000 ≤ N) (hi : i < 512) (h : Inv e N i S R) : Ok (E_C_unbook e N x1 S) (fun y S1 => Ok (E_R_unbook e N x1 R) (fun y' R1 => y' = y ∧ Inv e N (i + 1) S1 R1)) := by
  have q := t_act (k := 28) (a := x1) (b := 0) (c := 0) (d := 0) hN hi (by decide) (by decide) h
  refine ok_b (q.mono (fun y S1 q => ok_s ?_))
  show Ok (Ra e N (km 28) x1 0 0 0 R) _
  exact q.mono (fun y' R1 r => act_fin (by decide) (by decide) (by decide) (by decide) r)
theorem m_record {e : w_E} {N i : Nat} {S R : w_S} (hN : 16000000 ≤ N) (hi : i < 512) (h : Inv e N i S R) : Ok (E_C_record e N  S) (fun y S1 => Ok (E_R_record e N  R) (fun y' R1 => y' = y ∧ Inv e N (i + 1) S1 R1)) := by
  have q := t_act (k := 32) (a := 0) (b := 0) (c := 0) (d := 0) hN hi (by decide) (by decide) h
  refine ok_b (q.mono (fun y S1 q => ok_s ?_))
  show Ok (Ra e N (km 32) 0 0 0 0 R) _
  exact q.mono (fun y' R1 r => act_fin (by decide) (by decide) (by decide) (by decide) r)
theorem m_edit {e : w_E} {N i : Nat} {S R : w_S} {x1 : Int} (hN : 16000000 ≤ N) (hi : i < 512) (h : Inv e N i S R) : Ok (E_C_edit e N x1 S) (fun y S1 => Ok (E_R_edit e N x1 R) (fun y' R1 => y' = y ∧ Inv e N (i + 1) S1 R1)) := by
  have q := t_act (k := 33) (a := x1) (b := 0) (c := 0) (d := 0) hN hi (by decide) (by decide) h
  refine ok_b (q.mono (fun y S1 q => ok_s ?_))
  show Ok (Ra e N (km 33) x1 0 0 0 R) _
  exact q.mono (fun y' R1 r => act_fin (by decide) (by decide) (by decide) (by decide) r)
theorem m_heading {e : w_E} {N i : Nat} {S R : w_S} (hN : 16000000 ≤ N) (hi : i < 512) (h : Inv e N i S R) : Ok (E_C_heading e N  S) (fun y S1 => Ok (E_R_heading e N  R) (fun y' R1 => y' = y ∧ Inv e N (i + 1) S1 R1)) := by
  have q := t_act (k := 34) (a := 0) (b := 0) (c := 0) (d := 0) hN hi (by decide) (by decide) h
  refine ok_b (q.mono (fun y S1 q => ok_s ?_))
  show Ok (Ra e N (km 34) 0 0 0 0 R) _
  exact q.mono (fun y' R1 r => act_fin (by decide) (by decide) (by decide) (by decide) r)
theorem m_rename {e : w_E} {N i : Nat} {S R : w_S} {x1 : Int} (hN : 16000000 ≤ N) (hi : i < 512) (h : Inv e N i S R) : Ok (E_C_rename e N x1 S) (fun y S1 => Ok (E_R_rename e N x1 R) (fun y' R1 => y' = y ∧ Inv e N (i + 1) S1 R1)) := by
  have q := t_act (k := 35) (a := x1) (b := 0) (c := 0) (d := 0) hN hi (by decide) (by decide) h
  refine ok_b (q.mono (fun y S1 q => ok_s ?_))
  show Ok (Ra e N (km 35) x1 0 0 0 R) _
  exact q.mono (fun y' R1 r => act_fin (by decide) (by decide) (by decide) (by decide) r)
theorem m_rules {e : w_E} {N i : Nat} {S R : w_S} (hN : 16000000 ≤ N) (hi : i < 512) (h : Inv e N i S R) : Ok (E_C_rules e N  S) (fun y S1 => Ok (E_R_rules e N  R) (fun y' R1 => y' = y ∧ Inv e N (i + 1) S1 R1)) := by
  have q := t_act (k := 36) (a := 0) (b := 0) (c := 0) (d := 0) hN hi (by decide) (by decide) h
  refine ok_b (q.mono (fun y S1 q => ok_s ?_))
  show Ok (Ra e N (km 36) 0 0 0 0 R) _
  exact q.mono (fun y' R1 r => act_fin (by decide) (by decide) (by decide) (by decide) r)
theorem m_serial {e : w_E} {N i : Nat} {S R : w_S} {x1 : Int} (hN : 16000000 ≤ N) (hi : i < 512) (h : Inv e N i S R) : Ok (E_C_serial e N x1 S) (fun y S1 => Ok (E_R_serial e N x1 R) (fun y' R1 => y' = y ∧ Inv e N (i + 1) S1 R1)) := by
  have q := t_act (k := 37) (a := x1) (b := 0) (c := 0) (d := 0) hN hi (by decide) (by decide) h
  refine ok_b (q.mono (fun y S1 q => ok_s ?_))
  show Ok (Ra e N (km 37) x1 0 0 0 R) _
  exact q.mono (fun y' R1 r => act_fin (by decide) (by decide) (by decide) (by decide) r)
theorem m_pack {e : w_E} {N i : Nat} {S R : w_S} (hN : 16000000 ≤ N) (hi : i < 512) (h : Inv e N i S R) : Ok (E_C_pack e N  S) (fun y S1 => Ok (E_R_pack e N  R) (fun y' R1 => y' = y ∧ Inv e N (i + 1) S1 R1)) := by
  have q := t_act (k := 38) (a := 0) (b := 0) (c := 0) (d := 0) hN hi (by decide) (by decide) h
  refine ok_b (q.mono (fun y S1 q => ok_s ?_))
  show Ok (Ra e N (km 38) 0 0 0 0 R) _
  exact q.mono (fun y' R1 r => act_fin (by decide) (by decide) (by decide) (by decide) r)
theorem m_routes {e : w_E} {N i : Nat} {S R : w_S} (hN : 16000000 ≤ N) (hi : i < 512) (h : Inv e N i S R) : Ok (E_C_routes e N  S) (fun y S1 => Ok (E_R_routes e N  R) (fun y' R1 => y' = y ∧ Inv e N (i + 1) S1 R1)) := by
  have q := t_act (k := 39) (a := 0) (b := 0) (c := 0) (d := 0) hN hi (by decide) (by decide) h
  refine ok_b (q.mono (fun y S1 q => ok_s ?_))
  show Ok (Ra e N (km 39) 0 0 0 0 R) _
  exact q.mono (fun y' R1 r => act_fin (by decide) (by decide) (by decide) (by decide) r)
theorem m_mark {e : w_E} {N i : Nat} {S R : w_S} {x1 : Int} (hN : 16000000 ≤ N) (hi : i < 512) (h : Inv e N i S R) : Ok (E_C_mark e N x1 S) (fun y S1 => Ok (E_R_mark e N x1 R) (fun y' R1 => y' = y ∧ Inv e N (i + 1) S1 R1)) := by
  have q := t_act (k := 40) (a := x1) (b := 0) (c := 0) (d := 0) hN hi (by decide) (by decide) h
  refine ok_b (q.mono (fun y S1 q => ok_s ?_))
  show Ok (Ra e N (km 40) x1 0 0 0 R) _
  exact q.mono (fun y' R1 r => act_fin (by decide) (by decide) (by decide) (by decide) r)
theorem m_checks {e : w_E} {N i : Nat} {S R : w_S} (hN : 16000000 ≤ N) (hi : i < 512) (h : Inv e N i S R) : Ok (E_C_checks e N  S) (fun y S1 => Ok (E_R_checks e N  R) (fun y' R1 => y' = y ∧ Inv e N (i + 1) S1 R1)) := by
  have q := t_act (k := 41) (a := 0) (b := 0) (c := 0) (d := 0) hN hi (by decide) (by decide) h
  refine ok_b (q.mono (fun y S1 q => ok_s ?_))
  show Ok (Ra e N (km 41) 0 0 0 0 R) _
  exact q.mono (fun y' R1 r => act_fin (by decide) (by decide) (by decide) (by decide) r)
theorem m_retention {e : w_E} {N i : Nat} {S R : w_S} (hN : 16000000 ≤ N) (hi : i < 512) (h : Inv e N i S R) : Ok (E_C_retention e N  S) (fun y S1 => Ok (E_R_retention e N  R) (fun y' R1 => y' = y ∧ Inv e N (i + 1) S1 R1)) := by
  have q := t_act (k := 43) (a := 0) (b := 0) (c := 0) (d := 0) hN hi (by decide) (by decide) h
  refine ok_b (q.mono (fun y S1 q => ok_s ?_))
  show Ok (Ra e N (km 43) 0 0 0 0 R) _
  exact q.mono (fun y' R1 r => act_fin (by decide) (by decide) (by decide) (by decide) r)
theorem m_answers {e : w_E} {N i : Nat} {S R : w_S} {x1 x2 : Int} (hN : 16000000 ≤ N) (hi : i < 512) (h : Inv e N i S R) : Ok (E_C_answers e N x1 x2 S) (fun y S1 => Ok (E_R_answers e N x1 x2 R) (fun y' R1 => y' = y ∧ Inv e N (i + 1) S1 R1)) := by
  by_cases c : x2 = 0
  · have q := t_act (k := 20) (a := x1) (b := 0) (c := 0) (d := 0) hN hi (by decide) (by decide) h
    refine ok_t c (ok_b (q.mono (fun y S1 q => ok_s (ok_t c ?_))))
    show Ok (Ra e N (km 20) x1 0 0 0 R) _
    exact q.mono (fun y' R1 r => act_fin (by decide) (by decide) (by decide) (by decide) r)
  · have q := t_act (k := 20) (a := x1) (b := 1) (c := 0) (d := 0) hN hi (by decide) (by decide) h
    refine ok_e c (ok_b (q.mono (fun y S1 q => ok_s (ok_e c ?_))))
    show Ok (Ra e N (km 20) x1 1 0 0 R) _
    exact q.mono (fun y' R1 r => act_fin (by decide) (by decide) (by decide) (by decide) r)
theorem m_freeze {e : w_E} {N i : Nat} {S R : w_S} {x1 x2 : Int} (hN : 16000000 ≤ N) (hi : i < 512) (h : Inv e N i S R) : Ok (E_C_freeze e N x1 x2 S) (fun y S1 => Ok (E_R_freeze e N x1 x2 R) (fun y' R1 => y' = y ∧ Inv e N (i + 1) S1 R1)) := by
  by_cases c : x2 = 0
  · have q := t_act (k := 30) (a := x1) (b := 0) (c := 0) (d := 0) hN hi (by decide) (by decide) h
    refine ok_t c (ok_b (q.mono (fun y S1 q => ok_s (ok_t c ?_))))
    show Ok (Ra e N (km 30) x1 0 0 0 R) _
    exact q.mono (fun y' R1 r => act_fin (by decide) (by decide) (by decide) (by decide) r)
  · have q := t_act (k := 30) (a := x1) (b := 1) (c := 0) (d := 0) hN hi (by decide) (by decide) h
    refine ok_e c (ok_b (q.mono (fun y S1 q => ok_s (ok_e c ?_))))
    show Ok (Ra e N (km 30) x1 1 0 0 R) _
    exact q.mono (fun y' R1 r => act_fin (by decide) (by decide) (by decide) (by decide) r)
theorem m_strict {e : w_E} {N i : Nat} {S R : w_S} {x1 : Int} (hN : 16000000 ≤ N) (hi : i < 512) (h : Inv e N i S R) : Ok (E_C_strict e N x1 S) (fun y S1 => Ok (E_R_strict e N x1 R) (fun y' R1 => y' = y ∧ Inv e N (i + 1) S1 R1)) := by
  by_cases c : x1 = 0
  · have q := t_act (k := 29) (a := 0) (b := 0) (c := 0) (d := 0) hN hi (by decide) (by decide) h
    refine ok_t c (ok_b (q.mono (fun y S1 q => ok_s (ok_t c ?_))))
    show Ok (Ra e N (km 29) 0 0 0 0 R) _
    exact q.mono (fun y' R1 r => act_fin (by decide) (by decide) (by decide) (by decide) r)
  · have q := t_act (k := 29) (a := 1) (b := 0) (c := 0) (d := 0) hN hi (by decide) (by decide) h
    refine ok_e c (ok_b (q.mono (fun y S1 q => ok_s (ok_e c ?_))))
    show Ok (Ra e N (km 29) 1 0 0 0 R) _
    exact q.mono (fun y' R1 r => act_fin (by decide) (by decide) (by decide) (by decide) r)
theorem m_pay {e : w_E} {N i : Nat} {S R : w_S} {x1 x2 : Int} (hN : 16000000 ≤ N) (hi : i < 512) (h : Inv e N i S R) : Ok (E_C_pay e N x1 x2 S) (fun y S1 => Ok (E_R_pay e N x1 x2 R) (fun y' R1 => y' = y ∧ Inv e N (i + 1) S1 R1)) := by
  have q := t_act (k := 13) (a := x1) (b := x2) (c := 0) (d := 0) hN hi (by decide) (by decide) h
  refine ok_b (q.mono (fun y S1 q => ?_))
  obtain ⟨y', R1, eR, hA, hB⟩ := q
  have eR' : E_R_pay e N x1 x2 R = some (y', R1) := eR
  have hI : Inv e N (i + 1) S1 R1 := by
    rcases hB with ⟨_, _, z⟩ | ⟨_, t, _, _, _, _, _, z, _⟩
    · exact z
    · exact z
  obtain ⟨⟨c1, c2⟩, c3⟩ := hA.2.1 rfl
  dsimp only
  rcases c3 with ⟨z1, z2, z3⟩ | ⟨z1, z2⟩ | ⟨z1, z2, z3, z4⟩
  · refine ok_t (by omega) ?_
    by_cases a1 : x1 < 1
    · exact ok_t a1 (ok_s (ok_of eR' ⟨z2, hI⟩))
    · exact ok_e a1 (ok_t (by omega) (ok_s (ok_of eR' ⟨z2, hI⟩)))
  · exact ok_e (by omega) (ok_s (ok_of eR' ⟨z2, hI⟩))
  · exact ok_t (by omega) (ok_e (by omega) (ok_e (by omega) (ok_ib (by omega) (ok_s (ok_of eR' ⟨z4, hI⟩)))))
theorem m_exchange {e : w_E} {N i : Nat} {S R : w_S} (hN : 16000000 ≤ N) (hi : i < 512) (h : Inv e N i S R) : Ok (E_C_exchange e N S) (fun y S1 => Ok (E_R_exchange e N R) (fun y' R1 => y' = y ∧ Inv e N (i + 1) S1 R1)) := by
  have q := t_act (k := 44) (a := 0) (b := 0) (c := 0) (d := 0) hN hi (by decide) (by decide) h
  refine ok_b (q.mono (fun y S1 q => ?_))
  obtain ⟨y', R1, eR, hA, hB⟩ := q
  have eR' : E_R_exchange e N R = some (y', R1) := eR
  have hI : Inv e N (i + 1) S1 R1 := by
    rcases hB with ⟨_, _, z⟩ | ⟨_, t, _, _, _, _, _, z, _⟩
    · exact z
    · exact z
  dsimp only
  rcases hA.2.2 rfl with ⟨z1, z2⟩ | ⟨z1, z2⟩ | ⟨z1, z2⟩
  · exact ok_e (by omega) (ok_s (ok_of eR' ⟨z2, hI⟩))
  · exact ok_t (by omega) (ok_s (ok_of eR' ⟨z2, hI⟩))
  · exact ok_t (by omega) (ok_s (ok_of eR' ⟨z2, hI⟩))
def K_dispose (S : w_S) (q : Int × w_S) : e_R := (if (q.2.1 129 7) ≤ (S.1 129 7) then some (q.1, q.2) else (if w_nb (7 * (S.1 129 7)) = true then (if w_nb ((7 * (S.1 129 7)) + 1) = true then (if w_frb Tr B_R_dispose_129 (q.2.2.1 0) = false then (e_len Tr q.2 (q.2.2.1 0) 0).bind (fun n167 => if 0 ≤ ((7 * (S.1 129 7)) + 1) then (if ((7 * (S.1 129 7)) + 1) < n167 then some (q.1, (w_put q.2 (q.2.2.1 0) (((7 * (S.1 129 7)) + 1).toNat) q.1)) else none) else none) else none) else none) else none))
theorem eq_dispose (e : w_E) (N : Nat) (S : w_S) : E_R_dispose e N S = (Ra e N 44 0 0 0 0 S).bind (K_dispose S) := by
  have e1 : ∀ X, E_R_hasText e N 44 X = some (0, X) := fun _ => rfl
  unfold E_R_dispose Ra
  rw [e1]
  show (E_R_perform e N 44 0 0 0 0 (w_put S 129 4 0)).bind _ = ((E_R_perform e N 44 0 0 0 0 (w_put S 129 4 0)).bind _).bind _
  cases E_R_perform e N 44 0 0 0 0 (w_put S 129 4 0) with
  | none => rfl
  | some q =>
    show (if (q.2.1 129 4) = 0 then _ else _) = (if (q.2.1 129 4) = 0 then _ else _ : e_R).bind _
    by_cases c : q.2.1 129 4 = 0
    · rw [if_pos c, if_pos c, e1]
      show (E_R_note e N 44 0 0 0 0 0 (w_put q.2 129 58 0)).bind _ = ((E_R_note e N 44 0 0 0 0 0 (w_put q.2 129 58 0)).bind _).bind _
      cases E_R_note e N 44 0 0 0 0 0 (w_put q.2 129 58 0) with
      | none => rfl
      | some q1 => rfl
    · rw [if_neg c, if_neg c]
      rfl
def K_batch (S : w_S) (q : Int × w_S) : e_R := (if (q.2.1 129 7) ≤ (S.1 129 7) then some (q.1, q.2) else (if w_nb (7 * (S.1 129 7)) = true then (if w_nb ((7 * (S.1 129 7)) + 1) = true then (if w_frb Tr B_R_batch_129 (q.2.2.1 0) = false then (e_len Tr q.2 (q.2.2.1 0) 0).bind (fun n161 => if 0 ≤ ((7 * (S.1 129 7)) + 1) then (if ((7 * (S.1 129 7)) + 1) < n161 then (if w_nb ((7 * (S.1 129 7)) + 2) = true then (if w_nb (((w_put q.2 (q.2.2.1 0) (((7 * (S.1 129 7)) + 1).toNat) (S.1 129 159)).1 129 159) - (S.1 129 159)) = true then (if w_frb Tr B_R_batch_129 (q.2.2.1 0) = false then (e_len Tr (w_put q.2 (q.2.2.1 0) (((7 * (S.1 129 7)) + 1).toNat) (S.1 129 159)) (q.2.2.1 0) 0).bind (fun n160 => if 0 ≤ ((7 * (S.1 129 7)) + 2) then (if ((7 * (S.1 129 7)) + 2) < n160 then some (q.1, (w_put (w_put q.2 (q.2.2.1 0) (((7 * (S.1 129 7)) + 1).toNat) (S.1 129 159)) (q.2.2.1 0) (((7 * (S.1 129 7)) + 2).toNat) (((w_put q.2 (q.2.2.1 0) (((7 * (S.1 129 7)) + 1).toNat) (S.1 129 159)).1 129 159) - (S.1 129 159)))) else none) else none) else none) else none) else none) else none) else none) else none) else none) else none))
theorem eq_batch (e : w_E) (N : Nat) (S : w_S) : E_R_batch e N S = (Ra e N 41 0 0 0 0 S).bind (K_batch S) := by
  have e1 : ∀ X, E_R_hasText e N 41 X = some (1, X) := fun _ => rfl
  have e2 : ∀ X, E_R_takeTape e N X = some (0, (w_put (w_put X 129 2 (X.1 129 1)) 129 1 0)) := fun _ => rfl
  have e3 : ((1 : Int) = 0) = False := by simp
  unfold E_R_batch Ra
  simp only [e1, e2, Option.bind_some, e3, if_false]
  generalize (w_put (w_put (w_put S 129 4 0) 129 2 ((w_put S 129 4 0).1 129 1)) 129 1 0) = X
  cases E_R_perform e N 41 0 0 0 0 X with
  | none => rfl
  | some q =>
    show (if (q.2.1 129 4) = 0 then _ else _) = (if (q.2.1 129 4) = 0 then _ else _ : e_R).bind _
    by_cases c : q.2.1 129 4 = 0
    · rw [if_pos c, if_pos c]
      cases E_R_note e N 41 0 0 0 0 ((w_put q.2 129 58 0).1 129 2) (w_put q.2 129 58 0) with
      | none => rfl
      | some q1 => rfl
    · rw [if_neg c, if_neg c]
      rfl
theorem m_dispose {e : w_E} {N i : Nat} {S R : w_S} (hN : 16000000 ≤ N) (hi : i < 512) (h : Inv e N i S R) : Ok (E_C_dispose e N S) (fun y S1 => Ok (E_R_dispose e N R) (fun y' R1 => y' = y ∧ Inv e N (i + 1) S1 R1)) := by
  have q := t_act (k := 31) (a := 0) (b := 0) (c := 0) (d := 0) hN hi (by decide) (by decide) h
  refine ok_b (q.mono (fun y S1 q => ok_s ?_))
  rw [eq_dispose]
  refine ok_b (Ok.mono (show Ok (Ra e N 44 0 0 0 0 R) _ from q) (fun y' R1 r => ?_))
  obtain ⟨hA, hB⟩ := r
  have hy := hA.1 (by decide) (by decide)
  unfold K_dispose
  dsimp only
  rcases hB with ⟨_, z, hI⟩ | ⟨hy0, t, a1, a2, a3, a4, a5, hI, _⟩
  · exact ok_t (by omega) (ok_s ⟨hy, hI⟩)
  · have fr : w_frb Tr B_R_dispose_129 131 = false := by decide +kernel
    rw [a1, a3, a4, show (7 * (t : Int) + 1).toNat = 7 * t + 1 by omega]
    refine ok_e (by omega) (ok_nb (by omega) (ok_nb (by omega) (ok_t fr (ok_len a5 ?_))))
    with_reducible refine ok_t (by omega) (ok_t (by omega) (ok_s ⟨hy, ?_⟩))
    exact hI
theorem m_batch {e : w_E} {N i : Nat} {S R : w_S} (hN : 16000000 ≤ N) (hi : i < 512) (h : Inv e N i S R) : Ok (E_C_batch e N S) (fun y S1 => Ok (E_R_batch e N R) (fun y' R1 => y' = y ∧ Inv e N (i + 1) S1 R1)) := by
  have q := t_act (k := 42) (a := 0) (b := 0) (c := 0) (d := 0) hN hi (by decide) (by decide) h
  refine ok_b (q.mono (fun y S1 q => ok_s ?_))
  rw [eq_batch]
  refine ok_b (Ok.mono (show Ok (Ra e N 41 0 0 0 0 R) _ from q) (fun y' R1 r => ?_))
  obtain ⟨hA, hB⟩ := r
  have hy := hA.1 (by decide) (by decide)
  unfold K_batch
  dsimp only
  rcases hB with ⟨_, z, hI⟩ | ⟨hy0, t, a1, a2, a3, a4, a5, hI, b1, b2, b3, b4⟩
  · exact ok_t (by omega) (ok_s ⟨hy, hI⟩)
  · have fr : w_frb Tr B_R_batch_129 131 = false := by decide +kernel
    have r1 : (w_put R1 131 (7 * t + 1) (R.1 129 159)).1 129 159 = R1.1 129 159 := by rw [w_put_f (by decide)]
    rw [a1, a3, a4, show (7 * (t : Int) + 1).toNat = 7 * t + 1 by omega, show (7 * (t : Int) + 2).toNat = 7 * t + 2 by omega, r1]
    refine ok_e (by omega) (ok_nb (by omega) (ok_nb (by omega) (ok_t fr (ok_len a5 ?_))))
    with_reducible refine ok_t (by omega) (ok_t (by omega) (ok_nb (by omega) (ok_nb (by omega) (ok_t fr ?_))))
    refine ok_len (show e_len Tr (w_put R1 131 (7 * t + 1) (R.1 129 159)) 131 0 = some 3584 from a5) ?_
    with_reducible refine ok_t (by omega) (ok_t (by omega) (ok_s ⟨hy, ?_⟩))
    exact hI
end
section
-- h9
/-- what a call that is no act may change, in the class and in the reference -/
abbrev IQa : List Nat := [29, 34, 36, 38, 39, 40, 41, 42, 43, 44, 45, 82, 95, 96, 97, 98, 99, 100, 101, 102, 103, 104, 105, 107, 108, 109, 110, 111, 112, 113, 114, 115, 116, 117, 118, 119, 121, 122, 123, 124, 125, 126, 127]
abbrev IQj : List (Nat × Nat) := [(0, 13), (0, 14), (0, 15), (0, 16), (1, 2), (1, 3), (1, 4), (1, 5), (1, 6), (35, 4), (37, 0), (94, 3), (94, 5), (94, 6), (94, 12), (94, 15), (106, 2), (106, 4), (106, 8), (106, 9), (120, 0)]
abbrev IRa : List Nat := [130, 150, 151, 152, 153, 154, 155, 156, 157, 158, 159, 160, 161, 162, 163, 164, 165, 166, 179, 184, 185, 192, 193, 194, 195, 196, 199, 200, 203, 212, 232, 233, 234, 235, 236]
abbrev IRj : List (Nat × Nat) := [(129, 1), (129, 2), (129, 3), (129, 4), (129, 8), (129, 9), (129, 10), (129, 11), (129, 37), (129, 39), (129, 40), (129, 46), (129, 48), (129, 51), (129, 55), (129, 56), (129, 57), (129, 58), (129, 59), (129, 60), (129, 97), (129, 100), (129, 102), (129, 137), (129, 138), (129, 139)]
theorem Core.q {e : w_E} {N i t sa Ls : Nat} {S R S1 R1 : w_S} (h : Core e N i S R t sa Ls) (hf : frm (2 :: IQa) NO IQj S S1) (h2 : ∀ p : Nat, (p : Int) < kp (S.1 128) t → S1.1 2 p = S.1 2 p) (hb : ∀ p, -128 ≤ S1.1 2 p ∧ S1.1 2 p ≤ 127) (hg : frm IRa [129] IRj R R1) : Core e N (i + 1) S1 R1 t sa Ls := by
  have ln := h.lens
  obtain ⟨h1, g2, h3, h4, h5, h6, ⟨h7, h7b, h7c, h7d⟩, h8, h9, h10, h11, h12, h13⟩ := h
  have c128 : S1.1 128 = S.1 128 := hf.2.1 128 rfl rfl
  have smS : Same (kp (S.1 128) t) S S1 := Same.fm (hf.weak (by decide)) h2
  have taR : R.2.1 2 = 140 ∨ 238 ≤ R.2.1 2 := by
    obtain ⟨ta, L, E, V, n, hh⟩ := h11 S h10
    exact hh.ta
  have nx : R.2.2.2.1 ≤ 899000 := by
    obtain ⟨ta, L, E, V, n, hh⟩ := h11 S h10
    exact hh.2.2.2.2.2.2.2.2.2.2.2.2.2.1.1.2.2.2.2.1
  have fn : frn R R1 := frn.of hg (by decide) taR
  have e2 : R1.2 = R.2 := hg.1
  have r131 : R1.1 131 = R.1 131 := hg.2.1 131 rfl rfl
  have r237 : R1.1 237 = R.1 237 := hg.2.1 237 rfl rfl
  have r159 : R1.1 129 159 = R.1 129 159 := hg.2.2 129 159 rfl rfl
  have r17 : R1.1 129 17 = R.1 129 17 := hg.2.2 129 17 rfl rfl
  have rsa : R1.1 sa = R.1 sa := by
    rcases h7.2.2.1 with z | z
    · rw [z]
      exact hg.2.1 132 rfl rfl
    · have := hck_hi (L' := IRa) (O' := [129]) (by decide) z
      exact hg.2.1 sa this.1 this.2
  have tt : ∀ k, k ≤ t → ∀ p : Nat, (p : Int) < kp (S.1 128) k → S1.1 2 p = S.1 2 p := fun k hk p hp => h2 p (by
    have := kp_le ln hk
    omega)
  refine ⟨by rw [hf.2.2 0 12 rfl rfl]; exact h1, by omega, by rw [hf.2.2 1 1 rfl rfl, c128]; exact h3, by rw [c128]; exact h4, hb, ⟨by rw [e2]; exact Nat.le_trans h6.1 (Nat.add_le_add_left (Nat.mul_le_mul_left 500 (Nat.le_succ i)) 238), by rw [tl_cg e2, e2]; exact h6.2⟩, ⟨?_, by rw [e2]; exact h7b, by rw [c128]; exact h7c, fun p hp => ?_⟩, by rw [c128, r131]; exact h8, by rw [r159, r17]; exact h9, ?_, ?_, fun k hk => ?_, by rw [c128, r131]; exact h13⟩
  · obtain ⟨t1, t2, t3, t4, t5, t6, t7, t8⟩ := h7
    refine ⟨by rw [e2]; exact t1, by rw [e2]; exact t2, t3, by rw [e2]; exact t4, ?_, t6, t7, ?_⟩
    · unfold e_len w_a at t5 ⊢
      rw [e2]
      exact t5
    · unfold e_len w_a at t8 ⊢
      rw [e2]
      exact t8
  · rw [c128] at hp
    rw [rsa, h2 p hp]
    exact h7d p hp
  · rw [c128]
    exact (h10.cg (fun _ _ => rfl) ln (tt t (Nat.le_refl t))).same smS
  · rw [c128]
    exact (h11.cg (fun _ _ => rfl) ln (tt t (Nat.le_refl t))).rf fn (by rw [e2]; exact nx)
  · rw [c128]
    refine (h12 k hk).cg (fun _ _ => rfl) (fun i hi => ln i (by omega)) (tt (k + 1) (by omega)) (by rw [r131]) (by rw [r131]) (fun z => ?_)
    obtain ⟨X, X1, _, _, _, _, _, _, g6⟩ := h12 k hk
    obtain ⟨g1, g2, g3, _⟩ := g6 z
    rw [r159, r237]
    exact ⟨by omega, fun _ _ => rfl⟩
theorem Num.fr {S R S1 R1 : w_S} {t : Nat} {L O L' O' : List Nat} {J J' : List (Nat × Nat)} (h : Num S R t) (hf : frm L O J S S1) (hg : frm L' O' J' R R1) (dd : (ckA L O [] && (ckS L J [(0, 12), (0, 13), (0, 14), (0, 15), (0, 16)] && (ckA L' O' [] && ckS L' J' [(129, 7), (129, 8), (129, 9), (129, 10), (129, 11)]))) = true) : Num S1 R1 t := by
  have d := ck4 dd
  have c13 : S1.1 0 13 = S.1 0 13 := hf.2.2 0 13 (d.2.1 (0, 13) (by decide)).1 (d.2.1 (0, 13) (by decide)).2
  have c14 : S1.1 0 14 = S.1 0 14 := hf.2.2 0 14 (d.2.1 (0, 14) (by decide)).1 (d.2.1 (0, 14) (by decide)).2
  have c16 : S1.1 0 16 = S.1 0 16 := hf.2.2 0 16 (d.2.1 (0, 16) (by decide)).1 (d.2.1 (0, 16) (by decide)).2
  obtain ⟨h1, h2⟩ := h
  refine ⟨h1.fr hf hg dd, ?_⟩
  rw [c13, c14, c16]
  exact h2
theorem Ask.fr {S R S1 R1 : w_S} {L O L' O' : List Nat} {J J' : List (Nat × Nat)} (h : Ask S R) (hf : frm L O J S S1) (hg : frm L' O' J' R R1) (dd : (ckA L O [107, 108, 111, 115, 116, 117, 118, 119] && (ckS L J [(106, 2), (106, 4), (106, 8), (3, 0)] && (ckA L' O' [151, 160, 196, 232, 233, 234, 235, 236] && ckS L' J' [(129, 39), (129, 51), (129, 102)]))) = true) : Ask S1 R1 := by
  have d := ck4 dd
  have ca : ∀ a, [107, 108, 111, 115, 116, 117, 118, 119].contains a = true → S1.1 a = S.1 a := fun a ha => hf.2.1 a (d.1 a ha).1 (d.1 a ha).2
  have cb : ∀ a j, [(106, 2), (106, 4), (106, 8), (3, 0)].contains (a, j) = true → S1.1 a j = S.1 a j := fun a j ha => hf.2.2 a j (d.2.1 (a, j) ha).1 (d.2.1 (a, j) ha).2
  have ra : ∀ a, [151, 160, 196, 232, 233, 234, 235, 236].contains a = true → R1.1 a = R.1 a := fun a ha => hg.2.1 a (d.2.2.1 a ha).1 (d.2.2.1 a ha).2
  have rb : ∀ j, [(129, 39), (129, 51), (129, 102)].contains (129, j) = true → R1.1 129 j = R.1 129 j := fun j ha => hg.2.2 129 j (d.2.2.2 (129, j) ha).1 (d.2.2.2 (129, j) ha).2
  obtain ⟨h1, h2, h3, h4, h5⟩ := h
  refine ⟨?_, ?_, h3.cg (cb 106 4 rfl) (ca 108 rfl) (cb 3 0 rfl) (rb 51 rfl) (ra 160 rfl), h4.cg (cb 106 8 rfl) (ca 111 rfl) (rb 102 rfl) (rb 51 rfl) (ra 196 rfl), h5.cg hg.1⟩
  · unfold RelK at h1 ⊢
    rw [ca 115 rfl, ca 116 rfl, ca 117 rfl, ca 118 rfl, ca 119 rfl, ra 232 rfl, ra 233 rfl, ra 234 rfl, ra 235 rfl, ra 236 rfl]
    exact h1
  · unfold RelPr at h2 ⊢
    rw [cb 106 2 rfl, ca 107 rfl, rb 39 rfl, ra 151 rfl]
    exact h2
/-- all of the house, and its parts are where they were -/
theorem Val.hs {S R : w_S} {t : Nat} (h : Val S R t) : ∃ ta L E V n, Hs S R (t : Int) (kp (S.1 128) t) ta L E V n := by
  obtain ⟨ta, L, E, V, n, hh, _⟩ := h
  exact ⟨ta, L, E, V, n, hh⟩
theorem Val.fr {S R S1 R1 : w_S} {t : Nat} {L O L' O' : List Nat} {J J' : List (Nat × Nat)} (h : Val S R t) (hf : frm L O J S S1) (hg : frm L' O' J' R R1) (d1 : (L.all (fun b => IQa.contains b) && (O.all (fun b => NO.contains b) && J.all (fun b => IQj.contains b))) = true) (d2 : (L'.all (fun b => IRa.contains b) && (O'.all (fun b => [129].contains b) && J'.all (fun b => IRj.contains b))) = true) (dd : (ckA L O [108] && (ckS L J [(106, 4)] && (ckA L' O' [163, 164, 165] && ckS L' J' [(129, 58), (129, 59), (129, 60)]))) = true) : Val S1 R1 t := by
  obtain ⟨ta, L0, E, V, n, hh, hv⟩ := h
  have d := ck4 dd
  have hf2 : frm IQa NO IQj S S1 := hf.weak d1
  have hg2 : frm IRa [129] IRj R R1 := hg.weak d2
  have c128 : S1.1 128 = S.1 128 := hf2.2.1 128 rfl rfl
  have hta : R.2.1 2 = ta := hh.2.2.2.2.2.2.2.2.2.2.2.2.2.1.1.1
  have fn : frn R R1 := frn.of hg2 (by decide) hh.ta
  have nx : R.2.2.2.1 ≤ 899000 := hh.2.2.2.2.2.2.2.2.2.2.2.2.2.1.1.2.2.2.2.1
  refine ⟨ta, L0, E, V, n, ?_, ?_⟩
  · rw [c128]
    exact (hh.same (Same.of hf2 (by decide))).rf fn (by rw [hg.1]; exact nx)
  · rw [c128]
    refine hv.cg (fun a ha => ?_) (hf.2.2 106 4 (d.2.1 (106, 4) (by decide)).1 (d.2.1 (106, 4) (by decide)).2) (fun a ha => ?_) (fn.2.1 12 rfl) (hg.2.2 129 58 (d.2.2.2 (129, 58) (by decide)).1 (d.2.2.2 (129, 58) (by decide)).2) (hg.2.2 129 59 (d.2.2.2 (129, 59) (by decide)).1 (d.2.2.2 (129, 59) (by decide)).2) (hg.2.2 129 60 (d.2.2.2 (129, 60) (by decide)).1 (d.2.2.2 (129, 60) (by decide)).2) (fun v d F => nmo_fn fn v d F)
    · rcases (show a = 2 ∨ a = 4 ∨ a = 5 ∨ a = 8 ∨ a = 9 ∨ a = 10 ∨ a = 11 ∨ a = 12 ∨ a = 13 ∨ a = 14 ∨ a = 15 ∨ a = 16 ∨ a = 108 by omega) with rfl | rfl | rfl | rfl | rfl | rfl | rfl | rfl | rfl | rfl | rfl | rfl | rfl
      all_goals first | exact hf2.2.1 _ rfl rfl | exact hf.2.1 108 (d.1 108 (by decide)).1 (d.1 108 (by decide)).2
    · rcases ha with ha | ha | ha
      · rcases (show a = 136 ∨ a = 137 ∨ a = 138 ∨ a = 139 ∨ a = 140 ∨ a = 141 ∨ a = 142 ∨ a = 143 ∨ a = 144 ∨ a = 145 ∨ a = 146 ∨ a = 147 ∨ a = 148 ∨ a = 149 by omega) with rfl | rfl | rfl | rfl | rfl | rfl | rfl | rfl | rfl | rfl | rfl | rfl | rfl | rfl
        all_goals exact fn.1 _ (by decide) rfl (by decide)
      · rw [ha, ← hta]
        exact fn.2.2.2.1
      · rcases (show a = 163 ∨ a = 164 ∨ a = 165 by omega) with rfl | rfl | rfl
        all_goals exact hg.2.1 _ (d.2.2.1 _ (by decide)).1 (d.2.2.1 _ (by decide)).2
/-- a call that is no act, and the tape stays -/
theorem Inv.q {e : w_E} {N i : Nat} {S R S1 R1 : w_S} {L O L' O' : List Nat} {J J' : List (Nat × Nat)} (h : Inv e N i S R) (hf : frm L O J S S1) (hg : frm L' O' J' R R1) (d1 : (L.all (fun b => IQa.contains b) && (O.all (fun b => NO.contains b) && J.all (fun b => IQj.contains b))) = true) (d2 : (L'.all (fun b => IRa.contains b) && (O'.all (fun b => [129].contains b) && J'.all (fun b => IRj.contains b))) = true) (num : ∀ t : Nat, S.1 0 12 = (t : Int) → Num S R t → Num S1 R1 t) (tp : RelTp S R → RelTp S1 R1 ∧ S1.1 1 2 ≤ S.1 1 2) (ask : Ask S R → Ask S1 R1) (val : ∀ t : Nat, S.1 0 12 = (t : Int) → Val S R t → Val S1 R1 t) : Inv e N (i + 1) S1 R1 := by
  obtain ⟨t, sa, Ls, hC, hnum, ⟨htp, h20⟩, hask, hval⟩ := h
  have hf2 : frm IQa NO IQj S S1 := hf.weak d1
  have c2 : S1.1 2 = S.1 2 := hf2.2.1 2 rfl rfl
  obtain ⟨p1, p2⟩ := tp htp
  refine ⟨t, sa, Ls, hC.q (hf2.weak (by decide)) (fun p _ => by rw [c2]) (fun p => by rw [c2]; exact hC.2.2.2.2.1 p) (hg.weak d2), num t hC.1 hnum, ⟨p1, ?_⟩, ask hask, val t hC.1 hval⟩
  rw [hf2.2.2 1 1 rfl rfl]
  omega
/-- a call that changes nothing -/
theorem Inv.up {e : w_E} {N i : Nat} {S R : w_S} (h : Inv e N i S R) : Inv e N (i + 1) S R := h.q (L := []) (O := []) (J := []) (L' := []) (O' := []) (J' := []) (frm.refl _ _ _ _) (frm.refl _ _ _ _) (by decide) (by decide) (fun _ _ z => z) (fun z => ⟨z, Int.le_refl _⟩) (fun z => z) (fun _ _ z => z)
theorem Inv.hs {e : w_E} {N i : Nat} {S R : w_S} (h : Inv e N i S R) : ∃ (t : Nat) (top : Int) (ta L E V n : Nat), Hs S R (t : Int) top ta L E V n ∧ (t : Int) ≤ 512 ∧ top ≤ 10240 ∧ (∀ p, -128 ≤ S.1 2 p ∧ S.1 2 p ≤ 127) ∧ S.1 0 12 = (t : Int) ∧ top = kp (S.1 128) t := by
  obtain ⟨t, sa, Ls, hC, hnum, ⟨htp, h20⟩, hask, hval⟩ := h
  obtain ⟨ta, L, E, V, n, hh⟩ := hval.hs
  have h7 := hnum.1.2.2.2.2.2.2.1
  have h1 := hC.1
  exact ⟨t, kp (S.1 128) t, ta, L, E, V, n, hh, by omega, hC.2.2.2.1, hC.2.2.2.2.1, h1, rfl⟩
theorem q_eq {e : w_E} {N i : Nat} {S R : w_S} {c r : e_R} (h : Inv e N i S R) (q : Ok c (fun y S1 => Ok r (fun y' R1 => y' = y ∧ S1 = S ∧ R1 = R))) : Ok c (fun y S1 => Ok r (fun y' R1 => y' = y ∧ Inv e N (i + 1) S1 R1)) := q.mono (fun y S1 k => k.mono (fun y' R1 r => by
  obtain ⟨r1, rfl, rfl⟩ := r
  exact ⟨r1, h.up⟩))
end
