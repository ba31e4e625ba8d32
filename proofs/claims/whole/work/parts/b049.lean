section
-- gp
/-- the house's day -/
theorem Hs.day {S R : w_S} {t top : Int} {ta L E V n : Nat} (h : Hs S R t top ta L E V n) : R.1 129 12 = S.1 27 1 ∧ 0 ≤ S.1 27 1 ∧ S.1 27 1 ≤ 50000 := ⟨h.2.2.1.1.2.2.1, h.2.2.1.1.1, h.2.2.1.1.2.1⟩
theorem h_reader {e : w_E} {N : Nat} {S R : w_S} {x1 t top : Int} {ta L E V n : Nat} (hN : 16000000 ≤ N) (hH : Hs S R t top ta L E V n) (ht : 0 ≤ t) (ht2 : t ≤ 512) : Ok (E_Readers_addReader e N x1 S) (fun y S1 => Ok (E_R_doReader e N x1 R) (fun y' R1 => y' = y ∧ PH S R t top top ta L E V n y S1 R1)) := (t_reader hH.2.2.1 ht).mono (fun _ _ k => k.mono (fun _ _ q => pa_l hH q))
theorem h_pickup {e : w_E} {N : Nat} {S R : w_S} {x1 x2 t top : Int} {ta L E V n : Nat} (hN : 16000000 ≤ N) (hH : Hs S R t top ta L E V n) (ht : 0 ≤ t) (ht2 : t ≤ 512) : Ok (E_Readers_setPickup e N x1 x2 S) (fun y S1 => Ok (E_R_doPickup e N x1 x2 R) (fun y' R1 => y' = y ∧ PH S R t top top ta L E V n y S1 R1)) := (t_pickup hH.2.2.1 ht).mono (fun _ _ k => k.mono (fun _ _ q => pa_l hH q))
theorem h_closed {e : w_E} {N : Nat} {S R : w_S} {x1 t top : Int} {ta L E V n : Nat} (hN : 16000000 ≤ N) (hH : Hs S R t top ta L E V n) (ht : 0 ≤ t) (ht2 : t ≤ 512) : Ok (E_RuleBook_closeDay e N x1 S) (fun y S1 => Ok (E_R_doClosed e N x1 R) (fun y' R1 => y' = y ∧ PH S R t top top ta L E V n y S1 R1)) := (t_closed (by omega) hH.2.2.1 ht).mono (fun _ _ k => k.mono (fun _ _ q => pa_l hH q))
theorem h_away {e : w_E} {N : Nat} {S R : w_S} {x1 t top : Int} {ta L E V n : Nat} (hN : 16000000 ≤ N) (hH : Hs S R t top ta L E V n) (ht : 0 ≤ t) (ht2 : t ≤ 512) : Ok (E_Lending_putAway e N x1 S) (fun y S1 => Ok (E_R_doAway e N x1 R) (fun y' R1 => y' = y ∧ PH S R t top top ta L E V n y S1 R1)) := (t_away hH.2.2.1 ht).mono (fun _ _ k => k.mono (fun _ _ q => pa_l hH q))
theorem h_unbook {e : w_E} {N : Nat} {S R : w_S} {x1 t top : Int} {ta L E V n : Nat} (hN : 16000000 ≤ N) (hH : Hs S R t top ta L E V n) (ht : 0 ≤ t) (ht2 : t ≤ 512) : Ok (E_Readers_takeBookingBack e N x1 (S.1 27 1) S) (fun y S1 => Ok (E_R_doUnbook e N x1 R) (fun y' R1 => y' = y ∧ PH S R t top top ta L E V n y S1 R1)) := (t_unbook hH.2.2.1 ht).mono (fun _ _ k => k.mono (fun _ _ q => pa_l hH q))
theorem h_lend {e : w_E} {N : Nat} {S R : w_S} {x1 x2 t top : Int} {ta L E V n : Nat} (hN : 16000000 ≤ N) (hH : Hs S R t top ta L E V n) (ht : 0 ≤ t) (ht2 : t ≤ 512) : Ok (E_Lending_lendTo e N x1 x2 S) (fun y S1 => Ok (E_R_doLend e N x1 x2 R) (fun y' R1 => y' = y ∧ PH S R t top top ta L E V n y S1 R1)) := (t_lend (by omega) hH.2.2.1 ht ht2).mono (fun _ _ k => k.mono (fun _ _ q => pa_l hH q))
theorem h_renew {e : w_E} {N : Nat} {S R : w_S} {x1 t top : Int} {ta L E V n : Nat} (hN : 16000000 ≤ N) (hH : Hs S R t top ta L E V n) (ht : 0 ≤ t) (ht2 : t ≤ 512) : Ok (E_Lending_renewLoan e N x1 S) (fun y S1 => Ok (E_R_doRenew e N x1 R) (fun y' R1 => y' = y ∧ PH S R t top top ta L E V n y S1 R1)) := (t_renew (by omega) hH.2.2.1 ht ht2).mono (fun _ _ k => k.mono (fun _ _ q => pa_l hH q))
theorem h_home {e : w_E} {N : Nat} {S R : w_S} {x1 x2 t top : Int} {ta L E V n : Nat} (hN : 16000000 ≤ N) (hH : Hs S R t top ta L E V n) (ht : 0 ≤ t) (ht2 : t ≤ 512) : Ok (E_Lending_setHome e N x1 x2 S) (fun y S1 => Ok (E_R_doHome e N x1 x2 R) (fun y' R1 => y' = y ∧ PH S R t top top ta L E V n y S1 R1)) := (t_home (by omega) hH.2.2.1 ht).mono (fun _ _ k => k.mono (fun _ _ q => pa_l hH q))
theorem h_bring {e : w_E} {N : Nat} {S R : w_S} {x1 x2 t top : Int} {ta L E V n : Nat} (hN : 16000000 ≤ N) (hH : Hs S R t top ta L E V n) (ht : 0 ≤ t) (ht2 : t ≤ 512) : Ok (E_Lending_takeBack e N x1 x2 S) (fun y S1 => Ok (E_R_doBring e N x1 x2 R) (fun y' R1 => y' = y ∧ PH S R t top top ta L E V n y S1 R1)) := (t_bring (by omega) hH.2.2.1 ht ht2).mono (fun _ _ k => k.mono (fun _ _ q => pa_l hH q))
theorem h_hold {e : w_E} {N : Nat} {S R : w_S} {x1 x2 x3 t top : Int} {ta L E V n : Nat} (hN : 16000000 ≤ N) (hH : Hs S R t top ta L E V n) (ht : 0 ≤ t) (ht2 : t ≤ 512) : Ok (E_Lending_enterQueue e N x1 x2 x3 S) (fun y S1 => Ok (E_R_doHold e N x1 x2 x3 R) (fun y' R1 => y' = y ∧ PH S R t top top ta L E V n y S1 R1)) := (t_hold (by omega) hH.2.2.1 ht).mono (fun _ _ k => k.mono (fun _ _ q => pa_l hH q))
theorem h_unhold {e : w_E} {N : Nat} {S R : w_S} {x1 x2 t top : Int} {ta L E V n : Nat} (hN : 16000000 ≤ N) (hH : Hs S R t top ta L E V n) (ht : 0 ≤ t) (ht2 : t ≤ 512) : Ok (E_Lending_leaveQueue e N x1 x2 S) (fun y S1 => Ok (E_R_doUnhold e N x1 x2 R) (fun y' R1 => y' = y ∧ PH S R t top top ta L E V n y S1 R1)) := (t_unhold (by omega) hH.2.2.1 ht).mono (fun _ _ k => k.mono (fun _ _ q => pa_l hH q))
theorem h_book {e : w_E} {N : Nat} {S R : w_S} {x1 x2 x3 x4 t top : Int} {ta L E V n : Nat} (hN : 16000000 ≤ N) (hH : Hs S R t top ta L E V n) (ht : 0 ≤ t) (ht2 : t ≤ 512) : Ok (E_Lending_bookCopy e N x1 x2 x3 x4 S) (fun y S1 => Ok (E_R_doBook e N x1 x2 x3 x4 R) (fun y' R1 => y' = y ∧ PH S R t top top ta L E V n y S1 R1)) := (t_book (by omega) hH.2.2.1 ht).mono (fun _ _ k => k.mono (fun _ _ q => pa_l hH q))
theorem h_fund {e : w_E} {N : Nat} {S R : w_S} {x1 t top : Int} {ta L E V n : Nat} (hN : 16000000 ≤ N) (hH : Hs S R t top ta L E V n) (ht : 0 ≤ t) (ht2 : t ≤ 512) : Ok (E_Buying_addFund e N x1 S) (fun y S1 => Ok (E_R_doFund e N x1 R) (fun y' R1 => y' = y ∧ PH S R t top top ta L E V n y S1 R1)) := (t_fund hH.2.1 hH.1 ht ht2).mono (fun _ _ k => k.mono (fun _ _ q => pa_f hH q))
theorem h_order {e : w_E} {N : Nat} {S R : w_S} {x1 x2 t top : Int} {ta L E V n : Nat} (hN : 16000000 ≤ N) (hH : Hs S R t top ta L E V n) (ht : 0 ≤ t) (ht2 : t ≤ 512) : Ok (E_Buying_addOrder e N x1 x2 S) (fun y S1 => Ok (E_R_doOrder e N x1 x2 R) (fun y' R1 => y' = y ∧ PH S R t top top ta L E V n y S1 R1)) := (t_order hH.2.1 hH.1 ht ht2).mono (fun _ _ k => k.mono (fun _ _ q => pa_f hH q))
theorem h_invoice {e : w_E} {N : Nat} {S R : w_S} {x1 x2 t top : Int} {ta L E V n : Nat} (hN : 16000000 ≤ N) (hH : Hs S R t top ta L E V n) (ht : 0 ≤ t) (ht2 : t ≤ 512) : Ok (E_Buying_chargeOrder e N x1 x2 S) (fun y S1 => Ok (E_R_doInvoice e N x1 x2 R) (fun y' R1 => y' = y ∧ PH S R t top top ta L E V n y S1 R1)) := (t_invoice hH.2.1 hH.1 ht ht2).mono (fun _ _ k => k.mono (fun _ _ q => pa_f hH q))
theorem h_cancel {e : w_E} {N : Nat} {S R : w_S} {x1 t top : Int} {ta L E V n : Nat} (hN : 16000000 ≤ N) (hH : Hs S R t top ta L E V n) (ht : 0 ≤ t) (ht2 : t ≤ 512) : Ok (E_Buying_cancelOrder e N x1 S) (fun y S1 => Ok (E_R_doCancel e N x1 R) (fun y' R1 => y' = y ∧ PH S R t top top ta L E V n y S1 R1)) := (t_cancel hH.2.1 hH.1 ht ht2).mono (fun _ _ k => k.mono (fun _ _ q => pa_f hH q))
theorem h_transfer {e : w_E} {N : Nat} {S R : w_S} {x1 x2 x3 t top : Int} {ta L E V n : Nat} (hN : 16000000 ≤ N) (hH : Hs S R t top ta L E V n) (ht : 0 ≤ t) (ht2 : t ≤ 512) : Ok (E_Buying_moveMoney e N x1 x2 x3 S) (fun y S1 => Ok (E_R_doTransfer e N x1 x2 x3 R) (fun y' R1 => y' = y ∧ PH S R t top top ta L E V n y S1 R1)) := (t_transfer hH.2.1 hH.1 ht ht2).mono (fun _ _ k => k.mono (fun _ _ q => pa_f hH q))
theorem h_alter {e : w_E} {N : Nat} {S R : w_S} {x1 x2 x3 x4 t top : Int} {ta L E V n : Nat} (hN : 16000000 ≤ N) (hH : Hs S R t top ta L E V n) (ht : 0 ≤ t) (ht2 : t ≤ 512) : Ok (E_Stores_alterByte e N x1 x2 x3 x4 S) (fun y S1 => Ok (E_R_doAlter e N x1 x2 x3 x4 R) (fun y' R1 => y' = y ∧ PH S R t top top ta L E V n y S1 R1)) := (t_alter hH.2.2.2.1).mono (fun _ _ k => k.mono (fun _ _ q => pa_s hH q))
theorem h_lose {e : w_E} {N : Nat} {S R : w_S} {x1 x2 t top : Int} {ta L E V n : Nat} (hN : 16000000 ≤ N) (hH : Hs S R t top ta L E V n) (ht : 0 ≤ t) (ht2 : t ≤ 512) : Ok (E_Stores_loseCopy e N x1 x2 S) (fun y S1 => Ok (E_R_doLose e N x1 x2 R) (fun y' R1 => y' = y ∧ PH S R t top top ta L E V n y S1 R1)) := (t_lose hH.2.2.2.1).mono (fun _ _ k => k.mono (fun _ _ q => pa_s hH q))
theorem h_mend {e : w_E} {N : Nat} {S R : w_S} {x1 t top : Int} {ta L E V n : Nat} (hN : 16000000 ≤ N) (hH : Hs S R t top ta L E V n) (ht : 0 ≤ t) (ht2 : t ≤ 512) : Ok (E_Stores_mendPackage e N x1 S) (fun y S1 => Ok (E_R_doMend e N x1 R) (fun y' R1 => y' = y ∧ PH S R t top top ta L E V n y S1 R1)) := (t_mend (by omega) hH.2.2.2.1).mono (fun _ _ k => k.mono (fun _ _ q => pa_s hH q))
theorem h_came {e : w_E} {N : Nat} {S R : w_S} {x1 x2 t top : Int} {ta L E V n : Nat} (hN : 16000000 ≤ N) (hH : Hs S R t top ta L E V n) (ht : 0 ≤ t) (ht2 : t ≤ 512) : Ok (E_Buying_receive e N x1 x2 (S.1 27 1) S) (fun y S1 => Ok (E_R_doCame e N x1 x2 R) (fun y' R1 => y' = y ∧ PH S R t top top ta L E V n y S1 R1)) := (t_came hH.2.2.2.2.1 hH.2.2.1.1.2.2.1).mono (fun _ _ k => k.mono (fun _ _ q => pa_b hH q))
theorem h_answers {e : w_E} {N : Nat} {S R : w_S} {x1 x2 t top : Int} {ta L E V n : Nat} (hx : x2 = 0 ∨ x2 = 1) (hH : Hs S R t top ta L E V n) : Ok (E_Stores_setAnswering e N x1 x2 S) (fun y S1 => Ok (E_R_doAnswers e N x1 x2 R) (fun y' R1 => y' = y ∧ PH S R t top top ta L E V n y S1 R1)) := (t_answers hH.2.2.2.1 hx).mono (fun _ _ k => k.mono (fun _ _ q => pa_s hH q))
theorem h_pack {e : w_E} {N : Nat} {S R : w_S} {f len t top : Int} {G : Int → Int} {ta L E V n : Nat} (hN : 16000000 ≤ N) (h : TX S f len G) (hr : TR R len G) (hB : TB S R f len) (hH : Hs S R t top ta L E V n) : Ok (E_Stores_addPackage e N S) (fun y S1 => Ok (E_R_doPack e N R) (fun y' R1 => y' = y ∧ PH S R t top top ta L E V n y S1 R1)) := (t_pack (by omega) h hr hB hH.2.2.2.1).mono (fun _ _ k => k.mono (fun _ _ q => pa_s hH q))
theorem h_back {e : w_E} {N : Nat} {S R : w_S} {x1 t top : Int} {ta L E V n : Nat} (hN : 16000000 ≤ N) (hH : Hs S R t top ta L E V n) (ht : 0 ≤ t) (ht2 : t ≤ 512) : Ok (E_Lending_tellPlace e N x1 0 S) (fun y0 S0 => Ok (E_Lending_takeBack e N x1 y0 S0) (fun y S1 => Ok (E_R_doBack e N x1 R) (fun y' R1 => y' = y ∧ PH S R t top top ta L E V n y S1 R1))) := (t_back (by omega) hH.2.2.1 ht ht2).mono (fun _ _ k => k.mono (fun _ _ k => k.mono (fun _ _ q => pa_l hH q)))
/-- pay: the answers differ; a reader's debt is asked for behind it -/
theorem h_pay {e : w_E} {N : Nat} {S R : w_S} {x1 x2 t top : Int} {ta L E V n : Nat} (hH : Hs S R t top ta L E V n) (ht : 0 ≤ t) (ht2 : t ≤ 512) : Ok (E_Readers_takeMoney e N x1 x2 S) (fun y S1 => Ok (E_R_doPay e N x1 x2 R) (fun y' R1 => ((y = -1 ∧ y' = -1000000 ∧ ¬ (1 ≤ x1 ∧ x1 ≤ S.1 46 0)) ∨ (y = -2 ∧ y' = -1000001) ∨ (y = 1 ∧ 1 ≤ x1 ∧ x1 ≤ S.1 46 0 ∧ y' = S1.1 48 x1.toNat)) ∧ PH S R t top top ta L E V n y S1 R1)) := (t_pay hH.2.2.1 ht ht2).mono (fun y S1 k => k.mono (fun y' R1 q => by
  rcases q with ⟨a, b, c, d, e1⟩ | ⟨a, b, d, e1⟩ | ⟨a, b, c, d, e1⟩
  · subst d
    subst e1
    exact ⟨Or.inl ⟨a, b, c⟩, PH.no hH (by omega)⟩
  · subst d
    subst e1
    exact ⟨Or.inr (Or.inl ⟨a, b⟩), PH.no hH (by omega)⟩
  · exact ⟨Or.inr (Or.inr ⟨a, b, c, d⟩), (pa_l (y := y) (y' := y) hH ⟨rfl, Or.inr ⟨by omega, e1⟩⟩).2⟩))
end
section
-- gq
theorem h_strict {e : w_E} {N : Nat} {S R : w_S} {x1 t top : Int} {ta L E V n : Nat} (hN : 16000000 ≤ N) (hx : x1 = 0 ∨ x1 = 1) (hH : Hs S R t top ta L E V n) : Ok (E_RuleBook_setStrict e N x1 S) (fun y S1 => Ok (E_R_doStrict e N x1 R) (fun y' R1 => y' = y ∧ PH S R t top top ta L E V n y S1 R1)) := by
  refine (t_strict hH.2.2.2.2.2.1 hx).mono (fun y S1 k => k.mono (fun y' R1 q => ?_))
  obtain ⟨q1, q2⟩ := q
  refine ⟨q1, ?_⟩
  rcases q2 with ⟨a, b, c⟩ | ⟨a, hf, hg, q3⟩
  · subst b
    subst c
    exact PH.no hH a
  obtain ⟨h1, h2, h3, h4, h5, h6, h7, h8, h9, h10, h11, h12, h13, h14, h15, h16⟩ := hH
  have hF := RelF.cg ⟨h1, h2⟩ hf hg (by decide)
  exact ⟨okC.of hf (by decide), okR.of hg (by decide) (by decide), by rw [hg.1]; omega, Or.inr ⟨a, hg.2.2 129 4 rfl rfl, ta, L, E, V, n, ⟨hF.1, hF.2.up, (h3.fr hf hg (by decide)).up, h4.fr hf hg (by decide), h5.fr hf hg (by decide), q3, h7.fr hf hg (by decide), h8.fr hf hg (by decide), h9.fr hf hg (by decide), h10.fr hf hg (by decide), h11.fr hf hg (by decide), h12.fr hf hg (by decide), h13.fr hf hg (by decide), h14.fr2 hf hg (by decide) (by decide), h15.fr hf hg (by decide), h16.fr hf hg (by decide)⟩, ⟨Nat.le_refl _, Nat.le_refl _⟩⟩⟩
theorem h_freeze {e : w_E} {N : Nat} {S R : w_S} {x1 x2 t top : Int} {ta L E V n : Nat} (hN : 16000000 ≤ N) (hx : x2 = 0 ∨ x2 = 1) (hH : Hs S R t top ta L E V n) : Ok (E_Catalog_setFrozen e N x1 x2 S) (fun y S1 => Ok (E_R_doFreeze e N x1 x2 R) (fun y' R1 => y' = y ∧ PH S R t top top ta L E V n y S1 R1)) := by
  refine (t_freeze hH.2.2.2.2.2.2.1 hH.2.2.1.2.2.2.1 hx).mono (fun y S1 k => k.mono (fun y' R1 q => ?_))
  obtain ⟨q1, q2⟩ := q
  refine ⟨q1, ?_⟩
  rcases q2 with ⟨a, b, c⟩ | ⟨a, hf, hg, q3⟩
  · subst b
    subst c
    exact PH.no hH a
  obtain ⟨h1, h2, h3, h4, h5, h6, h7, h8, h9, h10, h11, h12, h13, h14, h15, h16⟩ := hH
  have hF := RelF.cg ⟨h1, h2⟩ hf hg (by decide)
  exact ⟨okC.of hf (by decide), okR.of hg (by decide) (by decide), by rw [hg.1]; omega, Or.inr ⟨a, hg.2.2 129 4 rfl rfl, ta, L, E, V, n, ⟨hF.1, hF.2.up, (h3.fr hf hg (by decide)).up, h4.fr hf hg (by decide), h5.fr hf hg (by decide), h6.fr hf hg (by decide), q3, h8.fr hf hg (by decide), h9.fr hf hg (by decide), h10.fr hf hg (by decide), h11.fr hf hg (by decide), h12.fr hf hg (by decide), h13.fr hf hg (by decide), h14.fr2 hf hg (by decide) (by decide), h15.fr hf hg (by decide), h16.fr hf hg (by decide)⟩, ⟨Nat.le_refl _, Nat.le_refl _⟩⟩⟩
theorem h_broader {e : w_E} {N : Nat} {S R : w_S} {x1 x2 t top : Int} {ta L E V n : Nat} (hN : 16000000 ≤ N) (hH : Hs S R t top ta L E V n) : Ok (E_Authority_setBroader e N x1 x2 S) (fun y S1 => Ok (E_R_doBroader e N x1 x2 R) (fun y' R1 => y' = y ∧ PH S R t top top ta L E V n y S1 R1)) := by
  refine (t_broader (by omega) hH.2.2.2.2.2.2.2.2.2.2.2.1).mono (fun y S1 k => k.mono (fun y' R1 q => ?_))
  obtain ⟨q1, q2⟩ := q
  refine ⟨q1, ?_⟩
  rcases q2 with ⟨a, b, c⟩ | ⟨a, hf, hg, q3⟩
  · subst b
    subst c
    exact PH.no hH a
  obtain ⟨h1, h2, h3, h4, h5, h6, h7, h8, h9, h10, h11, h12, h13, h14, h15, h16⟩ := hH
  have hF := RelF.cg ⟨h1, h2⟩ hf hg (by decide)
  exact ⟨okC.of hf (by decide), okR.of hg (by decide) (by decide), by rw [hg.1]; omega, Or.inr ⟨a, hg.2.2 129 4 rfl rfl, ta, L, E, V, n, ⟨hF.1, hF.2.up, (h3.fr hf hg (by decide)).up, h4.fr hf hg (by decide), h5.fr hf hg (by decide), h6.fr hf hg (by decide), h7.fr hf hg (by decide), h8.fr hf hg (by decide), h9.fr hf hg (by decide), h10.fr hf hg (by decide), h11.fr hf hg (by decide), q3, h13.fr hf hg (by decide), h14.fr2 hf hg (by decide) (by decide), h15.fr hf hg (by decide), h16.fr hf hg (by decide)⟩, ⟨Nat.le_refl _, Nat.le_refl _⟩⟩⟩
theorem h_rules {e : w_E} {N : Nat} {S R : w_S} {f len t top : Int} {G : Int → Int} {ta L E V n : Nat} (hN : 16000000 ≤ N) (h : TX S f len G) (hr : TR R len G) (h4 : S.1 1 4 = f) (h6 : S.1 1 6 = -1) (hB : TB S R f len) (htop : top ≤ f + len) (hH : Hs S R t top ta L E V n) : Ok (E_RuleBook_readLines e N 0 S) (fun y S1 => Ok (E_R_doRules e N R) (fun y' R1 => y' = y ∧ PH S R t top (f + len) ta L E V n y S1 R1)) := by
  refine (t_rules (by omega) h hr h4 h6).mono (fun y S1 k => k.mono (fun y' R1 q => ?_))
  obtain ⟨q1, q2⟩ := q
  refine ⟨q1, ?_⟩
  rcases q2 with ⟨a, ⟨hf, hg⟩, c⟩ | ⟨a, ⟨hf, hg, q3⟩, c⟩
  · exact ⟨okC.of hf (by decide), okR.of hg (by decide) (by decide), by rw [hg.1]; omega, Or.inl ⟨a, c, Same.of hf (by decide), frn.of hg (by decide) hH.ta⟩⟩
  have hH2 := hH.top htop
  clear hH
  obtain ⟨h1, h2, h3, h4', h5, h6', h7, h8, h9, h10, h11, h12, h13, h14, h15, h16⟩ := hH2
  have hF := RelF.cg ⟨h1, h2⟩ hf hg (by decide)
  exact ⟨okC.of hf (by decide), okR.of hg (by decide) (by decide), by rw [hg.1]; omega, Or.inr ⟨a, c, ta, L, E, V, n, ⟨hF.1, hF.2.up, (show RelL S1 R1 t from ⟨h3.1.fr hf hg (by decide), h3.2.1.fr hf hg (by decide), h3.2.2.1.fr hf hg (by decide), h3.2.2.2.1.fr hf hg (by decide), h3.2.2.2.2.1.fr hf hg (by decide), h3.2.2.2.2.2.1.fr hf hg (by decide), h3.2.2.2.2.2.2.1.fr hf hg (by decide), h3.2.2.2.2.2.2.2.1.fr hf hg (by decide), h3.2.2.2.2.2.2.2.2.1.fr hf hg (by decide), h3.2.2.2.2.2.2.2.2.2.1.fr hf hg (by decide), h3.2.2.2.2.2.2.2.2.2.2.1.fr hf hg (by decide), q3⟩).up, h4'.fr hf hg (by decide), h5.fr hf hg (by decide), h6'.fr hf hg (by decide), h7.fr hf hg (by decide), h8.fr hf hg (by decide), h9.fr hf hg (by decide), h10.fr hf hg (by decide), h11.fr hf hg (by decide), h12.fr hf hg (by decide), h13.fr hf hg (by decide), h14.fr2 hf hg (by decide) (by decide), h15.fr hf hg (by decide), h16.fr hf hg (by decide)⟩, ⟨Nat.le_refl _, Nat.le_refl _⟩⟩⟩
theorem h_route {e : w_E} {N : Nat} {S R : w_S} {f len t top : Int} {G : Int → Int} {ta L E V n : Nat} (hN : 16000000 ≤ N) (h : TX S f len G) (hr : TR R len G) (h4 : S.1 1 4 = f) (h6 : S.1 1 6 = -1) (hB : TB S R f len) (htop : top ≤ f + len) (hH : Hs S R t top ta L E V n) : Ok (E_RuleBook_readLines e N 1 S) (fun y S1 => Ok (E_R_doRoutes e N R) (fun y' R1 => y' = y ∧ PH S R t top (f + len) ta L E V n y S1 R1)) := by
  refine (t_routes (by omega) h hr h4 h6 hH.2.2.1.1).mono (fun y S1 k => k.mono (fun y' R1 q => ?_))
  obtain ⟨q1, q2⟩ := q
  refine ⟨q1, ?_⟩
  rcases q2 with ⟨a, ⟨hf, hg⟩, c⟩ | ⟨a, ⟨hf, hg, q3⟩, c⟩
  · exact ⟨okC.of hf (by decide), okR.of hg (by decide) (by decide), by rw [hg.1]; omega, Or.inl ⟨a, c, Same.of hf (by decide), frn.of hg (by decide) hH.ta⟩⟩
  have hH2 := hH.top htop
  clear hH
  obtain ⟨h1, h2, h3, h4', h5, h6', h7, h8, h9, h10, h11, h12, h13, h14, h15, h16⟩ := hH2
  have hF := RelF.cg ⟨h1, h2⟩ hf hg (by decide)
  exact ⟨okC.of hf (by decide), okR.of hg (by decide) (by decide), by rw [hg.1]; omega, Or.inr ⟨a, c, ta, L, E, V, n, ⟨hF.1, hF.2.up, (show RelL S1 R1 t from ⟨q3, h3.2.1.fr hf hg (by decide), h3.2.2.1.fr hf hg (by decide), h3.2.2.2.1.fr hf hg (by decide), h3.2.2.2.2.1.fr hf hg (by decide), h3.2.2.2.2.2.1.fr hf hg (by decide), h3.2.2.2.2.2.2.1.fr hf hg (by decide), h3.2.2.2.2.2.2.2.1.fr hf hg (by decide), h3.2.2.2.2.2.2.2.2.1.fr hf hg (by decide), h3.2.2.2.2.2.2.2.2.2.1.fr hf hg (by decide), h3.2.2.2.2.2.2.2.2.2.2.1.fr hf hg (by decide), h3.2.2.2.2.2.2.2.2.2.2.2.fr hf hg (by decide)⟩).up, h4'.fr hf hg (by decide), h5.fr hf hg (by decide), h6'.fr hf hg (by decide), h7.fr hf hg (by decide), h8.fr hf hg (by decide), h9.fr hf hg (by decide), h10.fr hf hg (by decide), h11.fr hf hg (by decide), h12.fr hf hg (by decide), h13.fr hf hg (by decide), h14.fr2 hf hg (by decide) (by decide), h15.fr hf hg (by decide), h16.fr hf hg (by decide)⟩, ⟨Nat.le_refl _, Nat.le_refl _⟩⟩⟩
theorem h_checks {e : w_E} {N : Nat} {S R : w_S} {f len t top : Int} {G : Int → Int} {ta L E V n : Nat} (hN : 16000000 ≤ N) (h : TX S f len G) (hr : TR R len G) (h4 : S.1 1 4 = f) (h6 : S.1 1 6 = -1) (hB : TB S R f len) (htop : top ≤ f + len) (hH : Hs S R t top ta L E V n) : Ok (E_RuleBook_readLines e N 2 S) (fun y S1 => Ok (E_R_doChecks e N R) (fun y' R1 => y' = y ∧ PH S R t top (f + len) ta L E V n y S1 R1)) := by
  refine (t_checks (by omega) h hr h4 h6).mono (fun y S1 k => k.mono (fun y' R1 q => ?_))
  obtain ⟨q1, q2⟩ := q
  refine ⟨q1, ?_⟩
  rcases q2 with ⟨a, ⟨hf, hg⟩, c⟩ | ⟨a, ⟨hf, hg, q3⟩, c⟩
  · exact ⟨okC.of hf (by decide), okR.of hg (by decide) (by decide), by rw [hg.1]; omega, Or.inl ⟨a, c, Same.of hf (by decide), frn.of hg (by decide) hH.ta⟩⟩
  have hH2 := hH.top htop
  clear hH
  obtain ⟨h1, h2, h3, h4', h5, h6', h7, h8, h9, h10, h11, h12, h13, h14, h15, h16⟩ := hH2
  have hF := RelF.cg ⟨h1, h2⟩ hf hg (by decide)
  exact ⟨okC.of hf (by decide), okR.of hg (by decide) (by decide), by rw [hg.1]; omega, Or.inr ⟨a, c, ta, L, E, V, n, ⟨hF.1, hF.2.up, (h3.fr hf hg (by decide)).up, h4'.fr hf hg (by decide), h5.fr hf hg (by decide), h6'.fr hf hg (by decide), h7.fr hf hg (by decide), q3, h9.fr hf hg (by decide), h10.fr hf hg (by decide), h11.fr hf hg (by decide), h12.fr hf hg (by decide), h13.fr hf hg (by decide), h14.fr2 hf hg (by decide) (by decide), h15.fr hf hg (by decide), h16.fr hf hg (by decide)⟩, ⟨Nat.le_refl _, Nat.le_refl _⟩⟩⟩
theorem h_retention {e : w_E} {N : Nat} {S R : w_S} {f len t top : Int} {G : Int → Int} {ta L E V n : Nat} (hN : 16000000 ≤ N) (h : TX S f len G) (hr : TR R len G) (h4 : S.1 1 4 = f) (h6 : S.1 1 6 = -1) (hB : TB S R f len) (htop : top ≤ f + len) (hH : Hs S R t top ta L E V n) : Ok (E_RuleBook_readLines e N 3 S) (fun y S1 => Ok (E_R_doRetention e N R) (fun y' R1 => y' = y ∧ PH S R t top (f + len) ta L E V n y S1 R1)) := by
  refine (t_retention (by omega) h hr h4 h6 hB).mono (fun y S1 k => k.mono (fun y' R1 q => ?_))
  obtain ⟨q1, q2⟩ := q
  refine ⟨q1, ?_⟩
  rcases q2 with ⟨a, ⟨hf, hg⟩, c⟩ | ⟨a, ⟨hf, hg, q3⟩, c⟩
  · exact ⟨okC.of hf (by decide), okR.of hg (by decide) (by decide), by rw [hg.1]; omega, Or.inl ⟨a, c, Same.of hf (by decide), frn.of hg (by decide) hH.ta⟩⟩
  have hH2 := hH.top htop
  clear hH
  obtain ⟨h1, h2, h3, h4', h5, h6', h7, h8, h9, h10, h11, h12, h13, h14, h15, h16⟩ := hH2
  have hF := RelF.cg ⟨h1, h2⟩ hf hg (by decide)
  exact ⟨okC.of hf (by decide), okR.of hg (by decide) (by decide), by rw [hg.1]; omega, Or.inr ⟨a, c, ta, L, E, V, n, ⟨hF.1, hF.2.up, (h3.fr hf hg (by decide)).up, h4'.fr hf hg (by decide), h5.fr hf hg (by decide), h6'.fr hf hg (by decide), h7.fr hf hg (by decide), h8.fr hf hg (by decide), q3, h10.fr hf hg (by decide), h11.fr hf hg (by decide), h12.fr hf hg (by decide), h13.fr hf hg (by decide), h14.fr2 hf hg (by decide) (by decide), h15.fr hf hg (by decide), h16.fr hf hg (by decide)⟩, ⟨Nat.le_refl _, Nat.le_refl _⟩⟩⟩
theorem h_mark {e : w_E} {N : Nat} {S R : w_S} {x1 f len t top : Int} {G : Int → Int} {ta L E V n : Nat} (hN : 16000000 ≤ N) (h : TX S f len G) (hr : TR R len G) (h4 : S.1 1 4 = f) (h6 : S.1 1 6 = -1) (hB : TB S R f len) (htop : top ≤ f + len) (hH : Hs S R t top ta L E V n) : Ok (E_Lending_setMark e N x1 S) (fun y S1 => Ok (E_R_doMark e N x1 R) (fun y' R1 => y' = y ∧ PH S R t top (f + len) ta L E V n y S1 R1)) := by
  refine (t_mark (by omega) h hr h4 h6 hB hH.2.2.1 hH.2.2.2.2.2.2.2.2.2.1).mono (fun y S1 k => k.mono (fun y' R1 q => ?_))
  obtain ⟨q1, q2⟩ := q
  refine ⟨q1, ?_⟩
  rcases q2 with ⟨a, ⟨hf, hg⟩, c⟩ | ⟨a, ⟨hf, hg, q3⟩, c⟩
  · exact ⟨okC.of hf (by decide), okR.of hg (by decide) (by decide), by rw [hg.1]; omega, Or.inl ⟨a, c, Same.of hf (by decide), frn.of hg (by decide) hH.ta⟩⟩
  have hH2 := hH.top htop
  clear hH
  obtain ⟨h1, h2, h3, h4', h5, h6', h7, h8, h9, h10, h11, h12, h13, h14, h15, h16⟩ := hH2
  have hF := RelF.cg ⟨h1, h2⟩ hf hg (by decide)
  exact ⟨okC.of hf (by decide), okR.of hg (by decide) (by decide), by rw [hg.1]; omega, Or.inr ⟨a, c, ta, L, E, V, n, ⟨hF.1, hF.2.up, (h3.fr hf hg (by decide)).up, h4'.fr hf hg (by decide), h5.fr hf hg (by decide), h6'.fr hf hg (by decide), h7.fr hf hg (by decide), h8.fr hf hg (by decide), h9.fr hf hg (by decide), q3, h11.fr hf hg (by decide), h12.fr hf hg (by decide), h13.fr hf hg (by decide), h14.fr2 hf hg (by decide) (by decide), h15.fr hf hg (by decide), h16.fr hf hg (by decide)⟩, ⟨Nat.le_refl _, Nat.le_refl _⟩⟩⟩
theorem h_serial {e : w_E} {N : Nat} {S R : w_S} {x1 f len t top : Int} {G : Int → Int} {ta L E V n : Nat} (hN : 16000000 ≤ N) (h : TX S f len G) (hr : TR R len G) (h4 : S.1 1 4 = f) (h6 : S.1 1 6 = -1) (hB : TB S R f len) (htop : top ≤ f + len) (hx : 1 ≤ x1 ∧ x1 ≤ S.1 3 0 ∧ S.1 5 x1.toNat = -1) (hH : Hs S R t top ta L E V n) : Ok (E_Buying_addSerial e N x1 (S.1 27 1) S) (fun y S1 => Ok (E_R_doSerial e N x1 R) (fun y' R1 => y' = y ∧ PH S R t top (f + len) ta L E V n y S1 R1)) := by
  refine (t_serial (by omega) h hr h4 h6 hH.2.2.2.2.1 hH.2.2.1.2.2.2.1 hx hH.day.1 hH.day.2.1 hH.day.2.2).mono (fun y S1 k => k.mono (fun y' R1 q => ?_))
  obtain ⟨q1, q2⟩ := q
  refine ⟨q1, ?_⟩
  rcases q2 with ⟨a, ⟨hf, hg⟩, c⟩ | ⟨a, ⟨hf, hg, q3⟩, c⟩
  · exact ⟨okC.of hf (by decide), okR.of hg (by decide) (by decide), by rw [hg.1]; omega, Or.inl ⟨a, c, Same.of hf (by decide), frn.of hg (by decide) hH.ta⟩⟩
  have hH2 := hH.top htop
  clear hH
  obtain ⟨h1, h2, h3, h4', h5, h6', h7, h8, h9, h10, h11, h12, h13, h14, h15, h16⟩ := hH2
  have hF := RelF.cg ⟨h1, h2⟩ hf hg (by decide)
  exact ⟨okC.of hf (by decide), okR.of hg (by decide) (by decide), by rw [hg.1]; omega, Or.inr ⟨a, c, ta, L, E, V, n, ⟨hF.1, hF.2.up, (h3.fr hf hg (by decide)).up, h4'.fr hf hg (by decide), q3, h6'.fr hf hg (by decide), h7.fr hf hg (by decide), h8.fr hf hg (by decide), h9.fr hf hg (by decide), h10.fr hf hg (by decide), h11.fr hf hg (by decide), h12.fr hf hg (by decide), h13.fr hf hg (by decide), h14.fr2 hf hg (by decide) (by decide), h15.fr hf hg (by decide), h16.fr hf hg (by decide)⟩, ⟨Nat.le_refl _, Nat.le_refl _⟩⟩⟩
end
section
-- gr
/-- a run leaves the names alone -/
def Pk (R : w_S) (r : e_R) : Prop := ∀ v S, r = some (v, S) → S.1 142 = R.1 142 ∧ S.1 143 = R.1 143 ∧ S.1 129 26 = R.1 129 26
def Jk (R S : w_S) : Prop := S.1 142 = R.1 142 ∧ S.1 143 = R.1 143 ∧ S.1 129 26 = R.1 129 26
theorem pk_n {R : w_S} : Pk R none := fun v S h => by cases h
theorem pk_s {R : w_S} {v : Int} {S : w_S} (h : Jk R S) : Pk R (some (v, S)) := fun v' S' h' => by
  cases h'
  exact h
theorem pk_i {R : w_S} {c : Prop} [Decidable c] {a b : e_R} (h1 : c → Pk R a) (h2 : ¬ c → Pk R b) : Pk R (if c then a else b) := by
  by_cases h : c
  · rw [if_pos h]
    exact h1 h
  · rw [if_neg h]
    exact h2 h
theorem pk_b {R : w_S} {r : e_R} {k : Int × w_S → e_R} (h : Pk R r) (hk : ∀ q : Int × w_S, Jk R q.2 → Pk R (k q)) : Pk R (r.bind k) := by
  cases r with
  | none => exact pk_n
  | some q => exact hk q (h q.1 q.2 rfl)
theorem pk_l {R : w_S} {r : Option Nat} {k : Nat → e_R} (hk : ∀ q, Pk R (k q)) : Pk R (r.bind k) := by
  cases r with
  | none => exact pk_n
  | some q => exact hk q
theorem pk_at {e : w_E} {N : Nat} {R S : w_S} {x : Int} (h : Jk R S) : Pk R (E_R_at e N x S) := by
  unfold E_R_at
  repeat' (first | exact pk_n | with_reducible refine pk_i (fun _ => ?_) (fun _ => ?_) | with_reducible refine pk_s ?_ | assumption)
theorem pk_rowl {e : w_E} {N : Nat} {R : w_S} : ∀ (n l : Nat) (xs : List Int) (as : List Nat) (S : w_S), Jk R S → Pk R (El_R_row e N n l xs as S)
  | 0, _, _, _, _, _ => by
    rw [El_R_row]
    exact pk_n
  | n + 1, l, xs, as, S, h => by
    have ih := pk_rowl (e := e) (N := N) (R := R) n
    rw [El_R_row.eq_def]
    split
    all_goals try (cases ‹n + 1 = Nat.succ _›)
    all_goals repeat' (first | exact pk_n | exact pk_at (by assumption) | exact ih _ _ _ _ (by assumption) | with_reducible refine pk_b ?_ (fun _ _ => ?_) | with_reducible refine pk_i (fun _ => ?_) (fun _ => ?_) | with_reducible refine pk_s ?_ | assumption)
theorem pk_nol {e : w_E} {N : Nat} {R : w_S} : ∀ (n l : Nat) (xs : List Int) (as : List Nat) (S : w_S), Jk R S → Pk R (El_R_nameOn e N n l xs as S)
  | 0, _, _, _, _, _ => by
    rw [El_R_nameOn]
    exact pk_n
  | n + 1, l, xs, as, S, h => by
    have ih := pk_nol (e := e) (N := N) (R := R) n
    rw [El_R_nameOn.eq_def]
    split
    all_goals try (cases ‹n + 1 = Nat.succ _›)
    all_goals repeat' (first | exact pk_n | exact ih _ _ _ _ (by assumption) | with_reducible refine pk_i (fun _ => ?_) (fun _ => ?_) | with_reducible refine pk_s ?_ | assumption)
theorem pk_no {e : w_E} {N : Nat} {R S : w_S} {x d : Int} (h : Jk R S) : Pk R (E_R_nameOn e N x d S) := by
  unfold E_R_nameOn
  repeat' (first | exact pk_n | exact pk_nol _ _ _ _ _ (by assumption) | with_reducible refine pk_i (fun _ => ?_) (fun _ => ?_) | with_reducible refine pk_s ?_ | assumption)
theorem pk_namel {e : w_E} {N : Nat} {R : w_S} : ∀ (n l : Nat) (xs : List Int) (as : List Nat) (S : w_S), Jk R S → Pk R (El_R_isName e N n l xs as S)
  | 0, _, _, _, _, _ => by
    rw [El_R_isName]
    exact pk_n
  | n + 1, l, xs, as, S, h => by
    have ih := pk_namel (e := e) (N := N) (R := R) n
    rw [El_R_isName.eq_def]
    split
    all_goals try (cases ‹n + 1 = Nat.succ _›)
    all_goals repeat' (first | exact pk_n | exact pk_no (by assumption) | exact ih _ _ _ _ (by assumption) | with_reducible refine pk_b ?_ (fun _ _ => ?_) | with_reducible refine pk_i (fun _ => ?_) (fun _ => ?_) | with_reducible refine pk_s ?_ | assumption)
/-- names that were stay where they were -/
def Jn (R S : w_S) : Prop := (∀ j : Nat, (j : Int) < R.1 129 26 → S.1 142 j = R.1 142 j ∧ S.1 143 j = R.1 143 j) ∧ R.1 129 26 ≤ S.1 129 26
theorem Jn.put {R S : w_S} {b k : Nat} {x : Int} (h : Jn R S) (h1 : b ≠ 142) (h2 : b ≠ 143) (h3 : b ≠ 129) : Jn R (w_put S b k x) := by
  refine ⟨fun j hj => ?_, ?_⟩
  · rw [w_put_f (fun z => h1 z.symm), w_put_f (fun z => h2 z.symm)]
    exact h.1 j hj
  · rw [w_put_f (fun z => h3 z.symm)]
    exact h.2
theorem Jn.inc {R S : w_S} (h : Jn R S) : Jn R (w_put S 129 26 (S.1 129 26 + 1)) := by
  refine ⟨h.1, ?_⟩
  have := h.2
  rw [w_put_r, if_pos rfl, pt_at, if_pos rfl]
  omega
theorem pn_addl {e : w_E} {N : Nat} {R : w_S} : ∀ (n l : Nat) (xs : List Int) (as : List Nat) (S : w_S), Jn R S → ∀ v S1, El_R_addName e N n l xs as S = some (v, S1) → Jn R S1
  | 0, _, _, _, _, _, v, S1, h1 => by
    rw [El_R_addName] at h1
    cases h1
  | n + 1, l, xs, as, S, h, v, S1, h1 => by
    have ih := pn_addl (e := e) (N := N) (R := R) n
    rw [El_R_addName.eq_def] at h1
    split at h1
    all_goals try (cases ‹n + 1 = Nat.succ _›)
    all_goals repeat' (split at h1)
    all_goals first
      | (cases h1; done)
      | (cases h1; exact h.inc)
      | exact ih _ _ _ _ (h.put (by decide) (by decide) (by decide)) _ _ h1
      | skip
theorem pn_add {e : w_E} {N : Nat} {R S : w_S} {x : Int} (h : Jk R S) (h0 : 0 ≤ R.1 129 26) : ∀ v S1, E_R_addName e N x S = some (v, S1) → Jn R S1 := fun v S1 h1 => by
  unfold E_R_addName at h1
  split at h1
  · refine pn_addl _ _ _ _ _ ?_ _ _ h1
    refine Jn.put ⟨fun j hj => ?_, ?_⟩ (by decide) (by decide) (by decide)
    · rw [h.2.2]
      simp only [w_put_r, reduceIte, Nat.reduceEqDiff, pt_at]
      rw [if_neg (by omega), if_neg (by omega), h.1, h.2.1]
      exact ⟨rfl, rfl⟩
    · show R.1 129 26 ≤ S.1 129 26
      rw [h.2.2]
      exact Int.le_refl _
  · cases h1
/-- the same for a whole run: names that were stay -/
def Pn (R : w_S) (r : e_R) : Prop := ∀ v S, r = some (v, S) → Jn R S
theorem pn_n {R : w_S} : Pn R none := fun v S h => by cases h
theorem Jk.jn {R S : w_S} (h : Jk R S) : Jn R S := ⟨fun j _ => by
  rw [h.1, h.2.1]
  exact ⟨rfl, rfl⟩, by rw [h.2.2]; exact Int.le_refl _⟩
theorem pn_s {R : w_S} {v : Int} {S : w_S} (h : Jn R S) : Pn R (some (v, S)) := fun v' S' h' => by
  cases h'
  exact h
theorem pn_i {R : w_S} {c : Prop} [Decidable c] {a b : e_R} (h1 : Pn R a) (h2 : Pn R b) : Pn R (if c then a else b) := by
  by_cases h : c
  · rw [if_pos h]
    exact h1
  · rw [if_neg h]
    exact h2
theorem pn_k {R : w_S} {r : e_R} {k : Int × w_S → e_R} (h : Pk R r) (hk : ∀ q : Int × w_S, Jk R q.2 → Pn R (k q)) : Pn R (r.bind k) := by
  cases r with
  | none => exact pn_n
  | some q => exact hk q (h q.1 q.2 rfl)
theorem pn_b {R : w_S} {r : e_R} {k : Int × w_S → e_R} (h : Pn R r) (hk : ∀ q : Int × w_S, Jn R q.2 → Pn R (k q)) : Pn R (r.bind k) := by
  cases r with
  | none => exact pn_n
  | some q => exact hk q (h q.1 q.2 rfl)
theorem Jk.o {R S : w_S} {x : Int} {k : Nat} (h : Jk R S) (hk : k ≠ 26) : Jk R (w_put S 129 k x) := by
  refine ⟨h.1, h.2.1, ?_⟩
  show pt (S.1 129) k x 26 = _
  rw [pt_at, if_neg (fun z => hk z.symm)]
  exact h.2.2
theorem Jk.p1 {R S : w_S} {x : Int} {k : Nat} (h : Jk R S) : Jk R (w_put S 141 k x) := h
theorem pn_addp {e : w_E} {N : Nat} {R S : w_S} {x : Int} (h : Jk R S) (h0 : 0 ≤ R.1 129 26) : Pn R (E_R_addName e N x S) := fun v S1 hh => pn_add h h0 v S1 hh
theorem pn_addh {e : w_E} {N k : Nat} {R S : w_S} {x y z : Int} (h : Jk R S) (h0 : 0 ≤ R.1 129 26) : Pn R (E_R_addName e N x (w_put (w_put S 129 24 y) 141 k z)) := pn_addp (Jk.p1 (Jk.o h (by decide))) h0
theorem n_rename {e : w_E} {N : Nat} {R : w_S} {x : Int} (h0 : 0 ≤ R.1 129 26) : Pn R (E_R_doRename e N x R) := by
  have hR : Jk R R := ⟨rfl, rfl, rfl⟩
  unfold E_R_doRename E_R_row E_R_isName
  repeat' (first | exact pn_n | exact pk_rowl _ _ _ _ _ (by assumption) | exact pk_namel _ _ _ _ _ (by assumption) | exact pn_addp (by assumption) h0 | with_reducible refine pn_i ?_ ?_ | (with_reducible refine pn_s ?_; exact (Jk.o (by assumption) (by decide)).jn) | (with_reducible refine pn_s ?_; assumption) | with_reducible refine pn_k (pk_rowl _ _ _ _ _ (by assumption)) (fun _ _ => ?_) | with_reducible refine pn_k (pk_namel _ _ _ _ _ (by assumption)) (fun _ _ => ?_) | with_reducible refine pn_b (pn_addp (by assumption) h0) (fun _ _ => ?_))
theorem n_heading {e : w_E} {N : Nat} {R : w_S} (h0 : 0 ≤ R.1 129 26) : Pn R (E_R_doHeading e N R) := by
  have hR : Jk R R := ⟨rfl, rfl, rfl⟩
  unfold E_R_doHeading E_R_row E_R_isName
  repeat' (first | exact pn_n | with_reducible refine pn_i ?_ ?_ | (with_reducible refine pn_s ?_; exact (Jk.o (by assumption) (by decide)).jn) | (with_reducible refine pn_s ?_; assumption) | with_reducible refine pn_k (pk_rowl _ _ _ _ _ (by assumption)) (fun _ _ => ?_) | with_reducible refine pn_k (pk_namel _ _ _ _ _ (by assumption)) (fun _ _ => ?_) | with_reducible refine pn_b (pn_addh (by assumption) h0) (fun _ _ => ?_))
end
section
-- gs
/-- links stay where names are added -/
theorem RelLk.nm {S R S1 R1 : w_S} (h : RelLk S R) (c : ∀ a, 23 ≤ a → a ≤ 26 → S1.1 a = S.1 a) (c7 : S1.1 17 7 = S.1 17 7) (c0 : S.1 17 0 ≤ S1.1 17 0) (c3 : S.1 17 3 ≤ S1.1 17 3) (c1 : S1.1 27 1 = S.1 27 1) (d : ∀ a, 146 ≤ a → a ≤ 149 → R1.1 a = R.1 a) (d31 : R1.1 129 31 = R.1 129 31) (h26 : R.1 129 26 = S.1 17 3) (hj : Jn R R1) : RelLk S1 R1 := by
  obtain ⟨h1, h2, h3, h4⟩ := h
  refine ⟨by rw [d31, c7]; exact h1, by rw [c7]; exact h2, by rw [c7]; exact h3, fun k hk => ?_⟩
  rw [c7] at hk
  obtain ⟨a1, a2, a3, a4, a5, a6, a7, a8, a9, a10⟩ := h4 k hk
  rw [c 23 (by omega) (by omega), c 24 (by omega) (by omega), c 25 (by omega) (by omega), c 26 (by omega) (by omega), d 146 (by omega) (by omega), d 147 (by omega) (by omega), d 148 (by omega) (by omega), d 149 (by omega) (by omega), c1]
  refine ⟨a1, a2, a3, a4, a5, a6, a7, by omega, a9, fun z => ?_⟩
  obtain ⟨j, j1, j2, j3⟩ := a10 z
  obtain ⟨k1, k2⟩ := hj.1 j (by rw [h26]; exact j1)
  exact ⟨j, by omega, by rw [k1]; exact j2, by rw [k2]; exact j3⟩
theorem h_rename {e : w_E} {N : Nat} {S R : w_S} {x1 f len t top : Int} {G : Int → Int} {ta L E V n : Nat} (hN : 16000000 ≤ N) (h : TX S f len G) (hr : TR R len G) (h4 : S.1 1 4 = f) (h6 : S.1 1 6 = -1) (hB : TB S R f len) (htop : top ≤ f + len) (hs : ∀ j, -128 ≤ S.1 2 j ∧ S.1 2 j ≤ 127) (hH : Hs S R t top ta L E V n) : Ok (E_Authority_renameHeading e N x1 (S.1 27 1) S) (fun y S1 => Ok (E_R_doRename e N x1 R) (fun y' R1 => y' = y ∧ PH S R t top (f + len) ta L E V n y S1 R1)) := by
  have hNm := hH.2.2.2.2.2.2.2.2.2.2.1
  have n26 : R.1 129 26 = S.1 17 3 := hNm.2.2.2.1
  have n26b : 0 ≤ R.1 129 26 := by rw [n26]; exact hNm.2.2.2.2.1
  refine (t_rename (by omega) h hr h4 h6 hB hNm htop hH.day.1 hH.day.2.1 hs).mono (fun y S1 k => ?_)
  obtain ⟨y', R1, hr1, q⟩ := k
  have jn := n_rename (e := e) (N := N) (x := x1) n26b y' R1 hr1
  refine ok_of hr1 ?_
  obtain ⟨q1, q2⟩ := q
  refine ⟨q1, ?_⟩
  rcases q2 with ⟨a, ⟨hf, hg⟩, c⟩ | ⟨a, ⟨hf, hg, q3⟩, c⟩
  · exact ⟨okC.of hf (by decide), okR.of hg (by decide) (by decide), by rw [hg.1]; omega, Or.inl ⟨a, c, Same.of hf (by decide), frn.of hg (by decide) hH.ta⟩⟩
  have hH2 := hH.top htop
  clear hH
  obtain ⟨h1, h2, h3, h4', h5, h6', h7, h8, h9, h10, h11, h12, h13, h14, h15, h16⟩ := hH2
  have hF := RelF.cg ⟨h1, h2⟩ hf hg (by decide)
  have m17 : S1.1 17 0 = S.1 17 0 := hf.2.2 17 0 rfl rfl
  have hlk : RelLk S1 R1 := h15.nm (fun b b1 b2 => hf.2.1 b (by
    simp only [List.contains_cons, List.contains_nil, Bool.or_false, Bool.or_eq_false_iff, beq_eq_false_iff_ne, ne_eq]
    omega) (by
    simp only [List.contains_cons, List.contains_nil, Bool.or_false, Bool.or_eq_false_iff, beq_eq_false_iff_ne, ne_eq]
    omega)) (hf.2.2 17 7 rfl rfl) (by rw [m17]; exact Int.le_refl _) ?_ (hf.2.2 27 1 rfl rfl) (fun b b1 b2 => hg.2.1 b (by
    simp only [List.contains_cons, List.contains_nil, Bool.or_false, Bool.or_eq_false_iff, beq_eq_false_iff_ne, ne_eq]
    omega) (by
    simp only [List.contains_cons, List.contains_nil, Bool.or_false, beq_eq_false_iff_ne, ne_eq]
    omega)) (hg.2.2 129 31 rfl rfl) n26 jn
  · exact ⟨okC.of hf (by decide), okR.of hg (by decide) (by decide), by rw [hg.1]; omega, Or.inr ⟨a, c, ta, L, E, V, n, ⟨hF.1, hF.2.up, (h3.fr hf hg (by decide)).up, h4'.fr hf hg (by decide), h5.fr hf hg (by decide), h6'.fr hf hg (by decide), h7.fr hf hg (by decide), h8.fr hf hg (by decide), h9.fr hf hg (by decide), h10.fr hf hg (by decide), q3, h12.fr hf hg (by decide), h13.fr hf hg (by decide), h14.fr2 hf hg (by decide) (by decide), hlk, h16.fr hf hg (by decide)⟩, ⟨Nat.le_refl _, Nat.le_refl _⟩⟩⟩
  · have := jn.2
    rw [n26, q3.2.2.2.1] at this
    exact this
theorem wk_pt {g : Nat → Int} {n : Nat} (hg : ∀ a : Nat, 1 ≤ a → a ≤ n → 0 ≤ g a ∧ g a ≤ (n : Int)) : ∀ (m : Nat) (x : Int), 0 ≤ x → x ≤ (n : Int) → wk (pt g (n + 1) 0) m x = wk g m x
  | 0, _, _, _ => rfl
  | m + 1, x, h0, h1 => by
    rw [wk, wk]
    by_cases c : x = 0
    · rw [if_pos c, if_pos c]
    · rw [if_neg c, if_neg c, pt_at, if_neg (by omega)]
      have := hg x.toNat (by omega) (by omega)
      exact wk_pt hg m _ this.1 this.2
/-- a heading more -/
theorem RelAb.new {S R S1 R1 : w_S} (h : RelAb S R) (h80 : S.1 17 0 + 1 ≤ 80) (c18 : S1.1 18 = pt (S.1 18) (S.1 17 0 + 1).toNat 0) (d : R1.1 141 = pt (R.1 141) (S.1 17 0 + 1).toNat 0) (c0 : S1.1 17 0 = S.1 17 0 + 1) (d24 : R1.1 129 24 = S1.1 17 0) : RelAb S1 R1 := by
  obtain ⟨h1, h2, h3, h4, h5⟩ := h
  obtain ⟨n, hn⟩ : ∃ n : Nat, S.1 17 0 = (n : Int) := ⟨(S.1 17 0).toNat, by omega⟩
  rw [hn] at h4 h5 c18 d
  rw [show ((n : Int) + 1).toNat = n + 1 by omega] at c18 d
  have hg : ∀ a : Nat, 1 ≤ a → a ≤ n → 0 ≤ S.1 18 a ∧ S.1 18 a ≤ (n : Int) := fun a a1 a2 => (h4 a a1 (by omega)).2
  refine ⟨d24, by omega, by omega, fun a a1 a2 => ?_, fun a a1 a2 => ?_⟩
  · rw [c18, d, pt_at, pt_at, c0, hn]
    by_cases c : a = n + 1
    · rw [if_pos c, if_pos c]
      exact ⟨rfl, by omega, by omega⟩
    · rw [if_neg c, if_neg c]
      obtain ⟨b1, b2, b3⟩ := h4 a a1 (by omega)
      exact ⟨b1, b2, by omega⟩
  · rw [c18]
    by_cases c : a = n + 1
    · refine ⟨1, ?_⟩
      rw [wk, if_neg (by omega), wk, pt_at, if_pos (by omega)]
    · obtain ⟨m, hm⟩ := h5 a a1 (by omega)
      exact ⟨m, by rw [wk_pt hg m a (by omega) (by omega)]; exact hm⟩
theorem h_heading {e : w_E} {N : Nat} {S R : w_S} {f len t top : Int} {G : Int → Int} {ta L E V n : Nat} (hN : 16000000 ≤ N) (h : TX S f len G) (hr : TR R len G) (h4 : S.1 1 4 = f) (h6 : S.1 1 6 = -1) (hB : TB S R f len) (htop : top ≤ f + len) (hs : ∀ j, -128 ≤ S.1 2 j ∧ S.1 2 j ≤ 127) (hH : Hs S R t top ta L E V n) : Ok (E_Authority_addHeading e N (S.1 27 1) S) (fun y S1 => Ok (E_R_doHeading e N R) (fun y' R1 => y' = y ∧ PH S R t top (f + len) ta L E V n y S1 R1)) := by
  have hNm := hH.2.2.2.2.2.2.2.2.2.2.1
  have n26 : R.1 129 26 = S.1 17 3 := hNm.2.2.2.1
  have n26b : 0 ≤ R.1 129 26 := by rw [n26]; exact hNm.2.2.2.2.1
  refine (t_heading (by omega) h hr h4 h6 hB hNm htop hH.day.1 hH.day.2.1 hs).mono (fun y S1 k => ?_)
  obtain ⟨y', R1, hr1, q⟩ := k
  have jn := n_heading (e := e) (N := N) n26b y' R1 hr1
  refine ok_of hr1 ?_
  obtain ⟨q1, q2⟩ := q
  refine ⟨q1, ?_⟩
  rcases q2 with ⟨a, ⟨hf, hg⟩, c⟩ | ⟨a, ⟨hf, hg, q3, q4, q5, q6⟩, c⟩
  · exact ⟨okC.of hf (by decide), okR.of hg (by decide) (by decide), by rw [hg.1]; omega, Or.inl ⟨a, c, Same.of hf (by decide), frn.of hg (by decide) hH.ta⟩⟩
  have hH2 := hH.top htop
  clear hH
  obtain ⟨h1, h2, h3, h4', h5, h6', h7, h8, h9, h10, h11, h12, h13, h14, h15, h16⟩ := hH2
  have hF := RelF.cg ⟨h1, h2⟩ hf hg (by decide)
  have hab : RelAb S1 R1 := h12.new (by rw [← q6]; exact q3.2.2.1) q4 q5 q6 q3.1
  have hlk : RelLk S1 R1 := h15.nm (fun b b1 b2 => hf.2.1 b (by
    simp only [List.contains_cons, List.contains_nil, Bool.or_false, Bool.or_eq_false_iff, beq_eq_false_iff_ne, ne_eq]
    omega) (by
    simp only [List.contains_cons, List.contains_nil, Bool.or_false, Bool.or_eq_false_iff, beq_eq_false_iff_ne, ne_eq]
    omega)) (hf.2.2 17 7 rfl rfl) (by omega) ?_ (hf.2.2 27 1 rfl rfl) (fun b b1 b2 => hg.2.1 b (by
    simp only [List.contains_cons, List.contains_nil, Bool.or_false, Bool.or_eq_false_iff, beq_eq_false_iff_ne, ne_eq]
    omega) (by
    simp only [List.contains_cons, List.contains_nil, Bool.or_false, beq_eq_false_iff_ne, ne_eq]
    omega)) (hg.2.2 129 31 rfl rfl) n26 jn
  · exact ⟨okC.of hf (by decide), okR.of hg (by decide) (by decide), by rw [hg.1]; omega, Or.inr ⟨a, c, ta, L, E, V, n, ⟨hF.1, hF.2.up, (h3.fr hf hg (by decide)).up, h4'.fr hf hg (by decide), h5.fr hf hg (by decide), h6'.fr hf hg (by decide), h7.fr hf hg (by decide), h8.fr hf hg (by decide), h9.fr hf hg (by decide), h10.fr hf hg (by decide), q3, hab, h13.fr hf hg (by decide), h14.fr2 hf hg (by decide) (by decide), hlk, h16.fr hf hg (by decide)⟩, ⟨Nat.le_refl _, Nat.le_refl _⟩⟩⟩
  · have := jn.2
    rw [n26, q3.2.2.2.1] at this
    exact this
end
section
-- gt
theorem RelV.pt {S R S1 R1 : w_S} {x : Nat} {d : Int} (h : RelV S R) (c6 : S1.1 6 = pt (S.1 6) x d) (d5 : R1.1 135 = pt (R.1 135) x d) (c7 : S1.1 7 = S.1 7) (d1 : R1.1 201 = R.1 201) (c3 : S1.1 3 0 = S.1 3 0) : RelV S1 R1 := fun k k1 k2 => by
  rw [c3] at k2
  obtain ⟨a1, a2, a3⟩ := h k k1 k2
  rw [c6, d5, c7, d1, pt_at, pt_at]
  refine ⟨?_, a2, a3⟩
  split
  · rfl
  · exact a1
theorem h_drop {e : w_E} {N : Nat} {S R : w_S} {x1 t top : Int} {ta L E V n : Nat} (hN : 16000000 ≤ N) (hH : Hs S R t top ta L E V n) : Ok (E_C_dropRecord e N x1 S) (fun y S1 => Ok (E_R_doDrop e N x1 R) (fun y' R1 => y' = y ∧ PH S R t top top ta L E V n y S1 R1)) := by
  have hL := hH.2.2.1
  refine (t_drop (by omega) hL.2.2.2.1 hL.2.2.1 hL.2.2.2.2.2.2.2.1 hL.2.2.2.2.2.2.2.2.1 hH.2.2.2.2.1).mono (fun y S1 k => k.mono (fun y' R1 q => ?_))
  obtain ⟨q1, q2⟩ := q
  refine ⟨q1, ?_⟩
  rcases q2 with ⟨a, b, c⟩ | ⟨a, b1, b2, b3, b4, b5⟩
  · subst b
    subst c
    exact PH.no hH a
  have dy := hH.day
  have hf : frm [5, 6] [] [] S S1 := by
    rw [b4]
    repeat (first | exact frm.refl _ _ _ _ | refine frm.put ?_ rfl | refine frm.puto ?_ rfl rfl)
  have hg : frm [134, 135] [] [] R R1 := by
    rw [b5]
    repeat (first | exact frm.refl _ _ _ _ | refine frm.put ?_ rfl | refine frm.puto ?_ rfl rfl)
  obtain ⟨h1, h2, h3, h4, h5, h6, h7, h8, h9, h10, h11, h12, h13, h14, h15, h16⟩ := hH
  have hF := RelF.cg ⟨h1, h2⟩ hf hg (by decide)
  have hG : RelG S1 R1 := by
    obtain ⟨g1, g2, g3, g4⟩ := h3.2.2.2.1
    have e3 : S1.1 3 0 = S.1 3 0 := hf.2.2 3 0 rfl rfl
    refine ⟨?_, ?_, ?_, fun k k1 k2 => ?_⟩
    · show R1.1 129 13 = S1.1 3 0
      rw [hg.2.2 129 13 rfl rfl, e3]
      exact g1
    · show 0 ≤ S1.1 3 0
      rw [e3]
      exact g2
    · show S1.1 3 0 ≤ 150
      rw [e3]
      exact g3
    · have k2' : (k : Int) ≤ S.1 3 0 := by
        rw [← e3]
        exact k2
      have g := g4 k k1 k2'
      show R1.1 134 k = S1.1 5 k ∧ -1 ≤ S1.1 5 k ∧ S1.1 5 k ≤ 50000
      have u1 : R1.1 134 k = if k = x1.toNat then R.1 129 12 else R.1 134 k := by
        rw [b5]
        simp only [w_put_r, reduceIte, Nat.reduceEqDiff, pt_at]
      have u2 : S1.1 5 k = if k = x1.toNat then S.1 27 1 else S.1 5 k := by
        rw [b4]
        simp only [w_put_r, reduceIte, Nat.reduceEqDiff, pt_at]
      rw [u1, u2]
      by_cases c : k = x1.toNat
      · rw [if_pos c, if_pos c]
        exact ⟨dy.1, by omega, dy.2.2⟩
      · rw [if_neg c, if_neg c]
        exact g
  have hV : RelV S1 R1 := h7.pt (x := x1.toNat) (d := S.1 27 1) (by rw [b4]; rfl) (by rw [b5, ← dy.1]; rfl) (hf.2.1 7 rfl rfl) (hg.2.1 201 rfl rfl) (hf.2.2 3 0 rfl rfl)
  exact ⟨okC.of hf (by decide), okR.of hg (by decide) (by decide), by rw [hg.1]; omega, Or.inr ⟨a, hg.2.2 129 4 rfl rfl, ta, L, E, V, n, ⟨hF.1, hF.2.up, (show RelL S1 R1 t from ⟨h3.1.fr hf hg (by decide), h3.2.1.fr hf hg (by decide), h3.2.2.1.fr hf hg (by decide), hG, h3.2.2.2.2.1.fr hf hg (by decide), h3.2.2.2.2.2.1.fr hf hg (by decide), h3.2.2.2.2.2.2.1.fr hf hg (by decide), h3.2.2.2.2.2.2.2.1.fr hf hg (by decide), h3.2.2.2.2.2.2.2.2.1.fr hf hg (by decide), h3.2.2.2.2.2.2.2.2.2.1.fr hf hg (by decide), h3.2.2.2.2.2.2.2.2.2.2.1.fr hf hg (by decide), h3.2.2.2.2.2.2.2.2.2.2.2.fr hf hg (by decide)⟩).up, h4.fr hf hg (by decide), h5.fr hf hg (by decide), h6.fr hf hg (by decide), hV, h8.fr hf hg (by decide), h9.fr hf hg (by decide), h10.fr hf hg (by decide), h11.fr hf hg (by decide), h12.fr hf hg (by decide), h13.fr hf hg (by decide), h14.fr2 hf hg (by decide) (by decide), h15.fr hf hg (by decide), h16.fr hf hg (by decide)⟩, ⟨Nat.le_refl _, Nat.le_refl _⟩⟩⟩
theorem h_link {e : w_E} {N : Nat} {S R : w_S} {x1 x2 x3 t top : Int} {ta L E V n : Nat} (hN : 16000000 ≤ N) (hH : Hs S R t top ta L E V n) : Ok (E_C_linkField e N x1 x2 x3 S) (fun y S1 => Ok (E_R_doLink e N x1 x2 x3 R) (fun y' R1 => y' = y ∧ PH S R t top top ta L E V n y S1 R1)) := by
  have hL := hH.2.2.1
  refine (t_lnk hN hL.2.2.2.1 hH.2.2.2.2.2.2.2.2.2.2.2.2.2.1 hH.2.2.2.2.2.2.2.2.2.2.2.2.2.2.1 hH.2.2.2.2.2.2.2.2.2.2.1 hH.day.1).mono (fun y S1 k => k.mono (fun y' R1 q => ?_))
  obtain ⟨q1, q2⟩ := q
  refine ⟨q1, ?_⟩
  rcases q2 with ⟨a, b, c⟩ | ⟨a, b1, b2, hf, hg, c6, d5, q3⟩
  · subst c
    exact ⟨okC.of b (by decide), okR.refused R, Or.inl (Nat.le_refl _), Or.inl ⟨a, by simp only [w_put_r, reduceIte, Nat.reduceEqDiff, pt_at], Same.of b (by decide), frn.of (show frm [] [129] [(129, 4)] R (w_put R 129 4 1) by repeat (first | exact frm.refl _ _ _ _ | refine frm.put ?_ rfl | refine frm.puto ?_ rfl rfl)) (by decide) hH.ta⟩⟩
  obtain ⟨h1, h2, h3, h4, h5, h6, h7, h8, h9, h10, h11, h12, h13, h14, h15, h16⟩ := hH
  have hF := RelF.cg ⟨h1, h2⟩ hf hg (by decide)
  have hV : RelV S1 R1 := h7.pt c6 d5 (hf.2.1 7 rfl rfl) (hg.2.1 201 rfl rfl) (hf.2.2 3 0 rfl rfl)
  exact ⟨okC.of hf (by decide), okR.of hg (by decide) (by decide), by rw [hg.1]; omega, Or.inr ⟨a, hg.2.2 129 4 rfl rfl, ta, L, E, V, n, ⟨hF.1, hF.2.up, (h3.fr hf hg (by decide)).up, h4.fr hf hg (by decide), h5.fr hf hg (by decide), h6.fr hf hg (by decide), hV, h8.fr hf hg (by decide), h9.fr hf hg (by decide), h10.fr hf hg (by decide), h11.fr hf hg (by decide), h12.fr hf hg (by decide), h13.fr hf hg (by decide), h14.fr2 hf hg (by decide) (by decide), q3, h16.fr hf hg (by decide)⟩, ⟨Nat.le_refl _, Nat.le_refl _⟩⟩⟩
theorem h_dispose {e : w_E} {N : Nat} {S R : w_S} {t top : Int} {ta L E V n : Nat} (hN : 16000000 ≤ N) (htop : top ≤ 10240) (hs : ∀ j, -128 ≤ S.1 2 j ∧ S.1 2 j ≤ 127) (hH : Hs S R t top ta L E V n) : Ok (E_C_disposeAll e N S) (fun y S1 => Ok (E_R_doDispose e N R) (fun y' R1 => y' = y ∧ PH S R t top top ta L E V n y S1 R1)) := by
  obtain ⟨h1, h2, h3, h4, h5, h6, h7, h8, h9, h10, h11, h12, h13, h14, h15, h16⟩ := hH
  refine (t_dispose hN htop ⟨h3, h5, h7, h14, h15, h11, h9, hs⟩).mono (fun y S1 k => k.mono (fun y' R1 q => ?_))
  obtain ⟨q1, a, hf, hg, q2, q3, q4, q5, q6, q7, q8, q9⟩ := q
  have hF := RelF.cg ⟨h1, h2⟩ hf hg (by decide)
  exact ⟨q1, okC.of hf (by decide), okR.of hg (by decide) (by decide), by rw [hg.1]; omega, Or.inr ⟨a, hg.2.2 129 4 rfl rfl, ta, L, E, V, n, ⟨hF.1, hF.2.up, q2.up, h4.fr hf hg (by decide), q3, h6.fr hf hg (by decide), q4, h8.fr hf hg (by decide), q8, h10.fr hf hg (by decide), q7, h12.fr hf hg (by decide), h13.fr hf hg (by decide), q5, q6, h16.fr hf hg (by decide)⟩, ⟨Nat.le_refl _, Nat.le_refl _⟩⟩⟩
end
section
-- gu
theorem h_copy {e : w_E} {N : Nat} {S R : w_S} {x1 x2 t top : Int} {ta L E V n : Nat} (hN : 16000000 ≤ N) (hH : Hs S R t top ta L E V n) (ht : 0 ≤ t) : Ok (E_Lending_addCopy e N x1 x2 S) (fun y S1 => Ok (E_R_doCopy e N x1 x2 R) (fun y' R1 => y' = y ∧ PH S R t top top ta L E V n y S1 R1)) := by
  refine (t_copy (by omega) hH.2.2.1 ht).mono (fun y S1 k => k.mono (fun y' R1 q => ?_))
  obtain ⟨q1, q2⟩ := q
  refine ⟨q1, ?_⟩
  rcases q2 with ⟨a, b, c⟩ | ⟨a, hf, hg, q3, q4, q5, q6⟩
  · subst b
    subst c
    exact PH.no hH a
  obtain ⟨h1, h2, h3, h4, h5, h6, h7, h8, h9, h10, h11, h12, h13, h14, h15, h16⟩ := hH
  have hF := RelF.cg ⟨h1, h2⟩ hf hg (by decide)
  have c0 : 0 ≤ S.1 62 3 := h3.2.2.2.2.2.2.2.1.2.1
  have hMk : RelMk S1 R1 := fun c c1 c2 => by
    rw [q4] at c2
    rw [q5, q6, hg.2.1 181 rfl rfl, hg.2.1 182 rfl rfl, pt_at, pt_at]
    by_cases e1 : c = (S.1 62 3 + 1).toNat
    · rw [if_pos e1, if_pos e1]
      exact Or.inl ⟨rfl, rfl⟩
    · rw [if_neg e1, if_neg e1]
      exact h10 c c1 (by omega)
  exact ⟨okC.of hf (by decide), okR.of hg (by decide) (by decide), by rw [hg.1]; omega, Or.inr ⟨a, hg.2.2 129 4 rfl rfl, ta, L, E, V, n, ⟨hF.1, hF.2.up, q3, h4.fr hf hg (by decide), h5.fr hf hg (by decide), h6.fr hf hg (by decide), h7.fr hf hg (by decide), h8.fr hf hg (by decide), h9.fr hf hg (by decide), hMk, h11.fr hf hg (by decide), h12.fr hf hg (by decide), h13.fr hf hg (by decide), h14.fr2 hf hg (by decide) (by decide), h15.fr hf hg (by decide), h16.fr hf hg (by decide)⟩, ⟨Nat.le_refl _, Nat.le_refl _⟩⟩⟩
/-- a later day -/
theorem RelNm.day {S R S1 R1 : w_S} {top : Int} (h : RelNm S R top) (c : ∀ a, (a = 2 ∨ (19 ≤ a ∧ a ≤ 22)) → S1.1 a = S.1 a) (c0 : S1.1 17 = S.1 17) (c1 : S.1 27 1 ≤ S1.1 27 1) (d : ∀ a, 142 ≤ a → a ≤ 145 → R1.1 a = R.1 a) (d24 : R1.1 129 24 = R.1 129 24) (d26 : R1.1 129 26 = R.1 129 26) : RelNm S1 R1 top := by
  obtain ⟨h1, h2, h3, h4, h5, h6, h7, h8⟩ := h
  unfold RelNm
  rw [c0, d24, d26, c 2 (by omega), c 19 (by omega), c 20 (by omega), c 21 (by omega), c 22 (by omega), d 142 (by omega) (by omega), d 143 (by omega) (by omega), d 144 (by omega) (by omega), d 145 (by omega) (by omega)]
  refine ⟨h1, h2, h3, h4, h5, h6, h7, fun k hk => ?_⟩
  obtain ⟨a1, a2, a3, a4, a5⟩ := h8 k hk
  exact ⟨a1, a2, a3, by omega, a5⟩
theorem RelLk.day {S R S1 R1 : w_S} (h : RelLk S R) (c : ∀ a, (23 ≤ a ∧ a ≤ 26) → S1.1 a = S.1 a) (c0 : S1.1 17 = S.1 17) (c1 : S.1 27 1 ≤ S1.1 27 1) (d : ∀ a, 142 ≤ a → a ≤ 149 → R1.1 a = R.1 a) (d31 : R1.1 129 31 = R.1 129 31) : RelLk S1 R1 := by
  obtain ⟨h1, h2, h3, h4⟩ := h
  unfold RelLk
  rw [c0, d31, c 23 (by omega), c 24 (by omega), c 25 (by omega), c 26 (by omega), d 142 (by omega) (by omega), d 143 (by omega) (by omega), d 146 (by omega) (by omega), d 147 (by omega) (by omega), d 148 (by omega) (by omega), d 149 (by omega) (by omega)]
  refine ⟨h1, h2, h3, fun k hk => ?_⟩
  obtain ⟨a1, a2, a3, a4, a5, a6, a7, a8, a9, a10⟩ := h4 k hk
  exact ⟨a1, a2, a3, a4, a5, a6, a7, a8, by omega, a10⟩
theorem h_tick {e : w_E} {N : Nat} {S R : w_S} {x1 t top : Int} {ta L E V n : Nat} (hN : 16000000 ≤ N) (hH : Hs S R t top ta L E V n) (ht : 0 ≤ t) : Ok (E_Lending_passTo e N x1 S) (fun y S1 => Ok (E_R_doTick e N x1 R) (fun y' R1 => y' = y ∧ PH S R t top top ta L E V n y S1 R1)) := by
  refine (t_tick (by omega) hH.2.2.1 ht).mono (fun y S1 k => k.mono (fun y' R1 q => ?_))
  obtain ⟨q1, q2⟩ := q
  refine ⟨q1, ?_⟩
  rcases q2 with ⟨a, b, c⟩ | ⟨a, hf, hg, q3, q4, q5, q6⟩
  · subst b
    subst c
    exact PH.no hH a
  obtain ⟨h1, h2, h3, h4, h5, h6, h7, h8, h9, h10, h11, h12, h13, h14, h15, h16⟩ := hH
  have hF := RelF.cg ⟨h1, h2⟩ hf hg (by decide)
  have le : S.1 27 1 ≤ S1.1 27 1 := by omega
  have ca : ∀ c, 2 ≤ c ∧ c ≤ 26 → S1.1 c = S.1 c := fun c hc => hf.2.1 c (by
    simp only [List.contains_cons, List.contains_nil, Bool.or_false, Bool.or_eq_false_iff, beq_eq_false_iff_ne, ne_eq]
    omega) (by
    simp only [List.contains_cons, List.contains_nil, Bool.or_false, Bool.or_eq_false_iff, beq_eq_false_iff_ne, ne_eq]
    omega)
  have ra : ∀ c, ((133 ≤ c ∧ c ≤ 149) ∨ 238 ≤ c) → R1.1 c = R.1 c := fun c hc => hg.2.1 c (by
    simp only [List.contains_cons, List.contains_nil, Bool.or_false, Bool.or_eq_false_iff, beq_eq_false_iff_ne, ne_eq]
    omega) (by
    simp only [List.contains_cons, List.contains_nil, Bool.or_false, beq_eq_false_iff_ne, ne_eq]
    omega)
  exact ⟨okC.of hf (by decide), okR.of hg (by decide) (by decide), by rw [hg.1]; omega, Or.inr ⟨a, hg.2.2 129 4 rfl rfl, ta, L, E, V, n, ⟨hF.1, hF.2.up, q3, h4.fr hf hg (by decide), h5.fr hf hg (by decide), h6.fr hf hg (by decide), h7.fr hf hg (by decide), h8.fr hf hg (by decide), h9.fr hf hg (by decide), h10.fr hf hg (by decide), h11.day (fun c hc => ca c (by omega)) (ca 17 (by omega)) le (fun c c1 c2 => ra c (by omega)) (hg.2.2 129 24 rfl rfl) (hg.2.2 129 26 rfl rfl), h12.fr hf hg (by decide), h13.fr hf hg (by decide), h14.fr (fun c hc => ca c (by omega)) (by rw [ca 3 (by omega)]) (by rw [ca 3 (by omega)]) le (fun c hc => ra c (by omega)) (hg.2.2 129 13 rfl rfl) (hg.2.2 129 17 rfl rfl) (hg.2.2 129 23 rfl rfl) hg.1, h15.day (fun c hc => ca c (by omega)) (ca 17 (by omega)) le (fun c c1 c2 => ra c (by omega)) (hg.2.2 129 31 rfl rfl), h16.fr hf hg (by decide)⟩, ⟨Nat.le_refl _, Nat.le_refl _⟩⟩⟩
theorem h_exchange {e : w_E} {N : Nat} {S R : w_S} {f len t top : Int} {G : Int → Int} {ta L E V n : Nat} (hN : 16000000 ≤ N) (h : TX S f len G) (hr : TR R len G) (h4 : S.1 1 4 = f) (h6 : S.1 1 6 = -1) (hB : TB S R f len) (htop : top ≤ f + len) (ht3 : top ≤ 10240) (hs : ∀ j, -128 ≤ S.1 2 j ∧ S.1 2 j ≤ 127) (h0 : R.1 129 4 = 0) (hH : Hs S R t top ta L E V n) (ht : 0 ≤ t) (ht2 : t ≤ 512) : Ok (E_C_runMessage e N S) (fun y S1 => Ok (E_R_doExchange e N R) (fun y' R1 => ((y < -999 ∧ y' = y) ∨ (y = -3 ∧ y' = S.1 0 18) ∨ (y = 1 ∧ y' = S1.1 0 18)) ∧ PH S R t top (f + len) ta L E V n y S1 R1)) := by
  refine (t_exchange (by omega) h hr h4 h6 hB hH.2.2.1 ht ht2 hH.2.2.2.2.2.2.2.2.2.2.2.2.1 ht3 hs).mono (fun y S1 k => k.mono (fun y' R1 q => ?_))
  rcases q with ⟨a, b, hf, hg, c⟩ | ⟨a, b, hf, hg, c⟩ | ⟨a, b, hf, hg, q3, q4, c⟩
  · exact ⟨Or.inl ⟨a, b⟩, okC.of hf (by decide), okR.of hg (by decide) (by decide), by rw [hg.1]; omega, Or.inl ⟨by omega, c, Same.of hf (by decide), frn.of hg (by decide) hH.ta⟩⟩
  · exact ⟨Or.inr (Or.inl ⟨a, b⟩), okC.of hf (by decide), okR.of hg (by decide) (by decide), by rw [hg.1]; omega, Or.inl ⟨by omega, c, Same.of hf (by decide), frn.of hg (by decide) hH.ta⟩⟩
  have hH2 := hH.top htop
  clear hH
  obtain ⟨h1, h2, h3, h4', h5, h6', h7, h8, h9, h10, h11, h12, h13, h14, h15, h16⟩ := hH2
  have hF := RelF.cg ⟨h1, h2⟩ hf hg (by decide)
  exact ⟨Or.inr (Or.inr ⟨a, b⟩), okC.of hf (by decide), okR.of hg (by decide) (by decide), by rw [hg.1]; omega, Or.inr ⟨by omega, by rw [c, h0], ta, L, E, V, n, ⟨hF.1, hF.2.up, q3, h4'.fr hf hg (by decide), h5.fr hf hg (by decide), h6'.fr hf hg (by decide), h7.fr hf hg (by decide), h8.fr hf hg (by decide), h9.fr hf hg (by decide), h10.fr hf hg (by decide), h11.fr hf hg (by decide), h12.fr hf hg (by decide), q4, h14.fr2 hf hg (by decide) (by decide), h15.fr hf hg (by decide), h16.fr hf hg (by decide)⟩, ⟨Nat.le_refl _, Nat.le_refl _⟩⟩⟩
end
