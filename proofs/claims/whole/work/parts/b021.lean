section
-- ck
theorem tw_up {B : Int → Int} : ∀ (cs : List Int) (i m b : Int) (bad : Bool), 0 ≤ i → (tw B cs i m b bad).1 ≤ i + cs.length
  | [], i, m, b, bad, h => by
    rw [tw]
    split <;> (dsimp only [List.length_nil]; omega)
  | c :: cs, i, m, b, bad, h => by
    rw [tw, List.length_cons]
    split
    · split
      · have := tw_up (B := B) cs (i + 1) 0 b false (by omega)
        omega
      · dsimp only
        omega
    · split
      · have := tw_up (B := B) cs i m b true h
        omega
      · split
        · have := tw_up (B := B) cs i (m + 1) (max b (m + 1)) false h
          omega
        · have := tw_up (B := B) cs i m b true h
          omega
theorem b_word {L : List Int} {eL : w_S → e_R} {eC : Int → w_S → e_R} {F : Nat → Int → Int → Int → Int → Int → w_S → e_R} {nf : Nat} {S : w_S} {f len a w q : Int} {G : Int → Int} (h : TX S f len G) (ha : At f len a w q) (hL : L.length ≤ 1000) (hc : ∀ c, c ∈ L → 0 ≤ c ∧ c ≤ 127) (hF : ∀ n x2 x3 x4 x5 x6 T, F (n + 1) x2 x3 x4 x5 x6 T = wtree eL eC (F n) x2 x3 x4 x5 x6 T) (heL : ∀ T, eL T = some ((L.length : Int), T)) (heC : ∀ (k : Nat) T, k < L.length → eC (k : Int) T = some (L.getD k 0, T)) (hf : L.length + 1 < nf) : Ok (F nf 0 0 0 0 0 (tp S a w)) (fun y S1 => Tk S f len (pK L G q) (fun y => y = (tw (fun p => G (q + p)) L 0 0 0 false).1 ∧ 0 ≤ y) y S1 ∧ -1 ≤ y ∧ y ≤ 1000) := by
  have k1 := x_word (eL := eL) (eC := eC) (F := F) (nf := nf) h ha hL hc hF heL heC hf
  have a1 := ha.1
  have a2 := ha.2.1
  have key := l_word (eL := eL) (eC := eC) (F := F) (w := w) h hL hc a1 a2 hF heL heC (by have := ha.2.2; omega) L 0 nf 0 0 0 0 hf rfl (by omega) (by omega) (by omega) (by omega) (by omega) (by omega) (by omega)
  have up := tw_up (B := fun p => G (a - f + p)) L 0 0 0 (decide ((0 : Int) ≠ 0)) (by omega)
  have k2 : Ok (F nf 0 0 0 0 0 (tp S a w)) (fun y _ => -1 ≤ y ∧ y ≤ 1000) := by
    generalize tw (fun p => G (a - f + p)) L 0 0 0 (decide ((0 : Int) ≠ 0)) = t at key up
    by_cases d : 0 ≤ t.1
    · rw [if_pos d] at key
      exact ok_of key ⟨by omega, by omega⟩
    · rw [if_neg d] at key
      exact ok_of key ⟨by omega, by omega⟩
  exact k1.and k2
theorem b_word4 {e : w_E} {N : Nat} {S : w_S} {f len a w q : Int} {G : Int → Int} (hN : 2001 ≤ N) (h : TX S f len G) (ha : At f len a w q) : Ok (E_Tape_takeWord_v4 e N (tp S a w)) (fun y S1 => Tk S f len (pK (wl 4) G q) (fun y => y = (tw (fun p => G (q + p)) (wl 4) 0 0 0 false).1 ∧ 0 ≤ y) y S1 ∧ -1 ≤ y ∧ y ≤ 1000) := by
  unfold E_Tape_takeWord_v4
  exact b_word (F := fun n x2 x3 x4 x5 x6 T => El_Tape_takeWord_v4 e N n 0 [x2, x3, x4, x5, x6] [] T) h ha (by decide) (by decide) (fun n x2 x3 x4 x5 x6 T => w_tree4 n x2 x3 x4 x5 x6 T) (fun T => w_len4 T) (fun k T hk => x_char (i := 4) (by decide) hk) (Nat.lt_of_lt_of_le (by decide : (wl 4).length + 1 < 2001) hN)
/-- the parts of a pattern's text -/
def sp0 (G : Int → Int) : Int := pL G (evw 0) 0
def sp1 (G : Int → Int) (len : Int) : Int := pN G len 1 366 (sp0 G)
def sp2 (G : Int → Int) (len : Int) : Int := if psd G (sp1 G len) = 0 then pM G len (pL G (psw 0) (sp1 G len)) else sp1 G len
def sp3 (G : Int → Int) (len : Int) : Int := pN G len 1 99 (pL G (vow 0) (sp2 G len))
def spf (G : Int → Int) (len : Int) : Int := if sp1 G len < 0 then sp1 G len else if len ≤ sp1 G len then sp1 G len else if psd G (sp1 G len) = 0 ∧ (sp2 G len < 0 ∨ len ≤ sp2 G len) then sp2 G len else pE G (sp3 G len)
def svs (G : Int → Int) (len : Int) : Int := vl G (sp0 G) (nd G (len - sp0 G).toNat (sp0 G))
def svk (G : Int → Int) (len : Int) : Int := if len ≤ sp1 G len then 0 else if psd G (sp1 G len) = 0 then vM G len (pL G (psw 0) (sp1 G len)) else 0
def svv (G : Int → Int) (len : Int) : Int := if len ≤ sp1 G len then 0 else if psd G (sp1 G len) = 0 ∧ len ≤ sp2 G len then 0 else vl G (pL G (vow 0) (sp2 G len)) (nd G (len - pL G (vow 0) (sp2 G len)).toNat (pL G (vow 0) (sp2 G len)))
/-- what the class does behind a pattern's text -/
def SrA (e : w_E) (N : Nat) (x1 x3 st sk vo : Int) (T : w_S) : e_R := (if (T.1 76 0) < 20 then (if w_nb ((T.1 76 0) + 1) = true then (if w_ib ((T.1 76 0) + 1) 21 = true then ((E_Buying_foretell e N st sk x3 (w_put (w_put (w_put T 76 0 ((T.1 76 0) + 1)) 77 (((T.1 76 0) + 1).toNat) x1) 78 (((T.1 76 0) + 1).toNat) vo)).bind (fun q406 => some (q406.2.1 76 0, q406.2))) else none) else none) else some ((-4), T))
def SrE (e : w_E) (N : Nat) (x1 x3 st sk vo : Int) (T : w_S) : e_R := ((E_Tape_takeEnd e N T).bind (fun q405 => (if (q405.2.1 1 6) ≠ (-1) then (if w_nb ((-1000) - (q405.2.1 1 6)) = true then some ((-1000) - (q405.2.1 1 6), q405.2) else none) else SrA e N x1 x3 st sk vo q405.2)))
theorem psd_01 (G : Int → Int) (s : Int) : psd G s = 0 ∨ psd G s = 1 := by
  unfold psd
  split
  · exact Or.inl rfl
  · exact Or.inr rfl
theorem l_ge (G : Int → Int) : ∀ (L : List Int) (q : Int), 0 ≤ pL G L q → 0 ≤ q
  | [], _, h => h
  | c :: cs, q, h => (pB_ge (l_ge G cs _ h)).1
theorem x_srE {e : w_E} {N : Nat} {S : w_S} {f len a w z x1 x3 st sk vo : Int} {G : Int → Int} {Q : Int → w_S → Prop} (h : TX S f len G) (ha : At f len a w z) (hz : -3000 ≤ z) (hw : pE G z < 0 → ∀ a' w', Q (-999 + pE G z) (tp S a' w')) (hr : 0 ≤ pE G z → ∀ a', Ok (SrA e N x1 x3 st sk vo (tp S a' (-1))) Q) : Ok (SrE e N x1 x3 st sk vo (tp S a w)) Q := by
  have lb := h.2.2.2.2.1
  unfold SrE
  have hzl : z ≤ len := by
    rcases Int.lt_or_le z 0 with c | c
    · have := h.2.2.2.1
      omega
    · exact (ha.right.1 c).2.2
  refine tk_b (x_takeEnd h ha) (fun y a3 w3 ha3 _ => ?_)
  dsimp only
  rw [tp6]
  by_cases d : 0 ≤ pE G z
  · have w3e := ha3.wm d
    subst w3e
    exact ok_e (fun z => z rfl) (hr d a3)
  · obtain ⟨r1, r2⟩ := ha3.right.2 (by omega)
    have m3b : -3001 ≤ pE G z := by
      unfold pE
      split
      · omega
      · split <;> omega
    refine ok_t (by omega) (ok_nb (by omega) (ok_s ?_))
    have := hw (by omega) a3 w3
    rw [show -1000 - w3 = -999 + pE G z by omega]
    exact this
theorem x_front {e : w_E} {N : Nat} {S : w_S} {f len a w x1 x3 : Int} {G : Int → Int} {Q : Int → w_S → Prop} (hN : 2001 ≤ N) (h : TX S f len G) (ha : At f len a w 0) (hw : spf G len < 0 → ∀ a' w', Q (-999 + spf G len) (tp S a' w')) (hr : 0 ≤ spf G len → ∀ a', Ok (SrA e N x1 x3 (svs G len) (svk G len) (svv G len) (tp S a' (-1))) Q) : Ok (E_Buying_addSerial e N x1 x3 (tp S a w)) Q := by
  have lb := h.2.2.2.2.1
  have l0 := h.2.2.2.1
  have hG := h.e
  have b0 : Bd len (sp0 G) := pL_bd hG _ (by decide) ⟨by omega, by omega⟩
  have b1 : Bd len (sp1 G len) := pN_bd b0
  have bm : Bd len (pM G len (pL G (psw 0) (sp1 G len))) := pM_bd hG (pL_bd hG _ (by decide) b1)
  have b2 : Bd len (sp2 G len) := by
    unfold sp2
    split
    · exact bm
    · exact b1
  have b3 : Bd len (sp3 G len) := pN_bd (pL_bd hG _ (by decide) b2)
  have gneg : ∀ (q : Int) (a1 w1 st sk vo : Int), At f len a1 w1 q → q < 0 → Bd len q → spf G len = q → Ok (SrE e N x1 x3 st sk vo (tp S a1 w1)) Q := fun q a1 w1 st sk vo ha1 hq hb he => by
    unfold Bd at hb
    refine x_srE h ha1 (by omega) (fun _ a' w' => ?_) (fun z => ?_)
    · rw [pE_neg hq, ← he]
      exact hw (by omega) a' w'
    · rw [pE_neg hq] at z
      omega
  unfold E_Buying_addSerial
  refine tk_b (x_word2 hN h ha) (fun y0 a0 w0 ha0 _ => ?_)
  rw [(ev_word (G := G) (s := 0) (by omega)).1] at ha0
  have e0 : pL G (evw (k00 G 0)) 0 = sp0 G := rfl
  rw [e0] at ha0
  dsimp only
  refine ok_b ((b_number (e := e) (N := N) (lo := 1) (hi := 366) hN h ha0).mono (fun y1 S1 z => ?_))
  obtain ⟨⟨a1, w1, z1, z2, z3⟩, z4, z5⟩ := z
  subst z1
  dsimp only
  have e1 : pN G len 1 366 (sp0 G) = sp1 G len := rfl
  rw [e1] at z2
  have stv : 0 ≤ sp1 G len → y1 = svs G len := fun z => (z3 (z2.wm z)).1
  refine ok_b (ok_of (x_peek h z2) ?_)
  dsimp only
  by_cases c : sp1 G len < 0
  · refine ok_e (by rw [if_pos c]; omega) ?_
    exact gneg _ a1 w1 y1 0 0 z2 c b1 (by unfold spf; rw [if_pos c])
  · have t1 := tx_at h (show 0 ≤ sp1 G len by omega)
    by_cases c1 : len ≤ sp1 G len
    · have se : spf G len = sp1 G len := by
        unfold spf
        rw [if_neg c, if_pos c1]
      have pe : pE G (sp1 G len) = sp1 G len := by
        unfold pE
        rw [if_neg c, if_pos (t1.2 c1)]
      refine ok_e (by rw [if_neg c, t1.2 c1]; omega) ?_
      refine x_srE (st := y1) (sk := 0) (vo := 0) h z2 (by omega) (fun z => by omega) (fun _ a' => ?_)
      have := hr (by omega) a'
      rw [← stv (by omega), show svk G len = 0 by unfold svk; rw [if_pos c1], show svv G len = 0 by unfold svv; rw [if_pos c1]] at this
      exact this
    · have t2 := t1.1 (by omega)
      refine ok_t (by rw [if_neg c]; omega) ?_
      refine tk_b (x_word3 hN h z2) (fun y2 a2 w2 ha2 hy2 => ?_)
      dsimp only
      obtain ⟨k1, k2⟩ := ps_word (G := G) (s := sp1 G len) (by omega)
      have lbd : Bd len (pK (wl 3) G (sp1 G len)) := by
        rw [k1]
        rcases psd_01 G (sp1 G len) with p | p
        · rw [p]
          exact pL_bd hG _ (by decide) b1
        · rw [p]
          exact pL_bd hG _ (by decide) b1
      by_cases d : pK (wl 3) G (sp1 G len) < 0
      · have se : spf G len = pK (wl 3) G (sp1 G len) := by
          unfold spf
          rw [if_neg c, if_neg c1]
          rw [k1] at d ⊢
          rcases psd_01 G (sp1 G len) with p | p
          · have s2 : sp2 G len = pL G (psw 0) (sp1 G len) := by
              unfold sp2
              rw [if_pos p]
              rw [p] at d
              rw [pM_neg d]
            rw [p] at d
            rw [if_pos ⟨p, Or.inl (by rw [s2]; exact d)⟩, s2, p]
          · have s2 : sp2 G len = sp1 G len := by
              unfold sp2
              rw [if_neg (by omega)]
            have s3 : sp3 G len = pL G (psw 1) (sp1 G len) := by
              unfold sp3
              rw [s2]
              rw [p] at d
              exact pN_neg d
            rw [if_neg (by omega), s3, p]
            rw [p] at d
            exact pE_neg d
        by_cases d1 : y2 = 0
        · refine ok_e (by omega) ?_
          refine tk_b (x_months hN h ha2) (fun y3 a3 w3 ha3 _ => ?_)
          rw [pM_neg d] at ha3
          dsimp only
          refine ok_b (ok_of (x_peek h ha3) ?_)
          dsimp only
          refine ok_e (by rw [if_pos d]; omega) ?_
          exact gneg _ a3 w3 y1 y3 0 ha3 d lbd se
        · refine ok_t d1 ?_
          by_cases d2 : y2 = 1
          · refine ok_e (by omega) ?_
            refine tk_b (x_takeNumber hN h ha2) (fun y3 a3 w3 ha3 _ => ?_)
            rw [pN_neg d] at ha3
            exact gneg _ a3 w3 y1 0 y3 ha3 d lbd se
          · refine ok_t d2 ?_
            exact gneg _ a2 w2 y1 0 0 ha2 d lbd se
      · have y2e := (hy2 (ha2.wm (by omega))).1
        rw [k2 (by omega)] at y2e
        rw [k1] at ha2 d
        rcases psd_01 G (sp1 G len) with p | p
        · rw [p] at ha2 d y2e
          have s2 : sp2 G len = pM G len (pL G (psw 0) (sp1 G len)) := by
            unfold sp2
            rw [if_pos p]
          have sk : svk G len = vM G len (pL G (psw 0) (sp1 G len)) := by
            unfold svk
            rw [if_neg c1, if_pos p]
          refine ok_e (by omega) ?_
          refine tk_b (x_months hN h ha2) (fun y3 a3 w3 ha3 hy3 => ?_)
          rw [← s2] at ha3
          dsimp only
          refine ok_b (ok_of (x_peek h ha3) ?_)
          dsimp only
          by_cases g : sp2 G len < 0
          · have se : spf G len = sp2 G len := by
              unfold spf
              rw [if_neg c, if_neg c1, if_pos ⟨p, Or.inl g⟩]
            refine ok_e (by rw [if_pos g]; omega) ?_
            exact gneg _ a3 w3 y1 y3 0 ha3 g b2 se
          · have y3e := hy3 (ha3.wm (by omega))
            rw [← sk] at y3e
            have u1 := tx_at h (show 0 ≤ sp2 G len by omega)
            by_cases g1 : len ≤ sp2 G len
            · have se : spf G len = sp2 G len := by
                unfold spf
                rw [if_neg c, if_neg c1, if_pos ⟨p, Or.inr g1⟩]
              have pe : pE G (sp2 G len) = sp2 G len := by
                unfold pE
                rw [if_neg g, if_pos (u1.2 g1)]
              refine ok_e (by rw [if_neg g, u1.2 g1]; omega) ?_
              refine x_srE (st := y1) (sk := y3) (vo := 0) h ha3 (by omega) (fun z => by omega) (fun _ a' => ?_)
              have := hr (by omega) a'
              rw [← stv (by omega), ← y3e, show svv G len = 0 by unfold svv; rw [if_neg c1, if_pos ⟨p, g1⟩]] at this
              exact this
            · have u2 := u1.1 (by omega)
              refine ok_t (by rw [if_neg g]; omega) ?_
              refine ok_b ((b_word4 hN h ha3).mono (fun y4 S1 z => ?_))
              obtain ⟨⟨a4, w4, z1, ha4, z3⟩, z6, z7⟩ := z
              subst z1
              dsimp only
              obtain ⟨j1, j2⟩ := vo_word (G := G) (s := sp2 G len) (by omega)
              have e4 : pL G (vow (k00 G (sp2 G len))) (sp2 G len) = pL G (vow 0) (sp2 G len) := rfl
              rw [j1, e4] at ha4
              have se : spf G len = pE G (sp3 G len) := by
                unfold spf
                rw [if_neg c, if_neg c1, if_neg (fun z => by have := z.2; omega)]
              have lbd2 : Bd len (pL G (vow 0) (sp2 G len)) := pL_bd hG _ (by decide) b2
              refine ok_nb (by omega) ?_
              by_cases g2 : pL G (vow 0) (sp2 G len) < 0
              · have s3 : sp3 G len = pL G (vow 0) (sp2 G len) := pN_neg g2
                rw [s3, pE_neg g2] at se
                by_cases g3 : y4 + 1 = 1
                · refine ok_e (by omega) ?_
                  refine tk_b (x_takeNumber hN h ha4) (fun y5 a5 w5 ha5 _ => ?_)
                  rw [pN_neg g2] at ha5
                  exact gneg _ a5 w5 y1 y3 y5 ha5 g2 lbd2 se
                · refine ok_t g3 ?_
                  exact gneg _ a4 w4 y1 y3 0 ha4 g2 lbd2 se
              · have y4e := (z3 (ha4.wm (by omega))).1
                rw [j2 (by rw [j1, e4]; omega)] at y4e
                have y40 : y4 = 0 := y4e
                refine ok_e (by omega) ?_
                refine tk_b (x_takeNumber hN h ha4) (fun y5 a5 w5 ha5 hy5 => ?_)
                have e5 : pN G len 1 99 (pL G (vow 0) (sp2 G len)) = sp3 G len := rfl
                rw [e5] at ha5
                unfold Bd at b3
                refine x_srE (st := y1) (sk := y3) (vo := y5) h ha5 (by omega) (fun z a' w' => ?_) (fun z a' => ?_)
                · rw [← se] at z ⊢
                  exact hw z a' w'
                · have s30 := (pE_ge z).1
                  have y5e := (hy5 (ha5.wm s30)).1
                  rw [← se] at z
                  have := hr z a'
                  rw [← stv (by omega), ← y3e, show svv G len = y5 by unfold svv; rw [if_neg c1, if_neg (fun q => g1 q.2)]; exact y5e.symm] at this
                  exact this
        · rw [p] at ha2 d y2e
          have s2 : sp2 G len = sp1 G len := by
            unfold sp2
            rw [if_neg (by omega)]
          have e4 : pL G (psw 1) (sp1 G len) = pL G (vow 0) (sp2 G len) := by
            rw [s2]
            rfl
          rw [e4] at ha2 d
          have se : spf G len = pE G (sp3 G len) := by
            unfold spf
            rw [if_neg c, if_neg c1, if_neg (fun z => by have := z.1; omega)]
          refine ok_t (by omega) (ok_e (by omega) ?_)
          refine tk_b (x_takeNumber hN h ha2) (fun y5 a5 w5 ha5 hy5 => ?_)
          have e5 : pN G len 1 99 (pL G (vow 0) (sp2 G len)) = sp3 G len := rfl
          rw [e5] at ha5
          unfold Bd at b3
          refine x_srE (st := y1) (sk := 0) (vo := y5) h ha5 (by omega) (fun z a' w' => ?_) (fun z a' => ?_)
          · rw [← se] at z ⊢
            exact hw z a' w'
          · have s30 := (pE_ge z).1
            have y5e := (hy5 (ha5.wm s30)).1
            rw [← se] at z
            have := hr z a'
            rw [← stv (by omega), show svk G len = 0 by unfold svk; rw [if_neg c1, if_neg (by omega)], show svv G len = y5 by unfold svv; rw [if_neg c1, if_neg (fun q => by have := q.1; omega)]; exact y5e.symm] at this
            exact this
end
section
-- cl
/-- the volume's part of a pattern, in the reference -/
theorem x_vol {e : w_E} {N : Nat} {len q : Int} {G : Int → Int} {R : w_S} (hN : 2001 ≤ N) (hR : TR R len G) (h0 : 0 ≤ q) (hl : q ≤ len) : Ok ((E_R_literal_v1 e N q R).bind (fun q817 => (if 0 ≤ q817.1 then ((E_R_numeral e N q817.1 1 99 q817.2).bind (fun q822 => (if 0 ≤ q822.1 then (if q822.1 ≠ (q822.2.1 129 2) then (if w_nb ((-1) - q822.1) = true then some ((-1) - q822.1, (w_put q822.2 129 139 (q822.2.1 129 3))) else none) else some (q822.1, (w_put q822.2 129 139 (q822.2.1 129 3)))) else some (q822.1, q822.2)))) else some (q817.1, q817.2)))) (fun y R1 => y = pE G (pN G len 1 99 (pL G (vow 0) q)) ∧ frm [] [129] [(129, 3), (129, 139)] R R1 ∧ (0 ≤ y → R1.1 129 139 = vl G (pL G (vow 0) q) (nd G (len - pL G (vow 0) q).toNat (pL G (vow 0) q)))) := by
  have lb := hR.2.2.1
  have hx := x_lit1 (e := e) (N := N) hN hR h0 (by omega)
  have e1 : wl 17 = vow 0 := by
    rw [wl17]
    rfl
  rw [e1] at hx
  have b1 : Bd len (pL G (vow 0) q) := pL_bd hR.e _ (by decide) ⟨by omega, by omega⟩
  have b2 : Bd len (pN G len 1 99 (pL G (vow 0) q)) := pN_bd b1
  unfold Bd at b1 b2
  refine ok_b (ok_of hx ?_)
  dsimp only
  generalize pL G (vow 0) q = u at *
  by_cases c : 0 ≤ u
  · have hn := x_numeral (e := e) (N := N) (lo := 1) (hi := 99) hN hR c (by omega)
    generalize vl G u (nd G (len - u).toNat u) = v at *
    generalize pN G len 1 99 u = p at *
    refine ok_t c ?_
    by_cases d : 0 ≤ p
    · rw [if_pos d] at hn
      refine ok_b (ok_of hn ?_)
      dsimp only
      refine ok_t d ?_
      rw [show (w_put R 129 3 v).1 129 2 = len by simp only [w_put_r, reduceIte, Nat.reduceEqDiff, pt_at]; exact hR.1, show (w_put R 129 3 v).1 129 3 = v by simp only [w_put_r, reduceIte, Nat.reduceEqDiff, pt_at]]
      have ge := hR.2.2.2 p d
      by_cases g : p = len
      · have pe : pE G p = p := by
          unfold pE
          rw [if_neg (by omega), if_pos (ge.2 (by omega))]
        refine ok_e (by omega) (ok_s ⟨pe.symm, by repeat (first | exact frm.refl _ _ _ _ | refine frm.put ?_ rfl | refine frm.puto ?_ rfl rfl), fun _ => by simp only [w_put_r, reduceIte, Nat.reduceEqDiff, pt_at]⟩)
      · have pe : pE G p = -1 - p := by
          unfold pE
          have := (ge.1 (by omega)).2.1
          rw [if_neg (by omega), if_neg (by omega)]
        refine ok_t g (ok_nb (by omega) (ok_s ⟨pe.symm, by repeat (first | exact frm.refl _ _ _ _ | refine frm.put ?_ rfl | refine frm.puto ?_ rfl rfl), fun z => by omega⟩))
    · rw [if_neg d] at hn
      refine ok_b (ok_of hn ?_)
      dsimp only
      exact ok_e d (ok_s ⟨(pE_neg (by omega)).symm, frm.refl _ _ _ _, fun z => by omega⟩)
  · refine ok_e c (ok_s ⟨?_, frm.refl _ _ _ _, fun z => by omega⟩)
    rw [pN_neg (by omega), pE_neg (by omega)]
theorem x_patternText {e : w_E} {N : Nat} {len : Int} {G : Int → Int} {R : w_S} (hN : 2001 ≤ N) (hR : TR R len G) : Ok (E_R_patternText e N R) (fun y R1 => y = spf G len ∧ frm [] [129] [(129, 3), (129, 137), (129, 138), (129, 139)] R R1 ∧ (0 ≤ y → R1.1 129 137 = svs G len ∧ R1.1 129 138 = svk G len ∧ R1.1 129 139 = svv G len)) := by
  have lb := hR.2.2.1
  have l0 := hR.2.1
  have hG := hR.e
  have hx := x_lit0 (e := e) (N := N) hN hR (show (0 : Int) ≤ 0 by omega) (by omega)
  have e1 : wl 15 = evw 0 := by
    rw [wl15]
    rfl
  have e16 : wl 16 = psw 0 := by
    rw [wl16]
    rfl
  rw [e1, show pL G (evw 0) 0 = sp0 G from rfl] at hx
  have b0 : Bd len (sp0 G) := pL_bd hG _ (by decide) ⟨by omega, by omega⟩
  have b1 : Bd len (sp1 G len) := pN_bd b0
  have b0' := b0
  have b1' := b1
  unfold Bd at b0' b1'
  unfold E_R_patternText
  refine ok_b (ok_of hx ?_)
  dsimp only
  by_cases c : 0 ≤ sp0 G
  · have hn := x_numeral (e := e) (N := N) (lo := 1) (hi := 366) hN hR c (by omega)
    rw [show pN G len 1 366 (sp0 G) = sp1 G len from rfl, show vl G (sp0 G) (nd G (len - sp0 G).toNat (sp0 G)) = svs G len from rfl] at hn
    refine ok_t c ?_
    by_cases d : 0 ≤ sp1 G len
    · rw [if_pos d] at hn
      refine ok_b (ok_of hn ?_)
      dsimp only
      refine ok_t d ?_
      rw [show (w_put R 129 3 (svs G len)).1 129 2 = len by simp only [w_put_r, reduceIte, Nat.reduceEqDiff, pt_at]; exact hR.1, show (w_put R 129 3 (svs G len)).1 129 3 = svs G len by simp only [w_put_r, reduceIte, Nat.reduceEqDiff, pt_at]]
      have fr0 : frm [] [129] [(129, 3), (129, 137), (129, 138), (129, 139)] R (w_put (w_put (w_put (w_put R 129 3 (svs G len)) 129 137 (svs G len)) 129 138 0) 129 139 0) := by repeat (first | exact frm.refl _ _ _ _ | refine frm.put ?_ rfl | refine frm.puto ?_ rfl rfl)
      have v137 : (w_put (w_put (w_put (w_put R 129 3 (svs G len)) 129 137 (svs G len)) 129 138 0) 129 139 0).1 129 137 = svs G len := by simp only [w_put_r, reduceIte, Nat.reduceEqDiff, pt_at]
      have v138 : (w_put (w_put (w_put (w_put R 129 3 (svs G len)) 129 137 (svs G len)) 129 138 0) 129 139 0).1 129 138 = 0 := by simp only [w_put_r, reduceIte, Nat.reduceEqDiff, pt_at]
      have v139 : (w_put (w_put (w_put (w_put R 129 3 (svs G len)) 129 137 (svs G len)) 129 138 0) 129 139 0).1 129 139 = 0 := by simp only [w_put_r, reduceIte, Nat.reduceEqDiff, pt_at]
      have hR1 : TR (w_put (w_put (w_put (w_put R 129 3 (svs G len)) 129 137 (svs G len)) 129 138 0) 129 139 0) len G := hR.fr fr0 (by decide)
      generalize w_put (w_put (w_put (w_put R 129 3 (svs G len)) 129 137 (svs G len)) 129 138 0) 129 139 0 = R1 at *
      by_cases d1 : sp1 G len = len
      · refine ok_e (by omega) (ok_s ⟨?_, fr0, fun _ => ⟨v137, ?_, ?_⟩⟩)
        · unfold spf
          rw [if_neg (by omega), if_pos (by omega)]
        · rw [v138]
          unfold svk
          rw [if_pos (by omega)]
        · rw [v139]
          unfold svv
          rw [if_pos (by omega)]
      · refine ok_t d1 (ok_b (ok_of (x_at hR1 d) ?_))
        dsimp only
        have volc : psd G (sp1 G len) = 1 → Ok ((E_R_literal_v1 e N (sp1 G len) R1).bind (fun q817 => (if 0 ≤ q817.1 then ((E_R_numeral e N q817.1 1 99 q817.2).bind (fun q822 => (if 0 ≤ q822.1 then (if q822.1 ≠ (q822.2.1 129 2) then (if w_nb ((-1) - q822.1) = true then some ((-1) - q822.1, (w_put q822.2 129 139 (q822.2.1 129 3))) else none) else some (q822.1, (w_put q822.2 129 139 (q822.2.1 129 3)))) else some (q822.1, q822.2)))) else some (q817.1, q817.2)))) (fun y R1 => y = spf G len ∧ frm [] [129] [(129, 3), (129, 137), (129, 138), (129, 139)] R R1 ∧ (0 ≤ y → R1.1 129 137 = svs G len ∧ R1.1 129 138 = svk G len ∧ R1.1 129 139 = svv G len)) := fun p => by
          have s2 : sp2 G len = sp1 G len := by
            unfold sp2
            rw [if_neg (by omega)]
          have se : spf G len = pE G (sp3 G len) := by
            unfold spf
            rw [if_neg (by omega), if_neg (by omega), if_neg (fun z => by have := z.1; omega)]
          refine (x_vol (e := e) (N := N) hN hR1 d (by omega)).mono (fun y R2 z => ?_)
          obtain ⟨z1, z2, z3⟩ := z
          have k137 := z2.2.2 129 137 rfl rfl
          have k138 := z2.2.2 129 138 rfl rfl
          refine ⟨?_, fr0.trans (z2.weak (by decide)), fun hy => ⟨by rw [k137, v137], ?_, ?_⟩⟩
          · rw [z1, se]
            unfold sp3
            rw [s2]
          · rw [k138, v138]
            unfold svk
            rw [if_neg (by omega), if_neg (by omega)]
          · rw [z3 hy]
            unfold svv
            rw [if_neg (by omega), if_neg (fun z => by have := z.1; omega), s2]
        by_cases g : G (sp1 G len) = 32
        · refine ok_e (by omega) (ok_nb (by omega) (ok_b (ok_of (x_at hR1 (by omega)) ?_)))
          dsimp only
          by_cases g1 : G (sp1 G len + 1) = 115
          · have p : psd G (sp1 G len) = 0 := by
              unfold psd
              rw [if_pos ⟨g, g1⟩]
            have hx2 := x_lit2 (e := e) (N := N) hN hR1 d (by omega)
            rw [e16] at hx2
            have s2 : sp2 G len = pM G len (pL G (psw 0) (sp1 G len)) := by
              unfold sp2
              rw [if_pos p]
            have sk : svk G len = vM G len (pL G (psw 0) (sp1 G len)) := by
              unfold svk
              rw [if_neg (by omega), if_pos p]
            have lbd : Bd len (pL G (psw 0) (sp1 G len)) := pL_bd hG _ (by decide) b1
            have b2 : Bd len (sp2 G len) := by
              rw [s2]
              exact pM_bd hG lbd
            unfold Bd at lbd b2
            refine ok_e (by omega) (ok_b (ok_of hx2 ?_))
            dsimp only
            by_cases m : 0 ≤ pL G (psw 0) (sp1 G len)
            · refine ok_t m (ok_b ((x_monthsR (e := e) (N := N) hN hR1 m (by omega) v138).mono (fun y R2 z => ?_)))
              obtain ⟨z1, z2, z3⟩ := z
              rw [← s2] at z1
              rw [← sk] at z3
              have hR2 : TR R2 len G := hR1.fr z2 (by decide)
              have k137 := z2.2.2 129 137 rfl rfl
              have k139 := z2.2.2 129 139 rfl rfl
              have fr2 := fr0.trans (z2.weak (L' := []) (O' := [129]) (J' := [(129, 3), (129, 137), (129, 138), (129, 139)]) (by decide))
              dsimp only
              rw [hR2.1]
              subst z1
              by_cases n : sp2 G len < 0
              · refine ok_t n (ok_s ⟨?_, fr2, fun z => by omega⟩)
                unfold spf
                rw [if_neg (by omega), if_neg (by omega), if_pos ⟨p, Or.inl n⟩]
              · refine ok_e n ?_
                by_cases n1 : sp2 G len = len
                · refine ok_e (by omega) (ok_s ⟨?_, fr2, fun _ => ⟨by rw [k137, v137], z3 (by omega), ?_⟩⟩)
                  · unfold spf
                    rw [if_neg (by omega), if_neg (by omega), if_pos ⟨p, Or.inr (by omega)⟩]
                  · rw [k139, v139]
                    unfold svv
                    rw [if_neg (by omega), if_pos ⟨p, by omega⟩]
                · refine ok_t n1 ?_
                  have se : spf G len = pE G (sp3 G len) := by
                    unfold spf
                    rw [if_neg (by omega), if_neg (by omega), if_neg (fun z => by have := z.2; omega)]
                  refine (x_vol (e := e) (N := N) hN hR2 (show 0 ≤ sp2 G len by omega) (by omega)).mono (fun y R3 r => ?_)
                  obtain ⟨r1, r2, r3⟩ := r
                  have j137 := r2.2.2 129 137 rfl rfl
                  have j138 := r2.2.2 129 138 rfl rfl
                  refine ⟨by rw [r1, se]; rfl, fr2.trans (r2.weak (by decide)), fun hy => ⟨by rw [j137, k137, v137], by rw [j138]; exact z3 (by omega), ?_⟩⟩
                  rw [r3 hy]
                  unfold svv
                  rw [if_neg (by omega), if_neg (fun z => by have := z.2; omega)]
            · have s2n : sp2 G len = pL G (psw 0) (sp1 G len) := by
                rw [s2, pM_neg (by omega)]
              refine ok_e m (ok_s ⟨?_, fr0, fun z => by omega⟩)
              unfold spf
              rw [if_neg (by omega), if_neg (by omega), if_pos ⟨p, Or.inl (by omega)⟩, s2n]
          · refine ok_t g1 (volc ?_)
            unfold psd
            rw [if_neg (fun z => g1 z.2)]
        · refine ok_t g (volc ?_)
          unfold psd
          rw [if_neg (fun z => g z.1)]
    · rw [if_neg d] at hn
      refine ok_b (ok_of hn ?_)
      dsimp only
      refine ok_e d (ok_s ⟨?_, frm.refl _ _ _ _, fun z => by omega⟩)
      unfold spf
      rw [if_pos (by omega)]
  · have s1 : sp1 G len = sp0 G := pN_neg (by omega)
    refine ok_e c (ok_s ⟨?_, frm.refl _ _ _ _, fun z => by omega⟩)
    unfold spf
    rw [if_pos (by omega), s1]
/-- issues foretold in both -/
theorem l_fore {e : w_E} {N s : Nat} {st sk : Int} (h1 : 1 ≤ st) (h2 : st ≤ 366) (hs : s ≤ 20) : ∀ (k nf nr i : Nat) (d : Int) (S R : w_S), 50001 - d ≤ k → 0 ≤ d → d ≤ 51000 → k < nf → k < nr → i ≤ 300 → S.1 76 0 = s → R.1 129 131 = s → R.1 129 137 = st → R.1 129 138 = sk → (∀ j, j < i → S.1 80 (300 * s + j) < d) → (∀ j, j < i → R.1 220 (300 * s + j) = S.1 80 (300 * s + j) ∧ R.1 221 (300 * s + j) = S.1 81 (300 * s + j) ∧ 0 ≤ S.1 80 (300 * s + j) ∧ S.1 80 (300 * s + j) ≤ 50000) → (∀ j j', j < j' → j' < i → S.1 80 (300 * s + j) < S.1 80 (300 * s + j')) → Ok (El_Buying_foretell e N nf 0 [st, sk, (i : Int), d] [] S) (fun _ S1 => Ok (El_R_doSerial e N nr 0 [(i : Int), d] [] R) (fun y' R1 => y' = s ∧ ∃ n : Nat, n ≤ 300 ∧ frm [79, 80, 81] [] [] S S1 ∧ frm [219, 220, 221] [] [] R R1 ∧ S1.1 79 = pt (S.1 79) s (n : Int) ∧ R1.1 219 = pt (R.1 219) s (n : Int) ∧ (∀ j, j < n → R1.1 220 (300 * s + j) = S1.1 80 (300 * s + j) ∧ R1.1 221 (300 * s + j) = S1.1 81 (300 * s + j) ∧ 0 ≤ S1.1 80 (300 * s + j) ∧ S1.1 80 (300 * s + j) ≤ 50000) ∧ (∀ j j', j < j' → j' < n → S1.1 80 (300 * s + j) < S1.1 80 (300 * s + j')) ∧ ∀ u, (u < 300 * s ∨ 300 * s + 300 ≤ u) → S1.1 80 u = S.1 80 u ∧ S1.1 81 u = S.1 81 u ∧ R1.1 220 u = R.1 220 u ∧ R1.1 221 u = R.1 221 u))
  | _, 0, _, _, _, _, _, _, _, _, h, _, _, _, _, _, _, _, _, _ => by omega
  | _, _ + 1, 0, _, _, _, _, _, _, _, _, h, _, _, _, _, _, _, _, _ => by omega
  | k, nf + 1, nr + 1, i, d, S, R, g1, g2, g3, g4, g5, g6, s1, r1, r2, r3, a1, a2, a3 => by
    have stop : Ok (if w_ib (S.1 76 0) 21 = true then some (0, w_put S 79 (S.1 76 0).toNat (i : Int)) else none) (fun _ S1 => Ok (if w_ib (R.1 129 131) 21 = true then some (R.1 129 131, w_put R 219 (R.1 129 131).toNat (i : Int)) else none) (fun y' R1 => y' = s ∧ ∃ n : Nat, n ≤ 300 ∧ frm [79, 80, 81] [] [] S S1 ∧ frm [219, 220, 221] [] [] R R1 ∧ S1.1 79 = pt (S.1 79) s (n : Int) ∧ R1.1 219 = pt (R.1 219) s (n : Int) ∧ (∀ j, j < n → R1.1 220 (300 * s + j) = S1.1 80 (300 * s + j) ∧ R1.1 221 (300 * s + j) = S1.1 81 (300 * s + j) ∧ 0 ≤ S1.1 80 (300 * s + j) ∧ S1.1 80 (300 * s + j) ≤ 50000) ∧ (∀ j j', j < j' → j' < n → S1.1 80 (300 * s + j) < S1.1 80 (300 * s + j')) ∧ ∀ u, (u < 300 * s ∨ 300 * s + 300 ≤ u) → S1.1 80 u = S.1 80 u ∧ S1.1 81 u = S.1 81 u ∧ R1.1 220 u = R.1 220 u ∧ R1.1 221 u = R.1 221 u)) := by
      rw [s1, r1, show ((s : Int)).toNat = s by omega]
      refine ok_ib (by omega) (ok_s (ok_ib (by omega) (ok_s ⟨rfl, i, g6, by repeat (first | exact frm.refl _ _ _ _ | refine frm.put ?_ rfl | refine frm.puto ?_ rfl rfl), by repeat (first | exact frm.refl _ _ _ _ | refine frm.put ?_ rfl | refine frm.puto ?_ rfl rfl), ?_, ?_, fun j hj => ?_, fun j j' q1 q2 => ?_, fun u hu => ?_⟩)))
      · simp only [w_put_r, reduceIte, Nat.reduceEqDiff, pt_at]
      · simp only [w_put_r, reduceIte, Nat.reduceEqDiff, pt_at]
      · simp only [w_put_r, reduceIte, Nat.reduceEqDiff, pt_at]
        exact a2 j hj
      · simp only [w_put_r, reduceIte, Nat.reduceEqDiff, pt_at]
        exact a3 j j' q1 q2
      · simp only [w_put_r, reduceIte, Nat.reduceEqDiff, pt_at]
        exact ⟨trivial, trivial, trivial, trivial⟩
    rw [El_Buying_foretell, El_R_doSerial]
    by_cases c1 : 50000 < d
    · refine ok_t c1 (stop.mono (fun _ S1 z => ok_t c1 z))
    · by_cases c2 : 300 ≤ i
      · refine ok_e c1 (ok_t (by omega) (stop.mono (fun _ S1 z => ok_e c1 (ok_t (by omega) z))))
      · have b1 := b_and1 (w_shr sk (w_rem (w_div d 30) 12))
        rw [r2, r3, show max 1 st = st by omega]
        by_cases c3 : w_and (w_shr sk (w_rem (w_div d 30) 12)) 1 = 0
        · have ih := l_fore (e := e) (N := N) (s := s) (st := st) (sk := sk) h1 h2 hs (k - 1) nf nr (i + 1) (d + st) (w_put (w_put S 80 (300 * s + i) d) 81 (300 * s + i) (-1)) (w_put (w_put R 220 (300 * s + i) d) 221 (300 * s + i) (-1)) (by omega) (by omega) (by omega) (by omega) (by omega) (by omega) (by simp only [w_put_r, reduceIte, Nat.reduceEqDiff, pt_at]; exact s1) (by simp only [w_put_r, reduceIte, Nat.reduceEqDiff, pt_at]; exact r1) (by simp only [w_put_r, reduceIte, Nat.reduceEqDiff, pt_at]; exact r2) (by simp only [w_put_r, reduceIte, Nat.reduceEqDiff, pt_at]; exact r3) (fun j hj => by
            simp only [w_put_r, reduceIte, Nat.reduceEqDiff, pt_at]
            by_cases q : j = i
            · rw [if_pos (by omega)]
              omega
            · rw [if_neg (by omega)]
              have := a1 j (by omega)
              omega) (fun j hj => by
            simp only [w_put_r, reduceIte, Nat.reduceEqDiff, pt_at]
            by_cases q : j = i
            · have e9 : 300 * s + j = 300 * s + i := by omega
              refine ⟨by rw [if_pos e9, if_pos e9], by rw [if_pos e9, if_pos e9], by rw [if_pos e9]; omega, by rw [if_pos e9]; omega⟩
            · rw [if_neg (by omega), if_neg (by omega), if_neg (by omega), if_neg (by omega)]
              exact a2 j (by omega)) (fun j j' q1 q2 => by
            simp only [w_put_r, reduceIte, Nat.reduceEqDiff, pt_at]
            by_cases q : j' = i
            · rw [if_neg (by omega), if_pos (by omega)]
              exact a1 j (by omega)
            · rw [if_neg (by omega), if_neg (by omega)]
              exact a3 j j' q1 (by omega))
          rw [show ((i + 1 : Nat) : Int) = (i : Int) + 1 by omega] at ih
          refine ok_e c1 (ok_e (by omega) (ok_e (by omega) ?_))
          rw [s1, show ((s : Int) * 300 + (i : Int)).toNat = 300 * s + i by omega]
          refine ok_nb (by omega) (ok_nb (by omega) (ok_ib (by omega) (ok_nb (by omega) (ok_nb (by omega) ?_))))
          refine ih.mono (fun y S1 z => ?_)
          refine ok_e c1 (ok_e (by omega) (ok_t (by omega) ?_))
          rw [r1, show (300 * (s : Int) + (i : Int)).toNat = 300 * s + i by omega]
          refine ok_nb (by omega) (ok_nb (by omega) (ok_ib (by omega) (ok_nb (by omega) (ok_nb (by omega) ?_))))
          refine z.mono (fun y' R1 q => ?_)
          obtain ⟨q1, n, q2, q3, q4, q5, q6, q7, q8, q9⟩ := q
          refine ⟨q1, n, q2, frm.trans (by repeat (first | exact frm.refl _ _ _ _ | refine frm.put ?_ rfl | refine frm.puto ?_ rfl rfl)) q3, frm.trans (by repeat (first | exact frm.refl _ _ _ _ | refine frm.put ?_ rfl | refine frm.puto ?_ rfl rfl)) q4, ?_, ?_, q7, q8, fun u hu => ?_⟩
          · rw [q5]
            simp only [w_put_r, reduceIte, Nat.reduceEqDiff, pt_at]
          · rw [q6]
            simp only [w_put_r, reduceIte, Nat.reduceEqDiff, pt_at]
          · have := q9 u hu
            simp only [w_put_r, reduceIte, Nat.reduceEqDiff, pt_at] at this
            rw [if_neg (by omega), if_neg (by omega), if_neg (by omega), if_neg (by omega)] at this
            exact this
        · have ih := l_fore (e := e) (N := N) (s := s) (st := st) (sk := sk) h1 h2 hs (k - 1) nf nr i (d + st) S R (by omega) (by omega) (by omega) (by omega) (by omega) g6 s1 r1 r2 r3 (fun j hj => by have := a1 j hj; omega) a2 a3
          refine ok_e c1 (ok_e (by omega) (ok_t c3 (ok_nb (by omega) (ih.mono (fun y S1 z => ?_)))))
          exact ok_e c1 (ok_e (by omega) (ok_e (by omega) (ok_nb (by omega) z)))
theorem t_serial {e : w_E} {N : Nat} {S R : w_S} {x1 f len : Int} {G : Int → Int} (hN : 60000 ≤ N) (h : TX S f len G) (hr : TR R len G) (h4 : S.1 1 4 = f) (h6 : S.1 1 6 = -1) (hB : RelB S R) (hG : RelG S R) (hx : 1 ≤ x1 ∧ x1 ≤ S.1 3 0 ∧ S.1 5 x1.toNat = -1) (ht : R.1 129 12 = S.1 27 1) (ht0 : 0 ≤ S.1 27 1) (ht1 : S.1 27 1 ≤ 50000) : Ok (E_Buying_addSerial e N x1 (S.1 27 1) S) (fun y S1 => Ok (E_R_doSerial e N x1 R) (fun y' R1 => Pt R (fun S1 R1 => frm [] [1] [(1, 4), (1, 6)] S S1 ∧ frm [] [129] [(129, 3), (129, 4), (129, 137), (129, 138), (129, 139)] R R1) (fun S1 R1 => frm [77, 78, 79, 80, 81] [1, 76] [(1, 4), (1, 6), (76, 0)] S S1 ∧ frm [217, 218, 219, 220, 221] [129] [(129, 3), (129, 131), (129, 137), (129, 138), (129, 139)] R R1 ∧ RelB S1 R1) y S1 y' R1)) := by
  have l0 := hr.2.1
  have lb := hr.2.2.1
  have hrec := x_isRec1 (e := e) (N := N) hG hx
  obtain ⟨h1, h2, h3, h5⟩ := hB
  have ts := tp_self S
  rw [h4, h6] at ts
  have hpt := x_patternText (e := e) (N := N) (by omega) hr
  have pb : -3000 ≤ spf G len := by
    have hG := hr.e
    have b0 : Bd len (sp0 G) := pL_bd hG _ (by decide) ⟨by omega, by omega⟩
    have b1 : Bd len (sp1 G len) := pN_bd b0
    have b2 : Bd len (sp2 G len) := by
      unfold sp2
      split
      · exact pM_bd hG (pL_bd hG _ (by decide) b1)
      · exact b1
    have b3 : Bd len (sp3 G len) := pN_bd (pL_bd hG _ (by decide) b2)
    unfold Bd at b1 b2 b3
    unfold spf
    split
    · omega
    · split
      · omega
      · split
        · omega
        · unfold pE
          split
          · omega
          · split <;> omega
  have key := x_front (e := e) (N := N) (x1 := x1) (x3 := S.1 27 1) (Q := fun y S1 => Ok (E_R_doSerial e N x1 R) (fun y' R1 => Pt R (fun S1 R1 => frm [] [1] [(1, 4), (1, 6)] S S1 ∧ frm [] [129] [(129, 3), (129, 4), (129, 137), (129, 138), (129, 139)] R R1) (fun S1 R1 => frm [77, 78, 79, 80, 81] [1, 76] [(1, 4), (1, 6), (76, 0)] S S1 ∧ frm [217, 218, 219, 220, 221] [129] [(129, 3), (129, 131), (129, 137), (129, 138), (129, 139)] R R1 ∧ RelB S1 R1) y S1 y' R1)) (by omega) h (show At f len f (-1) 0 from ⟨by omega, by omega, Or.inl ⟨rfl, by omega⟩⟩)
  rw [ts] at key
  refine key (fun hn a' w' => ?_) (fun hp a' => ?_)
  · unfold E_R_doSerial
    refine ok_b (ok_of hrec ?_)
    dsimp only
    refine ok_t (by omega) (ok_b (hpt.mono (fun y R1 z => ?_)))
    obtain ⟨z1, z2, z3⟩ := z
    dsimp only
    refine ok_e (by omega) (ok_nb (by omega) (ok_s ⟨by omega, Or.inl ⟨by omega, ⟨?_, ?_⟩, rfl⟩⟩))
    · unfold tp
      repeat (first | exact frm.refl _ _ _ _ | refine frm.put ?_ rfl | refine frm.puto ?_ rfl rfl)
    · exact frm.puto (z2.weak (by decide)) rfl rfl
  · have s76 : (tp S a' (-1)).1 76 = S.1 76 := tpo S a' (-1) (by decide)
    unfold SrA
    rw [s76]
    by_cases c : S.1 76 0 < 20
    · refine ok_t c (ok_nb (by omega) (ok_ib (by omega) ?_))
      obtain ⟨s, hs⟩ : ∃ s : Nat, S.1 76 0 + 1 = s := ⟨(S.1 76 0 + 1).toNat, by omega⟩
      rw [hs, show ((s : Int)).toNat = s by omega]
      obtain ⟨v, R1, he, z1, z2, z3⟩ := hpt
      obtain ⟨p1, p2, p3⟩ := z3 (by omega)
      have r131 := z2.2.2 129 131 rfl rfl
      have r12 := z2.2.2 129 12 rfl rfl
      have sp1g : 0 ≤ sp1 G len := by
        unfold spf at hp
        split at hp
        · omega
        · omega
      have sv := pN_v (show 0 ≤ pN G len 1 366 (sp0 G) from sp1g)
      have lf := l_fore (e := e) (N := N) (s := s) (st := svs G len) (sk := svk G len) sv.1 sv.2 (by omega) 50001 N N 0 (S.1 27 1) (w_put (w_put (w_put (tp S a' (-1)) 76 0 (s : Int)) 77 s x1) 78 s (svv G len)) (w_put (w_put (w_put R1 129 131 (s : Int)) 217 s x1) 218 s (svv G len)) (by omega) (by omega) (by omega) (by omega) (by omega) (by omega) (by simp only [w_put_r, reduceIte, Nat.reduceEqDiff, pt_at]) (by simp only [w_put_r, reduceIte, Nat.reduceEqDiff, pt_at]) (by simp only [w_put_r, reduceIte, Nat.reduceEqDiff, pt_at]; exact p1) (by simp only [w_put_r, reduceIte, Nat.reduceEqDiff, pt_at]; exact p2) (fun j hj => by omega) (fun j hj => by omega) (fun j j' q1 q2 => by omega)
      refine ok_b (Ok.mono (show Ok (E_Buying_foretell e N (svs G len) (svk G len) (S.1 27 1) _) _ from lf) (fun y S1 z => ok_s ?_))
      unfold E_R_doSerial
      refine ok_b (ok_of hrec ?_)
      dsimp only
      refine ok_t (by omega) (ok_b (ok_of he ?_))
      dsimp only
      rw [r131, h1, hs, r12, ht, p3, show ((s : Int)).toNat = s by omega]
      refine ok_t (by omega) (ok_t (by omega) (ok_nb (by omega) (ok_ib (by omega) (Ok.mono z (fun y' R2 q => ?_)))))
      obtain ⟨q1, n, q2, q3, q4, q5, q6, q7, q8, q9⟩ := q
      have c76 : S1.1 76 0 = s := by
        rw [q3.2.1 76 rfl rfl]
        simp only [w_put_r, reduceIte, Nat.reduceEqDiff, pt_at]
      have c3 : S1.1 3 = S.1 3 := by
        rw [q3.2.1 3 rfl rfl]
        unfold tp
        simp only [w_put_r, reduceIte, Nat.reduceEqDiff, pt_at]
      have c77 : S1.1 77 = pt (S.1 77) s x1 := by
        rw [q3.2.1 77 rfl rfl]
        unfold tp
        simp only [w_put_r, reduceIte, Nat.reduceEqDiff, pt_at]
      have c78 : S1.1 78 = pt (S.1 78) s (svv G len) := by
        rw [q3.2.1 78 rfl rfl]
        unfold tp
        simp only [w_put_r, reduceIte, Nat.reduceEqDiff, pt_at]
      have c79 : S1.1 79 = pt (S.1 79) s (n : Int) := by
        rw [q5]
        unfold tp
        simp only [w_put_r, reduceIte, Nat.reduceEqDiff, pt_at]
      have d131 : R2.1 129 131 = s := by
        rw [q4.2.1 129 rfl rfl]
        simp only [w_put_r, reduceIte, Nat.reduceEqDiff, pt_at]
      have d217 : R2.1 217 = pt (R.1 217) s x1 := by
        rw [q4.2.1 217 rfl rfl]
        simp only [w_put_r, reduceIte, Nat.reduceEqDiff, pt_at]
        rw [z2.2.1 217 rfl rfl]
      have d218 : R2.1 218 = pt (R.1 218) s (svv G len) := by
        rw [q4.2.1 218 rfl rfl]
        simp only [w_put_r, reduceIte, Nat.reduceEqDiff, pt_at]
        rw [z2.2.1 218 rfl rfl]
      have d219 : R2.1 219 = pt (R.1 219) s (n : Int) := by
        rw [q6]
        simp only [w_put_r, reduceIte, Nat.reduceEqDiff, pt_at]
        rw [z2.2.1 219 rfl rfl]
      have old : ∀ u, (u < 300 * s ∨ 300 * s + 300 ≤ u) → S1.1 80 u = S.1 80 u ∧ S1.1 81 u = S.1 81 u ∧ R2.1 220 u = R.1 220 u ∧ R2.1 221 u = R.1 221 u := fun u hu => by
        have := q9 u hu
        unfold tp at this
        simp only [w_put_r, reduceIte, Nat.reduceEqDiff, pt_at] at this
        rw [z2.2.1 220 rfl rfl, z2.2.1 221 rfl rfl] at this
        exact this
      have vob : 0 ≤ svv G len ∧ svv G len ≤ 99 := by
        unfold spf at hp
        unfold svv
        split
        · omega
        · rename_i g1
          rw [if_neg (by omega), if_neg g1] at hp
          split
          · omega
          · rename_i g2
            by_cases g3 : psd G (sp1 G len) = 0 ∧ (sp2 G len < 0 ∨ len ≤ sp2 G len)
            · rw [if_pos g3] at hp
              exfalso
              have := g3.2
              exact g2 ⟨g3.1, by omega⟩
            · rw [if_neg g3] at hp
              have := pN_v (show 0 ≤ pN G len 1 99 (pL G (vow 0) (sp2 G len)) from (pE_ge hp).1)
              omega
      refine ⟨by rw [q1, c76], Or.inr ⟨by omega, ⟨?_, ?_, by rw [c76, d131], by omega, by omega, fun s' e1 e2 => ?_⟩, ?_⟩⟩
      · have f0 : frm [77, 78, 79, 80, 81] [1, 76] [(1, 4), (1, 6), (76, 0)] S (w_put (w_put (w_put (tp S a' (-1)) 76 0 (s : Int)) 77 s x1) 78 s (svv G len)) := by
          unfold tp
          repeat (first | exact frm.refl _ _ _ _ | refine frm.put ?_ rfl | refine frm.puto ?_ rfl rfl)
        exact f0.trans (q3.weak (by decide))
      · have f0 : frm [217, 218, 219, 220, 221] [129] [(129, 3), (129, 131), (129, 137), (129, 138), (129, 139)] R1 (w_put (w_put (w_put R1 129 131 (s : Int)) 217 s x1) 218 s (svv G len)) := by repeat (first | exact frm.refl _ _ _ _ | refine frm.put ?_ rfl | refine frm.puto ?_ rfl rfl)
        exact (z2.weak (by decide)).trans (f0.trans (q4.weak (by decide)))
      · rw [c77, c78, c79, d217, d218, d219, c3]
        simp only [pt_at]
        by_cases g : s' = s
        · subst g
          simp only [reduceIte]
          exact ⟨trivial, hx.1, hx.2.1, trivial, vob.1, vob.2, trivial, by omega, by omega, fun i hi => q7 i (by omega), fun i j e3 e4 => q8 i j e3 (by omega)⟩
        · simp only [if_neg g]
          obtain ⟨k1, k2, k3, k4, k5, k6, k7, k8, k9, k10, k11⟩ := h5 s' e1 (by omega)
          refine ⟨k1, k2, k3, k4, k5, k6, k7, k8, k9, fun i hi => ?_, fun i j e3 e4 => ?_⟩
          · obtain ⟨o1, o2, o3, o4⟩ := old (300 * s' + i) (by omega)
            rw [o1, o2, o3, o4]
            exact k10 i hi
          · rw [(old (300 * s' + i) (by omega)).1, (old (300 * s' + j) (by omega)).1]
            exact k11 i j e3 e4
      · rw [q4.2.1 129 rfl rfl]
        simp only [w_put_r, reduceIte, Nat.reduceEqDiff, pt_at]
        exact z2.2.2 129 4 rfl rfl
    · refine ok_e c (ok_s ?_)
      unfold E_R_doSerial
      refine ok_b (ok_of hrec ?_)
      dsimp only
      refine ok_t (by omega) (ok_b (hpt.mono (fun y R1 z => ?_)))
      obtain ⟨z1, z2, z3⟩ := z
      dsimp only
      have r131 := z2.2.2 129 131 rfl rfl
      refine ok_t (by omega) (ok_e (by rw [r131]; omega) (ok_s ⟨rfl, Or.inl ⟨by omega, ⟨?_, ?_⟩, rfl⟩⟩))
      · unfold tp
        repeat (first | exact frm.refl _ _ _ _ | refine frm.put ?_ rfl | refine frm.puto ?_ rfl rfl)
      · exact frm.puto (z2.weak (by decide)) rfl rfl
end
section
-- cm
/-- the greatest number below one that has a property, or -1 -/
def gk (P : Nat → Bool) : Nat → Int
  | 0 => -1
  | n + 1 => if P n = true then (n : Int) else gk P n
theorem gk_b (P : Nat → Bool) : ∀ n, -1 ≤ gk P n ∧ gk P n < n
  | 0 => by
    rw [gk]
    omega
  | n + 1 => by
    have := gk_b P n
    rw [gk]
    split <;> omega
theorem gk_congr {P Q : Nat → Bool} : ∀ n, (∀ k, k < n → P k = Q k) → gk P n = gk Q n
  | 0, _ => rfl
  | n + 1, h => by
    rw [gk, gk, h n (by omega), gk_congr n (fun k hk => h k (by omega))]
/-- what names are to both; days up to today; rows below a place of the tape -/
def RelNm (S R : w_S) (top : Int) : Prop := R.1 129 24 = S.1 17 0 ∧ 0 ≤ S.1 17 0 ∧ S.1 17 0 ≤ 80 ∧ R.1 129 26 = S.1 17 3 ∧ 0 ≤ S.1 17 3 ∧ S.1 17 3 ≤ 240 ∧ (∀ a : Nat, 1 ≤ a → (a : Int) ≤ S.1 17 0 → S.1 19 a = gk (fun k => decide (R.1 142 k = a)) (S.1 17 3).toNat ∧ 0 ≤ S.1 19 a) ∧ ∀ k : Nat, (k : Int) < S.1 17 3 → S.1 20 k = gk (fun j => decide (R.1 142 j = R.1 142 k)) k ∧ S.1 21 k = R.1 143 k ∧ 0 ≤ R.1 143 k ∧ R.1 143 k ≤ S.1 27 1 ∧ 1 ≤ R.1 142 k ∧ R.1 142 k ≤ S.1 17 0 ∧ ∃ m : Nat, 1 ≤ m ∧ m ≤ 40 ∧ R.1 144 k = m ∧ Rw (S.1 2) top (S.1 22 k) m (fun j => R.1 145 (40 * k + j)) ∧ ∀ j, j < m → rwb (R.1 145 (40 * k + j)) = true
theorem RelNm.fr {S R S1 R1 : w_S} {top : Int} {L O L' O' : List Nat} {J J' : List (Nat × Nat)} (h : RelNm S R top) (hf : frm L O J S S1) (hg : frm L' O' J' R R1) (dd : (ckA L O [19, 20, 21, 22, 2] && (ckS L J [(17, 0), (17, 3), (27, 1)] && (ckA L' O' [142, 143, 144, 145] && ckS L' J' [(129, 24), (129, 26)]))) = true) : RelNm S1 R1 top := by
  have d := ck4 dd
  have a0 : S1.1 19 = S.1 19 := hf.2.1 19 (d.1 19 (by decide)).1 (d.1 19 (by decide)).2
  have a1 : S1.1 20 = S.1 20 := hf.2.1 20 (d.1 20 (by decide)).1 (d.1 20 (by decide)).2
  have a2 : S1.1 21 = S.1 21 := hf.2.1 21 (d.1 21 (by decide)).1 (d.1 21 (by decide)).2
  have a3 : S1.1 22 = S.1 22 := hf.2.1 22 (d.1 22 (by decide)).1 (d.1 22 (by decide)).2
  have a4 : S1.1 2 = S.1 2 := hf.2.1 2 (d.1 2 (by decide)).1 (d.1 2 (by decide)).2
  have b0 : S1.1 17 0 = S.1 17 0 := hf.2.2 17 0 (d.2.1 (17, 0) (by decide)).1 (d.2.1 (17, 0) (by decide)).2
  have b1 : S1.1 17 3 = S.1 17 3 := hf.2.2 17 3 (d.2.1 (17, 3) (by decide)).1 (d.2.1 (17, 3) (by decide)).2
  have b2 : S1.1 27 1 = S.1 27 1 := hf.2.2 27 1 (d.2.1 (27, 1) (by decide)).1 (d.2.1 (27, 1) (by decide)).2
  have g0 : R1.1 142 = R.1 142 := hg.2.1 142 (d.2.2.1 142 (by decide)).1 (d.2.2.1 142 (by decide)).2
  have g1 : R1.1 143 = R.1 143 := hg.2.1 143 (d.2.2.1 143 (by decide)).1 (d.2.2.1 143 (by decide)).2
  have g2 : R1.1 144 = R.1 144 := hg.2.1 144 (d.2.2.1 144 (by decide)).1 (d.2.2.1 144 (by decide)).2
  have g3 : R1.1 145 = R.1 145 := hg.2.1 145 (d.2.2.1 145 (by decide)).1 (d.2.2.1 145 (by decide)).2
  have k0 : R1.1 129 24 = R.1 129 24 := hg.2.2 129 24 (d.2.2.2 (129, 24) (by decide)).1 (d.2.2.2 (129, 24) (by decide)).2
  have k1 : R1.1 129 26 = R.1 129 26 := hg.2.2 129 26 (d.2.2.2 (129, 26) (by decide)).1 (d.2.2.2 (129, 26) (by decide)).2
  unfold RelNm at h ⊢
  simp only [a0, a1, a2, a3, a4, b0, b1, b2, g0, g1, g2, g3, k0, k1]
  exact h
theorem l_nameOn {e : w_E} {N : Nat} {R : w_S} {h d : Int} : ∀ (k nf : Nat), k ≤ 240 → k < nf → El_R_nameOn e N nf 0 [h, d, (k : Int) - 1] [] R = some (gk (fun j => decide (R.1 142 j = h) && decide (R.1 143 j ≤ d)) k, R)
  | _, 0, _, h => by omega
  | 0, nf + 1, _, _ => by
    refine ok_eq ?_
    rw [El_R_nameOn, gk]
    exact ok_t (by omega) (ok_s ⟨by omega, rfl⟩)
  | k + 1, nf + 1, h1, h2 => by
    have ih := l_nameOn (e := e) (N := N) (R := R) (h := h) (d := d) k nf (by omega) (by omega)
    rw [show ((k : Int)) - 1 = ((k + 1 : Nat) : Int) - 1 + (-1) by omega] at ih
    refine ok_eq ?_
    rw [El_R_nameOn, gk]
    refine ok_e (by omega) (ok_ib (by omega) ?_)
    rw [show (((k + 1 : Nat) : Int) - 1).toNat = k by omega]
    by_cases c : R.1 142 k = h
    · refine ok_e (by omega) ?_
      by_cases c2 : R.1 143 k ≤ d
      · rw [decide_eq_true c, decide_eq_true c2]
        exact ok_t c2 (ok_s ⟨by show _ = (k : Int); omega, rfl⟩)
      · rw [decide_eq_false c2, Bool.and_false]
        exact ok_e c2 (ok_nb (by omega) (ok_of ih ⟨rfl, rfl⟩))
    · rw [decide_eq_false c, Bool.false_and]
      exact ok_t c (ok_nb (by omega) (ok_of ih ⟨rfl, rfl⟩))
/-- a name that the tape says -/
def snm (R : w_S) (len : Int) (k : Nat) : Prop := R.1 144 k = len ∧ ∀ j : Nat, (j : Int) < len → R.1 145 (40 * k + j) = R.1 130 j
theorem l_isNamed {e : w_E} {N : Nat} {S R : w_S} {f len top : Int} (hN : 1000 ≤ N) (h : RelNm S R top) (ht : top ≤ 10240) (hs : ∀ j, -128 ≤ S.1 2 j ∧ S.1 2 j ≤ 127) (hf : 0 ≤ f) (hfl : f + len ≤ 10240) (hl : 1 ≤ len) (hl2 : len ≤ 40) (hB : ∀ j : Nat, (j : Int) < len → R.1 130 j = S.1 2 (f.toNat + j)) : ∀ (m a nf : Nat), 1 ≤ a → (a : Int) + m = S.1 17 0 + 1 → m < nf → Ok (El_Authority_isNamed e N nf 0 [f * 64 + len, (a : Int)] [] S) (fun y S1 => S1 = S ∧ ((y = 1 ∧ ∃ b : Nat, a ≤ b ∧ (b : Int) ≤ S.1 17 0 ∧ snm R len (S.1 19 b).toNat) ∨ (y = 0 ∧ ∀ b : Nat, a ≤ b → (b : Int) ≤ S.1 17 0 → ¬ snm R len (S.1 19 b).toNat)))
  | _, _, 0, _, _, h => by omega
  | 0, a, nf + 1, h1, h2, h3 => by
    rw [El_Authority_isNamed]
    exact ok_t (by omega) (ok_s ⟨rfl, Or.inr ⟨rfl, fun b b1 b2 => by omega⟩⟩)
  | m + 1, a, nf + 1, h1, h2, h3 => by
    have hh := h
    obtain ⟨_, k2, k3, _, k5, k6, k7, k8⟩ := hh
    obtain ⟨n1, n2⟩ := k7 a h1 (by omega)
    have gb := gk_b (fun k => decide (R.1 142 k = a)) (S.1 17 3).toNat
    rw [← n1] at gb
    obtain ⟨_, _, _, _, _, _, mm, m1, m2, m3, m4, m5⟩ := k8 (S.1 19 a).toNat (by omega)
    obtain ⟨p, p1, p2, p3⟩ := m4
    have ih := l_isNamed (e := e) (N := N) hN h ht hs hf hfl hl hl2 hB m (a + 1) nf (by omega) (by omega) (by omega)
    rw [show ((a + 1 : Nat) : Int) = (a : Int) + 1 by omega] at ih
    have xc := x_cmp (e := e) (N := N) (S := S) (a := p) (b := f.toNat) (m := mm) (n := len.toNat) hN (by omega) (by omega) (by omega) (by omega) hs
    rw [show ((f.toNat : Nat) : Int) * 64 + ((len.toNat : Nat) : Int) = f * 64 + len by omega, ← p1] at xc
    have cz := cmr_zero (g := fun j => S.1 2 (p + j)) (h := fun j => S.1 2 (f.toNat + j)) (m := mm) (n := len.toNat) 64 0 (by omega)
    have eqv : cmr (fun j => S.1 2 (p + j)) (fun j => S.1 2 (f.toNat + j)) mm len.toNat 64 0 = 0 ↔ snm R len (S.1 19 a).toNat := by
      rw [cz]
      unfold snm
      constructor
      · intro z
        refine ⟨by omega, fun j hj => ?_⟩
        have := z.2 j (by omega) (by omega)
        rw [hB j hj, ← this]
        exact (p3 j (by omega)).symm
      · intro z
        refine ⟨by omega, fun j _ hj => ?_⟩
        have e1 := z.2 j (by omega)
        have e2 := p3 j hj
        have e3 := hB j (by omega)
        dsimp only at e2 ⊢
        rw [e2, e1, e3]
    clear k7 k8
    rw [El_Authority_isNamed]
    refine ok_e (by omega) (ok_ib (by omega) ?_)
    rw [show ((a : Int)).toNat = a by omega]
    refine ok_ib (by omega) (ok_b (ok_of xc ?_))
    dsimp only
    by_cases c : cmr (fun j => S.1 2 (p + j)) (fun j => S.1 2 (f.toNat + j)) mm len.toNat 64 0 = 0
    · exact ok_e (by omega) (ok_s ⟨rfl, Or.inl ⟨rfl, a, by omega, by omega, eqv.1 c⟩⟩)
    · refine ok_t c (ok_nb (by omega) (ih.mono (fun y S1 z => ⟨z.1, ?_⟩)))
      rcases z.2 with ⟨z1, b, b1, b2, b3⟩ | ⟨z1, b3⟩
      · exact Or.inl ⟨z1, b, by omega, b2, b3⟩
      · refine Or.inr ⟨z1, fun b b1 b2 => ?_⟩
        by_cases d : b = a
        · rw [d]
          exact fun q => c (eqv.2 q)
        · exact b3 b (by omega) b2
/-- the reference's comparing of one name with the tape -/
theorem l_isName1 {e : w_E} {N k : Nat} {R : w_S} {len x1 x2 : Int} {Q : Int → w_S → Prop} (hk : k < 240) (h2 : R.1 129 2 = len) (hl : 0 ≤ len) (hl2 : len ≤ 2000) (hx : x1 = 0 ∨ x1 = 1) (hx2 : 0 ≤ x2 ∧ x2 ≤ 100) (hsz : R.1 144 k ≤ 40) : ∀ (m j nf : Nat) (x4 : Int), (j : Int) + m = len → m < nf → (x4 = 0 ∨ (x4 = 1 ∧ R.1 144 k = len ∧ ∀ i : Nat, i < j → R.1 145 (40 * k + i) = R.1 130 i)) → (x4 = 0 → ¬ snm R len k) → (∀ n' v, nf ≤ n' + m + 1 → ((x1 = 1 ∨ snm R len k) ∧ v = 1 ∨ (x1 = 0 ∧ ¬ snm R len k) ∧ v = 0) → Ok (El_R_isName e N n' 0 [v, x2 + 1] [] R) Q) → Ok (El_R_isName e N nf 1 [x1, x2, (k : Int), x4, (j : Int)] [] R) Q
  | _, _, 0, _, _, h, _, _, _ => by omega
  | 0, j, nf + 1, x4, g1, g2, g3, g4, hq => by
    have h' : (x4 = 0 ∧ ¬ snm R len k) ∨ (x4 = 1 ∧ snm R len k) := by
      rcases g3 with g3 | ⟨g3, g5, g6⟩
      · exact Or.inl ⟨g3, g4 g3⟩
      · exact Or.inr ⟨g3, g5, fun i hi => g6 i (by omega)⟩
    rw [El_R_isName, h2]
    refine ok_t (by omega) ?_
    by_cases c : x1 = 0
    · refine ok_e (by omega) ?_
      rcases h' with ⟨e1, e2⟩ | ⟨e1, e2⟩
      · exact ok_t e1 (ok_nb (by omega) (hq nf 0 (by omega) (Or.inr ⟨⟨c, e2⟩, rfl⟩)))
      · exact ok_e (by omega) (ok_nb (by omega) (hq nf 1 (by omega) (Or.inl ⟨Or.inr e2, rfl⟩)))
    · exact ok_t c (ok_nb (by omega) (hq nf 1 (by omega) (Or.inl ⟨Or.inl (by omega), rfl⟩)))
  | m + 1, j, nf + 1, x4, g1, g2, g3, g4, hq => by
    rw [El_R_isName, h2]
    refine ok_e (by omega) ?_
    by_cases c : x4 = 0
    · refine ok_t c ?_
      by_cases d : x1 = 0
      · exact ok_e (by omega) (ok_nb (by omega) (hq nf 0 (by omega) (Or.inr ⟨⟨d, g4 c⟩, rfl⟩)))
      · exact ok_t d (ok_nb (by omega) (hq nf 1 (by omega) (Or.inl ⟨Or.inl (by omega), rfl⟩)))
    · obtain ⟨c1, c2, c3⟩ : x4 = 1 ∧ R.1 144 k = len ∧ ∀ i : Nat, i < j → R.1 145 (40 * k + i) = R.1 130 i := by
        rcases g3 with g3 | g3
        · exact absurd g3 c
        · exact g3
      refine ok_e c (ok_nb (by omega) (ok_nb (by omega) (ok_ib (by omega) (ok_ib (by omega) ?_))))
      rw [show (40 * (k : Int) + (j : Int)).toNat = 40 * k + j by omega, show ((j : Int)).toNat = j by omega]
      have ih := fun (v : Int) (q1 : v = 0 ∨ (v = 1 ∧ R.1 144 k = len ∧ ∀ i : Nat, i < j + 1 → R.1 145 (40 * k + i) = R.1 130 i)) (q2 : v = 0 → ¬ snm R len k) => l_isName1 (e := e) (N := N) (k := k) (x1 := x1) (x2 := x2) (Q := Q) hk h2 hl hl2 hx hx2 hsz m (j + 1) nf v (by omega) (by omega) q1 q2 (fun n' v' a b => hq n' v' (by omega) b)
      rw [show ((j + 1 : Nat) : Int) = (j : Int) + 1 by omega] at ih
      by_cases d : R.1 145 (40 * k + j) = R.1 130 j
      · refine ok_e (by omega) (ok_nb (by omega) (ih 1 (Or.inr ⟨rfl, c2, fun i hi => ?_⟩) (fun z => by omega)))
        by_cases q : i = j
        · rw [q]
          exact d
        · exact c3 i (by omega)
      · exact ok_t d (ok_nb (by omega) (ih 0 (Or.inl rfl) (fun _ z => d (z.2 j (by omega)))))
end
