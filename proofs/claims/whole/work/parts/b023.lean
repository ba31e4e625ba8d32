section
-- cr
def MsA (e : w_E) (N : Nat) (k x y z : Int) (T : w_S) : e_R := (if w_nb ((T.1 1 5) - (T.1 1 3)) = true then (if (T.1 0 17) = 0 then (e_sw k 0 [((E_Lending_lendTo e N x y (w_put T 0 17 (w_or (w_shl (T.1 1 3) 6) (min ((T.1 1 5) - (T.1 1 3)) 63)))).bind (fun q618 => some (1, (w_put q618.2 0 18 q618.1)))), ((E_Lending_takeBack e N x y (w_put T 0 17 (w_or (w_shl (T.1 1 3) 6) (min ((T.1 1 5) - (T.1 1 3)) 63)))).bind (fun q619 => some (1, (w_put q619.2 0 18 q619.1)))), ((E_Lending_renewLoan e N x (w_put T 0 17 (w_or (w_shl (T.1 1 3) 6) (min ((T.1 1 5) - (T.1 1 3)) 63)))).bind (fun q620 => some (1, (w_put q620.2 0 18 q620.1)))), ((E_Lending_enterQueue e N x y z (w_put T 0 17 (w_or (w_shl (T.1 1 3) 6) (min ((T.1 1 5) - (T.1 1 3)) 63)))).bind (fun q621 => some (1, (w_put q621.2 0 18 q621.1)))), ((E_Lending_leaveQueue e N x y (w_put T 0 17 (w_or (w_shl (T.1 1 3) 6) (min ((T.1 1 5) - (T.1 1 3)) 63)))).bind (fun q622 => some (1, (w_put q622.2 0 18 q622.1))))] ((E_Readers_takeMoney e N x y (w_put T 0 17 (w_or (w_shl (T.1 1 3) 6) (min ((T.1 1 5) - (T.1 1 3)) 63)))).bind (fun q623 => some (1, (w_put q623.2 0 18 q623.1))))) else ((E_Tape_compareRows e N (w_or (w_shl (T.1 1 3) 6) (min ((T.1 1 5) - (T.1 1 3)) 63)) (T.1 0 17) T).bind (fun q624 => (if q624.1 ≠ 0 then (e_sw k 0 [((E_Lending_lendTo e N x y (w_put q624.2 0 17 (w_or (w_shl (T.1 1 3) 6) (min ((T.1 1 5) - (T.1 1 3)) 63)))).bind (fun q625 => some (1, (w_put q625.2 0 18 q625.1)))), ((E_Lending_takeBack e N x y (w_put q624.2 0 17 (w_or (w_shl (T.1 1 3) 6) (min ((T.1 1 5) - (T.1 1 3)) 63)))).bind (fun q626 => some (1, (w_put q626.2 0 18 q626.1)))), ((E_Lending_renewLoan e N x (w_put q624.2 0 17 (w_or (w_shl (T.1 1 3) 6) (min ((T.1 1 5) - (T.1 1 3)) 63)))).bind (fun q627 => some (1, (w_put q627.2 0 18 q627.1)))), ((E_Lending_enterQueue e N x y z (w_put q624.2 0 17 (w_or (w_shl (T.1 1 3) 6) (min ((T.1 1 5) - (T.1 1 3)) 63)))).bind (fun q628 => some (1, (w_put q628.2 0 18 q628.1)))), ((E_Lending_leaveQueue e N x y (w_put q624.2 0 17 (w_or (w_shl (T.1 1 3) 6) (min ((T.1 1 5) - (T.1 1 3)) 63)))).bind (fun q629 => some (1, (w_put q629.2 0 18 q629.1))))] ((E_Readers_takeMoney e N x y (w_put q624.2 0 17 (w_or (w_shl (T.1 1 3) 6) (min ((T.1 1 5) - (T.1 1 3)) 63)))).bind (fun q630 => some (1, (w_put q630.2 0 18 q630.1))))) else some ((-3), q624.2))))) else none)
def MsE (e : w_E) (N : Nat) (k x y z : Int) (T : w_S) : e_R := ((E_Tape_takeWord_v8 e N T).bind (fun q615 => ((E_Tape_takeBetween e N 48 57 q615.2).bind (fun q616 => ((E_Tape_takeEnd e N q616.2).bind (fun q617 => (if (q617.2.1 1 6) ≠ (-1) then (if w_nb ((-1000) - (q617.2.1 1 6)) = true then some ((-1000) - (q617.2.1 1 6), q617.2) else none) else MsA e N k x y z q617.2)))))))
theorem ms_step {e : w_E} {N : Nat} {S : w_S} : E_C_runMessage e N S = ((E_Tape_takeWord_v7 e N S).bind (fun q580 => (if q580.1 ≠ 2 then (if q580.1 ≠ 3 then ((E_Tape_takeByte e N 32 q580.2).bind (fun q585 => ((E_Tape_takeNumber e N 0 99999 q585.2).bind (fun q586 => ((E_Tape_takeByte e N 32 q586.2).bind (fun q587 => ((E_Tape_takeNumber e N 0 99999 q587.2).bind (fun q588 => MsE e N q580.1 q586.1 q588.1 0 q588.2)))))))) else ((E_Tape_takeByte e N 32 q580.2).bind (fun q609 => ((E_Tape_takeNumber e N 0 99999 q609.2).bind (fun q610 => ((E_Tape_takeByte e N 32 q610.2).bind (fun q611 => ((E_Tape_takeNumber e N 0 99999 q611.2).bind (fun q612 => ((E_Tape_takeByte e N 32 q612.2).bind (fun q613 => ((E_Tape_takeNumber e N 0 99999 q613.2).bind (fun q614 => MsE e N q580.1 q610.1 q612.1 q614.1 q614.2))))))))))))) else ((E_Tape_takeByte e N 32 q580.2).bind (fun q631 => ((E_Tape_takeNumber e N 0 99999 q631.2).bind (fun q632 => MsE e N q580.1 q632.1 0 0 q632.2))))))) := by
  unfold E_C_runMessage
  delta MsE MsA
  rfl
/-- which message it is -/
def mkd7 (G : Int → Int) (s : Int) : Int := if G s = 76 then 0 else if G s = 66 then 1 else if G s = 82 then 2 else if G s = 72 then 3 else if G s = 85 then 4 else if G s = 80 then 5 else -1
theorem ms_wl : wl 7 = [76, 124, 66, 124, 82, 124, 72, 124, 85, 124, 80] := by decide
theorem wl22 : wl 22 = [32, 35] := by decide
def shw (_ : Int) : List Int := [32, 35]
theorem ms_word {G : Int → Int} {s : Int} (h : 0 ≤ s) : (tw (fun p => G (s + p)) (wl 7) 0 0 0 false).1 = mkd7 G s ∧ pK (wl 7) G s = if 0 ≤ mkd7 G s then s + 1 else -1 - s := by
  rw [ms_wl]
  unfold pK
  rw [if_neg (by omega)]
  by_cases a0 : G s = 76
  · have t : tw (fun p => G (s + p)) [76, 124, 66, 124, 82, 124, 72, 124, 85, 124, 80] 0 0 0 false = (0, 1, 1) := by
      simp [tw, a0] <;> rfl
    have m : mkd7 G s = 0 := by
      simp [mkd7, a0]
    rw [t, m]
    exact ⟨rfl, by simp⟩
  by_cases a1 : G s = 66
  · have t : tw (fun p => G (s + p)) [76, 124, 66, 124, 82, 124, 72, 124, 85, 124, 80] 0 0 0 false = (1, 1, 1) := by
      simp [tw, a1] <;> rfl
    have m : mkd7 G s = 1 := by
      simp [mkd7, a1]
    rw [t, m]
    exact ⟨rfl, by simp⟩
  by_cases a2 : G s = 82
  · have t : tw (fun p => G (s + p)) [76, 124, 66, 124, 82, 124, 72, 124, 85, 124, 80] 0 0 0 false = (2, 1, 1) := by
      simp [tw, a2] <;> rfl
    have m : mkd7 G s = 2 := by
      simp [mkd7, a2]
    rw [t, m]
    exact ⟨rfl, by simp⟩
  by_cases a3 : G s = 72
  · have t : tw (fun p => G (s + p)) [76, 124, 66, 124, 82, 124, 72, 124, 85, 124, 80] 0 0 0 false = (3, 1, 1) := by
      simp [tw, a3] <;> rfl
    have m : mkd7 G s = 3 := by
      simp [mkd7, a3]
    rw [t, m]
    exact ⟨rfl, by simp⟩
  by_cases a4 : G s = 85
  · have t : tw (fun p => G (s + p)) [76, 124, 66, 124, 82, 124, 72, 124, 85, 124, 80] 0 0 0 false = (4, 1, 1) := by
      simp [tw, a4] <;> rfl
    have m : mkd7 G s = 4 := by
      simp [mkd7, a4]
    rw [t, m]
    exact ⟨rfl, by simp⟩
  by_cases a5 : G s = 80
  · have t : tw (fun p => G (s + p)) [76, 124, 66, 124, 82, 124, 72, 124, 85, 124, 80] 0 0 0 false = (5, 1, 1) := by
      simp [tw, a5] <;> rfl
    have m : mkd7 G s = 5 := by
      simp [mkd7, a5]
    rw [t, m]
    exact ⟨rfl, by simp⟩
  have t : tw (fun p => G (s + p)) [76, 124, 66, 124, 82, 124, 72, 124, 85, 124, 80] 0 0 0 false = (-1, 0, 0) := by
    simp [tw, a0, a1, a2, a3, a4, a5] <;> rfl
  have m : mkd7 G s = -1 := by
    simp [mkd7, a0, a1, a2, a3, a4, a5]
  rw [t, m]
  exact ⟨rfl, by simp⟩
theorem sh_word_wl : wl 8 = [32, 35] := by decide
theorem sh_word {G : Int → Int} {s : Int} (h : 0 ≤ s) : pK (wl 8) G s = pL G (shw (k00 G s)) s ∧ (0 ≤ pK (wl 8) G s → (tw (fun p => G (s + p)) (wl 8) 0 0 0 false).1 = k00 G s) := by
  rw [sh_word_wl]
  unfold pK
  rw [if_neg (by omega)]
  by_cases a1 : G (s) = 32
  · by_cases a2 : G (s + 1) = 35
    · have t : tw (fun p => G (s + p)) [32, 35] 0 0 0 false = (0, 2, 2) := by
        simp [tw, a1, a2] <;> rfl
      have k : k00 G s = 0 := by
        simp [k00, a1, a2]
      rw [t, k]
      have p : pL G (shw 0) s = s + 2 := by
        show pL G [32, 35] s = _
        rw [pL_y (by omega) (show G (s) = 32 by exact a1), pL_y (by omega) (show G (s + 1) = 35 by exact a2), pL]
        all_goals omega
      rw [p]
      exact ⟨rfl, fun _ => rfl⟩
    · have t : tw (fun p => G (s + p)) [32, 35] 0 0 0 false = (-1, 0, 1) := by
        simp [tw, a1, a2] <;> rfl
      have k : k00 G s = 0 := by
        simp [k00, a1, a2]
      rw [t, k]
      have p : pL G (shw 0) s = -1 - (s + 1) := by
        show pL G [32, 35] s = _
        rw [pL_y (by omega) (show G (s) = 32 by exact a1), pL_n (by omega) (show ¬ G (s + 1) = 35 by exact a2)]
        all_goals omega
      rw [p]
      refine ⟨by simp, fun z => ?_⟩
      simp at z
      omega
  · have t : tw (fun p => G (s + p)) [32, 35] 0 0 0 false = (-1, 0, 0) := by
      simp [tw, a1] <;> rfl
    have k : k00 G s = 0 := by
      simp [k00, a1]
    rw [t, k]
    have p : pL G (shw 0) s = -1 - (s + 0) := by
      show pL G [32, 35] s = _
      rw [pL_n (by omega) (show ¬ G (s) = 32 by exact a1)]
      omega
    rw [p]
    refine ⟨by simp, fun z => ?_⟩
    simp at z
    omega
/-- the places and the numbers of a message -/
def mg (G : Int → Int) (len : Int) : Nat → Int
  | 0 => pK (wl 7) G 0
  | j + 1 => pN G len 0 99999 (pB G 32 (mg G len j))
def mgv (G : Int → Int) (len : Int) (j : Nat) : Int := vl G (pB G 32 (mg G len j)) (nd G (len - pB G 32 (mg G len j)).toNat (pB G 32 (mg G len j)))
def mgn (G : Int → Int) : Nat := if mkd7 G 0 = 2 then 1 else if mkd7 G 0 = 3 then 3 else 2
def mge (G : Int → Int) (q : Int) : Int := pE G (pR G 48 57 (pL G (shw 0) q))
def mgf (G : Int → Int) (len : Int) : Int := mge G (mg G len (mgn G))
theorem pR_neg {G : Int → Int} {lo hi q : Int} (h : q < 0) : pR G lo hi q = q := by
  unfold pR
  rw [if_pos h]
theorem pR_bd {G : Int → Int} {len lo hi q : Int} (hG : ∀ p, len ≤ p → G p = -1) (hb : 0 ≤ lo) (h : Bd len q) : Bd len (pR G lo hi q) := by
  unfold Bd at h ⊢
  unfold pR
  by_cases c : q < 0
  · rw [if_pos c]
    exact h
  · rw [if_neg c]
    have := hG q
    split <;> omega
theorem mge_neg {G : Int → Int} {q : Int} (h : q < 0) : mge G q = q := by
  unfold mge
  rw [pL_neg _ h, pR_neg h, pE_neg h]
theorem mge_bd {G : Int → Int} {len q : Int} (hG : ∀ p, len ≤ p → G p = -1) (h : Bd len q) : -1 - len ≤ pR G 48 57 (pL G (shw 0) q) ∧ pR G 48 57 (pL G (shw 0) q) ≤ len := pR_bd hG (by decide) (pL_bd hG _ (by decide) h)
theorem mg_bd {G : Int → Int} {len : Int} (hG : ∀ p, len ≤ p → G p = -1) (hl : 0 ≤ len) : ∀ j, Bd len (mg G len j)
  | 0 => by
    rw [mg, (ms_word (by omega)).2]
    unfold Bd
    have := hG 0
    unfold mkd7
    split
    · by_cases c : len ≤ 0
      · rw [this c] at *
        simp at *
      · omega
    · omega
  | j + 1 => pN_bd (pB_bd hG (by decide) (mg_bd hG hl j))
theorem mg_neg {G : Int → Int} {len : Int} (h : mg G len 0 < 0) : ∀ j, mg G len j = mg G len 0
  | 0 => rfl
  | j + 1 => by
    show pN G len 0 99999 (pB G 32 (mg G len j)) = _
    rw [mg_neg h j, pB_neg h, pN_neg h]
/-- the end of a message in the class -/
theorem x_msE {e : w_E} {N : Nat} {S : w_S} {f len a w q k x y z : Int} {G : Int → Int} {Q : Int → w_S → Prop} (hN : 2001 ≤ N) (h : TX S f len G) (ha : At f len a w q) (hb : Bd len q) (hw : mge G q < 0 → ∀ a' w', Q (-999 + mge G q) (tp S a' w')) (hr : 0 ≤ mge G q → ∀ a', Ok (MsA e N k x y z (tp S a' (-1))) Q) : Ok (MsE e N k x y z (tp S a w)) Q := by
  have lb := h.2.2.2.2.1
  unfold MsE
  refine tk_b (x_word8 hN h ha) (fun y0 a0 w0 ha0 _ => ?_)
  have e0 : pK (wl 8) G q = pL G (shw 0) q := by
    rcases Int.lt_or_le q 0 with c | c
    · rw [pK_neg c, pL_neg _ c]
    · exact (sh_word (G := G) c).1
  rw [e0] at ha0
  dsimp only
  refine tk_b (x_takeBetween h ha0 (by decide)) (fun y1 a1 w1 ha1 _ => ?_)
  dsimp only
  refine tk_b (x_takeEnd h ha1) (fun y2 a2 w2 ha2 _ => ?_)
  dsimp only
  rw [tp6]
  have e1 : pE G (pR G 48 57 (pL G (shw 0) q)) = mge G q := rfl
  rw [e1] at ha2
  have mb := mge_bd h.e hb
  by_cases d : 0 ≤ mge G q
  · have w2e := ha2.wm d
    subst w2e
    exact ok_e (fun z => z rfl) (hr d a2)
  · obtain ⟨r1, r2⟩ := ha2.right.2 (by omega)
    have m3b : -3001 ≤ mge G q := by
      rw [← e1]
      unfold pE
      split
      · omega
      · split <;> omega
    refine ok_t (by omega) (ok_nb (by omega) (ok_s ?_))
    rw [show -1000 - w2 = -999 + mge G q by omega]
    exact hw (by omega) a2 w2
end
section
-- cs
/-- a message's text in the class -/
theorem x_msg {e : w_E} {N : Nat} {S : w_S} {f len a w : Int} {G : Int → Int} {Q : Int → w_S → Prop} (hN : 2001 ≤ N) (h : TX S f len G) (ha : At f len a w 0) (hw : mgf G len < 0 → ∀ a' w', Q (-999 + mgf G len) (tp S a' w')) (hr : 0 ≤ mgf G len → 0 ≤ mkd7 G 0 → ∀ a', Ok (MsA e N (mkd7 G 0) (mgv G len 0) (if 1 < mgn G then mgv G len 1 else 0) (if 2 < mgn G then mgv G len 2 else 0) (tp S a' (-1))) Q) : Ok (E_C_runMessage e N (tp S a w)) Q := by
  have l0 := h.2.2.2.1
  obtain ⟨k1, k2⟩ := ms_word (G := G) (s := 0) (by omega)
  have mb := mg_bd h.e l0
  rw [ms_step]
  refine tk_b (x_word7 hN h ha) (fun y0 a0 w0 ha0 hy0 => ?_)
  have e0 : pK (wl 7) G 0 = mg G len 0 := rfl
  rw [e0] at ha0 k2
  dsimp only
  have stp : ∀ j, pN G len 0 99999 (pB G 32 (mg G len j)) = mg G len (j + 1) := fun j => rfl
  by_cases c : mg G len 0 < 0
  · have fe : ∀ j, mge G (mg G len j) = mgf G len := fun j => by
      unfold mgf
      rw [mg_neg c j, mg_neg c (mgn G)]
    have fin : ∀ (j : Nat) (a1 w1 x y z : Int), At f len a1 w1 (mg G len j) → Ok (MsE e N y0 x y z (tp S a1 w1)) Q := fun j a1 w1 x y z ha1 => by
      refine x_msE hN h ha1 (mb j) (fun _ a' w' => ?_) (fun z => ?_)
      · rw [fe j]
        refine hw ?_ a' w'
        rw [← fe 0, mge_neg c]
        exact c
      · rw [mg_neg c j, mge_neg c] at z
        omega
    by_cases d : y0 = 2
    · refine ok_e (by omega) ?_
      refine tk_b (x_takeByte h ha0 (by decide)) (fun _ a1 w1 ha1 _ => ?_)
      refine tk_b (x_takeNumber hN h ha1) (fun y2 a2 w2 ha2 _ => ?_)
      rw [stp] at ha2
      exact fin 1 a2 w2 _ _ _ ha2
    · refine ok_t d ?_
      by_cases d2 : y0 = 3
      · refine ok_e (by omega) ?_
        refine tk_b (x_takeByte h ha0 (by decide)) (fun _ a1 w1 ha1 _ => ?_)
        refine tk_b (x_takeNumber hN h ha1) (fun y2 a2 w2 ha2 _ => ?_)
        rw [stp] at ha2
        refine tk_b (x_takeByte h ha2 (by decide)) (fun _ a3 w3 ha3 _ => ?_)
        refine tk_b (x_takeNumber hN h ha3) (fun y4 a4 w4 ha4 _ => ?_)
        rw [stp] at ha4
        refine tk_b (x_takeByte h ha4 (by decide)) (fun _ a5 w5 ha5 _ => ?_)
        refine tk_b (x_takeNumber hN h ha5) (fun y6 a6 w6 ha6 _ => ?_)
        rw [stp] at ha6
        exact fin 3 a6 w6 _ _ _ ha6
      · refine ok_t d2 ?_
        refine tk_b (x_takeByte h ha0 (by decide)) (fun _ a1 w1 ha1 _ => ?_)
        refine tk_b (x_takeNumber hN h ha1) (fun y2 a2 w2 ha2 _ => ?_)
        rw [stp] at ha2
        refine tk_b (x_takeByte h ha2 (by decide)) (fun _ a3 w3 ha3 _ => ?_)
        refine tk_b (x_takeNumber hN h ha3) (fun y4 a4 w4 ha4 _ => ?_)
        rw [stp] at ha4
        exact fin 2 a4 w4 _ _ _ ha4
  · have y0e := (hy0 (ha0.wm (by omega))).1
    rw [k1] at y0e
    have kd0 : 0 ≤ mkd7 G 0 := by
      rw [k2] at c
      split at c
      · assumption
      · omega
    rw [y0e]
    have ge : ∀ j, 0 ≤ mg G len (j + 1) → 0 ≤ pB G 32 (mg G len j) ∧ 0 ≤ mg G len j := fun j z => by
      have q1 := pN_ge (show 0 ≤ pN G len 0 99999 (pB G 32 (mg G len j)) from z)
      exact ⟨q1, (pB_ge q1).1⟩
    have mge_ge : ∀ q, 0 ≤ mge G q → 0 ≤ q := fun q z => by
      rcases Int.lt_or_le q 0 with d | d
      · rw [mge_neg d] at z
        omega
      · exact d
    by_cases d : mkd7 G 0 = 2
    · have n1 : mgn G = 1 := by
        unfold mgn
        rw [if_pos d]
      have fe : mgf G len = mge G (mg G len 1) := by
        unfold mgf
        rw [n1]
      refine ok_e (by omega) ?_
      refine tk_b (x_takeByte h ha0 (by decide)) (fun _ a1 w1 ha1 _ => ?_)
      refine tk_b (x_takeNumber hN h ha1) (fun y2 a2 w2 ha2 hy2 => ?_)
      rw [stp] at ha2
      refine x_msE hN h ha2 (mb 1) (fun z a' w' => ?_) (fun z a' => ?_)
      · rw [← fe] at z ⊢
        exact hw z a' w'
      · have p1 := mge_ge _ z
        have v0 : y2 = mgv G len 0 := (hy2 (ha2.wm p1)).1
        rw [← fe] at z
        have := hr z kd0 a'
        rw [n1, if_neg (by omega), if_neg (by omega), ← v0] at this
        exact this
    · refine ok_t d ?_
      by_cases d2 : mkd7 G 0 = 3
      · have n1 : mgn G = 3 := by
          unfold mgn
          rw [if_neg d, if_pos d2]
        have fe : mgf G len = mge G (mg G len 3) := by
          unfold mgf
          rw [n1]
        refine ok_e (by omega) ?_
        refine tk_b (x_takeByte h ha0 (by decide)) (fun _ a1 w1 ha1 _ => ?_)
        refine tk_b (x_takeNumber hN h ha1) (fun y2 a2 w2 ha2 hy2 => ?_)
        rw [stp] at ha2
        refine tk_b (x_takeByte h ha2 (by decide)) (fun _ a3 w3 ha3 _ => ?_)
        refine tk_b (x_takeNumber hN h ha3) (fun y4 a4 w4 ha4 hy4 => ?_)
        rw [stp] at ha4
        refine tk_b (x_takeByte h ha4 (by decide)) (fun _ a5 w5 ha5 _ => ?_)
        refine tk_b (x_takeNumber hN h ha5) (fun y6 a6 w6 ha6 hy6 => ?_)
        rw [stp] at ha6
        refine x_msE hN h ha6 (mb 3) (fun z a' w' => ?_) (fun z a' => ?_)
        · rw [← fe] at z ⊢
          exact hw z a' w'
        · have p3 := mge_ge _ z
          have p2 := (ge 2 p3).2
          have p1 := (ge 1 p2).2
          have v0 : y2 = mgv G len 0 := (hy2 (ha2.wm p1)).1
          have v1 : y4 = mgv G len 1 := (hy4 (ha4.wm p2)).1
          have v2 : y6 = mgv G len 2 := (hy6 (ha6.wm p3)).1
          rw [← fe] at z
          have := hr z kd0 a'
          rw [n1, if_pos (by omega), if_pos (by omega), ← v0, ← v1, ← v2] at this
          exact this
      · have n1 : mgn G = 2 := by
          unfold mgn
          rw [if_neg d, if_neg d2]
        have fe : mgf G len = mge G (mg G len 2) := by
          unfold mgf
          rw [n1]
        refine ok_t d2 ?_
        refine tk_b (x_takeByte h ha0 (by decide)) (fun _ a1 w1 ha1 _ => ?_)
        refine tk_b (x_takeNumber hN h ha1) (fun y2 a2 w2 ha2 hy2 => ?_)
        rw [stp] at ha2
        refine tk_b (x_takeByte h ha2 (by decide)) (fun _ a3 w3 ha3 _ => ?_)
        refine tk_b (x_takeNumber hN h ha3) (fun y4 a4 w4 ha4 hy4 => ?_)
        rw [stp] at ha4
        refine x_msE hN h ha4 (mb 2) (fun z a' w' => ?_) (fun z a' => ?_)
        · rw [← fe] at z ⊢
          exact hw z a' w'
        · have p2 := mge_ge _ z
          have p1 := (ge 1 p2).2
          have v0 : y2 = mgv G len 0 := (hy2 (ha2.wm p1)).1
          have v1 : y4 = mgv G len 1 := (hy4 (ha4.wm p2)).1
          rw [← fe] at z
          have := hr z kd0 a'
          rw [n1, if_pos (by omega), if_neg (by omega), ← v0, ← v1] at this
          exact this
/-- a message's text in the reference -/
theorem l_msgR {e : w_E} {N n : Nat} {len : Int} {G : Int → Int} (hN : 2001 ≤ N) (hn : n ≤ 3) : ∀ (m j nf : Nat) (R : w_S), j + m = n → m < nf → TR R len G → 0 ≤ mg G len j → Ok (El_R_messageText e N nf 0 [(n : Int), mg G len j, (j : Int)] [] R) (fun y R1 => y = mge G (mg G len n) ∧ frm [203] [129] [(129, 3)] R R1 ∧ (0 ≤ y → ∀ i, j ≤ i → i < n → R1.1 203 i = mgv G len i) ∧ ∀ i, i < j → R1.1 203 i = R.1 203 i)
  | _, _, 0, _, _, h, _, _ => by omega
  | 0, j, nf + 1, R, g1, g2, hR, g4 => by
    have lb := hR.2.2.1
    have l0 := hR.2.1
    have jn : j = n := by omega
    subst jn
    have mb := mg_bd hR.e l0 j
    have hx := x_lit13 (e := e) (N := N) hN hR g4 (by unfold Bd at mb; omega)
    rw [show wl 22 = shw 0 by rw [wl22]; rfl] at hx
    have b1 : Bd len (pL G (shw 0) (mg G len j)) := pL_bd hR.e _ (by decide) mb
    unfold Bd at b1
    have me : mge G (mg G len j) = pE G (pR G 48 57 (pL G (shw 0) (mg G len j))) := rfl
    rw [me]
    rw [El_R_messageText]
    refine ok_t (by omega) (ok_b (ok_of hx ?_))
    dsimp only
    generalize pL G (shw 0) (mg G len j) = u at *
    have fin : ∀ y, y = pE G (pR G 48 57 u) → (fun y R1 => y = pE G (pR G 48 57 u) ∧ frm [203] [129] [(129, 3)] R R1 ∧ (0 ≤ y → ∀ i, j ≤ i → i < j → R1.1 203 i = mgv G len i) ∧ ∀ i, i < j → R1.1 203 i = R.1 203 i) y R := fun y hy => ⟨hy, frm.refl _ _ _ _, fun _ i a b => by omega, fun _ _ => rfl⟩
    by_cases c : 0 ≤ u
    · refine ok_t c (ok_b (ok_of (x_at hR c) ?_))
      dsimp only
      by_cases d : 48 ≤ G u ∧ G u ≤ 57
      · have hlt := tr_lt hR c (by omega)
        have pr : pR G 48 57 u = u + 1 := by
          unfold pR
          rw [if_neg (by omega), if_pos d]
        rw [pr] at fin ⊢
        have ge := hR.2.2.2 (u + 1) (by omega)
        rw [hR.1]
        refine ok_e (by omega) (ok_e (by omega) (ok_nb (by omega) ?_))
        by_cases g : u + 1 = len
        · refine ok_e (by omega) (ok_s (fin _ ?_))
          unfold pE
          rw [if_neg (by omega), if_pos (ge.2 (by omega))]
        · refine ok_t g (ok_nb (by omega) (ok_s (fin _ ?_)))
          unfold pE
          have := (ge.1 (by omega)).2.1
          rw [if_neg (by omega), if_neg (by omega)]
      · have pr : pR G 48 57 u = -1 - u := by
          unfold pR
          rw [if_neg (by omega), if_neg d]
        rw [pr, pE_neg (q := -1 - u) (by omega)] at fin ⊢
        by_cases g : G u < 48
        · exact ok_t g (ok_nb (by omega) (ok_s (fin _ rfl)))
        · exact ok_e g (ok_t (by omega) (ok_nb (by omega) (ok_s (fin _ rfl))))
    · rw [pR_neg (by omega), pE_neg (by omega)] at fin ⊢
      exact ok_e c (ok_s (fin _ rfl))
  | m + 1, j, nf + 1, R, g1, g2, hR, g4 => by
    have lb := hR.2.2.1
    have l0 := hR.2.1
    have mb := mg_bd hR.e l0 j
    unfold Bd at mb
    have mend : ∀ i, mg G len (j + 1) < 0 → mg G len (j + 1 + i) = mg G len (j + 1) := by
      intro i z
      induction i with
      | zero => rfl
      | succ i ih =>
        show pN G len 0 99999 (pB G 32 (mg G len (j + 1 + i))) = _
        rw [ih, pB_neg z, pN_neg z]
    have stp : mg G len (j + 1) = pN G len 0 99999 (pB G 32 (mg G len j)) := rfl
    have fin : mg G len (j + 1) < 0 → mge G (mg G len n) = mg G len (j + 1) := fun z => by
      have := mend m z
      rw [show j + 1 + m = n by omega] at this
      rw [this, mge_neg z]
    rw [El_R_messageText]
    refine ok_e (by omega) (ok_b (ok_of (x_at hR g4) ?_))
    dsimp only
    by_cases c : G (mg G len j) = 32
    · have hlt := tr_lt hR g4 (by omega)
      have e1 := pB_y g4 c
      rw [e1] at stp
      have hn' := x_numeral (e := e) (N := N) (lo := 0) (hi := 99999) hN hR (show 0 ≤ mg G len j + 1 by omega) (by omega)
      have mv : mgv G len j = vl G (mg G len j + 1) (nd G (len - (mg G len j + 1)).toNat (mg G len j + 1)) := by
        unfold mgv
        rw [e1]
      rw [← mv, ← stp] at hn'
      refine ok_t c (ok_nb (by omega) ?_)
      by_cases d : 0 ≤ mg G len (j + 1)
      · rw [if_pos d] at hn'
        refine ok_b (ok_of hn' ?_)
        dsimp only
        rw [show (w_put R 129 3 (mgv G len j)).1 129 3 = mgv G len j by simp only [w_put_r, reduceIte, Nat.reduceEqDiff, pt_at], show ((j : Int)).toNat = j by omega]
        refine ok_t d (ok_ib (by omega) (ok_nb (by omega) ?_))
        have ih := l_msgR (e := e) (N := N) (n := n) (len := len) (G := G) hN hn m (j + 1) nf (w_put (w_put R 129 3 (mgv G len j)) 203 j (mgv G len j)) (by omega) (by omega) ((hR.put (Or.inr rfl) (by decide)).put (Or.inl (by decide)) (by decide)) d
        rw [show ((j + 1 : Nat) : Int) = (j : Int) + 1 by omega] at ih
        refine ih.mono (fun y R1 z => ?_)
        obtain ⟨z1, z2, z3, z4⟩ := z
        refine ⟨z1, frm.trans (by repeat (first | exact frm.refl _ _ _ _ | refine frm.put ?_ rfl | refine frm.puto ?_ rfl rfl)) z2, fun hy i a b => ?_, fun i hi => ?_⟩
        · by_cases q : i = j
          · subst q
            rw [z4 i (by omega)]
            simp only [w_put_r, reduceIte, Nat.reduceEqDiff, pt_at]
          · exact z3 hy i (by omega) b
        · rw [z4 i (by omega)]
          simp only [w_put_r, reduceIte, Nat.reduceEqDiff, pt_at]
          rw [if_neg (by omega)]
      · rw [if_neg d] at hn'
        refine ok_b (ok_of hn' ?_)
        dsimp only
        exact ok_e d (ok_s ⟨(fin (by omega)).symm, frm.refl _ _ _ _, fun z => by omega, fun _ _ => rfl⟩)
    · rw [pB_n g4 c, pN_neg (q := -1 - mg G len j) (by omega)] at stp
      have := fin (by omega)
      exact ok_e c (ok_nb (by omega) (ok_s ⟨by omega, frm.refl _ _ _ _, fun z => by omega, fun _ _ => rfl⟩))
theorem x_messageText {e : w_E} {N : Nat} {len : Int} {G : Int → Int} {R : w_S} (hN : 2001 ≤ N) (hR : TR R len G) : Ok (E_R_messageText e N R) (fun y R1 => y = mgf G len ∧ frm [203] [129] [(129, 3)] R R1 ∧ (0 ≤ y → 0 ≤ mkd7 G 0 ∧ ∀ i, i < mgn G → R1.1 203 i = mgv G len i)) := by
  have k2 := (ms_word (G := G) (s := 0) (by omega)).2
  have m0 : mg G len 0 = pK (wl 7) G 0 := rfl
  rw [k2] at m0
  unfold E_R_messageText
  refine ok_b (ok_of (x_at hR (by omega)) ?_)
  dsimp only
  by_cases c : 0 ≤ mkd7 G 0
  · rw [if_pos c] at m0
    have run : ∀ n : Nat, n = mgn G → Ok (El_R_messageText e N N 0 [(n : Int), 1, 0] [] R) (fun y R1 => y = mgf G len ∧ frm [203] [129] [(129, 3)] R R1 ∧ (0 ≤ y → 0 ≤ mkd7 G 0 ∧ ∀ i, i < mgn G → R1.1 203 i = mgv G len i)) := fun n hn => by
      have nb : n ≤ 3 := by
        rw [hn]
        unfold mgn
        split
        · omega
        · split <;> omega
      have key := l_msgR (e := e) (N := N) (n := n) (len := len) (G := G) hN nb n 0 N R (by omega) (by omega) hR (by omega)
      rw [m0] at key
      refine Ok.mono (show Ok (El_R_messageText e N N 0 [(n : Int), 1, 0] [] R) _ from key) (fun y R1 z => ?_)
      obtain ⟨z1, z2, z3, z4⟩ := z
      refine ⟨by rw [z1, hn]; rfl, z2, fun hy => ⟨c, fun i hi => z3 hy i (by omega) (by omega)⟩⟩
    by_cases a0 : G 0 = 76
    · exact ok_t (by omega) (ok_t (by omega) (ok_t a0 (run 2 (by simp [mgn, mkd7, a0]))))
    · by_cases a1 : G 0 = 66
      · exact ok_t (by omega) (ok_t (by omega) (ok_e a0 (ok_t a1 (run 2 (by simp [mgn, mkd7, a1])))))
      · by_cases a2 : G 0 = 82
        · exact ok_e (by omega) (ok_e a0 (ok_e a1 (run 1 (by simp [mgn, mkd7, a2]))))
        · by_cases a3 : G 0 = 72
          · exact ok_t a2 (ok_e (by omega) (ok_e a0 (ok_e a1 (run 3 (by simp [mgn, mkd7, a3])))))
          · by_cases a4 : G 0 = 85
            · exact ok_t a2 (ok_t a3 (ok_e a0 (ok_e a1 (ok_t a4 (run 2 (by simp [mgn, mkd7, a4]))))))
            · by_cases a5 : G 0 = 80
              · exact ok_t a2 (ok_t a3 (ok_e a0 (ok_e a1 (ok_e a4 (ok_t a5 (run 2 (by simp [mgn, mkd7, a5])))))))
              · exfalso
                simp [mkd7, a0, a1, a2, a3, a4, a5] at c
  · rw [if_neg c] at m0
    have a0 : G 0 ≠ 76 := fun z => c (by simp [mkd7, z])
    have a1 : G 0 ≠ 66 := fun z => c (by simp [mkd7, z])
    have a2 : G 0 ≠ 82 := fun z => c (by simp [mkd7, z])
    have a3 : G 0 ≠ 72 := fun z => c (by simp [mkd7, z])
    have a4 : G 0 ≠ 85 := fun z => c (by simp [mkd7, z])
    have a5 : G 0 ≠ 80 := fun z => c (by simp [mkd7, z])
    have fe : mgf G len = -1 := by
      unfold mgf
      rw [mg_neg (by omega), m0, mge_neg (by omega)]
      omega
    exact ok_t a2 (ok_t a3 (ok_e a0 (ok_e a1 (ok_e a4 (ok_e a5 (ok_s ⟨fe.symm, frm.refl _ _ _ _, fun z => by omega⟩))))))
end
section
-- ct
def RxA (e : w_E) (N n : Nat) (S : w_S) : e_R := (if 66 = (S.1 130 0) then ((E_R_doBring e N (S.1 203 0) (S.1 203 1) (w_put S 129 4 0)).bind (fun q1222 => (if (q1222.2.1 130 0) ≠ 80 then El_R_doExchange e N n 1 [q1222.1, 0] [] (w_put (w_put q1222.2 129 4 0) 129 111 (q1222.2.1 129 2)) else (if (q1222.2.1 129 4) ≠ 0 then (if q1222.1 ≠ (-1000000) then El_R_doExchange e N n 1 [(-2), 0] [] (w_put (w_put q1222.2 129 4 0) 129 111 (q1222.2.1 129 2)) else El_R_doExchange e N n 1 [(-1), 0] [] (w_put (w_put q1222.2 129 4 0) 129 111 (q1222.2.1 129 2))) else El_R_doExchange e N n 1 [1, 0] [] (w_put (w_put q1222.2 129 4 0) 129 111 (q1222.2.1 129 2)))))) else (if 72 = (S.1 130 0) then ((E_R_doHold e N (S.1 203 0) (S.1 203 1) (S.1 203 2) (w_put S 129 4 0)).bind (fun q1221 => (if (q1221.2.1 130 0) ≠ 80 then El_R_doExchange e N n 1 [q1221.1, 0] [] (w_put (w_put q1221.2 129 4 0) 129 111 (q1221.2.1 129 2)) else (if (q1221.2.1 129 4) ≠ 0 then (if q1221.1 ≠ (-1000000) then El_R_doExchange e N n 1 [(-2), 0] [] (w_put (w_put q1221.2 129 4 0) 129 111 (q1221.2.1 129 2)) else El_R_doExchange e N n 1 [(-1), 0] [] (w_put (w_put q1221.2 129 4 0) 129 111 (q1221.2.1 129 2))) else El_R_doExchange e N n 1 [1, 0] [] (w_put (w_put q1221.2 129 4 0) 129 111 (q1221.2.1 129 2)))))) else (if 76 = (S.1 130 0) then ((E_R_doLend e N (S.1 203 0) (S.1 203 1) (w_put S 129 4 0)).bind (fun q1220 => (if (q1220.2.1 130 0) ≠ 80 then El_R_doExchange e N n 1 [q1220.1, 0] [] (w_put (w_put q1220.2 129 4 0) 129 111 (q1220.2.1 129 2)) else (if (q1220.2.1 129 4) ≠ 0 then (if q1220.1 ≠ (-1000000) then El_R_doExchange e N n 1 [(-2), 0] [] (w_put (w_put q1220.2 129 4 0) 129 111 (q1220.2.1 129 2)) else El_R_doExchange e N n 1 [(-1), 0] [] (w_put (w_put q1220.2 129 4 0) 129 111 (q1220.2.1 129 2))) else El_R_doExchange e N n 1 [1, 0] [] (w_put (w_put q1220.2 129 4 0) 129 111 (q1220.2.1 129 2)))))) else (if 82 = (S.1 130 0) then ((E_R_doRenew e N (S.1 203 0) (w_put S 129 4 0)).bind (fun q1219 => (if (q1219.2.1 130 0) ≠ 80 then El_R_doExchange e N n 1 [q1219.1, 0] [] (w_put (w_put q1219.2 129 4 0) 129 111 (q1219.2.1 129 2)) else (if (q1219.2.1 129 4) ≠ 0 then (if q1219.1 ≠ (-1000000) then El_R_doExchange e N n 1 [(-2), 0] [] (w_put (w_put q1219.2 129 4 0) 129 111 (q1219.2.1 129 2)) else El_R_doExchange e N n 1 [(-1), 0] [] (w_put (w_put q1219.2 129 4 0) 129 111 (q1219.2.1 129 2))) else El_R_doExchange e N n 1 [1, 0] [] (w_put (w_put q1219.2 129 4 0) 129 111 (q1219.2.1 129 2)))))) else (if 85 = (S.1 130 0) then ((E_R_doUnhold e N (S.1 203 0) (S.1 203 1) (w_put S 129 4 0)).bind (fun q1218 => (if (q1218.2.1 130 0) ≠ 80 then El_R_doExchange e N n 1 [q1218.1, 0] [] (w_put (w_put q1218.2 129 4 0) 129 111 (q1218.2.1 129 2)) else (if (q1218.2.1 129 4) ≠ 0 then (if q1218.1 ≠ (-1000000) then El_R_doExchange e N n 1 [(-2), 0] [] (w_put (w_put q1218.2 129 4 0) 129 111 (q1218.2.1 129 2)) else El_R_doExchange e N n 1 [(-1), 0] [] (w_put (w_put q1218.2 129 4 0) 129 111 (q1218.2.1 129 2))) else El_R_doExchange e N n 1 [1, 0] [] (w_put (w_put q1218.2 129 4 0) 129 111 (q1218.2.1 129 2)))))) else ((E_R_doPay e N (S.1 203 0) (S.1 203 1) (w_put S 129 4 0)).bind (fun q1217 => (if (q1217.2.1 130 0) ≠ 80 then El_R_doExchange e N n 1 [q1217.1, 0] [] (w_put (w_put q1217.2 129 4 0) 129 111 (q1217.2.1 129 2)) else (if (q1217.2.1 129 4) ≠ 0 then (if q1217.1 ≠ (-1000000) then El_R_doExchange e N n 1 [(-2), 0] [] (w_put (w_put q1217.2 129 4 0) 129 111 (q1217.2.1 129 2)) else El_R_doExchange e N n 1 [(-1), 0] [] (w_put (w_put q1217.2 129 4 0) 129 111 (q1217.2.1 129 2))) else El_R_doExchange e N n 1 [1, 0] [] (w_put (w_put q1217.2 129 4 0) 129 111 (q1217.2.1 129 2)))))))))))
theorem ex_step {e : w_E} {N n : Nat} {x2 x3 : Int} {S : w_S} : El_R_doExchange e N (n + 1) 0 [x2, x3] [] S = (if (S.1 129 2) ≤ x3 then (if x2 = 0 then RxA e N n S else some (S.1 129 112, (w_put S 129 4 1))) else (if x2 = 0 then RxA e N n S else (if w_ib x3 60 = true then (if w_ib x3 2000 = true then (if (S.1 202 x3.toNat) ≠ (S.1 130 x3.toNat) then (if w_nb (x3 + 1) = true then El_R_doExchange e N n 0 [0, x3 + 1] [] S else none) else (if w_nb (x3 + 1) = true then El_R_doExchange e N n 0 [1, x3 + 1] [] S else none)) else none) else none))) := by
  rw [El_R_doExchange]
  delta RxA
  rfl
end
section
-- cu
theorem ckA_sub {L O A B : List Nat} (h : ckA L O A = true) (s : B.all (fun b => A.contains b) = true) : ckA L O B = true := by
  unfold ckA at h ⊢
  rw [List.all_eq_true] at h s ⊢
  intro x hx
  have := s x hx
  exact h x (by simpa using this)
theorem ckS_sub {L : List Nat} {J A B : List (Nat × Nat)} (h : ckS L J A = true) (s : B.all (fun b => A.contains b) = true) : ckS L J B = true := by
  unfold ckS at h ⊢
  rw [List.all_eq_true] at h s ⊢
  intro x hx
  have := s x hx
  exact h x (by simpa using this)
abbrev AL : List Nat := [31, 49, 73, 74, 75, 5, 47, 48, 50, 51, 52, 53, 54, 55, 56, 57, 58, 59, 60, 61, 63, 64, 70, 65, 66, 67, 68, 69, 71, 28, 30]
abbrev BL : List (Nat × Nat) := [(27, 1), (35, 1), (46, 0), (62, 14), (3, 0), (46, 4), (62, 3), (46, 12), (27, 4), (35, 0)]
abbrev ALr : List Nat := [183, 178, 214, 215, 216, 134, 167, 168, 204, 205, 206, 207, 208, 209, 210, 186, 187, 188, 189, 190, 169, 170, 176, 171, 172, 173, 174, 175, 177, 213, 211]
abbrev BLr : List (Nat × Nat) := [(129, 12), (129, 83), (129, 127), (129, 13), (129, 65), (129, 114), (129, 87), (129, 68), (129, 125), (129, 122)]
theorem ck4_sub {L O A B L' O' A' B' : List Nat} {J C D J' C' D' : List (Nat × Nat)} (h : (ckA L O A && (ckS L J C && (ckA L' O' A' && ckS L' J' C'))) = true) (s : (B.all (fun b => A.contains b) && (D.all (fun b => C.contains b) && (B'.all (fun b => A'.contains b) && D'.all (fun b => C'.contains b)))) = true) : (ckA L O B && (ckS L J D && (ckA L' O' B' && ckS L' J' D'))) = true := by
  simp only [Bool.and_eq_true] at h s ⊢
  exact ⟨ckA_sub h.1 s.1, ckS_sub h.2.1 s.2.1, ckA_sub h.2.2.1 s.2.2.1, ckS_sub h.2.2.2 s.2.2.2⟩
theorem RelL.fr {S R S1 R1 : w_S} {t : Int} {L O L' O' : List Nat} {J J' : List (Nat × Nat)} (h : RelL S R t) (hf : frm L O J S S1) (hg : frm L' O' J' R R1) (dd : (ckA L O AL && (ckS L J BL && (ckA L' O' ALr && ckS L' J' BLr))) = true) : RelL S1 R1 t := by
  obtain ⟨h1, h2, h3, h4, h5, h6, h7, h8, h9, h10, h11, h12⟩ := h
  exact ⟨h1.fr hf hg (ck4_sub dd (by decide)), h2.fr hf hg (ck4_sub dd (by decide)), h3.fr hf hg (ck4_sub dd (by decide)), h4.fr hf hg (ck4_sub dd (by decide)), h5.fr hf hg (ck4_sub dd (by decide)), h6.fr hf hg (ck4_sub dd (by decide)), h7.fr hf hg (ck4_sub dd (by decide)), h8.fr hf hg (ck4_sub dd (by decide)), h9.fr hf hg (ck4_sub dd (by decide)), h10.fr hf hg (ck4_sub dd (by decide)), h11.fr hf hg (ck4_sub dd (by decide)), h12.fr hf hg (ck4_sub dd (by decide))⟩
theorem pN_5 {G : Int → Int} {len lo hi q : Int} (h : 0 ≤ pN G len lo hi q) : pN G len lo hi q ≤ q + 5 := by
  unfold pN at h ⊢
  split at h
  · omega
  · rename_i c
    rw [if_neg c]
    split at h
    · rename_i d
      rw [if_pos d]
      unfold okn at d
      simp only [Bool.and_eq_true, decide_eq_true_eq] at d
      have := d.1.1.1.2
      omega
    · omega
/-- a message that is right is short, and all of the text -/
theorem mgf_len {R : w_S} {len : Int} {G : Int → Int} (hR : TR R len G) (h : 0 ≤ mgf G len) : mgf G len = len ∧ 1 ≤ len ∧ len ≤ 40 := by
  have l0 := hR.2.1
  obtain ⟨p1, p2, p3⟩ := pE_ge (show 0 ≤ pE G (pR G 48 57 (pL G (shw 0) (mg G len (mgn G)))) from h)
  have mb := mge_bd hR.e (mg_bd hR.e l0 (mgn G))
  have fl : mgf G len = pR G 48 57 (pL G (shw 0) (mg G len (mgn G))) := p3
  have e1 : pR G 48 57 (pL G (shw 0) (mg G len (mgn G))) = len := by
    rcases Int.lt_or_le (pR G 48 57 (pL G (shw 0) (mg G len (mgn G)))) len with c | c
    · have := ((hR.2.2.2 _ p1).1 c).2.1
      omega
    · omega
  have e2 : 0 ≤ pL G (shw 0) (mg G len (mgn G)) ∧ pR G 48 57 (pL G (shw 0) (mg G len (mgn G))) = pL G (shw 0) (mg G len (mgn G)) + 1 := by
    unfold pR at p1 ⊢
    split at p1
    · omega
    · rename_i c
      rw [if_neg c]
      split at p1
      · rename_i d
        rw [if_pos d]
        exact ⟨by omega, rfl⟩
      · omega
  have e3 : pL G (shw 0) (mg G len (mgn G)) = mg G len (mgn G) + 2 ∧ 0 ≤ mg G len (mgn G) := by
    have z := e2.1
    have q : pL G (shw 0) (mg G len (mgn G)) = pB G 35 (pB G 32 (mg G len (mgn G))) := rfl
    rw [q] at z ⊢
    obtain ⟨a1, a2, a3⟩ := pB_ge z
    obtain ⟨b1, b2, b3⟩ := pB_ge a1
    omega
  have up : ∀ j, 0 ≤ mg G len j → mg G len j ≤ 1 + 6 * j := by
    intro j
    induction j with
    | zero =>
      intro z
      have m0 : mg G len 0 = pK (wl 7) G 0 := rfl
      rw [(ms_word (by omega)).2] at m0
      rw [m0] at z ⊢
      split <;> omega
    | succ j ih =>
      intro z
      have q1 := pN_5 (show 0 ≤ pN G len 0 99999 (pB G 32 (mg G len j)) from z)
      have q2 := pN_ge (show 0 ≤ pN G len 0 99999 (pB G 32 (mg G len j)) from z)
      obtain ⟨a1, a2, a3⟩ := pB_ge q2
      have := ih a1
      have q3 : mg G len (j + 1) = pN G len 0 99999 (pB G 32 (mg G len j)) := rfl
      omega
  have nb : mgn G ≤ 3 := by
    unfold mgn
    split
    · omega
    · split <;> omega
  have := up _ e3.2
  omega
/-- the last message in both -/
def RelEx (S R : w_S) (top : Int) : Prop := (S.1 0 17 ≠ 0 → R.1 129 112 = S.1 0 18) ∧ ((S.1 0 17 = 0 ∧ R.1 129 111 ≤ 0) ∨ ∃ m : Nat, 1 ≤ m ∧ m ≤ 40 ∧ R.1 129 111 = m ∧ S.1 0 17 ≠ 0 ∧ Rw (S.1 2) top (S.1 0 17) m (fun j => R.1 202 j))
theorem RelEx.fr {S R S1 R1 : w_S} {top : Int} {L O L' O' : List Nat} {J J' : List (Nat × Nat)} (h : RelEx S R top) (hf : frm L O J S S1) (hg : frm L' O' J' R R1) (dd : (ckA L O [2] && (ckS L J [(0, 17), (0, 18)] && (ckA L' O' [202] && ckS L' J' [(129, 111), (129, 112)]))) = true) : RelEx S1 R1 top := by
  have d := ck4 dd
  have a0 : S1.1 2 = S.1 2 := hf.2.1 2 (d.1 2 (by decide)).1 (d.1 2 (by decide)).2
  have b0 : S1.1 0 17 = S.1 0 17 := hf.2.2 0 17 (d.2.1 (0, 17) (by decide)).1 (d.2.1 (0, 17) (by decide)).2
  have b1 : S1.1 0 18 = S.1 0 18 := hf.2.2 0 18 (d.2.1 (0, 18) (by decide)).1 (d.2.1 (0, 18) (by decide)).2
  have g0 : R1.1 202 = R.1 202 := hg.2.1 202 (d.2.2.1 202 (by decide)).1 (d.2.2.1 202 (by decide)).2
  have k0 : R1.1 129 111 = R.1 129 111 := hg.2.2 129 111 (d.2.2.2 (129, 111) (by decide)).1 (d.2.2.2 (129, 111) (by decide)).2
  have k1 : R1.1 129 112 = R.1 129 112 := hg.2.2 129 112 (d.2.2.2 (129, 112) (by decide)).1 (d.2.2.2 (129, 112) (by decide)).2
  unfold RelEx at h ⊢
  simp only [a0, b0, b1, g0, k0, k1]
  exact h
theorem l_exK {e : w_E} {N : Nat} {len v : Int} (hl2 : len ≤ 40) : ∀ (m j nf : Nat) (R : w_S), (j : Int) + m = len → m < nf → R.1 129 2 = len → Ok (El_R_doExchange e N nf 1 [v, (j : Int)] [] R) (fun y R1 => y = v ∧ frm [202] [129] [(129, 112)] R R1 ∧ R1.1 129 112 = v ∧ (∀ i : Nat, j ≤ i → (i : Int) < len → R1.1 202 i = w_b (R.1 130 i)) ∧ ∀ u, u < j → R1.1 202 u = R.1 202 u)
  | _, _, 0, _, _, h, _ => by omega
  | 0, j, nf + 1, R, g1, g2, g3 => by
    rw [El_R_doExchange, g3]
    exact ok_t (by omega) (ok_s ⟨rfl, by repeat (first | exact frm.refl _ _ _ _ | refine frm.put ?_ rfl | refine frm.puto ?_ rfl rfl), by simp only [w_put_r, reduceIte, Nat.reduceEqDiff, pt_at], fun i a b => by omega, fun u hu => by simp only [w_put_r, reduceIte, Nat.reduceEqDiff, pt_at]⟩)
  | m + 1, j, nf + 1, R, g1, g2, g3 => by
    have ih := l_exK (e := e) (N := N) (len := len) (v := v) hl2 m (j + 1) nf (w_put R 202 j (w_b (R.1 130 j))) (by omega) (by omega) (by simp only [w_put_r, reduceIte, Nat.reduceEqDiff, pt_at]; exact g3)
    rw [show ((j + 1 : Nat) : Int) = (j : Int) + 1 by omega] at ih
    rw [El_R_doExchange, g3]
    refine ok_e (by omega) (ok_ib (by omega) (ok_ib (by omega) (ok_nb (by omega) ?_)))
    rw [show ((j : Int)).toNat = j by omega]
    refine ih.mono (fun y R1 z => ?_)
    obtain ⟨z1, z2, z3, z4, z5⟩ := z
    refine ⟨z1, frm.trans (by repeat (first | exact frm.refl _ _ _ _ | refine frm.put ?_ rfl | refine frm.puto ?_ rfl rfl)) z2, z3, fun i a b => ?_, fun u hu => ?_⟩
    · by_cases d : i = j
      · subst d
        rw [z5 i (by omega)]
        simp only [w_put_r, reduceIte, Nat.reduceEqDiff, pt_at]
      · rw [z4 i (by omega) b]
        simp only [w_put_r, reduceIte, Nat.reduceEqDiff, pt_at]
    · rw [z5 u (by omega)]
      simp only [w_put_r, reduceIte, Nat.reduceEqDiff, pt_at]
      rw [if_neg (by omega)]
/-- is the message the last one: the reference's loop -/
theorem l_exS {e : w_E} {N : Nat} {len : Int} {R : w_S} {Q : Int → w_S → Prop} (h2 : R.1 129 2 = len) (hl : 1 ≤ len) (hl2 : len ≤ 40) : ∀ (m j nf : Nat) (x : Int), (j : Int) + m = len → m < nf → (x = 0 ∧ ¬ (R.1 129 111 = len ∧ ∀ i : Nat, (i : Int) < len → R.1 202 i = R.1 130 i) ∨ x = 1 ∧ R.1 129 111 = len ∧ ∀ i : Nat, i < j → R.1 202 i = R.1 130 i) → ((R.1 129 111 = len ∧ ∀ i : Nat, (i : Int) < len → R.1 202 i = R.1 130 i) → Q (R.1 129 112) (w_put R 129 4 1)) → (¬ (R.1 129 111 = len ∧ ∀ i : Nat, (i : Int) < len → R.1 202 i = R.1 130 i) → ∀ n', nf ≤ n' + m + 1 → Ok (RxA e N n' R) Q) → Ok (El_R_doExchange e N nf 0 [x, (j : Int)] [] R) Q
  | _, _, 0, _, _, h, _, _, _ => by omega
  | 0, j, nf + 1, x, g1, g2, g3, q1, q2 => by
    rw [ex_step, h2]
    refine ok_t (by omega) ?_
    rcases g3 with ⟨g3, g4⟩ | ⟨g3, g4, g5⟩
    · exact ok_t g3 (q2 g4 nf (by omega))
    · exact ok_e (by omega) (ok_s (q1 ⟨g4, fun i hi => g5 i (by omega)⟩))
  | m + 1, j, nf + 1, x, g1, g2, g3, q1, q2 => by
    rw [ex_step, h2]
    refine ok_e (by omega) ?_
    rcases g3 with ⟨g3, g4⟩ | ⟨g3, g4, g5⟩
    · exact ok_t g3 (q2 g4 nf (by omega))
    · refine ok_e (by omega) (ok_ib (by omega) (ok_ib (by omega) ?_))
      rw [show ((j : Int)).toNat = j by omega]
      have ih := fun (v : Int) (k : v = 0 ∧ ¬ (R.1 129 111 = len ∧ ∀ i : Nat, (i : Int) < len → R.1 202 i = R.1 130 i) ∨ v = 1 ∧ R.1 129 111 = len ∧ ∀ i : Nat, i < j + 1 → R.1 202 i = R.1 130 i) => l_exS (e := e) (N := N) (Q := Q) h2 hl hl2 m (j + 1) nf v (by omega) (by omega) k q1 (fun z n' hn => q2 z n' (by omega))
      rw [show ((j + 1 : Nat) : Int) = (j : Int) + 1 by omega] at ih
      by_cases d : R.1 202 j = R.1 130 j
      · refine ok_e (by omega) (ok_nb (by omega) (ih 1 (Or.inr ⟨rfl, g4, fun i hi => ?_⟩)))
        by_cases q : i = j
        · rw [q]
          exact d
        · exact g5 i (by omega)
      · exact ok_t d (ok_nb (by omega) (ih 0 (Or.inl ⟨rfl, fun z => d (z.2 j (by omega))⟩)))
end
section
-- cv
def MsR (e : w_E) (N : Nat) (k x y z : Int) (U : w_S) : e_R := (e_sw k 0 [((E_Lending_lendTo e N x y U).bind (fun q618 => some (1, (w_put q618.2 0 18 q618.1)))), ((E_Lending_takeBack e N x y U).bind (fun q619 => some (1, (w_put q619.2 0 18 q619.1)))), ((E_Lending_renewLoan e N x U).bind (fun q620 => some (1, (w_put q620.2 0 18 q620.1)))), ((E_Lending_enterQueue e N x y z U).bind (fun q621 => some (1, (w_put q621.2 0 18 q621.1)))), ((E_Lending_leaveQueue e N x y U).bind (fun q622 => some (1, (w_put q622.2 0 18 q622.1))))] ((E_Readers_takeMoney e N x y U).bind (fun q623 => some (1, (w_put q623.2 0 18 q623.1)))))
theorem ms_A {e : w_E} {N : Nat} {k x y z : Int} {T : w_S} : MsA e N k x y z T = (if w_nb ((T.1 1 5) - (T.1 1 3)) = true then (if (T.1 0 17) = 0 then MsR e N k x y z (w_put T 0 17 (w_or (w_shl (T.1 1 3) 6) (min ((T.1 1 5) - (T.1 1 3)) 63))) else ((E_Tape_compareRows e N (w_or (w_shl (T.1 1 3) 6) (min ((T.1 1 5) - (T.1 1 3)) 63)) (T.1 0 17) T).bind (fun q => (if q.1 ≠ 0 then MsR e N k x y z (w_put q.2 0 17 (w_or (w_shl (T.1 1 3) 6) (min ((T.1 1 5) - (T.1 1 3)) 63))) else some ((-3), q.2))))) else none) := by
  delta MsA MsR
  rfl
/-- what an exchange leaves -/
def Px (S R : w_S) (f len t : Int) (y : Int) (S1 : w_S) (y' : Int) (R1 : w_S) : Prop := (y < -999 ∧ y' = y ∧ frm [] [1] [(1, 4), (1, 6)] S S1 ∧ frm [203] [129] [(129, 3), (129, 4)] R R1 ∧ R1.1 129 4 = 1) ∨ (y = -3 ∧ y' = S.1 0 18 ∧ frm [] [1] [(1, 4), (1, 6)] S S1 ∧ frm [203] [129] [(129, 3), (129, 4)] R R1 ∧ R1.1 129 4 = 1) ∨ (y = 1 ∧ y' = S1.1 0 18 ∧ frm LC (0 :: 1 :: LO) ((0, 17) :: (0, 18) :: (1, 4) :: (1, 6) :: LJ) S S1 ∧ frm (202 :: 203 :: LCr) LOr ((129, 3) :: (129, 4) :: (129, 111) :: (129, 112) :: LJr) R R1 ∧ RelL S1 R1 (t + 1) ∧ RelEx S1 R1 (f + len) ∧ R1.1 129 4 = 0)
theorem t_exchange {e : w_E} {N : Nat} {S R : w_S} {f len t top : Int} {G : Int → Int} (hN : 100000 ≤ N) (h : TX S f len G) (hr : TR R len G) (h4 : S.1 1 4 = f) (h6 : S.1 1 6 = -1) (hB : TB S R f len) (hL : RelL S R t) (ht : 0 ≤ t) (ht2 : t ≤ 512) (hX : RelEx S R top) (htop : top ≤ 10240) (hs : ∀ j, -128 ≤ S.1 2 j ∧ S.1 2 j ≤ 127) : Ok (E_C_runMessage e N S) (fun y S1 => Ok (E_R_doExchange e N R) (fun y' R1 => Px S R f len t y S1 y' R1)) := by
  have l0 := hr.2.1
  have lb := hr.2.2.1
  have f0 := h.2.2.1
  have fl := h.2.2.2.2.2.1
  obtain ⟨v, R2, he, z1, z2, z3⟩ := x_messageText (e := e) (N := N) (by omega) hr
  have ts := tp_self S
  rw [h4, h6] at ts
  have mfb : -3001 ≤ mgf G len := by
    have mb := mge_bd hr.e (mg_bd hr.e l0 (mgn G))
    have : mgf G len = pE G (pR G 48 57 (pL G (shw 0) (mg G len (mgn G)))) := rfl
    rw [this]
    unfold pE
    split
    · omega
    · split <;> omega
  have key := x_msg (e := e) (N := N) (Q := fun y S1 => Ok (E_R_doExchange e N R) (fun y' R1 => Px S R f len t y S1 y' R1)) (by omega) h (show At f len f (-1) 0 from ⟨by omega, by omega, Or.inl ⟨rfl, by omega⟩⟩)
  rw [ts] at key
  refine key (fun hn a' w' => ?_) (fun hp kd a' => ?_)
  · unfold E_R_doExchange
    refine ok_b (ok_of he ?_)
    dsimp only
    refine ok_e (by omega) (ok_nb (by omega) (ok_s (Or.inl ⟨by omega, by omega, ?_, frm.puto (z2.weak (by decide)) rfl rfl, rfl⟩)))
    unfold tp
    repeat (first | exact frm.refl _ _ _ _ | refine frm.put ?_ rfl | refine frm.puto ?_ rfl rfl)
  · clear key
    obtain ⟨g1, g2, g3⟩ := mgf_len hr hp
    obtain ⟨y1, y2⟩ := z3 (by omega)
    have r2 : R2.1 129 2 = len := by
      rw [z2.2.2 129 2 rfl rfl]
      exact hr.1
    have r130 : R2.1 130 = R.1 130 := z2.2.1 130 rfl rfl
    have r202 : R2.1 202 = R.1 202 := z2.2.1 202 rfl rfl
    have r111 : R2.1 129 111 = R.1 129 111 := z2.2.2 129 111 rfl rfl
    have r112 : R2.1 129 112 = R.1 129 112 := z2.2.2 129 112 rfl rfl
    -- the reference's way
    have rEx : ∀ Q : Int → w_S → Prop, ((R.1 129 111 = len ∧ ∀ i : Nat, (i : Int) < len → R.1 202 i = R.1 130 i) → Q (R.1 129 112) (w_put R2 129 4 1)) → (¬ (R.1 129 111 = len ∧ ∀ i : Nat, (i : Int) < len → R.1 202 i = R.1 130 i) → ∀ n', N ≤ n' + 50 → Ok (RxA e N n' R2) Q) → Ok (E_R_doExchange e N R) Q := by
      intro Q q1 q2
      unfold E_R_doExchange
      refine ok_b (ok_of he ?_)
      dsimp only
      rw [r111, r2]
      refine ok_t (by omega) ?_
      have ls := fun x => l_exS (e := e) (N := N) (R := R2) (Q := Q) r2 g2 g3 len.toNat 0 N x (by omega) (by omega)
      rw [r111, r202, r130, r112] at ls
      by_cases c : R.1 129 111 = len
      · exact ok_e (by omega) (ls 1 (Or.inr ⟨rfl, c, fun i hi => by omega⟩) q1 (fun z n' hn => q2 z n' (by omega)))
      · exact ok_t c (ls 0 (Or.inl ⟨rfl, fun z => c z.1⟩) q1 (fun z n' hn => q2 z n' (by omega)))
    -- the class's row
    have t3 : (tp S a' (-1)).1 1 3 = f := by
      rw [tp3]
      exact h.1
    have t5 : (tp S a' (-1)).1 1 5 = f + len := by
      rw [tp5]
      exact h.2.1
    have t0 : (tp S a' (-1)).1 0 = S.1 0 := tpo S a' (-1) (by decide)
    have t2 : (tp S a' (-1)).1 2 = S.1 2 := tp_2 S a' (-1)
    have row : w_or (w_shl f 6) (min (f + len - f) 63) = f * 64 + len := by
      rw [show min (f + len - f) 63 = len by omega, b_row (by omega) (by omega) (by omega) (by omega)]
    have frT : frm [] [1] [(1, 4), (1, 6)] S (tp S a' (-1)) := by
      unfold tp
      repeat (first | exact frm.refl _ _ _ _ | refine frm.put ?_ rfl | refine frm.puto ?_ rfl rfl)
    rw [ms_A, t3, t5, row, t0]
    refine ok_nb (by omega) ?_
    have run : ¬ (R.1 129 111 = len ∧ ∀ i : Nat, (i : Int) < len → R.1 202 i = R.1 130 i) → Ok (MsR e N (mkd7 G 0) (mgv G len 0) (if 1 < mgn G then mgv G len 1 else 0) (if 2 < mgn G then mgv G len 2 else 0) (w_put (tp S a' (-1)) 0 17 (f * 64 + len))) (fun y S1 => Ok (E_R_doExchange e N R) (fun y' R1 => Px S R f len t y S1 y' R1)) := by
      intro hns
      have frU : frm [] [0, 1] [(0, 17), (1, 4), (1, 6)] S (w_put (tp S a' (-1)) 0 17 (f * 64 + len)) := by
        unfold tp
        repeat (first | exact frm.refl _ _ _ _ | refine frm.put ?_ rfl | refine frm.puto ?_ rfl rfl)
      have frR : frm [203] [129] [(129, 3), (129, 4)] R (w_put R2 129 4 0) := frm.puto (z2.weak (by decide)) rfl rfl
      have lU : RelL (w_put (tp S a' (-1)) 0 17 (f * 64 + len)) (w_put R2 129 4 0) t := hL.fr frU frR (by decide)
      have gb : 0 ≤ G 0 → G 0 ≤ 127 → R2.1 130 0 = G 0 := fun q1 q2 => by
        have hb := hB 0 (by omega)
        have hg := (h.2.2.2.2.2.2 (0 : Int) (by omega)).1 (by omega)
        have e9 : (f + (0 : Int)).toNat = f.toNat + 0 := by omega
        rw [e9, ← hb.1] at hg
        have h4' := hg.2.2.2
        rw [r130]
        split at h4' <;> omega
      have fin : ∀ (n' : Nat), N ≤ n' + 50 → ∀ (y : Int) (S1 R1 : w_S), frm LC LO LJ (w_put (tp S a' (-1)) 0 17 (f * 64 + len)) S1 → frm LCr LOr ((129, 4) :: LJr) (w_put R2 129 4 0) R1 → RelL S1 R1 (t + 1) → Ok (El_R_doExchange e N n' 1 [y, 0] [] (w_put (w_put R1 129 4 0) 129 111 (R1.1 129 2))) (fun y' Rz => Px S R f len t 1 (w_put S1 0 18 y) y' Rz) := by
        intro n' hn y S1 R1 p2 p3 p4
        have u2 : R1.1 129 2 = len := by
          rw [p3.2.2 129 2 rfl rfl]
          simp only [w_put_r, reduceIte, Nat.reduceEqDiff, pt_at]
          exact r2
        have u130 : R1.1 130 = R.1 130 := by
          rw [p3.2.1 130 rfl rfl]
          simp only [w_put_r, reduceIte, Nat.reduceEqDiff, pt_at]
          exact r130
        rw [u2]
        have lk := l_exK (e := e) (N := N) (len := len) (v := y) g3 len.toNat 0 n' (w_put (w_put R1 129 4 0) 129 111 len) (by omega) (by omega) (by simp only [w_put_r, reduceIte, Nat.reduceEqDiff, pt_at]; exact u2)
        refine Ok.mono (show Ok (El_R_doExchange e N n' 1 [y, 0] [] _) _ from lk) (fun y' Rz q => ?_)
        obtain ⟨q1, q2, q3, q4, q5⟩ := q
        have fz : frm [202] [129] [(129, 4), (129, 111), (129, 112)] R1 Rz := frm.trans (by repeat (first | exact frm.refl _ _ _ _ | refine frm.put ?_ rfl | refine frm.puto ?_ rfl rfl)) (q2.weak (by decide))
        have s2 : S1.1 2 = S.1 2 := by
          rw [p2.2.1 2 rfl rfl]
          simp only [w_put_r, reduceIte, Nat.reduceEqDiff, pt_at]
          exact t2
        have s17 : S1.1 0 17 = f * 64 + len := by
          rw [p2.2.1 0 rfl rfl]
          simp only [w_put_r, reduceIte, Nat.reduceEqDiff, pt_at]
        refine Or.inr (Or.inr ⟨rfl, by rw [q1]; simp only [w_put_r, reduceIte, Nat.reduceEqDiff, pt_at], ?_, ?_, ?_, ⟨?_, Or.inr ⟨len.toNat, by omega, by omega, ?_, ?_, f.toNat, ?_, by omega, fun k hk => ?_⟩⟩, ?_⟩)
        · have f1 : frm LC (0 :: 1 :: LO) ((0, 17) :: (0, 18) :: (1, 4) :: (1, 6) :: LJ) S S1 := (frU.weak (by decide)).trans (p2.weak (by decide))
          exact frm.puto f1 rfl rfl
        · exact (frR.weak (by decide)).trans ((p3.weak (by decide)).trans (fz.weak (by decide)))
        · have f1 : frm [] [0] [(0, 18)] S1 (w_put S1 0 18 y) := by repeat (first | exact frm.refl _ _ _ _ | refine frm.put ?_ rfl | refine frm.puto ?_ rfl rfl)
          exact p4.fr f1 fz (by decide)
        · intro _
          rw [q3]
          simp only [w_put_r, reduceIte, Nat.reduceEqDiff, pt_at]
        · rw [q2.2.2 129 111 rfl rfl]
          simp only [w_put_r, reduceIte, Nat.reduceEqDiff, pt_at]
          omega
        · simp only [w_put_r, reduceIte, Nat.reduceEqDiff, pt_at]
          rw [s17]
          omega
        · simp only [w_put_r, reduceIte, Nat.reduceEqDiff, pt_at]
          rw [s17]
          omega
        · have hb := hB k (by omega)
          have q6 := q4 k (by omega) (by omega)
          simp only [w_put_r, reduceIte, Nat.reduceEqDiff, pt_at] at q6
          show (w_put S1 0 18 y).1 2 (f.toNat + k) = Rz.1 202 k
          simp only [w_put_r, reduceIte, Nat.reduceEqDiff, pt_at]
          rw [s2, q6, u130, w_b_id hb.2.1 hb.2.2]
          exact hb.1.symm
        · rw [q2.2.2 129 4 rfl rfl]
          simp only [w_put_r, reduceIte, Nat.reduceEqDiff, pt_at]
      have pa : ∀ y S1 y' R1, Pa (w_put (tp S a' (-1)) 0 17 (f * 64 + len)) (w_put R2 129 4 0) (fun _ => Ql (w_put (tp S a' (-1)) 0 17 (f * 64 + len)) (w_put R2 129 4 0) t) y S1 y' R1 → y' = y ∧ frm LC LO LJ (w_put (tp S a' (-1)) 0 17 (f * 64 + len)) S1 ∧ frm LCr LOr ((129, 4) :: LJr) (w_put R2 129 4 0) R1 ∧ RelL S1 R1 (t + 1) := by
        intro y S1 y' R1 p
        obtain ⟨p1, p2⟩ := p
        rcases p2 with ⟨_, p3, p4⟩ | ⟨_, p3, p4, p5⟩
        · subst p3
          subst p4
          refine ⟨p1, frm.refl _ _ _ _, by repeat (first | exact frm.refl _ _ _ _ | refine frm.put ?_ rfl | refine frm.puto ?_ rfl rfl), ?_⟩
          have f1 : frm [] [129] [(129, 4)] (w_put R2 129 4 0) (w_put (w_put R2 129 4 0) 129 4 1) := by repeat (first | exact frm.refl _ _ _ _ | refine frm.put ?_ rfl | refine frm.puto ?_ rfl rfl)
          exact lU.up.fr (frm.refl [] [] [] _) f1 (by decide)
        · exact ⟨p1, p3, p4.weak (by decide), p5⟩
      by_cases a0 : G 0 = 76
      · have mk : mkd7 G 0 = 0 := by simp [mkd7, a0]
        have mn : mgn G = 2 := by simp [mgn, mkd7, a0]
        rw [mn] at y2
        rw [mk, mn, if_pos (by omega), if_neg (by omega)]
        show Ok ((E_Lending_lendTo e N (mgv G len 0) (mgv G len 1) (w_put (tp S a' (-1)) 0 17 (f * 64 + len))).bind (fun q => some (1, w_put q.2 0 18 q.1))) _
        refine ok_b ((t_lend (by omega) lU ht ht2).mono (fun y S1 z => ok_s ?_))
        refine rEx _ (fun q => absurd q hns) (fun _ n' hn => ?_)
        unfold RxA
        rw [gb (by omega) (by omega), a0]
        refine ok_e (by omega) (ok_e (by omega) (ok_t (by omega) ?_))
        rw [y2 0 (by omega), y2 1 (by omega)]
        refine ok_b (z.mono (fun y' R1 p => ?_))
        obtain ⟨p1, p2, p3, p4⟩ := pa y S1 y' R1 p
        dsimp only
        rw [p1]
        refine ok_t (by rw [p3.2.1 130 rfl rfl]; simp only [w_put_r, reduceIte, Nat.reduceEqDiff, pt_at]; rw [gb (by omega) (by omega)]; omega) ?_
        exact fin n' hn y S1 R1 p2 p3 p4
      by_cases a1 : G 0 = 66
      · have mk : mkd7 G 0 = 1 := by simp [mkd7, a1]
        have mn : mgn G = 2 := by simp [mgn, mkd7, a1]
        rw [mn] at y2
        rw [mk, mn, if_pos (by omega), if_neg (by omega)]
        show Ok ((E_Lending_takeBack e N (mgv G len 0) (mgv G len 1) (w_put (tp S a' (-1)) 0 17 (f * 64 + len))).bind (fun q => some (1, w_put q.2 0 18 q.1))) _
        refine ok_b ((t_bring (by omega) lU ht ht2).mono (fun y S1 z => ok_s ?_))
        refine rEx _ (fun q => absurd q hns) (fun _ n' hn => ?_)
        unfold RxA
        rw [gb (by omega) (by omega), a1]
        refine ok_t (by omega) ?_
        rw [y2 0 (by omega), y2 1 (by omega)]
        refine ok_b (z.mono (fun y' R1 p => ?_))
        obtain ⟨p1, p2, p3, p4⟩ := pa y S1 y' R1 p
        dsimp only
        rw [p1]
        refine ok_t (by rw [p3.2.1 130 rfl rfl]; simp only [w_put_r, reduceIte, Nat.reduceEqDiff, pt_at]; rw [gb (by omega) (by omega)]; omega) ?_
        exact fin n' hn y S1 R1 p2 p3 p4
      by_cases a2 : G 0 = 82
      · have mk : mkd7 G 0 = 2 := by simp [mkd7, a2]
        have mn : mgn G = 1 := by simp [mgn, mkd7, a2]
        rw [mn] at y2
        rw [mk, mn, if_neg (by omega), if_neg (by omega)]
        show Ok ((E_Lending_renewLoan e N (mgv G len 0) (w_put (tp S a' (-1)) 0 17 (f * 64 + len))).bind (fun q => some (1, w_put q.2 0 18 q.1))) _
        refine ok_b ((t_renew (by omega) lU ht ht2).mono (fun y S1 z => ok_s ?_))
        refine rEx _ (fun q => absurd q hns) (fun _ n' hn => ?_)
        unfold RxA
        rw [gb (by omega) (by omega), a2]
        refine ok_e (by omega) (ok_e (by omega) (ok_e (by omega) (ok_t (by omega) ?_)))
        rw [y2 0 (by omega)]
        refine ok_b (z.mono (fun y' R1 p => ?_))
        obtain ⟨p1, p2, p3, p4⟩ := pa y S1 y' R1 p
        dsimp only
        rw [p1]
        refine ok_t (by rw [p3.2.1 130 rfl rfl]; simp only [w_put_r, reduceIte, Nat.reduceEqDiff, pt_at]; rw [gb (by omega) (by omega)]; omega) ?_
        exact fin n' hn y S1 R1 p2 p3 p4
      by_cases a3 : G 0 = 72
      · have mk : mkd7 G 0 = 3 := by simp [mkd7, a3]
        have mn : mgn G = 3 := by simp [mgn, mkd7, a3]
        rw [mn] at y2
        rw [mk, mn, if_pos (by omega), if_pos (by omega)]
        show Ok ((E_Lending_enterQueue e N (mgv G len 0) (mgv G len 1) (mgv G len 2) (w_put (tp S a' (-1)) 0 17 (f * 64 + len))).bind (fun q => some (1, w_put q.2 0 18 q.1))) _
        refine ok_b ((t_hold (by omega) lU ht).mono (fun y S1 z => ok_s ?_))
        refine rEx _ (fun q => absurd q hns) (fun _ n' hn => ?_)
        unfold RxA
        rw [gb (by omega) (by omega), a3]
        refine ok_e (by omega) (ok_t (by omega) ?_)
        rw [y2 0 (by omega), y2 1 (by omega), y2 2 (by omega)]
        refine ok_b (z.mono (fun y' R1 p => ?_))
        obtain ⟨p1, p2, p3, p4⟩ := pa y S1 y' R1 p
        dsimp only
        rw [p1]
        refine ok_t (by rw [p3.2.1 130 rfl rfl]; simp only [w_put_r, reduceIte, Nat.reduceEqDiff, pt_at]; rw [gb (by omega) (by omega)]; omega) ?_
        exact fin n' hn y S1 R1 p2 p3 p4
      by_cases a4 : G 0 = 85
      · have mk : mkd7 G 0 = 4 := by simp [mkd7, a4]
        have mn : mgn G = 2 := by simp [mgn, mkd7, a4]
        rw [mn] at y2
        rw [mk, mn, if_pos (by omega), if_neg (by omega)]
        show Ok ((E_Lending_leaveQueue e N (mgv G len 0) (mgv G len 1) (w_put (tp S a' (-1)) 0 17 (f * 64 + len))).bind (fun q => some (1, w_put q.2 0 18 q.1))) _
        refine ok_b ((t_unhold (by omega) lU ht).mono (fun y S1 z => ok_s ?_))
        refine rEx _ (fun q => absurd q hns) (fun _ n' hn => ?_)
        unfold RxA
        rw [gb (by omega) (by omega), a4]
        refine ok_e (by omega) (ok_e (by omega) (ok_e (by omega) (ok_e (by omega) (ok_t (by omega) ?_))))
        rw [y2 0 (by omega), y2 1 (by omega)]
        refine ok_b (z.mono (fun y' R1 p => ?_))
        obtain ⟨p1, p2, p3, p4⟩ := pa y S1 y' R1 p
        dsimp only
        rw [p1]
        refine ok_t (by rw [p3.2.1 130 rfl rfl]; simp only [w_put_r, reduceIte, Nat.reduceEqDiff, pt_at]; rw [gb (by omega) (by omega)]; omega) ?_
        exact fin n' hn y S1 R1 p2 p3 p4
      by_cases a5 : G 0 = 80
      · have mk : mkd7 G 0 = 5 := by simp [mkd7, a5]
        have mn : mgn G = 2 := by simp [mgn, mkd7, a5]
        rw [mn] at y2
        rw [mk, mn, if_pos (by omega), if_neg (by omega)]
        show Ok ((E_Readers_takeMoney e N (mgv G len 0) (mgv G len 1) (w_put (tp S a' (-1)) 0 17 (f * 64 + len))).bind (fun q => some (1, w_put q.2 0 18 q.1))) _
        refine ok_b ((t_pay lU ht ht2).mono (fun y S1 z => ok_s ?_))
        refine rEx _ (fun q => absurd q hns) (fun _ n' hn => ?_)
        unfold RxA
        rw [gb (by omega) (by omega), a5]
        refine ok_e (by omega) (ok_e (by omega) (ok_e (by omega) (ok_e (by omega) (ok_e (by omega) ?_))))
        rw [y2 0 (by omega), y2 1 (by omega)]
        refine ok_b (z.mono (fun y' R1 p => ?_))
        dsimp only
        have f1 : frm [] [129] [(129, 4)] (w_put R2 129 4 0) (w_put (w_put R2 129 4 0) 129 4 1) := by repeat (first | exact frm.refl _ _ _ _ | refine frm.put ?_ rfl | refine frm.puto ?_ rfl rfl)
        have lU1 := lU.up.fr (frm.refl [] [] [] _) f1 (by decide)
        rcases p with ⟨p1, p2, _, p3, p4⟩ | ⟨p1, p2, p3, p4⟩ | ⟨p1, _, _, p2, p3, p4, p5⟩
        · subst p3
          subst p4
          refine ok_e (by simp only [w_put_r, reduceIte, Nat.reduceEqDiff, pt_at]; rw [gb (by omega) (by omega)]; omega) (ok_t (by simp only [w_put_r, reduceIte, Nat.reduceEqDiff, pt_at]; omega) (ok_e (by omega) ?_))
          rw [p1]
          exact fin n' hn (-1) _ _ (frm.refl _ _ _ _) (f1.weak (by decide)) lU1
        · subst p3
          subst p4
          refine ok_e (by simp only [w_put_r, reduceIte, Nat.reduceEqDiff, pt_at]; rw [gb (by omega) (by omega)]; omega) (ok_t (by simp only [w_put_r, reduceIte, Nat.reduceEqDiff, pt_at]; omega) (ok_t (by omega) ?_))
          rw [p1]
          exact fin n' hn (-2) _ _ (frm.refl _ _ _ _) (f1.weak (by decide)) lU1
        · refine ok_e (by rw [p4.2.1 130 rfl rfl]; simp only [w_put_r, reduceIte, Nat.reduceEqDiff, pt_at]; rw [gb (by omega) (by omega)]; omega) (ok_e (by rw [p4.2.2 129 4 rfl rfl]; simp only [w_put_r, reduceIte, Nat.reduceEqDiff, pt_at]; omega) ?_)
          rw [p1]
          exact fin n' hn 1 S1 R1 p3 (p4.weak (by decide)) p5
      · exfalso
        simp [mkd7, a0, a1, a2, a3, a4, a5] at kd
    obtain ⟨x1, x2⟩ := hX
    rcases x2 with ⟨x2, x3⟩ | ⟨m, x3, x4, x5, x6, p, x7, x8, x9⟩
    · refine ok_t x2 (run (fun z => by omega))
    · refine ok_e x6 ?_
      have xc := x_cmp (e := e) (N := N) (S := tp S a' (-1)) (a := f.toNat) (b := p) (m := len.toNat) (n := m) (by omega) (by omega) (by omega) (by omega) (by omega) (fun j => by rw [t2]; exact hs j)
      rw [show ((f.toNat : Nat) : Int) * 64 + ((len.toNat : Nat) : Int) = f * 64 + len by omega, ← x7, t2] at xc
      have cz := cmr_zero (g := fun j => S.1 2 (f.toNat + j)) (h := fun j => S.1 2 (p + j)) (m := len.toNat) (n := m) 64 0 (by omega)
      have eqv : cmr (fun j => S.1 2 (f.toNat + j)) (fun j => S.1 2 (p + j)) len.toNat m 64 0 = 0 ↔ (R.1 129 111 = len ∧ ∀ i : Nat, (i : Int) < len → R.1 202 i = R.1 130 i) := by
        rw [cz]
        constructor
        · intro z
          refine ⟨by omega, fun i hi => ?_⟩
          have q1 := z.2 i (by omega) (by omega)
          have q2 := x9 i (by omega)
          have q3 := (hB i hi).1
          dsimp only at q1 q2
          rw [← q2, ← q1, q3]
        · intro z
          refine ⟨by omega, fun i _ hi => ?_⟩
          have q1 := z.2 i (by omega)
          have q2 := x9 i (by omega)
          have q3 := (hB i (by omega)).1
          dsimp only at q2 ⊢
          rw [q2, q1, q3]
      refine ok_b (ok_of xc ?_)
      dsimp only
      by_cases c : cmr (fun j => S.1 2 (f.toNat + j)) (fun j => S.1 2 (p + j)) len.toNat m 64 0 = 0
      · refine ok_e (by omega) (ok_s (rEx _ (fun _ => ?_) (fun z => absurd (eqv.1 c) z)))
        exact Or.inr (Or.inl ⟨rfl, x1 x6, frT, frm.puto (z2.weak (by decide)) rfl rfl, rfl⟩)
      · exact ok_t c (run (fun z => c (eqv.2 z)))
end
