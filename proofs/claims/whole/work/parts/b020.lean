section
-- ci
def psd (G : Int → Int) (s : Int) : Int := if G s = 32 ∧ G (s + 1) = 115 then 0 else 1
def psw (k : Int) : List Int := if k = 0 then [32, 115, 107, 105, 112, 32] else [32, 118, 111, 108, 117, 109, 101, 32]
def k00 (_ : Int → Int) (_ : Int) : Int := 0
def evw (_ : Int) : List Int := [101, 118, 101, 114, 121, 32]
def vow (_ : Int) : List Int := [32, 118, 111, 108, 117, 109, 101, 32]
theorem ps_word_wl : wl 3 = [32, 115, 107, 105, 112, 32, 124, 32, 118, 111, 108, 117, 109, 101, 32] := by decide
theorem ps_word {G : Int → Int} {s : Int} (h : 0 ≤ s) : pK (wl 3) G s = pL G (psw (psd G s)) s ∧ (0 ≤ pK (wl 3) G s → (tw (fun p => G (s + p)) (wl 3) 0 0 0 false).1 = psd G s) := by
  rw [ps_word_wl]
  unfold pK
  rw [if_neg (by omega)]
  by_cases a1 : G (s) = 32
  · by_cases a2 : G (s + 1) = 115
    · by_cases a3 : G (s + 2) = 107
      · by_cases a4 : G (s + 3) = 105
        · by_cases a5 : G (s + 4) = 112
          · by_cases a6 : G (s + 5) = 32
            · have t : tw (fun p => G (s + p)) [32, 115, 107, 105, 112, 32, 124, 32, 118, 111, 108, 117, 109, 101, 32] 0 0 0 false = (0, 6, 6) := by
                simp [tw, a1, a2, a3, a4, a5, a6] <;> rfl
              have k : psd G s = 0 := by
                simp [psd, a1, a2, a3, a4, a5, a6]
              rw [t, k]
              have p : pL G (psw 0) s = s + 6 := by
                show pL G [32, 115, 107, 105, 112, 32] s = _
                rw [pL_y (by omega) (show G (s) = 32 by exact a1), pL_y (by omega) (show G (s + 1) = 115 by exact a2), pL_y (by omega) (show G (s + 1 + 1) = 107 by rw [show s + 1 + 1 = s + 2 by omega]; exact a3), pL_y (by omega) (show G (s + 1 + 1 + 1) = 105 by rw [show s + 1 + 1 + 1 = s + 3 by omega]; exact a4), pL_y (by omega) (show G (s + 1 + 1 + 1 + 1) = 112 by rw [show s + 1 + 1 + 1 + 1 = s + 4 by omega]; exact a5), pL_y (by omega) (show G (s + 1 + 1 + 1 + 1 + 1) = 32 by rw [show s + 1 + 1 + 1 + 1 + 1 = s + 5 by omega]; exact a6), pL]
                all_goals omega
              rw [p]
              exact ⟨rfl, fun _ => rfl⟩
            · have t : tw (fun p => G (s + p)) [32, 115, 107, 105, 112, 32, 124, 32, 118, 111, 108, 117, 109, 101, 32] 0 0 0 false = (-1, 0, 5) := by
                simp [tw, a1, a2, a3, a4, a5, a6] <;> rfl
              have k : psd G s = 0 := by
                simp [psd, a1, a2, a3, a4, a5, a6]
              rw [t, k]
              have p : pL G (psw 0) s = -1 - (s + 5) := by
                show pL G [32, 115, 107, 105, 112, 32] s = _
                rw [pL_y (by omega) (show G (s) = 32 by exact a1), pL_y (by omega) (show G (s + 1) = 115 by exact a2), pL_y (by omega) (show G (s + 1 + 1) = 107 by rw [show s + 1 + 1 = s + 2 by omega]; exact a3), pL_y (by omega) (show G (s + 1 + 1 + 1) = 105 by rw [show s + 1 + 1 + 1 = s + 3 by omega]; exact a4), pL_y (by omega) (show G (s + 1 + 1 + 1 + 1) = 112 by rw [show s + 1 + 1 + 1 + 1 = s + 4 by omega]; exact a5), pL_n (by omega) (show ¬ G (s + 1 + 1 + 1 + 1 + 1) = 32 by rw [show s + 1 + 1 + 1 + 1 + 1 = s + 5 by omega]; exact a6)]
                all_goals omega
              rw [p]
              refine ⟨by simp, fun z => ?_⟩
              simp at z
              omega
          · have t : tw (fun p => G (s + p)) [32, 115, 107, 105, 112, 32, 124, 32, 118, 111, 108, 117, 109, 101, 32] 0 0 0 false = (-1, 0, 4) := by
              simp [tw, a1, a2, a3, a4, a5] <;> rfl
            have k : psd G s = 0 := by
              simp [psd, a1, a2, a3, a4, a5]
            rw [t, k]
            have p : pL G (psw 0) s = -1 - (s + 4) := by
              show pL G [32, 115, 107, 105, 112, 32] s = _
              rw [pL_y (by omega) (show G (s) = 32 by exact a1), pL_y (by omega) (show G (s + 1) = 115 by exact a2), pL_y (by omega) (show G (s + 1 + 1) = 107 by rw [show s + 1 + 1 = s + 2 by omega]; exact a3), pL_y (by omega) (show G (s + 1 + 1 + 1) = 105 by rw [show s + 1 + 1 + 1 = s + 3 by omega]; exact a4), pL_n (by omega) (show ¬ G (s + 1 + 1 + 1 + 1) = 112 by rw [show s + 1 + 1 + 1 + 1 = s + 4 by omega]; exact a5)]
              all_goals omega
            rw [p]
            refine ⟨by simp, fun z => ?_⟩
            simp at z
            omega
        · have t : tw (fun p => G (s + p)) [32, 115, 107, 105, 112, 32, 124, 32, 118, 111, 108, 117, 109, 101, 32] 0 0 0 false = (-1, 0, 3) := by
            simp [tw, a1, a2, a3, a4] <;> rfl
          have k : psd G s = 0 := by
            simp [psd, a1, a2, a3, a4]
          rw [t, k]
          have p : pL G (psw 0) s = -1 - (s + 3) := by
            show pL G [32, 115, 107, 105, 112, 32] s = _
            rw [pL_y (by omega) (show G (s) = 32 by exact a1), pL_y (by omega) (show G (s + 1) = 115 by exact a2), pL_y (by omega) (show G (s + 1 + 1) = 107 by rw [show s + 1 + 1 = s + 2 by omega]; exact a3), pL_n (by omega) (show ¬ G (s + 1 + 1 + 1) = 105 by rw [show s + 1 + 1 + 1 = s + 3 by omega]; exact a4)]
            all_goals omega
          rw [p]
          refine ⟨by simp, fun z => ?_⟩
          simp at z
          omega
      · have t : tw (fun p => G (s + p)) [32, 115, 107, 105, 112, 32, 124, 32, 118, 111, 108, 117, 109, 101, 32] 0 0 0 false = (-1, 0, 2) := by
          simp [tw, a1, a2, a3] <;> rfl
        have k : psd G s = 0 := by
          simp [psd, a1, a2, a3]
        rw [t, k]
        have p : pL G (psw 0) s = -1 - (s + 2) := by
          show pL G [32, 115, 107, 105, 112, 32] s = _
          rw [pL_y (by omega) (show G (s) = 32 by exact a1), pL_y (by omega) (show G (s + 1) = 115 by exact a2), pL_n (by omega) (show ¬ G (s + 1 + 1) = 107 by rw [show s + 1 + 1 = s + 2 by omega]; exact a3)]
          all_goals omega
        rw [p]
        refine ⟨by simp, fun z => ?_⟩
        simp at z
        omega
    · by_cases a7 : G (s + 1) = 118
      · by_cases a8 : G (s + 2) = 111
        · by_cases a9 : G (s + 3) = 108
          · by_cases a10 : G (s + 4) = 117
            · by_cases a11 : G (s + 5) = 109
              · by_cases a12 : G (s + 6) = 101
                · by_cases a13 : G (s + 7) = 32
                  · have t : tw (fun p => G (s + p)) [32, 115, 107, 105, 112, 32, 124, 32, 118, 111, 108, 117, 109, 101, 32] 0 0 0 false = (1, 8, 8) := by
                      simp [tw, a1, a2, a7, a8, a9, a10, a11, a12, a13] <;> rfl
                    have k : psd G s = 1 := by
                      simp [psd, a1, a2, a7, a8, a9, a10, a11, a12, a13]
                    rw [t, k]
                    have p : pL G (psw 1) s = s + 8 := by
                      show pL G [32, 118, 111, 108, 117, 109, 101, 32] s = _
                      rw [pL_y (by omega) (show G (s) = 32 by exact a1), pL_y (by omega) (show G (s + 1) = 118 by exact a7), pL_y (by omega) (show G (s + 1 + 1) = 111 by rw [show s + 1 + 1 = s + 2 by omega]; exact a8), pL_y (by omega) (show G (s + 1 + 1 + 1) = 108 by rw [show s + 1 + 1 + 1 = s + 3 by omega]; exact a9), pL_y (by omega) (show G (s + 1 + 1 + 1 + 1) = 117 by rw [show s + 1 + 1 + 1 + 1 = s + 4 by omega]; exact a10), pL_y (by omega) (show G (s + 1 + 1 + 1 + 1 + 1) = 109 by rw [show s + 1 + 1 + 1 + 1 + 1 = s + 5 by omega]; exact a11), pL_y (by omega) (show G (s + 1 + 1 + 1 + 1 + 1 + 1) = 101 by rw [show s + 1 + 1 + 1 + 1 + 1 + 1 = s + 6 by omega]; exact a12), pL_y (by omega) (show G (s + 1 + 1 + 1 + 1 + 1 + 1 + 1) = 32 by rw [show s + 1 + 1 + 1 + 1 + 1 + 1 + 1 = s + 7 by omega]; exact a13), pL]
                      all_goals omega
                    rw [p]
                    exact ⟨rfl, fun _ => rfl⟩
                  · have t : tw (fun p => G (s + p)) [32, 115, 107, 105, 112, 32, 124, 32, 118, 111, 108, 117, 109, 101, 32] 0 0 0 false = (-1, 0, 7) := by
                      simp [tw, a1, a2, a7, a8, a9, a10, a11, a12, a13] <;> rfl
                    have k : psd G s = 1 := by
                      simp [psd, a1, a2, a7, a8, a9, a10, a11, a12, a13]
                    rw [t, k]
                    have p : pL G (psw 1) s = -1 - (s + 7) := by
                      show pL G [32, 118, 111, 108, 117, 109, 101, 32] s = _
                      rw [pL_y (by omega) (show G (s) = 32 by exact a1), pL_y (by omega) (show G (s + 1) = 118 by exact a7), pL_y (by omega) (show G (s + 1 + 1) = 111 by rw [show s + 1 + 1 = s + 2 by omega]; exact a8), pL_y (by omega) (show G (s + 1 + 1 + 1) = 108 by rw [show s + 1 + 1 + 1 = s + 3 by omega]; exact a9), pL_y (by omega) (show G (s + 1 + 1 + 1 + 1) = 117 by rw [show s + 1 + 1 + 1 + 1 = s + 4 by omega]; exact a10), pL_y (by omega) (show G (s + 1 + 1 + 1 + 1 + 1) = 109 by rw [show s + 1 + 1 + 1 + 1 + 1 = s + 5 by omega]; exact a11), pL_y (by omega) (show G (s + 1 + 1 + 1 + 1 + 1 + 1) = 101 by rw [show s + 1 + 1 + 1 + 1 + 1 + 1 = s + 6 by omega]; exact a12), pL_n (by omega) (show ¬ G (s + 1 + 1 + 1 + 1 + 1 + 1 + 1) = 32 by rw [show s + 1 + 1 + 1 + 1 + 1 + 1 + 1 = s + 7 by omega]; exact a13)]
                      all_goals omega
                    rw [p]
                    refine ⟨by simp, fun z => ?_⟩
                    simp at z
                    omega
                · have t : tw (fun p => G (s + p)) [32, 115, 107, 105, 112, 32, 124, 32, 118, 111, 108, 117, 109, 101, 32] 0 0 0 false = (-1, 0, 6) := by
                    simp [tw, a1, a2, a7, a8, a9, a10, a11, a12] <;> rfl
                  have k : psd G s = 1 := by
                    simp [psd, a1, a2, a7, a8, a9, a10, a11, a12]
                  rw [t, k]
                  have p : pL G (psw 1) s = -1 - (s + 6) := by
                    show pL G [32, 118, 111, 108, 117, 109, 101, 32] s = _
                    rw [pL_y (by omega) (show G (s) = 32 by exact a1), pL_y (by omega) (show G (s + 1) = 118 by exact a7), pL_y (by omega) (show G (s + 1 + 1) = 111 by rw [show s + 1 + 1 = s + 2 by omega]; exact a8), pL_y (by omega) (show G (s + 1 + 1 + 1) = 108 by rw [show s + 1 + 1 + 1 = s + 3 by omega]; exact a9), pL_y (by omega) (show G (s + 1 + 1 + 1 + 1) = 117 by rw [show s + 1 + 1 + 1 + 1 = s + 4 by omega]; exact a10), pL_y (by omega) (show G (s + 1 + 1 + 1 + 1 + 1) = 109 by rw [show s + 1 + 1 + 1 + 1 + 1 = s + 5 by omega]; exact a11), pL_n (by omega) (show ¬ G (s + 1 + 1 + 1 + 1 + 1 + 1) = 101 by rw [show s + 1 + 1 + 1 + 1 + 1 + 1 = s + 6 by omega]; exact a12)]
                    all_goals omega
                  rw [p]
                  refine ⟨by simp, fun z => ?_⟩
                  simp at z
                  omega
              · have t : tw (fun p => G (s + p)) [32, 115, 107, 105, 112, 32, 124, 32, 118, 111, 108, 117, 109, 101, 32] 0 0 0 false = (-1, 0, 5) := by
                  simp [tw, a1, a2, a7, a8, a9, a10, a11] <;> rfl
                have k : psd G s = 1 := by
                  simp [psd, a1, a2, a7, a8, a9, a10, a11]
                rw [t, k]
                have p : pL G (psw 1) s = -1 - (s + 5) := by
                  show pL G [32, 118, 111, 108, 117, 109, 101, 32] s = _
                  rw [pL_y (by omega) (show G (s) = 32 by exact a1), pL_y (by omega) (show G (s + 1) = 118 by exact a7), pL_y (by omega) (show G (s + 1 + 1) = 111 by rw [show s + 1 + 1 = s + 2 by omega]; exact a8), pL_y (by omega) (show G (s + 1 + 1 + 1) = 108 by rw [show s + 1 + 1 + 1 = s + 3 by omega]; exact a9), pL_y (by omega) (show G (s + 1 + 1 + 1 + 1) = 117 by rw [show s + 1 + 1 + 1 + 1 = s + 4 by omega]; exact a10), pL_n (by omega) (show ¬ G (s + 1 + 1 + 1 + 1 + 1) = 109 by rw [show s + 1 + 1 + 1 + 1 + 1 = s + 5 by omega]; exact a11)]
                  all_goals omega
                rw [p]
                refine ⟨by simp, fun z => ?_⟩
                simp at z
                omega
            · have t : tw (fun p => G (s + p)) [32, 115, 107, 105, 112, 32, 124, 32, 118, 111, 108, 117, 109, 101, 32] 0 0 0 false = (-1, 0, 4) := by
                simp [tw, a1, a2, a7, a8, a9, a10] <;> rfl
              have k : psd G s = 1 := by
                simp [psd, a1, a2, a7, a8, a9, a10]
              rw [t, k]
              have p : pL G (psw 1) s = -1 - (s + 4) := by
                show pL G [32, 118, 111, 108, 117, 109, 101, 32] s = _
                rw [pL_y (by omega) (show G (s) = 32 by exact a1), pL_y (by omega) (show G (s + 1) = 118 by exact a7), pL_y (by omega) (show G (s + 1 + 1) = 111 by rw [show s + 1 + 1 = s + 2 by omega]; exact a8), pL_y (by omega) (show G (s + 1 + 1 + 1) = 108 by rw [show s + 1 + 1 + 1 = s + 3 by omega]; exact a9), pL_n (by omega) (show ¬ G (s + 1 + 1 + 1 + 1) = 117 by rw [show s + 1 + 1 + 1 + 1 = s + 4 by omega]; exact a10)]
                all_goals omega
              rw [p]
              refine ⟨by simp, fun z => ?_⟩
              simp at z
              omega
          · have t : tw (fun p => G (s + p)) [32, 115, 107, 105, 112, 32, 124, 32, 118, 111, 108, 117, 109, 101, 32] 0 0 0 false = (-1, 0, 3) := by
              simp [tw, a1, a2, a7, a8, a9] <;> rfl
            have k : psd G s = 1 := by
              simp [psd, a1, a2, a7, a8, a9]
            rw [t, k]
            have p : pL G (psw 1) s = -1 - (s + 3) := by
              show pL G [32, 118, 111, 108, 117, 109, 101, 32] s = _
              rw [pL_y (by omega) (show G (s) = 32 by exact a1), pL_y (by omega) (show G (s + 1) = 118 by exact a7), pL_y (by omega) (show G (s + 1 + 1) = 111 by rw [show s + 1 + 1 = s + 2 by omega]; exact a8), pL_n (by omega) (show ¬ G (s + 1 + 1 + 1) = 108 by rw [show s + 1 + 1 + 1 = s + 3 by omega]; exact a9)]
              all_goals omega
            rw [p]
            refine ⟨by simp, fun z => ?_⟩
            simp at z
            omega
        · have t : tw (fun p => G (s + p)) [32, 115, 107, 105, 112, 32, 124, 32, 118, 111, 108, 117, 109, 101, 32] 0 0 0 false = (-1, 0, 2) := by
            simp [tw, a1, a2, a7, a8] <;> rfl
          have k : psd G s = 1 := by
            simp [psd, a1, a2, a7, a8]
          rw [t, k]
          have p : pL G (psw 1) s = -1 - (s + 2) := by
            show pL G [32, 118, 111, 108, 117, 109, 101, 32] s = _
            rw [pL_y (by omega) (show G (s) = 32 by exact a1), pL_y (by omega) (show G (s + 1) = 118 by exact a7), pL_n (by omega) (show ¬ G (s + 1 + 1) = 111 by rw [show s + 1 + 1 = s + 2 by omega]; exact a8)]
            all_goals omega
          rw [p]
          refine ⟨by simp, fun z => ?_⟩
          simp at z
          omega
      · have t : tw (fun p => G (s + p)) [32, 115, 107, 105, 112, 32, 124, 32, 118, 111, 108, 117, 109, 101, 32] 0 0 0 false = (-1, 0, 1) := by
          simp [tw, a1, a2, a7] <;> rfl
        have k : psd G s = 1 := by
          simp [psd, a1, a2, a7]
        rw [t, k]
        have p : pL G (psw 1) s = -1 - (s + 1) := by
          show pL G [32, 118, 111, 108, 117, 109, 101, 32] s = _
          rw [pL_y (by omega) (show G (s) = 32 by exact a1), pL_n (by omega) (show ¬ G (s + 1) = 118 by exact a7)]
          all_goals omega
        rw [p]
        refine ⟨by simp, fun z => ?_⟩
        simp at z
        omega
  · have t : tw (fun p => G (s + p)) [32, 115, 107, 105, 112, 32, 124, 32, 118, 111, 108, 117, 109, 101, 32] 0 0 0 false = (-1, 0, 0) := by
      simp [tw, a1] <;> rfl
    have k : psd G s = 1 := by
      simp [psd, a1]
    rw [t, k]
    have p : pL G (psw 1) s = -1 - (s + 0) := by
      show pL G [32, 118, 111, 108, 117, 109, 101, 32] s = _
      rw [pL_n (by omega) (show ¬ G (s) = 32 by exact a1)]
      omega
    rw [p]
    refine ⟨by simp, fun z => ?_⟩
    simp at z
    omega
theorem ev_word_wl : wl 2 = [101, 118, 101, 114, 121, 32] := by decide
theorem ev_word {G : Int → Int} {s : Int} (h : 0 ≤ s) : pK (wl 2) G s = pL G (evw (k00 G s)) s ∧ (0 ≤ pK (wl 2) G s → (tw (fun p => G (s + p)) (wl 2) 0 0 0 false).1 = k00 G s) := by
  rw [ev_word_wl]
  unfold pK
  rw [if_neg (by omega)]
  by_cases a1 : G (s) = 101
  · by_cases a2 : G (s + 1) = 118
    · by_cases a3 : G (s + 2) = 101
      · by_cases a4 : G (s + 3) = 114
        · by_cases a5 : G (s + 4) = 121
          · by_cases a6 : G (s + 5) = 32
            · have t : tw (fun p => G (s + p)) [101, 118, 101, 114, 121, 32] 0 0 0 false = (0, 6, 6) := by
                simp [tw, a1, a2, a3, a4, a5, a6] <;> rfl
              have k : k00 G s = 0 := by
                simp [k00, a1, a2, a3, a4, a5, a6]
              rw [t, k]
              have p : pL G (evw 0) s = s + 6 := by
                show pL G [101, 118, 101, 114, 121, 32] s = _
                rw [pL_y (by omega) (show G (s) = 101 by exact a1), pL_y (by omega) (show G (s + 1) = 118 by exact a2), pL_y (by omega) (show G (s + 1 + 1) = 101 by rw [show s + 1 + 1 = s + 2 by omega]; exact a3), pL_y (by omega) (show G (s + 1 + 1 + 1) = 114 by rw [show s + 1 + 1 + 1 = s + 3 by omega]; exact a4), pL_y (by omega) (show G (s + 1 + 1 + 1 + 1) = 121 by rw [show s + 1 + 1 + 1 + 1 = s + 4 by omega]; exact a5), pL_y (by omega) (show G (s + 1 + 1 + 1 + 1 + 1) = 32 by rw [show s + 1 + 1 + 1 + 1 + 1 = s + 5 by omega]; exact a6), pL]
                all_goals omega
              rw [p]
              exact ⟨rfl, fun _ => rfl⟩
            · have t : tw (fun p => G (s + p)) [101, 118, 101, 114, 121, 32] 0 0 0 false = (-1, 0, 5) := by
                simp [tw, a1, a2, a3, a4, a5, a6] <;> rfl
              have k : k00 G s = 0 := by
                simp [k00, a1, a2, a3, a4, a5, a6]
              rw [t, k]
              have p : pL G (evw 0) s = -1 - (s + 5) := by
                show pL G [101, 118, 101, 114, 121, 32] s = _
                rw [pL_y (by omega) (show G (s) = 101 by exact a1), pL_y (by omega) (show G (s + 1) = 118 by exact a2), pL_y (by omega) (show G (s + 1 + 1) = 101 by rw [show s + 1 + 1 = s + 2 by omega]; exact a3), pL_y (by omega) (show G (s + 1 + 1 + 1) = 114 by rw [show s + 1 + 1 + 1 = s + 3 by omega]; exact a4), pL_y (by omega) (show G (s + 1 + 1 + 1 + 1) = 121 by rw [show s + 1 + 1 + 1 + 1 = s + 4 by omega]; exact a5), pL_n (by omega) (show ¬ G (s + 1 + 1 + 1 + 1 + 1) = 32 by rw [show s + 1 + 1 + 1 + 1 + 1 = s + 5 by omega]; exact a6)]
                all_goals omega
              rw [p]
              refine ⟨by simp, fun z => ?_⟩
              simp at z
              omega
          · have t : tw (fun p => G (s + p)) [101, 118, 101, 114, 121, 32] 0 0 0 false = (-1, 0, 4) := by
              simp [tw, a1, a2, a3, a4, a5] <;> rfl
            have k : k00 G s = 0 := by
              simp [k00, a1, a2, a3, a4, a5]
            rw [t, k]
            have p : pL G (evw 0) s = -1 - (s + 4) := by
              show pL G [101, 118, 101, 114, 121, 32] s = _
              rw [pL_y (by omega) (show G (s) = 101 by exact a1), pL_y (by omega) (show G (s + 1) = 118 by exact a2), pL_y (by omega) (show G (s + 1 + 1) = 101 by rw [show s + 1 + 1 = s + 2 by omega]; exact a3), pL_y (by omega) (show G (s + 1 + 1 + 1) = 114 by rw [show s + 1 + 1 + 1 = s + 3 by omega]; exact a4), pL_n (by omega) (show ¬ G (s + 1 + 1 + 1 + 1) = 121 by rw [show s + 1 + 1 + 1 + 1 = s + 4 by omega]; exact a5)]
              all_goals omega
            rw [p]
            refine ⟨by simp, fun z => ?_⟩
            simp at z
            omega
        · have t : tw (fun p => G (s + p)) [101, 118, 101, 114, 121, 32] 0 0 0 false = (-1, 0, 3) := by
            simp [tw, a1, a2, a3, a4] <;> rfl
          have k : k00 G s = 0 := by
            simp [k00, a1, a2, a3, a4]
          rw [t, k]
          have p : pL G (evw 0) s = -1 - (s + 3) := by
            show pL G [101, 118, 101, 114, 121, 32] s = _
            rw [pL_y (by omega) (show G (s) = 101 by exact a1), pL_y (by omega) (show G (s + 1) = 118 by exact a2), pL_y (by omega) (show G (s + 1 + 1) = 101 by rw [show s + 1 + 1 = s + 2 by omega]; exact a3), pL_n (by omega) (show ¬ G (s + 1 + 1 + 1) = 114 by rw [show s + 1 + 1 + 1 = s + 3 by omega]; exact a4)]
            all_goals omega
          rw [p]
          refine ⟨by simp, fun z => ?_⟩
          simp at z
          omega
      · have t : tw (fun p => G (s + p)) [101, 118, 101, 114, 121, 32] 0 0 0 false = (-1, 0, 2) := by
          simp [tw, a1, a2, a3] <;> rfl
        have k : k00 G s = 0 := by
          simp [k00, a1, a2, a3]
        rw [t, k]
        have p : pL G (evw 0) s = -1 - (s + 2) := by
          show pL G [101, 118, 101, 114, 121, 32] s = _
          rw [pL_y (by omega) (show G (s) = 101 by exact a1), pL_y (by omega) (show G (s + 1) = 118 by exact a2), pL_n (by omega) (show ¬ G (s + 1 + 1) = 101 by rw [show s + 1 + 1 = s + 2 by omega]; exact a3)]
          all_goals omega
        rw [p]
        refine ⟨by simp, fun z => ?_⟩
        simp at z
        omega
    · have t : tw (fun p => G (s + p)) [101, 118, 101, 114, 121, 32] 0 0 0 false = (-1, 0, 1) := by
        simp [tw, a1, a2] <;> rfl
      have k : k00 G s = 0 := by
        simp [k00, a1, a2]
      rw [t, k]
      have p : pL G (evw 0) s = -1 - (s + 1) := by
        show pL G [101, 118, 101, 114, 121, 32] s = _
        rw [pL_y (by omega) (show G (s) = 101 by exact a1), pL_n (by omega) (show ¬ G (s + 1) = 118 by exact a2)]
        all_goals omega
      rw [p]
      refine ⟨by simp, fun z => ?_⟩
      simp at z
      omega
  · have t : tw (fun p => G (s + p)) [101, 118, 101, 114, 121, 32] 0 0 0 false = (-1, 0, 0) := by
      simp [tw, a1] <;> rfl
    have k : k00 G s = 0 := by
      simp [k00, a1]
    rw [t, k]
    have p : pL G (evw 0) s = -1 - (s + 0) := by
      show pL G [101, 118, 101, 114, 121, 32] s = _
      rw [pL_n (by omega) (show ¬ G (s) = 101 by exact a1)]
      omega
    rw [p]
    refine ⟨by simp, fun z => ?_⟩
    simp at z
    omega
theorem vo_word_wl : wl 4 = [32, 118, 111, 108, 117, 109, 101, 32] := by decide
theorem vo_word {G : Int → Int} {s : Int} (h : 0 ≤ s) : pK (wl 4) G s = pL G (vow (k00 G s)) s ∧ (0 ≤ pK (wl 4) G s → (tw (fun p => G (s + p)) (wl 4) 0 0 0 false).1 = k00 G s) := by
  rw [vo_word_wl]
  unfold pK
  rw [if_neg (by omega)]
  by_cases a1 : G (s) = 32
  · by_cases a2 : G (s + 1) = 118
    · by_cases a3 : G (s + 2) = 111
      · by_cases a4 : G (s + 3) = 108
        · by_cases a5 : G (s + 4) = 117
          · by_cases a6 : G (s + 5) = 109
            · by_cases a7 : G (s + 6) = 101
              · by_cases a8 : G (s + 7) = 32
                · have t : tw (fun p => G (s + p)) [32, 118, 111, 108, 117, 109, 101, 32] 0 0 0 false = (0, 8, 8) := by
                    simp [tw, a1, a2, a3, a4, a5, a6, a7, a8] <;> rfl
                  have k : k00 G s = 0 := by
                    simp [k00, a1, a2, a3, a4, a5, a6, a7, a8]
                  rw [t, k]
                  have p : pL G (vow 0) s = s + 8 := by
                    show pL G [32, 118, 111, 108, 117, 109, 101, 32] s = _
                    rw [pL_y (by omega) (show G (s) = 32 by exact a1), pL_y (by omega) (show G (s + 1) = 118 by exact a2), pL_y (by omega) (show G (s + 1 + 1) = 111 by rw [show s + 1 + 1 = s + 2 by omega]; exact a3), pL_y (by omega) (show G (s + 1 + 1 + 1) = 108 by rw [show s + 1 + 1 + 1 = s + 3 by omega]; exact a4), pL_y (by omega) (show G (s + 1 + 1 + 1 + 1) = 117 by rw [show s + 1 + 1 + 1 + 1 = s + 4 by omega]; exact a5), pL_y (by omega) (show G (s + 1 + 1 + 1 + 1 + 1) = 109 by rw [show s + 1 + 1 + 1 + 1 + 1 = s + 5 by omega]; exact a6), pL_y (by omega) (show G (s + 1 + 1 + 1 + 1 + 1 + 1) = 101 by rw [show s + 1 + 1 + 1 + 1 + 1 + 1 = s + 6 by omega]; exact a7), pL_y (by omega) (show G (s + 1 + 1 + 1 + 1 + 1 + 1 + 1) = 32 by rw [show s + 1 + 1 + 1 + 1 + 1 + 1 + 1 = s + 7 by omega]; exact a8), pL]
                    all_goals omega
                  rw [p]
                  exact ⟨rfl, fun _ => rfl⟩
                · have t : tw (fun p => G (s + p)) [32, 118, 111, 108, 117, 109, 101, 32] 0 0 0 false = (-1, 0, 7) := by
                    simp [tw, a1, a2, a3, a4, a5, a6, a7, a8] <;> rfl
                  have k : k00 G s = 0 := by
                    simp [k00, a1, a2, a3, a4, a5, a6, a7, a8]
                  rw [t, k]
                  have p : pL G (vow 0) s = -1 - (s + 7) := by
                    show pL G [32, 118, 111, 108, 117, 109, 101, 32] s = _
                    rw [pL_y (by omega) (show G (s) = 32 by exact a1), pL_y (by omega) (show G (s + 1) = 118 by exact a2), pL_y (by omega) (show G (s + 1 + 1) = 111 by rw [show s + 1 + 1 = s + 2 by omega]; exact a3), pL_y (by omega) (show G (s + 1 + 1 + 1) = 108 by rw [show s + 1 + 1 + 1 = s + 3 by omega]; exact a4), pL_y (by omega) (show G (s + 1 + 1 + 1 + 1) = 117 by rw [show s + 1 + 1 + 1 + 1 = s + 4 by omega]; exact a5), pL_y (by omega) (show G (s + 1 + 1 + 1 + 1 + 1) = 109 by rw [show s + 1 + 1 + 1 + 1 + 1 = s + 5 by omega]; exact a6), pL_y (by omega) (show G (s + 1 + 1 + 1 + 1 + 1 + 1) = 101 by rw [show s + 1 + 1 + 1 + 1 + 1 + 1 = s + 6 by omega]; exact a7), pL_n (by omega) (show ¬ G (s + 1 + 1 + 1 + 1 + 1 + 1 + 1) = 32 by rw [show s + 1 + 1 + 1 + 1 + 1 + 1 + 1 = s + 7 by omega]; exact a8)]
                    all_goals omega
                  rw [p]
                  refine ⟨by simp, fun z => ?_⟩
                  simp at z
                  omega
              · have t : tw (fun p => G (s + p)) [32, 118, 111, 108, 117, 109, 101, 32] 0 0 0 false = (-1, 0, 6) := by
                  simp [tw, a1, a2, a3, a4, a5, a6, a7] <;> rfl
                have k : k00 G s = 0 := by
                  simp [k00, a1, a2, a3, a4, a5, a6, a7]
                rw [t, k]
                have p : pL G (vow 0) s = -1 - (s + 6) := by
                  show pL G [32, 118, 111, 108, 117, 109, 101, 32] s = _
                  rw [pL_y (by omega) (show G (s) = 32 by exact a1), pL_y (by omega) (show G (s + 1) = 118 by exact a2), pL_y (by omega) (show G (s + 1 + 1) = 111 by rw [show s + 1 + 1 = s + 2 by omega]; exact a3), pL_y (by omega) (show G (s + 1 + 1 + 1) = 108 by rw [show s + 1 + 1 + 1 = s + 3 by omega]; exact a4), pL_y (by omega) (show G (s + 1 + 1 + 1 + 1) = 117 by rw [show s + 1 + 1 + 1 + 1 = s + 4 by omega]; exact a5), pL_y (by omega) (show G (s + 1 + 1 + 1 + 1 + 1) = 109 by rw [show s + 1 + 1 + 1 + 1 + 1 = s + 5 by omega]; exact a6), pL_n (by omega) (show ¬ G (s + 1 + 1 + 1 + 1 + 1 + 1) = 101 by rw [show s + 1 + 1 + 1 + 1 + 1 + 1 = s + 6 by omega]; exact a7)]
                  all_goals omega
                rw [p]
                refine ⟨by simp, fun z => ?_⟩
                simp at z
                omega
            · have t : tw (fun p => G (s + p)) [32, 118, 111, 108, 117, 109, 101, 32] 0 0 0 false = (-1, 0, 5) := by
                simp [tw, a1, a2, a3, a4, a5, a6] <;> rfl
              have k : k00 G s = 0 := by
                simp [k00, a1, a2, a3, a4, a5, a6]
              rw [t, k]
              have p : pL G (vow 0) s = -1 - (s + 5) := by
                show pL G [32, 118, 111, 108, 117, 109, 101, 32] s = _
                rw [pL_y (by omega) (show G (s) = 32 by exact a1), pL_y (by omega) (show G (s + 1) = 118 by exact a2), pL_y (by omega) (show G (s + 1 + 1) = 111 by rw [show s + 1 + 1 = s + 2 by omega]; exact a3), pL_y (by omega) (show G (s + 1 + 1 + 1) = 108 by rw [show s + 1 + 1 + 1 = s + 3 by omega]; exact a4), pL_y (by omega) (show G (s + 1 + 1 + 1 + 1) = 117 by rw [show s + 1 + 1 + 1 + 1 = s + 4 by omega]; exact a5), pL_n (by omega) (show ¬ G (s + 1 + 1 + 1 + 1 + 1) = 109 by rw [show s + 1 + 1 + 1 + 1 + 1 = s + 5 by omega]; exact a6)]
                all_goals omega
              rw [p]
              refine ⟨by simp, fun z => ?_⟩
              simp at z
              omega
          · have t : tw (fun p => G (s + p)) [32, 118, 111, 108, 117, 109, 101, 32] 0 0 0 false = (-1, 0, 4) := by
              simp [tw, a1, a2, a3, a4, a5] <;> rfl
            have k : k00 G s = 0 := by
              simp [k00, a1, a2, a3, a4, a5]
            rw [t, k]
            have p : pL G (vow 0) s = -1 - (s + 4) := by
              show pL G [32, 118, 111, 108, 117, 109, 101, 32] s = _
              rw [pL_y (by omega) (show G (s) = 32 by exact a1), pL_y (by omega) (show G (s + 1) = 118 by exact a2), pL_y (by omega) (show G (s + 1 + 1) = 111 by rw [show s + 1 + 1 = s + 2 by omega]; exact a3), pL_y (by omega) (show G (s + 1 + 1 + 1) = 108 by rw [show s + 1 + 1 + 1 = s + 3 by omega]; exact a4), pL_n (by omega) (show ¬ G (s + 1 + 1 + 1 + 1) = 117 by rw [show s + 1 + 1 + 1 + 1 = s + 4 by omega]; exact a5)]
              all_goals omega
            rw [p]
            refine ⟨by simp, fun z => ?_⟩
            simp at z
            omega
        · have t : tw (fun p => G (s + p)) [32, 118, 111, 108, 117, 109, 101, 32] 0 0 0 false = (-1, 0, 3) := by
            simp [tw, a1, a2, a3, a4] <;> rfl
          have k : k00 G s = 0 := by
            simp [k00, a1, a2, a3, a4]
          rw [t, k]
          have p : pL G (vow 0) s = -1 - (s + 3) := by
            show pL G [32, 118, 111, 108, 117, 109, 101, 32] s = _
            rw [pL_y (by omega) (show G (s) = 32 by exact a1), pL_y (by omega) (show G (s + 1) = 118 by exact a2), pL_y (by omega) (show G (s + 1 + 1) = 111 by rw [show s + 1 + 1 = s + 2 by omega]; exact a3), pL_n (by omega) (show ¬ G (s + 1 + 1 + 1) = 108 by rw [show s + 1 + 1 + 1 = s + 3 by omega]; exact a4)]
            all_goals omega
          rw [p]
          refine ⟨by simp, fun z => ?_⟩
          simp at z
          omega
      · have t : tw (fun p => G (s + p)) [32, 118, 111, 108, 117, 109, 101, 32] 0 0 0 false = (-1, 0, 2) := by
          simp [tw, a1, a2, a3] <;> rfl
        have k : k00 G s = 0 := by
          simp [k00, a1, a2, a3]
        rw [t, k]
        have p : pL G (vow 0) s = -1 - (s + 2) := by
          show pL G [32, 118, 111, 108, 117, 109, 101, 32] s = _
          rw [pL_y (by omega) (show G (s) = 32 by exact a1), pL_y (by omega) (show G (s + 1) = 118 by exact a2), pL_n (by omega) (show ¬ G (s + 1 + 1) = 111 by rw [show s + 1 + 1 = s + 2 by omega]; exact a3)]
          all_goals omega
        rw [p]
        refine ⟨by simp, fun z => ?_⟩
        simp at z
        omega
    · have t : tw (fun p => G (s + p)) [32, 118, 111, 108, 117, 109, 101, 32] 0 0 0 false = (-1, 0, 1) := by
        simp [tw, a1, a2] <;> rfl
      have k : k00 G s = 0 := by
        simp [k00, a1, a2]
      rw [t, k]
      have p : pL G (vow 0) s = -1 - (s + 1) := by
        show pL G [32, 118, 111, 108, 117, 109, 101, 32] s = _
        rw [pL_y (by omega) (show G (s) = 32 by exact a1), pL_n (by omega) (show ¬ G (s + 1) = 118 by exact a2)]
        all_goals omega
      rw [p]
      refine ⟨by simp, fun z => ?_⟩
      simp at z
      omega
  · have t : tw (fun p => G (s + p)) [32, 118, 111, 108, 117, 109, 101, 32] 0 0 0 false = (-1, 0, 0) := by
      simp [tw, a1] <;> rfl
    have k : k00 G s = 0 := by
      simp [k00, a1]
    rw [t, k]
    have p : pL G (vow 0) s = -1 - (s + 0) := by
      show pL G [32, 118, 111, 108, 117, 109, 101, 32] s = _
      rw [pL_n (by omega) (show ¬ G (s) = 32 by exact a1)]
      omega
    rw [p]
    refine ⟨by simp, fun z => ?_⟩
    simp at z
    omega
theorem wl15 : wl 15 = [101, 118, 101, 114, 121, 32] := by decide
theorem wl16 : wl 16 = [32, 115, 107, 105, 112, 32] := by decide
theorem wl17 : wl 17 = [32, 118, 111, 108, 117, 109, 101, 32] := by decide
theorem b_and1 (x : Int) : w_and x 1 = 0 ∨ w_and x 1 = 1 := by
  have e1 : (Int32.ofInt 1).toBitVec.toNat = 1 := rfl
  have h : (Int32.ofInt x &&& Int32.ofInt 1).toBitVec.toNat = (Int32.ofInt x).toBitVec.toNat &&& 1 := by
    rw [Int32.toBitVec_and, BitVec.toNat_and, e1]
  have hn : (Int32.ofInt x).toBitVec.toNat &&& 1 ≤ 1 := Nat.and_le_right
  have k : w_and x 1 = (((Int32.ofInt x).toBitVec.toNat &&& 1 : Nat) : Int) := b_to h (by omega)
  omega
/-- months behind the first one: each behind a comma, each greater than the last one -/
def moH (G : Int → Int) (len : Int) : Nat → Int → Int → Int
  | 0, _, r => r
  | k + 1, l, r => if G r = 44 then (if pN G len l 11 (r + 1) < 0 then pN G len l 11 (r + 1) else moH G len k (vl G (r + 1) (nd G (len - (r + 1)).toNat (r + 1)) + 1) (pN G len l 11 (r + 1))) else r
def moV (G : Int → Int) (len : Int) : Nat → Int → Int → Int → Int
  | 0, _, _, v => v
  | k + 1, l, r, v => if G r = 44 then moV G len k (vl G (r + 1) (nd G (len - (r + 1)).toNat (r + 1)) + 1) (pN G len l 11 (r + 1)) (w_or v (w_shl 1 (vl G (r + 1) (nd G (len - (r + 1)).toNat (r + 1))))) else v
def pM (G : Int → Int) (len q : Int) : Int := if pN G len 0 11 q < 0 then pN G len 0 11 q else moH G len 12 (vl G q (nd G (len - q).toNat q) + 1) (pN G len 0 11 q)
def vM (G : Int → Int) (len q : Int) : Int := moV G len 12 (vl G q (nd G (len - q).toNat q) + 1) (pN G len 0 11 q) (w_or 0 (w_shl 1 (vl G q (nd G (len - q).toNat q))))
theorem pM_neg {G : Int → Int} {len q : Int} (h : q < 0) : pM G len q = q := by
  unfold pM
  rw [pN_neg h, if_pos h]
theorem moH_bd {G : Int → Int} {len : Int} (hG : ∀ p, len ≤ p → G p = -1) : ∀ (k : Nat) (l r : Int), 0 ≤ r → r ≤ len → Bd len (moH G len k l r)
  | 0, l, r, h0, h1 => ⟨by rw [moH]; omega, h1⟩
  | k + 1, l, r, h0, h1 => by
    rw [moH]
    split
    · rename_i c
      have := hG r
      have b := pN_bd (G := G) (lo := l) (hi := 11) (show Bd len (r + 1) from ⟨by omega, by omega⟩)
      split
      · exact b
      · unfold Bd at b
        exact moH_bd hG k _ _ (by omega) b.2
    · exact ⟨by omega, h1⟩
theorem pM_bd {G : Int → Int} {len q : Int} (hG : ∀ p, len ≤ p → G p = -1) (h : Bd len q) : Bd len (pM G len q) := by
  have b := pN_bd (G := G) (lo := 0) (hi := 11) h
  unfold pM
  split
  · exact b
  · unfold Bd at b
    exact moH_bd hG 12 _ _ (by omega) b.2
theorem l_mow {e : w_E} {N nf : Nat} {S : w_S} {f len a w q v l i : Int} {G : Int → Int} (h : TX S f len G) (ha : At f len a w q) (hq : q < 0) (hi : 1 ≤ i) : El_Buying_readMonths e N (nf + 1) 0 [v, l, i] [] (tp S a w) = some (v, tp S a w) := by
  have hp := x_peek (e := e) (N := N) h ha
  rw [if_pos hq] at hp
  refine ok_eq ?_
  rw [El_Buying_readMonths]
  by_cases c : 12 < i
  · exact ok_t c (ok_s ⟨rfl, rfl⟩)
  · refine ok_e c (ok_e (by omega) (ok_b (ok_of hp ?_)))
    exact ok_t (by show (-1 : Int) ≠ 44; decide) (ok_s ⟨rfl, rfl⟩)
theorem l_mo {e : w_E} {N : Nat} {S : w_S} {f len : Int} {G : Int → Int} (hN : 2001 ≤ N) (h : TX S f len G) : ∀ (k i nf : Nat) (l v r a : Int), i + k = 13 → 1 ≤ i → k < nf → 13 - k ≤ l → l ≤ 12 → At f len a (-1) r → 0 ≤ r → Ok (El_Buying_readMonths e N nf 0 [v, l, (i : Int)] [] (tp S a (-1))) (Tk S f len (moH G len k l r) (fun y => y = moV G len k l r v))
  | _, _, 0, _, _, _, _, _, _, h, _, _, _, _ => by omega
  | 0, _, _ + 1, l, _, _, _, _, _, _, h1, h2, _, _ => by omega
  | k + 1, i, nf + 1, l, v, r, a, hk, hi, hf, h1, h2, ha, h0 => by
    have hp := x_peek (e := e) (N := N) h ha
    rw [if_neg (by omega : ¬ r < 0)] at hp
    rw [El_Buying_readMonths]
    refine ok_e (by omega) (ok_e (by omega) (ok_b (ok_of hp ?_)))
    dsimp only
    by_cases c : G r = 44
    · refine ok_e (by omega) (ok_e (by omega) ?_)
      refine tk_b (x_takeByte h ha (by decide)) (fun _ b0 v0 hb0 _ => ?_)
      rw [pB_y h0 c] at hb0
      dsimp only
      refine ok_b ((b_number (e := e) (N := N) (lo := l) (hi := 11) hN h hb0).mono (fun y S1 z => ?_))
      obtain ⟨⟨a1, w1, z1, z2, z3⟩, z4, z5⟩ := z
      subst z1
      dsimp only
      refine ok_nb (by omega) (ok_nb (by omega) ?_)
      by_cases d : pN G len l 11 (r + 1) < 0
      · rw [show moH G len (k + 1) l r = pN G len l 11 (r + 1) by rw [moH, if_pos c, if_pos d]]
        obtain ⟨nf', hnf⟩ : ∃ m, nf = m + 1 := ⟨nf - 1, by omega⟩
        rw [hnf]
        refine ok_of (l_mow h z2 d (by omega)) ⟨a1, w1, rfl, z2, fun z => ?_⟩
        have := z2.right.2 d
        omega
      · have w1e := z2.wm (by omega)
        obtain ⟨y1, y2, y3⟩ := z3 w1e
        subst w1e
        have ih := l_mo (e := e) (N := N) hN h k (i + 1) nf (vl G (r + 1) (nd G (len - (r + 1)).toNat (r + 1)) + 1) (w_or v (w_shl 1 (vl G (r + 1) (nd G (len - (r + 1)).toNat (r + 1))))) (pN G len l 11 (r + 1)) a1 (by omega) (by omega) (by omega) (by omega) (by omega) z2 (by omega)
        rw [show moH G len (k + 1) l r = moH G len k (vl G (r + 1) (nd G (len - (r + 1)).toNat (r + 1)) + 1) (pN G len l 11 (r + 1)) by rw [moH, if_pos c, if_neg d], show moV G len (k + 1) l r v = moV G len k (vl G (r + 1) (nd G (len - (r + 1)).toNat (r + 1)) + 1) (pN G len l 11 (r + 1)) (w_or v (w_shl 1 (vl G (r + 1) (nd G (len - (r + 1)).toNat (r + 1))))) by rw [moV, if_pos c]]
        rw [show ((i + 1 : Nat) : Int) = (i : Int) + 1 by omega, ← y1] at ih
        rw [← y1]
        exact ih
    · rw [show moH G len (k + 1) l r = r by rw [moH, if_neg c], show moV G len (k + 1) l r v = v by rw [moV, if_neg c]]
      exact ok_t c (ok_s ⟨a, -1, rfl, ha, fun _ => rfl⟩)
theorem x_months {e : w_E} {N : Nat} {S : w_S} {f len a w q : Int} {G : Int → Int} (hN : 2001 ≤ N) (h : TX S f len G) (ha : At f len a w q) : Ok (E_Buying_readMonths e N (tp S a w)) (Tk S f len (pM G len q) (fun y => y = vM G len q)) := by
  obtain ⟨n, hn⟩ : ∃ n, N = n + 1 + 1 := ⟨N - 2, by omega⟩
  unfold E_Buying_readMonths
  rw [show El_Buying_readMonths e N N = El_Buying_readMonths e N (n + 1 + 1) by rw [← hn], El_Buying_readMonths]
  refine ok_e (by omega) (ok_t rfl (ok_t (by omega) ?_))
  refine ok_b ((b_number (e := e) (N := N) (lo := 0) (hi := 11) hN h ha).mono (fun y S1 z => ?_))
  obtain ⟨⟨a1, w1, z1, z2, z3⟩, z4, z5⟩ := z
  subst z1
  dsimp only
  refine ok_nb (by omega) (ok_nb (by omega) ?_)
  by_cases d : pN G len 0 11 q < 0
  · rw [show pM G len q = pN G len 0 11 q by unfold pM; rw [if_pos d]]
    refine ok_of (l_mow h z2 d (by omega)) ⟨a1, w1, rfl, z2, fun z => ?_⟩
    have := z2.right.2 d
    omega
  · have w1e := z2.wm (by omega)
    obtain ⟨y1, y2, y3⟩ := z3 w1e
    subst w1e
    rw [show pM G len q = moH G len 12 (vl G q (nd G (len - q).toNat q) + 1) (pN G len 0 11 q) by unfold pM; rw [if_neg d]]
    unfold vM
    rw [← y1]
    exact l_mo (e := e) (N := N) hN h 12 1 (n + 1) (y + 1) (w_or 0 (w_shl 1 y)) (pN G len 0 11 q) a1 (by omega) (by omega) (by omega) (by omega) (by omega) z2 (by omega)
theorem pN_lo {G : Int → Int} {len l q : Int} (hl : 0 ≤ l) (h0 : 0 ≤ q) : pN G len l 11 q = if 0 ≤ pN G len 0 11 q ∧ l ≤ vl G q (nd G (len - q).toNat q) then pN G len 0 11 q else -1 - q := by
  unfold pN
  have q0 : ¬ q < 0 := by omega
  simp only [if_neg q0]
  have k : okn G l 11 q (nd G (len - q).toNat q) = (okn G 0 11 q (nd G (len - q).toNat q) && decide (l ≤ vl G q (nd G (len - q).toNat q))) ∨ vl G q (nd G (len - q).toNat q) < 0 := by
    unfold okn
    rcases Int.lt_or_le (vl G q (nd G (len - q).toNat q)) 0 with c | c
    · exact Or.inr c
    · left
      rw [decide_eq_true c]
      cases decide (l ≤ vl G q (nd G (len - q).toNat q)) <;> simp
  have vb := (vl_b (G := G) (p := q) (nd G (len - q).toNat q) (nd_all _ _)).1
  rcases k with k | k
  · rw [k]
    by_cases c : okn G 0 11 q (nd G (len - q).toNat q) = true
    · rw [c, Bool.true_and]
      by_cases d : l ≤ vl G q (nd G (len - q).toNat q)
      · rw [decide_eq_true d, if_pos rfl, if_pos ⟨by omega, d⟩]
      · rw [decide_eq_false d, if_neg (by decide), if_neg (fun z => d z.2)]
    · rw [if_neg (by rw [Bool.and_eq_true]; exact fun z => c z.1), if_neg]
      intro z
      rw [if_neg c] at z
      omega
  · omega
end
section
-- cj
theorem pN_n {G : Int → Int} {len lo hi q : Int} (h0 : 0 ≤ q) (h : pN G len lo hi q < 0) : pN G len lo hi q = -1 - q := by
  unfold pN at h ⊢
  rw [if_neg (by omega)] at h ⊢
  split at h
  · omega
  · rename_i c
    rw [if_neg c]
/-- months in the reference, behind the first one -/
theorem l_moR {e : w_E} {N : Nat} {len : Int} {G : Int → Int} (hN : 2001 ≤ N) : ∀ (k nf : Nat) (l r v : Int) (R : w_S), k + 1 < nf → k ≤ 12 → 13 - k ≤ l → l ≤ 12 → TR R len G → 0 ≤ r → r ≤ len → R.1 129 138 = v → Ok (if G r ≠ 44 then El_R_months e N nf 0 [r, l - 1, 0] [] R else (if w_nb (r + 1) = true then El_R_months e N nf 0 [r + 1, l - 1, 1] [] R else none)) (fun y R1 => y = moH G len k l r ∧ frm [] [129] [(129, 3), (129, 138)] R R1 ∧ (0 ≤ y → R1.1 129 138 = moV G len k l r v))
  | k, 0, _, _, _, _, h, _, _, _, _, _, _, _ => by omega
  | 0, nf + 1, l, r, v, R, _, _, h1, h2, _, _, _, _ => by omega
  | k + 1, nf + 1, l, r, v, R, hf, hk, h1, h2, hR, h0, hl, hv => by
    have lb := hR.2.2.1
    by_cases c : G r = 44
    · have hlt := tr_lt hR h0 (by omega)
      refine ok_e (by omega) (ok_nb (by omega) ?_)
      have hn := x_numeral (e := e) (N := N) (lo := 0) (hi := 11) hN hR (show 0 ≤ r + 1 by omega) (by omega)
      have hlo := pN_lo (G := G) (len := len) (l := l) (q := r + 1) (by omega) (by omega)
      have pb := pN_bd (G := G) (lo := 0) (hi := 11) (show Bd len (r + 1) from ⟨by omega, by omega⟩)
      have pv := pN_v (G := G) (len := len) (lo := 0) (hi := 11) (q := r + 1)
      unfold Bd at pb
      have eh : moH G len (k + 1) l r = if pN G len l 11 (r + 1) < 0 then pN G len l 11 (r + 1) else moH G len k (vl G (r + 1) (nd G (len - (r + 1)).toNat (r + 1)) + 1) (pN G len l 11 (r + 1)) := by
        rw [moH, if_pos c]
      have ev : moV G len (k + 1) l r v = moV G len k (vl G (r + 1) (nd G (len - (r + 1)).toNat (r + 1)) + 1) (pN G len l 11 (r + 1)) (w_or v (w_shl 1 (vl G (r + 1) (nd G (len - (r + 1)).toNat (r + 1))))) := by
        rw [moV, if_pos c]
      have pn := pN_n (G := G) (len := len) (lo := 0) (hi := 11) (show 0 ≤ r + 1 by omega)
      generalize vl G (r + 1) (nd G (len - (r + 1)).toNat (r + 1)) = u at *
      generalize pN G len l 11 (r + 1) = s at *
      generalize pN G len 0 11 (r + 1) = p at *
      rw [El_R_months]
      refine ok_e (by omega) ?_
      by_cases d : 0 ≤ p
      · rw [if_pos d] at hn
        have pv' := pv d
        refine ok_b (ok_of hn ?_)
        dsimp only
        rw [show (w_put R 129 3 u).1 129 3 = u by simp only [w_put_r, reduceIte, Nat.reduceEqDiff, pt_at], show (w_put R 129 3 u).1 129 138 = v by simp only [w_put_r, reduceIte, Nat.reduceEqDiff, pt_at]; exact hv]
        refine ok_t d ?_
        by_cases d1 : l ≤ u
        · have hs : s = p := by rw [hlo, if_pos ⟨d, d1⟩]
          have eh' : moH G len (k + 1) l r = moH G len k (u + 1) p := by rw [eh, hs, if_neg (by omega)]
          rw [eh', ev, hs]
          have hR2 : TR (w_put (w_put R 129 3 u) 129 138 (w_or v (w_shl 1 u))) len G := by
            have t1 := hR.put (b := 129) (k := 3) (x := u) (Or.inr rfl) (by decide)
            exact t1.fr (L := []) (O := [129]) (J := [(129, 138)]) (by repeat (first | exact frm.refl _ _ _ _ | refine frm.put ?_ rfl | refine frm.puto ?_ rfl rfl)) (by decide)
          have ih := l_moR (e := e) (N := N) (len := len) (G := G) hN k nf (u + 1) p (w_or v (w_shl 1 u)) (w_put (w_put R 129 3 u) 129 138 (w_or v (w_shl 1 u))) (by omega) (by omega) (by omega) (by omega) hR2 d (by omega) (by simp only [w_put_r, reduceIte, Nat.reduceEqDiff, pt_at])
          rw [show u + 1 - 1 = u by omega] at ih
          refine ok_t (show l - 1 < u by omega) (ok_b (ok_of (x_at hR2 d) ?_))
          dsimp only
          refine ih.mono (fun y R1 z => ⟨z.1, frm.trans (by repeat (first | exact frm.refl _ _ _ _ | refine frm.put ?_ rfl | refine frm.puto ?_ rfl rfl)) z.2.1, z.2.2⟩)
        · have hs : s = -1 - (r + 1) := by rw [hlo, if_neg (fun z => d1 z.2)]
          have eh' : moH G len (k + 1) l r = -1 - (r + 1) := by rw [eh, hs, if_pos (by omega)]
          rw [eh']
          exact ok_e (show ¬ l - 1 < u by omega) (ok_nb (by omega) (ok_s ⟨rfl, by repeat (first | exact frm.refl _ _ _ _ | refine frm.put ?_ rfl | refine frm.puto ?_ rfl rfl), fun z => by omega⟩))
      · rw [if_neg d] at hn
        have hs : s = -1 - (r + 1) := by rw [hlo, if_neg (fun z => d z.1)]
        have eh' : moH G len (k + 1) l r = -1 - (r + 1) := by rw [eh, hs, if_pos (by omega)]
        rw [eh']
        refine ok_b (ok_of hn ?_)
        dsimp only
        exact ok_e d (ok_s ⟨pn (by omega), frm.refl _ _ _ _, fun z => by omega⟩)
    · rw [show moH G len (k + 1) l r = r by rw [moH, if_neg c], show moV G len (k + 1) l r v = v by rw [moV, if_neg c]]
      refine ok_t c ?_
      rw [El_R_months]
      exact ok_t rfl (ok_s ⟨rfl, frm.refl _ _ _ _, fun _ => hv⟩)
theorem x_monthsR {e : w_E} {N : Nat} {len q : Int} {G : Int → Int} {R : w_S} (hN : 2001 ≤ N) (hR : TR R len G) (h0 : 0 ≤ q) (hl : q ≤ len) (hv : R.1 129 138 = 0) : Ok (E_R_months e N q R) (fun y R1 => y = pM G len q ∧ frm [] [129] [(129, 3), (129, 138)] R R1 ∧ (0 ≤ y → R1.1 129 138 = vM G len q)) := by
  have lb := hR.2.2.1
  have hn := x_numeral (e := e) (N := N) (lo := 0) (hi := 11) hN hR h0 hl
  have pb := pN_bd (G := G) (lo := 0) (hi := 11) (show Bd len q from ⟨by omega, by omega⟩)
  have pv := pN_v (G := G) (len := len) (lo := 0) (hi := 11) (q := q)
  unfold Bd at pb
  obtain ⟨n, hnn⟩ : ∃ n, N = n + 1 := ⟨N - 1, by omega⟩
  unfold E_R_months
  rw [show El_R_months e N N = El_R_months e N (n + 1) by rw [← hnn], El_R_months]
  refine ok_e (by omega) ?_
  unfold vM
  have e1 : pM G len q = if pN G len 0 11 q < 0 then pN G len 0 11 q else moH G len 12 (vl G q (nd G (len - q).toNat q) + 1) (pN G len 0 11 q) := rfl
  generalize vl G q (nd G (len - q).toNat q) = u at *
  generalize pN G len 0 11 q = p at *
  by_cases d : 0 ≤ p
  · rw [if_pos d] at hn
    rw [if_neg (by omega)] at e1
    rw [e1]
    have pv' := pv d
    refine ok_b (ok_of hn ?_)
    dsimp only
    rw [show (w_put R 129 3 u).1 129 3 = u by simp only [w_put_r, reduceIte, Nat.reduceEqDiff, pt_at], show (w_put R 129 3 u).1 129 138 = 0 by simp only [w_put_r, reduceIte, Nat.reduceEqDiff, pt_at]; exact hv]
    have hR2 : TR (w_put (w_put R 129 3 u) 129 138 (w_or 0 (w_shl 1 u))) len G := by
      have t1 := hR.put (b := 129) (k := 3) (x := u) (Or.inr rfl) (by decide)
      exact t1.fr (L := []) (O := [129]) (J := [(129, 138)]) (by repeat (first | exact frm.refl _ _ _ _ | refine frm.put ?_ rfl | refine frm.puto ?_ rfl rfl)) (by decide)
    have ih := l_moR (e := e) (N := N) (len := len) (G := G) hN 12 n (u + 1) p (w_or 0 (w_shl 1 u)) (w_put (w_put R 129 3 u) 129 138 (w_or 0 (w_shl 1 u))) (by omega) (by omega) (by omega) (by omega) hR2 d (by omega) (by simp only [w_put_r, reduceIte, Nat.reduceEqDiff, pt_at])
    rw [show u + 1 - 1 = u by omega] at ih
    refine ok_t d (ok_t (show (-1 : Int) < u by omega) (ok_b (ok_of (x_at hR2 d) ?_)))
    dsimp only
    refine ih.mono (fun y R1 z => ⟨z.1, frm.trans (by repeat (first | exact frm.refl _ _ _ _ | refine frm.put ?_ rfl | refine frm.puto ?_ rfl rfl)) z.2.1, z.2.2⟩)
  · rw [if_neg d] at hn
    rw [if_pos (by omega)] at e1
    rw [e1]
    refine ok_b (ok_of hn ?_)
    dsimp only
    exact ok_e d (ok_s ⟨rfl, frm.refl _ _ _ _, fun z => by omega⟩)
end
