section
-- 84
def ckA (L O A : List Nat) : Bool := A.all (fun a => !L.contains a && !O.contains a)
def ckS (L : List Nat) (J A : List (Nat × Nat)) : Bool := A.all (fun a => !L.contains a.1 && !J.contains a)
theorem ckA_of {L O A : List Nat} (h : ckA L O A = true) (a : Nat) (ha : A.contains a = true) : L.contains a = false ∧ O.contains a = false := by
  unfold ckA at h
  rw [List.all_eq_true] at h
  have := h a (by simpa using ha)
  simpa using this
theorem ckS_of {L : List Nat} {J A : List (Nat × Nat)} (h : ckS L J A = true) (a : Nat × Nat) (ha : A.contains a = true) : L.contains a.1 = false ∧ J.contains a = false := by
  unfold ckS at h
  rw [List.all_eq_true] at h
  have := h a (by simpa using ha)
  simpa using this
theorem ck4 {L O A L' O' A' : List Nat} {J B J' B' : List (Nat × Nat)} (h : (ckA L O A && (ckS L J B && (ckA L' O' A' && ckS L' J' B'))) = true) : (∀ a, A.contains a = true → L.contains a = false ∧ O.contains a = false) ∧ (∀ a, B.contains a = true → L.contains a.1 = false ∧ J.contains a = false) ∧ (∀ a, A'.contains a = true → L'.contains a = false ∧ O'.contains a = false) ∧ (∀ a, B'.contains a = true → L'.contains a.1 = false ∧ J'.contains a = false) := by
  simp only [Bool.and_eq_true] at h
  exact ⟨ckA_of h.1, ckS_of h.2.1, ckA_of h.2.2.1, ckS_of h.2.2.2⟩
theorem frm.weak {L O L' O' : List Nat} {J J' : List (Nat × Nat)} {S S' : w_S} (h : frm L O J S S') (hL : (L.all (fun b => L'.contains b) && (O.all (fun b => O'.contains b) && J.all (fun b => J'.contains b))) = true) : frm L' O' J' S S' := by
  simp only [Bool.and_eq_true, List.all_eq_true] at hL
  have key : ∀ {α : Type} [BEq α] [LawfulBEq α] {A B : List α}, (∀ x, x ∈ A → B.contains x = true) → ∀ b, B.contains b = false → A.contains b = false := by
    intro α _ _ A B hAB b hb
    cases hc : A.contains b with
    | false => rfl
    | true => rw [hAB b (by simpa using hc)] at hb; cases hb
  exact ⟨h.1, fun b h1 h2 => h.2.1 b (key hL.1 b h1) (key hL.2.1 b h2), fun b j h1 h2 => h.2.2 b j (key hL.1 b h1) (key hL.2.2 (b, j) h2)⟩
theorem RelT.fr {S R S1 R1 : w_S}  {L O L' O' : List Nat} {J J' : List (Nat × Nat)} (h : RelT S R ) (hf : frm L O J S S1) (hg : frm L' O' J' R R1) (dd : (ckA L O [31] && (ckS L J [(27, 1), (35, 1)] && (ckA L' O' [183] && ckS L' J' [(129, 12), (129, 83)]))) = true) : RelT S1 R1  := by
  have d := ck4 dd
  have a0 : S1.1 31 = S.1 31 := hf.2.1 31 (d.1 31 (by decide)).1 (d.1 31 (by decide)).2
  have b0 : S1.1 27 1 = S.1 27 1 := hf.2.2 27 1 (d.2.1 (27, 1) (by decide)).1 (d.2.1 (27, 1) (by decide)).2
  have b1 : S1.1 35 1 = S.1 35 1 := hf.2.2 35 1 (d.2.1 (35, 1) (by decide)).1 (d.2.1 (35, 1) (by decide)).2
  have g0 : R1.1 183 = R.1 183 := hg.2.1 183 (d.2.2.1 183 (by decide)).1 (d.2.2.1 183 (by decide)).2
  have k0 : R1.1 129 12 = R.1 129 12 := hg.2.2 129 12 (d.2.2.2 (129, 12) (by decide)).1 (d.2.2.2 (129, 12) (by decide)).2
  have k1 : R1.1 129 83 = R.1 129 83 := hg.2.2 129 83 (d.2.2.2 (129, 83) (by decide)).1 (d.2.2.2 (129, 83) (by decide)).2
  unfold RelT at h ⊢
  simp only [a0, b0, b1, g0, k0, k1]
  exact h
theorem RelP.fr {S R S1 R1 : w_S}  {L O L' O' : List Nat} {J J' : List (Nat × Nat)} (h : RelP S R ) (hf : frm L O J S S1) (hg : frm L' O' J' R R1) (dd : (ckA L O [49] && (ckS L J [(46, 0)] && (ckA L' O' [178] && ckS L' J' []))) = true) : RelP S1 R1  := by
  have d := ck4 dd
  have a0 : S1.1 49 = S.1 49 := hf.2.1 49 (d.1 49 (by decide)).1 (d.1 49 (by decide)).2
  have b0 : S1.1 46 0 = S.1 46 0 := hf.2.2 46 0 (d.2.1 (46, 0) (by decide)).1 (d.2.1 (46, 0) (by decide)).2
  have g0 : R1.1 178 = R.1 178 := hg.2.1 178 (d.2.2.1 178 (by decide)).1 (d.2.2.1 178 (by decide)).2
  unfold RelP at h ⊢
  simp only [a0, b0, g0]
  exact h
theorem RelQ.fr {S R S1 R1 : w_S} {L O L' O' : List Nat} {J J' : List (Nat × Nat)} (h : RelQ S R) (hf : frm L O J S S1) (hg : frm L' O' J' R R1) (dd : (ckA L O [73, 74, 75] && (ckS L J [(62, 14), (46, 0)] && (ckA L' O' [214, 215, 216] && ckS L' J' [(129, 127)]))) = true) : RelQ S1 R1 := by
  have d := ck4 dd
  have b0 : S1.1 62 14 = S.1 62 14 := hf.2.2 62 14 (d.2.1 (62, 14) (by decide)).1 (d.2.1 (62, 14) (by decide)).2
  have b1 : S1.1 46 0 = S.1 46 0 := hf.2.2 46 0 (d.2.1 (46, 0) (by decide)).1 (d.2.1 (46, 0) (by decide)).2
  have k0 : R1.1 129 127 = R.1 129 127 := hg.2.2 129 127 (d.2.2.2 (129, 127) (by decide)).1 (d.2.2.2 (129, 127) (by decide)).2
  have e1 : QC S1.1 = QC S.1 := qcong (hf.2.1 73 (d.1 73 (by decide)).1 (d.1 73 (by decide)).2) (hf.2.1 74 (d.1 74 (by decide)).1 (d.1 74 (by decide)).2) (hf.2.1 75 (d.1 75 (by decide)).1 (d.1 75 (by decide)).2) b0
  have e2 : QR R1.1 = QR R.1 := rcong (hg.2.1 214 (d.2.2.1 214 (by decide)).1 (d.2.2.1 214 (by decide)).2) (hg.2.1 215 (d.2.2.1 215 (by decide)).1 (d.2.2.1 215 (by decide)).2) (hg.2.1 216 (d.2.2.1 216 (by decide)).1 (d.2.2.1 216 (by decide)).2) k0
  unfold RelQ at h ⊢
  rw [b0, b1, k0, e1, e2]
  exact h
def RelG (S R : w_S)  : Prop := R.1 129 13 = S.1 3 0 ∧ 0 ≤ S.1 3 0 ∧ S.1 3 0 ≤ 150 ∧ ∀ k : Nat, 1 ≤ k → (k : Int) ≤ S.1 3 0 → R.1 134 k = S.1 5 k ∧ -1 ≤ S.1 5 k ∧ S.1 5 k ≤ 50000
theorem RelG.fr {S R S1 R1 : w_S}  {L O L' O' : List Nat} {J J' : List (Nat × Nat)} (h : RelG S R ) (hf : frm L O J S S1) (hg : frm L' O' J' R R1) (dd : (ckA L O [5] && (ckS L J [(3, 0)] && (ckA L' O' [134] && ckS L' J' [(129, 13)]))) = true) : RelG S1 R1  := by
  have d := ck4 dd
  have a0 : S1.1 5 = S.1 5 := hf.2.1 5 (d.1 5 (by decide)).1 (d.1 5 (by decide)).2
  have b0 : S1.1 3 0 = S.1 3 0 := hf.2.2 3 0 (d.2.1 (3, 0) (by decide)).1 (d.2.1 (3, 0) (by decide)).2
  have g0 : R1.1 134 = R.1 134 := hg.2.1 134 (d.2.2.1 134 (by decide)).1 (d.2.2.1 134 (by decide)).2
  have k0 : R1.1 129 13 = R.1 129 13 := hg.2.2 129 13 (d.2.2.2 (129, 13) (by decide)).1 (d.2.2.2 (129, 13) (by decide)).2
  unfold RelG at h ⊢
  simp only [a0, b0, g0, k0]
  exact h
def RelRd (S R : w_S) (t : Int) : Prop := R.1 129 65 = S.1 46 0 ∧ 0 ≤ S.1 46 0 ∧ S.1 46 0 ≤ 60 ∧ ∀ k : Nat, 1 ≤ k → (k : Int) ≤ S.1 46 0 → R.1 167 k = S.1 47 k ∧ 0 ≤ S.1 47 k ∧ S.1 47 k ≤ 4 ∧ R.1 168 k = S.1 48 k ∧ -100000 * t ≤ S.1 48 k ∧ S.1 48 k ≤ 100000 * t
theorem RelRd.fr {S R S1 R1 : w_S} {t : Int} {L O L' O' : List Nat} {J J' : List (Nat × Nat)} (h : RelRd S R t) (hf : frm L O J S S1) (hg : frm L' O' J' R R1) (dd : (ckA L O [47, 48] && (ckS L J [(46, 0)] && (ckA L' O' [167, 168] && ckS L' J' [(129, 65)]))) = true) : RelRd S1 R1 t := by
  have d := ck4 dd
  have a0 : S1.1 47 = S.1 47 := hf.2.1 47 (d.1 47 (by decide)).1 (d.1 47 (by decide)).2
  have a1 : S1.1 48 = S.1 48 := hf.2.1 48 (d.1 48 (by decide)).1 (d.1 48 (by decide)).2
  have b0 : S1.1 46 0 = S.1 46 0 := hf.2.2 46 0 (d.2.1 (46, 0) (by decide)).1 (d.2.1 (46, 0) (by decide)).2
  have g0 : R1.1 167 = R.1 167 := hg.2.1 167 (d.2.2.1 167 (by decide)).1 (d.2.2.1 167 (by decide)).2
  have g1 : R1.1 168 = R.1 168 := hg.2.1 168 (d.2.2.1 168 (by decide)).1 (d.2.2.1 168 (by decide)).2
  have k0 : R1.1 129 65 = R.1 129 65 := hg.2.2 129 65 (d.2.2.2 (129, 65) (by decide)).1 (d.2.2.2 (129, 65) (by decide)).2
  unfold RelRd at h ⊢
  simp only [a0, a1, b0, g0, g1, k0]
  exact h
def RelLn (S R : w_S)  : Prop := R.1 129 114 = S.1 46 4 ∧ 0 ≤ S.1 46 4 ∧ S.1 46 4 ≤ 600 ∧ ∀ k : Nat, 1 ≤ k → (k : Int) ≤ S.1 46 4 → (R.1 205 k = S.1 50 k ∧ R.1 204 k = S.1 51 k ∧ R.1 206 k = S.1 52 k ∧ R.1 207 k = S.1 53 k ∧ R.1 208 k = S.1 54 k ∧ R.1 209 k = S.1 55 k ∧ R.1 210 k = S.1 56 k) ∧ 1 ≤ S.1 50 k ∧ S.1 50 k ≤ S.1 46 0 ∧ 1 ≤ S.1 51 k ∧ S.1 51 k ≤ S.1 62 3 ∧ 0 ≤ S.1 52 k ∧ S.1 52 k ≤ 51000 ∧ 0 ≤ S.1 53 k ∧ S.1 53 k ≤ 9 ∧ 0 ≤ S.1 54 k ∧ S.1 54 k ≤ 999 ∧ 0 ≤ S.1 55 k ∧ S.1 55 k ≤ 99999 ∧ (S.1 56 k = 0 ∨ S.1 56 k = 1)
theorem RelLn.fr {S R S1 R1 : w_S}  {L O L' O' : List Nat} {J J' : List (Nat × Nat)} (h : RelLn S R ) (hf : frm L O J S S1) (hg : frm L' O' J' R R1) (dd : (ckA L O [50, 51, 52, 53, 54, 55, 56] && (ckS L J [(46, 0), (46, 4), (62, 3)] && (ckA L' O' [204, 205, 206, 207, 208, 209, 210] && ckS L' J' [(129, 114)]))) = true) : RelLn S1 R1  := by
  have d := ck4 dd
  have a0 : S1.1 50 = S.1 50 := hf.2.1 50 (d.1 50 (by decide)).1 (d.1 50 (by decide)).2
  have a1 : S1.1 51 = S.1 51 := hf.2.1 51 (d.1 51 (by decide)).1 (d.1 51 (by decide)).2
  have a2 : S1.1 52 = S.1 52 := hf.2.1 52 (d.1 52 (by decide)).1 (d.1 52 (by decide)).2
  have a3 : S1.1 53 = S.1 53 := hf.2.1 53 (d.1 53 (by decide)).1 (d.1 53 (by decide)).2
  have a4 : S1.1 54 = S.1 54 := hf.2.1 54 (d.1 54 (by decide)).1 (d.1 54 (by decide)).2
  have a5 : S1.1 55 = S.1 55 := hf.2.1 55 (d.1 55 (by decide)).1 (d.1 55 (by decide)).2
  have a6 : S1.1 56 = S.1 56 := hf.2.1 56 (d.1 56 (by decide)).1 (d.1 56 (by decide)).2
  have b0 : S1.1 46 0 = S.1 46 0 := hf.2.2 46 0 (d.2.1 (46, 0) (by decide)).1 (d.2.1 (46, 0) (by decide)).2
  have b1 : S1.1 46 4 = S.1 46 4 := hf.2.2 46 4 (d.2.1 (46, 4) (by decide)).1 (d.2.1 (46, 4) (by decide)).2
  have b2 : S1.1 62 3 = S.1 62 3 := hf.2.2 62 3 (d.2.1 (62, 3) (by decide)).1 (d.2.1 (62, 3) (by decide)).2
  have g0 : R1.1 204 = R.1 204 := hg.2.1 204 (d.2.2.1 204 (by decide)).1 (d.2.2.1 204 (by decide)).2
  have g1 : R1.1 205 = R.1 205 := hg.2.1 205 (d.2.2.1 205 (by decide)).1 (d.2.2.1 205 (by decide)).2
  have g2 : R1.1 206 = R.1 206 := hg.2.1 206 (d.2.2.1 206 (by decide)).1 (d.2.2.1 206 (by decide)).2
  have g3 : R1.1 207 = R.1 207 := hg.2.1 207 (d.2.2.1 207 (by decide)).1 (d.2.2.1 207 (by decide)).2
  have g4 : R1.1 208 = R.1 208 := hg.2.1 208 (d.2.2.1 208 (by decide)).1 (d.2.2.1 208 (by decide)).2
  have g5 : R1.1 209 = R.1 209 := hg.2.1 209 (d.2.2.1 209 (by decide)).1 (d.2.2.1 209 (by decide)).2
  have g6 : R1.1 210 = R.1 210 := hg.2.1 210 (d.2.2.1 210 (by decide)).1 (d.2.2.1 210 (by decide)).2
  have k0 : R1.1 129 114 = R.1 129 114 := hg.2.2 129 114 (d.2.2.2 (129, 114) (by decide)).1 (d.2.2.2 (129, 114) (by decide)).2
  unfold RelLn at h ⊢
  simp only [a0, a1, a2, a3, a4, a5, a6, b0, b1, b2, g0, g1, g2, g3, g4, g5, g6, k0]
  exact h
def RelBk (S R : w_S)  : Prop := R.1 129 87 = S.1 46 12 ∧ 0 ≤ S.1 46 12 ∧ S.1 46 12 ≤ 100 ∧ ∀ k : Nat, 1 ≤ k → (k : Int) ≤ S.1 46 12 → (R.1 186 k = S.1 57 k ∧ R.1 187 k = S.1 58 k ∧ R.1 188 k = S.1 59 k ∧ R.1 189 k = S.1 60 k ∧ R.1 190 k = S.1 61 k) ∧ 1 ≤ S.1 57 k ∧ S.1 57 k ≤ S.1 46 0 ∧ 1 ≤ S.1 58 k ∧ S.1 58 k ≤ S.1 62 3 ∧ 0 ≤ S.1 59 k ∧ S.1 59 k ≤ S.1 60 k ∧ S.1 60 k ≤ 50000 ∧ (S.1 61 k = 0 ∨ S.1 61 k = 1)
theorem RelBk.fr {S R S1 R1 : w_S}  {L O L' O' : List Nat} {J J' : List (Nat × Nat)} (h : RelBk S R ) (hf : frm L O J S S1) (hg : frm L' O' J' R R1) (dd : (ckA L O [57, 58, 59, 60, 61] && (ckS L J [(46, 0), (46, 12), (62, 3)] && (ckA L' O' [186, 187, 188, 189, 190] && ckS L' J' [(129, 87)]))) = true) : RelBk S1 R1  := by
  have d := ck4 dd
  have a0 : S1.1 57 = S.1 57 := hf.2.1 57 (d.1 57 (by decide)).1 (d.1 57 (by decide)).2
  have a1 : S1.1 58 = S.1 58 := hf.2.1 58 (d.1 58 (by decide)).1 (d.1 58 (by decide)).2
  have a2 : S1.1 59 = S.1 59 := hf.2.1 59 (d.1 59 (by decide)).1 (d.1 59 (by decide)).2
  have a3 : S1.1 60 = S.1 60 := hf.2.1 60 (d.1 60 (by decide)).1 (d.1 60 (by decide)).2
  have a4 : S1.1 61 = S.1 61 := hf.2.1 61 (d.1 61 (by decide)).1 (d.1 61 (by decide)).2
  have b0 : S1.1 46 0 = S.1 46 0 := hf.2.2 46 0 (d.2.1 (46, 0) (by decide)).1 (d.2.1 (46, 0) (by decide)).2
  have b1 : S1.1 46 12 = S.1 46 12 := hf.2.2 46 12 (d.2.1 (46, 12) (by decide)).1 (d.2.1 (46, 12) (by decide)).2
  have b2 : S1.1 62 3 = S.1 62 3 := hf.2.2 62 3 (d.2.1 (62, 3) (by decide)).1 (d.2.1 (62, 3) (by decide)).2
  have g0 : R1.1 186 = R.1 186 := hg.2.1 186 (d.2.2.1 186 (by decide)).1 (d.2.2.1 186 (by decide)).2
  have g1 : R1.1 187 = R.1 187 := hg.2.1 187 (d.2.2.1 187 (by decide)).1 (d.2.2.1 187 (by decide)).2
  have g2 : R1.1 188 = R.1 188 := hg.2.1 188 (d.2.2.1 188 (by decide)).1 (d.2.2.1 188 (by decide)).2
  have g3 : R1.1 189 = R.1 189 := hg.2.1 189 (d.2.2.1 189 (by decide)).1 (d.2.2.1 189 (by decide)).2
  have g4 : R1.1 190 = R.1 190 := hg.2.1 190 (d.2.2.1 190 (by decide)).1 (d.2.2.1 190 (by decide)).2
  have k0 : R1.1 129 87 = R.1 129 87 := hg.2.2 129 87 (d.2.2.2 (129, 87) (by decide)).1 (d.2.2.2 (129, 87) (by decide)).2
  unfold RelBk at h ⊢
  simp only [a0, a1, a2, a3, a4, b0, b1, b2, g0, g1, g2, g3, g4, k0]
  exact h
def RelCs (S R : w_S)  : Prop := R.1 129 68 = S.1 62 3 ∧ 0 ≤ S.1 62 3 ∧ S.1 62 3 ≤ 200 ∧ ∀ k : Nat, 1 ≤ k → (k : Int) ≤ S.1 62 3 → R.1 169 k = S.1 63 k ∧ 1 ≤ S.1 63 k ∧ S.1 63 k ≤ S.1 3 0 ∧ R.1 170 k = S.1 64 k ∧ 0 ≤ S.1 64 k ∧ S.1 64 k ≤ 4 ∧ R.1 176 k = S.1 70 k ∧ 0 ≤ S.1 70 k ∧ S.1 70 k ≤ 3
theorem RelCs.fr {S R S1 R1 : w_S}  {L O L' O' : List Nat} {J J' : List (Nat × Nat)} (h : RelCs S R ) (hf : frm L O J S S1) (hg : frm L' O' J' R R1) (dd : (ckA L O [63, 64, 70] && (ckS L J [(62, 3), (3, 0)] && (ckA L' O' [169, 170, 176] && ckS L' J' [(129, 68)]))) = true) : RelCs S1 R1  := by
  have d := ck4 dd
  have a0 : S1.1 63 = S.1 63 := hf.2.1 63 (d.1 63 (by decide)).1 (d.1 63 (by decide)).2
  have a1 : S1.1 64 = S.1 64 := hf.2.1 64 (d.1 64 (by decide)).1 (d.1 64 (by decide)).2
  have a2 : S1.1 70 = S.1 70 := hf.2.1 70 (d.1 70 (by decide)).1 (d.1 70 (by decide)).2
  have b0 : S1.1 62 3 = S.1 62 3 := hf.2.2 62 3 (d.2.1 (62, 3) (by decide)).1 (d.2.1 (62, 3) (by decide)).2
  have b1 : S1.1 3 0 = S.1 3 0 := hf.2.2 3 0 (d.2.1 (3, 0) (by decide)).1 (d.2.1 (3, 0) (by decide)).2
  have g0 : R1.1 169 = R.1 169 := hg.2.1 169 (d.2.2.1 169 (by decide)).1 (d.2.2.1 169 (by decide)).2
  have g1 : R1.1 170 = R.1 170 := hg.2.1 170 (d.2.2.1 170 (by decide)).1 (d.2.2.1 170 (by decide)).2
  have g2 : R1.1 176 = R.1 176 := hg.2.1 176 (d.2.2.1 176 (by decide)).1 (d.2.2.1 176 (by decide)).2
  have k0 : R1.1 129 68 = R.1 129 68 := hg.2.2 129 68 (d.2.2.2 (129, 68) (by decide)).1 (d.2.2.2 (129, 68) (by decide)).2
  unfold RelCs at h ⊢
  simp only [a0, a1, a2, b0, b1, g0, g1, g2, k0]
  exact h
def RelCd (S R : w_S) (x : Int) : Prop := ∀ k : Nat, 1 ≤ k → (k : Int) ≤ S.1 62 3 → (k : Int) ≠ x → (R.1 171 k = S.1 65 k ∧ R.1 172 k = S.1 66 k ∧ R.1 173 k = S.1 67 k ∧ R.1 174 k = S.1 68 k ∧ R.1 175 k = S.1 69 k ∧ (S.1 65 k = 4 → R.1 177 k = S.1 71 k ∧ 0 ≤ S.1 71 k ∧ S.1 71 k ≤ 3)) ∧ 0 ≤ S.1 65 k ∧ S.1 65 k ≤ 4 ∧ 0 ≤ S.1 66 k ∧ S.1 66 k ≤ S.1 46 0 ∧ 0 ≤ S.1 69 k ∧ S.1 69 k ≤ 3 ∧ -1 ≤ S.1 68 k ∧ S.1 68 k ≤ 60000 ∧ (S.1 65 k = 1 → 1 ≤ S.1 66 k ∧ 1 ≤ S.1 67 k ∧ S.1 67 k ≤ S.1 46 4 ∧ S.1 51 (S.1 67 k).toNat = k ∧ S.1 50 (S.1 67 k).toNat = S.1 66 k ∧ S.1 56 (S.1 67 k).toNat = 0) ∧ (S.1 65 k = 2 → 1 ≤ S.1 66 k) ∧ (S.1 65 k = 0 ∨ S.1 65 k = 3 → S.1 66 k = 0 ∧ S.1 68 k = -1) ∧ (S.1 65 k ≠ 1 → S.1 67 k = 0)
theorem RelCd.fr {S R S1 R1 : w_S} {x : Int} {L O L' O' : List Nat} {J J' : List (Nat × Nat)} (h : RelCd S R x) (hf : frm L O J S S1) (hg : frm L' O' J' R R1) (dd : (ckA L O [65, 66, 67, 68, 69, 71, 50, 51, 56] && (ckS L J [(62, 3), (46, 0), (46, 4)] && (ckA L' O' [171, 172, 173, 174, 175, 177] && ckS L' J' []))) = true) : RelCd S1 R1 x := by
  have d := ck4 dd
  have a0 : S1.1 65 = S.1 65 := hf.2.1 65 (d.1 65 (by decide)).1 (d.1 65 (by decide)).2
  have a1 : S1.1 66 = S.1 66 := hf.2.1 66 (d.1 66 (by decide)).1 (d.1 66 (by decide)).2
  have a2 : S1.1 67 = S.1 67 := hf.2.1 67 (d.1 67 (by decide)).1 (d.1 67 (by decide)).2
  have a3 : S1.1 68 = S.1 68 := hf.2.1 68 (d.1 68 (by decide)).1 (d.1 68 (by decide)).2
  have a4 : S1.1 69 = S.1 69 := hf.2.1 69 (d.1 69 (by decide)).1 (d.1 69 (by decide)).2
  have a5 : S1.1 71 = S.1 71 := hf.2.1 71 (d.1 71 (by decide)).1 (d.1 71 (by decide)).2
  have a6 : S1.1 50 = S.1 50 := hf.2.1 50 (d.1 50 (by decide)).1 (d.1 50 (by decide)).2
  have a7 : S1.1 51 = S.1 51 := hf.2.1 51 (d.1 51 (by decide)).1 (d.1 51 (by decide)).2
  have a8 : S1.1 56 = S.1 56 := hf.2.1 56 (d.1 56 (by decide)).1 (d.1 56 (by decide)).2
  have b0 : S1.1 62 3 = S.1 62 3 := hf.2.2 62 3 (d.2.1 (62, 3) (by decide)).1 (d.2.1 (62, 3) (by decide)).2
  have b1 : S1.1 46 0 = S.1 46 0 := hf.2.2 46 0 (d.2.1 (46, 0) (by decide)).1 (d.2.1 (46, 0) (by decide)).2
  have b2 : S1.1 46 4 = S.1 46 4 := hf.2.2 46 4 (d.2.1 (46, 4) (by decide)).1 (d.2.1 (46, 4) (by decide)).2
  have g0 : R1.1 171 = R.1 171 := hg.2.1 171 (d.2.2.1 171 (by decide)).1 (d.2.2.1 171 (by decide)).2
  have g1 : R1.1 172 = R.1 172 := hg.2.1 172 (d.2.2.1 172 (by decide)).1 (d.2.2.1 172 (by decide)).2
  have g2 : R1.1 173 = R.1 173 := hg.2.1 173 (d.2.2.1 173 (by decide)).1 (d.2.2.1 173 (by decide)).2
  have g3 : R1.1 174 = R.1 174 := hg.2.1 174 (d.2.2.1 174 (by decide)).1 (d.2.2.1 174 (by decide)).2
  have g4 : R1.1 175 = R.1 175 := hg.2.1 175 (d.2.2.1 175 (by decide)).1 (d.2.2.1 175 (by decide)).2
  have g5 : R1.1 177 = R.1 177 := hg.2.1 177 (d.2.2.1 177 (by decide)).1 (d.2.2.1 177 (by decide)).2
  unfold RelCd at h ⊢
  simp only [a0, a1, a2, a3, a4, a5, a6, a7, a8, b0, b1, b2, g0, g1, g2, g3, g4, g5]
  exact h
def RelLo (S R : w_S) (x : Int) : Prop := ∀ l : Nat, 1 ≤ l → (l : Int) ≤ S.1 46 4 → S.1 56 l = 0 → S.1 51 l ≠ x ∧ S.1 65 (S.1 51 l).toNat = 1 ∧ S.1 67 (S.1 51 l).toNat = l
theorem RelLo.fr {S R S1 R1 : w_S} {x : Int} {L O L' O' : List Nat} {J J' : List (Nat × Nat)} (h : RelLo S R x) (hf : frm L O J S S1) (hg : frm L' O' J' R R1) (dd : (ckA L O [51, 56, 65, 67] && (ckS L J [(46, 4)] && (ckA L' O' [] && ckS L' J' []))) = true) : RelLo S1 R1 x := by
  have d := ck4 dd
  have a0 : S1.1 51 = S.1 51 := hf.2.1 51 (d.1 51 (by decide)).1 (d.1 51 (by decide)).2
  have a1 : S1.1 56 = S.1 56 := hf.2.1 56 (d.1 56 (by decide)).1 (d.1 56 (by decide)).2
  have a2 : S1.1 65 = S.1 65 := hf.2.1 65 (d.1 65 (by decide)).1 (d.1 65 (by decide)).2
  have a3 : S1.1 67 = S.1 67 := hf.2.1 67 (d.1 67 (by decide)).1 (d.1 67 (by decide)).2
  have b0 : S1.1 46 4 = S.1 46 4 := hf.2.2 46 4 (d.2.1 (46, 4) (by decide)).1 (d.2.1 (46, 4) (by decide)).2
  unfold RelLo at h ⊢
  simp only [a0, a1, a2, a3, b0]
  exact h
def RelCl (S R : w_S)  : Prop := R.1 129 125 = S.1 27 4 ∧ 0 ≤ S.1 27 4 ∧ S.1 27 4 ≤ 60 ∧ (∀ k : Nat, (k : Int) < S.1 27 4 → R.1 213 k = S.1 28 k ∧ 0 ≤ S.1 28 k ∧ S.1 28 k ≤ 50000) ∧ ∀ i j : Nat, i < j → (j : Int) < S.1 27 4 → S.1 28 i ≠ S.1 28 j
theorem RelCl.fr {S R S1 R1 : w_S}  {L O L' O' : List Nat} {J J' : List (Nat × Nat)} (h : RelCl S R ) (hf : frm L O J S S1) (hg : frm L' O' J' R R1) (dd : (ckA L O [28] && (ckS L J [(27, 4)] && (ckA L' O' [213] && ckS L' J' [(129, 125)]))) = true) : RelCl S1 R1  := by
  have d := ck4 dd
  have a0 : S1.1 28 = S.1 28 := hf.2.1 28 (d.1 28 (by decide)).1 (d.1 28 (by decide)).2
  have b0 : S1.1 27 4 = S.1 27 4 := hf.2.2 27 4 (d.2.1 (27, 4) (by decide)).1 (d.2.1 (27, 4) (by decide)).2
  have g0 : R1.1 213 = R.1 213 := hg.2.1 213 (d.2.2.1 213 (by decide)).1 (d.2.2.1 213 (by decide)).2
  have k0 : R1.1 129 125 = R.1 129 125 := hg.2.2 129 125 (d.2.2.2 (129, 125) (by decide)).1 (d.2.2.2 (129, 125) (by decide)).2
  unfold RelCl at h ⊢
  simp only [a0, b0, g0, k0]
  exact h
def RelRu (S R : w_S)  : Prop := ∃ n : Nat, n ≤ 20 ∧ S.1 35 0 = n ∧ R.1 129 122 = n ∧ (∀ j, j < 7 * n → R.1 211 j = S.1 30 j) ∧ ∀ i, i < n → 0 ≤ S.1 30 (7 * i) ∧ S.1 30 (7 * i) ≤ 5 ∧ 0 ≤ S.1 30 (7 * i + 1) ∧ S.1 30 (7 * i + 1) ≤ 5 ∧ 1 ≤ S.1 30 (7 * i + 2) ∧ S.1 30 (7 * i + 2) ≤ 365 ∧ 0 ≤ S.1 30 (7 * i + 3) ∧ S.1 30 (7 * i + 3) ≤ 9 ∧ 0 ≤ S.1 30 (7 * i + 4) ∧ S.1 30 (7 * i + 4) ≤ 99 ∧ 0 ≤ S.1 30 (7 * i + 5) ∧ S.1 30 (7 * i + 5) ≤ 999 ∧ 0 ≤ S.1 30 (7 * i + 6) ∧ S.1 30 (7 * i + 6) ≤ 99999
theorem RelRu.fr {S R S1 R1 : w_S}  {L O L' O' : List Nat} {J J' : List (Nat × Nat)} (h : RelRu S R ) (hf : frm L O J S S1) (hg : frm L' O' J' R R1) (dd : (ckA L O [30] && (ckS L J [(35, 0)] && (ckA L' O' [211] && ckS L' J' [(129, 122)]))) = true) : RelRu S1 R1  := by
  have d := ck4 dd
  have a0 : S1.1 30 = S.1 30 := hf.2.1 30 (d.1 30 (by decide)).1 (d.1 30 (by decide)).2
  have b0 : S1.1 35 0 = S.1 35 0 := hf.2.2 35 0 (d.2.1 (35, 0) (by decide)).1 (d.2.1 (35, 0) (by decide)).2
  have g0 : R1.1 211 = R.1 211 := hg.2.1 211 (d.2.2.1 211 (by decide)).1 (d.2.2.1 211 (by decide)).2
  have k0 : R1.1 129 122 = R.1 129 122 := hg.2.2 129 122 (d.2.2.2 (129, 122) (by decide)).1 (d.2.2.2 (129, 122) (by decide)).2
  unfold RelRu at h ⊢
  simp only [a0, b0, g0, k0]
  exact h
/-- the whole of lending -/
def RelL (S R : w_S) (t : Int) : Prop := RelT S R ∧ RelP S R ∧ RelQ S R ∧ RelG S R ∧ RelRd S R t ∧ RelLn S R ∧ RelBk S R ∧ RelCs S R ∧ RelCd S R 0 ∧ RelLo S R 0 ∧ RelCl S R ∧ RelRu S R
theorem RelRd.up {S R : w_S} {t : Int} (h : RelRd S R t) : RelRd S R (t + 1) := by
  obtain ⟨h1, h2, h3, h4⟩ := h
  refine ⟨h1, h2, h3, fun k a b => ?_⟩
  have := h4 k a b
  omega
abbrev LC : List Nat := [28, 45, 47, 48, 49, 50, 51, 52, 53, 54, 55, 56, 57, 58, 59, 60, 61, 63, 64, 65, 66, 67, 68, 69, 70, 71, 73, 74, 75]
abbrev LO : List Nat := [27, 46, 62]
abbrev LJ : List (Nat × Nat) := [(27, 4), (46, 0), (46, 4), (46, 12), (62, 14)]
abbrev LCr : List Nat := [167, 168, 169, 170, 171, 172, 173, 174, 175, 176, 177, 178, 179, 185, 186, 187, 188, 189, 190, 204, 205, 206, 207, 208, 209, 210, 213, 214, 215, 216]
abbrev LOr : List Nat := [129]
abbrev LJr : List (Nat × Nat) := [(129, 65), (129, 87), (129, 114), (129, 125), (129, 127)]
/-- what a lending act that is not refused leaves -/
def Ql (S R : w_S) (t : Int) (S1 R1 : w_S) : Prop := frm LC LO LJ S S1 ∧ frm LCr LOr LJr R R1 ∧ RelL S1 R1 (t + 1)
end
section
-- 85
theorem t_reader {e : w_E} {N : Nat} {S R : w_S} {x1 t : Int} (h : RelL S R t) (ht : 0 ≤ t) : Ok (E_Readers_addReader e N x1 S) (fun y S1 => Ok (E_R_doReader e N x1 R) (fun y' R1 => Pa S R (fun _ => Ql S R t) y S1 y' R1)) := by
  obtain ⟨hT, hP, hQ, hG, hRd, hLn, hBk, hCs, hCd, hLo, hCl, hRu⟩ := h
  obtain ⟨r1, r2, r3, r4⟩ := id hRd
  unfold E_Readers_addReader E_R_doReader
  repeat' (first | with_reducible refine ok_nb (by omega) ?_ | with_reducible refine ok_ib (by omega) ?_ | with_reducible refine ok_t (by omega) ?_ | with_reducible refine ok_e (by omega) ?_ | with_reducible refine ok_if (fun h => ?_) (fun h => ?_) | with_reducible refine ok_s ?_ | with_reducible refine ok_b ?_)
  any_goals exact ⟨rfl, Or.inl ⟨by omega, rfl, rfl⟩⟩
  rw [r1]
  have hf : frm [47, 48, 49] [46] [(46, 0)] S (w_put (w_put (w_put (w_put S 46 0 (S.1 46 0 + 1)) 47 (S.1 46 0 + 1).toNat x1) 48 (S.1 46 0 + 1).toNat 0) 49 (S.1 46 0 + 1).toNat 0) := by repeat (first | exact frm.refl _ _ _ _ | refine frm.put ?_ rfl | refine frm.puto ?_ rfl rfl | refine frm.arr ?_ rfl)
  have hg : frm [167, 168, 178] [129] [(129, 65)] R (w_put (w_put (w_put (w_put R 129 65 (S.1 46 0 + 1)) 167 (S.1 46 0 + 1).toNat x1) 168 (S.1 46 0 + 1).toNat 0) 178 (S.1 46 0 + 1).toNat 0) := by repeat (first | exact frm.refl _ _ _ _ | refine frm.put ?_ rfl | refine frm.puto ?_ rfl rfl | refine frm.arr ?_ rfl)
  refine ⟨rfl, Or.inr ⟨by omega, hf.weak rfl, hg.weak rfl, hT.fr hf hg rfl, ?_, ?_, hG.fr hf hg rfl, ?_, ?_, ?_, hCs.fr hf hg rfl, ?_, hLo.fr hf hg rfl, hCl.fr hf hg rfl, hRu.fr hf hg rfl⟩⟩
  · obtain ⟨p1, p2, p3⟩ := hP
    simp only [RelP, w_put_r, w_arr_r, reduceIte, Nat.reduceEqDiff, pt_at]
    refine ⟨by omega, by omega, fun k a b => ?_⟩
    have := p3 k a
    split <;> omega
  · obtain ⟨q1, q2, q3, q4, q5, q6⟩ := hQ
    refine ⟨?_, ?_, ?_, ?_, ?_, ?_⟩
    · simp only [w_put_r, w_arr_r, reduceIte, Nat.reduceEqDiff, pt_at]; exact q1
    · simp only [w_put_r, w_arr_r, reduceIte, Nat.reduceEqDiff, pt_at]; exact q2
    · simp only [w_put_r, w_arr_r, reduceIte, Nat.reduceEqDiff, pt_at]; exact q3
    · rw [qcong (c := S.1), rcong (c := R.1)]
      · exact q4
      all_goals simp only [w_put_r, reduceIte, Nat.reduceEqDiff, pt_at]
    · rw [rcong (c := R.1)]
      · exact q5
      all_goals simp only [w_put_r, reduceIte, Nat.reduceEqDiff, pt_at]
    · rw [qcong (c := S.1)]
      · intro y hy
        have := q6 y hy
        simp only [w_put_r, w_arr_r, reduceIte, Nat.reduceEqDiff, pt_at]
        omega
      all_goals simp only [w_put_r, reduceIte, Nat.reduceEqDiff, pt_at]
  · simp only [RelRd, w_put_r, w_arr_r, reduceIte, Nat.reduceEqDiff, pt_at]
    refine ⟨trivial, by omega, by omega, fun k a b => ?_⟩
    have := r4 k a
    split <;> omega
  · obtain ⟨l1, l2, l3, l4⟩ := hLn
    simp only [RelLn, w_put_r, w_arr_r, reduceIte, Nat.reduceEqDiff, pt_at]
    refine ⟨l1, l2, l3, fun k a b => ?_⟩
    obtain ⟨m1, m2, m3, m4⟩ := l4 k a b
    exact ⟨m1, m2, by omega, m4⟩
  · obtain ⟨l1, l2, l3, l4⟩ := hBk
    simp only [RelBk, w_put_r, w_arr_r, reduceIte, Nat.reduceEqDiff, pt_at]
    refine ⟨l1, l2, l3, fun k a b => ?_⟩
    obtain ⟨m1, m2, m3, m4⟩ := l4 k a b
    exact ⟨m1, m2, by omega, m4⟩
  · simp only [RelCd, w_put_r, w_arr_r, reduceIte, Nat.reduceEqDiff, pt_at]
    intro k a b c
    obtain ⟨m1, m2, m3, m4, m5, m6⟩ := hCd k a b c
    exact ⟨m1, m2, m3, m4, by omega, m6⟩
theorem t_pickup {e : w_E} {N : Nat} {S R : w_S} {x1 x2 t : Int} (h : RelL S R t) (ht : 0 ≤ t) : Ok (E_Readers_setPickup e N x1 x2 S) (fun y S1 => Ok (E_R_doPickup e N x1 x2 R) (fun y' R1 => Pa S R (fun _ => Ql S R t) y S1 y' R1)) := by
  obtain ⟨hT, hP, hQ, hG, hRd, hLn, hBk, hCs, hCd, hLo, hCl, hRu⟩ := h
  obtain ⟨r1, r2, r3, r4⟩ := id hRd
  unfold E_Readers_setPickup E_R_doPickup
  repeat' (first | with_reducible refine ok_nb (by omega) ?_ | with_reducible refine ok_ib (by omega) ?_ | with_reducible refine ok_t (by omega) ?_ | with_reducible refine ok_e (by omega) ?_ | with_reducible refine ok_if (fun h => ?_) (fun h => ?_) | with_reducible refine ok_s ?_ | with_reducible refine ok_b ?_)
  any_goals exact ⟨rfl, Or.inl ⟨by omega, rfl, rfl⟩⟩
  have hf : frm [49] [] [] S (w_put S 49 x1.toNat x2) := by repeat (first | exact frm.refl _ _ _ _ | refine frm.put ?_ rfl | refine frm.puto ?_ rfl rfl | refine frm.arr ?_ rfl)
  have hg : frm [178] [] [] R (w_put R 178 x1.toNat x2) := by repeat (first | exact frm.refl _ _ _ _ | refine frm.put ?_ rfl | refine frm.puto ?_ rfl rfl | refine frm.arr ?_ rfl)
  refine ⟨rfl, Or.inr ⟨by omega, hf.weak rfl, hg.weak rfl, hT.fr hf hg rfl, ?_, hQ.fr hf hg rfl, hG.fr hf hg rfl, (hRd.fr hf hg rfl).up, hLn.fr hf hg rfl, hBk.fr hf hg rfl, hCs.fr hf hg rfl, hCd.fr hf hg rfl, hLo.fr hf hg rfl, hCl.fr hf hg rfl, hRu.fr hf hg rfl⟩⟩
  obtain ⟨p1, p2, p3⟩ := hP
  simp only [RelP, w_put_r, w_arr_r, reduceIte, Nat.reduceEqDiff, pt_at]
  refine ⟨by omega, by omega, fun k a b => ?_⟩
  have := p3 k a
  split <;> omega
/-- pay: the class tells 1 in place of what is owed -/
theorem t_pay {e : w_E} {N : Nat} {S R : w_S} {x1 x2 t : Int} (h : RelL S R t) (ht : 0 ≤ t) (ht2 : t ≤ 512) : Ok (E_Readers_takeMoney e N x1 x2 S) (fun y S1 => Ok (E_R_doPay e N x1 x2 R) (fun y' R1 => (y = -1 ∧ y' = -1000000 ∧ ¬ (1 ≤ x1 ∧ x1 ≤ S.1 46 0) ∧ S1 = S ∧ R1 = w_put R 129 4 1) ∨ (y = -2 ∧ y' = -1000001 ∧ S1 = S ∧ R1 = w_put R 129 4 1) ∨ (y = 1 ∧ 1 ≤ x1 ∧ x1 ≤ S.1 46 0 ∧ y' = S1.1 48 x1.toNat ∧ Ql S R t S1 R1))) := by
  obtain ⟨hT, hP, hQ, hG, hRd, hLn, hBk, hCs, hCd, hLo, hCl, hRu⟩ := h
  obtain ⟨r1, r2, r3, r4⟩ := id hRd
  have a1 : 1 ≤ x1 → x1 ≤ S.1 46 0 → _ := fun h1 h2 => r4 x1.toNat (by omega) (by omega)
  unfold E_Readers_takeMoney E_R_doPay
  repeat' (first | with_reducible refine ok_nb (by omega) ?_ | with_reducible refine ok_ib (by omega) ?_ | with_reducible refine ok_t (by omega) ?_ | with_reducible refine ok_e (by omega) ?_ | with_reducible refine ok_if (fun h => ?_) (fun h => ?_) | with_reducible refine ok_s ?_ | with_reducible refine ok_b ?_)
  any_goals exact Or.inl ⟨rfl, rfl, by omega, rfl, rfl⟩
  any_goals exact Or.inr (Or.inl ⟨rfl, rfl, rfl, rfl⟩)
  have a2 := a1 (by omega) (by omega)
  rw [a2.2.2.2.1]
  have hf : frm [48] [] [] S (w_put S 48 x1.toNat (S.1 48 x1.toNat - x2)) := by repeat (first | exact frm.refl _ _ _ _ | refine frm.put ?_ rfl | refine frm.puto ?_ rfl rfl | refine frm.arr ?_ rfl)
  have hg : frm [168] [] [] R (w_put R 168 x1.toNat (S.1 48 x1.toNat - x2)) := by repeat (first | exact frm.refl _ _ _ _ | refine frm.put ?_ rfl | refine frm.puto ?_ rfl rfl | refine frm.arr ?_ rfl)
  refine Or.inr (Or.inr ⟨rfl, by omega, by omega, by simp only [w_put_r, w_arr_r, reduceIte, Nat.reduceEqDiff, pt_at], hf.weak rfl, hg.weak rfl, hT.fr hf hg rfl, hP.fr hf hg rfl, hQ.fr hf hg rfl, hG.fr hf hg rfl, ?_, hLn.fr hf hg rfl, hBk.fr hf hg rfl, hCs.fr hf hg rfl, hCd.fr hf hg rfl, hLo.fr hf hg rfl, hCl.fr hf hg rfl, hRu.fr hf hg rfl⟩)
  simp only [RelRd, w_put_r, w_arr_r, reduceIte, Nat.reduceEqDiff, pt_at]
  refine ⟨r1, r2, r3, fun k a b => ?_⟩
  have := r4 k a b
  split <;> omega
theorem x_closedBetween {e : w_E} {N : Nat} {S : w_S} {x1 x2 : Int} (hN : 1000 ≤ N) (h0 : 0 ≤ S.1 27 4 ∧ S.1 27 4 ≤ 60) : E_RuleBook_closedBetween e N x1 x2 S = some (cnt (fun j => decide (x1 < S.1 28 j) && decide (S.1 28 j ≤ x2)) 0 (S.1 27 4).toNat, S) := by
  have h := ok_eq (l_closedBetween (e := e) (N := N) (x1 := x1) (x2 := x2) h0 (S.1 27 4).toNat N 0 0 (by omega) (by omega) (by omega) (by omega) (by omega))
  rw [Int.zero_add] at h
  exact h
theorem x_isShut {e : w_E} {N : Nat} {R : w_S} {x1 : Int} (hN : 1000 ≤ N) (h0 : 0 ≤ R.1 129 125 ∧ R.1 129 125 ≤ 60) : E_R_isShut e N x1 R = some (bi (anyb (fun j => decide (R.1 213 j = x1)) 0 (R.1 129 125).toNat), R) := by
  have h := ok_eq (l_isShut (e := e) (N := N) (x1 := x1) h0 (R.1 129 125).toNat N 0 0 (by omega) (by omega) (by omega) (Or.inl rfl))
  exact h
/-- a day is closed to both or to none -/
theorem shut_rel {S R : w_S} (h : RelCl S R) (d : Int) : (0 < cnt (fun j => decide (d - 1 < S.1 28 j) && decide (S.1 28 j ≤ d)) 0 (S.1 27 4).toNat) = (anyb (fun j => decide (R.1 213 j = d)) 0 (R.1 129 125).toNat = true) := by
  obtain ⟨h1, h2, h3, h4, h5⟩ := h
  rw [cnt_pos, h1]
  congr 1
  refine anyb_congr _ _ (fun k a b => ?_)
  rw [(h4 k (by omega)).1, Bool.eq_iff_iff]
  simp only [Bool.and_eq_true, decide_eq_true_eq]
  omega
theorem bi_1 {b : Bool} : (bi b = 0) = (b = false) := by cases b <;> simp [bi]
theorem t_closed {e : w_E} {N : Nat} {S R : w_S} {x1 t : Int} (hN : 1000 ≤ N) (h : RelL S R t) (ht : 0 ≤ t) : Ok (E_RuleBook_closeDay e N x1 S) (fun y S1 => Ok (E_R_doClosed e N x1 R) (fun y' R1 => Pa S R (fun _ => Ql S R t) y S1 y' R1)) := by
  obtain ⟨hT, hP, hQ, hG, hRd, hLn, hBk, hCs, hCd, hLo, hCl, hRu⟩ := h
  obtain ⟨c1, c2, c3, c4, c5⟩ := id hCl
  have key := shut_rel hCl x1
  have k1 := x_closedBetween (e := e) (N := N) (S := S) (x1 := x1 - 1) (x2 := x1) hN (by omega)
  have k2 := x_isShut (e := e) (N := N) (R := R) (x1 := x1) hN (by omega)
  have key2 : (bi (anyb (fun j => decide (R.1 213 j = x1)) 0 (R.1 129 125).toNat) = 0) = (anyb (fun j => decide (R.1 213 j = x1)) 0 (R.1 129 125).toNat = false) := bi_1
  unfold E_RuleBook_closeDay E_R_doClosed
  by_cases hs : anyb (fun j => decide (R.1 213 j = x1)) 0 (R.1 129 125).toNat = true
  · have b1 : ¬ (bi (anyb (fun j => decide (R.1 213 j = x1)) 0 (R.1 129 125).toNat) = 0) := by rw [key2, hs]; decide
    have b2 : 0 < cnt (fun j => decide (x1 - 1 < S.1 28 j) && decide (S.1 28 j ≤ x1)) 0 (S.1 27 4).toNat := by rw [key]; exact hs
    repeat' (first | (with_reducible refine ok_of k1 ?_; dsimp only) | (with_reducible refine ok_of k2 ?_; dsimp only) | with_reducible refine ok_nb (by omega) ?_ | with_reducible refine ok_ib (by omega) ?_ | with_reducible refine ok_t (by omega) ?_ | with_reducible refine ok_e (by omega) ?_ | with_reducible refine ok_if (fun h => ?_) (fun h => ?_) | with_reducible refine ok_s ?_ | with_reducible refine ok_b ?_)
    all_goals exact ⟨rfl, Or.inl ⟨by omega, rfl, rfl⟩⟩
  · have b1 : bi (anyb (fun j => decide (R.1 213 j = x1)) 0 (R.1 129 125).toNat) = 0 := by rw [key2]; simpa using hs
    have b2 : ¬ 0 < cnt (fun j => decide (x1 - 1 < S.1 28 j) && decide (S.1 28 j ≤ x1)) 0 (S.1 27 4).toNat := by rw [key]; exact hs
    repeat' (first | (with_reducible refine ok_of k1 ?_; dsimp only) | (with_reducible refine ok_of k2 ?_; dsimp only) | with_reducible refine ok_nb (by omega) ?_ | with_reducible refine ok_ib (by omega) ?_ | with_reducible refine ok_t (by omega) ?_ | with_reducible refine ok_e (by omega) ?_ | with_reducible refine ok_if (fun h => ?_) (fun h => ?_) | with_reducible refine ok_s ?_ | with_reducible refine ok_b ?_)
    any_goals exact ⟨rfl, Or.inl ⟨by omega, rfl, rfl⟩⟩
    rw [c1]
    have hf : frm [28] [27] [(27, 4)] S (w_put (w_put S 28 (S.1 27 4).toNat x1) 27 4 (S.1 27 4 + 1)) := by repeat (first | exact frm.refl _ _ _ _ | refine frm.put ?_ rfl | refine frm.puto ?_ rfl rfl | refine frm.arr ?_ rfl)
    have hg : frm [213] [129] [(129, 125)] R (w_put (w_put R 213 (S.1 27 4).toNat x1) 129 125 (S.1 27 4 + 1)) := by repeat (first | exact frm.refl _ _ _ _ | refine frm.put ?_ rfl | refine frm.puto ?_ rfl rfl | refine frm.arr ?_ rfl)
    refine ⟨rfl, Or.inr ⟨by omega, hf.weak rfl, hg.weak rfl, hT.fr hf hg rfl, hP.fr hf hg rfl, hQ.fr hf hg rfl, hG.fr hf hg rfl, (hRd.fr hf hg rfl).up, hLn.fr hf hg rfl, hBk.fr hf hg rfl, hCs.fr hf hg rfl, hCd.fr hf hg rfl, hLo.fr hf hg rfl, ?_, hRu.fr hf hg rfl⟩⟩
    have hno : ∀ k : Nat, (k : Int) < S.1 27 4 → S.1 28 k ≠ x1 := by
      intro k hk he
      apply hs
      rw [anyb_true]
      exact ⟨k, by omega, by omega, by rw [decide_eq_true_eq, (c4 k hk).1]; exact he⟩
    simp only [RelCl, w_put_r, w_arr_r, reduceIte, Nat.reduceEqDiff, pt_at]
    refine ⟨trivial, by omega, by omega, fun k a => ?_, fun i j a b => ?_⟩
    · have := c4 k
      split <;> omega
    · have := c5 i j a
      have := hno i
      (repeat' split) <;> omega
theorem t_away {e : w_E} {N : Nat} {S R : w_S} {x1 t : Int} (h : RelL S R t) (ht : 0 ≤ t) : Ok (E_Lending_putAway e N x1 S) (fun y S1 => Ok (E_R_doAway e N x1 R) (fun y' R1 => Pa S R (fun _ => Ql S R t) y S1 y' R1)) := by
  obtain ⟨hT, hP, hQ, hG, hRd, hLn, hBk, hCs, hCd, hLo, hCl, hRu⟩ := h
  obtain ⟨c1, c2, c3, c4⟩ := id hCs
  have a1 : 1 ≤ x1 → x1 ≤ S.1 62 3 → _ := fun h1 h2 => hCd x1.toNat (by omega) (by omega) (by omega)
  by_cases hx : x1 < 1
  · unfold E_Lending_putAway E_R_doAway
    repeat' (first | with_reducible refine ok_nb (by omega) ?_ | with_reducible refine ok_ib (by omega) ?_ | with_reducible refine ok_t (by omega) ?_ | with_reducible refine ok_e (by omega) ?_ | with_reducible refine ok_if (fun h => ?_) (fun h => ?_) | with_reducible refine ok_s ?_ | with_reducible refine ok_b ?_)
    exact ⟨rfl, Or.inl ⟨by omega, rfl, rfl⟩⟩
  by_cases hy : S.1 62 3 < x1
  · unfold E_Lending_putAway E_R_doAway
    repeat' (first | with_reducible refine ok_nb (by omega) ?_ | with_reducible refine ok_ib (by omega) ?_ | with_reducible refine ok_t (by omega) ?_ | with_reducible refine ok_e (by omega) ?_ | with_reducible refine ok_if (fun h => ?_) (fun h => ?_) | with_reducible refine ok_s ?_ | with_reducible refine ok_b ?_)
    exact ⟨rfl, Or.inl ⟨by omega, rfl, rfl⟩⟩
  obtain ⟨⟨m1, m2, m3, m4, m5, m6⟩, m7, m8, m9, m10, m11, m12, m13, m14, m15, m16, m17, m18⟩ := a1 (by omega) (by omega)
  unfold E_Lending_putAway E_R_doAway
  repeat' (first | with_reducible refine ok_nb (by omega) ?_ | with_reducible refine ok_ib (by omega) ?_ | with_reducible refine ok_t (by omega) ?_ | with_reducible refine ok_e (by omega) ?_ | with_reducible refine ok_if (fun h => ?_) (fun h => ?_) | with_reducible refine ok_s ?_ | with_reducible refine ok_b ?_)
  any_goals exact ⟨rfl, Or.inl ⟨by omega, rfl, rfl⟩⟩
  have hf : frm [65, 66, 68] [] [] S (w_put (w_put (w_put S 65 x1.toNat 3) 66 x1.toNat 0) 68 x1.toNat (-1)) := by repeat (first | exact frm.refl _ _ _ _ | refine frm.put ?_ rfl | refine frm.puto ?_ rfl rfl | refine frm.arr ?_ rfl)
  have hg : frm [171] [] [] R (w_put R 171 x1.toNat 3) := by repeat (first | exact frm.refl _ _ _ _ | refine frm.put ?_ rfl | refine frm.puto ?_ rfl rfl | refine frm.arr ?_ rfl)
  refine ⟨rfl, Or.inr ⟨by omega, hf.weak rfl, hg.weak rfl, hT.fr hf hg rfl, hP.fr hf hg rfl, hQ.fr hf hg rfl, hG.fr hf hg rfl, (hRd.fr hf hg rfl).up, hLn.fr hf hg rfl, hBk.fr hf hg rfl, hCs.fr hf hg rfl, ?_, ?_, hCl.fr hf hg rfl, hRu.fr hf hg rfl⟩⟩
  · simp only [RelCd, w_put_r, w_arr_r, reduceIte, Nat.reduceEqDiff, pt_at]
    intro k a b c
    have hk := hCd k a b c
    by_cases e : k = x1.toNat
    · subst e
      (repeat' apply And.intro) <;> (try simp only [reduceIte]) <;> first | trivial | omega | (intro hh; omega)
    · simp only [if_neg e]
      exact hk
  · simp only [RelLo, w_put_r, w_arr_r, reduceIte, Nat.reduceEqDiff, pt_at]
    intro l a b c
    have := hLo l a b c
    by_cases e : (S.1 51 l).toNat = x1.toNat
    · rw [e] at this
      omega
    · rw [if_neg e]
      exact this
theorem t_unbook {e : w_E} {N : Nat} {S R : w_S} {x1 t : Int} (h : RelL S R t) (ht : 0 ≤ t) : Ok (E_Readers_takeBookingBack e N x1 (S.1 27 1) S) (fun y S1 => Ok (E_R_doUnbook e N x1 R) (fun y' R1 => Pa S R (fun _ => Ql S R t) y S1 y' R1)) := by
  obtain ⟨hT, hP, hQ, hG, hRd, hLn, hBk, hCs, hCd, hLo, hCl, hRu⟩ := h
  obtain ⟨b1, b2, b3, b4⟩ := id hBk
  have t3 := hT.2.2.1
  have a1 : 1 ≤ x1 → x1 ≤ S.1 46 12 → _ := fun h1 h2 => b4 x1.toNat (by omega) (by omega)
  unfold E_Readers_takeBookingBack E_R_doUnbook
  repeat' (first | with_reducible refine ok_nb (by omega) ?_ | with_reducible refine ok_ib (by omega) ?_ | with_reducible refine ok_t (by omega) ?_ | with_reducible refine ok_e (by omega) ?_ | with_reducible refine ok_if (fun h => ?_) (fun h => ?_) | with_reducible refine ok_s ?_ | with_reducible refine ok_b ?_)
  any_goals exact ⟨rfl, Or.inl ⟨by omega, rfl, rfl⟩⟩
  have hf : frm [61] [] [] S (w_put S 61 x1.toNat 1) := by repeat (first | exact frm.refl _ _ _ _ | refine frm.put ?_ rfl | refine frm.puto ?_ rfl rfl | refine frm.arr ?_ rfl)
  have hg : frm [190] [] [] R (w_put R 190 x1.toNat 1) := by repeat (first | exact frm.refl _ _ _ _ | refine frm.put ?_ rfl | refine frm.puto ?_ rfl rfl | refine frm.arr ?_ rfl)
  refine ⟨rfl, Or.inr ⟨by omega, hf.weak rfl, hg.weak rfl, hT.fr hf hg rfl, hP.fr hf hg rfl, hQ.fr hf hg rfl, hG.fr hf hg rfl, (hRd.fr hf hg rfl).up, hLn.fr hf hg rfl, ?_, hCs.fr hf hg rfl, hCd.fr hf hg rfl, hLo.fr hf hg rfl, hCl.fr hf hg rfl, hRu.fr hf hg rfl⟩⟩
  simp only [RelBk, w_put_r, w_arr_r, reduceIte, Nat.reduceEqDiff, pt_at]
  refine ⟨b1, b2, b3, fun k a b => ?_⟩
  have hk := b4 k a b
  by_cases e : k = x1.toNat
  · subst e
    (repeat' apply And.intro) <;> (try simp only [reduceIte]) <;> first | trivial | omega | (intro hh; omega)
  · simp only [if_neg e]
    exact hk
end
section
-- 86
theorem len30 (S : w_S) : e_len Tc S 30 0 = some 140 := rfl
theorem wid0 : ((pg_sv.getD 0 []).getD 0 0).toInt = 7 := by decide +kernel
/-- sums -/
def sm (F : Nat → Int) : Nat → Nat → Int
  | _, 0 => 0
  | c, n + 1 => F c + sm F (c + 1) n
theorem sm_congr {F G : Nat → Int} : ∀ (n c : Nat), (∀ k, c ≤ k → k < c + n → F k = G k) → sm F c n = sm G c n
  | 0, _, _ => rfl
  | n + 1, c, h => by rw [sm, sm, h c (Nat.le_refl _) (by omega), sm_congr n (c + 1) (fun k h1 h2 => h k (by omega) (by omega))]
theorem sm_add (F G : Nat → Int) : ∀ (n c : Nat), sm (fun k => F k + G k) c n = sm F c n + sm G c n
  | 0, _ => rfl
  | n + 1, c => by rw [sm, sm, sm, sm_add F G n (c + 1)]; omega
theorem sm_zero : ∀ (n c : Nat), sm (fun _ => 0) c n = 0
  | 0, _ => rfl
  | n + 1, c => by rw [sm, sm_zero n (c + 1)]; rfl
theorem sm_swap (F : Nat → Nat → Int) (d m : Nat) : ∀ (n c : Nat), sm (fun i => sm (fun j => F i j) d m) c n = sm (fun j => sm (fun i => F i j) c n) d m
  | 0, c => by
    have : (fun j => sm (fun i => F i j) c 0) = fun _ => 0 := by funext j; rfl
    rw [this, sm_zero]
    rfl
  | n + 1, c => by
    have : (fun j => sm (fun i => F i j) c (n + 1)) = fun j => F c j + sm (fun i => F i j) (c + 1) n := by funext j; rfl
    rw [this, sm_add, sm, sm_swap F d m n (c + 1)]
theorem sm_cnt (P : Nat → Bool) : ∀ (n c : Nat), cnt P c n = sm (fun k => if P k = true then 1 else 0) c n
  | 0, _ => rfl
  | n + 1, c => by rw [cnt, sm, sm_cnt P n (c + 1)]
theorem sm_one (a : Nat) (v : Int) : ∀ (n c : Nat), sm (fun k => if k = a then v else 0) c n = if c ≤ a ∧ a < c + n then v else 0
  | 0, c => by rw [sm, if_neg (by omega)]
  | n + 1, c => by
    rw [sm, sm_one a v n (c + 1)]
    (repeat' split) <;> omega
/-- as many of the one as of the other, if they go together one by one -/
theorem cnt_bij {P Q : Nat → Bool} {f g : Nat → Nat} {c n d m : Nat} (h1 : ∀ i, c ≤ i → i < c + n → P i = true → d ≤ f i ∧ f i < d + m ∧ Q (f i) = true ∧ g (f i) = i) (h2 : ∀ j, d ≤ j → j < d + m → Q j = true → c ≤ g j ∧ g j < c + n ∧ P (g j) = true ∧ f (g j) = j) : cnt P c n = cnt Q d m := by
  rw [sm_cnt, sm_cnt]
  have e1 : sm (fun k => if P k = true then (1 : Int) else 0) c n = sm (fun i => sm (fun j => if P i = true ∧ f i = j then (1 : Int) else 0) d m) c n := by
    refine sm_congr n c (fun i a b => ?_)
    by_cases hp : P i = true
    · have h := h1 i a b hp
      have e : (fun j => if P i = true ∧ f i = j then (1 : Int) else 0) = fun j => if j = f i then 1 else 0 := by
        funext j
        by_cases hj : f i = j
        · rw [if_pos ⟨hp, hj⟩, if_pos hj.symm]
        · rw [if_neg (fun q => hj q.2), if_neg (fun q => hj q.symm)]
      rw [if_pos hp, e, sm_one, if_pos ⟨h.1, h.2.1⟩]
    · have e : (fun j => if P i = true ∧ f i = j then (1 : Int) else 0) = fun _ => 0 := by
        funext j
        exact if_neg (fun q => hp q.1)
      rw [if_neg hp, e, sm_zero]
  have e2 : sm (fun k => if Q k = true then (1 : Int) else 0) d m = sm (fun j => sm (fun i => if P i = true ∧ f i = j then (1 : Int) else 0) c n) d m := by
    refine sm_congr m d (fun j a b => ?_)
    by_cases hq : Q j = true
    · have h := h2 j a b hq
      have e : sm (fun i => if P i = true ∧ f i = j then (1 : Int) else 0) c n = sm (fun i => if i = g j then (1 : Int) else 0) c n := by
        refine sm_congr n c (fun i a' b' => ?_)
        by_cases hi : i = g j
        · rw [if_pos hi, if_pos (by rw [hi]; exact ⟨h.2.2.1, h.2.2.2⟩)]
        · rw [if_neg hi, if_neg]
          intro q
          apply hi
          have := (h1 i a' b' q.1).2.2.2
          rw [q.2] at this
          exact this.symm
      rw [if_pos hq, e, sm_one, if_pos ⟨h.1, h.2.1⟩]
    · have e : sm (fun i => if P i = true ∧ f i = j then (1 : Int) else 0) c n = sm (fun _ => 0) c n := by
        refine sm_congr n c (fun i a' b' => ?_)
        rw [if_neg]
        intro q
        apply hq
        have := (h1 i a' b' q.1).2.2.1
        rw [q.2] at this
        exact this
      rw [if_neg hq, e, sm_zero]
  rw [e1, e2, sm_swap]
/-- THE RULE is the same to both -/
theorem l_rule {e : w_E} {N : Nat} {S R : w_S} {x1 x2 r c : Int} {n : Nat} (hn : n ≤ 20) (h1 : S.1 35 0 = n) (h2 : R.1 129 122 = n) (h3 : ∀ j, j < 7 * n → R.1 211 j = S.1 30 j) (hr : 0 ≤ r ∧ r ≤ 60) (hc : 0 ≤ c ∧ c ≤ 200) (hk : R.1 167 r.toNat = x1) (hy : R.1 170 c.toNat = x2) : ∀ (k i m m' : Nat), i + k = n → k < m → k < m' → ∃ v : Int, El_RuleBook_ruleFor e N m 0 [x1, x2, i] [] S = some (v, S) ∧ El_R_ruleOf e N m' 0 [r, c, i] [] R = some (v, R) ∧ (v = -1 ∨ ∃ j : Nat, j < n ∧ v = 7 * j) := by
  intro k
  induction k with
  | zero =>
    intro i m m' hi hm hm'
    obtain ⟨m, rfl⟩ : ∃ q, m = q + 1 := ⟨m - 1, by omega⟩
    obtain ⟨m', rfl⟩ : ∃ q, m' = q + 1 := ⟨m' - 1, by omega⟩
    refine ⟨-1, ?_, ?_, Or.inl rfl⟩
    · rw [El_RuleBook_ruleFor, if_pos (by omega)]
    · rw [El_R_ruleOf, if_pos (by omega)]
  | succ k ih =>
    intro i m m' hi hm hm'
    obtain ⟨m, rfl⟩ : ∃ q, m = q + 1 := ⟨m - 1, by omega⟩
    obtain ⟨m', rfl⟩ : ∃ q, m' = q + 1 := ⟨m' - 1, by omega⟩
    have e1 : ((i : Int) * 7).toNat = 7 * i := by omega
    have e2 : ((i : Int) * 7 + 1).toNat = 7 * i + 1 := by omega
    have e3 : (7 * (i : Int)).toNat = 7 * i := by omega
    have e4 : (7 * (i : Int) + 1).toNat = 7 * i + 1 := by omega
    have e5 : (i : Int) + 1 = ((i + 1 : Nat) : Int) := by omega
    have e6 : (i : Int) * 7 = 7 * (i : Int) := by omega
    have a1 := h3 (7 * i) (by omega)
    have a2 := h3 (7 * i + 1) (by omega)
    obtain ⟨v, v1, v2, v3⟩ := ih (i + 1) m m' (by omega) (by omega) (by omega)
    have u1 := El_RuleBook_ruleFor.eq_def e N (m + 1) 0 [x1, x2, (i : Int)] [] S
    by_cases hm1 : (S.1 30 (7 * i) = 5 ∨ S.1 30 (7 * i) = x1) ∧ (S.1 30 (7 * i + 1) = 5 ∨ S.1 30 (7 * i + 1) = x2)
    · refine ⟨7 * i, ok_eq ?_, ok_eq ?_, Or.inr ⟨i, by omega, rfl⟩⟩
      · rw [El_RuleBook_ruleFor]
        simp only [wid0, e1, e2]
        repeat' (first | with_reducible refine okl (len30 _) ?_ | with_reducible refine ok_nb (by omega) ?_ | with_reducible refine ok_ib (by omega) ?_ | with_reducible refine ok_t (by omega) ?_ | with_reducible refine ok_e (by omega) ?_ | with_reducible refine ok_if (fun h => ?_) (fun h => ?_) | with_reducible refine ok_s ?_ | with_reducible refine ok_b ?_)
        all_goals exact ⟨e6, rfl⟩
      · rw [El_R_ruleOf]
        simp only [e3, e4, hk, hy, a1, a2]
        repeat' (first | with_reducible refine ok_nb (by omega) ?_ | with_reducible refine ok_ib (by omega) ?_ | with_reducible refine ok_t (by omega) ?_ | with_reducible refine ok_e (by omega) ?_ | with_reducible refine ok_if (fun h => ?_) (fun h => ?_) | with_reducible refine ok_s ?_ | with_reducible refine ok_b ?_)
        all_goals exact ⟨rfl, rfl⟩
    · refine ⟨v, ok_eq ?_, ok_eq ?_, v3⟩
      · rw [El_RuleBook_ruleFor]
        simp only [wid0, e1, e2]
        repeat' (first | with_reducible refine okl (len30 _) ?_ | with_reducible refine ok_nb (by omega) ?_ | with_reducible refine ok_ib (by omega) ?_ | with_reducible refine ok_t (by omega) ?_ | with_reducible refine ok_e (by omega) ?_ | with_reducible refine ok_if (fun h => ?_) (fun h => ?_) | with_reducible refine ok_s ?_ | with_reducible refine ok_b ?_)
        all_goals (rw [e5]; exact ok_of v1 ⟨rfl, rfl⟩)
      · rw [El_R_ruleOf]
        simp only [e3, e4, hk, hy, a1, a2]
        repeat' (first | with_reducible refine ok_nb (by omega) ?_ | with_reducible refine ok_ib (by omega) ?_ | with_reducible refine ok_t (by omega) ?_ | with_reducible refine ok_e (by omega) ?_ | with_reducible refine ok_if (fun h => ?_) (fun h => ?_) | with_reducible refine ok_s ?_ | with_reducible refine ok_b ?_)
        all_goals (rw [e5]; exact ok_of v2 ⟨rfl, rfl⟩)
theorem x_rule {e : w_E} {N : Nat} {S R : w_S} {r c : Int} (hN : 1000 ≤ N) (h : RelRu S R) (hr : 0 ≤ r ∧ r ≤ 60) (hc : 0 ≤ c ∧ c ≤ 200) {x1 x2 : Int} (hk : R.1 167 r.toNat = x1) (hy : R.1 170 c.toNat = x2) : ∃ v : Int, E_RuleBook_ruleFor e N x1 x2 S = some (v, S) ∧ E_R_ruleOf e N r c R = some (v, R) ∧ (v = -1 ∨ (0 ≤ v ∧ v ≤ 133 ∧ (∀ j : Int, 0 ≤ j → j < 7 → R.1 211 (v + j).toNat = S.1 30 (v + j).toNat) ∧ 1 ≤ S.1 30 (v + 2).toNat ∧ S.1 30 (v + 2).toNat ≤ 365 ∧ 0 ≤ S.1 30 (v + 3).toNat ∧ S.1 30 (v + 3).toNat ≤ 9 ∧ 0 ≤ S.1 30 (v + 4).toNat ∧ S.1 30 (v + 4).toNat ≤ 99 ∧ 0 ≤ S.1 30 (v + 5).toNat ∧ S.1 30 (v + 5).toNat ≤ 999 ∧ 0 ≤ S.1 30 (v + 6).toNat ∧ S.1 30 (v + 6).toNat ≤ 99999)) := by
  obtain ⟨n, n1, n2, n3, n4, n5⟩ := h
  obtain ⟨v, v1, v2, v3⟩ := l_rule (e := e) (N := N) n1 n2 n3 n4 hr hc hk hy n 0 N N (by omega) (by omega) (by omega)
  refine ⟨v, v1, v2, ?_⟩
  rcases v3 with v3 | ⟨j, j1, j2⟩
  · exact Or.inl v3
  · obtain ⟨o1, o2, o3, o4, o5, o6, o7, o8, o9, o10, o11, o12, o13, o14⟩ := n5 j j1
    have e2 : (v + 2).toNat = 7 * j + 2 := by omega
    have e3 : (v + 3).toNat = 7 * j + 3 := by omega
    have e4 : (v + 4).toNat = 7 * j + 4 := by omega
    have e5 : (v + 5).toNat = 7 * j + 5 := by omega
    have e6 : (v + 6).toNat = 7 * j + 6 := by omega
    refine Or.inr ⟨by omega, by omega, fun i a b => n4 _ (by omega), ?_⟩
    rw [e2, e3, e4, e5, e6]
    exact ⟨o5, o6, o7, o8, o9, o10, o11, o12, o13, o14⟩
end
