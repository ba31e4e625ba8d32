section
-- c3
def pL (G : Int → Int) : List Int → Int → Int
  | [], q => q
  | c :: cs, q => pL G cs (pB G c q)
theorem pL_neg {G : Int → Int} : ∀ (L : List Int) {q : Int}, q < 0 → pL G L q = q
  | [], _, _ => rfl
  | c :: cs, q, h => by
    rw [pL, pB_neg h]
    exact pL_neg cs h
theorem pL_bd {G : Int → Int} {len : Int} (hG : ∀ p, len ≤ p → G p = -1) : ∀ (L : List Int) {q : Int}, (∀ c, c ∈ L → 0 ≤ c) → Bd len q → Bd len (pL G L q)
  | [], _, _, h => h
  | c :: cs, q, hc, h => by
    rw [pL]
    exact pL_bd hG cs (fun d hd => hc d (List.mem_cons_of_mem _ hd)) (pB_bd hG (hc c (List.mem_cons_self ..)) h)
theorem l_lit {L : List Int} {e : w_E} {N : Nat} {eL : w_S → e_R} {eC : Int → w_S → e_R} {F : Nat → Int → Int → w_S → e_R} {R : w_S} {len q : Int} {G : Int → Int} (h : TR R len G) (hL : L.length ≤ 1000) (hq : 0 ≤ q) (hq2 : q ≤ 3000) (hF : ∀ n x1 x3 T, F (n + 1) x1 x3 T = ltree e N eL eC (F n) x1 x3 T) (heL : ∀ T, eL T = some ((L.length : Int), T)) (heC : ∀ (k : Nat) T, k < L.length → eC (k : Int) T = some (L.getD k 0, T)) : ∀ (cs : List Int) (k nf : Nat), cs.length < nf → L.drop k = cs → k ≤ L.length → F nf q (k : Int) R = some (pL G cs (q + k), R)
  | _, _, 0, hf, _, _ => by omega
  | [], k, nf + 1, hf, hd, hk => by
    have kl : k = L.length := by
      have := congrArg List.length hd
      rw [List.length_drop, List.length_nil] at this
      omega
    rw [hF, ltree, heL]
    show (if (L.length : Int) ≤ (k : Int) then ((eL R).bind _) else _) = _
    rw [if_pos (by omega), heL]
    show (if w_nb (q + (L.length : Int)) = true then some (q + (L.length : Int), R) else none) = _
    rw [if_pos (by rw [w_nbE]; omega), pL, kl]
  | c :: cs, k, nf + 1, hf, hd, hk => by
    have kl : k < L.length := by
      have := congrArg List.length hd
      rw [List.length_drop, List.length_cons] at this
      omega
    have hd' : L.drop (k + 1) = cs := by
      rw [← List.drop_drop, hd]
      rfl
    have hg : L[k]? = some c := by
      have := List.getElem?_drop (xs := L) (i := k) (j := 0)
      rw [hd] at this
      exact this.symm
    have hgd : L.getD k 0 = c := by
      rw [List.getD_eq_getElem?_getD, hg]
      rfl
    rw [List.length_cons] at hf
    have ih := l_lit h hL hq hq2 hF heL heC cs (k + 1) nf (by omega) hd' (by omega)
    rw [show ((k + 1 : Nat) : Int) = (k : Int) + 1 by omega] at ih
    rw [hF, ltree, heL]
    show (if (L.length : Int) ≤ (k : Int) then _ else (if w_nb (q + (k : Int)) = true then ((E_R_at e N (q + (k : Int)) R).bind _) else none)) = _
    rw [if_neg (by omega), if_pos (by rw [w_nbE]; omega), x_at h (by omega)]
    show ((eC (k : Int) R).bind _) = _
    rw [heC k _ kl, hgd]
    show (if G (q + (k : Int)) = c then (if w_nb ((k : Int) + 1) = true then F nf q ((k : Int) + 1) R else none) else (if w_nb (-1 - (q + (k : Int))) = true then some (-1 - (q + (k : Int)), R) else none)) = _
    rw [pL]
    by_cases d : G (q + (k : Int)) = c
    · rw [if_pos d, if_pos (by rw [w_nbE]; omega), ih, pB_y (by omega) d, show q + (k : Int) + 1 = q + ((k : Int) + 1) by omega]
    · rw [if_neg d, if_pos (by rw [w_nbE]; omega), pB_n (by omega) d, pL_neg _ (by omega)]
theorem x_word0 {e : w_E} {N : Nat} {S : w_S} {f len a w q : Int} {G : Int → Int} (hN : 2001 ≤ N) (h : TX S f len G) (ha : At f len a w q) : Ok (E_Tape_takeWord e N (tp S a w)) (Tk S f len (pK (wl 0) G q) (fun y => y = (tw (fun p => G (q + p)) (wl 0) 0 0 0 false).1 ∧ 0 ≤ y)) := by
  unfold E_Tape_takeWord
  exact x_word (F := fun n x2 x3 x4 x5 x6 T => El_Tape_takeWord e N n 0 [x2, x3, x4, x5, x6] [] T) h ha (by decide) (by decide) (fun n x2 x3 x4 x5 x6 T => w_tree0 n x2 x3 x4 x5 x6 T) (fun T => w_len0 T) (fun k T hk => x_char (i := 0) (by decide) hk) (Nat.lt_of_lt_of_le (by decide : (wl 0).length + 1 < 2001) hN)
theorem x_word1 {e : w_E} {N : Nat} {S : w_S} {f len a w q : Int} {G : Int → Int} (hN : 2001 ≤ N) (h : TX S f len G) (ha : At f len a w q) : Ok (E_Tape_takeWord_v1 e N (tp S a w)) (Tk S f len (pK (wl 1) G q) (fun y => y = (tw (fun p => G (q + p)) (wl 1) 0 0 0 false).1 ∧ 0 ≤ y)) := by
  unfold E_Tape_takeWord_v1
  exact x_word (F := fun n x2 x3 x4 x5 x6 T => El_Tape_takeWord_v1 e N n 0 [x2, x3, x4, x5, x6] [] T) h ha (by decide) (by decide) (fun n x2 x3 x4 x5 x6 T => w_tree1 n x2 x3 x4 x5 x6 T) (fun T => w_len1 T) (fun k T hk => x_char (i := 1) (by decide) hk) (Nat.lt_of_lt_of_le (by decide : (wl 1).length + 1 < 2001) hN)
theorem x_word2 {e : w_E} {N : Nat} {S : w_S} {f len a w q : Int} {G : Int → Int} (hN : 2001 ≤ N) (h : TX S f len G) (ha : At f len a w q) : Ok (E_Tape_takeWord_v2 e N (tp S a w)) (Tk S f len (pK (wl 2) G q) (fun y => y = (tw (fun p => G (q + p)) (wl 2) 0 0 0 false).1 ∧ 0 ≤ y)) := by
  unfold E_Tape_takeWord_v2
  exact x_word (F := fun n x2 x3 x4 x5 x6 T => El_Tape_takeWord_v2 e N n 0 [x2, x3, x4, x5, x6] [] T) h ha (by decide) (by decide) (fun n x2 x3 x4 x5 x6 T => w_tree2 n x2 x3 x4 x5 x6 T) (fun T => w_len2 T) (fun k T hk => x_char (i := 2) (by decide) hk) (Nat.lt_of_lt_of_le (by decide : (wl 2).length + 1 < 2001) hN)
theorem x_word3 {e : w_E} {N : Nat} {S : w_S} {f len a w q : Int} {G : Int → Int} (hN : 2001 ≤ N) (h : TX S f len G) (ha : At f len a w q) : Ok (E_Tape_takeWord_v3 e N (tp S a w)) (Tk S f len (pK (wl 3) G q) (fun y => y = (tw (fun p => G (q + p)) (wl 3) 0 0 0 false).1 ∧ 0 ≤ y)) := by
  unfold E_Tape_takeWord_v3
  exact x_word (F := fun n x2 x3 x4 x5 x6 T => El_Tape_takeWord_v3 e N n 0 [x2, x3, x4, x5, x6] [] T) h ha (by decide) (by decide) (fun n x2 x3 x4 x5 x6 T => w_tree3 n x2 x3 x4 x5 x6 T) (fun T => w_len3 T) (fun k T hk => x_char (i := 3) (by decide) hk) (Nat.lt_of_lt_of_le (by decide : (wl 3).length + 1 < 2001) hN)
theorem x_word4 {e : w_E} {N : Nat} {S : w_S} {f len a w q : Int} {G : Int → Int} (hN : 2001 ≤ N) (h : TX S f len G) (ha : At f len a w q) : Ok (E_Tape_takeWord_v4 e N (tp S a w)) (Tk S f len (pK (wl 4) G q) (fun y => y = (tw (fun p => G (q + p)) (wl 4) 0 0 0 false).1 ∧ 0 ≤ y)) := by
  unfold E_Tape_takeWord_v4
  exact x_word (F := fun n x2 x3 x4 x5 x6 T => El_Tape_takeWord_v4 e N n 0 [x2, x3, x4, x5, x6] [] T) h ha (by decide) (by decide) (fun n x2 x3 x4 x5 x6 T => w_tree4 n x2 x3 x4 x5 x6 T) (fun T => w_len4 T) (fun k T hk => x_char (i := 4) (by decide) hk) (Nat.lt_of_lt_of_le (by decide : (wl 4).length + 1 < 2001) hN)
theorem x_word5 {e : w_E} {N : Nat} {S : w_S} {f len a w q : Int} {G : Int → Int} (hN : 2001 ≤ N) (h : TX S f len G) (ha : At f len a w q) : Ok (E_Tape_takeWord_v5 e N (tp S a w)) (Tk S f len (pK (wl 5) G q) (fun y => y = (tw (fun p => G (q + p)) (wl 5) 0 0 0 false).1 ∧ 0 ≤ y)) := by
  unfold E_Tape_takeWord_v5
  exact x_word (F := fun n x2 x3 x4 x5 x6 T => El_Tape_takeWord_v5 e N n 0 [x2, x3, x4, x5, x6] [] T) h ha (by decide) (by decide) (fun n x2 x3 x4 x5 x6 T => w_tree5 n x2 x3 x4 x5 x6 T) (fun T => w_len5 T) (fun k T hk => x_char (i := 5) (by decide) hk) (Nat.lt_of_lt_of_le (by decide : (wl 5).length + 1 < 2001) hN)
theorem x_word6 {e : w_E} {N : Nat} {S : w_S} {f len a w q : Int} {G : Int → Int} (hN : 2001 ≤ N) (h : TX S f len G) (ha : At f len a w q) : Ok (E_Tape_takeWord_v6 e N (tp S a w)) (Tk S f len (pK (wl 6) G q) (fun y => y = (tw (fun p => G (q + p)) (wl 6) 0 0 0 false).1 ∧ 0 ≤ y)) := by
  unfold E_Tape_takeWord_v6
  exact x_word (F := fun n x2 x3 x4 x5 x6 T => El_Tape_takeWord_v6 e N n 0 [x2, x3, x4, x5, x6] [] T) h ha (by decide) (by decide) (fun n x2 x3 x4 x5 x6 T => w_tree6 n x2 x3 x4 x5 x6 T) (fun T => w_len6 T) (fun k T hk => x_char (i := 6) (by decide) hk) (Nat.lt_of_lt_of_le (by decide : (wl 6).length + 1 < 2001) hN)
theorem x_word7 {e : w_E} {N : Nat} {S : w_S} {f len a w q : Int} {G : Int → Int} (hN : 2001 ≤ N) (h : TX S f len G) (ha : At f len a w q) : Ok (E_Tape_takeWord_v7 e N (tp S a w)) (Tk S f len (pK (wl 7) G q) (fun y => y = (tw (fun p => G (q + p)) (wl 7) 0 0 0 false).1 ∧ 0 ≤ y)) := by
  unfold E_Tape_takeWord_v7
  exact x_word (F := fun n x2 x3 x4 x5 x6 T => El_Tape_takeWord_v7 e N n 0 [x2, x3, x4, x5, x6] [] T) h ha (by decide) (by decide) (fun n x2 x3 x4 x5 x6 T => w_tree7 n x2 x3 x4 x5 x6 T) (fun T => w_len7 T) (fun k T hk => x_char (i := 7) (by decide) hk) (Nat.lt_of_lt_of_le (by decide : (wl 7).length + 1 < 2001) hN)
theorem x_word8 {e : w_E} {N : Nat} {S : w_S} {f len a w q : Int} {G : Int → Int} (hN : 2001 ≤ N) (h : TX S f len G) (ha : At f len a w q) : Ok (E_Tape_takeWord_v8 e N (tp S a w)) (Tk S f len (pK (wl 8) G q) (fun y => y = (tw (fun p => G (q + p)) (wl 8) 0 0 0 false).1 ∧ 0 ≤ y)) := by
  unfold E_Tape_takeWord_v8
  exact x_word (F := fun n x2 x3 x4 x5 x6 T => El_Tape_takeWord_v8 e N n 0 [x2, x3, x4, x5, x6] [] T) h ha (by decide) (by decide) (fun n x2 x3 x4 x5 x6 T => w_tree8 n x2 x3 x4 x5 x6 T) (fun T => w_len8 T) (fun k T hk => x_char (i := 8) (by decide) hk) (Nat.lt_of_lt_of_le (by decide : (wl 8).length + 1 < 2001) hN)
theorem x_lit0 {e : w_E} {N : Nat} {R : w_S} {len q : Int} {G : Int → Int} (hN : 2001 ≤ N) (h : TR R len G) (h0 : 0 ≤ q) (hl : q ≤ 3000) : E_R_literal e N q R = some (pL G (wl 15) q, R) := by
  unfold E_R_literal
  have := l_lit (F := fun n x1 x3 T => El_R_literal e N n 0 [x1, x3] [] T) (e := e) (N := N) (L := wl 15) h (by decide) h0 hl (fun n x1 x3 T => t_tree0 n x1 x3 T) (fun T => t_len0 T) (fun k T hk => x_char (i := 15) (by decide) hk) (wl 15) 0 N (Nat.lt_of_lt_of_le (by decide : (wl 15).length < 2001) hN) rfl (by omega)
  rw [show q + ((0 : Nat) : Int) = q by omega] at this
  exact this
theorem x_lit1 {e : w_E} {N : Nat} {R : w_S} {len q : Int} {G : Int → Int} (hN : 2001 ≤ N) (h : TR R len G) (h0 : 0 ≤ q) (hl : q ≤ 3000) : E_R_literal_v1 e N q R = some (pL G (wl 17) q, R) := by
  unfold E_R_literal_v1
  have := l_lit (F := fun n x1 x3 T => El_R_literal_v1 e N n 0 [x1, x3] [] T) (e := e) (N := N) (L := wl 17) h (by decide) h0 hl (fun n x1 x3 T => t_tree1 n x1 x3 T) (fun T => t_len1 T) (fun k T hk => x_char (i := 17) (by decide) hk) (wl 17) 0 N (Nat.lt_of_lt_of_le (by decide : (wl 17).length < 2001) hN) rfl (by omega)
  rw [show q + ((0 : Nat) : Int) = q by omega] at this
  exact this
theorem x_lit2 {e : w_E} {N : Nat} {R : w_S} {len q : Int} {G : Int → Int} (hN : 2001 ≤ N) (h : TR R len G) (h0 : 0 ≤ q) (hl : q ≤ 3000) : E_R_literal_v2 e N q R = some (pL G (wl 16) q, R) := by
  unfold E_R_literal_v2
  have := l_lit (F := fun n x1 x3 T => El_R_literal_v2 e N n 0 [x1, x3] [] T) (e := e) (N := N) (L := wl 16) h (by decide) h0 hl (fun n x1 x3 T => t_tree2 n x1 x3 T) (fun T => t_len2 T) (fun k T hk => x_char (i := 16) (by decide) hk) (wl 16) 0 N (Nat.lt_of_lt_of_le (by decide : (wl 16).length < 2001) hN) rfl (by omega)
  rw [show q + ((0 : Nat) : Int) = q by omega] at this
  exact this
theorem x_lit3 {e : w_E} {N : Nat} {R : w_S} {len q : Int} {G : Int → Int} (hN : 2001 ≤ N) (h : TR R len G) (h0 : 0 ≤ q) (hl : q ≤ 3000) : E_R_literal_v3 e N q R = some (pL G (wl 21) q, R) := by
  unfold E_R_literal_v3
  have := l_lit (F := fun n x1 x3 T => El_R_literal_v3 e N n 0 [x1, x3] [] T) (e := e) (N := N) (L := wl 21) h (by decide) h0 hl (fun n x1 x3 T => t_tree3 n x1 x3 T) (fun T => t_len3 T) (fun k T hk => x_char (i := 21) (by decide) hk) (wl 21) 0 N (Nat.lt_of_lt_of_le (by decide : (wl 21).length < 2001) hN) rfl (by omega)
  rw [show q + ((0 : Nat) : Int) = q by omega] at this
  exact this
theorem x_lit4 {e : w_E} {N : Nat} {R : w_S} {len q : Int} {G : Int → Int} (hN : 2001 ≤ N) (h : TR R len G) (h0 : 0 ≤ q) (hl : q ≤ 3000) : E_R_literal_v4 e N q R = some (pL G (wl 20) q, R) := by
  unfold E_R_literal_v4
  have := l_lit (F := fun n x1 x3 T => El_R_literal_v4 e N n 0 [x1, x3] [] T) (e := e) (N := N) (L := wl 20) h (by decide) h0 hl (fun n x1 x3 T => t_tree4 n x1 x3 T) (fun T => t_len4 T) (fun k T hk => x_char (i := 20) (by decide) hk) (wl 20) 0 N (Nat.lt_of_lt_of_le (by decide : (wl 20).length < 2001) hN) rfl (by omega)
  rw [show q + ((0 : Nat) : Int) = q by omega] at this
  exact this
theorem x_lit5 {e : w_E} {N : Nat} {R : w_S} {len q : Int} {G : Int → Int} (hN : 2001 ≤ N) (h : TR R len G) (h0 : 0 ≤ q) (hl : q ≤ 3000) : E_R_literal_v5 e N q R = some (pL G (wl 19) q, R) := by
  unfold E_R_literal_v5
  have := l_lit (F := fun n x1 x3 T => El_R_literal_v5 e N n 0 [x1, x3] [] T) (e := e) (N := N) (L := wl 19) h (by decide) h0 hl (fun n x1 x3 T => t_tree5 n x1 x3 T) (fun T => t_len5 T) (fun k T hk => x_char (i := 19) (by decide) hk) (wl 19) 0 N (Nat.lt_of_lt_of_le (by decide : (wl 19).length < 2001) hN) rfl (by omega)
  rw [show q + ((0 : Nat) : Int) = q by omega] at this
  exact this
theorem x_lit6 {e : w_E} {N : Nat} {R : w_S} {len q : Int} {G : Int → Int} (hN : 2001 ≤ N) (h : TR R len G) (h0 : 0 ≤ q) (hl : q ≤ 3000) : E_R_literal_v6 e N q R = some (pL G (wl 18) q, R) := by
  unfold E_R_literal_v6
  have := l_lit (F := fun n x1 x3 T => El_R_literal_v6 e N n 0 [x1, x3] [] T) (e := e) (N := N) (L := wl 18) h (by decide) h0 hl (fun n x1 x3 T => t_tree6 n x1 x3 T) (fun T => t_len6 T) (fun k T hk => x_char (i := 18) (by decide) hk) (wl 18) 0 N (Nat.lt_of_lt_of_le (by decide : (wl 18).length < 2001) hN) rfl (by omega)
  rw [show q + ((0 : Nat) : Int) = q by omega] at this
  exact this
theorem x_lit7 {e : w_E} {N : Nat} {R : w_S} {len q : Int} {G : Int → Int} (hN : 2001 ≤ N) (h : TR R len G) (h0 : 0 ≤ q) (hl : q ≤ 3000) : E_R_literal_v7 e N q R = some (pL G (wl 11) q, R) := by
  unfold E_R_literal_v7
  have := l_lit (F := fun n x1 x3 T => El_R_literal_v7 e N n 0 [x1, x3] [] T) (e := e) (N := N) (L := wl 11) h (by decide) h0 hl (fun n x1 x3 T => t_tree7 n x1 x3 T) (fun T => t_len7 T) (fun k T hk => x_char (i := 11) (by decide) hk) (wl 11) 0 N (Nat.lt_of_lt_of_le (by decide : (wl 11).length < 2001) hN) rfl (by omega)
  rw [show q + ((0 : Nat) : Int) = q by omega] at this
  exact this
theorem x_lit8 {e : w_E} {N : Nat} {R : w_S} {len q : Int} {G : Int → Int} (hN : 2001 ≤ N) (h : TR R len G) (h0 : 0 ≤ q) (hl : q ≤ 3000) : E_R_literal_v8 e N q R = some (pL G (wl 10) q, R) := by
  unfold E_R_literal_v8
  have := l_lit (F := fun n x1 x3 T => El_R_literal_v8 e N n 0 [x1, x3] [] T) (e := e) (N := N) (L := wl 10) h (by decide) h0 hl (fun n x1 x3 T => t_tree8 n x1 x3 T) (fun T => t_len8 T) (fun k T hk => x_char (i := 10) (by decide) hk) (wl 10) 0 N (Nat.lt_of_lt_of_le (by decide : (wl 10).length < 2001) hN) rfl (by omega)
  rw [show q + ((0 : Nat) : Int) = q by omega] at this
  exact this
theorem x_lit9 {e : w_E} {N : Nat} {R : w_S} {len q : Int} {G : Int → Int} (hN : 2001 ≤ N) (h : TR R len G) (h0 : 0 ≤ q) (hl : q ≤ 3000) : E_R_literal_v9 e N q R = some (pL G (wl 9) q, R) := by
  unfold E_R_literal_v9
  have := l_lit (F := fun n x1 x3 T => El_R_literal_v9 e N n 0 [x1, x3] [] T) (e := e) (N := N) (L := wl 9) h (by decide) h0 hl (fun n x1 x3 T => t_tree9 n x1 x3 T) (fun T => t_len9 T) (fun k T hk => x_char (i := 9) (by decide) hk) (wl 9) 0 N (Nat.lt_of_lt_of_le (by decide : (wl 9).length < 2001) hN) rfl (by omega)
  rw [show q + ((0 : Nat) : Int) = q by omega] at this
  exact this
theorem x_lit10 {e : w_E} {N : Nat} {R : w_S} {len q : Int} {G : Int → Int} (hN : 2001 ≤ N) (h : TR R len G) (h0 : 0 ≤ q) (hl : q ≤ 3000) : E_R_literal_v10 e N q R = some (pL G (wl 14) q, R) := by
  unfold E_R_literal_v10
  have := l_lit (F := fun n x1 x3 T => El_R_literal_v10 e N n 0 [x1, x3] [] T) (e := e) (N := N) (L := wl 14) h (by decide) h0 hl (fun n x1 x3 T => t_tree10 n x1 x3 T) (fun T => t_len10 T) (fun k T hk => x_char (i := 14) (by decide) hk) (wl 14) 0 N (Nat.lt_of_lt_of_le (by decide : (wl 14).length < 2001) hN) rfl (by omega)
  rw [show q + ((0 : Nat) : Int) = q by omega] at this
  exact this
theorem x_lit11 {e : w_E} {N : Nat} {R : w_S} {len q : Int} {G : Int → Int} (hN : 2001 ≤ N) (h : TR R len G) (h0 : 0 ≤ q) (hl : q ≤ 3000) : E_R_literal_v11 e N q R = some (pL G (wl 13) q, R) := by
  unfold E_R_literal_v11
  have := l_lit (F := fun n x1 x3 T => El_R_literal_v11 e N n 0 [x1, x3] [] T) (e := e) (N := N) (L := wl 13) h (by decide) h0 hl (fun n x1 x3 T => t_tree11 n x1 x3 T) (fun T => t_len11 T) (fun k T hk => x_char (i := 13) (by decide) hk) (wl 13) 0 N (Nat.lt_of_lt_of_le (by decide : (wl 13).length < 2001) hN) rfl (by omega)
  rw [show q + ((0 : Nat) : Int) = q by omega] at this
  exact this
theorem x_lit12 {e : w_E} {N : Nat} {R : w_S} {len q : Int} {G : Int → Int} (hN : 2001 ≤ N) (h : TR R len G) (h0 : 0 ≤ q) (hl : q ≤ 3000) : E_R_literal_v12 e N q R = some (pL G (wl 12) q, R) := by
  unfold E_R_literal_v12
  have := l_lit (F := fun n x1 x3 T => El_R_literal_v12 e N n 0 [x1, x3] [] T) (e := e) (N := N) (L := wl 12) h (by decide) h0 hl (fun n x1 x3 T => t_tree12 n x1 x3 T) (fun T => t_len12 T) (fun k T hk => x_char (i := 12) (by decide) hk) (wl 12) 0 N (Nat.lt_of_lt_of_le (by decide : (wl 12).length < 2001) hN) rfl (by omega)
  rw [show q + ((0 : Nat) : Int) = q by omega] at this
  exact this
theorem x_lit13 {e : w_E} {N : Nat} {R : w_S} {len q : Int} {G : Int → Int} (hN : 2001 ≤ N) (h : TR R len G) (h0 : 0 ≤ q) (hl : q ≤ 3000) : E_R_literal_v13 e N q R = some (pL G (wl 22) q, R) := by
  unfold E_R_literal_v13
  have := l_lit (F := fun n x1 x3 T => El_R_literal_v13 e N n 0 [x1, x3] [] T) (e := e) (N := N) (L := wl 22) h (by decide) h0 hl (fun n x1 x3 T => t_tree13 n x1 x3 T) (fun T => t_len13 T) (fun k T hk => x_char (i := 22) (by decide) hk) (wl 22) 0 N (Nat.lt_of_lt_of_le (by decide : (wl 22).length < 2001) hN) rfl (by omega)
  rw [show q + ((0 : Nat) : Int) = q by omega] at this
  exact this
end
section
-- c4
theorem pL_y {G : Int → Int} {c q : Int} {cs : List Int} (h : 0 ≤ q) (h1 : G q = c) : pL G (c :: cs) q = pL G cs (q + 1) := by
  rw [pL, pB_y h h1]
theorem pL_n {G : Int → Int} {c q : Int} {cs : List Int} (h : 0 ≤ q) (h1 : ¬ G q = c) : pL G (c :: cs) q = -1 - q := by
  rw [pL, pB_n h h1, pL_neg _ (by omega)]
/-- which check the reference takes it for -/
def ckd (G : Int → Int) (s : Int) : Int := if G s = 109 then (if G (s + 1) = 117 then 0 else 3) else if G s = 111 then 1 else 2
def ckw (k : Int) : List Int := if k = 0 then [109, 117, 115, 116] else if k = 1 then [111, 110, 99, 101] else if k = 2 then [104, 97, 115] else [109, 111, 115, 116]
def skd (G : Int → Int) (s : Int) : Int := if G s = 100 then 0 else if G s = 115 then 1 else 2
def skw (k : Int) : List Int := if k = 0 then [100, 101, 108] else if k = 1 then [115, 101, 116] else [97, 100, 100]
theorem ck_word_wl : wl 0 = [109, 117, 115, 116, 124, 111, 110, 99, 101, 124, 104, 97, 115, 124, 109, 111, 115, 116] := by decide
theorem ck_word {G : Int → Int} {s : Int} (h : 0 ≤ s) : pK (wl 0) G s = pL G (ckw (ckd G s)) s ∧ (0 ≤ pK (wl 0) G s → (tw (fun p => G (s + p)) (wl 0) 0 0 0 false).1 = ckd G s) := by
  rw [ck_word_wl]
  unfold pK
  rw [if_neg (by omega)]
  by_cases a1 : G (s) = 109
  · by_cases a2 : G (s + 1) = 117
    · by_cases a3 : G (s + 2) = 115
      · by_cases a4 : G (s + 3) = 116
        · have t : tw (fun p => G (s + p)) [109, 117, 115, 116, 124, 111, 110, 99, 101, 124, 104, 97, 115, 124, 109, 111, 115, 116] 0 0 0 false = (0, 4, 4) := by
            simp [tw, a1, a2, a3, a4] <;> rfl
          have k : ckd G s = 0 := by
            simp [ckd, a1, a2, a3, a4]
          rw [t, k]
          have p : pL G (ckw 0) s = s + 4 := by
            show pL G [109, 117, 115, 116] s = _
            rw [pL_y (by omega) (show G (s) = 109 by exact a1), pL_y (by omega) (show G (s + 1) = 117 by exact a2), pL_y (by omega) (show G (s + 1 + 1) = 115 by rw [show s + 1 + 1 = s + 2 by omega]; exact a3), pL_y (by omega) (show G (s + 1 + 1 + 1) = 116 by rw [show s + 1 + 1 + 1 = s + 3 by omega]; exact a4), pL]
            all_goals omega
          rw [p]
          exact ⟨rfl, fun _ => rfl⟩
        · have t : tw (fun p => G (s + p)) [109, 117, 115, 116, 124, 111, 110, 99, 101, 124, 104, 97, 115, 124, 109, 111, 115, 116] 0 0 0 false = (-1, 0, 3) := by
            simp [tw, a1, a2, a3, a4] <;> rfl
          have k : ckd G s = 0 := by
            simp [ckd, a1, a2, a3, a4]
          rw [t, k]
          have p : pL G (ckw 0) s = -1 - (s + 3) := by
            show pL G [109, 117, 115, 116] s = _
            rw [pL_y (by omega) (show G (s) = 109 by exact a1), pL_y (by omega) (show G (s + 1) = 117 by exact a2), pL_y (by omega) (show G (s + 1 + 1) = 115 by rw [show s + 1 + 1 = s + 2 by omega]; exact a3), pL_n (by omega) (show ¬ G (s + 1 + 1 + 1) = 116 by rw [show s + 1 + 1 + 1 = s + 3 by omega]; exact a4)]
            all_goals omega
          rw [p]
          refine ⟨by simp, fun z => ?_⟩
          simp at z
          omega
      · have t : tw (fun p => G (s + p)) [109, 117, 115, 116, 124, 111, 110, 99, 101, 124, 104, 97, 115, 124, 109, 111, 115, 116] 0 0 0 false = (-1, 0, 2) := by
          simp [tw, a1, a2, a3] <;> rfl
        have k : ckd G s = 0 := by
          simp [ckd, a1, a2, a3]
        rw [t, k]
        have p : pL G (ckw 0) s = -1 - (s + 2) := by
          show pL G [109, 117, 115, 116] s = _
          rw [pL_y (by omega) (show G (s) = 109 by exact a1), pL_y (by omega) (show G (s + 1) = 117 by exact a2), pL_n (by omega) (show ¬ G (s + 1 + 1) = 115 by rw [show s + 1 + 1 = s + 2 by omega]; exact a3)]
          all_goals omega
        rw [p]
        refine ⟨by simp, fun z => ?_⟩
        simp at z
        omega
    · by_cases a5 : G (s + 1) = 111
      · by_cases a6 : G (s + 2) = 115
        · by_cases a7 : G (s + 3) = 116
          · have t : tw (fun p => G (s + p)) [109, 117, 115, 116, 124, 111, 110, 99, 101, 124, 104, 97, 115, 124, 109, 111, 115, 116] 0 0 0 false = (3, 4, 4) := by
              simp [tw, a1, a2, a5, a6, a7] <;> rfl
            have k : ckd G s = 3 := by
              simp [ckd, a1, a2, a5, a6, a7]
            rw [t, k]
            have p : pL G (ckw 3) s = s + 4 := by
              show pL G [109, 111, 115, 116] s = _
              rw [pL_y (by omega) (show G (s) = 109 by exact a1), pL_y (by omega) (show G (s + 1) = 111 by exact a5), pL_y (by omega) (show G (s + 1 + 1) = 115 by rw [show s + 1 + 1 = s + 2 by omega]; exact a6), pL_y (by omega) (show G (s + 1 + 1 + 1) = 116 by rw [show s + 1 + 1 + 1 = s + 3 by omega]; exact a7), pL]
              all_goals omega
            rw [p]
            exact ⟨rfl, fun _ => rfl⟩
          · have t : tw (fun p => G (s + p)) [109, 117, 115, 116, 124, 111, 110, 99, 101, 124, 104, 97, 115, 124, 109, 111, 115, 116] 0 0 0 false = (-1, 0, 3) := by
              simp [tw, a1, a2, a5, a6, a7] <;> rfl
            have k : ckd G s = 3 := by
              simp [ckd, a1, a2, a5, a6, a7]
            rw [t, k]
            have p : pL G (ckw 3) s = -1 - (s + 3) := by
              show pL G [109, 111, 115, 116] s = _
              rw [pL_y (by omega) (show G (s) = 109 by exact a1), pL_y (by omega) (show G (s + 1) = 111 by exact a5), pL_y (by omega) (show G (s + 1 + 1) = 115 by rw [show s + 1 + 1 = s + 2 by omega]; exact a6), pL_n (by omega) (show ¬ G (s + 1 + 1 + 1) = 116 by rw [show s + 1 + 1 + 1 = s + 3 by omega]; exact a7)]
              all_goals omega
            rw [p]
            refine ⟨by simp, fun z => ?_⟩
            simp at z
            omega
        · have t : tw (fun p => G (s + p)) [109, 117, 115, 116, 124, 111, 110, 99, 101, 124, 104, 97, 115, 124, 109, 111, 115, 116] 0 0 0 false = (-1, 0, 2) := by
            simp [tw, a1, a2, a5, a6] <;> rfl
          have k : ckd G s = 3 := by
            simp [ckd, a1, a2, a5, a6]
          rw [t, k]
          have p : pL G (ckw 3) s = -1 - (s + 2) := by
            show pL G [109, 111, 115, 116] s = _
            rw [pL_y (by omega) (show G (s) = 109 by exact a1), pL_y (by omega) (show G (s + 1) = 111 by exact a5), pL_n (by omega) (show ¬ G (s + 1 + 1) = 115 by rw [show s + 1 + 1 = s + 2 by omega]; exact a6)]
            all_goals omega
          rw [p]
          refine ⟨by simp, fun z => ?_⟩
          simp at z
          omega
      · have t : tw (fun p => G (s + p)) [109, 117, 115, 116, 124, 111, 110, 99, 101, 124, 104, 97, 115, 124, 109, 111, 115, 116] 0 0 0 false = (-1, 0, 1) := by
          simp [tw, a1, a2, a5] <;> rfl
        have k : ckd G s = 3 := by
          simp [ckd, a1, a2, a5]
        rw [t, k]
        have p : pL G (ckw 3) s = -1 - (s + 1) := by
          show pL G [109, 111, 115, 116] s = _
          rw [pL_y (by omega) (show G (s) = 109 by exact a1), pL_n (by omega) (show ¬ G (s + 1) = 111 by exact a5)]
          all_goals omega
        rw [p]
        refine ⟨by simp, fun z => ?_⟩
        simp at z
        omega
  · by_cases a8 : G (s) = 111
    · by_cases a9 : G (s + 1) = 110
      · by_cases a10 : G (s + 2) = 99
        · by_cases a11 : G (s + 3) = 101
          · have t : tw (fun p => G (s + p)) [109, 117, 115, 116, 124, 111, 110, 99, 101, 124, 104, 97, 115, 124, 109, 111, 115, 116] 0 0 0 false = (1, 4, 4) := by
              simp [tw, a1, a8, a9, a10, a11] <;> rfl
            have k : ckd G s = 1 := by
              simp [ckd, a1, a8, a9, a10, a11]
            rw [t, k]
            have p : pL G (ckw 1) s = s + 4 := by
              show pL G [111, 110, 99, 101] s = _
              rw [pL_y (by omega) (show G (s) = 111 by exact a8), pL_y (by omega) (show G (s + 1) = 110 by exact a9), pL_y (by omega) (show G (s + 1 + 1) = 99 by rw [show s + 1 + 1 = s + 2 by omega]; exact a10), pL_y (by omega) (show G (s + 1 + 1 + 1) = 101 by rw [show s + 1 + 1 + 1 = s + 3 by omega]; exact a11), pL]
              all_goals omega
            rw [p]
            exact ⟨rfl, fun _ => rfl⟩
          · have t : tw (fun p => G (s + p)) [109, 117, 115, 116, 124, 111, 110, 99, 101, 124, 104, 97, 115, 124, 109, 111, 115, 116] 0 0 0 false = (-1, 0, 3) := by
              simp [tw, a1, a8, a9, a10, a11] <;> rfl
            have k : ckd G s = 1 := by
              simp [ckd, a1, a8, a9, a10, a11]
            rw [t, k]
            have p : pL G (ckw 1) s = -1 - (s + 3) := by
              show pL G [111, 110, 99, 101] s = _
              rw [pL_y (by omega) (show G (s) = 111 by exact a8), pL_y (by omega) (show G (s + 1) = 110 by exact a9), pL_y (by omega) (show G (s + 1 + 1) = 99 by rw [show s + 1 + 1 = s + 2 by omega]; exact a10), pL_n (by omega) (show ¬ G (s + 1 + 1 + 1) = 101 by rw [show s + 1 + 1 + 1 = s + 3 by omega]; exact a11)]
              all_goals omega
            rw [p]
            refine ⟨by simp, fun z => ?_⟩
            simp at z
            omega
        · have t : tw (fun p => G (s + p)) [109, 117, 115, 116, 124, 111, 110, 99, 101, 124, 104, 97, 115, 124, 109, 111, 115, 116] 0 0 0 false = (-1, 0, 2) := by
            simp [tw, a1, a8, a9, a10] <;> rfl
          have k : ckd G s = 1 := by
            simp [ckd, a1, a8, a9, a10]
          rw [t, k]
          have p : pL G (ckw 1) s = -1 - (s + 2) := by
            show pL G [111, 110, 99, 101] s = _
            rw [pL_y (by omega) (show G (s) = 111 by exact a8), pL_y (by omega) (show G (s + 1) = 110 by exact a9), pL_n (by omega) (show ¬ G (s + 1 + 1) = 99 by rw [show s + 1 + 1 = s + 2 by omega]; exact a10)]
            all_goals omega
          rw [p]
          refine ⟨by simp, fun z => ?_⟩
          simp at z
          omega
      · have t : tw (fun p => G (s + p)) [109, 117, 115, 116, 124, 111, 110, 99, 101, 124, 104, 97, 115, 124, 109, 111, 115, 116] 0 0 0 false = (-1, 0, 1) := by
          simp [tw, a1, a8, a9] <;> rfl
        have k : ckd G s = 1 := by
          simp [ckd, a1, a8, a9]
        rw [t, k]
        have p : pL G (ckw 1) s = -1 - (s + 1) := by
          show pL G [111, 110, 99, 101] s = _
          rw [pL_y (by omega) (show G (s) = 111 by exact a8), pL_n (by omega) (show ¬ G (s + 1) = 110 by exact a9)]
          all_goals omega
        rw [p]
        refine ⟨by simp, fun z => ?_⟩
        simp at z
        omega
    · by_cases a12 : G (s) = 104
      · by_cases a13 : G (s + 1) = 97
        · by_cases a14 : G (s + 2) = 115
          · have t : tw (fun p => G (s + p)) [109, 117, 115, 116, 124, 111, 110, 99, 101, 124, 104, 97, 115, 124, 109, 111, 115, 116] 0 0 0 false = (2, 3, 3) := by
              simp [tw, a1, a8, a12, a13, a14] <;> rfl
            have k : ckd G s = 2 := by
              simp [ckd, a1, a8, a12, a13, a14]
            rw [t, k]
            have p : pL G (ckw 2) s = s + 3 := by
              show pL G [104, 97, 115] s = _
              rw [pL_y (by omega) (show G (s) = 104 by exact a12), pL_y (by omega) (show G (s + 1) = 97 by exact a13), pL_y (by omega) (show G (s + 1 + 1) = 115 by rw [show s + 1 + 1 = s + 2 by omega]; exact a14), pL]
              all_goals omega
            rw [p]
            exact ⟨rfl, fun _ => rfl⟩
          · have t : tw (fun p => G (s + p)) [109, 117, 115, 116, 124, 111, 110, 99, 101, 124, 104, 97, 115, 124, 109, 111, 115, 116] 0 0 0 false = (-1, 0, 2) := by
              simp [tw, a1, a8, a12, a13, a14] <;> rfl
            have k : ckd G s = 2 := by
              simp [ckd, a1, a8, a12, a13, a14]
            rw [t, k]
            have p : pL G (ckw 2) s = -1 - (s + 2) := by
              show pL G [104, 97, 115] s = _
              rw [pL_y (by omega) (show G (s) = 104 by exact a12), pL_y (by omega) (show G (s + 1) = 97 by exact a13), pL_n (by omega) (show ¬ G (s + 1 + 1) = 115 by rw [show s + 1 + 1 = s + 2 by omega]; exact a14)]
              all_goals omega
            rw [p]
            refine ⟨by simp, fun z => ?_⟩
            simp at z
            omega
        · have t : tw (fun p => G (s + p)) [109, 117, 115, 116, 124, 111, 110, 99, 101, 124, 104, 97, 115, 124, 109, 111, 115, 116] 0 0 0 false = (-1, 0, 1) := by
            simp [tw, a1, a8, a12, a13] <;> rfl
          have k : ckd G s = 2 := by
            simp [ckd, a1, a8, a12, a13]
          rw [t, k]
          have p : pL G (ckw 2) s = -1 - (s + 1) := by
            show pL G [104, 97, 115] s = _
            rw [pL_y (by omega) (show G (s) = 104 by exact a12), pL_n (by omega) (show ¬ G (s + 1) = 97 by exact a13)]
            all_goals omega
          rw [p]
          refine ⟨by simp, fun z => ?_⟩
          simp at z
          omega
      · have t : tw (fun p => G (s + p)) [109, 117, 115, 116, 124, 111, 110, 99, 101, 124, 104, 97, 115, 124, 109, 111, 115, 116] 0 0 0 false = (-1, 0, 0) := by
          simp [tw, a1, a8, a12] <;> rfl
        have k : ckd G s = 2 := by
          simp [ckd, a1, a8, a12]
        rw [t, k]
        have p : pL G (ckw 2) s = -1 - (s + 0) := by
          show pL G [104, 97, 115] s = _
          rw [pL_n (by omega) (show ¬ G (s) = 104 by exact a12)]
          omega
        rw [p]
        refine ⟨by simp, fun z => ?_⟩
        simp at z
        omega
theorem st_word_wl : wl 1 = [100, 101, 108, 124, 115, 101, 116, 124, 97, 100, 100] := by decide
theorem st_word {G : Int → Int} {s : Int} (h : 0 ≤ s) : pK (wl 1) G s = pL G (skw (skd G s)) s ∧ (0 ≤ pK (wl 1) G s → (tw (fun p => G (s + p)) (wl 1) 0 0 0 false).1 = skd G s) := by
  rw [st_word_wl]
  unfold pK
  rw [if_neg (by omega)]
  by_cases a1 : G (s) = 100
  · by_cases a2 : G (s + 1) = 101
    · by_cases a3 : G (s + 2) = 108
      · have t : tw (fun p => G (s + p)) [100, 101, 108, 124, 115, 101, 116, 124, 97, 100, 100] 0 0 0 false = (0, 3, 3) := by
          simp [tw, a1, a2, a3] <;> rfl
        have k : skd G s = 0 := by
          simp [skd, a1, a2, a3]
        rw [t, k]
        have p : pL G (skw 0) s = s + 3 := by
          show pL G [100, 101, 108] s = _
          rw [pL_y (by omega) (show G (s) = 100 by exact a1), pL_y (by omega) (show G (s + 1) = 101 by exact a2), pL_y (by omega) (show G (s + 1 + 1) = 108 by rw [show s + 1 + 1 = s + 2 by omega]; exact a3), pL]
          all_goals omega
        rw [p]
        exact ⟨rfl, fun _ => rfl⟩
      · have t : tw (fun p => G (s + p)) [100, 101, 108, 124, 115, 101, 116, 124, 97, 100, 100] 0 0 0 false = (-1, 0, 2) := by
          simp [tw, a1, a2, a3] <;> rfl
        have k : skd G s = 0 := by
          simp [skd, a1, a2, a3]
        rw [t, k]
        have p : pL G (skw 0) s = -1 - (s + 2) := by
          show pL G [100, 101, 108] s = _
          rw [pL_y (by omega) (show G (s) = 100 by exact a1), pL_y (by omega) (show G (s + 1) = 101 by exact a2), pL_n (by omega) (show ¬ G (s + 1 + 1) = 108 by rw [show s + 1 + 1 = s + 2 by omega]; exact a3)]
          all_goals omega
        rw [p]
        refine ⟨by simp, fun z => ?_⟩
        simp at z
        omega
    · have t : tw (fun p => G (s + p)) [100, 101, 108, 124, 115, 101, 116, 124, 97, 100, 100] 0 0 0 false = (-1, 0, 1) := by
        simp [tw, a1, a2] <;> rfl
      have k : skd G s = 0 := by
        simp [skd, a1, a2]
      rw [t, k]
      have p : pL G (skw 0) s = -1 - (s + 1) := by
        show pL G [100, 101, 108] s = _
        rw [pL_y (by omega) (show G (s) = 100 by exact a1), pL_n (by omega) (show ¬ G (s + 1) = 101 by exact a2)]
        all_goals omega
      rw [p]
      refine ⟨by simp, fun z => ?_⟩
      simp at z
      omega
  · by_cases a4 : G (s) = 115
    · by_cases a5 : G (s + 1) = 101
      · by_cases a6 : G (s + 2) = 116
        · have t : tw (fun p => G (s + p)) [100, 101, 108, 124, 115, 101, 116, 124, 97, 100, 100] 0 0 0 false = (1, 3, 3) := by
            simp [tw, a1, a4, a5, a6] <;> rfl
          have k : skd G s = 1 := by
            simp [skd, a1, a4, a5, a6]
          rw [t, k]
          have p : pL G (skw 1) s = s + 3 := by
            show pL G [115, 101, 116] s = _
            rw [pL_y (by omega) (show G (s) = 115 by exact a4), pL_y (by omega) (show G (s + 1) = 101 by exact a5), pL_y (by omega) (show G (s + 1 + 1) = 116 by rw [show s + 1 + 1 = s + 2 by omega]; exact a6), pL]
            all_goals omega
          rw [p]
          exact ⟨rfl, fun _ => rfl⟩
        · have t : tw (fun p => G (s + p)) [100, 101, 108, 124, 115, 101, 116, 124, 97, 100, 100] 0 0 0 false = (-1, 0, 2) := by
            simp [tw, a1, a4, a5, a6] <;> rfl
          have k : skd G s = 1 := by
            simp [skd, a1, a4, a5, a6]
          rw [t, k]
          have p : pL G (skw 1) s = -1 - (s + 2) := by
            show pL G [115, 101, 116] s = _
            rw [pL_y (by omega) (show G (s) = 115 by exact a4), pL_y (by omega) (show G (s + 1) = 101 by exact a5), pL_n (by omega) (show ¬ G (s + 1 + 1) = 116 by rw [show s + 1 + 1 = s + 2 by omega]; exact a6)]
            all_goals omega
          rw [p]
          refine ⟨by simp, fun z => ?_⟩
          simp at z
          omega
      · have t : tw (fun p => G (s + p)) [100, 101, 108, 124, 115, 101, 116, 124, 97, 100, 100] 0 0 0 false = (-1, 0, 1) := by
          simp [tw, a1, a4, a5] <;> rfl
        have k : skd G s = 1 := by
          simp [skd, a1, a4, a5]
        rw [t, k]
        have p : pL G (skw 1) s = -1 - (s + 1) := by
          show pL G [115, 101, 116] s = _
          rw [pL_y (by omega) (show G (s) = 115 by exact a4), pL_n (by omega) (show ¬ G (s + 1) = 101 by exact a5)]
          all_goals omega
        rw [p]
        refine ⟨by simp, fun z => ?_⟩
        simp at z
        omega
    · by_cases a7 : G (s) = 97
      · by_cases a8 : G (s + 1) = 100
        · by_cases a9 : G (s + 2) = 100
          · have t : tw (fun p => G (s + p)) [100, 101, 108, 124, 115, 101, 116, 124, 97, 100, 100] 0 0 0 false = (2, 3, 3) := by
              simp [tw, a1, a4, a7, a8, a9] <;> rfl
            have k : skd G s = 2 := by
              simp [skd, a1, a4, a7, a8, a9]
            rw [t, k]
            have p : pL G (skw 2) s = s + 3 := by
              show pL G [97, 100, 100] s = _
              rw [pL_y (by omega) (show G (s) = 97 by exact a7), pL_y (by omega) (show G (s + 1) = 100 by exact a8), pL_y (by omega) (show G (s + 1 + 1) = 100 by rw [show s + 1 + 1 = s + 2 by omega]; exact a9), pL]
              all_goals omega
            rw [p]
            exact ⟨rfl, fun _ => rfl⟩
          · have t : tw (fun p => G (s + p)) [100, 101, 108, 124, 115, 101, 116, 124, 97, 100, 100] 0 0 0 false = (-1, 0, 2) := by
              simp [tw, a1, a4, a7, a8, a9] <;> rfl
            have k : skd G s = 2 := by
              simp [skd, a1, a4, a7, a8, a9]
            rw [t, k]
            have p : pL G (skw 2) s = -1 - (s + 2) := by
              show pL G [97, 100, 100] s = _
              rw [pL_y (by omega) (show G (s) = 97 by exact a7), pL_y (by omega) (show G (s + 1) = 100 by exact a8), pL_n (by omega) (show ¬ G (s + 1 + 1) = 100 by rw [show s + 1 + 1 = s + 2 by omega]; exact a9)]
              all_goals omega
            rw [p]
            refine ⟨by simp, fun z => ?_⟩
            simp at z
            omega
        · have t : tw (fun p => G (s + p)) [100, 101, 108, 124, 115, 101, 116, 124, 97, 100, 100] 0 0 0 false = (-1, 0, 1) := by
            simp [tw, a1, a4, a7, a8] <;> rfl
          have k : skd G s = 2 := by
            simp [skd, a1, a4, a7, a8]
          rw [t, k]
          have p : pL G (skw 2) s = -1 - (s + 1) := by
            show pL G [97, 100, 100] s = _
            rw [pL_y (by omega) (show G (s) = 97 by exact a7), pL_n (by omega) (show ¬ G (s + 1) = 100 by exact a8)]
            all_goals omega
          rw [p]
          refine ⟨by simp, fun z => ?_⟩
          simp at z
          omega
      · have t : tw (fun p => G (s + p)) [100, 101, 108, 124, 115, 101, 116, 124, 97, 100, 100] 0 0 0 false = (-1, 0, 0) := by
          simp [tw, a1, a4, a7] <;> rfl
        have k : skd G s = 2 := by
          simp [skd, a1, a4, a7]
        rw [t, k]
        have p : pL G (skw 2) s = -1 - (s + 0) := by
          show pL G [97, 100, 100] s = _
          rw [pL_n (by omega) (show ¬ G (s) = 97 by exact a7)]
          omega
        rw [p]
        refine ⟨by simp, fun z => ?_⟩
        simp at z
        omega
end
section
-- c5
def cks (G : Int → Int) (q : Int) : Int := pB G 32 (pT G 1 q)
def ckp (G : Int → Int) (len s k : Int) : Int := if k < 2 then pL G (ckw k) s else if k = 2 then pP cdb G (pB G 32 (pL G (ckw k) s)) else pN G len 1 40 (pB G 32 (pL G (ckw k) s))
def ckv (G : Int → Int) (len s k : Int) : Int := if k = 2 then G (pB G 32 (pL G (ckw k) s)) else vl G (pB G 32 (pL G (ckw k) s)) (nd G (len - pB G 32 (pL G (ckw k) s)).toNat (pB G 32 (pL G (ckw k) s)))
def ckq (G : Int → Int) (len q : Int) : Int := if cks G q < 0 then cks G q else pB G 10 (ckp G len (cks G q) (ckd G (cks G q)))
theorem ckd_bd (G : Int → Int) (s : Int) : 0 ≤ ckd G s ∧ ckd G s ≤ 3 := by
  unfold ckd
  split
  · split <;> omega
  · split <;> omega
theorem pK_neg {L : List Int} {G : Int → Int} {q : Int} (h : q < 0) : pK L G q = q := by
  unfold pK
  rw [if_pos h]
theorem x_ln2 {e : w_E} {N i : Nat} {S : w_S} {f len a w q : Int} {G : Int → Int} {g : Nat → Int} {K : w_S → e_R} {Q : Int → w_S → Prop} (hN : 2001 ≤ N) (h : TX S f len G) (ha : At f len a w q) (hi : i < 10) (hk : ∀ g' a' w', At f len a' w' (ckq G len q) → (0 ≤ ckq G len q → (g' (3 * i) = vl G q 3 ∧ g' (3 * i + 1) = ckd G (cks G q) ∧ (2 ≤ ckd G (cks G q) → g' (3 * i + 2) = ckv G len (cks G q) (ckd G (cks G q)))) ∧ ∀ j, j < 3 * i → g' j = g j) → Ok (K (tp (w_arr S 36 g') a' w')) Q) : Ok (Ln2 e N 3 (i : Int) (tp (w_arr S 36 g) a w) K) Q := by
  have hA : ∀ g, TX (w_arr S 36 g) f len G := fun g => h.arr (by decide) (by decide)
  clear h
  unfold Ln2
  refine tk_b (x_takeTag hN (hA _) ha) (fun y0 a0 w0 ha0 hy0 => ?_)
  dsimp only
  refine ok_ib (by omega) ?_
  rw [tp_put _ _ _ _ (by decide), w_arr_put]
  refine tk_b (x_takeByte (hA _) ha0 (by decide)) (fun _ b0 v0 hb0 _ => ?_)
  dsimp only
  have hcs : pB G 32 (pT G 1 q) = cks G q := rfl
  rw [hcs] at hb0
  refine tk_b (x_word0 hN (hA _) hb0) (fun y1 a1 w1 ha1 hy1 => ?_)
  dsimp only
  refine ok_nb (by omega) (ok_ib (by omega) ?_)
  rw [tp_put _ _ _ _ (by decide), w_arr_put]
  have kb := ckd_bd G (cks G q)
  by_cases c : 0 ≤ pK (wl 0) G (cks G q)
  · have c0 : 0 ≤ cks G q := by
      rcases Int.lt_or_le (cks G q) 0 with d | d
      · rw [pK_neg d] at c
        exact c
      · exact d
    obtain ⟨k1, k2⟩ := ck_word (G := G) c0
    have y1e := (hy1 (ha1.wm c)).1
    rw [k2 c] at y1e
    have y0e : y0 = vl G q 3 := (hy0 (ha0.wm (pB_ge c0).1)).1
    rw [k1] at ha1 c
    have qe : ckq G len q = pB G 10 (ckp G len (cks G q) (ckd G (cks G q))) := by
      unfold ckq
      rw [if_neg (by omega)]
    rw [qe] at hk
    generalize hs : cks G q = s at *
    generalize hd : ckd G s = d at *
    subst y1e
    subst y0e
    by_cases d1 : y1 < 2
    · refine ok_t d1 (tk_b (x_takeByte (hA _) ha1 (by decide)) (fun _ b1 v1 hb1 _ => ?_))
      dsimp only
      refine ok_nb (by omega) ?_
      have pe : ckp G len s y1 = pL G (ckw y1) s := by
        unfold ckp
        rw [if_pos d1]
      rw [pe] at hk
      refine hk _ _ _ hb1 (fun z => ⟨⟨?_, ?_, fun z2 => by omega⟩, fun j hj => ?_⟩)
      · simp only [pt_at]
        rw [if_neg (by omega), if_pos (by omega)]
      · simp only [pt_at]
        rw [if_pos (by omega)]
      · simp only [pt_at]
        rw [if_neg (by omega), if_neg (by omega)]
    · refine ok_e d1 (tk_b (x_takeByte (hA _) ha1 (by decide)) (fun _ b1 v1 hb1 _ => ?_))
      dsimp only
      refine ok_nb (by omega) ?_
      by_cases d2 : y1 = 2
      · refine ok_e (by omega) (tk_b (x_takeCode (hA _) hb1) (fun y2 a2 w2 ha2 hy2 => ?_))
        dsimp only
        refine ok_ib (by omega) ?_
        rw [tp_put _ _ _ _ (by decide), w_arr_put]
        refine tk_b (x_takeByte (hA _) ha2 (by decide)) (fun _ b2 v2 hb2 _ => ?_)
        dsimp only
        refine ok_nb (by omega) ?_
        have pe : ckp G len s y1 = pP cdb G (pB G 32 (pL G (ckw y1) s)) := by
          unfold ckp
          rw [if_neg d1, if_pos d2]
        rw [pe] at hk
        refine hk _ _ _ hb2 (fun z => ⟨⟨?_, ?_, fun z2 => ?_⟩, fun j hj => ?_⟩)
        · simp only [pt_at]
          rw [if_neg (by omega), if_neg (by omega), if_pos (by omega)]
        · simp only [pt_at]
          rw [if_neg (by omega), if_pos (by omega)]
        · simp only [pt_at]
          rw [if_pos (by omega)]
          unfold ckv
          rw [if_pos d2]
          exact (hy2 (ha2.wm (pB_ge z).1)).1
        · simp only [pt_at]
          rw [if_neg (by omega), if_neg (by omega), if_neg (by omega)]
      · refine ok_t d2 (tk_b (x_takeNumber hN (hA _) hb1) (fun y2 a2 w2 ha2 hy2 => ?_))
        dsimp only
        refine ok_ib (by omega) ?_
        rw [tp_put _ _ _ _ (by decide), w_arr_put]
        refine tk_b (x_takeByte (hA _) ha2 (by decide)) (fun _ b2 v2 hb2 _ => ?_)
        dsimp only
        refine ok_nb (by omega) ?_
        have pe : ckp G len s y1 = pN G len 1 40 (pB G 32 (pL G (ckw y1) s)) := by
          unfold ckp
          rw [if_neg d1, if_neg d2]
        rw [pe] at hk
        refine hk _ _ _ hb2 (fun z => ⟨⟨?_, ?_, fun z2 => ?_⟩, fun j hj => ?_⟩)
        · simp only [pt_at]
          rw [if_neg (by omega), if_neg (by omega), if_pos (by omega)]
        · simp only [pt_at]
          rw [if_neg (by omega), if_pos (by omega)]
        · simp only [pt_at]
          rw [if_pos (by omega)]
          unfold ckv
          rw [if_neg d2]
          exact (hy2 (ha2.wm (pB_ge z).1)).1
        · simp only [pt_at]
          rw [if_neg (by omega), if_neg (by omega), if_neg (by omega)]
  · have qe : ckq G len q = pK (wl 0) G (cks G q) := by
      unfold ckq
      rcases Int.lt_or_le (cks G q) 0 with d | d
      · rw [if_pos d, pK_neg d]
      · rw [if_neg (by omega)]
        have k1 := (ck_word (G := G) d).1
        rw [k1] at c ⊢
        unfold ckp
        generalize pL G (ckw (ckd G (cks G q))) (cks G q) = u at c ⊢
        have hu : u < 0 := by omega
        split
        · rw [pB_neg hu]
        · split
          · rw [pB_neg hu, pP_neg hu, pB_neg hu]
          · rw [pB_neg hu, pN_neg hu, pB_neg hu]
    rw [qe] at hk
    generalize pK (wl 0) G (cks G q) = u at *
    have hu : u < 0 := by omega
    by_cases d1 : y1 < 2
    · refine ok_t d1 (tk_b (x_takeByte (hA _) ha1 (by decide)) (fun _ b1 v1 hb1 _ => ?_))
      dsimp only
      rw [pB_neg hu] at hb1
      refine ok_nb (by omega) (hk _ _ _ hb1 (fun z => by omega))
    · refine ok_e d1 (tk_b (x_takeByte (hA _) ha1 (by decide)) (fun _ b1 v1 hb1 _ => ?_))
      dsimp only
      rw [pB_neg hu] at hb1
      refine ok_nb (by omega) ?_
      by_cases d2 : y1 = 2
      · refine ok_e (by omega) (tk_b (x_takeCode (hA _) hb1) (fun y2 a2 w2 ha2 hy2 => ?_))
        dsimp only
        refine ok_ib (by omega) ?_
        rw [tp_put _ _ _ _ (by decide), w_arr_put]
        rw [pP_neg hu] at ha2
        refine tk_b (x_takeByte (hA _) ha2 (by decide)) (fun _ b2 v2 hb2 _ => ?_)
        dsimp only
        rw [pB_neg hu] at hb2
        refine ok_nb (by omega) (hk _ _ _ hb2 (fun z => by omega))
      · refine ok_t d2 (tk_b (x_takeNumber hN (hA _) hb1) (fun y2 a2 w2 ha2 hy2 => ?_))
        dsimp only
        refine ok_ib (by omega) ?_
        rw [tp_put _ _ _ _ (by decide), w_arr_put]
        rw [pN_neg hu] at ha2
        refine tk_b (x_takeByte (hA _) ha2 (by decide)) (fun _ b2 v2 hb2 _ => ?_)
        dsimp only
        rw [pB_neg hu] at hb2
        refine ok_nb (by omega) (hk _ _ _ hb2 (fun z => by omega))
/-- a tag in the reference -/
theorem l_tagText {e : w_E} {N : Nat} {R : w_S} {len lo p : Int} {G : Int → Int} (h : TR R len G) (h0 : 0 ≤ p) (hl : p ≤ len) : ∀ (k i nf : Nat), i + k = 3 → k < nf → (∀ j : Nat, j < i → dgt (G (p + j)) = true) → El_R_tagText e N nf 0 [p, lo, vl G p i, (i : Int)] [] R = some (if i + nd G k (p + i) < 3 then -1 - (p + (i + nd G k (p + i) : Nat)) else if vl G p 3 < lo then -1 - p else p + 3, if i + nd G k (p + i) < 3 then R else w_put R 129 3 (vl G p 3))
  | _, _, 0, _, h, _ => by omega
  | 0, i, nf + 1, hk, _, hj => by
    have lb : len ≤ 2000 := h.2.2.1
    have : i = 3 := by omega
    subst this
    refine ok_eq ?_
    rw [El_R_tagText, nd]
    rw [show (if 3 + 0 < 3 then (-1 : Int) - (p + ((3 + 0 : Nat) : Int)) else if vl G p 3 < lo then -1 - p else p + 3) = if vl G p 3 < lo then -1 - p else p + 3 from if_neg (by omega), show (if 3 + 0 < 3 then R else w_put R 129 3 (vl G p 3)) = w_put R 129 3 (vl G p 3) from if_neg (by omega)]
    refine ok_t (by omega) ?_
    by_cases c : lo ≤ vl G p 3
    · rw [show (if vl G p 3 < lo then -1 - p else p + 3) = p + 3 from if_neg (by omega)]
      exact ok_t c (ok_nb (by omega) (ok_s ⟨rfl, rfl⟩))
    · rw [show (if vl G p 3 < lo then -1 - p else p + 3) = -1 - p from if_pos (by omega)]
      exact ok_e c (ok_nb (by omega) (ok_s ⟨rfl, rfl⟩))
  | k + 1, i, nf + 1, hk, hf, hj => by
    have lb : len ≤ 2000 := h.2.2.1
    have hx : E_R_at e N (p + i) R = some (G (p + i), R) := x_at h (by omega)
    have hb := h.b (show 0 ≤ p + i by omega)
    have hvb := vl_b (G := G) (p := p) i hj
    by_cases c : dgt (G (p + i)) = true
    · have c1 := dgt_iff.1 c
      have ih := l_tagText (e := e) (N := N) (lo := lo) h h0 hl k (i + 1) nf (by omega) (by omega) (fun j hj2 => by
        rcases Nat.lt_or_ge j i with d | d
        · exact hj j d
        · rw [show j = i by omega]
          exact c)
      have e1 : i + nd G (k + 1) (p + i) = i + 1 + nd G k (p + (i + 1 : Nat)) := by
        rw [nd, if_pos c, show p + ((i + 1 : Nat) : Int) = p + i + 1 by omega]
        omega
      have e2 : vl G p (i + 1) = 10 * vl G p i + G (p + i) - 48 := by
        rw [vl, if_pos (by omega)]
        omega
      rw [e1, ← ih, e2, show ((i + 1 : Nat) : Int) = (i : Int) + 1 by omega]
      rw [show ((i + 1 : Nat) : Int) = (i : Int) + 1 by omega, e2] at ih
      obtain ⟨v, T, hT⟩ : ∃ v T, El_R_tagText e N nf 0 [p, lo, 10 * vl G p i + G (p + i) - 48, (i : Int) + 1] [] R = some (v, T) := ⟨_, _, ih⟩
      rw [hT]
      clear ih e1 e2 hj
      refine ok_eq ?_
      rw [El_R_tagText]
      refine ok_e (by omega) (ok_nb (by omega) (ok_b (ok_of hx ?_)))
      dsimp only
      refine ok_e (by omega) (ok_e (by omega) (ok_nb (by omega) (ok_b (ok_of hx ?_))))
      dsimp only
      refine ok_nb (by omega) (ok_nb (by omega) (ok_nb (by omega) ?_))
      exact ok_of hT ⟨rfl, rfl⟩
    · have c1 : ¬ (48 ≤ G (p + i) ∧ G (p + i) ≤ 57) := fun z => c (dgt_iff.2 z)
      have e1 : nd G (k + 1) (p + i) = 0 := by
        rw [nd, if_neg c]
      rw [e1, if_pos (by omega), if_pos (by omega)]
      refine ok_eq ?_
      rw [El_R_tagText]
      refine ok_e (by omega) (ok_nb (by omega) (ok_b (ok_of hx ?_)))
      dsimp only
      by_cases d : G (p + i) < 48
      · exact ok_t d (ok_nb (by omega) (ok_s ⟨by omega, rfl⟩))
      · exact ok_e d (ok_t (by omega) (ok_nb (by omega) (ok_s ⟨by omega, rfl⟩)))
theorem x_tagText {e : w_E} {N : Nat} {R : w_S} {len lo p : Int} {G : Int → Int} (hN : 2001 ≤ N) (h : TR R len G) (h0 : 0 ≤ p) (hl : p ≤ len) : ∃ x, E_R_tagText e N p lo R = some (pT G lo p, x) ∧ (0 ≤ pT G lo p → x = w_put R 129 3 (vl G p 3)) ∧ (x = R ∨ x = w_put R 129 3 (vl G p 3)) := by
  have k := l_tagText (e := e) (N := N) (lo := lo) h h0 hl 3 0 N (by omega) (by omega) (fun j hj => by omega)
  rw [Nat.zero_add, show p + ((0 : Nat) : Int) = p by omega] at k
  unfold E_R_tagText
  unfold pT
  rw [if_neg (by omega)]
  by_cases c : nd G 3 p < 3
  · rw [if_pos c, if_pos c] at k
    rw [if_pos c]
    exact ⟨R, k, fun z => by omega, Or.inl rfl⟩
  · rw [if_neg c, if_neg c] at k
    rw [if_neg c]
    exact ⟨_, k, fun z => rfl, Or.inr rfl⟩
end
