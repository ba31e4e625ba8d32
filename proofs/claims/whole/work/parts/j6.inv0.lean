set_option maxHeartbeats 4000000 in
theorem inv0 {e : w_E} {N : Nat} {h : cr_H} (hk : cr_chk h = true) : Inv e N 0 (cr_S h) (cr_S h) := by
  unfold cr_chk at hk
  simp only [Bool.and_eq_true] at hk
  obtain ⟨k1, _, k3, y2, y91, y115, y232⟩ := hk
  have hl := Nat.eq_of_beq_eq_true k1
  have r2 : ∀ p, (cr_S h).1 2 p = 0 := cr_zr_v y2
  have r91 : ∀ p, (cr_S h).1 91 p = 0 := cr_zr_v y91
  have r115 : ∀ p, (cr_S h).1 115 p = 0 := cr_zr_v y115
  have r232 : ∀ p, (cr_S h).1 232 p = 0 := cr_zr_v y232
  have f : ∀ (i : Nat) (q : Nat × Nat × Int), cr_V[i]? = some q → (cr_S h).1 q.1 q.2.1 = q.2.2 := fun i q hq => of_decide_eq_true (List.all_eq_true.mp k3 q (List.mem_of_getElem? hq))
  have f3_0 : (cr_S h).1 3 0 = 0 := f 0 (3, 0, 0) rfl
  have f3_5 : (cr_S h).1 3 5 = 0 := f 1 (3, 5, 0) rfl
  have f17_0 : (cr_S h).1 17 0 = 0 := f 2 (17, 0, 0) rfl
  have f17_3 : (cr_S h).1 17 3 = 0 := f 3 (17, 3, 0) rfl
  have f17_7 : (cr_S h).1 17 7 = 0 := f 4 (17, 7, 0) rfl
  have f27_1 : (cr_S h).1 27 1 = 0 := f 5 (27, 1, 0) rfl
  have f27_2 : (cr_S h).1 27 2 = 0 := f 6 (27, 2, 0) rfl
  have f27_4 : (cr_S h).1 27 4 = 0 := f 7 (27, 4, 0) rfl
  have f35_0 : (cr_S h).1 35 0 = 0 := f 8 (35, 0, 0) rfl
  have f35_1 : (cr_S h).1 35 1 = 0 := f 9 (35, 1, 0) rfl
  have f35_2 : (cr_S h).1 35 2 = 0 := f 10 (35, 2, 0) rfl
  have f35_3 : (cr_S h).1 35 3 = 0 := f 11 (35, 3, 0) rfl
  have f46_0 : (cr_S h).1 46 0 = 0 := f 12 (46, 0, 0) rfl
  have f46_4 : (cr_S h).1 46 4 = 0 := f 13 (46, 4, 0) rfl
  have f46_12 : (cr_S h).1 46 12 = 0 := f 14 (46, 12, 0) rfl
  have f62_3 : (cr_S h).1 62 3 = 0 := f 15 (62, 3, 0) rfl
  have f62_14 : (cr_S h).1 62 14 = 0 := f 16 (62, 14, 0) rfl
  have f76_0 : (cr_S h).1 76 0 = 0 := f 17 (76, 0, 0) rfl
  have f76_7 : (cr_S h).1 76 7 = 0 := f 18 (76, 7, 0) rfl
  have f76_11 : (cr_S h).1 76 11 = 0 := f 19 (76, 11, 0) rfl
  have f89_0 : (cr_S h).1 89 0 = 0 := f 20 (89, 0, 0) rfl
  have f0_17 : (cr_S h).1 0 17 = 0 := f 21 (0, 17, 0) rfl
  have f129_12 : (cr_S h).1 129 12 = 0 := f 22 (129, 12, 0) rfl
  have f129_13 : (cr_S h).1 129 13 = 0 := f 23 (129, 13, 0) rfl
  have f129_17 : (cr_S h).1 129 17 = 0 := f 24 (129, 17, 0) rfl
  have f129_23 : (cr_S h).1 129 23 = 0 := f 25 (129, 23, 0) rfl
  have f129_24 : (cr_S h).1 129 24 = 0 := f 26 (129, 24, 0) rfl
  have f129_26 : (cr_S h).1 129 26 = 0 := f 27 (129, 26, 0) rfl
  have f129_31 : (cr_S h).1 129 31 = 0 := f 28 (129, 31, 0) rfl
  have f129_65 : (cr_S h).1 129 65 = 0 := f 29 (129, 65, 0) rfl
  have f129_68 : (cr_S h).1 129 68 = 0 := f 30 (129, 68, 0) rfl
  have f129_114 : (cr_S h).1 129 114 = 0 := f 31 (129, 114, 0) rfl
  have f129_122 : (cr_S h).1 129 122 = 0 := f 32 (129, 122, 0) rfl
  have f129_125 : (cr_S h).1 129 125 = 0 := f 33 (129, 125, 0) rfl
  have f129_127 : (cr_S h).1 129 127 = 0 := f 34 (129, 127, 0) rfl
  have f129_131 : (cr_S h).1 129 131 = 0 := f 35 (129, 131, 0) rfl
  have f129_140 : (cr_S h).1 129 140 = 0 := f 36 (129, 140, 0) rfl
  have f129_144 : (cr_S h).1 129 144 = 0 := f 37 (129, 144, 0) rfl
  have f129_148 : (cr_S h).1 129 148 = 0 := f 38 (129, 148, 0) rfl
  have f129_83 : (cr_S h).1 129 83 = 0 := f 39 (129, 83, 0) rfl
  have f129_87 : (cr_S h).1 129 87 = 0 := f 40 (129, 87, 0) rfl
  have f129_93 : (cr_S h).1 129 93 = 0 := f 41 (129, 93, 0) rfl
  have f129_96 : (cr_S h).1 129 96 = 0 := f 42 (129, 96, 0) rfl
  have f129_104 : (cr_S h).1 129 104 = 0 := f 43 (129, 104, 0) rfl
  have f129_111 : (cr_S h).1 129 111 = 0 := f 44 (129, 111, 0) rfl
  have f229_0 : (cr_S h).1 229 0 = 1 := f 45 (229, 0, 1) rfl
  have f229_1 : (cr_S h).1 229 1 = 1 := f 46 (229, 1, 1) rfl
  have f229_2 : (cr_S h).1 229 2 = 1 := f 47 (229, 2, 1) rfl
  have f229_3 : (cr_S h).1 229 3 = 1 := f 48 (229, 3, 1) rfl
  have f229_4 : (cr_S h).1 229 4 = 1 := f 49 (229, 4, 1) rfl
  have f229_5 : (cr_S h).1 229 5 = 1 := f 50 (229, 5, 1) rfl
  have f129_7 : (cr_S h).1 129 7 = 0 := f 51 (129, 7, 0) rfl
  have f129_8 : (cr_S h).1 129 8 = 0 := f 52 (129, 8, 0) rfl
  have f129_9 : (cr_S h).1 129 9 = 0 := f 53 (129, 9, 0) rfl
  have f129_10 : (cr_S h).1 129 10 = 0 := f 54 (129, 10, 0) rfl
  have f129_11 : (cr_S h).1 129 11 = -1 := f 55 (129, 11, -1) rfl
  have f0_12 : (cr_S h).1 0 12 = 0 := f 56 (0, 12, 0) rfl
  have f0_13 : (cr_S h).1 0 13 = 0 := f 57 (0, 13, 0) rfl
  have f0_14 : (cr_S h).1 0 14 = 0 := f 58 (0, 14, 0) rfl
  have f0_15 : (cr_S h).1 0 15 = 0 := f 59 (0, 15, 0) rfl
  have f0_16 : (cr_S h).1 0 16 = -1 := f 60 (0, 16, -1) rfl
  have f129_1 : (cr_S h).1 129 1 = 0 := f 61 (129, 1, 0) rfl
  have f1_1 : (cr_S h).1 1 1 = 0 := f 62 (1, 1, 0) rfl
  have f1_2 : (cr_S h).1 1 2 = 0 := f 63 (1, 2, 0) rfl
  have f129_39 : (cr_S h).1 129 39 = 0 := f 64 (129, 39, 0) rfl
  have f106_2 : (cr_S h).1 106 2 = 0 := f 65 (106, 2, 0) rfl
  have f106_4 : (cr_S h).1 106 4 = 0 := f 66 (106, 4, 0) rfl
  have f106_8 : (cr_S h).1 106 8 = 0 := f 67 (106, 8, 0) rfl
  have f129_51 : (cr_S h).1 129 51 = 0 := f 68 (129, 51, 0) rfl
  have f129_102 : (cr_S h).1 129 102 = 0 := f 69 (129, 102, 0) rfl
  have f129_58 : (cr_S h).1 129 58 = 0 := f 70 (129, 58, 0) rfl
  have f129_159 : (cr_S h).1 129 159 = 0 := f 71 (129, 159, 0) rfl
  clear f
  have nx : (cr_S h).2.2.2.1 = 238 := hl
  have hC : Clean (cr_S h) := ⟨f3_0, f3_5, f17_0, f17_3, f17_7, f27_1, f27_2, f27_4, f35_0, f35_1, f35_2, f35_3, f46_0, f46_4, f46_12, f62_3, f62_14, f76_0, f76_7, f76_11, f89_0, f0_17, fun s _ => r91 s⟩
  have hF : Fg (cr_S h) := ⟨f129_12, f129_13, f129_17, f129_23, f129_24, f129_26, f129_31, f129_65, f129_68, f129_114, f129_122, f129_125, f129_127, f129_131, f129_140, f129_144, f129_148, f129_83, f129_87, f129_93, f129_96, f129_104, f129_111, fun s hs => by
    rcases (show s = 0 ∨ s = 1 ∨ s = 2 ∨ s = 3 ∨ s = 4 ∨ s = 5 by omega) with rfl | rfl | rfl | rfl | rfl | rfl
    · exact f229_0
    · exact f229_1
    · exact f229_2
    · exact f229_3
    · exact f229_4
    · exact f229_5⟩
  have l140 : e_len Tr (cr_S h) 140 1 = some 4096 := rfl
  have hT : Tx0 (cr_S h) 140 4096 0 := ⟨rfl, by decide, by rw [nx]; decide, by rw [nx]; decide, by rw [nx]; decide, by decide, l140, by decide, by decide, by decide, f129_23, fun u hu => absurd hu (Nat.not_lt_zero u)⟩
  have hH : Hs (cr_S h) (cr_S h) 0 0 140 4096 0 0 0 := hs0 hC hF hT (Or.inl rfl)
  have ht : tl (cr_S h) = 4096 := by
    show (e_len Tr (cr_S h) 140 1).getD 0 = 4096
    rw [l140]
    rfl
  refine ⟨0, 132, 4096, ⟨f0_12, Nat.le_refl 0, f1_1, (by show (0 : Int) ≤ 10240; decide), fun p => ?_, ⟨?_, ?_⟩, ⟨⟨rfl, rfl, Or.inl rfl, ?_, rfl, by decide, by decide, rfl⟩, (by show (132 : Nat) ≠ 140; decide), (by show (0 : Int) ≤ ((4096 : Nat) : Int); decide), fun p hp => ?_⟩, fun k hk => absurd hk (Nat.not_lt_zero k), ⟨?_, ?_⟩, hC, fun C hc => ⟨140, 4096, 0, 0, 0, hs0 hc hF hT (Or.inl rfl)⟩, fun k hk => absurd hk (Nat.not_lt_zero k), fun k m _ hm => absurd hm (Nat.not_lt_zero m)⟩, ⟨⟨?_, ?_, ?_, ?_, ?_, ?_, ?_, ?_, ?_, ?_, ?_⟩, ?_, ?_, ?_, Or.inl f0_16⟩, ⟨⟨?_, ?_, ?_, ?_, ?_, fun p hp => ?_⟩, ?_⟩, ⟨fun t _ _ => ?_, ⟨?_, ?_, ?_, fun k hk => ?_⟩, ⟨?_, ?_, ?_, fun k hk => ?_⟩, Or.inl ⟨f129_102, f106_8⟩, ⟨Or.inl ⟨rfl, rfl⟩, rfl, rfl⟩, fun b hb => cr_dl_n hb⟩, ⟨140, 4096, 0, 0, 0, hH, Or.inl f129_58⟩⟩
  · rw [r2]
    omega
  · rw [nx]
    decide
  · rw [ht]
    show 0 + 16384 ≤ _
    decide
  · rw [nx]
    decide
  · have hp : (p : Int) < 0 := hp
    omega
  · rw [f129_159]
    decide
  · rw [f129_159, f129_17]
    decide
  · rw [f129_7, f0_12]
  · rw [f129_8, f0_13]
  · rw [f129_9, f0_14]
  · rw [f129_10, f0_15]
  · rw [f129_11, f0_16]
  · rw [f0_12]
    decide
  · rw [f0_12]
    decide
  · rw [f0_13]
    decide
  · rw [f0_13]
    decide
  · rw [f0_16]
    decide
  · rw [f0_16]
    decide
  · rw [f0_14]
    decide
  · rw [f0_14, f0_13]
    decide
  · rw [f0_13]
    decide
  · rw [f129_1, f1_2]
  · rw [f1_2]
    decide
  · rw [f1_2]
    decide
  · rw [f1_1]
    decide
  · rw [f1_1, f1_2]
    decide
  · rw [f1_2] at hp
    omega
  · rw [f1_1, f1_2]
    decide
  · rw [r232, r115]
    exact ⟨rfl, Or.inl rfl, fun q => absurd rfl q⟩
  · rw [f129_39, f106_2]
  · rw [f106_2]
    decide
  · rw [f106_2]
    decide
  · rw [f106_2] at hk
    omega
  · rw [f129_51, f106_4]
  · rw [f106_4]
    decide
  · rw [f106_4]
    decide
  · rw [f106_4] at hk
    omega
