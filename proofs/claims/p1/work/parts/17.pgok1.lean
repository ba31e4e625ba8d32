theorem pg_c2 {α : Type} {b : Bool} {x y : Option α} {P : α → Prop} (h1 : ∀ M, x = some M → P M) (h2 : ∀ M, y = some M → P M) : ∀ M, cond b x y = some M → P M := by
  intro M h
  cases b
  · exact h2 M h
  · exact h1 M h
theorem pg_lf {α : Type} {i k : Nat} {e : α} {P : α → Prop} (h : i = k → P e) : ∀ M, cond (Nat.beq i k) (some e) none = some M → P M := by
  intro M hM
  cases hb : Nat.beq i k with
  | false => rw [hb] at hM; cases hM
  | true =>
    rw [hb] at hM
    cases hM
    exact h (Nat.eq_of_beq_eq_true hb)
theorem pg_no {α : Type} {P : α → Prop} : ∀ M, (none : Option α) = some M → P M := by
  intro M h
  cases h
theorem pg_lt {α : Type} {i k : Nat} {x : Option α} {P : α → Prop} (h : ∀ M, i < k → x = some M → P M) : ∀ M, cond (Nat.blt i k) x none = some M → P M := by
  intro M hM
  cases hb : Nat.blt i k with
  | false => rw [hb] at hM; cases hM
  | true =>
    rw [hb] at hM
    exact h M (Nat.le_of_ble_eq_true hb) hM
theorem pg_in {w : Cond} (h : w ∈ lw_tbl) (hg : goodWord w = true) : w ∈ pg_TW := List.mem_filter.mpr ⟨h, hg⟩
theorem pg_w1 {w : Cond} {i : Nat} (h : tables_1_1[i]? = some w) (hg : goodWord w = true) : w ∈ pg_TW := pg_in (List.mem_append_right _ (show w ∈ tables_1 from List.mem_append_left _ (List.mem_of_getElem? h))) hg
theorem pg_w2 {w : Cond} {i : Nat} (h : tables_1_2[i]? = some w) (hg : goodWord w = true) : w ∈ pg_TW := pg_in (List.mem_append_right _ (show w ∈ tables_1 from List.mem_append_right _ (List.mem_append_left _ (List.mem_of_getElem? h)))) hg
theorem pg_w3 {w : Cond} {i : Nat} (h : tables_1_3[i]? = some w) (hg : goodWord w = true) : w ∈ pg_TW := pg_in (List.mem_append_right _ (show w ∈ tables_1 from List.mem_append_right _ (List.mem_append_right _ (List.mem_append_left _ (List.mem_of_getElem? h))))) hg
theorem pg_w4 {w : Cond} {i : Nat} (h : tables_1_4[i]? = some w) (hg : goodWord w = true) : w ∈ pg_TW := pg_in (List.mem_append_right _ (show w ∈ tables_1 from List.mem_append_right _ (List.mem_append_right _ (List.mem_append_right _ (List.mem_append_left _ (List.mem_of_getElem? h)))))) hg
theorem pg_w5 {w : Cond} {i : Nat} (h : tables_1_5[i]? = some w) (hg : goodWord w = true) : w ∈ pg_TW := pg_in (List.mem_append_right _ (show w ∈ tables_1 from List.mem_append_right _ (List.mem_append_right _ (List.mem_append_right _ (List.mem_append_right _ (List.mem_append_left _ (List.mem_of_getElem? h))))))) hg
theorem pg_w6 {w : Cond} {i : Nat} (h : tables_1_6[i]? = some w) (hg : goodWord w = true) : w ∈ pg_TW := pg_in (List.mem_append_right _ (show w ∈ tables_1 from List.mem_append_right _ (List.mem_append_right _ (List.mem_append_right _ (List.mem_append_right _ (List.mem_append_right _ (List.mem_append_left _ (List.mem_of_getElem? h)))))))) hg
theorem pg_w7 {w : Cond} {i : Nat} (h : tables_1_7[i]? = some w) (hg : goodWord w = true) : w ∈ pg_TW := pg_in (List.mem_append_right _ (show w ∈ tables_1 from List.mem_append_right _ (List.mem_append_right _ (List.mem_append_right _ (List.mem_append_right _ (List.mem_append_right _ (List.mem_append_right _ (List.mem_append_left _ (List.mem_of_getElem? h))))))))) hg
theorem pg_w8 {w : Cond} {i : Nat} (h : tables_1_8[i]? = some w) (hg : goodWord w = true) : w ∈ pg_TW := pg_in (List.mem_append_right _ (show w ∈ tables_1 from List.mem_append_right _ (List.mem_append_right _ (List.mem_append_right _ (List.mem_append_right _ (List.mem_append_right _ (List.mem_append_right _ (List.mem_append_right _ (List.mem_append_left _ (List.mem_of_getElem? h)))))))))) hg
theorem pg_w9 {w : Cond} {i : Nat} (h : tables_1_9[i]? = some w) (hg : goodWord w = true) : w ∈ pg_TW := pg_in (List.mem_append_right _ (show w ∈ tables_1 from List.mem_append_right _ (List.mem_append_right _ (List.mem_append_right _ (List.mem_append_right _ (List.mem_append_right _ (List.mem_append_right _ (List.mem_append_right _ (List.mem_append_right _ (List.mem_append_left _ (List.mem_of_getElem? h))))))))))) hg
theorem pg_w10 {w : Cond} {i : Nat} (h : tables_1_10[i]? = some w) (hg : goodWord w = true) : w ∈ pg_TW := pg_in (List.mem_append_right _ (show w ∈ tables_1 from List.mem_append_right _ (List.mem_append_right _ (List.mem_append_right _ (List.mem_append_right _ (List.mem_append_right _ (List.mem_append_right _ (List.mem_append_right _ (List.mem_append_right _ (List.mem_append_right _ (List.mem_append_left _ (List.mem_of_getElem? h)))))))))))) hg
theorem pg_w11 {w : Cond} {i : Nat} (h : tables_1_11[i]? = some w) (hg : goodWord w = true) : w ∈ pg_TW := pg_in (List.mem_append_right _ (show w ∈ tables_1 from List.mem_append_right _ (List.mem_append_right _ (List.mem_append_right _ (List.mem_append_right _ (List.mem_append_right _ (List.mem_append_right _ (List.mem_append_right _ (List.mem_append_right _ (List.mem_append_right _ (List.mem_append_right _ (List.mem_append_left _ (List.mem_of_getElem? h))))))))))))) hg
theorem pg_w12 {w : Cond} {i : Nat} (h : tables_1_12[i]? = some w) (hg : goodWord w = true) : w ∈ pg_TW := pg_in (List.mem_append_right _ (show w ∈ tables_1 from List.mem_append_right _ (List.mem_append_right _ (List.mem_append_right _ (List.mem_append_right _ (List.mem_append_right _ (List.mem_append_right _ (List.mem_append_right _ (List.mem_append_right _ (List.mem_append_right _ (List.mem_append_right _ (List.mem_append_right _ (List.mem_append_left _ (List.mem_of_getElem? h)))))))))))))) hg
theorem pg_w13 {w : Cond} {i : Nat} (h : tables_1_13[i]? = some w) (hg : goodWord w = true) : w ∈ pg_TW := pg_in (List.mem_append_right _ (show w ∈ tables_1 from List.mem_append_right _ (List.mem_append_right _ (List.mem_append_right _ (List.mem_append_right _ (List.mem_append_right _ (List.mem_append_right _ (List.mem_append_right _ (List.mem_append_right _ (List.mem_append_right _ (List.mem_append_right _ (List.mem_append_right _ (List.mem_append_right _ (List.mem_append_left _ (List.mem_of_getElem? h))))))))))))))) hg
theorem pg_w14 {w : Cond} {i : Nat} (h : tables_1_14[i]? = some w) (hg : goodWord w = true) : w ∈ pg_TW := pg_in (List.mem_append_right _ (show w ∈ tables_1 from List.mem_append_right _ (List.mem_append_right _ (List.mem_append_right _ (List.mem_append_right _ (List.mem_append_right _ (List.mem_append_right _ (List.mem_append_right _ (List.mem_append_right _ (List.mem_append_right _ (List.mem_append_right _ (List.mem_append_right _ (List.mem_append_right _ (List.mem_append_right _ (List.mem_append_left _ (List.mem_of_getElem? h)))))))))))))))) hg
theorem pg_w15 {w : Cond} {i : Nat} (h : tables_1_15[i]? = some w) (hg : goodWord w = true) : w ∈ pg_TW := pg_in (List.mem_append_right _ (show w ∈ tables_1 from List.mem_append_right _ (List.mem_append_right _ (List.mem_append_right _ (List.mem_append_right _ (List.mem_append_right _ (List.mem_append_right _ (List.mem_append_right _ (List.mem_append_right _ (List.mem_append_right _ (List.mem_append_right _ (List.mem_append_right _ (List.mem_append_right _ (List.mem_append_right _ (List.mem_append_right _ (List.mem_of_getElem? h)))))))))))))))) hg
theorem pg_w0 {w : Cond} {i : Nat} (h : (k2_sels lw_privs)[i]? = some w) (hg : goodWord w = true) : w ∈ pg_TW := pg_in (List.mem_append_left _ (List.mem_of_getElem? h)) hg
def pg_tb : Nat → List Cond := fun k => match k with
  | 1 => tables_1_1
  | 2 => tables_1_2
  | 3 => tables_1_3
  | 4 => tables_1_4
  | 5 => tables_1_5
  | 6 => tables_1_6
  | 7 => tables_1_7
  | 8 => tables_1_8
  | 9 => tables_1_9
  | 10 => tables_1_10
  | 11 => tables_1_11
  | 12 => tables_1_12
  | 13 => tables_1_13
  | 14 => tables_1_14
  | 15 => tables_1_15
  | _ => []
theorem pg_tb_in {w : Cond} {k i : Nat} (h : (pg_tb k)[i]? = some w) (hg : goodWord w = true) : w ∈ pg_TW := by
  unfold pg_tb at h
  split at h
  · exact pg_w1 h hg
  · exact pg_w2 h hg
  · exact pg_w3 h hg
  · exact pg_w4 h hg
  · exact pg_w5 h hg
  · exact pg_w6 h hg
  · exact pg_w7 h hg
  · exact pg_w8 h hg
  · exact pg_w9 h hg
  · exact pg_w10 h hg
  · exact pg_w11 h hg
  · exact pg_w12 h hg
  · exact pg_w13 h hg
  · exact pg_w14 h hg
  · exact pg_w15 h hg
  · cases h
def pg_chk (w : Cond) (q : Nat × Nat) : Bool := decide ((pg_tb q.1)[q.2]? = some w) && goodWord w
theorem pg_chk_in {w : Cond} {q : Nat × Nat} (h : pg_chk w q = true) : w ∈ pg_TW := by
  unfold pg_chk at h
  simp only [Bool.and_eq_true, decide_eq_true_eq] at h
  exact pg_tb_in h.1 h.2
theorem pg_ws_in {C : String} {T : u_T} {N : Nat} {ps : List (Nat × Nat)} (h : (List.range N).all (fun k => pg_chk (u_lay C T k) (ps.getD k (0, 0))) = true) : ∀ w ∈ u_ws C T N, w ∈ pg_TW := by
  intro w hw
  obtain ⟨k, hk, rfl⟩ := List.mem_map.mp hw
  exact pg_chk_in (List.all_eq_true.mp h k hk)
set_option maxRecDepth 20000 in
theorem pg_k0 (z : Bool) (L : Nat) (xs : Nat → Int32) : (∀ w ∈ u_ws "LibraryHouse$Authority" pg_T0 12, w ∈ rm_TW (pg_G z L xs)) ∧ (∀ k, k < 12 → parseFieldDescriptor (pg_T0 k).2.2.1 = some (rm_ty (pg_G z L xs) 0 k)) ∧ (∀ a, a < 12 → ∀ b, b < 12 → a ≠ b → (pg_T0 a).2.1 ≠ (pg_T0 b).2.1) ∧ Cond.instantiable "LibraryHouse$Authority" 12 ∈ rm_TW (pg_G z L xs) ∧ Cond.initialized "LibraryHouse$Authority" ∈ rm_TW (pg_G z L xs) ∧
  (∀ j, j < 12 → defaultValue (rm_ty (pg_G z L xs) 0 j) = vp_V (rm_df (pg_G z L xs) 0) j) ∧ (∀ k, k < 12 → (pg_T0 k).1 = "LibraryHouse$Authority") ∧ (∀ ad, (rm_df (pg_G z L xs) 0).map (rm_v ad) = rm_df (pg_G z L xs) 0) ∧ (rm_df (pg_G z L xs) 0).length = 12 := by
  refine ⟨pg_ws_in (ps := [(1, 150), (1, 152), (1, 154), (1, 156), (1, 158), (1, 160), (1, 162), (1, 164), (1, 166), (1, 168), (1, 170), (1, 172)]) (by decide +kernel), show ∀ k, k < 12 → parseFieldDescriptor (pg_T0 k).2.2.1 = some (pg_ty 0 k) by decide +kernel, by decide +kernel, (pg_w1 (i := 131) rfl rfl), (pg_w1 (i := 4) rfl rfl), show ∀ j, j < 12 → defaultValue (pg_ty 0 j) = vp_V (pg_df 0) j by decide +kernel, by decide +kernel, fun ad => rfl, rfl⟩
set_option maxRecDepth 20000 in
theorem pg_k1 (z : Bool) (L : Nat) (xs : Nat → Int32) : (∀ w ∈ u_ws "LibraryHouse$Buying" pg_T1 15, w ∈ rm_TW (pg_G z L xs)) ∧ (∀ k, k < 15 → parseFieldDescriptor (pg_T1 k).2.2.1 = some (rm_ty (pg_G z L xs) 1 k)) ∧ (∀ a, a < 15 → ∀ b, b < 15 → a ≠ b → (pg_T1 a).2.1 ≠ (pg_T1 b).2.1) ∧ Cond.instantiable "LibraryHouse$Buying" 15 ∈ rm_TW (pg_G z L xs) ∧ Cond.initialized "LibraryHouse$Buying" ∈ rm_TW (pg_G z L xs) ∧
  (∀ j, j < 15 → defaultValue (rm_ty (pg_G z L xs) 1 j) = vp_V (rm_df (pg_G z L xs) 1) j) ∧ (∀ k, k < 15 → (pg_T1 k).1 = "LibraryHouse$Buying") ∧ (∀ ad, (rm_df (pg_G z L xs) 1).map (rm_v ad) = rm_df (pg_G z L xs) 1) ∧ (rm_df (pg_G z L xs) 1).length = 15 := by
  refine ⟨pg_ws_in (ps := [(2, 200), (2, 202), (2, 204), (2, 206), (2, 208), (2, 210), (2, 212), (2, 214), (2, 216), (2, 218), (2, 220), (2, 222), (2, 224), (2, 226), (2, 228)]) (by decide +kernel), show ∀ k, k < 15 → parseFieldDescriptor (pg_T1 k).2.2.1 = some (pg_ty 1 k) by decide +kernel, by decide +kernel, (pg_w2 (i := 179) rfl rfl), (pg_w1 (i := 9) rfl rfl), show ∀ j, j < 15 → defaultValue (pg_ty 1 j) = vp_V (pg_df 1) j by decide +kernel, by decide +kernel, fun ad => rfl, rfl⟩
set_option maxRecDepth 20000 in
theorem pg_k2 (z : Bool) (L : Nat) (xs : Nat → Int32) : (∀ w ∈ u_ws "LibraryHouse$Catalog" pg_T2 15, w ∈ rm_TW (pg_G z L xs)) ∧ (∀ k, k < 15 → parseFieldDescriptor (pg_T2 k).2.2.1 = some (rm_ty (pg_G z L xs) 2 k)) ∧ (∀ a, a < 15 → ∀ b, b < 15 → a ≠ b → (pg_T2 a).2.1 ≠ (pg_T2 b).2.1) ∧ Cond.instantiable "LibraryHouse$Catalog" 15 ∈ rm_TW (pg_G z L xs) ∧ Cond.initialized "LibraryHouse$Catalog" ∈ rm_TW (pg_G z L xs) ∧
  (∀ j, j < 15 → defaultValue (rm_ty (pg_G z L xs) 2 j) = vp_V (rm_df (pg_G z L xs) 2) j) ∧ (∀ k, k < 15 → (pg_T2 k).1 = "LibraryHouse$Catalog") ∧ (∀ ad, (rm_df (pg_G z L xs) 2).map (rm_v ad) = rm_df (pg_G z L xs) 2) ∧ (rm_df (pg_G z L xs) 2).length = 15 := by
  refine ⟨pg_ws_in (ps := [(1, 97), (1, 99), (1, 101), (1, 103), (1, 105), (1, 107), (1, 109), (1, 111), (1, 113), (1, 115), (1, 117), (1, 119), (1, 121), (1, 123), (1, 125)]) (by decide +kernel), show ∀ k, k < 15 → parseFieldDescriptor (pg_T2 k).2.2.1 = some (pg_ty 2 k) by decide +kernel, by decide +kernel, (pg_w1 (i := 68) rfl rfl), (pg_w1 (i := 3) rfl rfl), show ∀ j, j < 15 → defaultValue (pg_ty 2 j) = vp_V (pg_df 2) j by decide +kernel, by decide +kernel, fun ad => rfl, rfl⟩
set_option maxRecDepth 20000 in
theorem pg_k3 (z : Bool) (L : Nat) (xs : Nat → Int32) : (∀ w ∈ u_ws "LibraryHouse$Desk" pg_T3 18, w ∈ rm_TW (pg_G z L xs)) ∧ (∀ k, k < 18 → parseFieldDescriptor (pg_T3 k).2.2.1 = some (rm_ty (pg_G z L xs) 3 k)) ∧ (∀ a, a < 18 → ∀ b, b < 18 → a ≠ b → (pg_T3 a).2.1 ≠ (pg_T3 b).2.1) ∧ Cond.instantiable "LibraryHouse$Desk" 18 ∈ rm_TW (pg_G z L xs) ∧ Cond.initialized "LibraryHouse$Desk" ∈ rm_TW (pg_G z L xs) ∧
  (∀ j, j < 18 → defaultValue (rm_ty (pg_G z L xs) 3 j) = vp_V (rm_df (pg_G z L xs) 3) j) ∧ (∀ k, k < 18 → (pg_T3 k).1 = "LibraryHouse$Desk") ∧ (∀ ad, (rm_df (pg_G z L xs) 3).map (rm_v ad) = rm_df (pg_G z L xs) 3) ∧ (rm_df (pg_G z L xs) 3).length = 18 := by
  refine ⟨pg_ws_in (ps := [(3, 109), (3, 111), (3, 113), (3, 115), (3, 117), (3, 119), (3, 121), (3, 123), (3, 125), (3, 127), (3, 129), (3, 131), (3, 133), (3, 135), (3, 137), (3, 139), (3, 141), (3, 143)]) (by decide +kernel), show ∀ k, k < 18 → parseFieldDescriptor (pg_T3 k).2.2.1 = some (pg_ty 3 k) by decide +kernel, by decide +kernel, (pg_w3 (i := 77) rfl rfl), (pg_w1 (i := 12) rfl rfl), show ∀ j, j < 18 → defaultValue (pg_ty 3 j) = vp_V (pg_df 3) j by decide +kernel, by decide +kernel, fun ad => rfl, rfl⟩
set_option maxRecDepth 20000 in
theorem pg_k4 (z : Bool) (L : Nat) (xs : Nat → Int32) : (∀ w ∈ u_ws "LibraryHouse$Draft" pg_T4 8, w ∈ rm_TW (pg_G z L xs)) ∧ (∀ k, k < 8 → parseFieldDescriptor (pg_T4 k).2.2.1 = some (rm_ty (pg_G z L xs) 4 k)) ∧ (∀ a, a < 8 → ∀ b, b < 8 → a ≠ b → (pg_T4 a).2.1 ≠ (pg_T4 b).2.1) ∧ Cond.instantiable "LibraryHouse$Draft" 8 ∈ rm_TW (pg_G z L xs) ∧ Cond.initialized "LibraryHouse$Draft" ∈ rm_TW (pg_G z L xs) ∧
  (∀ j, j < 8 → defaultValue (rm_ty (pg_G z L xs) 4 j) = vp_V (rm_df (pg_G z L xs) 4) j) ∧ (∀ k, k < 8 → (pg_T4 k).1 = "LibraryHouse$Draft") ∧ (∀ ad, (rm_df (pg_G z L xs) 4).map (rm_v ad) = rm_df (pg_G z L xs) 4) ∧ (rm_df (pg_G z L xs) 4).length = 8 := by
  refine ⟨pg_ws_in (ps := [(1, 223), (1, 225), (1, 227), (1, 229), (1, 231), (1, 233), (1, 235), (1, 237)]) (by decide +kernel), show ∀ k, k < 8 → parseFieldDescriptor (pg_T4 k).2.2.1 = some (pg_ty 4 k) by decide +kernel, by decide +kernel, (pg_w1 (i := 184) rfl rfl), (pg_w1 (i := 6) rfl rfl), show ∀ j, j < 8 → defaultValue (pg_ty 4 j) = vp_V (pg_df 4) j by decide +kernel, by decide +kernel, fun ad => rfl, rfl⟩
set_option maxRecDepth 20000 in
theorem pg_k5 (z : Bool) (L : Nat) (xs : Nat → Int32) : (∀ w ∈ u_ws "LibraryHouse$Lending" pg_T5 18, w ∈ rm_TW (pg_G z L xs)) ∧ (∀ k, k < 18 → parseFieldDescriptor (pg_T5 k).2.2.1 = some (rm_ty (pg_G z L xs) 5 k)) ∧ (∀ a, a < 18 → ∀ b, b < 18 → a ≠ b → (pg_T5 a).2.1 ≠ (pg_T5 b).2.1) ∧ Cond.instantiable "LibraryHouse$Lending" 18 ∈ rm_TW (pg_G z L xs) ∧ Cond.initialized "LibraryHouse$Lending" ∈ rm_TW (pg_G z L xs) ∧
  (∀ j, j < 18 → defaultValue (rm_ty (pg_G z L xs) 5 j) = vp_V (rm_df (pg_G z L xs) 5) j) ∧ (∀ k, k < 18 → (pg_T5 k).1 = "LibraryHouse$Lending") ∧ (∀ ad, (rm_df (pg_G z L xs) 5).map (rm_v ad) = rm_df (pg_G z L xs) 5) ∧ (rm_df (pg_G z L xs) 5).length = 18 := by
  refine ⟨pg_ws_in (ps := [(2, 140), (2, 142), (2, 144), (2, 146), (2, 148), (2, 150), (2, 152), (2, 154), (2, 156), (2, 158), (2, 160), (2, 162), (2, 164), (2, 166), (2, 168), (2, 170), (2, 172), (2, 174)]) (by decide +kernel), show ∀ k, k < 18 → parseFieldDescriptor (pg_T5 k).2.2.1 = some (pg_ty 5 k) by decide +kernel, by decide +kernel, (pg_w2 (i := 115) rfl rfl), (pg_w1 (i := 8) rfl rfl), show ∀ j, j < 18 → defaultValue (pg_ty 5 j) = vp_V (pg_df 5) j by decide +kernel, by decide +kernel, fun ad => rfl, rfl⟩
set_option maxRecDepth 20000 in
theorem pg_k6 (z : Bool) (L : Nat) (xs : Nat → Int32) : (∀ w ∈ u_ws "LibraryHouse$Question" pg_T6 18, w ∈ rm_TW (pg_G z L xs)) ∧ (∀ k, k < 18 → parseFieldDescriptor (pg_T6 k).2.2.1 = some (rm_ty (pg_G z L xs) 6 k)) ∧ (∀ a, a < 18 → ∀ b, b < 18 → a ≠ b → (pg_T6 a).2.1 ≠ (pg_T6 b).2.1) ∧ Cond.instantiable "LibraryHouse$Question" 18 ∈ rm_TW (pg_G z L xs) ∧ Cond.initialized "LibraryHouse$Question" ∈ rm_TW (pg_G z L xs) ∧
  (∀ j, j < 18 → defaultValue (rm_ty (pg_G z L xs) 6 j) = vp_V (rm_df (pg_G z L xs) 6) j) ∧ (∀ k, k < 18 → (pg_T6 k).1 = "LibraryHouse$Question") ∧ (∀ ad, (rm_df (pg_G z L xs) 6).map (rm_v ad) = rm_df (pg_G z L xs) 6) ∧ (rm_df (pg_G z L xs) 6).length = 18 := by
  refine ⟨pg_ws_in (ps := [(3, 39), (3, 41), (3, 43), (3, 45), (3, 47), (3, 49), (3, 51), (3, 53), (3, 55), (3, 57), (3, 59), (3, 61), (3, 63), (3, 65), (3, 67), (3, 69), (3, 71), (3, 73)]) (by decide +kernel), show ∀ k, k < 18 → parseFieldDescriptor (pg_T6 k).2.2.1 = some (pg_ty 6 k) by decide +kernel, by decide +kernel, (pg_w3 (i := 16) rfl rfl), (pg_w1 (i := 11) rfl rfl), show ∀ j, j < 18 → defaultValue (pg_ty 6 j) = vp_V (pg_df 6) j by decide +kernel, by decide +kernel, fun ad => rfl, rfl⟩
set_option maxRecDepth 20000 in
theorem pg_k7 (z : Bool) (L : Nat) (xs : Nat → Int32) : (∀ w ∈ u_ws "LibraryHouse$Readers" pg_T7 18, w ∈ rm_TW (pg_G z L xs)) ∧ (∀ k, k < 18 → parseFieldDescriptor (pg_T7 k).2.2.1 = some (rm_ty (pg_G z L xs) 7 k)) ∧ (∀ a, a < 18 → ∀ b, b < 18 → a ≠ b → (pg_T7 a).2.1 ≠ (pg_T7 b).2.1) ∧ Cond.instantiable "LibraryHouse$Readers" 18 ∈ rm_TW (pg_G z L xs) ∧ Cond.initialized "LibraryHouse$Readers" ∈ rm_TW (pg_G z L xs) ∧
  (∀ j, j < 18 → defaultValue (rm_ty (pg_G z L xs) 7 j) = vp_V (rm_df (pg_G z L xs) 7) j) ∧ (∀ k, k < 18 → (pg_T7 k).1 = "LibraryHouse$Readers") ∧ (∀ ad, (rm_df (pg_G z L xs) 7).map (rm_v ad) = rm_df (pg_G z L xs) 7) ∧ (rm_df (pg_G z L xs) 7).length = 18 := by
  refine ⟨pg_ws_in (ps := [(2, 77), (2, 79), (2, 81), (2, 83), (2, 85), (2, 87), (2, 89), (2, 91), (2, 93), (2, 95), (2, 97), (2, 99), (2, 101), (2, 103), (2, 105), (2, 107), (2, 109), (2, 111)]) (by decide +kernel), show ∀ k, k < 18 → parseFieldDescriptor (pg_T7 k).2.2.1 = some (pg_ty 7 k) by decide +kernel, by decide +kernel, (pg_w2 (i := 37) rfl rfl), (pg_w1 (i := 7) rfl rfl), show ∀ j, j < 18 → defaultValue (pg_ty 7 j) = vp_V (pg_df 7) j by decide +kernel, by decide +kernel, fun ad => rfl, rfl⟩
set_option maxRecDepth 20000 in
theorem pg_k8 (z : Bool) (L : Nat) (xs : Nat → Int32) : (∀ w ∈ u_ws "LibraryHouse$RuleBook" pg_T8 10, w ∈ rm_TW (pg_G z L xs)) ∧ (∀ k, k < 10 → parseFieldDescriptor (pg_T8 k).2.2.1 = some (rm_ty (pg_G z L xs) 8 k)) ∧ (∀ a, a < 10 → ∀ b, b < 10 → a ≠ b → (pg_T8 a).2.1 ≠ (pg_T8 b).2.1) ∧ Cond.instantiable "LibraryHouse$RuleBook" 10 ∈ rm_TW (pg_G z L xs) ∧ Cond.initialized "LibraryHouse$RuleBook" ∈ rm_TW (pg_G z L xs) ∧
  (∀ j, j < 10 → defaultValue (rm_ty (pg_G z L xs) 8 j) = vp_V (rm_df (pg_G z L xs) 8) j) ∧ (∀ k, k < 10 → (pg_T8 k).1 = "LibraryHouse$RuleBook") ∧ (∀ ad, (rm_df (pg_G z L xs) 8).map (rm_v ad) = rm_df (pg_G z L xs) 8) ∧ (rm_df (pg_G z L xs) 8).length = 10 := by
  refine ⟨pg_ws_in (ps := [(2, 15), (2, 17), (2, 19), (2, 21), (2, 23), (2, 25), (2, 27), (2, 29), (2, 31), (2, 33)]) (by decide +kernel), show ∀ k, k < 10 → parseFieldDescriptor (pg_T8 k).2.2.1 = some (pg_ty 8 k) by decide +kernel, by decide +kernel, (pg_w1 (i := 176) rfl rfl), (pg_w1 (i := 5) rfl rfl), show ∀ j, j < 10 → defaultValue (pg_ty 8 j) = vp_V (pg_df 8) j by decide +kernel, by decide +kernel, fun ad => rfl, rfl⟩
set_option maxRecDepth 20000 in
theorem pg_k9 (z : Bool) (L : Nat) (xs : Nat → Int32) : (∀ w ∈ u_ws "LibraryHouse$Stores" pg_T9 5, w ∈ rm_TW (pg_G z L xs)) ∧ (∀ k, k < 5 → parseFieldDescriptor (pg_T9 k).2.2.1 = some (rm_ty (pg_G z L xs) 9 k)) ∧ (∀ a, a < 5 → ∀ b, b < 5 → a ≠ b → (pg_T9 a).2.1 ≠ (pg_T9 b).2.1) ∧ Cond.instantiable "LibraryHouse$Stores" 5 ∈ rm_TW (pg_G z L xs) ∧ Cond.initialized "LibraryHouse$Stores" ∈ rm_TW (pg_G z L xs) ∧
  (∀ j, j < 5 → defaultValue (rm_ty (pg_G z L xs) 9 j) = vp_V (rm_df (pg_G z L xs) 9) j) ∧ (∀ k, k < 5 → (pg_T9 k).1 = "LibraryHouse$Stores") ∧ (∀ ad, (rm_df (pg_G z L xs) 9).map (rm_v ad) = rm_df (pg_G z L xs) 9) ∧ (rm_df (pg_G z L xs) 9).length = 5 := by
  refine ⟨pg_ws_in (ps := [(3, 4), (3, 6), (3, 8), (3, 10), (3, 12)]) (by decide +kernel), show ∀ k, k < 5 → parseFieldDescriptor (pg_T9 k).2.2.1 = some (pg_ty 9 k) by decide +kernel, by decide +kernel, (pg_w2 (i := 232) rfl rfl), (pg_w1 (i := 10) rfl rfl), show ∀ j, j < 5 → defaultValue (pg_ty 9 j) = vp_V (pg_df 9) j by decide +kernel, by decide +kernel, fun ad => rfl, rfl⟩
set_option maxRecDepth 20000 in
theorem pg_k10 (z : Bool) (L : Nat) (xs : Nat → Int32) : (∀ w ∈ u_ws "LibraryHouse$Tape" pg_T10 7, w ∈ rm_TW (pg_G z L xs)) ∧ (∀ k, k < 7 → parseFieldDescriptor (pg_T10 k).2.2.1 = some (rm_ty (pg_G z L xs) 10 k)) ∧ (∀ a, a < 7 → ∀ b, b < 7 → a ≠ b → (pg_T10 a).2.1 ≠ (pg_T10 b).2.1) ∧ Cond.instantiable "LibraryHouse$Tape" 7 ∈ rm_TW (pg_G z L xs) ∧ Cond.initialized "LibraryHouse$Tape" ∈ rm_TW (pg_G z L xs) ∧
  (∀ j, j < 7 → defaultValue (rm_ty (pg_G z L xs) 10 j) = vp_V (rm_df (pg_G z L xs) 10) j) ∧ (∀ k, k < 7 → (pg_T10 k).1 = "LibraryHouse$Tape") ∧ (∀ ad, (rm_df (pg_G z L xs) 10).map (rm_v ad) = rm_df (pg_G z L xs) 10) ∧ (rm_df (pg_G z L xs) 10).length = 7 := by
  refine ⟨pg_ws_in (ps := [(1, 51), (1, 53), (1, 55), (1, 57), (1, 59), (1, 61), (1, 63)]) (by decide +kernel), show ∀ k, k < 7 → parseFieldDescriptor (pg_T10 k).2.2.1 = some (pg_ty 10 k) by decide +kernel, by decide +kernel, (pg_w1 (i := 30) rfl rfl), (pg_w1 (i := 2) rfl rfl), show ∀ j, j < 7 → defaultValue (pg_ty 10 j) = vp_V (pg_df 10) j by decide +kernel, by decide +kernel, fun ad => rfl, rfl⟩
set_option maxRecDepth 20000 in
theorem pg_k11 (z : Bool) (L : Nat) (xs : Nat → Int32) : (∀ w ∈ u_ws "LibraryHouse" pg_T11 19, w ∈ rm_TW (pg_G z L xs)) ∧ (∀ k, k < 19 → parseFieldDescriptor (pg_T11 k).2.2.1 = some (rm_ty (pg_G z L xs) 11 k)) ∧ (∀ a, a < 19 → ∀ b, b < 19 → a ≠ b → (pg_T11 a).2.1 ≠ (pg_T11 b).2.1) ∧ Cond.instantiable "LibraryHouse" 19 ∈ rm_TW (pg_G z L xs) ∧ Cond.initialized "LibraryHouse" ∈ rm_TW (pg_G z L xs) ∧
  (∀ j, j < 19 → defaultValue (rm_ty (pg_G z L xs) 11 j) = vp_V (rm_df (pg_G z L xs) 11) j) ∧ (∀ k, k < 19 → (pg_T11 k).1 = "LibraryHouse") ∧ (∀ ad, (rm_df (pg_G z L xs) 11).map (rm_v ad) = rm_df (pg_G z L xs) 11) ∧ (rm_df (pg_G z L xs) 11).length = 19 := by
  refine ⟨pg_ws_in (ps := [(3, 167), (3, 169), (3, 171), (3, 173), (3, 175), (3, 177), (3, 179), (3, 181), (3, 183), (3, 185), (3, 187), (3, 189), (3, 191), (3, 193), (3, 195), (3, 197), (3, 199), (3, 201), (3, 203)]) (by decide +kernel), show ∀ k, k < 19 → parseFieldDescriptor (pg_T11 k).2.2.1 = some (pg_ty 11 k) by decide +kernel, by decide +kernel, (pg_w1 (i := 22) rfl rfl), (pg_w1 (i := 1) rfl rfl), show ∀ j, j < 19 → defaultValue (pg_ty 11 j) = vp_V (pg_df 11) j by decide +kernel, by decide +kernel, fun ad => rfl, rfl⟩
set_option maxRecDepth 20000 in
theorem pg_k12 (z : Bool) (L : Nat) (xs : Nat → Int32) : (∀ w ∈ u_ws "LibraryHouseModel" pg_T12 160, w ∈ rm_TW (pg_G z L xs)) ∧ (∀ k, k < 160 → parseFieldDescriptor (pg_T12 k).2.2.1 = some (rm_ty (pg_G z L xs) 12 k)) ∧ (∀ a, a < 160 → ∀ b, b < 160 → a ≠ b → (pg_T12 a).2.1 ≠ (pg_T12 b).2.1) ∧ Cond.instantiable "LibraryHouseModel" 160 ∈ rm_TW (pg_G z L xs) ∧ Cond.initialized "LibraryHouseModel" ∈ rm_TW (pg_G z L xs) ∧
  (∀ j, j < 160 → defaultValue (rm_ty (pg_G z L xs) 12 j) = vp_V (rm_df (pg_G z L xs) 12) j) ∧ (∀ k, k < 160 → (pg_T12 k).1 = "LibraryHouseModel") ∧ (∀ ad, (rm_df (pg_G z L xs) 12).map (rm_v ad) = rm_df (pg_G z L xs) 12) ∧ (rm_df (pg_G z L xs) 12).length = 160 := by
  refine ⟨pg_ws_in (ps := [(10, 12), (10, 14), (10, 16), (10, 18), (10, 20), (10, 22), (10, 24), (10, 26), (10, 28), (10, 30), (10, 32), (10, 34), (10, 36), (10, 38), (10, 40), (10, 42), (10, 44), (10, 46), (10, 48), (10, 50), (10, 52), (10, 54), (10, 56), (10, 58), (10, 60), (10, 62), (10, 64), (10, 66), (10, 68), (10, 70), (10, 72), (10, 74), (10, 76), (10, 78), (10, 80), (10, 82), (10, 84), (10, 86), (10, 88), (10, 90), (10, 92), (10, 94), (10, 96), (10, 98), (10, 100), (10, 102), (10, 104), (10, 106), (10, 108), (10, 110), (10, 112), (10, 114), (10, 116), (10, 118), (10, 120), (10, 122), (10, 124), (10, 126), (10, 128), (10, 130), (10, 132), (10, 134), (10, 136), (10, 138), (10, 140), (10, 142), (10, 144), (10, 146), (10, 148), (10, 150), (10, 152), (10, 154), (10, 156), (10, 158), (10, 160), (10, 162), (10, 164), (10, 166), (10, 168), (10, 170), (10, 172), (10, 174), (10, 176), (10, 178), (10, 180), (10, 182), (10, 184), (10, 186), (10, 188), (10, 190), (10, 192), (10, 194), (10, 196), (10, 198), (10, 200), (10, 202), (10, 204), (10, 206), (10, 208), (10, 210), (10, 212), (10, 214), (10, 216), (10, 218), (10, 220), (10, 222), (10, 224), (10, 226), (10, 228), (10, 230), (10, 232), (10, 234), (10, 236), (10, 238), (11, 0), (11, 2), (11, 4), (11, 6), (11, 8), (11, 10), (11, 12), (11, 14), (11, 16), (11, 18), (11, 20), (11, 22), (11, 24), (11, 26), (11, 28), (11, 30), (11, 32), (11, 34), (11, 36), (11, 38), (11, 40), (11, 42), (11, 44), (11, 46), (11, 48), (11, 50), (11, 52), (11, 54), (11, 56), (11, 58), (11, 60), (11, 62), (11, 64), (11, 66), (11, 68), (11, 70), (11, 72), (11, 74), (11, 76), (11, 78), (11, 80), (11, 82), (11, 84), (11, 86), (11, 88), (11, 90)]) (by decide +kernel), show ∀ k, k < 160 → parseFieldDescriptor (pg_T12 k).2.2.1 = some (pg_ty 12 k) by decide +kernel, by decide +kernel, (pg_w9 (i := 85) rfl rfl), (pg_w1 (i := 13) rfl rfl), show ∀ j, j < 160 → defaultValue (pg_ty 12 j) = vp_V (pg_df 12) j by decide +kernel, by decide +kernel, fun ad => rfl, rfl⟩
theorem pg_clok (z : Bool) (L : Nat) (xs : Nat → Int32) : rm_ClOk (pg_G z L xs) := by
  intro ci C T N h
  have h : pg_cl[ci]? = some (C, T, N) := h
  match ci, h with
  | 0, h => cases h; exact pg_k0 z L xs
  | 1, h => cases h; exact pg_k1 z L xs
  | 2, h => cases h; exact pg_k2 z L xs
  | 3, h => cases h; exact pg_k3 z L xs
  | 4, h => cases h; exact pg_k4 z L xs
  | 5, h => cases h; exact pg_k5 z L xs
  | 6, h => cases h; exact pg_k6 z L xs
  | 7, h => cases h; exact pg_k7 z L xs
  | 8, h => cases h; exact pg_k8 z L xs
  | 9, h => cases h; exact pg_k9 z L xs
  | 10, h => cases h; exact pg_k10 z L xs
  | 11, h => cases h; exact pg_k11 z L xs
  | 12, h => cases h; exact pg_k12 z L xs
  | k + 13, h => simp [pg_cl] at h
theorem pg_arok (z : Bool) (L : Nat) (xs : Nat → Int32) : rm_ArOk (pg_G z L xs) := by
  intro t u h
  cases t <;> simp [rm_at] at h
  · exact (pg_w1 (i := 129) rfl rfl)
  · exact (pg_w1 (i := 66) rfl rfl)
  · exact (pg_w1 (i := 128) rfl rfl)
  · exact (pg_w2 (i := 177) rfl rfl)
theorem pg_finok (z : Bool) (L : Nat) (xs : Nat → Int32) : ∀ ci C T N k, (rm_cl (pg_G z L xs))[ci]? = some (C, T, N) → k < N → pg_fin ci k = (T k).2.2.2 := by
  intro ci C T N k h hk
  have h : pg_cl[ci]? = some (C, T, N) := h
  match ci, h with
  | 0, h => cases h; exact (show ∀ k, k < 12 → pg_fin 0 k = (pg_T0 k).2.2.2 by decide +kernel) k hk
  | 1, h => cases h; exact (show ∀ k, k < 15 → pg_fin 1 k = (pg_T1 k).2.2.2 by decide +kernel) k hk
  | 2, h => cases h; exact (show ∀ k, k < 15 → pg_fin 2 k = (pg_T2 k).2.2.2 by decide +kernel) k hk
  | 3, h => cases h; exact (show ∀ k, k < 18 → pg_fin 3 k = (pg_T3 k).2.2.2 by decide +kernel) k hk
  | 4, h => cases h; exact (show ∀ k, k < 8 → pg_fin 4 k = (pg_T4 k).2.2.2 by decide +kernel) k hk
  | 5, h => cases h; exact (show ∀ k, k < 18 → pg_fin 5 k = (pg_T5 k).2.2.2 by decide +kernel) k hk
  | 6, h => cases h; exact (show ∀ k, k < 18 → pg_fin 6 k = (pg_T6 k).2.2.2 by decide +kernel) k hk
  | 7, h => cases h; exact (show ∀ k, k < 18 → pg_fin 7 k = (pg_T7 k).2.2.2 by decide +kernel) k hk
  | 8, h => cases h; exact (show ∀ k, k < 10 → pg_fin 8 k = (pg_T8 k).2.2.2 by decide +kernel) k hk
  | 9, h => cases h; exact (show ∀ k, k < 5 → pg_fin 9 k = (pg_T9 k).2.2.2 by decide +kernel) k hk
  | 10, h => cases h; exact (show ∀ k, k < 7 → pg_fin 10 k = (pg_T10 k).2.2.2 by decide +kernel) k hk
  | 11, h => cases h; exact (show ∀ k, k < 19 → pg_fin 11 k = (pg_T11 k).2.2.2 by decide +kernel) k hk
  | 12, h => cases h; exact (show ∀ k, k < 160 → pg_fin 12 k = (pg_T12 k).2.2.2 by decide +kernel) k hk
  | k + 13, h => simp [pg_cl] at h
