theorem rm_str_of {args : Array Value} {s : State} {tm : Term} {byt : List Int32} {A : Nat → Prop} (hN : byt.length < 2 ^ 31) (hex : (Cond.exactly tm "java/lang/String").before args s = true) (hco : (Cond.eq (.field tm "java/lang/String" "coder" "B") (.int 0)).before args s = true)
    (har : (Cond.arrayOf (.field tm "java/lang/String" "value" "[B") .byte).before args s = true) (hle : (Cond.eq (.length (.field tm "java/lang/String" "value" "[B")) (.int (Int32.ofNat byt.length))).before args s = true)
    (hel : ∀ j : Nat, j < byt.length → (Cond.eq (.elem (.field tm "java/lang/String" "value" "[B") (.int (Int32.ofNat j))) (.int (byt.getD j 0))).before args s = true) (hA : ∀ a : Nat, a < s.heap.size → ¬ A a) :
    ∃ q : Nat × Nat, tm.eval args s none [] s = some (.ref q.1) ∧ va_O "java/lang/String" q.1 A s s.heap ∧ va_OF "java/lang/String" "coder" "B" (.int 0) q.1 A s s.heap ∧ va_OF "java/lang/String" "value" "[B" (.ref q.2) q.1 A s s.heap ∧ va_T .byte q.2 byt.length (fun j => .int (byt.getD j 0)) A s s.heap := by
  obtain ⟨a, c, cA, kA, q1, q2, q3, q4, q5, q6, -⟩ := Cond.exactly_spec (args := args) (first := s) (o := none) (s := s) (idx := []) (t := tm) (cls := "java/lang/String") hex
  obtain ⟨t, ht, hT⟩ := va_Tof (f := fun j => .int (byt.getD j 0)) (A := A) hN har (va_eqt hle) (fun j hj => va_eqt (hel j hj)) hA
  exact ⟨(a, t), q1, ⟨cA, q3, q5, by rw [q6]; exact q2, hA a (Array.getElem?_eq_some_iff.mp q3).1⟩, vk_OFof q1 (va_eqt hco) hA, vk_OFof q1 ht hA, hT⟩
def pg_tm (i : Nat) : Term := match pg_sr.getD i ("", 0, 0) with
  | (own, k, _) => .string own k
def pg_sc (i : Nat) : List Cond := [Cond.exactly (pg_tm i) "java/lang/String", Cond.eq (.field (pg_tm i) "java/lang/String" "coder" "B") (.int 0), Cond.arrayOf (.field (pg_tm i) "java/lang/String" "value" "[B") .byte, Cond.eq (.length (.field (pg_tm i) "java/lang/String" "value" "[B")) (.int (Int32.ofNat (pg_str.getD i []).length))] ++
  (List.range (pg_str.getD i []).length).map (fun j => Cond.eq (.elem (.field (pg_tm i) "java/lang/String" "value" "[B") (.int (Int32.ofNat j))) (.int ((pg_str.getD i []).getD j 0)))
def pg_nn : Cond → Bool
  | .not _ => false
  | .eq (.string _ _) _ => false
  | _ => true
set_option maxRecDepth 100000 in
theorem pg_scok : (((flatC (Jvm.Cond.and given_1 narrow_1)).filter pg_nn).drop 25).take 244 = (List.range 23).flatMap pg_sc := by decide +kernel
theorem pg_strs {args : Array Value} {s : State} {A : Nat → Prop} (hgv : (Jvm.Cond.and given_1 narrow_1).before args s = true) (hA : ∀ a : Nat, a < s.heap.size → ¬ A a) : ∃ f : Nat → Nat × Nat, ∀ i, i < 23 → (pg_tm i).eval args s none [] s = some (.ref (f i).1) ∧ va_O "java/lang/String" (f i).1 A s s.heap ∧ va_OF "java/lang/String" "coder" "B" (.int 0) (f i).1 A s s.heap ∧ va_OF "java/lang/String" "value" "[B" (.ref (f i).2) (f i).1 A s s.heap ∧ va_T .byte (f i).2 (pg_str.getD i []).length (fun j => .int ((pg_str.getD i []).getD j 0)) A s s.heap := by
  have hs := flat_of_before _ hgv
  have h1 : ∀ i, i < 23 → ∀ c ∈ pg_sc i, c.before args s = true := fun i hi c hc => hs c ((List.mem_filter.mp (List.mem_of_mem_drop (i := 25) (List.mem_of_mem_take (i := 244) (by rw [pg_scok]; exact List.mem_flatMap.mpr ⟨i, List.mem_range.mpr hi, hc⟩)))).1)
  have hlen : ∀ i, i < 23 → (pg_str.getD i []).length < 2 ^ 31 := by decide +kernel
  have h0 : ∀ i : Nat, ∃ q : Nat × Nat, i < 23 → (pg_tm i).eval args s none [] s = some (.ref q.1) ∧ va_O "java/lang/String" q.1 A s s.heap ∧ va_OF "java/lang/String" "coder" "B" (.int 0) q.1 A s s.heap ∧ va_OF "java/lang/String" "value" "[B" (.ref q.2) q.1 A s s.heap ∧ va_T .byte q.2 (pg_str.getD i []).length (fun j => .int ((pg_str.getD i []).getD j 0)) A s s.heap := by
    intro i
    by_cases hi : i < 23
    · obtain ⟨q, hq⟩ := rm_str_of (tm := pg_tm i) (byt := pg_str.getD i []) (A := A) (hlen i hi) (h1 i hi _ (by simp [pg_sc])) (h1 i hi _ (by simp [pg_sc])) (h1 i hi _ (by simp [pg_sc])) (h1 i hi _ (by simp [pg_sc])) (fun j hj => h1 i hi _ (List.mem_append_right _ (List.mem_map.mpr ⟨j, List.mem_range.mpr hj, rfl⟩))) hA
      exact ⟨q, fun _ => hq⟩
    · exact ⟨(0, 0), fun h => absurd h hi⟩
  exact ⟨fun i => Classical.choose (h0 i), fun i => Classical.choose_spec (h0 i)⟩
theorem pg_sarr {args : Array Value} {s : State} {A : Nat → Prop} {C n : String} {v : List Int32} (hl : (Cond.laysStatic C n "[I").before args s = true) (hini : (Cond.initialized C).before args s = true) (hN : v.length < 2 ^ 31) (har : (Cond.arrayOf (.static C n "[I") .int).before args s = true) (hle : (Cond.eq (.length (.static C n "[I")) (.int (Int32.ofNat v.length))).before args s = true) (hel : ∀ j : Nat, j < v.length → (Cond.eq (.elem (.static C n "[I") (.int (Int32.ofNat j))) (.int (v.getD j 0))).before args s = true) (hA : ∀ a : Nat, a < s.heap.size → ¬ A a) :
    ∃ t : Nat, va_Z C n "[I" (.ref t) A s s.heap ∧ va_T .int t v.length (fun j => .int (v.getD j 0)) A s s.heap := by
  obtain ⟨t, ht, hT⟩ := va_Tof (f := fun j => .int (v.getD j 0)) (A := A) hN har (va_eqt hle) (fun j hj => va_eqt (hel j hj)) hA
  exact ⟨t, va_Zref hl hini ht hA, hT⟩
def pg_ad (base b : Nat) (f : Nat → Nat × Nat) (t : Nat → Nat) (tf : Nat) : Nat → Nat := fun k =>
  if k < rm_K then base + k else if k - rm_K < 46 then (if (k - rm_K) % 2 = 0 then (f ((k - rm_K) / 2)).1 else (f ((k - rm_K) / 2)).2) else if k - rm_K = 2000 then b else if k - rm_K = 900 then tf else t (k - rm_K - 1000)
def pg_tc (c : List ClassId) (d : ClassId) : Nat → ClassId := fun k => c.getD k d
set_option maxHeartbeats 4000000 in
set_option maxRecDepth 100000 in
theorem pg_start {p : Program} {e : Env} {s : State} {m : MethodId} {below : List Frame} {meth : Method} {c : Code} (l : Launch) {b L : Nat} {xs : Nat → Int32} (hL31 : L < 2 ^ 31) (C0 : lw_At p s m meth c b L xs) (hrun : ∀ z : Bool, ∃ n h' c1 d1, rm_run (pg_G z L xs) pg_fin (pg_pr z) n (pg_mL z) 0 [(0, .ref (rm_K + 2000))] [] [] = some (some (.int 1), h', c1, d1) ∧ c1 ≤ 600000 ∧ d1 ≤ 7302249) :
    W p l e room_1 s m #[Value.ref b] below meth c s.heap [] 0 0 (lw_Z below #[Value.ref b] s) (entryFrame m ([Value.ref b] : List Value).toArray 4) := by
  obtain ⟨hx, hb, hr, hml, hown, hts, hX, hbl, hlocks, hgv⟩ := C0
  have hA : ∀ a : Nat, a < s.heap.size → ¬ rm_A s.heap.size a := fun a h => Nat.not_le.mpr h
  have hs := flat_of_before _ hgv
  obtain ⟨fS, hS⟩ := pg_strs hgv hA
  obtain ⟨t0, hz0, ht0⟩ := pg_sarr (C := "LibraryHouse$RuleBook") (n := "WIDTH") (v := [7, 4, 3, 3, 4]) (hts _ (List.mem_append_right _ (List.mem_append_right _ (List.mem_append_right _ (List.mem_append_right _ (List.mem_append_left _ (List.mem_of_getElem? (l := tables_1_4) (i := 20) rfl))))))) (hts _ (List.mem_append_right _ (List.mem_append_left _ (List.mem_of_getElem? (l := tables_1_1) (i := 5) rfl)))) (by decide) (hs _ (by decide +kernel)) (hs _ (by decide +kernel)) (fun j hj => by
    have h9 : ∀ j, j < 5 → (Cond.eq (.elem (.static "LibraryHouse$RuleBook" "WIDTH" "[I") (.int (Int32.ofNat j))) (.int (([7, 4, 3, 3, 4] : List Int32).getD j 0))) ∈ flatC (Jvm.Cond.and given_1 narrow_1) := by decide +kernel
    exact hs _ (h9 j hj)) hA
  obtain ⟨t1, hz1, ht1⟩ := pg_sarr (C := "LibraryHouse$RuleBook") (n := "MOST_LINES") (v := [20, 12, 10, 8, 8]) (hts _ (List.mem_append_right _ (List.mem_append_right _ (List.mem_append_right _ (List.mem_append_right _ (List.mem_append_right _ (List.mem_append_right _ (List.mem_append_left _ (List.mem_of_getElem? (l := tables_1_6) (i := 36) rfl))))))))) (hts _ (List.mem_append_right _ (List.mem_append_left _ (List.mem_of_getElem? (l := tables_1_1) (i := 5) rfl)))) (by decide) (hs _ (by decide +kernel)) (hs _ (by decide +kernel)) (fun j hj => by
    have h9 : ∀ j, j < 5 → (Cond.eq (.elem (.static "LibraryHouse$RuleBook" "MOST_LINES" "[I") (.int (Int32.ofNat j))) (.int (([20, 12, 10, 8, 8] : List Int32).getD j 0))) ∈ flatC (Jvm.Cond.and given_1 narrow_1) := by decide +kernel
    exact hs _ (h9 j hj)) hA
  have hzf : va_Zq "jdk/internal/util/Preconditions" "SIOOBE_FORMATTER" "Ljava/util/function/BiFunction;" (rm_A s.heap.size) s s.heap := va_Zqof (hts _ (List.mem_append_right _ (List.mem_append_right _ (List.mem_append_right _ (List.mem_append_right _ (List.mem_append_right _ (List.mem_append_right _ (List.mem_append_left _ (List.mem_of_getElem? (l := tables_1_6) (i := 106) rfl))))))))) (hts _ (List.mem_append_right _ (List.mem_append_left _ (List.mem_of_getElem? (l := tables_1_1) (i := 19) rfl)))) (hs _ (by decide +kernel)) hA
  obtain ⟨z, tf, hzf⟩ : ∃ (z : Bool) (tf : Nat), va_Z "jdk/internal/util/Preconditions" "SIOOBE_FORMATTER" "Ljava/util/function/BiFunction;" (va_rf (cond z none (some tf))) (rm_A s.heap.size) s s.heap := by
    rcases hzf with h | ⟨t, h⟩
    · exact ⟨true, 0, h⟩
    · exact ⟨false, t, h⟩
  obtain ⟨cI, kcI, mcI, cI1, cI2, cI3⟩ := Cond.arrayClass_spec (hts _ (List.mem_append_right _ (List.mem_append_left _ (List.mem_of_getElem? (l := tables_1_1) (i := 128) rfl))))
  obtain ⟨cB, kcB, mcB, cB1, cB2, cB3⟩ := Cond.arrayClass_spec (hts _ (List.mem_append_right _ (List.mem_append_left _ (List.mem_of_getElem? (l := tables_1_1) (i := 66) rfl))))
  obtain ⟨cZ, kcZ, mcZ, cZ1, cZ2, cZ3⟩ := Cond.arrayClass_spec (hts _ (List.mem_append_right _ (List.mem_append_left _ (List.mem_of_getElem? (l := tables_1_1) (i := 129) rfl))))
  obtain ⟨cJ, kcJ, mcJ, cJ1, cJ2, cJ3⟩ := Cond.arrayClass_spec (hts _ (List.mem_append_right _ (List.mem_append_right _ (List.mem_append_left _ (List.mem_of_getElem? (l := tables_1_2) (i := 177) rfl)))))
  have hao : rm_AO s := (hts _ (List.mem_append_right _ (List.mem_append_left _ (List.mem_of_getElem? (l := tables_1_1) (i := 182) rfl))))
  obtain ⟨mA, cA, kA, a1, a2, a3, a4, a5⟩ := Jvm.Stand.arrayOver_specB hao
  have hK1 : ∀ k : Nat, ∃ w : ClassId × (Nat → Nat), ∀ q, pg_cl[k]? = some q → u_Kn s q.1 q.2.1 q.2.2 w.1 w.2 := by
    intro k
    cases hk : pg_cl[k]? with
    | none => exact ⟨(m.cls, fun _ => 0), fun q h => by cases h⟩
    | some q =>
      obtain ⟨C, T, N⟩ := q
      obtain ⟨c1, -, -, c4, -⟩ := pg_clok z L xs k C T N hk
      have hts2 : ∀ w ∈ pg_TW, w.before #[Value.ref b] s = true := fun w hw => hts w (List.mem_filter.mp hw).1
      obtain ⟨cC, iS, hKn⟩ := u_known (C := C) (T := T) (N := N) (n := N) hts2 c1 (hts2 _ c4)
      exact ⟨(cC, iS), fun q h => by cases h; exact hKn⟩
  obtain ⟨wD, hD⟩ : ∃ w : Nat → ClassId × (Nat → Nat), ∀ k q, pg_cl[k]? = some q → u_Kn s q.1 q.2.1 q.2.2 (w k).1 (w k).2 := ⟨fun i => Classical.choose (hK1 i), fun i => Classical.choose_spec (hK1 i)⟩
  have hK : va_K (fun k => (wD k).1, fun k => (wD k).2) pg_cl (rm_T (pg_tc [cI, cB, cZ, cJ, cA] cA)) s := by
    refine ⟨fun k q h => hD k q h, fun k q h => ?_⟩
    match k, h with
    | 0, h => cases h; exact ⟨fun N z => ⟨(fun q hq => by cases hq), kcI, cI2, mcI, cI3⟩, cI1⟩
    | 1, h => cases h; exact ⟨fun N z => ⟨(fun q hq => by cases hq), kcB, cB2, mcB, cB3⟩, cB1⟩
    | 2, h => cases h; exact ⟨fun N z => ⟨(fun q hq => by cases hq), kcZ, cZ2, mcZ, cZ3⟩, cZ1⟩
    | 3, h => cases h; exact ⟨fun N z => ⟨(fun q hq => by cases hq), kcJ, cJ2, mcJ, cJ3⟩, cJ1⟩
    | 4, h => cases h; exact ⟨fun N z => ⟨(fun q hq => by cases hq), kA, a3, mA, a4⟩, a5⟩
    | k + 5, h => cases h
  obtain ⟨n, h', c1, d1, hrn, hc1, hd1⟩ := hrun z
  have had : ∀ k, k < rm_K → pg_ad s.heap.size b fS (fun k => if k = 0 then t0 else if k = 1 then t1 else 0) tf k = s.heap.size + k := fun k hk => if_pos hk
  generalize hade : pg_ad s.heap.size b fS (fun k => if k = 0 then t0 else if k = 1 then t1 else 0) tf = ad at had
  have hadc : ∀ k, ad (rm_K + k) = if k < 46 then (if k % 2 = 0 then (fS (k / 2)).1 else (fS (k / 2)).2) else if k = 2000 then b else if k = 900 then tf else (fun k => if k = 0 then t0 else if k = 1 then t1 else 0) (k - 1000) := fun k => by
    rw [← hade]
    unfold pg_ad
    rw [if_neg (by omega), show rm_K + k - rm_K = k by omega]
  have hE : rm_Env (pg_G z L xs) ad (rm_A s.heap.size) s s.heap := by
    refine ⟨fun i hi => ?_, fun k ty n f hk => ?_, fun q hq => ?_, fun q hq => ?_, fun q hq => ?_, fun q hq => ?_, hao⟩
    · have hi : i < 23 := hi
      obtain ⟨s1, s2, s3, s4, s5⟩ := hS i hi
      rw [hadc, hadc, if_pos (by omega), if_pos (by omega), if_pos (by omega), if_neg (by omega), show 2 * i / 2 = i by omega, show (2 * i + 1) / 2 = i by omega]
      exact ⟨s2, s3, s4⟩
    · have hk : pg_ca L xs k = some (ty, n, f) := hk
      unfold pg_ca at hk
      rw [hadc]
      by_cases q1 : k < 46
      · rw [show Nat.blt k 46 = true from Nat.ble_eq_true_of_le q1] at hk
        by_cases q2 : k % 2 = 1
        · rw [show Nat.beq (k % 2) 1 = true by rw [q2]; rfl] at hk
          cases hk
          rw [if_pos q1, if_neg (by omega)]
          exact (hS (k / 2) (by omega)).2.2.2.2
        · rw [show Nat.beq (k % 2) 1 = false by rw [show k % 2 = 0 by omega]; rfl] at hk
          cases hk
      · rw [show Nat.blt k 46 = false from Bool.eq_false_iff.mpr (fun h => q1 (Nat.le_of_ble_eq_true h))] at hk
        rw [if_neg q1]
        by_cases q2 : k = 2000
        · subst q2
          cases hk
          rw [if_pos rfl]
          obtain ⟨scr, x1, x2, x3, x4, x5⟩ := hX
          exact ⟨scr, x1, x2, x3, by rw [x4]; exact Nat.le_refl _, by rw [x4], x5, hA b hbl⟩
        · rw [show Nat.beq k 2000 = false from Bool.eq_false_iff.mpr (fun h => q2 (Nat.eq_of_beq_eq_true h))] at hk
          rw [if_neg q2]
          by_cases q3 : 1000 ≤ k ∧ k < 1002
          · rw [show (Nat.ble 1000 k && Nat.blt k 1002) = true by rw [Nat.ble_eq_true_of_le q3.1, show Nat.blt k 1002 = true from Nat.ble_eq_true_of_le q3.2]; rfl] at hk
            cases hk
            rw [if_neg (by omega)]
            obtain ⟨j, rfl⟩ : ∃ j, k = 1000 + j := ⟨k - 1000, by omega⟩
            rw [show 1000 + j - 1000 = j by omega]
            match j, q3 with
            | 0, _ => exact ht0
            | 1, _ => exact ht1
            | j + 2, q3 => exact absurd q3.2 (by omega)
          · rw [show (Nat.ble 1000 k && Nat.blt k 1002) = false from Bool.eq_false_iff.mpr (fun h => q3 (by
              simp only [Bool.and_eq_true] at h
              exact ⟨Nat.le_of_ble_eq_true h.1, Nat.le_of_ble_eq_true h.2⟩))] at hk
            cases hk
    · have hq : q ∈ pg_sr := hq
      obtain ⟨i, hi, rfl⟩ : ∃ i, ∃ _ : i < 23, q = pg_sr.getD i ("", 0, 0) := by
        obtain ⟨i, hi⟩ := List.getElem?_of_mem hq
        have h1 : i < 23 := (List.getElem?_eq_some_iff.mp hi).1
        exact ⟨i, h1, by rw [List.getD_eq_getElem?_getD, hi]; rfl⟩
      obtain ⟨s1, -⟩ := hS i hi
      have h2 : ∀ i, i < 23 → (pg_sr.getD i ("", 0, 0)).2.2 = i := by decide +kernel
      rw [hadc, h2 i hi, if_pos (by omega), if_pos (by omega), show 2 * i / 2 = i by omega]
      match i, hi, s1 with
      | 0, _, s1 => exact ⟨"must|once|has|most", vk_R.of (hts _ (List.mem_append_right _ (List.mem_append_right _ (List.mem_append_right _ (List.mem_append_right _ (List.mem_append_right _ (List.mem_append_right _ (List.mem_append_left _ (List.mem_of_getElem? (l := tables_1_6) (i := 76) rfl))))))))) s1⟩
      | 1, _, s1 => exact ⟨"del|set|add", vk_R.of (hts _ (List.mem_append_right _ (List.mem_append_right _ (List.mem_append_right _ (List.mem_append_right _ (List.mem_append_right _ (List.mem_append_right _ (List.mem_append_left _ (List.mem_of_getElem? (l := tables_1_6) (i := 140) rfl))))))))) s1⟩
      | 2, _, s1 => exact ⟨"every ", vk_R.of (hts _ (List.mem_append_right _ (List.mem_append_right _ (List.mem_append_right _ (List.mem_append_right _ (List.mem_append_right _ (List.mem_append_right _ (List.mem_append_left _ (List.mem_of_getElem? (l := tables_1_6) (i := 150) rfl))))))))) s1⟩
      | 3, _, s1 => exact ⟨" skip | volume ", vk_R.of (hts _ (List.mem_append_right _ (List.mem_append_right _ (List.mem_append_right _ (List.mem_append_right _ (List.mem_append_right _ (List.mem_append_right _ (List.mem_append_left _ (List.mem_of_getElem? (l := tables_1_6) (i := 154) rfl))))))))) s1⟩
      | 4, _, s1 => exact ⟨" volume ", vk_R.of (hts _ (List.mem_append_right _ (List.mem_append_right _ (List.mem_append_right _ (List.mem_append_right _ (List.mem_append_right _ (List.mem_append_right _ (List.mem_append_left _ (List.mem_of_getElem? (l := tables_1_6) (i := 159) rfl))))))))) s1⟩
      | 5, _, s1 => exact ⟨"t|a|s|n|h", vk_R.of (hts _ (List.mem_append_right _ (List.mem_append_right _ (List.mem_append_right _ (List.mem_append_right _ (List.mem_append_right _ (List.mem_append_right _ (List.mem_append_left _ (List.mem_of_getElem? (l := tables_1_6) (i := 211) rfl))))))))) s1⟩
      | 6, _, s1 => exact ⟨"and|or|not", vk_R.of (hts _ (List.mem_append_right _ (List.mem_append_right _ (List.mem_append_right _ (List.mem_append_right _ (List.mem_append_right _ (List.mem_append_right _ (List.mem_append_right _ (List.mem_append_left _ (List.mem_of_getElem? (l := tables_1_7) (i := 3) rfl)))))))))) s1⟩
      | 7, _, s1 => exact ⟨"L|B|R|H|U|P", vk_R.of (hts _ (List.mem_append_right _ (List.mem_append_right _ (List.mem_append_right _ (List.mem_append_right _ (List.mem_append_right _ (List.mem_append_right _ (List.mem_append_right _ (List.mem_append_left _ (List.mem_of_getElem? (l := tables_1_7) (i := 94) rfl)))))))))) s1⟩
      | 8, _, s1 => exact ⟨" #", vk_R.of (hts _ (List.mem_append_right _ (List.mem_append_right _ (List.mem_append_right _ (List.mem_append_right _ (List.mem_append_right _ (List.mem_append_right _ (List.mem_append_right _ (List.mem_append_left _ (List.mem_of_getElem? (l := tables_1_7) (i := 103) rfl)))))))))) s1⟩
      | 9, _, s1 => exact ⟨"and ", vk_R.of (hts _ (List.mem_append_right _ (List.mem_append_right _ (List.mem_append_right _ (List.mem_append_right _ (List.mem_append_right _ (List.mem_append_right _ (List.mem_append_right _ (List.mem_append_right _ (List.mem_append_right _ (List.mem_append_right _ (List.mem_append_right _ (List.mem_append_left _ (List.mem_of_getElem? (l := tables_1_11) (i := 166) rfl)))))))))))))) s1⟩
      | 10, _, s1 => exact ⟨"or ", vk_R.of (hts _ (List.mem_append_right _ (List.mem_append_right _ (List.mem_append_right _ (List.mem_append_right _ (List.mem_append_right _ (List.mem_append_right _ (List.mem_append_right _ (List.mem_append_right _ (List.mem_append_right _ (List.mem_append_right _ (List.mem_append_right _ (List.mem_append_left _ (List.mem_of_getElem? (l := tables_1_11) (i := 167) rfl)))))))))))))) s1⟩
      | 11, _, s1 => exact ⟨"not ", vk_R.of (hts _ (List.mem_append_right _ (List.mem_append_right _ (List.mem_append_right _ (List.mem_append_right _ (List.mem_append_right _ (List.mem_append_right _ (List.mem_append_right _ (List.mem_append_right _ (List.mem_append_right _ (List.mem_append_right _ (List.mem_append_right _ (List.mem_append_left _ (List.mem_of_getElem? (l := tables_1_11) (i := 168) rfl)))))))))))))) s1⟩
      | 12, _, s1 => exact ⟨"del ", vk_R.of (hts _ (List.mem_append_right _ (List.mem_append_right _ (List.mem_append_right _ (List.mem_append_right _ (List.mem_append_right _ (List.mem_append_right _ (List.mem_append_right _ (List.mem_append_right _ (List.mem_append_right _ (List.mem_append_right _ (List.mem_append_right _ (List.mem_append_left _ (List.mem_of_getElem? (l := tables_1_11) (i := 183) rfl)))))))))))))) s1⟩
      | 13, _, s1 => exact ⟨"set ", vk_R.of (hts _ (List.mem_append_right _ (List.mem_append_right _ (List.mem_append_right _ (List.mem_append_right _ (List.mem_append_right _ (List.mem_append_right _ (List.mem_append_right _ (List.mem_append_right _ (List.mem_append_right _ (List.mem_append_right _ (List.mem_append_right _ (List.mem_append_left _ (List.mem_of_getElem? (l := tables_1_11) (i := 184) rfl)))))))))))))) s1⟩
      | 14, _, s1 => exact ⟨"add ", vk_R.of (hts _ (List.mem_append_right _ (List.mem_append_right _ (List.mem_append_right _ (List.mem_append_right _ (List.mem_append_right _ (List.mem_append_right _ (List.mem_append_right _ (List.mem_append_right _ (List.mem_append_right _ (List.mem_append_right _ (List.mem_append_right _ (List.mem_append_left _ (List.mem_of_getElem? (l := tables_1_11) (i := 185) rfl)))))))))))))) s1⟩
      | 15, _, s1 => exact ⟨"every ", vk_R.of (hts _ (List.mem_append_right _ (List.mem_append_right _ (List.mem_append_right _ (List.mem_append_right _ (List.mem_append_right _ (List.mem_append_right _ (List.mem_append_right _ (List.mem_append_right _ (List.mem_append_right _ (List.mem_append_right _ (List.mem_append_right _ (List.mem_append_right _ (List.mem_append_left _ (List.mem_of_getElem? (l := tables_1_12) (i := 232) rfl))))))))))))))) s1⟩
      | 16, _, s1 => exact ⟨" skip ", vk_R.of (hts _ (List.mem_append_right _ (List.mem_append_right _ (List.mem_append_right _ (List.mem_append_right _ (List.mem_append_right _ (List.mem_append_right _ (List.mem_append_right _ (List.mem_append_right _ (List.mem_append_right _ (List.mem_append_right _ (List.mem_append_right _ (List.mem_append_right _ (List.mem_append_left _ (List.mem_of_getElem? (l := tables_1_12) (i := 233) rfl))))))))))))))) s1⟩
      | 17, _, s1 => exact ⟨" volume ", vk_R.of (hts _ (List.mem_append_right _ (List.mem_append_right _ (List.mem_append_right _ (List.mem_append_right _ (List.mem_append_right _ (List.mem_append_right _ (List.mem_append_right _ (List.mem_append_right _ (List.mem_append_right _ (List.mem_append_right _ (List.mem_append_right _ (List.mem_append_right _ (List.mem_append_left _ (List.mem_of_getElem? (l := tables_1_12) (i := 238) rfl))))))))))))))) s1⟩
      | 18, _, s1 => exact ⟨"must", vk_R.of (hts _ (List.mem_append_right _ (List.mem_append_right _ (List.mem_append_right _ (List.mem_append_right _ (List.mem_append_right _ (List.mem_append_right _ (List.mem_append_right _ (List.mem_append_right _ (List.mem_append_right _ (List.mem_append_right _ (List.mem_append_right _ (List.mem_append_right _ (List.mem_append_right _ (List.mem_append_left _ (List.mem_of_getElem? (l := tables_1_13) (i := 142) rfl)))))))))))))))) s1⟩
      | 19, _, s1 => exact ⟨"most ", vk_R.of (hts _ (List.mem_append_right _ (List.mem_append_right _ (List.mem_append_right _ (List.mem_append_right _ (List.mem_append_right _ (List.mem_append_right _ (List.mem_append_right _ (List.mem_append_right _ (List.mem_append_right _ (List.mem_append_right _ (List.mem_append_right _ (List.mem_append_right _ (List.mem_append_right _ (List.mem_append_left _ (List.mem_of_getElem? (l := tables_1_13) (i := 143) rfl)))))))))))))))) s1⟩
      | 20, _, s1 => exact ⟨"once", vk_R.of (hts _ (List.mem_append_right _ (List.mem_append_right _ (List.mem_append_right _ (List.mem_append_right _ (List.mem_append_right _ (List.mem_append_right _ (List.mem_append_right _ (List.mem_append_right _ (List.mem_append_right _ (List.mem_append_right _ (List.mem_append_right _ (List.mem_append_right _ (List.mem_append_right _ (List.mem_append_left _ (List.mem_of_getElem? (l := tables_1_13) (i := 144) rfl)))))))))))))))) s1⟩
      | 21, _, s1 => exact ⟨"has ", vk_R.of (hts _ (List.mem_append_right _ (List.mem_append_right _ (List.mem_append_right _ (List.mem_append_right _ (List.mem_append_right _ (List.mem_append_right _ (List.mem_append_right _ (List.mem_append_right _ (List.mem_append_right _ (List.mem_append_right _ (List.mem_append_right _ (List.mem_append_right _ (List.mem_append_right _ (List.mem_append_left _ (List.mem_of_getElem? (l := tables_1_13) (i := 145) rfl)))))))))))))))) s1⟩
      | 22, _, s1 => exact ⟨" #", vk_R.of (hts _ (List.mem_append_right _ (List.mem_append_right _ (List.mem_append_right _ (List.mem_append_right _ (List.mem_append_right _ (List.mem_append_right _ (List.mem_append_right _ (List.mem_append_right _ (List.mem_append_right _ (List.mem_append_right _ (List.mem_append_right _ (List.mem_append_right _ (List.mem_append_right _ (List.mem_append_right _ (List.mem_append_left _ (List.mem_of_getElem? (l := tables_1_14) (i := 22) rfl))))))))))))))))) s1⟩
      | i + 23, hi, _ => exact absurd hi (by omega)
    · have hq : q ∈ pg_si := hq
      simp only [pg_si, List.mem_cons, List.not_mem_nil, or_false] at hq
      rcases hq with rfl | rfl | rfl | rfl
      · exact va_Zof (hts _ (List.mem_append_right _ (List.mem_append_right _ (List.mem_append_right _ (List.mem_append_right _ (List.mem_append_right _ (List.mem_append_right _ (List.mem_append_left _ (List.mem_of_getElem? (l := tables_1_6) (i := 90) rfl))))))))) (hts _ (List.mem_append_right _ (List.mem_append_left _ (List.mem_of_getElem? (l := tables_1_1) (i := 17) rfl)))) (va_eqt (hs (Cond.eq (Term.static "java/lang/String" "COMPACT_STRINGS" "Z") (.int 1)) (by decide +kernel))) hA
      · exact va_Zof (hts _ (List.mem_append_right _ (List.mem_append_right _ (List.mem_append_right _ (List.mem_append_right _ (List.mem_append_right _ (List.mem_append_right _ (List.mem_append_left _ (List.mem_of_getElem? (l := tables_1_6) (i := 124) rfl))))))))) (hts _ (List.mem_append_right _ (List.mem_append_left _ (List.mem_of_getElem? (l := tables_1_1) (i := 20) rfl)))) (va_eqt (hs (Cond.eq (Term.static "java/lang/StringUTF16" "$assertionsDisabled" "Z") (.int 1)) (by decide +kernel))) hA
      · exact va_Zof (hts _ (List.mem_append_right _ (List.mem_append_right _ (List.mem_append_right _ (List.mem_append_right _ (List.mem_append_right _ (List.mem_append_right _ (List.mem_append_left _ (List.mem_of_getElem? (l := tables_1_6) (i := 126) rfl))))))))) (hts _ (List.mem_append_right _ (List.mem_append_left _ (List.mem_of_getElem? (l := tables_1_1) (i := 20) rfl)))) (va_eqt (hs (Cond.eq (Term.static "java/lang/StringUTF16" "HI_BYTE_SHIFT" "I") (.int 0)) (by decide +kernel))) hA
      · exact va_Zof (hts _ (List.mem_append_right _ (List.mem_append_right _ (List.mem_append_right _ (List.mem_append_right _ (List.mem_append_right _ (List.mem_append_right _ (List.mem_append_left _ (List.mem_of_getElem? (l := tables_1_6) (i := 128) rfl))))))))) (hts _ (List.mem_append_right _ (List.mem_append_left _ (List.mem_of_getElem? (l := tables_1_1) (i := 20) rfl)))) (va_eqt (hs (Cond.eq (Term.static "java/lang/StringUTF16" "LO_BYTE_SHIFT" "I") (.int 8)) (by decide +kernel))) hA
    · have hq : q ∈ pg_sa z := hq
      simp only [pg_sa, List.mem_cons, List.not_mem_nil, or_false] at hq
      rcases hq with rfl | rfl | rfl
      · show va_Z _ _ _ (.ref (ad (rm_K + 1000))) _ _ _
        rw [hadc]
        exact hz0
      · show va_Z _ _ _ (.ref (ad (rm_K + 1001))) _ _ _
        rw [hadc]
        exact hz1
      · cases z
        · show va_Z _ _ _ (.ref (ad (rm_K + 900))) _ _ _
          rw [hadc]
          exact hzf
        · exact hzf
    · have hq : q ∈ pg_nl := hq
      simp only [pg_nl, List.mem_cons, List.not_mem_nil, or_false] at hq
      rcases hq with rfl | rfl | rfl | rfl | rfl | rfl | rfl | rfl | rfl | rfl | rfl
      · exact va_Nw.of rfl (hts _ (List.mem_append_right _ (List.mem_append_left _ (List.mem_of_getElem? (l := tables_1_1) (i := 31) rfl))))
      · exact va_Nw.of rfl (hts _ (List.mem_append_right _ (List.mem_append_left _ (List.mem_of_getElem? (l := tables_1_1) (i := 69) rfl))))
      · exact va_Nw.of rfl (hts _ (List.mem_append_right _ (List.mem_append_left _ (List.mem_of_getElem? (l := tables_1_1) (i := 132) rfl))))
      · exact va_Nw.of rfl (hts _ (List.mem_append_right _ (List.mem_append_left _ (List.mem_of_getElem? (l := tables_1_1) (i := 185) rfl))))
      · exact va_Nw.of rfl (hts _ (List.mem_append_right _ (List.mem_append_right _ (List.mem_append_left _ (List.mem_of_getElem? (l := tables_1_2) (i := 38) rfl)))))
      · exact va_Nw.of rfl (hts _ (List.mem_append_right _ (List.mem_append_right _ (List.mem_append_left _ (List.mem_of_getElem? (l := tables_1_2) (i := 180) rfl)))))
      · exact va_Nw.of rfl (hts _ (List.mem_append_right _ (List.mem_append_right _ (List.mem_append_left _ (List.mem_of_getElem? (l := tables_1_2) (i := 233) rfl)))))
      · exact va_Nw.of rfl (hts _ (List.mem_append_right _ (List.mem_append_right _ (List.mem_append_right _ (List.mem_append_left _ (List.mem_of_getElem? (l := tables_1_3) (i := 147) rfl))))))
      · exact va_Nw.of rfl (hts _ (List.mem_append_right _ (List.mem_append_right _ (List.mem_append_right _ (List.mem_append_right _ (List.mem_append_right _ (List.mem_append_right _ (List.mem_append_left _ (List.mem_of_getElem? (l := tables_1_6) (i := 64) rfl)))))))))
      · exact va_Nw.of rfl (hts _ (List.mem_append_right _ (List.mem_append_right _ (List.mem_append_right _ (List.mem_append_right _ (List.mem_append_right _ (List.mem_append_right _ (List.mem_append_right _ (List.mem_append_left _ (List.mem_of_getElem? (l := tables_1_7) (i := 17) rfl))))))))))
      · exact va_Nw.of rfl (hts _ (List.mem_append_right _ (List.mem_append_right _ (List.mem_append_right _ (List.mem_append_right _ (List.mem_append_right _ (List.mem_append_right _ (List.mem_append_right _ (List.mem_append_left _ (List.mem_of_getElem? (l := tables_1_7) (i := 20) rfl))))))))))
  have X : rm_Cx (pg_G z L xs) (fun k => (wD k).1, fun k => (wD k).2) ad (pg_tc [cI, cB, cZ, cJ, cA] cA) s.heap.size pg_fin (rm_iM (pg_mL z)) (rm_mp (pg_mL z)) (rm_mo (pg_mL z)) p s m #[Value.ref b] meth c (rm_mc (pg_mL z)) :=
    ⟨hx, hb, fun w hw => hts w (List.mem_filter.mp hw).1, hown, pg_clok z L xs, (pg_lawok z L xs).1, pg_finok z L xs, (fun ci h => by cases h), hK, had, Nat.le_refl _, hE, pg_arok z L xs⟩
  have hl := lv_entry ([.ref b]) (n := 4) (Nat.le_of_ble_eq_true rfl)
  rw [lg_entry_eq]
  generalize (lg_sl ([.ref b]) ++ List.replicate (4 - (lg_sl ([.ref b])).length) Slot.unset).toArray = ls at hl ⊢
  have hl : lv_has ls (rm_mx (pg_mL z)) (rm_vl ad [(0, .ref (rm_K + 2000))]) := by
    show lv_has ls 4 [(0, .ref (ad (rm_K + 2000)))]
    rw [hadc]
    exact hl
  refine rm_sound l (pg_prok z L xs) n (pg_mL z) 0 [(0, .ref (rm_K + 2000))] [] [] _ h' c1 d1 hrn (pg_lawok z L xs).2 p e room_1 s m _ below meth c s.heap [] 0 0 _ ls _ ad _ s.heap.size X (Nat.le_refl _) (Nat.le_refl _) hml hl ⟨fun k q h => (by cases h), rfl, Nat.zero_le _, va_S.rf⟩ ⟨by rw [Nat.zero_add]; exact hc1, by rw [Nat.zero_add]; exact hd1⟩ ?_
  intro pcR ins arr' stR H1 locs1 hbd h5 ok1
  have hd := (pg_lawok z L xs).2.2 pcR ins hbd
  unfold rm_s5 at h5
  split at h5
  next =>
    split at h5
    next =>
      split at h5
      next => cases h5
      next => cases h5
    next => cases h5
  next =>
    split at h5
    next y =>
      split at h5
      next ty hty =>
        split at h5
        next hnr =>
          cases h5
          refine va_forget (fun q hq => ok1.S.2.2 q hq) ?_
          refine W.widen (k := 600000) (n := 7302249) (by omega) (by omega) ?_
          exact lw_ret hx hb hr hlocks (hd.at rfl (by decide))
        next => cases h5
      next => cases h5
    next => cases h5
  next =>
    split at h5
    next y =>
      split at h5
      next => cases h5
      next => cases h5
    next => cases h5
  next => cases h5
