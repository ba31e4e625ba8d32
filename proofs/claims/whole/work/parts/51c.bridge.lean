theorem blt_t {a b : Nat} (h : a < b) : Nat.blt a b = true := by
  show Nat.ble (a + 1) b = true
  rw [Nat.ble_eq]
  omega
theorem blt_f {a b : Nat} (h : b ≤ a) : Nat.blt a b = false := by
  cases q : Nat.blt a b with
  | false => rfl
  | true =>
    have q2 : Nat.ble (a + 1) b = true := q
    rw [Nat.ble_eq] at q2
    omega
theorem Ta_c {a : Nat} (h : a < 129) : Tc.1 a = Ta.1 a ∧ Tc.2 a = Ta.2 a := by
  refine ⟨?_, ?_⟩
  · show cond (Nat.blt a 129) (pg_T.1 a) none = pg_T.1 a
    rw [blt_t h]
    rfl
  · show cond (Nat.blt a 129) (pg_T.2 a) none = pg_T.2 a
    rw [blt_t h]
    rfl
theorem Tc_hi {a : Nat} (h : 129 ≤ a) : Tc.1 a = none ∧ Tc.2 a = none := by
  refine ⟨?_, ?_⟩
  · show cond (Nat.blt a 129) (pg_T.1 a) none = none
    rw [blt_f h]
    rfl
  · show cond (Nat.blt a 129) (pg_T.2 a) none = none
    rw [blt_f h]
    rfl
theorem Ta_r {a : Nat} (h : 129 ≤ a) : Tr.1 a = Ta.1 a ∧ Tr.2 a = Ta.2 a := by
  refine ⟨?_, ?_⟩
  · show cond (Nat.blt a 129) none (pg_T.1 a) = pg_T.1 a
    rw [blt_f h]
    rfl
  · show cond (Nat.blt a 129) none (pg_T.2 a) = pg_T.2 a
    rw [blt_f h]
    rfl
theorem Tr_lo {a : Nat} (h : a < 129) : Tr.1 a = none ∧ Tr.2 a = none := by
  refine ⟨?_, ?_⟩
  · show cond (Nat.blt a 129) none (pg_T.1 a) = none
    rw [blt_t h]
    rfl
  · show cond (Nat.blt a 129) none (pg_T.2 a) = none
    rw [blt_t h]
    rfl
theorem w_a_s {T : w_T} {S : w_S} {a : Nat} {x : Nat × Nat} (h : T.1 a = some x) : w_a T S a = some x := by
  unfold w_a
  rw [h]
theorem w_a_n {T : w_T} {S : w_S} {a : Nat} (h : T.1 a = none) : w_a T S a = S.2.2.1 a := by
  unfold w_a
  rw [h]
/-- a class's method, in the law's state -/
theorem brg_c {e : w_E} {B : Nat} {m : Bool → rm_M} {ls : w_L} {S U : w_S} {Q : Option w_V → w_S → Prop} (hB : B < 2 ^ 129) (hD : ∀ a, a < 129 → U.2.2.1 a = none) (hU : ∀ a, a < 129 → U.1 a = S.1 a) (h : X Tc e B m 0 ls [] (S.1, U.2.1, (fun _ => none), U.2.2.2) Q) : X Ta e B m 0 ls [] U (fun r U' => ∃ S', Q r S' ∧ (∀ a, a < 129 → U'.1 a = S'.1 a) ∧ (∀ a, 129 ≤ a → U'.1 a = U.1 a) ∧ U'.2 = U.2) := by
  intro o1 o2 l hl hp hH
  have tb : ∀ a, 129 ≤ a → Nat.testBit B a = false := fun a ha => Nat.testBit_lt_two_pow (Nat.lt_of_lt_of_le hB (Nat.pow_le_pow_right (by decide) ha))
  have fhi : ∀ a, 129 ≤ a → w_frb Tc B a = true := fun a ha => by
    unfold w_frb
    rw [tb a ha, tb 301 (by decide), tb 302 (by decide), (Tc_hi ha).1, (Tc_hi ha).2]
    rfl
  have flo : ∀ a, a < 129 → w_frb Ta B a = w_frb Tc B a := fun a ha => by
    unfold w_frb
    rw [(Ta_c ha).1, (Ta_c ha).2]
  obtain ⟨g1, g2, g3, g4, g5, g6, g7, g8, g9⟩ := hH
  have lo : ∀ {a : Nat} {x : Nat × Nat}, Tc.1 a = some x → a < 129 := fun {a x} hx => by
    rcases Nat.lt_or_ge a 129 with c | c
    · exact c
    · rw [(Tc_hi c).1] at hx
      cases hx
  have lo2 : ∀ {a : Nat} {x : Nat × Nat × (Nat → Nat × Nat)}, Tc.2 a = some x → a < 129 := fun {a x} hx => by
    rcases Nat.lt_or_ge a 129 with c | c
    · exact c
    · rw [(Tc_hi c).2] at hx
      cases hx
  have wa : ∀ {a : Nat} {x : Nat × Nat}, w_a Tc (S.1, U.2.1, (fun _ => none), U.2.2.2) a = some x → Tc.1 a = some x := fun {a x} hx => by
    cases q : Tc.1 a with
    | none =>
      rw [w_a_n q] at hx
      cases hx
    | some y =>
      rw [w_a_s q] at hx
      exact hx
  have hC : w_H Tc (S.1, U.2.1, (fun _ => none), U.2.2.2) hp := by
    refine ⟨fun a t n h1 h2 => ?_, fun a n h1 => ?_, fun a n h1 => ?_, fun a ci n fk h1 => ?_, fun a x h1 => (by cases h1), g6, g7, fun a t n h1 k => ?_, fun a ci n fk h1 k t hk => ?_⟩
    · have q := wa h1
      have ha := lo q
      rw [(Ta_c ha).1] at q
      have := g1 a t n (w_a_s q) h2
      rw [hU a ha] at this
      exact this
    · have ha := lo h1
      rw [(Ta_c ha).1] at h1
      have := g2 a n h1
      rw [hU a ha] at this
      exact this
    · have ha := lo h1
      rw [(Ta_c ha).1] at h1
      exact g3 a n h1
    · have ha := lo2 h1
      rw [(Ta_c ha).2] at h1
      rw [g4 a ci n fk h1, w_fs_ne (S := U) (S' := (S.1, U.2.1, (fun _ => none), U.2.2.2)) (hU a ha).symm rfl]
    · have q := wa h1
      have ha := lo q
      rw [(Ta_c ha).1] at q
      have := g8 a t n (w_a_s q) k
      rw [hU a ha] at this
      exact this
    · have ha := lo2 h1
      rw [(Ta_c ha).2] at h1
      have := g9 a ci n fk h1 k t hk
      rw [hU a ha] at this
      exact this
  obtain ⟨n, r, h', S', c, d, r1, r2, r3, r4, r5, r6, r7, r8⟩ := h o1 o2 l hl hp hC
  have e2 : S'.2 = (U.2.1, (fun _ => none), U.2.2.2) := r6.1 (tb 300 (by decide))
  have wa' : ∀ {a : Nat} {x : Nat × Nat}, Ta.1 a = some x → a < 129 → w_a Tc S' a = some x := fun {a x} hx ha => w_a_s (by rw [(Ta_c ha).1]; exact hx)
  obtain ⟨k1, k2, k3, k4, k5, k6, k7, k8, k9⟩ := r2
  have u1 : ∀ a, a < 129 → (fun a => if a < 129 then S'.1 a else U.1 a) a = S'.1 a := fun a ha => if_pos ha
  have u2 : ∀ a, 129 ≤ a → (fun a => if a < 129 then S'.1 a else U.1 a) a = U.1 a := fun a ha => if_neg (by omega)
  have hh : ∀ a, 129 ≤ a → h'[a]? = hp[a]? := fun a ha => r7 a (fhi a ha)
  have len : h'.length = U.2.2.2.1 := by
    rw [k6, e2]
  refine ⟨n, r, h', (fun a => if a < 129 then S'.1 a else U.1 a, U.2), c, d, r1, ⟨fun a t n h1 h2 => ?_, fun a n h1 => ?_, fun a n h1 => ?_, fun a ci n fk h1 => ?_, g5, len, k7, fun a t n h1 k => ?_, fun a ci n fk h1 k t hk => ?_⟩, ?_, ?_, r5, ⟨fun _ => rfl, fun a ha => ?_⟩, fun a ha => ?_, S', r8, u1, u2, rfl⟩
  · rcases Nat.lt_or_ge a 129 with ca | ca
    · cases q : Ta.1 a with
      | none =>
        rw [w_a_n q] at h1
        have h1' : U.2.2.1 a = some (t, n) := h1
        rw [hD a ca] at h1'
        cases h1'
      | some x =>
        rw [w_a_s q] at h1
        have := k1 a t n (wa' (by rw [q]; exact h1) ca) h2
        rw [this]
        show _ = some (Sum.inl (t, n, Sum.inl fun j => Int32.ofInt ((fun a => if a < 129 then S'.1 a else U.1 a) a j)))
        rw [u1 a ca]
    · have h1' : w_a Ta U a = some (t, n) := by
        cases q : Ta.1 a with
        | none =>
          rw [w_a_n q] at h1 ⊢
          exact h1
        | some x =>
          rw [w_a_s q] at h1 ⊢
          exact h1
      rw [hh a ca, g1 a t n h1' h2]
      show _ = some (Sum.inl (t, n, Sum.inl fun j => Int32.ofInt ((fun a => if a < 129 then S'.1 a else U.1 a) a j)))
      rw [u2 a ca]
  · rcases Nat.lt_or_ge a 129 with ca | ca
    · rw [k2 a n (by rw [(Ta_c ca).1]; exact h1)]
      show _ = some (Sum.inl (3, n, Sum.inr (Sum.inl fun j => Int64.ofInt ((fun a => if a < 129 then S'.1 a else U.1 a) a j))))
      rw [u1 a ca]
    · rw [hh a ca, g2 a n h1]
      show _ = some (Sum.inl (3, n, Sum.inr (Sum.inl fun j => Int64.ofInt ((fun a => if a < 129 then S'.1 a else U.1 a) a j))))
      rw [u2 a ca]
  · rcases Nat.lt_or_ge a 129 with ca | ca
    · exact k3 a n (by rw [(Ta_c ca).1]; exact h1)
    · rw [hh a ca]
      exact g3 a n h1
  · rcases Nat.lt_or_ge a 129 with ca | ca
    · rw [k4 a ci n fk (by rw [(Ta_c ca).2]; exact h1), w_fs_ne (S := S') (S' := (fun a => if a < 129 then S'.1 a else U.1 a, U.2)) (u1 a ca) (by rw [e2])]
    · rw [hh a ca, g4 a ci n fk h1, w_fs_ne (S := U) (S' := (fun a => if a < 129 then S'.1 a else U.1 a, U.2)) (u2 a ca) rfl]
  · show w_q t ((fun a => if a < 129 then S'.1 a else U.1 a) a k)
    rcases Nat.lt_or_ge a 129 with ca | ca
    · rw [u1 a ca]
      cases q : Ta.1 a with
      | none =>
        rw [w_a_n q] at h1
        have h1' : U.2.2.1 a = some (t, n) := h1
        rw [hD a ca] at h1'
        cases h1'
      | some x =>
        rw [w_a_s q] at h1
        exact k8 a t n (wa' (by rw [q]; exact h1) ca) k
    · rw [u2 a ca]
      refine g8 a t n ?_ k
      cases q : Ta.1 a with
      | none =>
        rw [w_a_n q] at h1 ⊢
        exact h1
      | some x =>
        rw [w_a_s q] at h1 ⊢
        exact h1
  · show w_q t ((fun a => if a < 129 then S'.1 a else U.1 a) a k)
    rcases Nat.lt_or_ge a 129 with ca | ca
    · rw [u1 a ca]
      exact k9 a ci n fk (by rw [(Ta_c ca).2]; exact h1) k t hk
    · rw [u2 a ca]
      exact g9 a ci n fk h1 k t hk
  · rw [← r3, e2]
  · rw [← r4, e2]
  · show (fun a => if a < 129 then S'.1 a else U.1 a) a = U.1 a
    rcases Nat.lt_or_ge a 129 with ca | ca
    · rw [u1 a ca]
      rw [flo a ca] at ha
      rw [r6.2 a ha]
      exact (hU a ca).symm
    · exact u2 a ca
  · rcases Nat.lt_or_ge a 129 with ca | ca
    · rw [flo a ca] at ha
      exact r7 a ha
    · exact hh a ca
/-- a method of the reference, in the law's state -/
theorem brg_r {e : w_E} {B : Nat} {m : Bool → rm_M} {ls : w_L} {R U : w_S} {Q : Option w_V → w_S → Prop} (hB : ∀ a, a < 129 → Nat.testBit B a = false) (hB2 : Nat.testBit B 302 = false) (hD : ∀ a, a < 129 → R.2.2.1 a = none) (hU : ∀ a, 129 ≤ a → U.1 a = R.1 a) (hU2 : U.2 = R.2) (hq : ∀ r R', Q r R' → ∀ a, a < 129 → R'.2.2.1 a = none) (h : X Tr e B m 0 ls [] R Q) : X Ta e B m 0 ls [] U (fun r U' => ∃ R', Q r R' ∧ (∀ a, 129 ≤ a → U'.1 a = R'.1 a) ∧ (∀ a, a < 129 → U'.1 a = U.1 a) ∧ U'.2 = R'.2) := by
  intro o1 o2 l hl hp hH
  have flo : ∀ a, a < 129 → w_frb Tr B a = true := fun a ha => by
    unfold w_frb
    rw [hB a ha, hB2, (Tr_lo ha).1, (Tr_lo ha).2, blt_t ha]
    cases Nat.testBit B 301 <;> rfl
  have fhi : ∀ a, 129 ≤ a → w_frb Ta B a = w_frb Tr B a := fun a ha => by
    unfold w_frb
    rw [(Ta_r ha).1, (Ta_r ha).2]
  obtain ⟨g1, g2, g3, g4, g5, g6, g7, g8, g9⟩ := hH
  have lo : ∀ {a : Nat} {x : Nat × Nat}, Tr.1 a = some x → 129 ≤ a := fun {a x} hx => by
    rcases Nat.lt_or_ge a 129 with c | c
    · rw [(Tr_lo c).1] at hx
      cases hx
    · exact c
  have lo2 : ∀ {a : Nat} {x : Nat × Nat × (Nat → Nat × Nat)}, Tr.2 a = some x → 129 ≤ a := fun {a x} hx => by
    rcases Nat.lt_or_ge a 129 with c | c
    · rw [(Tr_lo c).2] at hx
      cases hx
    · exact c
  have wa : ∀ {a : Nat} {x : Nat × Nat} {R1 : w_S}, (∀ b, b < 129 → R1.2.2.1 b = none) → w_a Tr R1 a = some x → 129 ≤ a := fun {a x R1} hR hx => by
    rcases Nat.lt_or_ge a 129 with c | c
    · rw [w_a_n (Tr_lo c).1, hR a c] at hx
      cases hx
    · exact c
  have wb : ∀ {a : Nat} {R1 V : w_S}, 129 ≤ a → V.2 = R1.2 → w_a Ta V a = w_a Tr R1 a := fun {a R1 V} ha hV => by
    unfold w_a
    rw [(Ta_r ha).1, hV]
  have hC : w_H Tr R hp := by
    refine ⟨fun a t n h1 h2 => ?_, fun a n h1 => ?_, fun a n h1 => ?_, fun a ci n fk h1 => ?_, fun a x h1 => g5 a x (by rw [hU2]; exact h1), by rw [g6, hU2], g7, fun a t n h1 k => ?_, fun a ci n fk h1 k t hk => ?_⟩
    · have ha := wa hD h1
      have := g1 a t n (by rw [wb ha hU2]; exact h1) h2
      rw [hU a ha] at this
      exact this
    · have ha := lo h1
      rw [(Ta_r ha).1] at h1
      have := g2 a n h1
      rw [hU a ha] at this
      exact this
    · have ha := lo h1
      rw [(Ta_r ha).1] at h1
      exact g3 a n h1
    · have ha := lo2 h1
      rw [(Ta_r ha).2] at h1
      rw [g4 a ci n fk h1, w_fs_ne (S := U) (S' := R) (hU a ha).symm (by rw [hU2])]
    · have ha := wa hD h1
      have := g8 a t n (by rw [wb ha hU2]; exact h1) k
      rw [hU a ha] at this
      exact this
    · have ha := lo2 h1
      rw [(Ta_r ha).2] at h1
      have := g9 a ci n fk h1 k t hk
      rw [hU a ha] at this
      exact this
  obtain ⟨n, r, h', R', c, d, r1, r2, r3, r4, r5, r6, r7, r8⟩ := h o1 o2 l hl hp hC
  have hD' := hq r R' r8
  obtain ⟨k1, k2, k3, k4, k5, k6, k7, k8, k9⟩ := r2
  have u1 : ∀ a, 129 ≤ a → (fun a => if a < 129 then U.1 a else R'.1 a) a = R'.1 a := fun a ha => if_neg (by omega)
  have u2 : ∀ a, a < 129 → (fun a => if a < 129 then U.1 a else R'.1 a) a = U.1 a := fun a ha => if_pos ha
  have hh : ∀ a, a < 129 → h'[a]? = hp[a]? := fun a ha => r7 a (flo a ha)
  have wlo : ∀ {a : Nat} {x : Nat × Nat}, a < 129 → w_a Ta (fun a => if a < 129 then U.1 a else R'.1 a, R'.2) a = some x → w_a Ta U a = some x := fun {a x} ha hx => by
    cases q : Ta.1 a with
    | none =>
      rw [w_a_n q] at hx
      have hx' : R'.2.2.1 a = some x := hx
      rw [hD' a ha] at hx'
      cases hx'
    | some y =>
      rw [w_a_s q] at hx ⊢
      exact hx
  refine ⟨n, r, h', (fun a => if a < 129 then U.1 a else R'.1 a, R'.2), c, d, r1, ⟨fun a t n h1 h2 => ?_, fun a n h1 => ?_, fun a n h1 => ?_, fun a ci n fk h1 => ?_, k5, k6, k7, fun a t n h1 k => ?_, fun a ci n fk h1 k t hk => ?_⟩, by rw [hU2]; exact r3, by rw [hU2]; exact r4, r5, ⟨fun z => by rw [hU2]; exact r6.1 z, fun a ha => ?_⟩, fun a ha => ?_, R', r8, u1, u2, rfl⟩
  · rcases Nat.lt_or_ge a 129 with ca | ca
    · rw [hh a ca, g1 a t n (wlo ca h1) h2]
      show _ = some (Sum.inl (t, n, Sum.inl fun j => Int32.ofInt ((fun a => if a < 129 then U.1 a else R'.1 a) a j)))
      rw [u2 a ca]
    · rw [k1 a t n (by have q := wb (R1 := R') (V := (fun a => if a < 129 then U.1 a else R'.1 a, R'.2)) ca rfl; rw [← q]; exact h1) h2]
      show _ = some (Sum.inl (t, n, Sum.inl fun j => Int32.ofInt ((fun a => if a < 129 then U.1 a else R'.1 a) a j)))
      rw [u1 a ca]
  · rcases Nat.lt_or_ge a 129 with ca | ca
    · rw [hh a ca, g2 a n h1]
      show _ = some (Sum.inl (3, n, Sum.inr (Sum.inl fun j => Int64.ofInt ((fun a => if a < 129 then U.1 a else R'.1 a) a j))))
      rw [u2 a ca]
    · rw [k2 a n (by rw [(Ta_r ca).1]; exact h1)]
      show _ = some (Sum.inl (3, n, Sum.inr (Sum.inl fun j => Int64.ofInt ((fun a => if a < 129 then U.1 a else R'.1 a) a j))))
      rw [u1 a ca]
  · rcases Nat.lt_or_ge a 129 with ca | ca
    · rw [hh a ca]
      exact g3 a n h1
    · exact k3 a n (by rw [(Ta_r ca).1]; exact h1)
  · rcases Nat.lt_or_ge a 129 with ca | ca
    · rw [hh a ca, g4 a ci n fk h1]
      -- objects of the class hold no changing references
      have : w_fs (fun a => if a < 129 then U.1 a else R'.1 a, R'.2) a n fk = w_fs U a n fk := by
        unfold w_fs
        refine List.map_congr_left (fun k hk => ?_)
        have hne : ∀ j, fk k ≠ (2, j) := fun j hj => by
          have := pg_dk3 h1 hj
          simp only [pg_dk, List.mem_cons, Prod.mk.injEq, List.not_mem_nil, or_false] at this
          omega
        generalize fk k = q at hne
        obtain ⟨q1, q2⟩ := q
        unfold w_fv
        split
        · show Value.int (Int32.ofInt ((fun a => if a < 129 then U.1 a else R'.1 a) a k)) = _
          rw [u2 a ca]
        · rfl
        · rename_i hj
          exact absurd hj (hne _)
        · rfl
      rw [this]
    · rw [k4 a ci n fk (by rw [(Ta_r ca).2]; exact h1), w_fs_ne (S := R') (S' := (fun a => if a < 129 then U.1 a else R'.1 a, R'.2)) (u1 a ca) rfl]
  · show w_q t ((fun a => if a < 129 then U.1 a else R'.1 a) a k)
    rcases Nat.lt_or_ge a 129 with ca | ca
    · rw [u2 a ca]
      exact g8 a t n (wlo ca h1) k
    · rw [u1 a ca]
      exact k8 a t n (by have q := wb (R1 := R') (V := (fun a => if a < 129 then U.1 a else R'.1 a, R'.2)) ca rfl; rw [← q]; exact h1) k
  · show w_q t ((fun a => if a < 129 then U.1 a else R'.1 a) a k)
    rcases Nat.lt_or_ge a 129 with ca | ca
    · rw [u2 a ca]
      exact g9 a ci n fk h1 k t hk
    · rw [u1 a ca]
      exact k9 a ci n fk (by rw [(Ta_r ca).2]; exact h1) k t hk
  · show (fun a => if a < 129 then U.1 a else R'.1 a) a = U.1 a
    rcases Nat.lt_or_ge a 129 with ca | ca
    · exact u2 a ca
    · rw [u1 a ca]
      rw [fhi a ca] at ha
      rw [r6.2 a ha]
      exact (hU a ca).symm
  · rcases Nat.lt_or_ge a 129 with ca | ca
    · exact hh a ca
    · rw [fhi a ca] at ha
      exact r7 a ha
