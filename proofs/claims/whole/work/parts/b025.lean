section
-- d1
/-- the text has bytes from a place on -/
def gby (G : Int → Int) : Int → List Int → Prop
  | _, [] => True
  | p, b :: l => G p = b ∧ gby G (p + 1) l
theorem gby_app {G : Int → Int} : ∀ (l m : List Int) (p : Int), gby G p (l ++ m) ↔ gby G p l ∧ gby G (p + l.length) m
  | [], m, p => by
    rw [List.nil_append, gby, List.length_nil, show p + ((0 : Nat) : Int) = p by omega]
    exact ⟨fun h => ⟨trivial, h⟩, fun h => h.2⟩
  | b :: l, m, p => by
    rw [List.cons_append, gby, gby, gby_app l m (p + 1), List.length_cons, show p + 1 + (l.length : Int) = p + ((l.length + 1 : Nat) : Int) by omega]
    exact ⟨fun h => ⟨⟨h.1, h.2.1⟩, h.2.2⟩, fun h => ⟨h.1.1, h.1.2, h.2⟩⟩
theorem gby_of {G : Int → Int} : ∀ {l : List Int} {p : Int}, (∀ k : Nat, k < l.length → G (p + k) = l.getD k 0) → gby G p l
  | [], p, _ => trivial
  | b :: l, p, h => by
    rw [gby]
    refine ⟨?_, gby_of (fun k hk => ?_)⟩
    · have := h 0 (by rw [List.length_cons]; omega)
      rw [show p + ((0 : Nat) : Int) = p by omega] at this
      exact this
    · have := h (k + 1) (by rw [List.length_cons]; omega)
      rw [show p + 1 + (k : Int) = p + ((k + 1 : Nat) : Int) by omega]
      exact this
theorem gby_at {G : Int → Int} : ∀ {l : List Int} {p : Int}, gby G p l → ∀ k : Nat, k < l.length → G (p + k) = l.getD k 0
  | [], p, _, k, hk => by
    rw [List.length_nil] at hk
    omega
  | b :: l, p, h, k, hk => by
    rw [gby] at h
    rcases k with _ | k
    · rw [show p + ((0 : Nat) : Int) = p by omega]
      exact h.1
    · have := gby_at h.2 k (by rw [List.length_cons] at hk; omega)
      rw [show p + 1 + (k : Int) = p + ((k + 1 : Nat) : Int) by omega] at this
      exact this
theorem rowL_g (G : Int → Int) (x : Int) : gby G x (rowL G x) := gby_of (fun k hk => by
  rw [rowL_len] at hk
  rw [rowL_get G x hk])
theorem rowL_v {G : Int → Int} {x : Int} (h : 1 ≤ nw rwb G 40 x) : vrow (rowL G x) := by
  refine ⟨by rw [rowL_len]; exact h, by rw [rowL_len]; exact nw_le rwb G 40 x, fun b hb => ?_⟩
  unfold rowL at hb
  rw [List.mem_map] at hb
  obtain ⟨k, k1, k2⟩ := hb
  rw [List.mem_range] at k1
  rw [← k2]
  exact nw_all 40 x k k1
theorem sfl_g {G : Int → Int} : ∀ (k : Nat) (q : Int), 0 ≤ q → 0 ≤ sfC G k q → gby G q ((sfl G k q).flatMap sb) ∧ sfC G k q = q + (((sfl G k q).flatMap sb).length : Nat) ∧ ∀ s, s ∈ sfl G k q → vrow s.2 ∧ cdb s.1 = true
  | 0, q, h, h1 => by
    rw [sfl, sfC, List.flatMap_nil, List.length_nil]
    exact ⟨trivial, by omega, fun s hs => by cases hs⟩
  | k + 1, q, h, h1 => by
    by_cases c : G q = 36
    · have sc : sfC G (k + 1) q = if pW G (pP cdb G (q + 1)) < 0 then pW G (pP cdb G (q + 1)) else sfC G k (pW G (pP cdb G (q + 1))) := by
        rw [sfC, if_pos c]
      rw [sc] at h1 ⊢
      have d : ¬ pW G (pP cdb G (q + 1)) < 0 := fun d => by
        rw [if_pos d] at h1
        omega
      rw [if_neg d] at h1 ⊢
      obtain ⟨x0, x1, x2⟩ := pW_ge2 (show 0 ≤ pW G (pP cdb G (q + 1)) by omega)
      obtain ⟨c0, c1, c2⟩ := pP_ge x0
      have e1 : pP cdb G (q + 1) = q + 2 := by omega
      rw [e1] at x1 x2 h1 ⊢
      rw [x1] at h1 ⊢
      obtain ⟨r1, r2, r3⟩ := sfl_g k (q + 2 + (nw rwb G 40 (q + 2) : Nat)) (by omega) h1
      rw [sfl, if_pos c, List.flatMap_cons]
      have lsb : (sb (G (q + 1), rowL G (q + 2))).length = nw rwb G 40 (q + 2) + 2 := by
        unfold sb
        rw [List.length_cons, List.length_cons, rowL_len]
      refine ⟨?_, ?_, fun s hs => ?_⟩
      · rw [gby_app, lsb]
        refine ⟨?_, ?_⟩
        · unfold sb
          rw [gby, gby, show q + 1 + 1 = q + 2 by omega]
          exact ⟨c, rfl, rowL_g G (q + 2)⟩
        · rw [show q + ((nw rwb G 40 (q + 2) + 2 : Nat) : Int) = q + 2 + (nw rwb G 40 (q + 2) : Nat) by omega]
          exact r1
      · rw [r2, List.length_append, lsb]
        omega
      · rcases List.mem_cons.1 hs with hs | hs
        · rw [hs]
          exact ⟨rowL_v x2, c1⟩
        · exact r3 s hs
    · rw [sfl, if_neg c, sfC, if_neg c, List.flatMap_nil, List.length_nil]
      exact ⟨trivial, by omega, fun s hs => by cases hs⟩
theorem tag_ok {G : Int → Int} {p : Int} (h : 0 ≤ fqs G p) : 0 ≤ p ∧ fqs G p = p + 4 ∧ gby G p (tg3 (vl G p 3) ++ [32]) ∧ 1 ≤ vl G p 3 ∧ vl G p 3 ≤ 999 := by
  obtain ⟨b1, b2, b3⟩ := pB_ge (show 0 ≤ pB G 32 (pT G 1 p) from h)
  have p0 := pT_ge b1
  have vb := pT_v b1
  have e0 : fqs G p = pB G 32 (pT G 1 p) := rfl
  have hn : pT G 1 p = p + 3 ∧ nd G 3 p = 3 := by
    have nl := nd_le G 3 p
    unfold pT at b1 ⊢
    rw [if_neg (by omega)] at b1 ⊢
    split at b1
    · omega
    · rename_i c1
      rw [if_neg c1]
      split at b1
      · omega
      · rename_i c2
        rw [if_neg c2]
        omega
  have hd := nd_all (G := G) 3 p
  rw [hn.2] at hd
  have d0 := dgt_iff.1 (hd 0 (by omega))
  have d1 := dgt_iff.1 (hd 1 (by omega))
  have d2 := dgt_iff.1 (hd 2 (by omega))
  have v3 : vl G p 3 = ((0 * 10 + G (p + ((0 : Nat) : Int)) - 48) * 10 + G (p + ((1 : Nat) : Int)) - 48) * 10 + G (p + ((2 : Nat) : Int)) - 48 := by
    rw [vl, vl, vl, vl, if_pos (by omega), if_pos (by omega), if_pos (by omega)]
  have z0 : p + ((0 : Nat) : Int) = p := by omega
  have z1 : p + ((1 : Nat) : Int) = p + 1 := by omega
  have z2 : p + ((2 : Nat) : Int) = p + 1 + 1 := by omega
  rw [z0] at d0 v3
  rw [z1] at d1 v3
  rw [z2] at d2 v3
  rw [hn.1] at b2
  refine ⟨p0, by omega, ?_, vb.1, vb.2⟩
  unfold tg3
  show G p = 48 + vl G p 3 / 100 ∧ G (p + 1) = 48 + vl G p 3 / 10 % 10 ∧ G (p + 1 + 1) = 48 + vl G p 3 % 10 ∧ G (p + 1 + 1 + 1) = 32 ∧ True
  rw [show p + 1 + 1 + 1 = p + 3 by omega]
  refine ⟨by omega, by omega, by omega, b2, trivial⟩
/-- the text from a field's place on is that field -/
theorem fld_ser {G : Int → Int} {p : Int} (h : 0 ≤ fqC G p) : gby G p (ser (Fld G p)) ∧ fqC G p = p + ((ser (Fld G p)).length : Nat) ∧ vfd (Fld G p) := by
  have d : ¬ fqs G p < 0 := fun d => by
    unfold fqC at h
    rw [if_pos d] at h
    omega
  obtain ⟨p0, e4, tg, t1, t2⟩ := tag_ok (show 0 ≤ fqs G p by omega)
  have fe : fqC G p = pB G 10 (if vl G p 3 < 10 then pW G (p + 4) else sfD G (pP inb G (pP inb G (p + 4)))) := by
    unfold fqC
    rw [if_neg d, e4]
  rw [fe] at h ⊢
  have lt : (tg3 (vl G p 3)).length = 3 := rfl
  have join : ∀ b : List Int, ∀ f : Fdl, f.1 = vl G p 3 → fbd f = b → gby G (p + 4) (b ++ [10]) → gby G p (ser f) ∧ (ser f).length = b.length + 5 := fun b f hf hb hg => by
    unfold ser
    rw [hf, hb]
    refine ⟨?_, ?_⟩
    · rw [show tg3 (vl G p 3) ++ 32 :: b ++ [10] = (tg3 (vl G p 3) ++ [32]) ++ (b ++ [10]) by simp, gby_app]
      refine ⟨tg, ?_⟩
      rw [List.length_append, lt]
      exact hg
    · rw [List.length_append, List.length_append, lt, List.length_cons]
      show 3 + (b.length + 1) + 1 = b.length + 5
      omega
  by_cases c : vl G p 3 < 10
  · rw [if_pos c] at h ⊢
    obtain ⟨a1, a2, a3⟩ := pB_ge h
    obtain ⟨x0, x1, x2⟩ := pW_ge2 a1
    have fl : Fld G p = (vl G p 3, 0, 0, [(0, rowL G (p + 4))]) := by
      unfold Fld
      rw [if_pos c]
    rw [fl]
    have jn := join (rowL G (p + 4)) (vl G p 3, 0, 0, [(0, rowL G (p + 4))]) rfl (by
      unfold fbd
      rw [if_pos c]
      show (rowL G (p + 4)) ++ [] = _
      rw [List.append_nil]) (by
      rw [gby_app, rowL_len, ← x1]
      exact ⟨rowL_g G (p + 4), a2, trivial⟩)
    refine ⟨jn.1, by rw [jn.2, a3, x1, rowL_len]; omega, t1, t2, fun s hs => ?_, fun _ => ⟨rfl, rfl, _, rfl⟩, fun z => ?_⟩
    · rcases List.mem_cons.1 hs with hs | hs
      · rw [hs]
        exact rowL_v x2
      · cases hs
    · have z' : 10 ≤ vl G p 3 := z
      omega
  · rw [if_neg c] at h ⊢
    obtain ⟨a1, a2, a3⟩ := pB_ge h
    unfold sfD at a1 a2 a3 ⊢
    have g : ¬ pW G (pP cdb G (pB G 36 (pP inb G (pP inb G (p + 4))))) < 0 := fun g => by
      rw [if_pos g] at a1
      omega
    rw [if_neg g] at a1 a2 a3 ⊢
    obtain ⟨x0, x1, x2⟩ := pW_ge2 (show 0 ≤ pW G (pP cdb G (pB G 36 (pP inb G (pP inb G (p + 4))))) by omega)
    obtain ⟨c0, c1, c2⟩ := pP_ge x0
    obtain ⟨b0, b1, b2⟩ := pB_ge c0
    obtain ⟨i0, i1, i2⟩ := pP_ge b0
    obtain ⟨j0, j1, j2⟩ := pP_ge i0
    have k0 : pP inb G (p + 4) = p + 5 := by omega
    have k1 : pP inb G (pP inb G (p + 4)) = p + 6 := by omega
    have k2 : pB G 36 (pP inb G (pP inb G (p + 4))) = p + 7 := by omega
    have k3 : pP cdb G (pB G 36 (pP inb G (pP inb G (p + 4)))) = p + 8 := by omega
    rw [k3] at x1 x2 a1 a2 a3 ⊢
    rw [x1] at a1 a2 a3 ⊢
    rw [k2] at c1
    rw [k1] at b1
    rw [k0] at i1
    obtain ⟨r1, r2, r3⟩ := sfl_g 4 (p + 8 + (nw rwb G 40 (p + 8) : Nat)) (by omega) a1
    have fl : Fld G p = (vl G p 3, G (p + 4), G (p + 5), (G (p + 7), rowL G (p + 8)) :: sfl G 4 (p + 8 + (nw rwb G 40 (p + 8) : Nat))) := by
      unfold Fld
      rw [if_neg c]
    rw [fl]
    have lsb : (sb (G (p + 7), rowL G (p + 8))).length = nw rwb G 40 (p + 8) + 2 := by
      unfold sb
      rw [List.length_cons, List.length_cons, rowL_len]
    have jn := join (G (p + 4) :: G (p + 5) :: (sb (G (p + 7), rowL G (p + 8)) ++ (sfl G 4 (p + 8 + (nw rwb G 40 (p + 8) : Nat))).flatMap sb)) (vl G p 3, G (p + 4), G (p + 5), (G (p + 7), rowL G (p + 8)) :: sfl G 4 (p + 8 + (nw rwb G 40 (p + 8) : Nat))) rfl (by
      unfold fbd
      rw [if_neg c, List.flatMap_cons]) (by
      rw [List.cons_append, List.cons_append, gby, gby, List.append_assoc, gby_app, gby_app, lsb]
      refine ⟨rfl, by rw [show p + 4 + 1 = p + 5 by omega], ?_, ?_, ?_⟩
      · rw [show p + 4 + 1 + 1 = p + 6 by omega]
        unfold sb
        rw [gby, gby, show p + 6 + 1 = p + 7 by omega, show p + 7 + 1 = p + 8 by omega]
        exact ⟨b1, rfl, rowL_g G (p + 8)⟩
      · rw [show p + 4 + 1 + 1 + ((nw rwb G 40 (p + 8) + 2 : Nat) : Int) = p + 8 + (nw rwb G 40 (p + 8) : Nat) by omega]
        exact r1
      · rw [show p + 4 + 1 + 1 + ((nw rwb G 40 (p + 8) + 2 : Nat) : Int) = p + 8 + (nw rwb G 40 (p + 8) : Nat) by omega, ← r2]
        exact ⟨a2, trivial⟩)
    refine ⟨jn.1, ?_, t1, t2, fun s hs => ?_, fun z => ?_, fun _ => ⟨?_, i1, ?_, fun s hs => ?_⟩⟩
    · rw [jn.2, a3, r2, List.length_cons, List.length_cons, List.length_append, lsb]
      omega
    · rcases List.mem_cons.1 hs with hs | hs
      · rw [hs]
        exact rowL_v x2
      · exact (r3 s hs).1
    · have z' : vl G p 3 < 10 := z
      omega
    · exact j1
    · exact List.cons_ne_nil _ _
    · rcases List.mem_cons.1 hs with hs | hs
      · rw [hs]
        exact c1
      · exact (r3 s hs).2
end
section
-- d2
/-- where the reading of a record ends, or what is wrong; and its fields -/
def rcq (G : Int → Int) (len : Int) : Nat → Nat → Int → Int
  | 0, i, q => if 1 ≤ i ∧ len ≤ q then q else -1 - q
  | k + 1, i, q => if 1 ≤ i ∧ len ≤ q then q else if fqC G q < 0 then fqC G q else rcq G len k (i + 1) (fqC G q)
def rcl (G : Int → Int) (len : Int) : Nat → Nat → Int → List Fdl
  | 0, _, _ => []
  | k + 1, i, q => if 1 ≤ i ∧ len ≤ q then [] else Fld G q :: rcl G len k (i + 1) (fqC G q)
theorem rcl_len (G : Int → Int) (len : Int) : ∀ (k i : Nat) (q : Int), (rcl G len k i q).length ≤ k
  | 0, _, _ => by
    rw [rcl, List.length_nil]
    omega
  | k + 1, i, q => by
    rw [rcl]
    split
    · rw [List.length_nil]
      omega
    · rw [List.length_cons]
      have := rcl_len G len k (i + 1) (fqC G q)
      omega
/-- a record that is right is the serialisation of its fields -/
theorem rcl_g {G : Int → Int} {len : Int} : ∀ (k i : Nat) (q : Int), 0 ≤ q → q ≤ len → 0 ≤ rcq G len k i q → (∀ p, 0 ≤ p → p ≤ len → fqC G p ≤ len) → gby G q (doc (rcl G len k i q)) ∧ rcq G len k i q = q + ((doc (rcl G len k i q)).length : Nat) ∧ rcq G len k i q = len ∧ (∀ f, f ∈ rcl G len k i q → vfd f) ∧ 1 ≤ i + (rcl G len k i q).length
  | 0, i, q, h, h1, h2, hb => by
    rw [rcq] at h2 ⊢
    rw [rcl]
    by_cases c : 1 ≤ i ∧ len ≤ q
    · rw [if_pos c]
      exact ⟨trivial, by show q = q + ((0 : Nat) : Int); omega, by omega, (fun f hf => nomatch hf), by rw [List.length_nil]; omega⟩
    · rw [if_neg c] at h2
      omega
  | k + 1, i, q, h, h1, h2, hb => by
    rw [rcq] at h2 ⊢
    rw [rcl]
    by_cases c : 1 ≤ i ∧ len ≤ q
    · rw [if_pos c, if_pos c]
      exact ⟨trivial, by show q = q + ((0 : Nat) : Int); omega, by omega, (fun f hf => nomatch hf), by rw [List.length_nil]; omega⟩
    · rw [if_neg c] at h2
      rw [if_neg c, if_neg c]
      by_cases d : fqC G q < 0
      · rw [if_pos d] at h2
        omega
      · rw [if_neg d] at h2
        rw [if_neg d]
        obtain ⟨s1, s2, s3⟩ := fld_ser (show 0 ≤ fqC G q by omega)
        obtain ⟨r1, r2, r3, r4, r5⟩ := rcl_g k (i + 1) (fqC G q) (by omega) (hb q h h1) h2 hb
        have dc : doc (Fld G q :: rcl G len k (i + 1) (fqC G q)) = ser (Fld G q) ++ doc (rcl G len k (i + 1) (fqC G q)) := by
          unfold doc
          rw [List.flatMap_cons]
        rw [dc]
        refine ⟨?_, ?_, r3, fun f hf => ?_, by rw [List.length_cons]; omega⟩
        · rw [gby_app, ← s2]
          exact ⟨s1, r1⟩
        · rw [r2, List.length_append]
          omega
        · rcases List.mem_cons.1 hf with hf | hf
          · rw [hf]
            exact s3
          · exact r4 f hf
theorem l_recR {e : w_E} {N : Nat} {len : Int} {G : Int → Int} {R : w_S} (hN : 2001 ≤ N) (hR : TR R len G) : ∀ (k i nf : Nat) (q : Int), i + k = 12 → k < nf → 0 ≤ q → q ≤ len → El_R_recordText e N nf 0 [q, (i : Int)] [] R = some (rcq G len k i q, R)
  | _, _, 0, _, _, h, _, _ => by omega
  | k, i, nf + 1, q, g1, g2, g3, g4 => by
    have lb := hR.2.2.1
    have hx := x_fieldText (e := e) (N := N) hN hR g3 g4
    rw [← fq_eq] at hx
    have bd := fqR_bd hR.e (show Bd len q from ⟨by omega, g4⟩)
    rw [← fq_eq] at bd
    unfold Bd at bd
    have step : ∀ k', k = k' + 1 → ¬ (1 ≤ i ∧ len ≤ q) → Ok ((E_R_fieldText e N q R).bind (fun z => (if 0 ≤ z.1 then (if w_nb ((i : Int) + 1) = true then El_R_recordText e N nf 0 [z.1, (i : Int) + 1] [] z.2 else none) else some (z.1, z.2)))) (fun y S1 => y = rcq G len k i q ∧ S1 = R) := fun k' hk hn => by
      subst hk
      refine ok_b (ok_of hx ?_)
      dsimp only
      by_cases d : 0 ≤ fqC G q
      · rw [show rcq G len (k' + 1) i q = rcq G len k' (i + 1) (fqC G q) by rw [rcq, if_neg hn, if_neg (by omega)]]
        have ih := l_recR (e := e) (N := N) hN hR k' (i + 1) nf (fqC G q) (by omega) (by omega) d (by omega)
        rw [show ((i + 1 : Nat) : Int) = (i : Int) + 1 by omega] at ih
        exact ok_t d (ok_nb (by omega) (ok_of ih ⟨rfl, rfl⟩))
      · rw [show rcq G len (k' + 1) i q = fqC G q by rw [rcq, if_neg hn, if_pos (by omega)]]
        exact ok_e d (ok_s ⟨rfl, rfl⟩)
    refine ok_eq ?_
    rw [El_R_recordText, hR.1]
    by_cases c : 1 ≤ i ∧ len ≤ q
    · have e1 : rcq G len k i q = q := by
        cases k with
        | zero => rw [rcq, if_pos c]
        | succ k => rw [rcq, if_pos c]
      rw [e1]
      exact ok_e (by omega) (ok_t c.2 (ok_s ⟨rfl, rfl⟩))
    · by_cases k0 : k = 0
      · subst k0
        have e1 : rcq G len 0 i q = -1 - q := by rw [rcq, if_neg c]
        rw [e1]
        exact ok_e (by omega) (ok_e (by omega) (ok_e (by omega) (ok_nb (by omega) (ok_s ⟨rfl, rfl⟩))))
      · obtain ⟨k', hk'⟩ : ∃ k', k = k' + 1 := ⟨k - 1, by omega⟩
        have st := step k' hk' c
        by_cases i0 : (i : Int) = 0
        · exact ok_t i0 (ok_t (by omega) st)
        · exact ok_e i0 (ok_e (by omega) (ok_t (by omega) st))
theorem x_recordText {e : w_E} {N : Nat} {len : Int} {G : Int → Int} {R : w_S} (hN : 2001 ≤ N) (hR : TR R len G) : E_R_recordText e N R = some (rcq G len 12 0 0, R) := by
  unfold E_R_recordText
  exact l_recR hN hR 12 0 N 0 (by omega) (by omega) (by omega) hR.2.1
end
section
-- d3
theorem DrF.congr {T T' : w_S} {t2 : Nat → Int} {top : Int} {F : Nat} {d : Fdl} (h : DrF T t2 top F d) (e1 : T'.1 121 F = T.1 121 F) (e2 : T'.1 122 F = T.1 122 F) (e3 : T'.1 123 F = T.1 123 F) (e5 : T'.1 125 F = T.1 125 F) (e6 : ∀ j, j < d.2.2.2.length → T'.1 126 (13 * F + j) = T.1 126 (13 * F + j) ∧ T'.1 127 (13 * F + j) = T.1 127 (13 * F + j)) : DrF T' t2 top F d := by
  obtain ⟨h1, h2, h3, h4, h5⟩ := h
  refine ⟨by rw [e1, h1], by rw [e2, h2], by rw [e3, h3], by rw [e5, h4], fun j hj => ?_⟩
  rw [(e6 j hj).1, (e6 j hj).2]
  exact h5 j hj
theorem Fld_subs (G : Int → Int) (p : Int) : (Fld G p).2.2.2.length ≤ 5 := by
  unfold Fld
  split
  · show 1 ≤ 5
    omega
  · show (sfl G 4 _).length + 1 ≤ 5
    have := sfl_len G 4 (p + 8 + (nw rwb G 40 (p + 8) : Nat))
    omega
/-- the class's reading of a record -/
theorem l_recC {e : w_E} {N : Nat} {f len : Int} {G : Int → Int} (hN : 2001 ≤ N) (hb : ∀ p, 0 ≤ p → p ≤ len → fqC G p ≤ len) : ∀ (k i nf : Nat) (T : w_S) (a w q : Int), i + k = 12 → k < nf → TX T f len G → At f len a w q → T.1 120 0 = i → (0 ≤ q ∨ 1 ≤ i) → Ok (El_Draft_readRecord e N nf 0 [(i : Int)] [] (tp T a w)) (fun _ S1 => ∃ T' a' w', S1 = tp T' a' w' ∧ At f len a' w' (if q < 0 then q else rcq G len k i q) ∧ frm [121, 122, 123, 125, 126, 127] [120] [(120, 0)] T T' ∧ (∀ u, u < i → T'.1 121 u = T.1 121 u ∧ T'.1 122 u = T.1 122 u ∧ T'.1 123 u = T.1 123 u ∧ T'.1 125 u = T.1 125 u) ∧ (∀ u, u < 13 * i → T'.1 126 u = T.1 126 u ∧ T'.1 127 u = T.1 127 u) ∧ (0 ≤ q → 0 ≤ rcq G len k i q → T'.1 120 0 = (i : Int) + (rcl G len k i q).length ∧ ∀ j, j < (rcl G len k i q).length → DrF T' (T.1 2) (f + len) (i + j) ((rcl G len k i q).getD j (0, 0, 0, []))))
  | _, _, 0, _, _, _, _, _, h, _, _, _, _ => by omega
  | k, i, nf + 1, T, a, w, q, g1, g2, hT, ha, h1, h2 => by
    have hp := x_peek (e := e) (N := N) hT ha
    have fin : (q < 0 ∨ k = 0 ∨ (1 ≤ i ∧ len ≤ q)) → Ok ((E_Tape_takeEnd e N (tp T a w)).bind (fun q128 => some (0, q128.2))) (fun _ S1 => ∃ T' a' w', S1 = tp T' a' w' ∧ At f len a' w' (if q < 0 then q else rcq G len k i q) ∧ frm [121, 122, 123, 125, 126, 127] [120] [(120, 0)] T T' ∧ (∀ u, u < i → T'.1 121 u = T.1 121 u ∧ T'.1 122 u = T.1 122 u ∧ T'.1 123 u = T.1 123 u ∧ T'.1 125 u = T.1 125 u) ∧ (∀ u, u < 13 * i → T'.1 126 u = T.1 126 u ∧ T'.1 127 u = T.1 127 u) ∧ (0 ≤ q → 0 ≤ rcq G len k i q → T'.1 120 0 = (i : Int) + (rcl G len k i q).length ∧ ∀ j, j < (rcl G len k i q).length → DrF T' (T.1 2) (f + len) (i + j) ((rcl G len k i q).getD j (0, 0, 0, [])))) := fun hh => by
      refine tk_b (x_takeEnd hT ha) (fun _ a1 w1 ha1 _ => ok_s ?_)
      by_cases c : q < 0
      · rw [pE_neg c] at ha1
        exact ⟨T, a1, w1, rfl, by rw [if_pos c]; exact ha1, frm.refl _ _ _ _, fun _ _ => ⟨rfl, rfl, rfl, rfl⟩, fun _ _ => ⟨rfl, rfl⟩, fun z => by omega⟩
      · rw [pE_at hT ha (by omega)] at ha1
        by_cases d : 1 ≤ i ∧ len ≤ q
        · have e1 : rcq G len k i q = q := by
            cases k with
            | zero => rw [rcq, if_pos d]
            | succ k => rw [rcq, if_pos d]
          have e2 : rcl G len k i q = [] := by
            cases k with
            | zero => rfl
            | succ k => rw [rcl, if_pos d]
          rw [if_pos d.2] at ha1
          refine ⟨T, a1, w1, rfl, by rw [if_neg c, e1]; exact ha1, frm.refl _ _ _ _, fun _ _ => ⟨rfl, rfl, rfl, rfl⟩, fun _ _ => ⟨rfl, rfl⟩, fun _ _ => ⟨?_, fun j hj => ?_⟩⟩
          · rw [e2, List.length_nil, h1]
            omega
          · rw [e2, List.length_nil] at hj
            omega
        · have k0 : k = 0 := by omega
          subst k0
          have e1 : rcq G len 0 i q = -1 - q := by rw [rcq, if_neg d]
          rw [if_neg (by omega)] at ha1
          exact ⟨T, a1, w1, rfl, by rw [if_neg c, e1]; exact ha1, frm.refl _ _ _ _, fun _ _ => ⟨rfl, rfl, rfl, rfl⟩, fun _ _ => ⟨rfl, rfl⟩, fun _ z => by rw [e1] at z; omega⟩
    have more : 0 ≤ q → ∀ k', k = k' + 1 → ¬ (1 ≤ i ∧ len ≤ q) → Ok ((E_Draft_readField e N (tp T a w)).bind (fun q129 => (if w_nb ((i : Int) + 1) = true then El_Draft_readRecord e N nf 0 [(i : Int) + 1] [] q129.2 else none))) (fun _ S1 => ∃ T' a' w', S1 = tp T' a' w' ∧ At f len a' w' (if q < 0 then q else rcq G len k i q) ∧ frm [121, 122, 123, 125, 126, 127] [120] [(120, 0)] T T' ∧ (∀ u, u < i → T'.1 121 u = T.1 121 u ∧ T'.1 122 u = T.1 122 u ∧ T'.1 123 u = T.1 123 u ∧ T'.1 125 u = T.1 125 u) ∧ (∀ u, u < 13 * i → T'.1 126 u = T.1 126 u ∧ T'.1 127 u = T.1 127 u) ∧ (0 ≤ q → 0 ≤ rcq G len k i q → T'.1 120 0 = (i : Int) + (rcl G len k i q).length ∧ ∀ j, j < (rcl G len k i q).length → DrF T' (T.1 2) (f + len) (i + j) ((rcl G len k i q).getD j (0, 0, 0, [])))) := fun q0 k' hk hn => by
      subst hk
      refine ok_b ((x_readField (e := e) (N := N) (F := i) hN (by omega) hT ha h1).mono (fun _ S1 z => ?_))
      obtain ⟨T1, a1, w1, z1, z2, z3, z4, z5, z6, z7⟩ := z
      subst z1
      refine ok_nb (by omega) ?_
      have t2 : T1.1 2 = T.1 2 := z3.2.1 2 rfl rfl
      have hT1 : TX T1 f len G := by
        unfold TX at hT ⊢
        rw [z3.2.1 1 rfl rfl, t2]
        exact hT
      have ih := l_recC (e := e) (N := N) (f := f) (len := len) (G := G) hN hb k' (i + 1) nf T1 a1 w1 (fqC G q) (by omega) (by omega) hT1 z2 (by rw [z4]; omega) (Or.inr (by omega))
      rw [show ((i + 1 : Nat) : Int) = (i : Int) + 1 by omega] at ih
      refine ih.mono (fun _ S2 r => ?_)
      obtain ⟨T2, a2, w2, r1, r2, r3, r4, r5, r6⟩ := r
      have e1 : rcq G len (k' + 1) i q = if fqC G q < 0 then fqC G q else rcq G len k' (i + 1) (fqC G q) := by
        rw [rcq, if_neg hn]
      have e2 : rcl G len (k' + 1) i q = Fld G q :: rcl G len k' (i + 1) (fqC G q) := by
        rw [rcl, if_neg hn]
      refine ⟨T2, a2, w2, r1, by rw [if_neg (by omega), e1]; exact r2, z3.trans r3, fun u hu => ?_, fun u hu => ?_, fun _ hpos => ?_⟩
      · have s1 := r4 u (by omega)
        have s2 := z5 u (by omega)
        exact ⟨s1.1.trans s2.1, s1.2.1.trans s2.2.1, s1.2.2.1.trans s2.2.2.1, s1.2.2.2.trans s2.2.2.2⟩
      · have s1 := r5 u (by omega)
        have s2 := z6 u (by omega)
        exact ⟨s1.1.trans s2.1, s1.2.trans s2.2⟩
      · rw [e1] at hpos
        have d : ¬ fqC G q < 0 := fun d => by
          rw [if_pos d] at hpos
          omega
        rw [if_neg d] at hpos
        obtain ⟨v1, v2⟩ := r6 (by omega) hpos
        rw [e2, List.length_cons]
        refine ⟨by rw [v1]; omega, fun j hj => ?_⟩
        rcases j with _ | j
        · have fd := z7 q0 (by omega)
          have ls := Fld_subs G q
          have s1 := r4 i (by omega)
          show DrF T2 (T.1 2) (f + len) i (Fld G q)
          exact fd.congr s1.1 s1.2.1 s1.2.2.1 s1.2.2.2 (fun j hj => r5 _ (by omega))
        · have := v2 j (by omega)
          rw [t2] at this
          rw [show i + (j + 1) = i + 1 + j by omega]
          exact this
    rw [El_Draft_readRecord]
    by_cases k0 : k = 0
    · exact ok_t (by omega) (fin (Or.inr (Or.inl k0)))
    · obtain ⟨k', hk'⟩ : ∃ k', k = k' + 1 := ⟨k - 1, by omega⟩
      refine ok_e (by omega) ?_
      by_cases i0 : (i : Int) = 0
      · exact ok_t i0 (more (by omega) k' hk' (by omega))
      · refine ok_e i0 (ok_b (ok_of hp ?_))
        dsimp only
        by_cases c : q < 0
        · exact ok_t (by rw [if_pos c]) (fin (Or.inl c))
        · have t1 := tx_at hT (show 0 ≤ q by omega)
          by_cases d : len ≤ q
          · exact ok_t (by rw [if_neg c]; exact t1.2 d) (fin (Or.inr (Or.inr ⟨by omega, d⟩)))
          · have t2 := t1.1 (by omega)
            exact ok_e (by rw [if_neg c]; omega) (more (by omega) k' hk' (by omega))
/-- a draft of the class: its fields -/
def Dr (T : w_S) (t2 : Nat → Int) (top : Int) (D : List Fdl) : Prop := T.1 120 0 = (D.length : Nat) ∧ ∀ F, F < D.length → DrF T t2 top F (D.getD F (0, 0, 0, []))
theorem x_readRecord {e : w_E} {N : Nat} {T : w_S} {f len a w : Int} {G : Int → Int} (hN : 2001 ≤ N) (hT : TX T f len G) (ha : At f len a w 0) : Ok (E_Draft_readRecord e N (tp T a w)) (fun _ S1 => ∃ T' a' w', S1 = tp T' a' w' ∧ At f len a' w' (rcq G len 12 0 0) ∧ frm [121, 122, 123, 125, 126, 127] [120] [(120, 0)] T T' ∧ (0 ≤ rcq G len 12 0 0 → Dr T' (T.1 2) (f + len) (rcl G len 12 0 0))) := by
  have l0 := hT.2.2.2.1
  have hb : ∀ p, 0 ≤ p → p ≤ len → fqC G p ≤ len := fun p p0 p1 => by
    have := fqR_bd hT.e (show Bd len p from ⟨by omega, p1⟩)
    rw [← fq_eq] at this
    exact this.2
  unfold E_Draft_readRecord
  rw [tp_put _ _ _ _ (by decide)]
  have key := l_recC (e := e) (N := N) (f := f) (len := len) (G := G) hN hb 12 0 N (w_put T 120 0 0) a w 0 (by omega) (by omega) (hT.put (by decide) (by decide)) ha (by simp only [w_put_r, reduceIte, Nat.reduceEqDiff, pt_at]; rfl) (Or.inl (by omega))
  refine Ok.mono (show Ok (El_Draft_readRecord e N N 0 [0] [] _) _ from key) (fun _ S1 z => ?_)
  obtain ⟨T', a', w', z1, z2, z3, z4, z5, z6⟩ := z
  refine ⟨T', a', w', z1, z2, frm.trans (by repeat (first | exact frm.refl _ _ _ _ | refine frm.put ?_ rfl | refine frm.puto ?_ rfl rfl)) z3, fun hpos => ?_⟩
  obtain ⟨v1, v2⟩ := z6 (by omega) hpos
  refine ⟨by rw [v1]; omega, fun F hF => ?_⟩
  have := v2 F hF
  simp only [w_put_r, reduceIte, Nat.reduceEqDiff, pt_at] at this
  rw [Nat.zero_add] at this
  exact this
end
section
-- d4
/-- which subfield is the first with a code -/
def fsi (c : Int) : List Sfl → Option Nat
  | [] => none
  | s :: ss => if s.1 = c then some 0 else (fsi c ss).map (fun n => n + 1)
def lng : List Sfl → Int
  | [] => 0
  | s :: ss => max (s.2.length : Int) (lng ss)
theorem l_slot {e : w_E} {N F : Nat} {T : w_S} {c : Int} {n : Nat} (hF : F < 20) (hn : n ≤ 13) (h5 : T.1 125 F = n) : ∀ (ss : List Sfl) (j nf : Nat), j + ss.length = n → ss.length < nf → (∀ i, i < ss.length → T.1 126 (13 * F + j + i) = (ss.getD i (0, [])).1) → El_Draft_slotOf e N nf 0 [(F : Int), c, (F : Int) * 13, (F : Int) * 13 + j] [] T = some ((match fsi c ss with | some k => ((13 * F + j + k : Nat) : Int) | none => -1), T)
  | _, _, 0, _, h, _ => by omega
  | [], j, nf + 1, h1, h2, h3 => by
    rw [List.length_nil] at h1
    refine ok_eq ?_
    rw [El_Draft_slotOf, show ((F : Int)).toNat = F by omega, h5, fsi]
    exact ok_ib (by omega) (ok_nb (by omega) (ok_t (by omega) (ok_s ⟨rfl, rfl⟩)))
  | s :: ss, j, nf + 1, h1, h2, h3 => by
    rw [List.length_cons] at h1 h2 h3
    have h0 := h3 0 (by omega)
    have ih := l_slot (e := e) (N := N) (F := F) (T := T) (c := c) hF hn h5 ss (j + 1) nf (by omega) (by omega) (fun i hi => by
      have := h3 (i + 1) (by omega)
      rw [show 13 * F + (j + 1) + i = 13 * F + j + (i + 1) by omega]
      exact this)
    rw [show (F : Int) * 13 + ((j + 1 : Nat) : Int) = (F : Int) * 13 + j + 1 by omega] at ih
    refine ok_eq ?_
    rw [El_Draft_slotOf, show ((F : Int)).toNat = F by omega, h5, fsi]
    refine ok_ib (by omega) (ok_nb (by omega) (ok_e (by omega) (ok_ib (by omega) ?_)))
    rw [show ((F : Int) * 13 + (j : Int)).toNat = 13 * F + j by omega, show T.1 126 (13 * F + j) = s.1 from h0]
    by_cases d : s.1 = c
    · rw [show (match (if s.1 = c then some 0 else (fsi c ss).map (fun n => n + 1)) with | some k => ((13 * F + j + k : Nat) : Int) | none => -1) = ((13 * F + j + 0 : Nat) : Int) by rw [if_pos d]]
      exact ok_e (by omega) (ok_s ⟨by omega, rfl⟩)
    · refine ok_t d (ok_nb (by omega) (ok_of ih ⟨?_, rfl⟩))
      rw [if_neg d]
      cases fsi c ss with
      | none => rfl
      | some k =>
        show ((13 * F + (j + 1) + k : Nat) : Int) = ((13 * F + j + (k + 1) : Nat) : Int)
        omega
theorem x_slot {e : w_E} {N F : Nat} {T : w_S} {c top : Int} {t2 : Nat → Int} {d : Fdl} (hN : 1000 ≤ N) (hF : F < 20) (hd : d.2.2.2.length ≤ 13) (h : DrF T t2 top F d) : E_Draft_slotOf e N (F : Int) c T = some ((match fsi c d.2.2.2 with | some k => ((13 * F + k : Nat) : Int) | none => -1), T) := by
  obtain ⟨_, _, _, h4, h5⟩ := h
  have key := l_slot (e := e) (N := N) (F := F) (T := T) (c := c) hF hd h4 d.2.2.2 0 N (by omega) (by omega) (fun i hi => (h5 i hi).1)
  rw [show (F : Int) * 13 + ((0 : Nat) : Int) = (F : Int) * 13 by omega, Nat.add_zero] at key
  refine ok_eq ?_
  unfold E_Draft_slotOf
  exact ok_nb (by omega) (ok_of key ⟨rfl, rfl⟩)
theorem l_long {e : w_E} {N F : Nat} {T : w_S} {n : Nat} {top : Int} {t2 : Nat → Int} (htop : top ≤ 10240) (hF : F < 20) (hn : n ≤ 13) (h5 : T.1 125 F = n) : ∀ (ss : List Sfl) (j nf : Nat) (m : Int), j + ss.length = n → ss.length < nf → 0 ≤ m → (∀ i, i < ss.length → (ss.getD i (0, [])).2.length < 64 ∧ ∃ b, Rw t2 top (T.1 127 (13 * F + j + i)) (ss.getD i (0, [])).2.length b) → El_Draft_longestRow e N nf 0 [(F : Int), m, (j : Int)] [] T = some (max m (lng ss), T)
  | _, _, 0, _, _, h, _, _ => by omega
  | [], j, nf + 1, m, h1, h2, h6, h3 => by
    rw [List.length_nil] at h1
    refine ok_eq ?_
    rw [El_Draft_longestRow, show ((F : Int)).toNat = F by omega, h5, lng]
    exact ok_ib (by omega) (ok_t (by omega) (ok_s ⟨by omega, rfl⟩))
  | s :: ss, j, nf + 1, m, h1, h2, h6, h3 => by
    rw [List.length_cons] at h1 h2 h3
    obtain ⟨l1, b, a, r1, r2, r3⟩ := h3 0 (by omega)
    have l1' : s.2.length < 64 := l1
    have r1' : T.1 127 (13 * F + j) = (a : Int) * 64 + (s.2.length : Nat) := r1
    have r2' : ((a + s.2.length : Nat) : Int) ≤ top := r2
    have ih := l_long (e := e) (N := N) (F := F) (T := T) (top := top) (t2 := t2) htop hF hn h5 ss (j + 1) nf (max m (s.2.length : Int)) (by omega) (by omega) (by omega) (fun i hi => by
      have := h3 (i + 1) (by omega)
      rw [show 13 * F + (j + 1) + i = 13 * F + j + (i + 1) by omega]
      exact this)
    rw [show ((j + 1 : Nat) : Int) = (j : Int) + 1 by omega] at ih
    refine ok_eq ?_
    rw [El_Draft_longestRow, show ((F : Int)).toNat = F by omega, h5, lng]
    refine ok_ib (by omega) (ok_e (by omega) (ok_nb (by omega) (ok_nb (by omega) (ok_ib (by omega) (ok_nb (by omega) ?_)))))
    rw [show ((F : Int) * 13 + (j : Int)).toNat = 13 * F + j by omega, r1', b_and63 (by omega) (by omega), show ((a : Int) * 64 + ((s.2.length : Nat) : Int)) % 64 = (s.2.length : Nat) by omega]
    refine ok_of ih ⟨?_, rfl⟩
    omega
theorem x_long {e : w_E} {N F : Nat} {T : w_S} {top : Int} {t2 : Nat → Int} {d : Fdl} (hN : 1000 ≤ N) (htop : top ≤ 10240) (hF : F < 20) (hd : d.2.2.2.length ≤ 13) (hv : vfd d) (h : DrF T t2 top F d) : E_Draft_longestRow e N (F : Int) T = some (lng d.2.2.2, T) := by
  obtain ⟨_, _, _, h4, h5⟩ := h
  have ln0 : ∀ l : List Sfl, 0 ≤ lng l := fun l => by
    cases l with
    | nil => rw [lng]; omega
    | cons s ss => rw [lng]; omega
  have key := l_long (e := e) (N := N) (F := F) (T := T) (top := top) (t2 := t2) htop hF hd h4 d.2.2.2 0 N 0 (by omega) (by omega) (by omega) (fun i hi => by
    refine ⟨?_, _, (h5 i hi).2⟩
    have := hv.2.2.1 (d.2.2.2.getD i (0, [])) (by
      rw [List.getD_eq_getElem?_getD, List.getElem?_eq_getElem hi]
      exact List.getElem_mem hi)
    have := this.2.1
    omega)
  rw [show max 0 (lng d.2.2.2) = lng d.2.2.2 by have := ln0 d.2.2.2; omega] at key
  unfold E_Draft_longestRow
  exact key
end
section
-- d5
theorem ok_len {l : Option Nat} {n : Nat} (h : l = some n) {k : Nat → e_R} {P : Int → w_S → Prop} (c : Ok (k n) P) : Ok (l.bind k) P := by
  rw [h]
  exact c
/-- a field's place in an array of the reference -/
def Fat (S : w_S) (a0 n p : Nat) (f : Fdl) : Prop := e_len Tr S a0 1 = some n ∧ n < 2000000000 ∧ byt (S.1 a0) p (ser f) ∧ p + (ser f).length ≤ n ∧ vfd f
theorem ser_len (f : Fdl) : (ser f).length = (fbd f).length + 5 := by
  unfold ser
  rw [List.length_append, List.length_append, List.length_cons]
  show 3 + ((fbd f).length + 1) + 1 = (fbd f).length + 5
  omega
theorem Fat.tag {S : w_S} {a0 n p : Nat} {f : Fdl} (h : Fat S a0 n p f) : S.1 a0 p = 48 + f.1 / 100 ∧ S.1 a0 (p + 1) = 48 + f.1 / 10 % 10 ∧ S.1 a0 (p + 2) = 48 + f.1 % 10 ∧ byt (S.1 a0) (p + 4) (fbd f ++ [10]) := by
  obtain ⟨_, _, h3, _, _⟩ := h
  unfold ser at h3
  rw [show tg3 f.1 ++ 32 :: fbd f ++ [10] = tg3 f.1 ++ ([32] ++ (fbd f ++ [10])) by simp, byt_app, byt_app] at h3
  obtain ⟨t, _, b⟩ := h3
  unfold tg3 at t
  obtain ⟨t0, t1, t2, _⟩ := t
  exact ⟨t0, t1, t2, b⟩
theorem x_fieldEnd {e : w_E} {N a0 n p : Nat} {S : w_S} {f : Fdl} (hN : n < N) (h : Fat S a0 n p f) : E_R_fieldEnd e N (p : Int) a0 S = some (((p + (fbd f).length + 4 : Nat) : Int), S) := by
  obtain ⟨h1, h2, h3, h4, h5⟩ := h
  have sl := ser_len f
  have t1 := h5.1
  have t2 := h5.2.1
  unfold E_R_fieldEnd
  have key := l_fieldEnd (e := e) (N := N) h1 h2 (tg3 f.1 ++ 32 :: fbd f) p N (fun b hb => by
    rcases List.mem_append.1 hb with hb | hb
    · unfold tg3 at hb
      rcases List.mem_cons.1 hb with hb | hb
      · omega
      · rcases List.mem_cons.1 hb with hb | hb
        · omega
        · rcases List.mem_cons.1 hb with hb | hb
          · omega
          · cases hb
    · rcases List.mem_cons.1 hb with hb | hb
      · omega
      · exact (fbd_ne h5 b hb).1) h3 (by
    rw [List.length_append, List.length_cons]
    show p + (3 + ((fbd f).length + 1)) < n
    omega) (by
    rw [List.length_append, List.length_cons]
    show 3 + ((fbd f).length + 1) < N
    omega)
  rw [key, List.length_append, List.length_cons]
  show some (((p + (3 + ((fbd f).length + 1)) : Nat) : Int), S) = _
  rw [show p + (3 + ((fbd f).length + 1)) = p + (fbd f).length + 4 by omega]
theorem x_firstA {e : w_E} {N a0 n p : Nat} {S : w_S} {f : Fdl} (hN : 2001 ≤ N) (hN2 : n < N) (h : Fat S a0 n p f) : E_R_firstA e N (p : Int) ((p + (fbd f).length + 4 : Nat) : Int) a0 S = some ((match (if f.1 < 10 then none else fsb 97 f.2.2.2) with | some k => ((p + 6 + k : Nat) : Int) | none => -1), S) := by
  obtain ⟨b0, b1, b2, b3⟩ := h.tag
  obtain ⟨h1, h2, h3, h4, h5⟩ := h
  have sl := ser_len f
  have t1 := h5.1
  have t2 := h5.2.1
  refine ok_eq ?_
  unfold E_R_firstA
  rw [show ((p : Int)).toNat = p by omega, show ((p : Int) + 1).toNat = p + 1 by omega, show ((p : Int) + 2).toNat = p + 2 by omega, b0, b1, b2]
  refine ok_len h1 ?_
  with_reducible refine ok_t (by omega) ?_
  with_reducible refine ok_t (by omega) (ok_nb (by omega) (ok_nb (by omega) (ok_nb (by omega) ?_)))
  refine ok_len h1 ?_
  with_reducible refine ok_t (by omega) ?_
  with_reducible refine ok_t (by omega) (ok_nb (by omega) (ok_nb (by omega) (ok_nb (by omega) (ok_nb (by omega) ?_))))
  refine ok_len h1 ?_
  with_reducible refine ok_t (by omega) ?_
  with_reducible refine ok_t (by omega) (ok_nb (by omega) (ok_nb (by omega) ?_))
  rw [show 100 * (48 + f.1 / 100 - 48) + 10 * (48 + f.1 / 10 % 10 - 48) + (48 + f.1 % 10) - 48 = f.1 by omega]
  have q10 : S.1 a0 (p + (fbd f).length + 4) = 10 := by
    have := ((byt_app (fbd f) [10] (p + 4)).1 b3).2
    rw [byt, show p + 4 + (fbd f).length = p + (fbd f).length + 4 by omega] at this
    exact this.1
  by_cases c : f.1 < 10
  · rw [if_pos c]
    have key : El_R_firstA e N N 0 [((p + (fbd f).length + 4 : Nat) : Int), ((p + (fbd f).length + 4 : Nat) : Int)] [a0] S = some (-1, S) := by
      obtain ⟨m, hm⟩ : ∃ m, N = m + 1 := ⟨N - 1, by omega⟩
      rw [show El_R_firstA e N N = El_R_firstA e N (m + 1) by rw [← hm], El_R_firstA, if_pos (by omega)]
    exact ok_e (by omega) (ok_of key ⟨rfl, rfl⟩)
  · rw [if_neg c]
    have fb : fbd f = f.2.1 :: f.2.2.1 :: f.2.2.2.flatMap sb := by
      unfold fbd
      rw [if_neg c]
    have b4 : byt (S.1 a0) (p + 6) (f.2.2.2.flatMap sb) := by
      have := ((byt_app (fbd f) [10] (p + 4)).1 b3).1
      rw [fb, byt, byt] at this
      exact this.2.2
    have lf : (fbd f).length = (f.2.2.2.flatMap sb).length + 2 := by
      rw [fb, List.length_cons, List.length_cons]
    have nsub : f.2.2.2.length ≤ (f.2.2.2.flatMap sb).length := by
      generalize f.2.2.2 = ss
      induction ss with
      | nil => exact Nat.le_refl _
      | cons s ss ih =>
        rw [List.flatMap_cons, List.length_append, List.length_cons]
        have : 1 ≤ (sb s).length := by
          unfold sb
          rw [List.length_cons]
          omega
        omega
    have key := l_firstA (e := e) (N := N) (q := p + (fbd f).length + 4) hN h1 h2 (by omega) q10 f.2.2.2 (p + 6) N h5.2.2.1 b4 (by omega) (by omega)
    rw [show ((p + 6 : Nat) : Int) = (p : Int) + 6 by omega] at key
    exact ok_t (by omega) (ok_nb (by omega) (ok_of key ⟨rfl, rfl⟩))
end
section
-- d6
theorem l_firstCode {e : w_E} {N n a0 : Nat} {q : Nat} {c0 : Int} {S : w_S} (hN : 2001 ≤ N) (hl : e_len Tr S a0 1 = some n) (hn : n < 2000000000) (hq : q < n) (h10 : S.1 a0 q = 10) : ∀ (ss : List Sfl) (p nf : Nat), (∀ s, s ∈ ss → vrow s.2) → byt (S.1 a0) p (ss.flatMap sb) → p + (ss.flatMap sb).length = q → ss.length < nf → El_R_firstCode e N nf 0 [(q : Int), c0, (p : Int)] [a0] S = some ((match fsb c0 ss with | some k => ((p + k : Nat) : Int) | none => -1), S)
  | _, _, 0, _, _, _, h => by omega
  | [], p, nf + 1, h1, h2, h3, h4 => by
    rw [List.flatMap_nil, List.length_nil] at h3
    rw [El_R_firstCode, if_pos (by omega), fsb]
  | s :: ss, p, nf + 1, h1, h2, h3, h4 => by
    rw [List.flatMap_cons] at h2 h3
    rw [List.length_append] at h3
    rw [byt_app] at h2
    obtain ⟨h5, h6⟩ := h2
    have vr := h1 s (List.mem_cons_self ..)
    have l1 : (sb s).length = s.2.length + 2 := by
      unfold sb
      rw [List.length_cons, List.length_cons]
    unfold sb at h5
    rw [byt, byt] at h5
    obtain ⟨b1, b2, b3⟩ := h5
    rw [List.length_cons] at h4
    rw [fsb]
    rw [El_R_firstCode, if_neg (by omega), if_pos (by rw [w_nbE]; omega), hl]
    show (if 0 ≤ (p : Int) + 1 then (if (p : Int) + 1 < (n : Int) then (if S.1 a0 ((p : Int) + 1).toNat ≠ c0 then (if w_nb ((p : Int) + 2) = true then ((E_R_rowEnd e N ((p : Int) + 2) (q : Int) a0 S).bind (fun q744 => El_R_firstCode e N nf 0 [(q : Int), c0, q744.1] [a0] q744.2)) else none) else some ((p : Int), S)) else none) else none) = _
    rw [if_pos (by omega), if_pos (by omega), show ((p : Int) + 1).toNat = p + 1 by omega, b2]
    by_cases c : s.1 = c0
    · rw [if_neg (by omega), if_pos c]
      rfl
    · rw [if_pos c, if_neg c, if_pos (by rw [w_nbE]; omega)]
      have ne : ∀ b, b ∈ s.2 → b ≠ 36 := fun b hb => by
        have := vr.2.2 b hb
        unfold rwb at this
        simp only [Bool.and_eq_true, decide_eq_true_eq, Bool.not_eq_true', decide_eq_false_iff_not] at this
        exact this.2
      have re := l_rowEnd (e := e) (N := N) (q := (q : Int)) hl hn s.2 (p + 2) N ne b3 (by omega) (by omega) (by
        cases ss with
        | nil =>
          rw [List.flatMap_nil, List.length_nil] at h3
          left
          omega
        | cons s2 ss2 =>
          right
          rw [List.flatMap_cons, byt_app] at h6
          have h7 := h6.1
          unfold sb at h7
          rw [byt] at h7
          have := h7.1
          rw [List.length_cons, List.length_cons, show p + (s.2.length + 1 + 1) = p + 2 + s.2.length by omega] at this
          exact this) (by have := vr.2.1; omega)
      have re' : E_R_rowEnd e N ((p : Int) + 2) (q : Int) a0 S = some (((p + 2 + s.2.length : Nat) : Int), S) := by
        unfold E_R_rowEnd
        rw [show (p : Int) + 2 = ((p + 2 : Nat) : Int) by omega]
        exact re
      rw [re']
      have ih := l_firstCode (e := e) (N := N) (c0 := c0) hN hl hn hq h10 ss (p + (sb s).length) nf (fun x hx => h1 x (List.mem_cons_of_mem _ hx)) h6 (by omega) (by omega)
      show El_R_firstCode e N nf 0 [(q : Int), c0, ((p + 2 + s.2.length : Nat) : Int)] [a0] S = _
      rw [show p + 2 + s.2.length = p + (sb s).length by omega, ih]
      cases fsb c0 ss with
      | none => rfl
      | some k =>
        show some (((p + (sb s).length + k : Nat) : Int), S) = some (((p + ((sb s).length + k) : Nat) : Int), S)
        rw [Nat.add_assoc]
theorem x_firstCode {e : w_E} {N a0 n p : Nat} {S : w_S} {f : Fdl} {c0 : Int} (hN : 2001 ≤ N) (hN2 : n < N) (h : Fat S a0 n p f) : E_R_firstCode e N (p : Int) ((p + (fbd f).length + 4 : Nat) : Int) c0 a0 S = some ((match (if f.1 < 10 then none else fsb c0 f.2.2.2) with | some k => ((p + 6 + k : Nat) : Int) | none => -1), S) := by
  obtain ⟨b0, b1, b2, b3⟩ := h.tag
  obtain ⟨h1, h2, h3, h4, h5⟩ := h
  have sl := ser_len f
  have t1 := h5.1
  have t2 := h5.2.1
  refine ok_eq ?_
  unfold E_R_firstCode
  rw [show ((p : Int)).toNat = p by omega, show ((p : Int) + 1).toNat = p + 1 by omega, show ((p : Int) + 2).toNat = p + 2 by omega, b0, b1, b2]
  refine ok_len h1 ?_
  with_reducible refine ok_t (by omega) ?_
  with_reducible refine ok_t (by omega) (ok_nb (by omega) (ok_nb (by omega) (ok_nb (by omega) ?_)))
  refine ok_len h1 ?_
  with_reducible refine ok_t (by omega) ?_
  with_reducible refine ok_t (by omega) (ok_nb (by omega) (ok_nb (by omega) (ok_nb (by omega) (ok_nb (by omega) ?_))))
  refine ok_len h1 ?_
  with_reducible refine ok_t (by omega) ?_
  with_reducible refine ok_t (by omega) (ok_nb (by omega) (ok_nb (by omega) ?_))
  rw [show 100 * (48 + f.1 / 100 - 48) + 10 * (48 + f.1 / 10 % 10 - 48) + (48 + f.1 % 10) - 48 = f.1 by omega]
  have q10 : S.1 a0 (p + (fbd f).length + 4) = 10 := by
    have := ((byt_app (fbd f) [10] (p + 4)).1 b3).2
    rw [byt, show p + 4 + (fbd f).length = p + (fbd f).length + 4 by omega] at this
    exact this.1
  by_cases c : f.1 < 10
  · rw [if_pos c]
    have key : El_R_firstCode e N N 0 [((p + (fbd f).length + 4 : Nat) : Int), c0, ((p + (fbd f).length + 4 : Nat) : Int)] [a0] S = some (-1, S) := by
      obtain ⟨m, hm⟩ : ∃ m, N = m + 1 := ⟨N - 1, by omega⟩
      rw [show El_R_firstCode e N N = El_R_firstCode e N (m + 1) by rw [← hm], El_R_firstCode, if_pos (by omega)]
    exact ok_e (by omega) (ok_of key ⟨rfl, rfl⟩)
  · rw [if_neg c]
    have fb : fbd f = f.2.1 :: f.2.2.1 :: f.2.2.2.flatMap sb := by
      unfold fbd
      rw [if_neg c]
    have b4 : byt (S.1 a0) (p + 6) (f.2.2.2.flatMap sb) := by
      have := ((byt_app (fbd f) [10] (p + 4)).1 b3).1
      rw [fb, byt, byt] at this
      exact this.2.2
    have lf : (fbd f).length = (f.2.2.2.flatMap sb).length + 2 := by
      rw [fb, List.length_cons, List.length_cons]
    have nsub : f.2.2.2.length ≤ (f.2.2.2.flatMap sb).length := by
      generalize f.2.2.2 = ss
      induction ss with
      | nil => exact Nat.le_refl _
      | cons s ss ih =>
        rw [List.flatMap_cons, List.length_append, List.length_cons]
        have : 1 ≤ (sb s).length := by
          unfold sb
          rw [List.length_cons]
          omega
        omega
    have key := l_firstCode (e := e) (N := N) (c0 := c0) (q := p + (fbd f).length + 4) hN h1 h2 (by omega) q10 f.2.2.2 (p + 6) N h5.2.2.1 b4 (by omega) (by omega)
    rw [show ((p + 6 : Nat) : Int) = (p : Int) + 6 by omega] at key
    exact ok_t (by omega) (ok_nb (by omega) (ok_of key ⟨rfl, rfl⟩))
theorem l_longest {e : w_E} {N n a0 : Nat} {q : Nat} {S : w_S} (hN : 2001 ≤ N) (hl : e_len Tr S a0 1 = some n) (hn : n < 2000000000) (hq : q < n) : ∀ (ss : List Sfl) (p nf : Nat) (m : Int), (∀ s, s ∈ ss → vrow s.2) → byt (S.1 a0) p (ss.flatMap sb) → p + (ss.flatMap sb).length = q → ss.length < nf → 0 ≤ m → El_R_longest e N nf 0 [(q : Int), m, (p : Int)] [a0] S = some (max m (lng ss), S)
  | _, _, 0, _, _, _, _, h, _ => by omega
  | [], p, nf + 1, m, h1, h2, h3, h4, h8 => by
    rw [List.flatMap_nil, List.length_nil] at h3
    rw [El_R_longest, if_pos (by omega), lng, show max m 0 = m by omega]
  | s :: ss, p, nf + 1, m, h1, h2, h3, h4, h8 => by
    rw [List.flatMap_cons] at h2 h3
    rw [List.length_append] at h3
    rw [byt_app] at h2
    obtain ⟨h5, h6⟩ := h2
    have vr := h1 s (List.mem_cons_self ..)
    have l1 : (sb s).length = s.2.length + 2 := by
      unfold sb
      rw [List.length_cons, List.length_cons]
    unfold sb at h5
    rw [byt, byt] at h5
    obtain ⟨b1, b2, b3⟩ := h5
    rw [List.length_cons] at h4
    have ne : ∀ b, b ∈ s.2 → b ≠ 36 := fun b hb => by
      have := vr.2.2 b hb
      unfold rwb at this
      simp only [Bool.and_eq_true, decide_eq_true_eq, Bool.not_eq_true', decide_eq_false_iff_not] at this
      exact this.2
    have re := l_rowEnd (e := e) (N := N) (q := (q : Int)) hl hn s.2 (p + 2) N ne b3 (by omega) (by omega) (by
      cases ss with
      | nil =>
        rw [List.flatMap_nil, List.length_nil] at h3
        left
        omega
      | cons s2 ss2 =>
        right
        rw [List.flatMap_cons, byt_app] at h6
        have h7 := h6.1
        unfold sb at h7
        rw [byt] at h7
        have := h7.1
        rw [List.length_cons, List.length_cons, show p + (s.2.length + 1 + 1) = p + 2 + s.2.length by omega] at this
        exact this) (by have := vr.2.1; omega)
    have re' : E_R_rowEnd e N ((p : Int) + 2) (q : Int) a0 S = some (((p + 2 + s.2.length : Nat) : Int), S) := by
      unfold E_R_rowEnd
      rw [show (p : Int) + 2 = ((p + 2 : Nat) : Int) by omega]
      exact re
    have ih := fun m' (hm : 0 ≤ m') => l_longest (e := e) (N := N) hN hl hn hq ss (p + (sb s).length) nf m' (fun x hx => h1 x (List.mem_cons_of_mem _ hx)) h6 (by omega) (by omega) hm
    rw [show p + (sb s).length = p + 2 + s.2.length by omega] at ih
    refine ok_eq ?_
    rw [El_R_longest, lng]
    refine ok_e (by omega) (ok_nb (by omega) (ok_b (ok_of re' ?_)))
    dsimp only
    refine ok_nb (by omega) (ok_nb (by omega) ?_)
    by_cases c : ((p + 2 + s.2.length : Nat) : Int) - (p : Int) - 2 ≤ m
    · refine ok_t c (ok_b (ok_of re' ?_))
      dsimp only
      exact ok_of (ih m h8) ⟨by omega, rfl⟩
    · refine ok_e c (ok_b (ok_of re' ?_))
      dsimp only
      refine ok_nb (by omega) (ok_nb (by omega) (ok_b (ok_of re' ?_)))
      dsimp only
      exact ok_of (ih _ (by omega)) ⟨by omega, rfl⟩
end
section
-- d7
theorem x_longest {e : w_E} {N a0 n p : Nat} {S : w_S} {f : Fdl} (hN : 2001 ≤ N) (hN2 : n < N) (h : Fat S a0 n p f) : E_R_longest e N (p : Int) ((p + (fbd f).length + 4 : Nat) : Int) a0 S = some (lng f.2.2.2, S) := by
  obtain ⟨b0, b1, b2, b3⟩ := h.tag
  obtain ⟨h1, h2, h3, h4, h5⟩ := h
  have sl := ser_len f
  have t1 := h5.1
  have t2 := h5.2.1
  have ln0 : ∀ l : List Sfl, 0 ≤ lng l := fun l => by
    cases l with
    | nil => rw [lng]; omega
    | cons s ss => rw [lng]; omega
  refine ok_eq ?_
  unfold E_R_longest
  rw [show ((p : Int)).toNat = p by omega, show ((p : Int) + 1).toNat = p + 1 by omega, show ((p : Int) + 2).toNat = p + 2 by omega, b0, b1, b2]
  refine ok_len h1 ?_
  with_reducible refine ok_t (by omega) ?_
  with_reducible refine ok_t (by omega) (ok_nb (by omega) (ok_nb (by omega) (ok_nb (by omega) ?_)))
  refine ok_len h1 ?_
  with_reducible refine ok_t (by omega) ?_
  with_reducible refine ok_t (by omega) (ok_nb (by omega) (ok_nb (by omega) (ok_nb (by omega) (ok_nb (by omega) ?_))))
  refine ok_len h1 ?_
  with_reducible refine ok_t (by omega) ?_
  with_reducible refine ok_t (by omega) (ok_nb (by omega) (ok_nb (by omega) ?_))
  rw [show 100 * (48 + f.1 / 100 - 48) + 10 * (48 + f.1 / 10 % 10 - 48) + (48 + f.1 % 10) - 48 = f.1 by omega]
  by_cases c : f.1 < 10
  · obtain ⟨r, hr⟩ := (h5.2.2.2.1 c).2.2
    have fb : (fbd f).length = r.length := by
      unfold fbd
      rw [if_pos c, hr]
      show (r ++ []).length = r.length
      rw [List.append_nil]
    have lg : lng f.2.2.2 = r.length := by
      rw [hr, lng, lng]
      show max ((r.length : Nat) : Int) 0 = (r.length : Nat)
      omega
    exact ok_e (by omega) (ok_nb (by omega) (ok_nb (by omega) (ok_s ⟨by omega, rfl⟩)))
  · have fb : fbd f = f.2.1 :: f.2.2.1 :: f.2.2.2.flatMap sb := by
      unfold fbd
      rw [if_neg c]
    have b4 : byt (S.1 a0) (p + 6) (f.2.2.2.flatMap sb) := by
      have := ((byt_app (fbd f) [10] (p + 4)).1 b3).1
      rw [fb, byt, byt] at this
      exact this.2.2
    have lf : (fbd f).length = (f.2.2.2.flatMap sb).length + 2 := by
      rw [fb, List.length_cons, List.length_cons]
    have nsub : f.2.2.2.length ≤ (f.2.2.2.flatMap sb).length := by
      generalize f.2.2.2 = ss
      induction ss with
      | nil => exact Nat.le_refl _
      | cons s ss ih =>
        rw [List.flatMap_cons, List.length_append, List.length_cons]
        have : 1 ≤ (sb s).length := by
          unfold sb
          rw [List.length_cons]
          omega
        omega
    have key := l_longest (e := e) (N := N) (q := p + (fbd f).length + 4) hN h1 h2 (by omega) f.2.2.2 (p + 6) N 0 h5.2.2.1 b4 (by omega) (by omega) (by omega)
    rw [show ((p + 6 : Nat) : Int) = (p : Int) + 6 by omega, show max 0 (lng f.2.2.2) = lng f.2.2.2 by have := ln0 f.2.2.2; omega] at key
    exact ok_t (by omega) (ok_nb (by omega) (ok_of key ⟨rfl, rfl⟩))
/-- does a field break a check of that kind, if it has the tag -/
def brF (k v : Int) (f : Fdl) : Bool := (decide (k = 2) && (fsi v f.2.2.2).isNone) || (decide (k = 3) && decide (v < lng f.2.2.2))
/-- how many fields have a tag; does any of them break the check -/
def ctg (t : Int) : List Fdl → Int
  | [] => 0
  | f :: l => (if f.1 = t then 1 else 0) + ctg t l
def abr (t k v : Int) : List Fdl → Bool
  | [] => false
  | f :: l => (decide (f.1 = t) && brF k v f) || abr t k v l
def brs (k n : Int) (b : Bool) : Int := if b = true ∨ (k = 0 ∧ n = 0) ∨ (k = 1 ∧ 1 < n) then 1 else 0
theorem len32 (T : w_S) : e_len Tc T 32 0 = some 140 := rfl
theorem l_isBr {e : w_E} {N r : Nat} {T : w_S} {top k v : Int} {t2 : Nat → Int} (hN : 1000 ≤ N) (hr : r ≤ 120) (htop : top ≤ 10240) (hk : 0 ≤ k ∧ k ≤ 3) : ∀ (l : List Fdl) (i nf : Nat) (n b : Int), (i : Int) + l.length = T.1 120 0 → i + l.length ≤ 20 → l.length < nf → 0 ≤ n → n + l.length ≤ 1000 → (b = 0 ∨ b = 1) → (∀ j, j < l.length → DrF T t2 top (i + j) (l.getD j (0, 0, 0, [])) ∧ vfd (l.getD j (0, 0, 0, [])) ∧ (l.getD j (0, 0, 0, [])).2.2.2.length ≤ 13) → El_RuleBook_isBroken e N nf 0 [(r : Int), k, v, n, b, (i : Int)] [] T = some (brs k (n + ctg (T.1 32 r) l) (decide (b = 1) || abr (T.1 32 r) k v l), T)
  | _, _, 0, _, _, _, _, h, _, _, _, _ => by omega
  | [], i, nf + 1, n, b, g1, g2, g3, g4, g5, g6, g7 => by
    rw [List.length_nil] at g1
    refine ok_eq ?_
    rw [El_RuleBook_isBroken, ctg, abr, Bool.or_false]
    refine ok_t (by omega) ?_
    unfold brs
    by_cases c : b = 1
    · rw [if_pos (Or.inl (decide_eq_true c))]
      exact ok_t (by omega) (ok_s ⟨rfl, rfl⟩)
    · have cd : decide (b = 1) = false := decide_eq_false c
      rw [cd]
      have fin0 : ¬ ((k = 0 ∧ n = 0) ∨ (k = 1 ∧ 1 < n)) → (fun y S1 => y = (if false = true ∨ (k = 0 ∧ n + 0 = 0) ∨ (k = 1 ∧ 1 < n + 0) then (1 : Int) else 0) ∧ S1 = T) 0 T := fun z => ⟨by rw [if_neg (by intro q; rcases q with q | q; cases q; exact z (by omega))], rfl⟩
      have fin1 : ((k = 0 ∧ n = 0) ∨ (k = 1 ∧ 1 < n)) → (fun y S1 => y = (if false = true ∨ (k = 0 ∧ n + 0 = 0) ∨ (k = 1 ∧ 1 < n + 0) then (1 : Int) else 0) ∧ S1 = T) 1 T := fun z => ⟨by rw [if_pos (Or.inr (by omega))], rfl⟩
      refine ok_e (by omega) ?_
      by_cases k0 : k = 0
      · refine ok_e (by omega) ?_
        by_cases n0 : n = 0
        · exact ok_t n0 (ok_s (fin1 (by omega)))
        · exact ok_e n0 (ok_t (by omega) (ok_s (fin0 (by omega))))
      · refine ok_t k0 ?_
        by_cases k1 : k = 1
        · refine ok_e (by omega) ?_
          by_cases n1 : n ≤ 1
          · exact ok_t n1 (ok_s (fin0 (by omega)))
          · exact ok_e n1 (ok_s (fin1 (by omega)))
        · exact ok_t k1 (ok_s (fin0 (by omega)))
  | f :: l, i, nf + 1, n, b, g1, g2, g3, g4, g5, g6, g7 => by
    rw [List.length_cons] at g1 g2 g3 g5 g7
    obtain ⟨df, vf, sf⟩ := g7 0 (by omega)
    have df' : DrF T t2 top i f := df
    have vf' : vfd f := vf
    have sf' : f.2.2.2.length ≤ 13 := sf
    have xs := x_slot (e := e) (N := N) (c := v) hN (by omega) sf' df'
    have xl := x_long (e := e) (N := N) hN htop (by omega) sf' vf' df'
    have ih := fun (n' b' : Int) (hn : 0 ≤ n' ∧ n' ≤ n + 1) (hb : b' = 0 ∨ b' = 1) => l_isBr (e := e) (N := N) (r := r) (T := T) (top := top) (k := k) (v := v) (t2 := t2) hN hr htop hk l (i + 1) nf n' b' (by omega) (by omega) (by omega) hn.1 (by omega) hb (fun j hj => by
      have := g7 (j + 1) (by omega)
      rw [show i + 1 + j = i + (j + 1) by omega]
      exact this)
    rw [show ((i + 1 : Nat) : Int) = (i : Int) + 1 by omega] at ih
    have t121 : T.1 121 i = f.1 := df'.1
    refine ok_eq ?_
    rw [El_RuleBook_isBroken]
    refine ok_e (by omega) (ok_ib (by omega) (ok_len (len32 T) ?_))
    with_reducible refine ok_t (by omega) ?_
    with_reducible refine ok_t (by omega) ?_
    rw [show ((i : Int)).toNat = i by omega, show ((r : Int)).toNat = r by omega, t121]
    by_cases c : f.1 = T.1 32 r
    · have go : ∀ b' : Int, (b' = 0 ∨ b' = 1) → decide (b' = 1) = (decide (b = 1) || brF k v f) → Ok (El_RuleBook_isBroken e N nf 0 [(r : Int), k, v, n + 1, b', (i : Int) + 1] [] T) (fun y S1 => y = brs k (n + ctg (T.1 32 r) (f :: l)) (decide (b = 1) || abr (T.1 32 r) k v (f :: l)) ∧ S1 = T) := fun b' hb he => by
        refine ok_of (ih (n + 1) b' (by omega) hb) ⟨?_, rfl⟩
        rw [ctg, abr, if_pos c, decide_eq_true c, Bool.true_and, he, Bool.or_assoc, Int.add_assoc]
      refine ok_e (by omega) (ok_nb (by omega) ?_)
      by_cases b1 : b = 1
      · exact ok_t (by omega) (ok_nb (by omega) (go 1 (Or.inr rfl) (by rw [decide_eq_true b1]; rfl)))
      · have bd1 : decide (b = 1) = false := decide_eq_false b1
        refine ok_e (by omega) ?_
        by_cases k2 : k = 2
        · refine ok_e (by omega) (ok_b (ok_of xs ?_))
          dsimp only
          have bf : brF k v f = (fsi v f.2.2.2).isNone := by
            unfold brF
            rw [decide_eq_true k2, decide_eq_false (by omega : ¬ k = 3), Bool.true_and, Bool.false_and, Bool.or_false]
          cases hf : fsi v f.2.2.2 with
          | none => exact ok_t rfl (ok_nb (by omega) (go 1 (Or.inr rfl) (by rw [bd1, Bool.false_or, bf, hf]; rfl)))
          | some j => exact ok_e (by show ¬ ((13 * i + j : Nat) : Int) = -1; omega) (ok_t (by omega) (ok_nb (by omega) (go 0 (Or.inl rfl) (by rw [bd1, Bool.false_or, bf, hf]; rfl))))
        · refine ok_t k2 ?_
          by_cases k3 : k = 3
          · have bf : brF k v f = decide (v < lng f.2.2.2) := by
              unfold brF
              rw [decide_eq_false k2, decide_eq_true k3, Bool.true_and, Bool.false_and, Bool.false_or]
            refine ok_e (by omega) (ok_b (ok_of xl ?_))
            dsimp only
            by_cases m : lng f.2.2.2 ≤ v
            · exact ok_t m (ok_nb (by omega) (go 0 (Or.inl rfl) (by rw [bd1, Bool.false_or, bf, decide_eq_false (by omega : ¬ v < lng f.2.2.2)]; rfl)))
            · exact ok_e m (ok_nb (by omega) (go 1 (Or.inr rfl) (by rw [bd1, Bool.false_or, bf, decide_eq_true (by omega : v < lng f.2.2.2)]; rfl)))
          · have bf : brF k v f = false := by
              unfold brF
              rw [decide_eq_false k2, decide_eq_false k3, Bool.false_and, Bool.false_and, Bool.false_or]
            exact ok_t (by omega) (ok_nb (by omega) (go 0 (Or.inl rfl) (by rw [bd1, Bool.false_or, bf]; rfl)))
    · refine ok_t c (ok_nb (by omega) (ok_of (ih n b (by omega) g6) ⟨?_, rfl⟩))
      rw [ctg, abr, if_neg c, decide_eq_false c, Bool.false_and, Bool.false_or, Int.zero_add]
end
