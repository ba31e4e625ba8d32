section
-- 81
theorem l_goes {e : w_E} {N : Nat} {R : w_S} {x1 : Int} (h0 : 0 ≤ x1 ∧ x1 ≤ 11) : ∀ (k n : Nat) (x3 : Int), (∃ j, 0 ≤ j ∧ j < (k : Int) ∧ bt (R.1 183 (4 * x1 + 2).toNat) (x3 + j)) → 0 ≤ x3 → x3 + k ≤ 1000000007 → k < n → El_R_goes e N n 0 [x1, x3] [] R = some (gon (R.1 183 (4 * x1 + 2).toNat) k x3, R) := by
  intro k
  induction k with
  | zero =>
    intro n x3 ⟨j, h1, h2, _⟩
    omega
  | succ k ih =>
    intro n x3 ⟨j, h1, h2, h3⟩ hx hk hn
    obtain ⟨n, rfl⟩ : ∃ q, n = q + 1 := ⟨n - 1, by omega⟩
    refine ok_eq ?_
    rw [El_R_goes, gon]
    by_cases hb : w_and (w_shr (R.1 183 (4 * x1 + 2).toNat) (w_rem x3 7)) 1 ≠ 0
    · repeat' (first | with_reducible refine ok_t hb ?_ | with_reducible refine ok_nb (by omega) ?_ | with_reducible refine ok_ib (by omega) ?_ | with_reducible refine ok_t (by omega) ?_ | with_reducible refine ok_e (by omega) ?_ | with_reducible refine ok_if (fun h => ?_) (fun h => ?_) | with_reducible refine ok_s ?_ | with_reducible refine ok_b ?_)
      rw [if_pos hb]
      exact ⟨rfl, rfl⟩
    · have hj : j ≠ 0 := by
        rintro rfl
        rw [Int.add_zero] at h3
        exact hb h3
      have e : x3 + j = x3 + 1 + (j - 1) := by omega
      rw [e] at h3
      repeat' (first | with_reducible refine ok_e hb ?_ | with_reducible refine ok_nb (by omega) ?_ | with_reducible refine ok_ib (by omega) ?_ | with_reducible refine ok_t (by omega) ?_ | with_reducible refine ok_e (by omega) ?_ | with_reducible refine ok_if (fun h => ?_) (fun h => ?_) | with_reducible refine ok_s ?_ | with_reducible refine ok_b ?_)
      rw [if_neg hb]
      exact ok_of (ih n (x3 + 1) ⟨j - 1, by omega, by omega, h3⟩ (by omega) (by omega) (by omega)) ⟨rfl, rfl⟩
theorem x_goes {e : w_E} {N : Nat} {R : w_S} {x1 x3 : Int} (hN : 1000 ≤ N) (h0 : 0 ≤ x1 ∧ x1 ≤ 11) (h1 : 1 ≤ R.1 183 (4 * x1 + 2).toNat) (h2 : R.1 183 (4 * x1 + 2).toNat ≤ 127) (hx : 0 ≤ x3 ∧ x3 < 1000000000) : E_R_goes e N x1 x3 R = some (gon (R.1 183 (4 * x1 + 2).toNat) 7 x3, R) := l_goes h0 7 N x3 (bt_ex h1 h2 hx.1 hx.2) hx.1 (by omega) (by omega)
def rho (E D : Nat → Int) : Prop := ∀ p, p < 4 → E p = if D p = 1000000000 then -1 else D p
theorem r_arr2 {e : w_E} {N : Nat} {x2 : Int} {f : Nat → Int} {nl : Nat} {t U : Int} {P : Int → w_S → Prop} {m : Nat} (hN : 1000 ≤ N) (hf : Rts nl f) (ht : 0 ≤ t) (hU : U ≤ 100000) : ∀ (k n l : Nat) (x3 : Int) (R : w_S) (D : Nat → Int), l + k = nl → R.1 183 = f → R.1 129 83 = nl → Dys t U D → rho (R.1 185) D → (x3 = 0 ∨ x3 = 1) → m + 2 * k + 5 ≤ n → (∀ n' x3' E', m ≤ n' → rho E' (psf f k l D) → (x3' = 0 ∧ x3 = 0 ∧ (∀ p, p < 4 → psf f k l D p = D p)) ∨ (x3' = 1 ∧ (x3 = 1 ∨ ∃ p, p < 4 ∧ psf f k l D p < D p)) → Ok (El_R_arrival e N n' 1 [x2, x3'] [] (w_arr R 185 E')) P) → Ok (El_R_arrival e N n 2 [x2, x3, l] [] R) P := by
  intro k
  induction k with
  | zero =>
    intro n l x3 R D h1 h2 h3 h4 h5 h6 hn hP
    obtain ⟨n, rfl⟩ : ∃ q, n = q + 1 := ⟨n - 1, by omega⟩
    rw [El_R_arrival]
    repeat' (first | with_reducible refine ok_nb (by omega) ?_ | with_reducible refine ok_ib (by omega) ?_ | with_reducible refine ok_t (by omega) ?_ | with_reducible refine ok_e (by omega) ?_ | with_reducible refine ok_if (fun h => ?_) (fun h => ?_) | with_reducible refine ok_s ?_ | with_reducible refine ok_b ?_)
    have := hP n x3 (R.1 185) (by omega) h5 (by rcases h6 with h6 | h6; exact Or.inl ⟨h6, h6, fun p _ => rfl⟩; exact Or.inr ⟨h6, Or.inl h6⟩)
    rw [w_arr_self] at this
    exact this
  | succ k ih =>
    intro n l x3 R D h1 h2 h3 h4 h5 h6 hn hP
    obtain ⟨n, rfl⟩ : ∃ q, n = q + 1 := ⟨n - 1, by omega⟩
    obtain ⟨f1, f2, f3, f4, f5, f6, f7, f8⟩ := hf.2 l (by omega)
    have hn12 := hf.1
    have e1 : (4 * (l : Int)).toNat = 4 * l := by omega
    have e2 : (4 * (l : Int) + 1).toNat = 4 * l + 1 := by omega
    have e3 : (4 * (l : Int) + 2).toNat = 4 * l + 2 := by omega
    have e4 : (4 * (l : Int) + 3).toNat = 4 * l + 3 := by omega
    have e5 : (l : Int) + 1 = ((l + 1 : Nat) : Int) := by omega
    have ha := h4 (f (4 * l)).toNat (by omega)
    have hb := h4 (f (4 * l + 1)).toNat (by omega)
    have h44 := fin4_le D
    have ra := h5 (f (4 * l)).toNat (by omega)
    have rb := h5 (f (4 * l + 1)).toNat (by omega)
    rw [El_R_arrival]
    simp only [h2, e1, e2, e4]
    by_cases hfar : D (f (4 * l)).toNat = 1000000000
    · rw [if_pos hfar] at ra
      have er : rlx f l D = D := by unfold rlx; rw [if_pos hfar]
      rw [psf, er] at hP
      repeat' (first | with_reducible refine ok_nb (by omega) ?_ | with_reducible refine ok_ib (by omega) ?_ | with_reducible refine ok_t (by omega) ?_ | with_reducible refine ok_e (by omega) ?_ | with_reducible refine ok_if (fun h => ?_) (fun h => ?_) | with_reducible refine ok_s ?_ | with_reducible refine ok_b ?_)
      rw [e5]
      exact ih n (l + 1) x3 R D (by omega) h2 h3 h4 h5 h6 (by omega) hP
    · rw [if_neg hfar] at ra
      obtain ⟨g1, g2, _, _⟩ := go_spec (d := D (f (4 * l)).toNat) f5 f6 (by omega) (by omega)
      have er : rlx f l D = pt D (f (4 * l + 1)).toNat (min (D (f (4 * l + 1)).toNat) (brg f l (D (f (4 * l)).toNat))) := by unfold rlx; rw [if_neg hfar]
      have hg : E_R_goes e N l (R.1 185 (f (4 * l)).toNat) R = some (gon (f (4 * l + 2)) 7 (D (f (4 * l)).toNat), R) := by
        rw [ra]
        have := x_goes (e := e) (N := N) (R := R) (x1 := l) (x3 := D (f (4 * l)).toNat) hN (by omega) (by rw [e3, h2]; exact f5) (by rw [e3, h2]; exact f6) (by omega)
        rw [e3, h2] at this
        exact this
      have hd' := rlx_dys hf (l := l) (by omega) h4 ht hU
      by_cases hc : brg f l (D (f (4 * l)).toNat) < D (f (4 * l + 1)).toNat
      · have hlt : rlx f l D (f (4 * l + 1)).toNat < D (f (4 * l + 1)).toNat := by
          rw [er, pt_at, if_pos rfl]
          omega
        have hrho : rho (pt (R.1 185) (f (4 * l + 1)).toNat (brg f l (D (f (4 * l)).toNat))) (rlx f l D) := by
          intro p hp
          rw [er, pt_at, pt_at]
          split
          · have e : min (D (f (4 * l + 1)).toNat) (brg f l (D (f (4 * l)).toNat)) = brg f l (D (f (4 * l)).toNat) := by omega
            rw [e, if_neg (by unfold brg; omega)]
          · exact h5 p hp
        have fin : Ok (El_R_arrival e N n 2 [x2, 1, ((l + 1 : Nat) : Int)] [] (w_put R 185 (f (4 * l + 1)).toNat (brg f l (D (f (4 * l)).toNat)))) P := by
          rw [w_put_pt]
          refine ih n (l + 1) 1 _ (rlx f l D) (by omega) (by rw [w_arr_r]; exact h2) (by rw [w_arr_r]; exact h3) hd' (by rw [w_arr_r, if_pos rfl]; exact hrho) (Or.inr rfl) (by omega) ?_
          intro n' x3' E' hn' hE hx
          rw [w_arr_arr]
          refine hP n' x3' E' hn' (by rw [psf]; exact hE) (Or.inr ⟨by omega, Or.inr ⟨(f (4 * l + 1)).toNat, by omega, ?_⟩⟩)
          rw [psf]
          have := psf_le hf (f (4 * l + 1)).toNat k (l + 1) (rlx f l D) (by omega)
          omega
        unfold brg at fin hc
        repeat' (first | (with_reducible refine ok_of hg ?_; dsimp only; simp only [h2, e4]) | with_reducible refine ok_nb (by omega) ?_ | with_reducible refine ok_ib (by omega) ?_ | with_reducible refine ok_t (by omega) ?_ | with_reducible refine ok_e (by omega) ?_ | with_reducible refine ok_if (fun h => ?_) (fun h => ?_) | with_reducible refine ok_s ?_ | with_reducible refine ok_b ?_)
        all_goals
          first
          | (rw [e5]; exact fin)
          | (exfalso; split at rb <;> omega)
      · have er2 : rlx f l D = D := by
          rw [er]
          have e : min (D (f (4 * l + 1)).toNat) (brg f l (D (f (4 * l)).toNat)) = D (f (4 * l + 1)).toNat := by omega
          rw [e]
          funext j
          rw [pt_at]
          split
          · next q => rw [q]
          · rfl
        rw [psf, er2] at hP
        have fin : Ok (El_R_arrival e N n 2 [x2, x3, ((l + 1 : Nat) : Int)] [] R) P := ih n (l + 1) x3 R D (by omega) h2 h3 h4 h5 h6 (by omega) hP
        unfold brg at hc
        have hbf : D (f (4 * l + 1)).toNat ≠ 1000000000 := by omega
        rw [if_neg hbf] at rb
        repeat' (first | (with_reducible refine ok_of hg ?_; dsimp only; simp only [h2, e4]) | with_reducible refine ok_nb (by omega) ?_ | with_reducible refine ok_ib (by omega) ?_ | with_reducible refine ok_t (by omega) ?_ | with_reducible refine ok_e (by omega) ?_ | with_reducible refine ok_if (fun h => ?_) (fun h => ?_) | with_reducible refine ok_s ?_ | with_reducible refine ok_b ?_)
        all_goals
          first
          | (rw [e5]; exact fin)
          | (exfalso; omega)
end
section
-- 82
theorem rlx_congr {n : Nat} {f f' : Nat → Int} (hf : Rts n f) (hff : ∀ j, j < 4 * n → f' j = f j) {l : Nat} (hl : l < n) {D D' : Nat → Int} (h : ∀ p, p < 4 → D' p = D p) : ∀ p, p < 4 → rlx f' l D' p = rlx f l D p := by
  intro p hp
  obtain ⟨f1, f2, f3, f4, f5, f6, f7, f8⟩ := hf.2 l hl
  unfold rlx brg
  rw [hff (4 * l) (by omega), hff (4 * l + 1) (by omega), hff (4 * l + 2) (by omega), hff (4 * l + 3) (by omega), h (f (4 * l)).toNat (by omega), h (f (4 * l + 1)).toNat (by omega)]
  split
  · exact h p hp
  · rw [pt_at, pt_at, h p hp]
theorem psf_congr {n : Nat} {f f' : Nat → Int} (hf : Rts n f) (hff : ∀ j, j < 4 * n → f' j = f j) : ∀ (k l : Nat) (D D' : Nat → Int), l + k ≤ n → (∀ p, p < 4 → D' p = D p) → ∀ p, p < 4 → psf f' k l D' p = psf f k l D p
  | 0, l, D, D', _, h => h
  | k + 1, l, D, D', hl, h => psf_congr hf hff k (l + 1) (rlx f l D) (rlx f' l D') (by omega) (rlx_congr hf hff (by omega) h)
theorem pss_congr {n : Nat} {f f' : Nat → Int} (hf : Rts n f) (hff : ∀ j, j < 4 * n → f' j = f j) {D D' : Nat → Int} (h : ∀ p, p < 4 → D' p = D p) : ∀ (j p : Nat), p < 4 → pss n f' j D' p = pss n f j D p
  | 0, p, hp => h p hp
  | j + 1, p, hp => psf_congr hf hff n 0 _ _ (by omega) (fun q hq => pss_congr hf hff h j q hq) p hp
theorem pss_fix {n : Nat} {f : Nat → Int} (hf : Rts n f) {D : Nat → Int} {j : Nat} (h : ∀ p, p < 4 → pss n f (j + 1) D p = pss n f j D p) : ∀ (i p : Nat), p < 4 → pss n f (j + i) D p = pss n f j D p
  | 0, p, _ => rfl
  | i + 1, p, hp => by
    have ih := pss_fix hf h i
    have e : pss n f (j + (i + 1)) D p = psf f n 0 (pss n f (j + i) D) p := rfl
    rw [e, psf_congr hf (fun _ _ => rfl) n 0 (pss n f j D) (pss n f (j + i) D) (by omega) ih p hp]
    exact h p hp
theorem rts_congr {n : Nat} {f f' : Nat → Int} (hf : Rts n f) (hff : ∀ j, j < 4 * n → f' j = f j) : Rts n f' := by
  refine ⟨hf.1, fun l hl => ?_⟩
  rw [hff (4 * l) (by omega), hff (4 * l + 1) (by omega), hff (4 * l + 2) (by omega), hff (4 * l + 3) (by omega)]
  exact hf.2 l hl
theorem r_arr1 {e : w_E} {N : Nat} {x2 : Int} {f : Nat → Int} {nl : Nat} {t U : Int} {D : Nat → Int} (hN : 1000 ≤ N) (hf : Rts nl f) (ht : 0 ≤ t) (hU : U ≤ 100000) (ht2 : t ≤ 100000) (hx2 : 0 ≤ x2 ∧ x2 ≤ 3) (hD : Dys t U D) {s : Nat} (hs : s < 4) (hs1 : D s = t) : ∀ (k n j : Nat) (x3 : Int) (R : w_S), j + k = 4 → (x3 = 1 ∧ j ≤ 3 ∨ x3 = 0 ∧ ∀ p, p < 4 → pss nl f j D p = pss nl f 3 D p) → R.1 183 = f → R.1 129 83 = nl → R.1 129 12 = t → rho (R.1 185) (pss nl f j D) → 50 * k + 5 ≤ n → Ok (El_R_arrival e N n 1 [x2, x3] [] R) (fun y R1 => y = (if pss nl f 3 D x2.toNat = 1000000000 then t + 14 else pss nl f 3 D x2.toNat) ∧ ∃ E, R1 = w_arr R 185 E) := by
  intro k
  have stop : ∀ (n j : Nat) (R : w_S), (∀ p, p < 4 → pss nl f j D p = pss nl f 3 D p) → R.1 129 12 = t → rho (R.1 185) (pss nl f j D) → 1 ≤ n → Ok (El_R_arrival e N n 1 [x2, 0] [] R) (fun y R1 => y = (if pss nl f 3 D x2.toNat = 1000000000 then t + 14 else pss nl f 3 D x2.toNat) ∧ ∃ E, R1 = w_arr R 185 E) := by
    intro n j R h1 h5 h6 hn
    obtain ⟨n, rfl⟩ : ∃ q, n = q + 1 := ⟨n - 1, by omega⟩
    have hr := h6 x2.toNat (by omega)
    rw [h1 x2.toNat (by omega)] at hr
    have hd := pss_dys hf ht hU hD 3 x2.toNat (by omega)
    rw [El_R_arrival, h5]
    repeat' (first | with_reducible refine ok_nb (by omega) ?_ | with_reducible refine ok_ib (by omega) ?_ | with_reducible refine ok_t (by omega) ?_ | with_reducible refine ok_e (by omega) ?_ | with_reducible refine ok_if (fun h => ?_) (fun h => ?_) | with_reducible refine ok_s ?_ | with_reducible refine ok_b ?_)
    · by_cases c : pss nl f 3 D x2.toNat = 1000000000
      · rw [if_pos c] at hr
        exact absurd hr h
      · rw [if_neg c] at hr ⊢
        exact ⟨hr, R.1 185, (w_arr_self R 185).symm⟩
    · by_cases c : pss nl f 3 D x2.toNat = 1000000000
      · rw [if_pos c]
        exact ⟨rfl, R.1 185, (w_arr_self R 185).symm⟩
      · rw [if_neg c] at hr
        omega
  induction k with
  | zero =>
    intro n j x3 R h0 h1 h2 h3 h5 h6 hn
    rcases h1 with h1 | ⟨h1, h1'⟩
    · omega
    · rw [h1]
      exact stop n j R h1' h5 h6 (by omega)
  | succ k ih =>
    intro n j x3 R h0 h1 h2 h3 h5 h6 hn
    rcases h1 with ⟨h1, hj⟩ | ⟨h1, h1'⟩
    · obtain ⟨n, rfl⟩ : ∃ q, n = q + 1 := ⟨n - 1, by omega⟩
      subst h1
      have hn12 := hf.1
      rw [El_R_arrival]
      repeat' (first | with_reducible refine ok_nb (by omega) ?_ | with_reducible refine ok_ib (by omega) ?_ | with_reducible refine ok_t (by omega) ?_ | with_reducible refine ok_e (by omega) ?_ | with_reducible refine ok_if (fun h => ?_) (fun h => ?_) | with_reducible refine ok_s ?_ | with_reducible refine ok_b ?_)
      have e0 : (0 : Int) = ((0 : Nat) : Int) := rfl
      have e0' : El_R_arrival e N n 2 [x2, 0, 0] [] R = El_R_arrival e N n 2 [x2, 0, ((0 : Nat) : Int)] [] R := rfl
      rw [e0']
      refine r_arr2 (m := 50 * k + 5) hN hf ht hU nl n 0 0 R (pss nl f j D) (by omega) h2 h3 (pss_dys hf ht hU hD j) h6 (Or.inl rfl) (by omega) ?_
      intro n' x3' E' hn' hE hx
      have hps : psf f nl 0 (pss nl f j D) = pss nl f (j + 1) D := rfl
      rw [hps] at hE hx
      have h3eq : j = 3 → ∀ p, p < 4 → pss nl f (j + 1) D p = pss nl f j D p := fun e p hp => by
        subst e
        exact pss_three hf ht hU hD hs hs1 ht2 p hp 1
      have key : (x3' = 1 ∧ j + 1 ≤ 3) ∨ (x3' = 0 ∧ ∀ p, p < 4 → pss nl f (j + 1) D p = pss nl f 3 D p) := by
        rcases hx with ⟨a, _, b⟩ | ⟨a, b⟩
        · refine Or.inr ⟨a, fun p hp => ?_⟩
          have e3 : 3 = j + (3 - j) := by omega
          rw [b p hp, e3, pss_fix hf b (3 - j) p hp]
        · rcases b with b | ⟨p, hp, b⟩
          · omega
          · by_cases hj3 : j = 3
            · have := h3eq hj3 p hp
              omega
            · exact Or.inl ⟨a, by omega⟩
      refine (ih n' (j + 1) x3' (w_arr R 185 E') (by omega) key (by rw [w_arr_r]; exact h2) (by rw [w_arr_r]; exact h3) (by rw [w_arr_r]; exact h5) (by rw [w_arr_r, if_pos rfl]; exact hE) (by omega)).mono (fun y R1 q => ⟨q.1, ?_⟩)
      obtain ⟨E, hE⟩ := q.2
      exact ⟨E, by rw [hE, w_arr_arr]⟩
    · rw [h1]
      exact stop n j R h1' h5 h6 (by omega)
theorem r_arr0 {e : w_E} {N : Nat} {x1 x2 : Int} {P : Int → w_S → Prop} {m : Nat} (hx1 : 0 ≤ x1 ∧ x1 ≤ 3) : ∀ (k n : Nat) (x3 : Int) (R : w_S), x3 + k = 4 → 0 ≤ x3 → m + k + 1 ≤ n → (∀ n', m ≤ n' → Ok (El_R_arrival e N n' 1 [x2, 1] [] (w_arr R 185 (fun j => if x3.toNat ≤ j ∧ j < 4 then (if j = x1.toNat then R.1 129 12 else -1) else R.1 185 j))) P) → Ok (El_R_arrival e N n 0 [x1, x2, x3] [] R) P := by
  intro k
  induction k with
  | zero =>
    intro n x3 R h1 h2 hn hP
    obtain ⟨n, rfl⟩ : ∃ q, n = q + 1 := ⟨n - 1, by omega⟩
    have e : (fun j => if x3.toNat ≤ j ∧ j < 4 then (if j = x1.toNat then R.1 129 12 else -1) else R.1 185 j) = R.1 185 := by
      funext j
      rw [if_neg (by omega)]
    rw [e, w_arr_self] at hP
    rw [El_R_arrival]
    repeat' (first | with_reducible refine ok_nb (by omega) ?_ | with_reducible refine ok_ib (by omega) ?_ | with_reducible refine ok_t (by omega) ?_ | with_reducible refine ok_e (by omega) ?_ | with_reducible refine ok_if (fun h => ?_) (fun h => ?_) | with_reducible refine ok_s ?_ | with_reducible refine ok_b ?_)
    exact hP n (by omega)
  | succ k ih =>
    intro n x3 R h1 h2 hn hP
    obtain ⟨n, rfl⟩ : ∃ q, n = q + 1 := ⟨n - 1, by omega⟩
    rw [El_R_arrival]
    repeat' (first | with_reducible refine ok_nb (by omega) ?_ | with_reducible refine ok_ib (by omega) ?_ | with_reducible refine ok_t (by omega) ?_ | with_reducible refine ok_e (by omega) ?_ | with_reducible refine ok_if (fun h => ?_) (fun h => ?_) | with_reducible refine ok_s ?_ | with_reducible refine ok_b ?_)
    all_goals
      refine ih n (x3 + 1) _ (by omega) (by omega) (by omega) (fun n' hn' => ?_)
      have := hP n' (by omega)
      rw [w_put_pt, w_arr_arr]
      refine Eq.mp ?_ this
      congr 3
      funext j
      simp only [w_arr_r, Nat.reduceEqDiff, reduceIte, pt_at]
      (repeat' split) <;> first | rfl | omega
/-- both reckon the same day -/
theorem x_arrival {e : w_E} {N : Nat} {S R : w_S} {x1 x2 : Int} {nl : Nat} (hN : 10000 ≤ N) (hx1 : 0 ≤ x1 ∧ x1 ≤ 3) (hx2 : 0 ≤ x2 ∧ x2 ≤ 3) (hne : x1 ≠ x2) (hf : Rts nl (S.1 31)) (hl : S.1 35 1 = nl) (hl' : R.1 129 83 = nl) (hff : ∀ j, j < 4 * nl → R.1 183 j = S.1 31 j) (ht : 0 ≤ S.1 27 1) (ht2 : S.1 27 1 ≤ 50000) (htt : R.1 129 12 = S.1 27 1) : ∃ (d : Int) (A E : Nat → Int), E_RuleBook_arrivalDay e N x1 x2 S = some (d, w_arr S 45 A) ∧ E_R_arrival e N x1 x2 R = some (d, w_arr R 185 E) ∧ S.1 27 1 < d ∧ d ≤ 50100 := by
  have hD := D0_dys (t := S.1 27 1) (U := 50000) (s := x1.toNat) ht2
  have hs1 : D0 (S.1 27 1) x1.toNat x1.toNat = S.1 27 1 := if_pos rfl
  have hC : ∀ p, p < 4 → (pt (fun j => if j < 4 then (1000000000 : Int) else S.1 45 j) x1.toNat (S.1 27 1)) p = D0 (S.1 27 1) x1.toNat p := by
    intro p hp
    rw [pt_at]
    unfold D0
    split
    · rfl
    · first | rfl | rw [if_pos hp]
  have dcong : ∀ {t U : Int} {A B : Nat → Int}, (∀ p, p < 4 → A p = B p) → Dys t U B → Dys t U A := by
    intro t U A B hAB hB p hp
    have h4 : fin4 A = fin4 B := by
      unfold fin4
      rw [hAB 0 (by omega), hAB 1 (by omega), hAB 2 (by omega), hAB 3 (by omega)]
    rw [hAB p hp, h4]
    exact hB p hp
  have c1 : E_RuleBook_arrivalDay e N x1 x2 S = some ((if pss nl (S.1 31) 3 (D0 (S.1 27 1) x1.toNat) x2.toNat = 1000000000 then S.1 27 1 + 14 else pss nl (S.1 31) 3 (D0 (S.1 27 1) x1.toNat) x2.toNat), w_arr S 45 (pss nl (S.1 31) 3 (pt (fun j => if j < 4 then (1000000000 : Int) else S.1 45 j) x1.toNat (S.1 27 1)))) := by
    refine ok_eq ?_
    unfold E_RuleBook_arrivalDay
    refine ok_b (ok_of (x_fill45 (by omega)) ?_)
    dsimp only
    simp only [w_arr_r, Nat.reduceEqDiff, reduceIte, w_arr_put]
    repeat' (first | with_reducible refine ok_nb (by omega) ?_ | with_reducible refine ok_ib (by omega) ?_ | with_reducible refine ok_t (by omega) ?_ | with_reducible refine ok_e (by omega) ?_ | with_reducible refine ok_if (fun h => ?_) (fun h => ?_) | with_reducible refine ok_s ?_ | with_reducible refine ok_b ?_)
    have h0 := l_arr0 (e := e) (N := N) (x2 := x2) hf ht (U := 50000) (by omega) hx2 3 N 1 (w_arr S 45 (pt (fun j => if j < 4 then (1000000000 : Int) else S.1 45 j) x1.toNat (S.1 27 1))) (by omega) (by omega) (by rw [w_arr_r]; rfl) (by rw [w_arr_r]; exact hl) (by rw [w_arr_r, if_pos rfl]; exact dcong hC hD) (by rw [w_arr_r]; rfl) (by omega) (by omega)
    rw [w_arr_arr, w_arr_r, if_pos rfl, pss_congr hf (fun _ _ => rfl) hC 3 x2.toNat (by omega)] at h0
    exact ok_of h0 ⟨rfl, rfl⟩
  have hf' := rts_congr hf hff
  have c2 : Ok (E_R_arrival e N x1 x2 R) (fun y R1 => y = (if pss nl (R.1 183) 3 (D0 (S.1 27 1) x1.toNat) x2.toNat = 1000000000 then S.1 27 1 + 14 else pss nl (R.1 183) 3 (D0 (S.1 27 1) x1.toNat) x2.toNat) ∧ ∃ E, R1 = w_arr R 185 E) := by
    unfold E_R_arrival
    refine r_arr0 (m := 300) hx1 4 N 0 R (by omega) (by omega) (by omega) (fun n' hn' => ?_)
    refine (r_arr1 (D := D0 (S.1 27 1) x1.toNat) (by omega) hf' ht (U := 50000) (by omega) (by omega) hx2 hD (s := x1.toNat) (by omega) hs1 4 n' 0 1 _ (by omega) (Or.inl ⟨rfl, by omega⟩) (by rw [w_arr_r]; rfl) (by rw [w_arr_r]; exact hl') (by rw [w_arr_r]; exact htt) ?_ (by omega)).mono (fun y R1 q => ⟨q.1, ?_⟩)
    · rw [w_arr_r, if_pos rfl]
      intro p hp
      have e : pss nl (R.1 183) 0 (D0 (S.1 27 1) x1.toNat) p = D0 (S.1 27 1) x1.toNat p := rfl
      rw [e]
      simp only [Int.toNat_zero]
      rw [if_pos (by omega), htt]
      unfold D0
      by_cases c : p = x1.toNat
      · rw [if_pos c, if_pos c, if_neg (by omega)]
      · rw [if_neg c, if_neg c, if_pos rfl]
    · obtain ⟨E, hE⟩ := q.2
      exact ⟨E, by rw [hE, w_arr_arr]⟩
  obtain ⟨y, R1, q1, q2, E, q3⟩ := c2
  rw [pss_congr hf hff (fun _ _ => rfl) 3 x2.toNat (by omega)] at q2
  refine ⟨_, _, E, c1, by rw [q1, q2, q3], ?_⟩
  have hb := pss_bro hf ht (U := 50000) (by omega) hD 3 x2.toNat (by omega)
  have hd := pss_dys hf ht (U := 50000) (by omega) hD 3
  have h4 := fin4_le (pss nl (S.1 31) 3 (D0 (S.1 27 1) x1.toNat))
  have hd2 := hd x2.toNat (by omega)
  by_cases c : pss nl (S.1 31) 3 (D0 (S.1 27 1) x1.toNat) x2.toNat = 1000000000
  · rw [if_pos c]
    omega
  · rw [if_neg c]
    refine ⟨?_, by omega⟩
    rcases hb with hb | ⟨l, l1, l2, l3, l4⟩
    · exfalso
      have e : D0 (S.1 27 1) x1.toNat x2.toNat = 1000000000 := if_neg (by omega)
      rw [e] at hb
      exact c hb
    · obtain ⟨f1, f2, f3, f4, f5, f6, f7, f8⟩ := hf.2 l l1
      have ha := hd (S.1 31 (4 * l)).toNat (by omega)
      obtain ⟨g1, g2, _, _⟩ := go_spec (d := pss nl (S.1 31) 3 (D0 (S.1 27 1) x1.toNat) (S.1 31 (4 * l)).toNat) f5 f6 (by omega) (by omega)
      unfold brg at l4
      omega
end
section
-- 83
/-- what routes and days are to both -/
def RelT (S R : w_S) : Prop := 0 ≤ S.1 27 1 ∧ S.1 27 1 ≤ 50000 ∧ R.1 129 12 = S.1 27 1 ∧ ∃ nl : Nat, Rts nl (S.1 31) ∧ S.1 35 1 = nl ∧ R.1 129 83 = nl ∧ ∀ j, j < 4 * nl → R.1 183 j = S.1 31 j
/-- readers' places -/
def RelP (S R : w_S) : Prop := 0 ≤ S.1 46 0 ∧ S.1 46 0 ≤ 60 ∧ ∀ k : Nat, 1 ≤ k → (k : Int) ≤ S.1 46 0 → 0 ≤ S.1 49 k ∧ S.1 49 k ≤ 3 ∧ R.1 178 k = S.1 49 k
/-- where a copy went: its state, who it is for, its day -/
def Dsc (S R : w_S) (x : Int) (S1 R1 : w_S) (st ho da : Int) : Prop := frm [45, 65, 66, 68, 71] [] [] S S1 ∧ frm [171, 174, 177, 185] [] [] R R1 ∧ S1.1 65 = pt (S.1 65) x.toNat st ∧ S1.1 66 = pt (S.1 66) x.toNat ho ∧ S1.1 68 = pt (S.1 68) x.toNat da ∧ R1.1 171 = pt (R.1 171) x.toNat st ∧ R1.1 174 = pt (R.1 174) x.toNat da ∧ (∀ k, k ≠ x.toNat → S1.1 71 k = S.1 71 k) ∧ (∀ k, k ≠ x.toNat → R1.1 177 k = R.1 177 k) ∧ (st = 4 → R1.1 177 x.toNat = S1.1 71 x.toNat ∧ 0 ≤ S1.1 71 x.toNat ∧ S1.1 71 x.toNat ≤ 3)
theorem t_shelve {e : w_E} {N : Nat} {S R : w_S} {x ho p : Int} (hN : 10000 ≤ N) (hT : RelT S R) (hP : RelP S R) (hx : 1 ≤ x ∧ x ≤ 200) (hh : 1 ≤ ho) (hh2 : ho ≤ S.1 46 0) (hp : 0 ≤ p ∧ p ≤ 3) (h1 : S.1 69 x.toNat = p) (h2 : R.1 175 x.toNat = p) (h3 : R.1 172 x.toNat = ho) : Ok (E_Lending_direct e N x ho S) (fun _ S1 => Ok (E_R_shelve e N x R) (fun _ R1 => ∃ st da, Dsc S R x S1 R1 st ho da ∧ (st = 2 ∧ da = S.1 27 1 + 7 ∨ st = 4 ∧ S.1 27 1 < da ∧ da ≤ 50100))) := by
  obtain ⟨t1, t2, t3, nl, t4, t5, t6, t7⟩ := hT
  obtain ⟨p1, p2, p3⟩ := hP
  obtain ⟨k1, k2, k3⟩ := p3 ho.toNat (by omega) (by omega)
  unfold E_Lending_direct E_R_shelve
  rw [h1, h2, h3, t3]
  by_cases hg : S.1 49 ho.toNat = p
  · repeat' (first | with_reducible refine ok_nb (by omega) ?_ | with_reducible refine ok_ib (by omega) ?_ | with_reducible refine ok_t (by omega) ?_ | with_reducible refine ok_e (by omega) ?_ | with_reducible refine ok_if (fun h => ?_) (fun h => ?_) | with_reducible refine ok_s ?_ | with_reducible refine ok_b ?_)
    all_goals first | (exfalso; omega) | skip
    refine ⟨2, S.1 27 1 + 7, ⟨?_, ?_, ?_, ?_, ?_, ?_, ?_, ?_, ?_, ?_⟩, Or.inl ⟨rfl, rfl⟩⟩
    · repeat (first | exact frm.refl _ _ _ _ | refine frm.put ?_ rfl | refine frm.puto ?_ rfl rfl | refine frm.arr ?_ rfl)
    · repeat (first | exact frm.refl _ _ _ _ | refine frm.put ?_ rfl | refine frm.puto ?_ rfl rfl | refine frm.arr ?_ rfl)
    all_goals first | (simp only [w_put_r, reduceIte, Nat.reduceEqDiff]; done) | (intro k hk; simp only [w_put_r, w_arr_r, reduceIte, Nat.reduceEqDiff, pt_at]; done) | (intro hk; omega)
  · obtain ⟨d, A, E, a1, a2, a3, a4⟩ := x_arrival (e := e) (N := N) (S := w_put S 71 x.toNat (S.1 49 ho.toNat)) (R := w_put (w_put R 171 x.toNat 4) 177 x.toNat (R.1 178 ho.toNat)) (x1 := p) (x2 := S.1 49 ho.toNat) (nl := nl) hN hp (by omega) (by omega) (by simp only [w_put_r, w_arr_r, reduceIte, Nat.reduceEqDiff, pt_at]; exact t4) (by simp only [w_put_r, w_arr_r, reduceIte, Nat.reduceEqDiff, pt_at]; exact t5) (by simp only [w_put_r, w_arr_r, reduceIte, Nat.reduceEqDiff, pt_at]; exact t6) (by simp only [w_put_r, w_arr_r, reduceIte, Nat.reduceEqDiff, pt_at]; exact t7) (by simp only [w_put_r, w_arr_r, reduceIte, Nat.reduceEqDiff, pt_at]; omega) (by simp only [w_put_r, w_arr_r, reduceIte, Nat.reduceEqDiff, pt_at]; omega) (by simp only [w_put_r, w_arr_r, reduceIte, Nat.reduceEqDiff, pt_at]; exact t3)
    simp only [w_put_r, w_arr_r, reduceIte, Nat.reduceEqDiff, pt_at] at a3
    rw [← k3] at a2
    repeat' (first | (with_reducible refine ok_of a1 ?_; dsimp only) | (with_reducible refine ok_of a2 ?_; dsimp only) | with_reducible refine ok_nb (by omega) ?_ | with_reducible refine ok_ib (by omega) ?_ | with_reducible refine ok_t (by omega) ?_ | with_reducible refine ok_e (by omega) ?_ | with_reducible refine ok_if (fun h => ?_) (fun h => ?_) | with_reducible refine ok_s ?_ | with_reducible refine ok_b ?_)
    all_goals first | (exfalso; omega) | skip
    refine ⟨4, d, ⟨?_, ?_, ?_, ?_, ?_, ?_, ?_, ?_, ?_, ?_⟩, Or.inr ⟨rfl, a3, a4⟩⟩
    · repeat (first | exact frm.refl _ _ _ _ | refine frm.put ?_ rfl | refine frm.puto ?_ rfl rfl | refine frm.arr ?_ rfl)
    · repeat (first | exact frm.refl _ _ _ _ | refine frm.put ?_ rfl | refine frm.puto ?_ rfl rfl | refine frm.arr ?_ rfl)
    all_goals first | (simp only [w_put_r, w_arr_r, reduceIte, Nat.reduceEqDiff]; done) | (intro k hk; simp only [w_put_r, w_arr_r, reduceIte, Nat.reduceEqDiff, pt_at]; rw [if_neg hk]; done) | (intro hk; simp only [w_put_r, w_arr_r, reduceIte, Nat.reduceEqDiff, pt_at]; omega)
/-- the QUEUES to both -/
def RelQ (S R : w_S) : Prop := 0 ≤ S.1 62 14 ∧ S.1 62 14 ≤ 200 ∧ R.1 129 127 = S.1 62 14 ∧ QC S.1 = qst (QR R.1) ∧ qun (QR R.1) ∧ ∀ y, y ∈ QC S.1 → 1 ≤ y.2.1 ∧ y.2.1 ≤ S.1 46 0
/-- settled: as Dsc, and by the QUEUE -/
def Stl (S R : w_S) (x p : Int) (S1 R1 : w_S) : Prop := frm [45, 65, 66, 67, 68, 69, 71, 73, 74, 75] [62] [(62, 14)] S S1 ∧ frm [171, 172, 173, 174, 177, 185, 214, 215, 216] [129] [(129, 127)] R R1 ∧ ∃ st ho da, S1.1 65 = pt (S.1 65) x.toNat st ∧ S1.1 66 = pt (S.1 66) x.toNat ho ∧ S1.1 67 = pt (S.1 67) x.toNat 0 ∧ S1.1 68 = pt (S.1 68) x.toNat da ∧ S1.1 69 = pt (S.1 69) x.toNat p ∧ R1.1 171 = pt (R.1 171) x.toNat st ∧ R1.1 172 = pt (R.1 172) x.toNat ho ∧ R1.1 173 = pt (R.1 173) x.toNat 0 ∧ R1.1 174 = pt (R.1 174) x.toNat da ∧ (∀ k, k ≠ x.toNat → S1.1 71 k = S.1 71 k) ∧ (∀ k, k ≠ x.toNat → R1.1 177 k = R.1 177 k) ∧ (st = 4 → R1.1 177 x.toNat = S1.1 71 x.toNat ∧ 0 ≤ S1.1 71 x.toNat ∧ S1.1 71 x.toNat ≤ 3) ∧ 0 ≤ ho ∧ ho ≤ S.1 46 0 ∧ (st = 0 ∧ ho = 0 ∧ da = -1 ∨ st = 2 ∧ 1 ≤ ho ∧ da = S.1 27 1 + 7 ∨ st = 4 ∧ S.1 27 1 < da ∧ da ≤ 50100) ∧ RelQ S1 R1
theorem qcong {c c' : am} (h1 : c' 73 = c 73) (h2 : c' 74 = c 74) (h3 : c' 75 = c 75) (h4 : c' 62 14 = c 62 14) : QC c' = QC c := by
  unfold QC
  have : qc c' = qc c := by
    funext i
    unfold qc
    rw [h1, h2, h3]
  rw [this, h4]
theorem rcong {c c' : am} (h1 : c' 214 = c 214) (h2 : c' 215 = c 215) (h3 : c' 216 = c 216) (h4 : c' 129 127 = c 129 127) : QR c' = QR c := by
  unfold QR
  have : qr c' = qr c := by
    funext i
    unfold qr
    rw [h1, h2, h3]
  rw [this, h4]
theorem t_settle {e : w_E} {N : Nat} {S R : w_S} {x p : Int} (hN : 10000 ≤ N) (hT : RelT S R) (hP : RelP S R) (hQ : RelQ S R) (hx : 1 ≤ x ∧ x ≤ 200) (hp : 0 ≤ p ∧ p ≤ 3) (h1 : R.1 175 x.toNat = p) (h2 : R.1 169 x.toNat = S.1 63 x.toNat) (h3 : R.1 176 x.toNat = S.1 70 x.toNat) (h4 : 0 ≤ S.1 70 x.toNat ∧ S.1 70 x.toNat ≤ 3) : Ok (E_Lending_settle e N x p S) (fun _ S1 => Ok (E_R_settle e N x R) (fun _ R1 => Stl S R x p S1 R1)) := by
  obtain ⟨q1, q2, q3, q4, q5, q6⟩ := hQ
  have hP0 := hP.1
  unfold E_Lending_settle
  refine ok_ib (by omega) (ok_b ?_)
  have ha : QC (w_put (w_put S 69 x.toNat p) 67 x.toNat 0).1 = QC S.1 := qcong (by simp only [w_put_r, reduceIte, Nat.reduceEqDiff]) (by simp only [w_put_r, reduceIte, Nat.reduceEqDiff]) (by simp only [w_put_r, reduceIte, Nat.reduceEqDiff]) (by simp only [w_put_r, reduceIte, Nat.reduceEqDiff])
  have hq0 : (w_put (w_put S 69 x.toNat p) 67 x.toNat 0).1 62 14 = S.1 62 14 := by simp only [w_put_r, reduceIte, Nat.reduceEqDiff]
  refine (x_takeFirst (e := e) (N := N) (S := w_put (w_put S 69 x.toNat p) 67 x.toNat 0) (x1 := S.1 63 x.toNat) (by omega) (by rw [hq0]; omega)).mono (fun y S2 q => ?_)
  rw [ha, hq0] at q
  obtain ⟨v, v1, v2⟩ := x_inQueue (e := e) (N := N) (S := R) (x1 := S.1 63 x.toNat) (x2 := 0) (by omega) (by omega) q5
  have e0 : (0 : Int).toNat = 0 := rfl
  rw [← q4, e0] at v2
  refine ok_b ?_
  unfold E_R_settle
  rw [h2]
  rcases q with ⟨c1, c2, c3⟩ | ⟨j, z, c1, c2, c3, c4, c5, c6⟩
  · -- nobody waits
    have hv : v = -1 := by
      rcases v2 with v2 | v2
      · exact v2.1
      · rw [c1] at v2
        simp at v2
    subst hv
    subst c2
    subst c3
    obtain ⟨t1, t2, t3, nl, t4, t5, t6, t7⟩ := hT
    unfold E_Lending_direct
    simp only [w_put_r, reduceIte, Nat.reduceEqDiff, pt_at]
    by_cases hg : S.1 70 x.toNat = p
    · repeat' (first | (with_reducible refine ok_of v1 ?_; dsimp only) | with_reducible refine ok_nb (by omega) ?_ | with_reducible refine ok_ib (by omega) ?_ | with_reducible refine ok_t (by omega) ?_ | with_reducible refine ok_e (by omega) ?_ | with_reducible refine ok_if (fun h => ?_) (fun h => ?_) | with_reducible refine ok_s ?_ | with_reducible refine ok_b ?_)
      all_goals first | (exfalso; omega) | skip
      refine ⟨?_, ?_, 0, 0, -1, ?_, ?_, ?_, ?_, ?_, ?_, ?_, ?_, ?_, ?_, ?_, ?_, by omega, by omega, Or.inl ⟨rfl, rfl, rfl⟩, ?_⟩
      · repeat (first | exact frm.refl _ _ _ _ | refine frm.put ?_ rfl | refine frm.puto ?_ rfl rfl | refine frm.arr ?_ rfl)
      · repeat (first | exact frm.refl _ _ _ _ | refine frm.put ?_ rfl | refine frm.puto ?_ rfl rfl | refine frm.arr ?_ rfl)
      all_goals first | (simp only [w_put_r, reduceIte, Nat.reduceEqDiff]; done) | (intro k hk; simp only [w_put_r, w_arr_r, reduceIte, Nat.reduceEqDiff, pt_at]; done) | (intro hk; omega) | skip
      refine ⟨?_, ?_, ?_, ?_, ?_, ?_⟩
      · simp only [w_put_r, w_arr_r, reduceIte, Nat.reduceEqDiff, pt_at]; exact q1
      · simp only [w_put_r, w_arr_r, reduceIte, Nat.reduceEqDiff, pt_at]; exact q2
      · simp only [w_put_r, w_arr_r, reduceIte, Nat.reduceEqDiff, pt_at]; exact q3
      · rw [qcong (c := S.1), rcong (c := R.1)]
        · exact q4
        all_goals simp only [w_put_r, reduceIte, Nat.reduceEqDiff]
      · rw [rcong (c := R.1)]
        · exact q5
        all_goals simp only [w_put_r, reduceIte, Nat.reduceEqDiff]
      · rw [qcong (c := S.1)]
        · simp only [w_put_r, w_arr_r, reduceIte, Nat.reduceEqDiff, pt_at]; exact q6
        all_goals simp only [w_put_r, reduceIte, Nat.reduceEqDiff]
    · obtain ⟨d, A, E, a1, a2, a3, a4⟩ := x_arrival (e := e) (N := N) (S := w_put (w_put (w_put S 69 x.toNat p) 67 x.toNat 0) 71 x.toNat (S.1 70 x.toNat)) (R := w_put (w_put (w_put (w_put R 173 x.toNat 0) 172 x.toNat 0) 171 x.toNat 4) 177 x.toNat (R.1 176 x.toNat)) (x1 := p) (x2 := S.1 70 x.toNat) (nl := nl) hN hp (by omega) (by omega) (by simp only [w_put_r, w_arr_r, reduceIte, Nat.reduceEqDiff, pt_at]; exact t4) (by simp only [w_put_r, w_arr_r, reduceIte, Nat.reduceEqDiff, pt_at]; exact t5) (by simp only [w_put_r, w_arr_r, reduceIte, Nat.reduceEqDiff, pt_at]; exact t6) (by simp only [w_put_r, w_arr_r, reduceIte, Nat.reduceEqDiff, pt_at]; exact t7) (by simp only [w_put_r, w_arr_r, reduceIte, Nat.reduceEqDiff, pt_at]; omega) (by simp only [w_put_r, w_arr_r, reduceIte, Nat.reduceEqDiff, pt_at]; omega) (by simp only [w_put_r, w_arr_r, reduceIte, Nat.reduceEqDiff, pt_at]; exact t3)
      simp only [w_put_r, w_arr_r, reduceIte, Nat.reduceEqDiff, pt_at] at a3
      rw [← h3, ← h1] at a2
      repeat' (first | (with_reducible refine ok_of v1 ?_; dsimp only) | (with_reducible refine ok_of a1 ?_; dsimp only) | (with_reducible refine ok_of a2 ?_; dsimp only) | with_reducible refine ok_nb (by omega) ?_ | with_reducible refine ok_ib (by omega) ?_ | with_reducible refine ok_t (by omega) ?_ | with_reducible refine ok_e (by omega) ?_ | with_reducible refine ok_if (fun h => ?_) (fun h => ?_) | with_reducible refine ok_s ?_ | with_reducible refine ok_b ?_)
      all_goals first | (exfalso; omega) | skip
      refine ⟨?_, ?_, 4, 0, d, ?_, ?_, ?_, ?_, ?_, ?_, ?_, ?_, ?_, ?_, ?_, ?_, by omega, by omega, Or.inr (Or.inr ⟨rfl, a3, a4⟩), ?_⟩
      · repeat (first | exact frm.refl _ _ _ _ | refine frm.put ?_ rfl | refine frm.puto ?_ rfl rfl | refine frm.arr ?_ rfl)
      · repeat (first | exact frm.refl _ _ _ _ | refine frm.put ?_ rfl | refine frm.puto ?_ rfl rfl | refine frm.arr ?_ rfl)
      all_goals first | (simp only [w_put_r, w_arr_r, reduceIte, Nat.reduceEqDiff]; done) | (intro k hk; simp only [w_put_r, w_arr_r, reduceIte, Nat.reduceEqDiff, pt_at]; rw [if_neg hk]; done) | (intro hk; simp only [w_put_r, w_arr_r, reduceIte, Nat.reduceEqDiff, pt_at]; omega) | skip
      refine ⟨?_, ?_, ?_, ?_, ?_, ?_⟩
      · simp only [w_put_r, w_arr_r, reduceIte, Nat.reduceEqDiff, pt_at]; exact q1
      · simp only [w_put_r, w_arr_r, reduceIte, Nat.reduceEqDiff, pt_at]; exact q2
      · simp only [w_put_r, w_arr_r, reduceIte, Nat.reduceEqDiff, pt_at]; exact q3
      · rw [qcong (c := S.1), rcong (c := R.1)]
        · exact q4
        all_goals simp only [w_put_r, w_arr_r, reduceIte, Nat.reduceEqDiff]
      · rw [rcong (c := R.1)]
        · exact q5
        all_goals simp only [w_put_r, w_arr_r, reduceIte, Nat.reduceEqDiff]
      · rw [qcong (c := S.1)]
        · simp only [w_put_r, w_arr_r, reduceIte, Nat.reduceEqDiff, pt_at]; exact q6
        all_goals simp only [w_put_r, w_arr_r, reduceIte, Nat.reduceEqDiff]
  · -- somebody waits
    have hv : 0 ≤ v ∧ v < R.1 129 127 ∧ qr R.1 v.toNat = z ∧ (QR R.1)[v.toNat]? = some z := by
      rcases v2 with v2 | v2
      · rw [v2.2 (by omega)] at c2
        cases c2
      · have := v2.2.2.2.1
        rw [c2] at this
        cases this
        exact ⟨v2.1, v2.2.1, rfl, v2.2.2.2.2⟩
    obtain ⟨w1, w2, w3, w4⟩ := hv
    have hz := q6 z (List.mem_of_getElem? c1)
    have hrd : R.1 215 v.toNat = z.2.1 := by
      rw [← w3]
      rfl
    have hRu : (w_put (w_put R 173 x.toNat 0) 172 x.toNat (R.1 215 v.toNat)).1 129 127 = R.1 129 127 := by simp only [w_put_r, reduceIte, Nat.reduceEqDiff]
    have hRq : QR (w_put (w_put R 173 x.toNat 0) 172 x.toNat (R.1 215 v.toNat)).1 = QR R.1 := by
      apply rcong
      all_goals simp only [w_put_r, reduceIte, Nat.reduceEqDiff]
    obtain ⟨z0, R2, u1, u2, u3, u4, u5⟩ := x_unqueue (e := e) (N := N) (S := w_put (w_put R 173 x.toNat 0) 172 x.toNat (R.1 215 v.toNat)) (x := v) (by omega) w1 (by rw [hRu]; exact w2) (by rw [hRu]; omega)
    rw [hRu] at u4
    rw [hRq] at u5
    have f2 : ∀ b, b ≠ 62 → b ≠ 73 → b ≠ 74 → b ≠ 75 → S2.1 b = (w_put (w_put S 69 x.toNat p) 67 x.toNat 0).1 b := fun b a1 a2 a3 a4 => c4.2.1 b (by simp [a2, a3, a4]) (by simp [a1])
    have g2 : ∀ b, b ≠ 129 → b ≠ 214 → b ≠ 215 → b ≠ 216 → R2.1 b = (w_put (w_put R 173 x.toNat 0) 172 x.toNat (R.1 215 v.toNat)).1 b := fun b a1 a2 a3 a4 => u3.2.1 b (by simp [a2, a3, a4]) (by simp [a1])
    have f3 : ∀ j, j ≠ 14 → S2.1 62 j = S.1 62 j := fun j hj => by
      rw [c4.2.2 62 j rfl (by simp [hj])]
      simp only [w_put_r, reduceIte, Nat.reduceEqDiff]
    have g3 : ∀ j, j ≠ 127 → R2.1 129 j = R.1 129 j := fun j hj => by
      rw [u3.2.2 129 j rfl (by simp [hj])]
      simp only [w_put_r, reduceIte, Nat.reduceEqDiff]
    have hT2 : RelT S2 R2 := by
      obtain ⟨t1, t2, t3, nl, t4, t5, t6, t7⟩ := hT
      refine ⟨?_, ?_, ?_, nl, ?_, ?_, ?_, ?_⟩
      all_goals simp only [f2 27 (by decide) (by decide) (by decide) (by decide), f2 31 (by decide) (by decide) (by decide) (by decide), f2 35 (by decide) (by decide) (by decide) (by decide), g2 183 (by decide) (by decide) (by decide) (by decide), g3 12 (by decide), g3 83 (by decide), w_put_r, reduceIte, Nat.reduceEqDiff]
      all_goals assumption
    have hP2 : RelP S2 R2 := by
      obtain ⟨p1, p2, p3⟩ := hP
      refine ⟨?_, ?_, ?_⟩
      all_goals simp only [f2 46 (by decide) (by decide) (by decide) (by decide), f2 49 (by decide) (by decide) (by decide) (by decide), g2 178 (by decide) (by decide) (by decide) (by decide), w_put_r, reduceIte, Nat.reduceEqDiff]
      all_goals assumption
    have t := t_shelve (e := e) (N := N) (S := S2) (R := R2) (x := x) (ho := y) (p := p) hN hT2 hP2 hx (by omega) (by rw [f2 46 (by decide) (by decide) (by decide) (by decide)]; simp only [w_put_r, reduceIte, Nat.reduceEqDiff]; omega) hp (by rw [f2 69 (by decide) (by decide) (by decide) (by decide)]; simp only [w_put_r, w_arr_r, reduceIte, Nat.reduceEqDiff, pt_at]) (by rw [g2 175 (by decide) (by decide) (by decide) (by decide)]; simp only [w_put_r, w_arr_r, reduceIte, Nat.reduceEqDiff, pt_at]; exact h1) (by rw [g2 172 (by decide) (by decide) (by decide) (by decide)]; simp only [w_put_r, w_arr_r, reduceIte, Nat.reduceEqDiff, pt_at]; omega)
    refine t.mono (fun y1 S1 h => ok_s ?_)
    repeat' (first | (with_reducible refine ok_of v1 ?_; dsimp only) | (with_reducible refine ok_of u1 ?_; dsimp only) | (with_reducible refine h.mono (fun y2 R1 hh => ok_s ?_)) | with_reducible refine ok_nb (by omega) ?_ | with_reducible refine ok_ib (by omega) ?_ | with_reducible refine ok_t (by omega) ?_ | with_reducible refine ok_e (by omega) ?_ | with_reducible refine ok_if (fun h => ?_) (fun h => ?_) | with_reducible refine ok_s ?_ | with_reducible refine ok_b ?_)
    obtain ⟨st, da, ⟨d1, d2, d3, d4, d5, d6, d7, d8, d9, d10⟩, d11⟩ := hh
    have k2 : ∀ b, b ≠ 45 → b ≠ 65 → b ≠ 66 → b ≠ 68 → b ≠ 71 → S1.1 b = S2.1 b := fun b a1 a2 a3 a4 a5 => d1.2.1 b (by simp [a1, a2, a3, a4, a5]) rfl
    have l2 : ∀ b, b ≠ 171 → b ≠ 174 → b ≠ 177 → b ≠ 185 → R1.1 b = R2.1 b := fun b a1 a2 a3 a4 => d2.2.1 b (by simp [a1, a2, a3, a4]) rfl
    have ed : ∀ b, b ≠ 62 → b ≠ 67 → b ≠ 69 → b ≠ 73 → b ≠ 74 → b ≠ 75 → S2.1 b = S.1 b := fun b a1 a5 a6 a2 a3 a4 => by
      rw [f2 b a1 a2 a3 a4, w_put_r, if_neg a5, w_put_r, if_neg a6]
    have er : ∀ b, b ≠ 129 → b ≠ 172 → b ≠ 173 → b ≠ 214 → b ≠ 215 → b ≠ 216 → R2.1 b = R.1 b := fun b a1 a5 a6 a2 a3 a4 => by
      rw [g2 b a1 a2 a3 a4, w_put_r, if_neg a5, w_put_r, if_neg a6]
    refine ⟨⟨?_, fun b hb ho => ?_, fun b j hb ho => ?_⟩, ⟨?_, fun b hb ho => ?_, fun b j hb ho => ?_⟩, st, y, da, ?_, ?_, ?_, ?_, ?_, ?_, ?_, ?_, ?_, ?_, ?_, d10, by omega, ?_, ?_, ?_⟩
    · rw [d1.1, c4.1]; rfl
    · simp at hb ho
      rw [k2 b hb.1 hb.2.1 hb.2.2.1 hb.2.2.2.2.1 hb.2.2.2.2.2.2.1, ed b ho hb.2.2.2.1 hb.2.2.2.2.2.1 hb.2.2.2.2.2.2.2.1 hb.2.2.2.2.2.2.2.2.1 hb.2.2.2.2.2.2.2.2.2]
    · simp at hb ho
      rw [k2 b hb.1 hb.2.1 hb.2.2.1 hb.2.2.2.2.1 hb.2.2.2.2.2.2.1]
      by_cases hb62 : b = 62
      · subst hb62
        exact f3 j (by simpa using ho)
      · rw [ed b hb62 hb.2.2.2.1 hb.2.2.2.2.2.1 hb.2.2.2.2.2.2.2.1 hb.2.2.2.2.2.2.2.2.1 hb.2.2.2.2.2.2.2.2.2]
    · rw [d2.1, u3.1]; rfl
    · simp at hb ho
      rw [l2 b hb.1 hb.2.2.2.1 hb.2.2.2.2.1 hb.2.2.2.2.2.1, er b ho hb.2.1 hb.2.2.1 hb.2.2.2.2.2.2.1 hb.2.2.2.2.2.2.2.1 hb.2.2.2.2.2.2.2.2]
    · simp at hb ho
      rw [l2 b hb.1 hb.2.2.2.1 hb.2.2.2.2.1 hb.2.2.2.2.2.1]
      by_cases hb62 : b = 129
      · subst hb62
        exact g3 j (by simpa using ho)
      · rw [er b hb62 hb.2.1 hb.2.2.1 hb.2.2.2.2.2.2.1 hb.2.2.2.2.2.2.2.1 hb.2.2.2.2.2.2.2.2]
    · rw [d3, ed 65 (by decide) (by decide) (by decide) (by decide) (by decide) (by decide)]
    · rw [d4, ed 66 (by decide) (by decide) (by decide) (by decide) (by decide) (by decide)]
    · rw [k2 67 (by decide) (by decide) (by decide) (by decide) (by decide), f2 67 (by decide) (by decide) (by decide) (by decide)]
      simp only [w_put_r, reduceIte, Nat.reduceEqDiff]
    · rw [d5, ed 68 (by decide) (by decide) (by decide) (by decide) (by decide) (by decide)]
    · rw [k2 69 (by decide) (by decide) (by decide) (by decide) (by decide), f2 69 (by decide) (by decide) (by decide) (by decide)]
      simp only [w_put_r, reduceIte, Nat.reduceEqDiff]
    · rw [d6, er 171 (by decide) (by decide) (by decide) (by decide) (by decide) (by decide)]
    · rw [l2 172 (by decide) (by decide) (by decide) (by decide), g2 172 (by decide) (by decide) (by decide) (by decide)]
      simp only [w_put_r, reduceIte, Nat.reduceEqDiff]
      rw [hrd, c3]
    · rw [l2 173 (by decide) (by decide) (by decide) (by decide), g2 173 (by decide) (by decide) (by decide) (by decide)]
      simp only [w_put_r, reduceIte, Nat.reduceEqDiff]
    · rw [d7, er 174 (by decide) (by decide) (by decide) (by decide) (by decide) (by decide)]
    · intro k hk
      rw [d8 k hk, ed 71 (by decide) (by decide) (by decide) (by decide) (by decide) (by decide)]
    · intro k hk
      rw [d9 k hk, er 177 (by decide) (by decide) (by decide) (by decide) (by decide) (by decide)]
    · omega
    · have ht : S2.1 27 1 = S.1 27 1 := by rw [ed 27 (by decide) (by decide) (by decide) (by decide) (by decide) (by decide)]
      rw [ht] at d11
      omega
    · have hS1q : S1.1 62 14 = S.1 62 14 - 1 := by
        rw [k2 62 (by decide) (by decide) (by decide) (by decide) (by decide), c5]
      have hR1q : R1.1 129 127 = R.1 129 127 - 1 := by
        rw [l2 129 (by decide) (by decide) (by decide) (by decide), u4]
      have hQS : QC S1.1 = (QC S.1).eraseIdx j := by
        rw [← c6]
        apply qcong
        all_goals first | rw [k2 73 (by decide) (by decide) (by decide) (by decide) (by decide)] | rw [k2 74 (by decide) (by decide) (by decide) (by decide) (by decide)] | rw [k2 75 (by decide) (by decide) (by decide) (by decide) (by decide)] | rw [k2 62 (by decide) (by decide) (by decide) (by decide) (by decide)]
      have hQR : QR R1.1 = (QR R.1).eraseIdx v.toNat := by
        rw [← u5]
        apply rcong
        all_goals first | rw [l2 214 (by decide) (by decide) (by decide) (by decide)] | rw [l2 215 (by decide) (by decide) (by decide) (by decide)] | rw [l2 216 (by decide) (by decide) (by decide) (by decide)] | rw [l2 129 (by decide) (by decide) (by decide) (by decide)]
      refine ⟨by omega, by omega, by show R1.1 129 127 = S1.1 62 14; omega, ?_, ?_, ?_⟩
      · rw [hQS, hQR, q4]
        rw [q4] at c1
        exact qst_erase q5 c1 w4
      · rw [hQR, qer q5 w4]
        exact qun_filter q5 _
      · intro y' hy'
        rw [hQS] at hy'
        rw [k2 46 (by decide) (by decide) (by decide) (by decide) (by decide), ed 46 (by decide) (by decide) (by decide) (by decide) (by decide) (by decide)]
        exact q6 y' (List.mem_of_mem_eraseIdx hy')
end
