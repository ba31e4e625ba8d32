section
-- 70
/-- it ends, and so -/
def Ok (r : e_R) (P : Int → w_S → Prop) : Prop := ∃ v S, r = some (v, S) ∧ P v S
theorem ok_some {v : Int} {S : w_S} {P : Int → w_S → Prop} : Ok (some (v, S)) P = P v S := propext ⟨fun ⟨_, _, h, p⟩ => by cases h; exact p, fun p => ⟨v, S, rfl, p⟩⟩
theorem ok_none {P : Int → w_S → Prop} : Ok none P = False := propext ⟨fun ⟨_, _, h, _⟩ => (by cases h), fun h => h.elim⟩
theorem ok_ite {p : Prop} [Decidable p] {a b : e_R} {P : Int → w_S → Prop} : Ok (if p then a else b) P = ((p → Ok a P) ∧ (¬ p → Ok b P)) := by
  by_cases h : p
  · rw [if_pos h]
    exact propext ⟨fun q => ⟨fun _ => q, fun k => absurd h k⟩, fun q => q.1 h⟩
  · rw [if_neg h]
    exact propext ⟨fun q => ⟨fun k => absurd k h, fun _ => q⟩, fun q => q.2 h⟩
theorem ok_bind {r : e_R} {f : Int × w_S → e_R} {P : Int → w_S → Prop} : Ok (r.bind f) P = Ok r (fun v S => Ok (f (v, S)) P) := by
  cases r with
  | none => rw [Option.bind_none, ok_none, ok_none]
  | some q => rw [Option.bind_some, ok_some]
theorem Ok.mono {r : e_R} {P Q : Int → w_S → Prop} (h : Ok r P) (hq : ∀ v S, P v S → Q v S) : Ok r Q := by
  obtain ⟨v, S, h1, h2⟩ := h
  exact ⟨v, S, h1, hq v S h2⟩
theorem ok_of {r : e_R} {v : Int} {S : w_S} {P : Int → w_S → Prop} (h : r = some (v, S)) (p : P v S) : Ok r P := ⟨v, S, h, p⟩
theorem Ok.and {r : e_R} {P Q : Int → w_S → Prop} (h : Ok r P) (k : Ok r Q) : Ok r (fun v S => P v S ∧ Q v S) := by
  obtain ⟨v, S, h1, h2⟩ := h
  obtain ⟨v', S', h3, h4⟩ := k
  rw [h1] at h3
  cases h3
  exact ⟨v, S, h1, h2, h4⟩
/-- contents -/
abbrev am : Type := Nat → Nat → Int
/-- a whole array becomes another one -/
def w_arr (S : w_S) (a : Nat) (f : Nat → Int) : w_S := (fun b j => if b = a then f j else S.1 b j, S.2)
theorem w_put_arr (S : w_S) (a k : Nat) (x : Int) : w_put S a k x = w_arr S a (fun j => if j = k then x else S.1 a j) := by
  unfold w_put w_arr
  congr
  funext b j
  split
  · next h => rw [h]
  · rfl
/-- how many of so many places from one on -/
def cnt (P : Nat → Bool) : Nat → Nat → Int
  | _, 0 => 0
  | c, n + 1 => (if P c = true then 1 else 0) + cnt P (c + 1) n
theorem cnt_congr {P Q : Nat → Bool} : ∀ (n c : Nat), (∀ k, c ≤ k → k < c + n → P k = Q k) → cnt P c n = cnt Q c n
  | 0, _, _ => rfl
  | n + 1, c, h => by rw [cnt, cnt, h c (Nat.le_refl _) (by omega), cnt_congr n (c + 1) (fun k h1 h2 => h k (by omega) (by omega))]
theorem cnt_le (P : Nat → Bool) : ∀ (n c : Nat), 0 ≤ cnt P c n ∧ cnt P c n ≤ n
  | 0, _ => ⟨Int.le_refl _, Int.le_refl _⟩
  | n + 1, c => by
    have := cnt_le P n (c + 1)
    rw [cnt]
    split <;> omega
/-- the first of so many places from one on, or none -/
def fst (P : Nat → Bool) : Nat → Nat → Option Nat
  | _, 0 => none
  | c, n + 1 => if P c = true then some c else fst P (c + 1) n
theorem fst_congr {P Q : Nat → Bool} : ∀ (n c : Nat), (∀ k, c ≤ k → k < c + n → P k = Q k) → fst P c n = fst Q c n
  | 0, _, _ => rfl
  | n + 1, c, h => by rw [fst, fst, h c (Nat.le_refl _) (by omega), fst_congr n (c + 1) (fun k h1 h2 => h k (by omega) (by omega))]
theorem fst_some {P : Nat → Bool} : ∀ {n c k : Nat}, fst P c n = some k → c ≤ k ∧ k < c + n ∧ P k = true ∧ ∀ j, c ≤ j → j < k → P j = false
  | 0, _, _, h => by cases h
  | n + 1, c, k, h => by
    rw [fst] at h
    split at h
    next hp => cases h; exact ⟨Nat.le_refl _, by omega, hp, fun j h1 h2 => by omega⟩
    next hp =>
      obtain ⟨h1, h2, h3, h4⟩ := fst_some h
      refine ⟨by omega, by omega, h3, fun j h5 h6 => ?_⟩
      by_cases e : j = c
      · rw [e]; exact Bool.eq_false_iff.mpr hp
      · exact h4 j (by omega) h6
theorem fst_none {P : Nat → Bool} : ∀ {n c : Nat}, fst P c n = none → ∀ j, c ≤ j → j < c + n → P j = false
  | 0, _, _, j, h1, h2 => by omega
  | n + 1, c, h, j, h1, h2 => by
    rw [fst] at h
    split at h
    next hp => cases h
    next hp =>
      by_cases e : j = c
      · rw [e]; exact Bool.eq_false_iff.mpr hp
      · exact fst_none h j (by omega) (by omega)
theorem fst_none_of {P : Nat → Bool} : ∀ {n c : Nat}, (∀ j, c ≤ j → j < c + n → P j = false) → fst P c n = none
  | 0, _, _ => rfl
  | n + 1, c, h => by
    rw [fst, if_neg (by rw [h c (Nat.le_refl _) (by omega)]; decide)]
    exact fst_none_of (fun j h1 h2 => h j (by omega) (by omega))
theorem fst_some_of {P : Nat → Bool} : ∀ {n c k : Nat}, c ≤ k → k < c + n → P k = true → (∀ j, c ≤ j → j < k → P j = false) → fst P c n = some k
  | 0, c, k, h1, h2, _, _ => by omega
  | n + 1, c, k, h1, h2, h3, h4 => by
    rw [fst]
    by_cases e : c = k
    · rw [e, if_pos h3]
    · rw [if_neg (by rw [h4 c (Nat.le_refl _) (by omega)]; decide)]
      exact fst_some_of (by omega) (by omega) h3 (fun j h5 h6 => h4 j (by omega) h6)
def o1 (d : Int) : Option Nat → Int
  | none => d
  | some k => k
/-- some one of so many places from one on -/
def anyb (P : Nat → Bool) : Nat → Nat → Bool
  | _, 0 => false
  | c, n + 1 => P c || anyb P (c + 1) n
theorem anyb_fst (P : Nat → Bool) : ∀ (n c : Nat), anyb P c n = (fst P c n).isSome
  | 0, _ => rfl
  | n + 1, c => by
    rw [anyb, fst, anyb_fst P n (c + 1)]
    cases P c <;> rfl
theorem anyb_congr {P Q : Nat → Bool} (n c : Nat) (h : ∀ k, c ≤ k → k < c + n → P k = Q k) : anyb P c n = anyb Q c n := by rw [anyb_fst, anyb_fst, fst_congr n c h]
theorem anyb_true {P : Nat → Bool} {n c : Nat} : anyb P c n = true ↔ ∃ k, c ≤ k ∧ k < c + n ∧ P k = true := by
  rw [anyb_fst]
  cases h : fst P c n with
  | none =>
    refine ⟨fun k => (by cases k), fun ⟨k, h1, h2, h3⟩ => ?_⟩
    rw [fst_none h k h1 h2] at h3
    cases h3
  | some k =>
    obtain ⟨h1, h2, h3, _⟩ := fst_some h
    exact ⟨fun _ => ⟨k, h1, h2, h3⟩, fun _ => rfl⟩
theorem anyb_false {P : Nat → Bool} {n c : Nat} : anyb P c n = false ↔ ∀ k, c ≤ k → k < c + n → P k = false := by
  rw [anyb_fst]
  cases h : fst P c n with
  | none => exact ⟨fun _ => fst_none h, fun _ => rfl⟩
  | some k =>
    obtain ⟨h1, h2, h3, _⟩ := fst_some h
    refine ⟨fun k => (by cases k), fun q => ?_⟩
    rw [q k h1 h2] at h3
    cases h3
def bi (b : Bool) : Int := if b = true then 1 else 0
theorem cnt_pos {P : Nat → Bool} : ∀ (n c : Nat), (0 < cnt P c n) = (anyb P c n = true)
  | 0, _ => by simp [cnt, anyb]
  | n + 1, c => by
    have h := cnt_pos (P := P) n (c + 1)
    have h2 := cnt_le P n (c + 1)
    rw [cnt, anyb]
    cases hp : P c
    · simp only [Bool.false_or, ← h]
      simp
    · simp only [Bool.true_or, if_true, eq_iff_iff, iff_true]
      omega
theorem ok_if {p : Prop} [Decidable p] {a b : e_R} {P : Int → w_S → Prop} (h1 : p → Ok a P) (h2 : ¬ p → Ok b P) : Ok (if p then a else b) P := by
  by_cases h : p
  · rw [if_pos h]; exact h1 h
  · rw [if_neg h]; exact h2 h
theorem ok_t {p : Prop} [Decidable p] {a b : e_R} {P : Int → w_S → Prop} (h : p) (k : Ok a P) : Ok (if p then a else b) P := by rw [if_pos h]; exact k
theorem ok_e {p : Prop} [Decidable p] {a b : e_R} {P : Int → w_S → Prop} (h : ¬ p) (k : Ok b P) : Ok (if p then a else b) P := by rw [if_neg h]; exact k
theorem ok_nb {x : Int} {a b : e_R} {P : Int → w_S → Prop} (h : -2147483648 ≤ x ∧ x < 2147483648) (k : Ok a P) : Ok (if w_nb x = true then a else b) P := by rw [if_pos (by rw [w_nbE]; exact h)]; exact k
theorem ok_ib {x n : Int} {a b : e_R} {P : Int → w_S → Prop} (h : 0 ≤ x ∧ x < n) (k : Ok a P) : Ok (if w_ib x n = true then a else b) P := by rw [if_pos (by rw [w_ibE]; exact h)]; exact k
theorem ok_s {v : Int} {S : w_S} {P : Int → w_S → Prop} (h : P v S) : Ok (some (v, S)) P := ⟨v, S, rfl, h⟩
theorem ok_b {r : e_R} {f : Int × w_S → e_R} {P : Int → w_S → Prop} (h : Ok r (fun v S => Ok (f (v, S)) P)) : Ok (r.bind f) P := by rw [ok_bind]; exact h
/-- one place of an array becomes another number -/
def pt (f : Nat → Int) (k : Nat) (x : Int) : Nat → Int := fun j => if j = k then x else f j
theorem w_put_r (S : w_S) (a k b : Nat) (x : Int) : (w_put S a k x).1 b = if b = a then pt (S.1 b) k x else S.1 b := by
  funext j
  unfold w_put pt
  dsimp only
  split <;> rfl
theorem w_put_2 (S : w_S) (a k : Nat) (x : Int) : (w_put S a k x).2 = S.2 := rfl
theorem pt_at (f : Nat → Int) (k j : Nat) (x : Int) : pt f k x j = if j = k then x else f j := rfl
/-- two arrays are alike at places 1 to n -/
def eqr (n : Int) (f g : Nat → Int) : Prop := ∀ k : Nat, 1 ≤ k → (k : Int) ≤ n → f k = g k
theorem eqr_get {n : Int} {f g : Nat → Int} (h : eqr n f g) {k : Int} (h1 : 1 ≤ k) (h2 : k ≤ n) : f k.toNat = g k.toNat := h _ (by omega) (by omega)
theorem eqr_pt {n : Int} {f g : Nat → Int} (h : eqr n f g) (k : Nat) (x : Int) : eqr n (pt f k x) (pt g k x) := fun j h1 h2 => by
  rw [pt_at, pt_at, h j h1 h2]
theorem eqr_grow {n : Int} {f g : Nat → Int} (h : eqr n f g) (h0 : 0 ≤ n) (x : Int) : eqr (n + 1) (pt f (n + 1).toNat x) (pt g (n + 1).toNat x) := fun j h1 h2 => by
  rw [pt_at, pt_at]
  split
  · rfl
  · exact h j h1 (by omega)
theorem eqr_mono {n m : Int} {f g : Nat → Int} (h : eqr n f g) (h0 : m ≤ n) : eqr m f g := fun j h1 h2 => h j h1 (by omega)
/-- nothing changes but in arrays of L and at places of J in objects of O -/
def frm (L O : List Nat) (J : List (Nat × Nat)) (S S' : w_S) : Prop := S'.2 = S.2 ∧ (∀ b, L.contains b = false → O.contains b = false → S'.1 b = S.1 b) ∧ (∀ b j, L.contains b = false → J.contains (b, j) = false → S'.1 b j = S.1 b j)
theorem frm.refl (L O : List Nat) (J : List (Nat × Nat)) (S : w_S) : frm L O J S S := ⟨rfl, fun _ _ _ => rfl, fun _ _ _ _ => rfl⟩
theorem frm.trans {L O : List Nat} {J : List (Nat × Nat)} {S S' S'' : w_S} (h : frm L O J S S') (k : frm L O J S' S'') : frm L O J S S'' := ⟨k.1.trans h.1, fun b h1 h2 => (k.2.1 b h1 h2).trans (h.2.1 b h1 h2), fun b j h1 h2 => (k.2.2 b j h1 h2).trans (h.2.2 b j h1 h2)⟩
/-- a place of an array of L -/
theorem frm.put {L O : List Nat} {J : List (Nat × Nat)} {S S' : w_S} {a k : Nat} {x : Int} (h : frm L O J S S') (ha : L.contains a = true) : frm L O J S (w_put S' a k x) := ⟨h.1, fun b h1 h2 => by
  rw [w_put_r, if_neg (by rintro rfl; rw [ha] at h1; cases h1)]
  exact h.2.1 b h1 h2, fun b j h1 h2 => by
  rw [w_put_r, if_neg (by rintro rfl; rw [ha] at h1; cases h1)]
  exact h.2.2 b j h1 h2⟩
/-- a place of an object of O -/
theorem frm.puto {L O : List Nat} {J : List (Nat × Nat)} {S S' : w_S} {a k : Nat} {x : Int} (h : frm L O J S S') (ha : O.contains a = true) (hk : J.contains (a, k) = true) : frm L O J S (w_put S' a k x) := ⟨h.1, fun b h1 h2 => by
  rw [w_put_r, if_neg (by rintro rfl; rw [ha] at h2; cases h2)]
  exact h.2.1 b h1 h2, fun b j h1 h2 => by
  rw [w_put_r]
  split
  · next e =>
    rw [pt_at, if_neg (by rintro rfl; rw [e, hk] at h2; cases h2)]
    exact h.2.2 b j h1 h2
  · exact h.2.2 b j h1 h2⟩
theorem e_sw_cons (x lo : Int) (a : e_R) (ts : List e_R) (d : e_R) : e_sw x lo (a :: ts) d = if x = lo then a else e_sw x (lo + 1) ts d := by
  unfold e_sw
  split
  · next k hk =>
    have hk : x - lo = (k : Int) := hk
    by_cases h : x = lo
    · rw [if_pos h]
      have : k = 0 := by omega
      rw [this]
      rfl
    · rw [if_neg h]
      obtain ⟨j, rfl⟩ : ∃ j, k = j + 1 := ⟨k - 1, by omega⟩
      have h2 : x - (lo + 1) = Int.ofNat j := by
        have : (Int.ofNat j) = (j : Int) := rfl
        omega
      rw [h2]
      rfl
  · next k hk =>
    have hk : x - lo = Int.negSucc k := hk
    rw [if_neg (by omega)]
    have h2 : x - (lo + 1) = Int.negSucc (k + 1) := by omega
    rw [h2]
theorem e_sw_nil (x lo : Int) (d : e_R) : e_sw x lo [] d = d := by
  unfold e_sw
  split <;> rfl
theorem anyb_it (P : Nat → Bool) (c n : Nat) : anyb P c (n + 1) = if P c = true then true else anyb P (c + 1) n := by
  rw [anyb]
  cases P c <;> rfl
/-- the last of so many places from one on, or what was before -/
def lst (P : Nat → Bool) : Nat → Nat → Int → Int
  | _, 0, d => d
  | c, n + 1, d => lst P (c + 1) n (if P c = true then c else d)
theorem o1_some (d : Int) (k : Nat) : o1 d (some k) = k := rfl
theorem o1_none (d : Int) : o1 d none = d := rfl
theorem ok_eq {r : e_R} {v : Int} {S : w_S} (h : Ok r (fun y S1 => y = v ∧ S1 = S)) : r = some (v, S) := by
  obtain ⟨y, S1, h1, h2, h3⟩ := h
  rw [h1, h2, h3]
end
section
-- 71
theorem b_of {x : Int} (h0 : 0 ≤ x) (h1 : x < 2147483648) : (Int32.ofInt x).toBitVec.toNat = x.toNat := by
  have h2 : (Int32.ofInt x).toInt = x := Int32.toInt_ofInt_of_le (by omega) (by omega)
  have h3 : (Int32.ofInt x).toBitVec.toInt = x := h2
  rw [BitVec.toInt_eq_toNat_cond] at h3
  split at h3 <;> omega
theorem b_to {b : Int32} {n : Nat} (h : b.toBitVec.toNat = n) (hn : n < 2147483648) : b.toInt = n := by
  have h3 : b.toInt = b.toBitVec.toInt := rfl
  rw [h3, BitVec.toInt_eq_toNat_cond, h]
  split <;> omega
theorem b_and {x y : Int} (hx : 0 ≤ x) (hx1 : x < 2147483648) (hy : 0 ≤ y) (hy1 : y < 2147483648) : w_and x y = ((x.toNat &&& y.toNat : Nat) : Int) := by
  unfold w_and w_op
  refine b_to ?_ ?_
  · rw [Int32.toBitVec_and, BitVec.toNat_and, b_of hx hx1, b_of hy hy1]
  · exact Nat.lt_of_le_of_lt Nat.and_le_left (by omega)
theorem b_or {x y : Int} (hx : 0 ≤ x) (hx1 : x < 2147483648) (hy : 0 ≤ y) (hy1 : y < 2147483648) : w_or x y = ((x.toNat ||| y.toNat : Nat) : Int) := by
  unfold w_or w_op
  refine b_to ?_ ?_
  · rw [Int32.toBitVec_or, BitVec.toNat_or, b_of hx hx1, b_of hy hy1]
  · exact Nat.or_lt_two_pow (n := 31) (by omega) (by omega)
theorem b_and63 {x : Int} (hx : 0 ≤ x) (hx1 : x < 2147483648) : w_and x 63 = x % 64 := by
  rw [b_and hx hx1 (by omega) (by omega)]
  have := Nat.and_two_pow_sub_one_eq_mod x.toNat 6
  have h2 : (63 : Int).toNat = 2 ^ 6 - 1 := rfl
  rw [h2, this]
  omega
theorem b_and255 : ∀ x : Int, -128 ≤ x → x ≤ 127 → w_and x 255 = if x < 0 then x + 256 else x := by
  intro x h1 h2
  have key : ∀ k : Fin 256, w_and ((k.val : Int) - 128) 255 = if ((k.val : Int) - 128) < 0 then ((k.val : Int) - 128) + 256 else ((k.val : Int) - 128) := by decide +kernel
  have h := key ⟨(x + 128).toNat, by omega⟩
  have e : (((x + 128).toNat : Nat) : Int) - 128 = x := by omega
  simp only [e] at h
  exact h
theorem b_or32 : ∀ x : Int, -128 ≤ x → x ≤ 127 → w_or x 32 = if (x % 64) < 32 then x + 32 else x := by
  intro x h1 h2
  have key : ∀ k : Fin 256, w_or ((k.val : Int) - 128) 32 = if (((k.val : Int) - 128) % 64) < 32 then ((k.val : Int) - 128) + 32 else ((k.val : Int) - 128) := by decide +kernel
  have h := key ⟨(x + 128).toNat, by omega⟩
  have e : (((x + 128).toNat : Nat) : Int) - 128 = x := by omega
  simp only [e] at h
  exact h
theorem b_msb {x : Int} (h0 : 0 ≤ x) (h1 : x < 2147483648) : (Int32.ofInt x).toBitVec.msb = false := by
  rw [BitVec.msb_eq_false_iff_two_mul_lt, b_of h0 h1]
  omega
theorem b_shr6 {x : Int} (hx : 0 ≤ x) (hx1 : x < 2147483648) : w_shr x 6 = x / 64 := by
  unfold w_shr w_op
  have h := b_to (b := Int32.ofInt x >>> (Int32.ofInt 6 &&& 31)) (n := x.toNat / 64) ?_ (by omega)
  · rw [h]
    omega
  · have e : (Int32.ofInt x >>> (Int32.ofInt 6 &&& 31)).toBitVec = (Int32.ofInt x).toBitVec.sshiftRight 6 := rfl
    rw [e, BitVec.toNat_sshiftRight_of_msb_false (b_msb hx hx1), b_of hx hx1, Nat.shiftRight_eq_div_pow]
theorem b_shl6 {x : Int} (hx : 0 ≤ x) (hx1 : x < 16777216) : w_shl x 6 = x * 64 := by
  unfold w_shl w_op
  have h := b_to (b := Int32.ofInt x <<< (Int32.ofInt 6 &&& 31)) (n := x.toNat * 64) ?_ (by omega)
  · rw [h]
    omega
  · have e : (Int32.ofInt x <<< (Int32.ofInt 6 &&& 31)).toBitVec = (Int32.ofInt x).toBitVec <<< 6 := rfl
    rw [e, BitVec.toNat_shiftLeft, b_of hx (by omega), Nat.shiftLeft_eq, Nat.mod_eq_of_lt (by omega)]
theorem b_row {x l : Int} (hx : 0 ≤ x) (hx1 : x < 16777216) (hl : 0 ≤ l) (hl1 : l < 64) : w_or (w_shl x 6) l = x * 64 + l := by
  rw [b_shl6 hx hx1, b_or (by omega) (by omega) hl (by omega)]
  have h : (x * 64).toNat ||| l.toNat = x.toNat * 64 + l.toNat := by
    have e : (x * 64).toNat = 2 ^ 6 * x.toNat := by omega
    have h2 := Nat.two_pow_add_eq_or_of_lt (i := 6) (b := l.toNat) (by omega) x.toNat
    rw [e, ← h2]
    omega
  rw [h]
  omega
theorem b_div {x k : Int} (hx : 0 ≤ x) (hx1 : x < 2147483648) (hk : 0 < k) (hk1 : k < 2147483648) : w_div x k = x / k := by
  unfold w_div w_op
  have hm : Int32.minValue.toInt = -2147483648 := rfl
  have hM : Int32.maxValue.toInt = 2147483647 := rfl
  have h : Int32.ofInt x / Int32.ofInt k = Int32.ofInt (x.tdiv k) := (Int32.ofInt_tdiv (by omega) (by omega) (by omega) (by omega)).symm
  have h2 : x.tdiv k = x / k := Int.tdiv_eq_ediv_of_nonneg hx
  have h3 : 0 ≤ x / k := Int.ediv_nonneg hx (by omega)
  have h4 : x / k ≤ x := Int.ediv_le_self k hx
  show (Int32.ofInt x / Int32.ofInt k).toInt = x / k
  rw [h, h2, Int32.toInt_ofInt_of_le (by omega) (by omega)]
theorem b_rem {x k : Int} (hx : 0 ≤ x) (hx1 : x < 2147483648) (hk : 0 < k) (hk1 : k < 2147483648) : w_rem x k = x % k := by
  unfold w_rem w_op
  have hm : Int32.minValue.toInt = -2147483648 := rfl
  have hM : Int32.maxValue.toInt = 2147483647 := rfl
  have h : Int32.ofInt x / Int32.ofInt k = Int32.ofInt (x.tdiv k) := (Int32.ofInt_tdiv (by omega) (by omega) (by omega) (by omega)).symm
  have h2 : x.tdiv k = x / k := Int.tdiv_eq_ediv_of_nonneg hx
  have h3 : 0 ≤ x % k := Int.emod_nonneg x (by omega)
  have h4 : x % k < k := Int.emod_lt_of_pos x hk
  have h5 : x - x / k * k = x % k := by
    have := Int.emod_add_mul_ediv x k
    have e : x / k * k = k * (x / k) := Int.mul_comm _ _
    omega
  show (Int32.ofInt x - Int32.ofInt x / Int32.ofInt k * Int32.ofInt k).toInt = x % k
  rw [h, h2, ← Int32.ofInt_mul, ← Int32.ofInt_sub, h5, Int32.toInt_ofInt_of_le (by omega) (by omega)]
theorem b_bit (m : Int) (h1 : 1 ≤ m) (h2 : m ≤ 127) : ∃ r : Nat, r < 7 ∧ w_and (w_shr m r) 1 ≠ 0 := by
  have key : ∀ k : Fin 128, k.val ≠ 0 → ∃ r : Fin 7, w_and (w_shr (k.val : Int) (r.val : Int)) 1 ≠ 0 := by decide +kernel
  obtain ⟨r, hr⟩ := key ⟨m.toNat, by omega⟩ (by simp only; omega)
  have e : ((m.toNat : Nat) : Int) = m := by omega
  simp only [e] at hr
  exact ⟨r.val, r.isLt, hr⟩
theorem b_set (m d : Int) (h1 : 0 ≤ m) (h2 : m ≤ 127) (h3 : 0 ≤ d) (h4 : d ≤ 6) : 1 ≤ w_or m (w_shl 1 d) ∧ w_or m (w_shl 1 d) ≤ 127 := by
  have key : ∀ k : Fin 128, ∀ r : Fin 7, 1 ≤ w_or (k.val : Int) (w_shl 1 (r.val : Int)) ∧ w_or (k.val : Int) (w_shl 1 (r.val : Int)) ≤ 127 := by decide +kernel
  have h := key ⟨m.toNat, by omega⟩ ⟨d.toNat, by omega⟩
  have e : ((m.toNat : Nat) : Int) = m := by omega
  have e2 : ((d.toNat : Nat) : Int) = d := by omega
  simp only [e, e2] at h
  exact h
end
section
-- 72
def RelF (c r : am) : Prop := r 129 140 = c 76 7 ∧ r 129 144 = c 76 11 ∧ eqr (c 76 7) (r 222) (c 83) ∧ eqr (c 76 7) (r 223) (c 84) ∧ eqr (c 76 7) (r 224) (c 85) ∧ eqr (c 76 11) (r 225) (c 86) ∧ eqr (c 76 11) (r 226) (c 87) ∧ eqr (c 76 11) (r 227) (c 88)
def InvF (c : am) (t : Int) : Prop := 0 ≤ c 76 7 ∧ c 76 7 ≤ 20 ∧ 0 ≤ c 76 11 ∧ c 76 11 ≤ 150 ∧ (∀ k : Nat, 1 ≤ k → (k : Int) ≤ c 76 7 → -1000000 * t ≤ c 83 k ∧ c 83 k ≤ 1000000 * t ∧ -1000000 * t ≤ c 84 k ∧ c 84 k ≤ 1000000 * t ∧ -1000000 * t ≤ c 85 k ∧ c 85 k ≤ 1000000 * t ∧ 0 ≤ c 83 k - c 84 k - c 85 k) ∧ (∀ k : Nat, 1 ≤ k → (k : Int) ≤ c 76 11 → 1 ≤ c 86 k ∧ c 86 k ≤ c 76 7 ∧ 0 ≤ c 87 k ∧ c 87 k ≤ 1000000)
/-- what an act's two sides leave: refused and nothing happened, or not and so -/
def Pa (S R : w_S) (Q : Int → w_S → w_S → Prop) (y : Int) (S1 : w_S) (y' : Int) (R1 : w_S) : Prop := y' = y ∧ (y < 0 ∧ S1 = S ∧ R1 = w_put R 129 4 1 ∨ 0 ≤ y ∧ Q y S1 R1)
def Qf (S R : w_S) (t : Int) (S1 R1 : w_S) : Prop := frm [83, 84, 85, 86, 87, 88] [76] [(76, 7), (76, 11)] S S1 ∧ frm [222, 223, 224, 225, 226, 227] [129] [(129, 140), (129, 144)] R R1 ∧ InvF S1.1 (t + 1) ∧ RelF S1.1 R1.1
theorem t_fund {e : w_E} {N : Nat} {S R : w_S} {x1 t : Int} (hI : InvF S.1 t) (hR : RelF S.1 R.1) (ht : 0 ≤ t) (ht2 : t ≤ 512) : Ok (E_Buying_addFund e N x1 S) (fun y S1 => Ok (E_R_doFund e N x1 R) (fun y' R1 => Pa S R (fun _ => Qf S R t) y S1 y' R1)) := by
  obtain ⟨i1, i2, i3, i4, i5, i6⟩ := hI
  obtain ⟨r1, r2, r3, r4, r5, r6, r7, r8⟩ := hR
  unfold E_Buying_addFund E_R_doFund
  repeat' (first | with_reducible refine ok_nb (by omega) ?_ | with_reducible refine ok_ib (by omega) ?_ | with_reducible refine ok_t (by omega) ?_ | with_reducible refine ok_e (by omega) ?_ | with_reducible refine ok_if (fun h => ?_) (fun h => ?_) | with_reducible refine ok_s ?_ | with_reducible refine ok_b ?_)
  any_goals exact ⟨rfl, Or.inl ⟨by omega, rfl, rfl⟩⟩
  refine ⟨by omega, Or.inr ⟨by omega, ?_, ?_, ?_, ?_⟩⟩
  · repeat (first | exact frm.refl _ _ _ _ | refine frm.put ?_ rfl | refine frm.puto ?_ rfl rfl)
  · repeat (first | exact frm.refl _ _ _ _ | refine frm.put ?_ rfl | refine frm.puto ?_ rfl rfl)
  · simp only [InvF, w_put_r, reduceIte, Nat.reduceEqDiff, pt_at]
    refine ⟨by omega, by omega, by omega, by omega, fun k h1 h2 => ?_, fun k h1 h2 => ?_⟩
    · have := i5 k h1
      split <;> omega
    · have := i6 k h1
      omega
  · simp only [RelF, w_put_r, reduceIte, Nat.reduceEqDiff, pt_at]
    rw [r1]
    exact ⟨rfl, r2, eqr_grow r3 i1 _, eqr_grow r4 i1 _, eqr_grow r5 i1 _, r6, r7, r8⟩
theorem t_order {e : w_E} {N : Nat} {S R : w_S} {x1 x2 t : Int} (hI : InvF S.1 t) (hR : RelF S.1 R.1) (ht : 0 ≤ t) (ht2 : t ≤ 512) : Ok (E_Buying_addOrder e N x1 x2 S) (fun y S1 => Ok (E_R_doOrder e N x1 x2 R) (fun y' R1 => Pa S R (fun _ => Qf S R t) y S1 y' R1)) := by
  obtain ⟨i1, i2, i3, i4, i5, i6⟩ := hI
  obtain ⟨r1, r2, r3, r4, r5, r6, r7, r8⟩ := hR
  have a1 : 1 ≤ x1 → x1 ≤ S.1 76 7 → _ := fun h1 h2 => i5 x1.toNat (by omega) (by omega)
  have b1 : 1 ≤ x1 → x1 ≤ S.1 76 7 → _ := fun h1 h2 => eqr_get r3 h1 h2
  have b2 : 1 ≤ x1 → x1 ≤ S.1 76 7 → _ := fun h1 h2 => eqr_get r4 h1 h2
  have b3 : 1 ≤ x1 → x1 ≤ S.1 76 7 → _ := fun h1 h2 => eqr_get r5 h1 h2
  unfold E_Buying_addOrder E_R_doOrder
  repeat' (first | with_reducible refine ok_nb (by omega) ?_ | with_reducible refine ok_ib (by omega) ?_ | with_reducible refine ok_t (by omega) ?_ | with_reducible refine ok_e (by omega) ?_ | with_reducible refine ok_if (fun h => ?_) (fun h => ?_) | with_reducible refine ok_s ?_ | with_reducible refine ok_b ?_)
  any_goals exact ⟨rfl, Or.inl ⟨by omega, rfl, rfl⟩⟩
  refine ⟨by omega, Or.inr ⟨by omega, ?_, ?_, ?_, ?_⟩⟩
  · repeat (first | exact frm.refl _ _ _ _ | refine frm.put ?_ rfl | refine frm.puto ?_ rfl rfl)
  · repeat (first | exact frm.refl _ _ _ _ | refine frm.put ?_ rfl | refine frm.puto ?_ rfl rfl)
  · simp only [InvF, w_put_r, reduceIte, Nat.reduceEqDiff, pt_at]
    refine ⟨by omega, by omega, by omega, by omega, fun k h1 h2 => ?_, fun k h1 h2 => ?_⟩
    · have := i5 k h1 h2
      split
      · next h => subst h; omega
      · omega
    · have := i6 k h1
      split <;> omega
  · simp only [RelF, w_put_r, reduceIte, Nat.reduceEqDiff, pt_at]
    rw [r1, r2, b2 (by omega) (by omega)]
    exact ⟨rfl, rfl, r3, eqr_pt r4 _ _, r5, eqr_grow r6 i3 _, eqr_grow r7 i3 _, eqr_grow r8 i3 _⟩
theorem t_invoice {e : w_E} {N : Nat} {S R : w_S} {x1 x2 t : Int} (hI : InvF S.1 t) (hR : RelF S.1 R.1) (ht : 0 ≤ t) (ht2 : t ≤ 512) : Ok (E_Buying_chargeOrder e N x1 x2 S) (fun y S1 => Ok (E_R_doInvoice e N x1 x2 R) (fun y' R1 => Pa S R (fun _ => Qf S R t) y S1 y' R1)) := by
  obtain ⟨i1, i2, i3, i4, i5, i6⟩ := hI
  obtain ⟨r1, r2, r3, r4, r5, r6, r7, r8⟩ := hR
  by_cases hx : x1 < 1
  · unfold E_Buying_chargeOrder E_R_doInvoice
    repeat' (first | with_reducible refine ok_nb (by omega) ?_ | with_reducible refine ok_ib (by omega) ?_ | with_reducible refine ok_t (by omega) ?_ | with_reducible refine ok_e (by omega) ?_ | with_reducible refine ok_if (fun h => ?_) (fun h => ?_) | with_reducible refine ok_s ?_ | with_reducible refine ok_b ?_)
    exact ⟨rfl, Or.inl ⟨by omega, rfl, rfl⟩⟩
  by_cases hy : S.1 76 11 < x1
  · unfold E_Buying_chargeOrder E_R_doInvoice
    repeat' (first | with_reducible refine ok_nb (by omega) ?_ | with_reducible refine ok_ib (by omega) ?_ | with_reducible refine ok_t (by omega) ?_ | with_reducible refine ok_e (by omega) ?_ | with_reducible refine ok_if (fun h => ?_) (fun h => ?_) | with_reducible refine ok_s ?_ | with_reducible refine ok_b ?_)
    exact ⟨rfl, Or.inl ⟨by omega, rfl, rfl⟩⟩
  have a1 := i6 x1.toNat (by omega) (by omega)
  have a2 := i5 (S.1 86 x1.toNat).toNat (by omega) (by omega)
  have b1 := eqr_get r6 (k := x1) (by omega) (by omega)
  have b2 := eqr_get r7 (k := x1) (by omega) (by omega)
  have b3 := eqr_get r8 (k := x1) (by omega) (by omega)
  have b4 := eqr_get r3 (k := S.1 86 x1.toNat) (by omega) (by omega)
  have b5 := eqr_get r4 (k := S.1 86 x1.toNat) (by omega) (by omega)
  have b6 := eqr_get r5 (k := S.1 86 x1.toNat) (by omega) (by omega)
  unfold E_Buying_chargeOrder E_R_doInvoice
  simp only [w_put_r, reduceIte, Nat.reduceEqDiff, pt_at]
  rw [b1]
  repeat' (first | with_reducible refine ok_nb (by omega) ?_ | with_reducible refine ok_ib (by omega) ?_ | with_reducible refine ok_t (by omega) ?_ | with_reducible refine ok_e (by omega) ?_ | with_reducible refine ok_if (fun h => ?_) (fun h => ?_) | with_reducible refine ok_s ?_ | with_reducible refine ok_b ?_)
  any_goals exact ⟨rfl, Or.inl ⟨by omega, rfl, rfl⟩⟩
  refine ⟨by omega, Or.inr ⟨by omega, ?_, ?_, ?_, ?_⟩⟩
  · repeat (first | exact frm.refl _ _ _ _ | refine frm.put ?_ rfl | refine frm.puto ?_ rfl rfl)
  · repeat (first | exact frm.refl _ _ _ _ | refine frm.put ?_ rfl | refine frm.puto ?_ rfl rfl)
  · simp only [InvF, w_put_r, reduceIte, Nat.reduceEqDiff, pt_at]
    refine ⟨by omega, by omega, by omega, by omega, fun k h1 h2 => ?_, fun k h1 h2 => ?_⟩
    · have := i5 k h1 h2
      split
      · next h => subst h; omega
      · omega
    · exact i6 k h1 h2
  · simp only [RelF, w_put_r, reduceIte, Nat.reduceEqDiff, pt_at]
    rw [b5, b6, b2]
    exact ⟨r1, r2, r3, eqr_pt r4 _ _, eqr_pt r5 _ _, r6, r7, eqr_pt r8 _ _⟩
theorem t_cancel {e : w_E} {N : Nat} {S R : w_S} {x1 t : Int} (hI : InvF S.1 t) (hR : RelF S.1 R.1) (ht : 0 ≤ t) (ht2 : t ≤ 512) : Ok (E_Buying_cancelOrder e N x1 S) (fun y S1 => Ok (E_R_doCancel e N x1 R) (fun y' R1 => Pa S R (fun _ => Qf S R t) y S1 y' R1)) := by
  obtain ⟨i1, i2, i3, i4, i5, i6⟩ := hI
  obtain ⟨r1, r2, r3, r4, r5, r6, r7, r8⟩ := hR
  by_cases hx : x1 < 1
  · unfold E_Buying_cancelOrder E_R_doCancel
    repeat' (first | with_reducible refine ok_nb (by omega) ?_ | with_reducible refine ok_ib (by omega) ?_ | with_reducible refine ok_t (by omega) ?_ | with_reducible refine ok_e (by omega) ?_ | with_reducible refine ok_if (fun h => ?_) (fun h => ?_) | with_reducible refine ok_s ?_ | with_reducible refine ok_b ?_)
    exact ⟨rfl, Or.inl ⟨by omega, rfl, rfl⟩⟩
  by_cases hy : S.1 76 11 < x1
  · unfold E_Buying_cancelOrder E_R_doCancel
    repeat' (first | with_reducible refine ok_nb (by omega) ?_ | with_reducible refine ok_ib (by omega) ?_ | with_reducible refine ok_t (by omega) ?_ | with_reducible refine ok_e (by omega) ?_ | with_reducible refine ok_if (fun h => ?_) (fun h => ?_) | with_reducible refine ok_s ?_ | with_reducible refine ok_b ?_)
    exact ⟨rfl, Or.inl ⟨by omega, rfl, rfl⟩⟩
  have a1 := i6 x1.toNat (by omega) (by omega)
  have a2 := i5 (S.1 86 x1.toNat).toNat (by omega) (by omega)
  have b1 := eqr_get r6 (k := x1) (by omega) (by omega)
  have b2 := eqr_get r7 (k := x1) (by omega) (by omega)
  have b3 := eqr_get r8 (k := x1) (by omega) (by omega)
  have b4 := eqr_get r3 (k := S.1 86 x1.toNat) (by omega) (by omega)
  have b5 := eqr_get r4 (k := S.1 86 x1.toNat) (by omega) (by omega)
  have b6 := eqr_get r5 (k := S.1 86 x1.toNat) (by omega) (by omega)
  unfold E_Buying_cancelOrder E_R_doCancel
  simp only [w_put_r, reduceIte, Nat.reduceEqDiff, pt_at]
  rw [b1]
  repeat' (first | with_reducible refine ok_nb (by omega) ?_ | with_reducible refine ok_ib (by omega) ?_ | with_reducible refine ok_t (by omega) ?_ | with_reducible refine ok_e (by omega) ?_ | with_reducible refine ok_if (fun h => ?_) (fun h => ?_) | with_reducible refine ok_s ?_ | with_reducible refine ok_b ?_)
  any_goals exact ⟨rfl, Or.inl ⟨by omega, rfl, rfl⟩⟩
  refine ⟨by omega, Or.inr ⟨by omega, ?_, ?_, ?_, ?_⟩⟩
  · repeat (first | exact frm.refl _ _ _ _ | refine frm.put ?_ rfl | refine frm.puto ?_ rfl rfl)
  · repeat (first | exact frm.refl _ _ _ _ | refine frm.put ?_ rfl | refine frm.puto ?_ rfl rfl)
  · simp only [InvF, w_put_r, reduceIte, Nat.reduceEqDiff, pt_at]
    refine ⟨by omega, by omega, by omega, by omega, fun k h1 h2 => ?_, fun k h1 h2 => ?_⟩
    · have := i5 k h1 h2
      split
      · next h => subst h; omega
      · omega
    · exact i6 k h1 h2
  · simp only [RelF, w_put_r, reduceIte, Nat.reduceEqDiff, pt_at]
    rw [b5, b2]
    exact ⟨r1, r2, r3, eqr_pt r4 _ _, r5, r6, r7, eqr_pt r8 _ _⟩
theorem t_transfer {e : w_E} {N : Nat} {S R : w_S} {x1 x2 x3 t : Int} (hI : InvF S.1 t) (hR : RelF S.1 R.1) (ht : 0 ≤ t) (ht2 : t ≤ 512) : Ok (E_Buying_moveMoney e N x1 x2 x3 S) (fun y S1 => Ok (E_R_doTransfer e N x1 x2 x3 R) (fun y' R1 => Pa S R (fun _ => Qf S R t) y S1 y' R1)) := by
  obtain ⟨i1, i2, i3, i4, i5, i6⟩ := hI
  obtain ⟨r1, r2, r3, r4, r5, r6, r7, r8⟩ := hR
  have a1 : 1 ≤ x1 → x1 ≤ S.1 76 7 → _ := fun h1 h2 => i5 x1.toNat (by omega) (by omega)
  have b1 : 1 ≤ x1 → x1 ≤ S.1 76 7 → _ := fun h1 h2 => eqr_get r3 h1 h2
  have b2 : 1 ≤ x1 → x1 ≤ S.1 76 7 → _ := fun h1 h2 => eqr_get r4 h1 h2
  have b3 : 1 ≤ x1 → x1 ≤ S.1 76 7 → _ := fun h1 h2 => eqr_get r5 h1 h2
  have a2 : 1 ≤ x2 → x2 ≤ S.1 76 7 → _ := fun h1 h2 => i5 x2.toNat (by omega) (by omega)
  have b4 : 1 ≤ x2 → x2 ≤ S.1 76 7 → _ := fun h1 h2 => eqr_get r3 h1 h2
  by_cases hx : x1 = x2
  · unfold E_Buying_moveMoney E_R_doTransfer
    repeat' (first | with_reducible refine ok_nb (by omega) ?_ | with_reducible refine ok_ib (by omega) ?_ | with_reducible refine ok_t (by omega) ?_ | with_reducible refine ok_e (by omega) ?_ | with_reducible refine ok_if (fun h => ?_) (fun h => ?_) | with_reducible refine ok_s ?_ | with_reducible refine ok_b ?_)
    all_goals exact ⟨rfl, Or.inl ⟨by omega, rfl, rfl⟩⟩
  unfold E_Buying_moveMoney E_R_doTransfer
  simp only [w_put_r, reduceIte, Nat.reduceEqDiff, pt_at]
  by_cases hy : x2.toNat = x1.toNat
  · repeat' (first | with_reducible refine ok_nb (by omega) ?_ | with_reducible refine ok_ib (by omega) ?_ | with_reducible refine ok_t (by omega) ?_ | with_reducible refine ok_e (by omega) ?_ | with_reducible refine ok_if (fun h => ?_) (fun h => ?_) | with_reducible refine ok_s ?_ | with_reducible refine ok_b ?_)
    all_goals exact ⟨rfl, Or.inl ⟨by omega, rfl, rfl⟩⟩
  rw [if_neg hy, if_neg hy]
  repeat' (first | with_reducible refine ok_nb (by omega) ?_ | with_reducible refine ok_ib (by omega) ?_ | with_reducible refine ok_t (by omega) ?_ | with_reducible refine ok_e (by omega) ?_ | with_reducible refine ok_if (fun h => ?_) (fun h => ?_) | with_reducible refine ok_s ?_ | with_reducible refine ok_b ?_)
  any_goals exact ⟨rfl, Or.inl ⟨by omega, rfl, rfl⟩⟩
  refine ⟨by omega, Or.inr ⟨by omega, ?_, ?_, ?_, ?_⟩⟩
  · repeat (first | exact frm.refl _ _ _ _ | refine frm.put ?_ rfl | refine frm.puto ?_ rfl rfl)
  · repeat (first | exact frm.refl _ _ _ _ | refine frm.put ?_ rfl | refine frm.puto ?_ rfl rfl)
  · simp only [InvF, w_put_r, reduceIte, Nat.reduceEqDiff, pt_at]
    refine ⟨by omega, by omega, by omega, by omega, fun k h1 h2 => ?_, fun k h1 h2 => ?_⟩
    · have := i5 k h1 h2
      split
      · next h => subst h; omega
      · split
        · next h => subst h; omega
        · omega
    · exact i6 k h1 h2
  · simp only [RelF, w_put_r, reduceIte, Nat.reduceEqDiff, pt_at]
    rw [b1 (by omega) (by omega), b4 (by omega) (by omega)]
    exact ⟨r1, r2, eqr_pt (eqr_pt r3 _ _) _ _, r4, r5, r6, r7, r8⟩
theorem q_money {e : w_E} {N : Nat} {S R : w_S} {x1 x2 t : Int} (hI : InvF S.1 t) (hR : RelF S.1 R.1) (ht : 0 ≤ t) (ht2 : t ≤ 512) : Ok (E_C_money e N x1 x2 S) (fun y S1 => Ok (E_R_money e N x1 x2 R) (fun y' R1 => y' = y ∧ S1 = S ∧ R1 = R)) := by
  obtain ⟨i1, i2, i3, i4, i5, i6⟩ := hI
  obtain ⟨r1, r2, r3, r4, r5, r6, r7, r8⟩ := hR
  have a1 : 1 ≤ x1 → x1 ≤ S.1 76 7 → _ := fun h1 h2 => i5 x1.toNat (by omega) (by omega)
  have b1 : 1 ≤ x1 → x1 ≤ S.1 76 7 → _ := fun h1 h2 => eqr_get r3 h1 h2
  have b2 : 1 ≤ x1 → x1 ≤ S.1 76 7 → _ := fun h1 h2 => eqr_get r4 h1 h2
  have b3 : 1 ≤ x1 → x1 ≤ S.1 76 7 → _ := fun h1 h2 => eqr_get r5 h1 h2
  unfold E_C_money E_Buying_tellMoney E_R_money
  simp only [e_sw_cons, e_sw_nil]
  repeat' (first | with_reducible refine ok_nb (by omega) ?_ | with_reducible refine ok_ib (by omega) ?_ | with_reducible refine ok_t (by omega) ?_ | with_reducible refine ok_e (by omega) ?_ | with_reducible refine ok_if (fun h => ?_) (fun h => ?_) | with_reducible refine ok_s ?_ | with_reducible refine ok_b ?_)
  all_goals exact ⟨by omega, rfl, rfl⟩
theorem l_overspent {e : w_E} {N : Nat} {S : w_S} {x1 t : Int} (hI : InvF S.1 t) (ht : 0 ≤ t) (ht2 : t ≤ 512) (hx : 0 ≤ x1 ∧ x1 ≤ 1000) : ∀ (k n : Nat) (x2 : Int), k < n → 1 ≤ x2 → x2 + k = S.1 76 7 + 1 → Ok (El_Buying_overspentFunds e N n 0 [x1, x2] [] S) (fun y S1 => y = x1 ∧ S1 = S)
  | 0, n + 1, x2, h1, h2, h3 => by
    rw [El_Buying_overspentFunds]
    repeat' (first | with_reducible refine ok_nb (by omega) ?_ | with_reducible refine ok_ib (by omega) ?_ | with_reducible refine ok_t (by omega) ?_ | with_reducible refine ok_e (by omega) ?_ | with_reducible refine ok_if (fun h => ?_) (fun h => ?_) | with_reducible refine ok_s ?_ | with_reducible refine ok_b ?_)
    exact ⟨rfl, rfl⟩
  | k + 1, n + 1, x2, h1, h2, h3 => by
    have a := hI.2.2.2.2.1 x2.toNat (by omega) (by have := hI.2.1; omega)
    have := hI.2.1
    rw [El_Buying_overspentFunds]
    repeat' (first | with_reducible refine ok_nb (by omega) ?_ | with_reducible refine ok_ib (by omega) ?_ | with_reducible refine ok_t (by omega) ?_ | with_reducible refine ok_e (by omega) ?_ | with_reducible refine ok_if (fun h => ?_) (fun h => ?_) | with_reducible refine ok_s ?_ | with_reducible refine ok_b ?_)
    rw [Int.add_zero]
    exact l_overspent hI ht ht2 hx k n (x2 + 1) (by omega) (by omega) (by omega)
theorem l_broken2 {e : w_E} {N : Nat} {S R : w_S} {x1 t : Int} (hI : InvF S.1 t) (hR : RelF S.1 R.1) (ht : 0 ≤ t) (ht2 : t ≤ 512) (hx : 0 ≤ x1 ∧ x1 ≤ 1000) : ∀ (k n : Nat) (x2 : Int), k < n → 1 ≤ x2 → x2 + k = S.1 76 7 + 1 → Ok (El_R_broken e N n 0 [x1, x2] [] R) (fun y S1 => y = x1 ∧ S1 = R)
  | 0, n + 1, x2, h1, h2, h3 => by
    have := hR.1
    rw [El_R_broken]
    repeat' (first | with_reducible refine ok_nb (by omega) ?_ | with_reducible refine ok_ib (by omega) ?_ | with_reducible refine ok_t (by omega) ?_ | with_reducible refine ok_e (by omega) ?_ | with_reducible refine ok_if (fun h => ?_) (fun h => ?_) | with_reducible refine ok_s ?_ | with_reducible refine ok_b ?_)
    exact ⟨rfl, rfl⟩
  | k + 1, n + 1, x2, h1, h2, h3 => by
    have a := hI.2.2.2.2.1 x2.toNat (by omega) (by have := hI.2.1; omega)
    have := hI.2.1
    have b0 := hR.1
    have b1 := eqr_get hR.2.2.1 (k := x2) (by omega) (by omega)
    have b2 := eqr_get hR.2.2.2.1 (k := x2) (by omega) (by omega)
    have b3 := eqr_get hR.2.2.2.2.1 (k := x2) (by omega) (by omega)
    rw [El_R_broken]
    repeat' (first | with_reducible refine ok_nb (by omega) ?_ | with_reducible refine ok_ib (by omega) ?_ | with_reducible refine ok_t (by omega) ?_ | with_reducible refine ok_e (by omega) ?_ | with_reducible refine ok_if (fun h => ?_) (fun h => ?_) | with_reducible refine ok_s ?_ | with_reducible refine ok_b ?_)
    rw [Int.add_zero]
    exact l_broken2 hI hR ht ht2 hx k n (x2 + 1) (by omega) (by omega) (by omega)
end
