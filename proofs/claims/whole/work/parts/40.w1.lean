def w_r (x : Int) : Int := (x + 2147483648) % 4294967296 - 2147483648
def w_n (x : Int) : Prop := -2147483648 ≤ x ∧ x < 2147483648
def w_r64 (x : Int) : Int := (x + 9223372036854775808) % 18446744073709551616 - 9223372036854775808
def w_n64 (x : Int) : Prop := -9223372036854775808 ≤ x ∧ x < 9223372036854775808
def w_b (x : Int) : Int := (x + 128) % 256 - 128
theorem w_r_n (x : Int) : w_n (w_r x) := by
  unfold w_n w_r
  omega
theorem w_r_eq {x : Int} (h : w_n x) : w_r x = x := by
  unfold w_n at h
  unfold w_r
  omega
theorem w_r64_n (x : Int) : w_n64 (w_r64 x) := by
  unfold w_n64 w_r64
  omega
theorem w_r64_eq {x : Int} (h : w_n64 x) : w_r64 x = x := by
  unfold w_n64 at h
  unfold w_r64
  omega
theorem w_b_n (x : Int) : w_n (w_b x) := by
  unfold w_n w_b
  omega
theorem w_to {x : Int} (h : w_n x) : (Int32.ofInt x).toInt = x := Int32.toInt_ofInt_of_le (by have := h.1; omega) (by have := h.2; omega)
theorem w_to64 {x : Int} (h : w_n64 x) : (Int64.ofInt x).toInt = x := Int64.toInt_ofInt_of_le (by have := h.1; omega) (by have := h.2; omega)
theorem w_tn (x : Int32) : w_n x.toInt := ⟨by have := Int32.le_toInt x; omega, by have := Int32.toInt_lt x; omega⟩
theorem w_of_r (x : Int) : Int32.ofInt (w_r x) = Int32.ofInt x := by
  apply Int32.toInt.inj
  rw [w_to (w_r_n x), Int32.toInt_ofInt]
  unfold w_r Int.bmod
  have : ((Int32.size : Nat) : Int) = 4294967296 := rfl
  rw [this]
  dsimp only
  split <;> omega
theorem w_of_r64 (x : Int) : Int64.ofInt (w_r64 x) = Int64.ofInt x := by
  apply Int64.toInt.inj
  rw [w_to64 (w_r64_n x), Int64.toInt_ofInt]
  unfold w_r64 Int.bmod
  have : ((Int64.size : Nat) : Int) = 18446744073709551616 := rfl
  rw [this]
  dsimp only
  split <;> omega
theorem w_of_inj {x y : Int} (hx : w_n x) (hy : w_n y) (h : Int32.ofInt x = Int32.ofInt y) : x = y := by
  have := congrArg Int32.toInt h
  rwa [w_to hx, w_to hy] at this
theorem w_addE (x y : Int) : Int32.ofInt x + Int32.ofInt y = Int32.ofInt (w_r (x + y)) := by rw [w_of_r, Int32.ofInt_add]
theorem w_subE (x y : Int) : Int32.ofInt x - Int32.ofInt y = Int32.ofInt (w_r (x - y)) := by rw [w_of_r, Int32.ofInt_sub]
theorem w_mulE (x y : Int) : Int32.ofInt x * Int32.ofInt y = Int32.ofInt (w_r (x * y)) := by rw [w_of_r, Int32.ofInt_mul]
theorem w_add64E (x y : Int) : Int64.ofInt x + Int64.ofInt y = Int64.ofInt (w_r64 (x + y)) := by rw [w_of_r64, Int64.ofInt_add]
theorem w_mul64E (x y : Int) : Int64.ofInt x * Int64.ofInt y = Int64.ofInt (w_r64 (x * y)) := by rw [w_of_r64, Int64.ofInt_mul]
theorem w_bE (x : Int) : (Int32.ofInt x).toInt8.toInt32 = Int32.ofInt (w_b x) := by
  apply Int32.toInt.inj
  rw [w_to (w_b_n x), Int8.toInt_toInt32, Int32.toInt8_ofInt, Int8.toInt_ofInt]
  unfold w_b Int.bmod
  have : ((Int8.size : Nat) : Int) = 256 := rfl
  rw [this]
  dsimp only
  split <;> omega
def w_16 (x : Int) : Int := (x + 32768) % 65536 - 32768
theorem w_16_n (x : Int) : w_n (w_16 x) := by
  unfold w_n w_16
  omega
theorem w_8E (x : Int) : (Int8.ofInt x).toInt32 = Int32.ofInt (w_b x) := by
  rw [← w_bE, Int32.toInt8_ofInt]
theorem w_16E (x : Int) : (Int16.ofInt x).toInt32 = Int32.ofInt (w_16 x) := by
  apply Int32.toInt.inj
  rw [w_to (w_16_n x), Int16.toInt_toInt32, Int16.toInt_ofInt]
  unfold w_16 Int.bmod
  have : ((Int16.size : Nat) : Int) = 65536 := rfl
  rw [this]
  dsimp only
  split <;> omega
def w_op (f : Int32 → Int32 → Int32) (x y : Int) : Int := (f (Int32.ofInt x) (Int32.ofInt y)).toInt
theorem w_opE (f : Int32 → Int32 → Int32) (x y : Int) : f (Int32.ofInt x) (Int32.ofInt y) = Int32.ofInt (w_op f x y) := by
  unfold w_op
  rw [Int32.ofInt_toInt]
theorem w_op_n (f : Int32 → Int32 → Int32) (x y : Int) : w_n (w_op f x y) := w_tn _
def w_and : Int → Int → Int := w_op (fun a b => a &&& b)
def w_or : Int → Int → Int := w_op (fun a b => a ||| b)
def w_shl : Int → Int → Int := w_op (fun a b => a <<< (b &&& 31))
def w_shr : Int → Int → Int := w_op (fun a b => a >>> (b &&& 31))
def w_div : Int → Int → Int := w_op (fun a b => a / b)
def w_rem : Int → Int → Int := w_op (fun a b => a - a / b * b)
theorem w_ltE {x y : Int} (hx : w_n x) (hy : w_n y) : (Int32.ofInt x < Int32.ofInt y) = (x < y) := by
  rw [Int32.lt_iff_toInt_lt, w_to hx, w_to hy]
theorem w_leE {x y : Int} (hx : w_n x) (hy : w_n y) : (Int32.ofInt x ≤ Int32.ofInt y) = (x ≤ y) := by
  rw [Int32.le_iff_toInt_le, w_to hx, w_to hy]
theorem w_eqE {x y : Int} (hx : w_n x) (hy : w_n y) : (Int32.ofInt x = Int32.ofInt y) = (x = y) := propext ⟨w_of_inj hx hy, fun h => by rw [h]⟩
theorem w_n0 : w_n 0 := by unfold w_n; omega
theorem w_clamp {x : Int} (hx : w_n x) : (Int32.ofInt x).toNatClampNeg = x.toNat := by
  rw [← Int32.toNat_toInt, w_to hx]
theorem w_lt0 {x : Int} (hx : w_n x) : (Int32.ofInt x < 0) = (x < 0) := w_ltE (y := 0) hx w_n0
def w_cb (c : ClassFile.Cond) (x y : Int) : Prop := match c with
  | .eq => x = y
  | .ne => x ≠ y
  | .lt => x < y
  | .ge => y ≤ x
  | .gt => y < x
  | .le => x ≤ y
def w_cn (c : ClassFile.Cond) (x y : Int) : Prop := match c with
  | .eq => x ≠ y
  | .ne => x = y
  | .lt => y ≤ x
  | .ge => x < y
  | .gt => x ≤ y
  | .le => y < x
theorem w_cbE (c : ClassFile.Cond) {x y : Int} (hx : w_n x) (hy : w_n y) : (rm_cb c (Int32.ofInt x) (Int32.ofInt y) = true ∧ w_cb c x y) ∨ (rm_cb c (Int32.ofInt x) (Int32.ofInt y) = false ∧ w_cn c x y) := by
  unfold rm_cb w_cb w_cn
  cases c <;> dsimp only
  · rw [decide_eq_true_eq, decide_eq_false_iff_not, w_eqE hx hy]
    omega
  · rw [Bool.not_eq_true', Bool.not_eq_false', decide_eq_true_eq, decide_eq_false_iff_not, w_eqE hx hy]
    omega
  · rw [decide_eq_true_eq, decide_eq_false_iff_not, w_ltE hx hy]
    omega
  · rw [decide_eq_true_eq, decide_eq_false_iff_not, w_leE hy hx]
    omega
  · rw [decide_eq_true_eq, decide_eq_false_iff_not, w_ltE hy hx]
    omega
  · rw [decide_eq_true_eq, decide_eq_false_iff_not, w_leE hx hy]
    omega
abbrev w_V : Type := Int ⊕ (Nat ⊕ (Nat ⊕ Int))
abbrev w_i (x : Int) : w_V := Sum.inl x
abbrev w_s (a : Nat) : w_V := Sum.inr (Sum.inl a)
abbrev w_d (a : Nat) : w_V := Sum.inr (Sum.inr (Sum.inl a))
abbrev w_l (y : Int) : w_V := Sum.inr (Sum.inr (Sum.inr y))
def w_v : w_V → Value
  | .inl x => .int (Int32.ofInt x)
  | .inr (.inl a) => .ref a
  | .inr (.inr (.inl a)) => .ref a
  | .inr (.inr (.inr y)) => .long (Int64.ofInt y)
def w_ok : w_V → Prop
  | .inl x => w_n x
  | .inr (.inr (.inr y)) => w_n64 y
  | _ => True
def w_c2 : w_V → Bool
  | .inr (.inr (.inr _)) => true
  | _ => false
theorem w_c2E (v : w_V) : ((w_v v).category == 2) = w_c2 v := by
  rcases v with x | a | a | y <;> rfl
abbrev w_L : Type := List (Nat × w_V)
def w_ls (ls : w_L) : rm_L := ls.map (fun q => (q.1, w_v q.2))
def w_get (ls : w_L) (i : Nat) : Option w_V := (ls.find? (fun q => q.1 == i)).map (fun q => q.2)
def w_set1 (ls : w_L) (i : Nat) (v : w_V) : w_L := (i, v) :: ls.filter (fun q => !(q.1 == i) && !(q.1 + 1 == i && w_c2 q.2))
def w_set2 (ls : w_L) (i : Nat) (v : w_V) : w_L := (i, v) :: ls.filter (fun q => !(q.1 == i) && (!(q.1 == i + 1) && !(q.1 + 1 == i && w_c2 q.2)))
theorem w_getE (ls : w_L) (i : Nat) : rm_get (w_ls ls) i = (w_get ls i).map w_v := by
  unfold rm_get w_get w_ls
  induction ls with
  | nil => rfl
  | cons q ls ih =>
    simp only [List.map_cons, List.find?_cons]
    cases (q.1 == i) with
    | true => rfl
    | false => exact ih
theorem w_set1E (ls : w_L) (i : Nat) (v : w_V) : rm_set1 (w_ls ls) i (w_v v) = w_ls (w_set1 ls i v) := by
  unfold rm_set1 w_set1 w_ls
  rw [List.map_cons, List.filter_map]
  congr 2
  apply List.filter_congr
  intro q _
  simp only [Function.comp_apply, w_c2E]
theorem w_set2E (ls : w_L) (i : Nat) (v : w_V) : rm_set2 (w_ls ls) i (w_v v) = w_ls (w_set2 ls i v) := by
  unfold rm_set2 w_set2 w_ls
  rw [List.map_cons, List.filter_map]
  congr 2
  apply List.filter_congr
  intro q _
  simp only [Function.comp_apply, w_c2E]
abbrev w_okl (ls : w_L) : Prop := ∀ q ∈ ls, w_ok q.2
abbrev w_oks (st : List w_V) : Prop := ∀ v ∈ st, w_ok v
theorem w_get_ok {ls : w_L} {i : Nat} {v : w_V} (h : w_okl ls) (hv : w_get ls i = some v) : w_ok v := by
  unfold w_get at hv
  cases hf : ls.find? (fun q => q.1 == i) with
  | none => rw [hf] at hv; cases hv
  | some q =>
    rw [hf] at hv
    cases hv
    exact h q (List.mem_of_find?_eq_some hf)
theorem w_set1_ok {ls : w_L} {i : Nat} {v : w_V} (h : w_okl ls) (hv : w_ok v) : w_okl (w_set1 ls i v) := by
  intro q hq
  rcases List.mem_cons.mp hq with rfl | hq
  · exact hv
  · exact h q (List.mem_filter.mp hq).1
theorem w_set2_ok {ls : w_L} {i : Nat} {v : w_V} (h : w_okl ls) (hv : w_ok v) : w_okl (w_set2 ls i v) := by
  intro q hq
  rcases List.mem_cons.mp hq with rfl | hq
  · exact hv
  · exact h q (List.mem_filter.mp hq).1
theorem w_oks_cons {v : w_V} {st : List w_V} (h : w_ok v) (hs : w_oks st) : w_oks (v :: st) := by
  intro u hu
  rcases List.mem_cons.mp hu with rfl | hu
  · exact h
  · exact hs u hu
theorem w_oks_tl {v : w_V} {st : List w_V} (h : w_oks (v :: st)) : w_oks st := fun u hu => h u (List.mem_cons_of_mem _ hu)
theorem w_oks_hd {v : w_V} {st : List w_V} (h : w_oks (v :: st)) : w_ok v := h v List.mem_cons_self
