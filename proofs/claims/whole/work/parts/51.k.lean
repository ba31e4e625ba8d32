theorem k_a {p A B : Prop} (f : p → A → B) : p ∧ A → p ∧ B := fun h => ⟨h.1, f h.1 h.2⟩
theorem k_n {c A B : Prop} (h : c) (f : A → B) : A → c ∧ B := fun a => ⟨h, f a⟩
theorem k_b {c d A B A' B' : Prop} (f : c → A → A') (g : d → B → B') : (c → A) ∧ (d → B) → (c → A') ∧ (d → B') := fun h => ⟨fun x => f x (h.1 x), fun x => g x (h.2 x)⟩
theorem k_t {c d A A' B' : Prop} (hd : d → False) (f : A → A') : A → (c → A') ∧ (d → B') := fun a => ⟨fun _ => f a, fun x => (hd x).elim⟩
theorem k_f {c d B A' B' : Prop} (hc : c → False) (g : B → B') : B → (c → A') ∧ (d → B') := fun b => ⟨fun x => (hc x).elim, fun _ => g b⟩
theorem k_fs {c T A' R : Prop} (hc : c → False) (g : T → R) : T → (c → A') ∧ R := fun b => ⟨fun x => (hc x).elim, g b⟩
theorem k_s {c A A' R : Prop} (r : R) (f : A → A') : A → (c → A') ∧ R := fun a => ⟨fun _ => f a, r⟩
theorem k_g {c A A' B R : Prop} (f : A → A') (g : B → R) : (c → A) ∧ B → (c → A') ∧ R := fun h => ⟨fun x => f (h.1 x), g h.2⟩
theorem k_x {A B : Nat → Prop} (f : ∀ n, A n → B n) : (∃ n, A n) → ∃ n, B n := fun h => h.elim (fun n a => ⟨n, f n a⟩)
theorem k_o0 {A B : Prop} (f : A → B) : A → ((0 : Int) = 0 ∨ (0 : Int) = 1) ∧ B := fun a => ⟨Or.inl rfl, f a⟩
theorem k_o1 {A B : Prop} (f : A → B) : A → ((1 : Int) = 0 ∨ (1 : Int) = 1) ∧ B := fun a => ⟨Or.inr rfl, f a⟩
theorem k_d {c : Prop} [Decidable c] (h : decide c = false) : c → False := fun x => by rw [decide_eq_true x] at h; cases h
theorem k_d0 : (0 : Int) ≠ 0 → False := fun h => h rfl
theorem k_d1 : (1 : Int) = 0 → False := by decide
theorem k_wn {x : Int} (h : (decide (-2147483648 ≤ x) && decide (x < 2147483648)) = true) : w_n x := by simpa [w_n] using h
theorem k_p {c : Prop} [Decidable c] (h : decide c = true) : c := of_decide_eq_true h
theorem k_noeq {x y : Int} (h : x = y) : x ≠ y → False := fun k => k h
theorem k_none {x y : Int} (h : x ≠ y) : x = y → False := fun k => h k
theorem k_nolt {x y : Int} (h : x < y) : y ≤ x → False := fun k => by omega
theorem k_noge {x y : Int} (h : y ≤ x) : x < y → False := fun k => by omega
theorem k_nogt {x y : Int} (h : y < x) : x ≤ y → False := fun k => by omega
theorem k_nole {x y : Int} (h : x ≤ y) : y < x → False := fun k => by omega
theorem k_w {A : Prop} {T : w_T} {e : w_E} {B : Nat} {m : Bool → rm_M} {pc : Nat} {ls : w_L} {st : List w_V} {S : w_S} {Q : Option w_V → w_S → Prop} (hT : w_TU T) (ct : Nat → Option (List Nat)) (f : A → w_vc (pg_G e.1 e.2.1 e.2.2) pg_fin (pg_pr e.1) T pg_Bs B (m e.1) ct Q 400 pc ls st S) (h : A) : X T e B m pc ls st S Q := w_vc_ok (ct := ct) hT 400 pc _ _ _ (f h)
theorem k_i {A : Prop} {T : w_T} {z : Bool} {L : Nat} {xs : Nat → Int32} {B : Nat} {M : rm_M} {ls : w_L} {S : w_S} {Q : Option w_V → w_S → Prop} (hT : w_TU T) (ct : Nat → Option (List Nat)) (f : A → w_vc (pg_G z L xs) pg_fin (pg_pr z) T pg_Bs B M ct Q 400 0 ls [] S) : A → WP (pg_G z L xs) pg_fin (pg_pr z) T pg_Bs B M 0 ls [] S Q := fun a => w_vc_ok (ct := ct) hT 400 0 _ _ _ (f a)
theorem k_r {A F : Prop} {T : w_T} {P : Int → Prop} {v : Int} {S : w_S} (f : A → P v) : A → ∃ y : Int, (some (Sum.inl v) : Option w_V) = some (Sum.inl y) ∧ (w_n y → w_Q T S → F → P y) := fun a => ⟨v, rfl, fun _ _ _ => f a⟩
theorem k_rl {A F : Prop} {T : w_T} {P : Int → Prop} {v : Int} {S : w_S} (f : A → P v) : A → ∃ y : Int, (some (Sum.inr (Sum.inr (Sum.inr v))) : Option w_V) = some (Sum.inr (Sum.inr (Sum.inr y))) ∧ (w_n64 y → w_Q T S → F → P y) := fun a => ⟨v, rfl, fun _ _ _ => f a⟩
theorem k_rv {A F P : Prop} {T : w_T} {S : w_S} (f : A → P) : A → (none : Option w_V) = none ∧ (w_Q T S → F → P) := fun a => ⟨rfl, fun _ _ => f a⟩
theorem k_ci {T : w_T} {e : w_E} {B : Nat} {m : Bool → rm_M} {ls : w_L} {S : w_S} {K K2 : Int → w_S → Prop} (f : ∀ y S1, K y S1 → K2 y S1) : Xi T e B m ls S K → WP (pg_G e.1 e.2.1 e.2.2) pg_fin (pg_pr e.1) T pg_Bs B (m e.1) 0 ls [] S (fun r S' => ∃ y, r = some (Sum.inl y) ∧ (w_n y → w_Q T S' → w_fr T B S S' → K2 y S')) := fun h => WP.mono h (fun r S' hr => hr.elim (fun y q => ⟨y, q.1, fun a b c => f y S' (q.2 a b c)⟩))
theorem k_cl {T : w_T} {e : w_E} {B : Nat} {m : Bool → rm_M} {ls : w_L} {S : w_S} {K K2 : Int → w_S → Prop} (f : ∀ y S1, K y S1 → K2 y S1) : Xl T e B m ls S K → WP (pg_G e.1 e.2.1 e.2.2) pg_fin (pg_pr e.1) T pg_Bs B (m e.1) 0 ls [] S (fun r S' => ∃ y, r = some (Sum.inr (Sum.inr (Sum.inr y))) ∧ (w_n64 y → w_Q T S' → w_fr T B S S' → K2 y S')) := fun h => WP.mono h (fun r S' hr => hr.elim (fun y q => ⟨y, q.1, fun a b c => f y S' (q.2 a b c)⟩))
theorem k_cv {T : w_T} {e : w_E} {B : Nat} {m : Bool → rm_M} {ls : w_L} {S : w_S} {K K2 : w_S → Prop} (f : ∀ S1, K S1 → K2 S1) : Xv T e B m ls S K → WP (pg_G e.1 e.2.1 e.2.2) pg_fin (pg_pr e.1) T pg_Bs B (m e.1) 0 ls [] S (fun r S' => r = none ∧ (w_Q T S' → w_fr T B S S' → K2 S')) := fun h => WP.mono h (fun r S' q => ⟨q.1, fun b c => f S' (q.2 b c)⟩)
def w_nb (x : Int) : Bool := decide (-2147483648 ≤ x) && decide (x < 2147483648)
def w_ib (x n : Int) : Bool := decide (0 ≤ x) && decide (x < n)
theorem w_nbE (x : Int) : (w_nb x = true) = (-2147483648 ≤ x ∧ x < 2147483648) := by simp [w_nb]
theorem w_ibE (x n : Int) : (w_ib x n = true) = (0 ≤ x ∧ x < n) := by simp [w_ib]
/-- how long an array is, if it is of that sort -/
def e_len (T : w_T) (S : w_S) (a t : Nat) : Option Nat := match w_a T S a with
  | some (u, n) => if u = t then some n else none
  | none => none
def e_any (T : w_T) (S : w_S) (a : Nat) : Option Nat := match w_a T S a with
  | some (u, n) => if u < 3 then some n else none
  | none => none
def e_two (T : w_T) (S : w_S) (a0 a : Nat) : Option (Nat × Nat) := match w_a T S a0, w_a T S a with
  | some (u, n), some (u', n') => if u < 2 ∧ u' = u then some (n, n') else none
  | _, _ => none
abbrev e_R : Type := Option (Int × w_S)
def e_sw (x lo : Int) (ts : List e_R) (d : e_R) : e_R := match x - lo with
  | .ofNat k => ts.getD k d
  | .negSucc _ => d
theorem e_ap {A B : Prop} (a : A) (f : A → B) : B := f a
theorem e_swj {x c lo : Int} {ts : List e_R} {d rv : e_R} (hx : x = c) (h : e_sw x lo ts d = rv) : e_sw c lo ts d = rv := by rw [← hx]; exact h
theorem e_swd {x lo hi : Int} {ts : List e_R} {d rv : e_R} (hl : lo + ts.length = hi + 1) (hx : x < lo ∨ hi < x) (h : e_sw x lo ts d = rv) : d = rv := by
  unfold e_sw at h
  split at h
  next k hk =>
    have hk : x - lo = (k : Int) := hk
    rw [List.getD_eq_getElem?_getD, List.getElem?_eq_none (by omega)] at h
    exact h
  next => exact h
theorem e_a {p : Prop} [Decidable p] {B : Prop} {t : e_R} {rv : Int × w_S} (f : p → t = some rv → B) : (if p then t else none) = some rv → p ∧ B := by
  intro h
  by_cases hp : p
  · rw [if_pos hp] at h
    exact ⟨hp, f hp h⟩
  · rw [if_neg hp] at h
    cases h
theorem e_an {x : Int} {B : Prop} {t : e_R} {rv : Int × w_S} (f : w_n x → t = some rv → B) : (if w_nb x = true then t else none) = some rv → w_n x ∧ B := by
  intro h
  by_cases hp : w_nb x = true
  · rw [if_pos hp] at h
    rw [w_nbE] at hp
    exact ⟨hp, f hp h⟩
  · rw [if_neg hp] at h
    cases h
theorem e_ai {x n : Int} {B : Prop} {t : e_R} {rv : Int × w_S} (f : 0 ≤ x → x < n → t = some rv → B) : (if w_ib x n = true then t else none) = some rv → 0 ≤ x ∧ x < n ∧ B := by
  intro h
  by_cases hp : w_ib x n = true
  · rw [if_pos hp] at h
    rw [w_ibE] at hp
    exact ⟨hp.1, hp.2, f hp.1 hp.2 h⟩
  · rw [if_neg hp] at h
    cases h
theorem e_b {c d : Prop} [Decidable c] {A B : Prop} {t u : e_R} {rv : Int × w_S} (hd : d → ¬ c) (f : c → t = some rv → A) (g : d → u = some rv → B) : (if c then t else u) = some rv → (c → A) ∧ (d → B) := fun h => ⟨fun x => f x (by rw [if_pos x] at h; exact h), fun x => g x (by rw [if_neg (hd x)] at h; exact h)⟩
theorem e_no {P : Prop} {rv : Int × w_S} : (none : e_R) = some rv → P := fun h => by cases h
theorem e_q {Q : Option w_V → w_S → Prop} {v v' : Int} {S S' : w_S} (hq : Q (some (w_i v)) S') : (some (v', S) : e_R) = some (v, S') → Q (some (w_i v')) S := fun h => by cases h; exact hq
theorem e_ql {Q : Option w_V → w_S → Prop} {v v' : Int} {S S' : w_S} (hq : Q (some (w_l v)) S') : (some (v', S) : e_R) = some (v, S') → Q (some (w_l v')) S := fun h => by cases h; exact hq
theorem e_qv {Q : Option w_V → w_S → Prop} {v v' : Int} {S S' : w_S} (hq : Q none S') : (some (v', S) : e_R) = some (v, S') → Q none S := fun h => by cases h; exact hq
theorem e_x {T : w_T} {S : w_S} {a t : Nat} {f : Nat → e_R} {P : Nat → Prop} {rv : Int × w_S} (hf : ∀ n, f n = some rv → P n) : (e_len T S a t).bind f = some rv → ∃ n, w_a T S a = some (t, n) ∧ P n := by
  intro h
  unfold e_len at h
  cases hw : w_a T S a with
  | none => rw [hw] at h; cases h
  | some q =>
    obtain ⟨u, n⟩ := q
    rw [hw] at h
    dsimp only at h
    by_cases hu : u = t
    · rw [if_pos hu] at h
      exact ⟨n, by rw [hu], hf n h⟩
    · rw [if_neg hu] at h
      cases h
theorem e_xs {T : w_T} {B : Nat} {S : w_S} {a t : Nat} {f : Nat → e_R} {P : Nat → Prop} {rv : Int × w_S} (hf : ∀ n, f n = some rv → P n) : (if w_frb T B a = false then (e_len T S a t).bind f else none) = some rv → ∃ n, w_frb T B a = false ∧ w_a T S a = some (t, n) ∧ P n := by
  intro h
  by_cases hb : w_frb T B a = false
  · rw [if_pos hb] at h
    obtain ⟨n, h1, h2⟩ := e_x hf h
    exact ⟨n, hb, h1, h2⟩
  · rw [if_neg hb] at h
    cases h
theorem e_xa {T : w_T} {S : w_S} {a : Nat} {f : Nat → e_R} {P : Nat → Prop} {rv : Int × w_S} (hf : ∀ n, f n = some rv → P n) : (e_any T S a).bind f = some rv → ∃ t n, w_a T S a = some (t, n) ∧ t < 3 ∧ P n := by
  intro h
  unfold e_any at h
  cases hw : w_a T S a with
  | none => rw [hw] at h; cases h
  | some q =>
    obtain ⟨u, n⟩ := q
    rw [hw] at h
    dsimp only at h
    by_cases hu : u < 3
    · rw [if_pos hu] at h
      exact ⟨u, n, rfl, hu, hf n h⟩
    · rw [if_neg hu] at h
      cases h
theorem e_xc {T : w_T} {B : Nat} {S : w_S} {a0 a : Nat} {f : Nat × Nat → e_R} {P : Nat → Nat → Prop} {rv : Int × w_S} (hf : ∀ q, f q = some rv → P q.1 q.2) : (if w_frb T B a = false then (e_two T S a0 a).bind f else none) = some rv → ∃ t n0 n1, w_frb T B a = false ∧ t < 2 ∧ w_a T S a0 = some (t, n0) ∧ w_a T S a = some (t, n1) ∧ P n0 n1 := by
  intro h
  by_cases hb : w_frb T B a = false
  · rw [if_pos hb] at h
    unfold e_two at h
    cases h0 : w_a T S a0 with
    | none => rw [h0] at h; cases h
    | some q =>
      cases h1 : w_a T S a with
      | none => rw [h0, h1] at h; cases h
      | some q' =>
        obtain ⟨u, n⟩ := q
        obtain ⟨u', n'⟩ := q'
        rw [h0, h1] at h
        dsimp only at h
        by_cases hu : u < 2 ∧ u' = u
        · rw [if_pos hu] at h
          exact ⟨u, n, n', hb, hu.1, rfl, by rw [hu.2], hf (n, n') h⟩
        · rw [if_neg hu] at h
          cases h
  · rw [if_neg hb] at h
    cases h
theorem e_ci {T : w_T} {e : w_E} {B : Nat} {m : Bool → rm_M} {ls : w_L} {S : w_S} {E : e_R} {f : Int × w_S → e_R} {rv : Int × w_S} {K : Int → w_S → Prop} (hz : ∀ (v : Int) (S' : w_S) (Q : Option w_V → w_S → Prop), E = some (v, S') → Q (some (w_i v)) S' → X T e B m 0 ls [] S Q) (hf : ∀ q, f q = some rv → K q.1 q.2) : E.bind f = some rv → WP (pg_G e.1 e.2.1 e.2.2) pg_fin (pg_pr e.1) T pg_Bs B (m e.1) 0 ls [] S (fun r S' => ∃ y, r = some (Sum.inl y) ∧ (w_n y → w_Q T S' → w_fr T B S S' → K y S')) := by
  intro h
  cases hE : E with
  | none => rw [hE] at h; cases h
  | some q =>
    rw [hE] at h
    exact hz q.1 q.2 _ hE ⟨q.1, rfl, fun _ _ _ => hf q h⟩
theorem e_cl {T : w_T} {e : w_E} {B : Nat} {m : Bool → rm_M} {ls : w_L} {S : w_S} {E : e_R} {f : Int × w_S → e_R} {rv : Int × w_S} {K : Int → w_S → Prop} (hz : ∀ (v : Int) (S' : w_S) (Q : Option w_V → w_S → Prop), E = some (v, S') → Q (some (w_l v)) S' → X T e B m 0 ls [] S Q) (hf : ∀ q, f q = some rv → K q.1 q.2) : E.bind f = some rv → WP (pg_G e.1 e.2.1 e.2.2) pg_fin (pg_pr e.1) T pg_Bs B (m e.1) 0 ls [] S (fun r S' => ∃ y, r = some (Sum.inr (Sum.inr (Sum.inr y))) ∧ (w_n64 y → w_Q T S' → w_fr T B S S' → K y S')) := by
  intro h
  cases hE : E with
  | none => rw [hE] at h; cases h
  | some q =>
    rw [hE] at h
    exact hz q.1 q.2 _ hE ⟨q.1, rfl, fun _ _ _ => hf q h⟩
theorem e_cv {T : w_T} {e : w_E} {B : Nat} {m : Bool → rm_M} {ls : w_L} {S : w_S} {E : e_R} {f : Int × w_S → e_R} {rv : Int × w_S} {K : w_S → Prop} (hz : ∀ (v : Int) (S' : w_S) (Q : Option w_V → w_S → Prop), E = some (v, S') → Q none S' → X T e B m 0 ls [] S Q) (hf : ∀ q, f q = some rv → K q.2) : E.bind f = some rv → WP (pg_G e.1 e.2.1 e.2.2) pg_fin (pg_pr e.1) T pg_Bs B (m e.1) 0 ls [] S (fun r S' => r = none ∧ (w_Q T S' → w_fr T B S S' → K S')) := by
  intro h
  cases hE : E with
  | none => rw [hE] at h; cases h
  | some q =>
    rw [hE] at h
    exact hz q.1 q.2 _ hE ⟨rfl, fun _ _ => hf q h⟩
