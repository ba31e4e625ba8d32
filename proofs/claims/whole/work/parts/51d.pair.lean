/-- the law's state and both sides' -/
def Cb (U S R : w_S) : Prop := (∀ a, a < 129 → U.1 a = S.1 a) ∧ (∀ a, 129 ≤ a → U.1 a = R.1 a) ∧ U.2 = R.2
/-- the law's state, while both agree -/
def LI (V : Nat → w_S → w_S → Prop) (i : Nat) (U : w_S) : Prop := ∃ S R, Cb U S R ∧ V i S R
/-- one call of the law: the class answers, then the reference -/
theorem law_pair {V : Nat → w_S → w_S → Prop} (hV : ∀ i S R z, V i S R → V i (S.1, z) R) (hD : ∀ i S R, V i S R → ∀ a, a < 129 → R.2.2.1 a = none) {e : w_E} {BC BR : Nat} {mC mR : Bool → rm_M} {lsC lsR : w_L} {i : Nat} {U : w_S} {EC ER : w_S → e_R} (hBC : BC < 2 ^ 129) (hBR : ∀ a, a < 129 → Nat.testBit BR a = false) (hBR2 : Nat.testBit BR 302 = false) (zC : ∀ (S : w_S) (v : Int) (S' : w_S) (Q : Option w_V → w_S → Prop), EC S = some (v, S') → Q (some (w_i v)) S' → X Tc e BC mC 0 lsC [] S Q) (zR : ∀ (R : w_S) (v : Int) (R' : w_S) (Q : Option w_V → w_S → Prop), ER R = some (v, R') → Q (some (w_i v)) R' → X Tr e BR mR 0 lsR [] R Q) (tan : ∀ S R, V i S R → ∃ y S1 R1, EC S = some (y, S1) ∧ ER R = some (y, R1) ∧ V (i + 1) S1 R1) (hU : LI V i U) {K : Int → Int → w_S → Prop} (hK : ∀ y U2, LI V (i + 1) U2 → K y y U2) : Xi Ta e BC mC lsC U (fun y U1 => Xi Ta e BR mR lsR U1 (fun y' U2 => K y y' U2)) := by
  obtain ⟨S, R, ⟨c1, c2, c3⟩, hv⟩ := hU
  have hv1 := hV i S R (U.2.1, (fun _ => none), U.2.2.2) hv
  obtain ⟨y, S1, R1, e1, e2, hv2⟩ := tan _ R hv1
  have dR := hD i S R hv
  have b1 := brg_c (e := e) (m := mC) (ls := lsC) (U := U) hBC (fun a ha => by rw [c3]; exact dR a ha) c1 (zC _ y S1 (fun r S' => r = some (w_i y) ∧ S' = S1) e1 ⟨rfl, rfl⟩)
  refine WP.mono b1 (fun r U1 hh => ?_)
  obtain ⟨S', ⟨rfl, rfl⟩, u1, u2, u3⟩ := hh
  refine ⟨y, rfl, fun _ _ _ => ?_⟩
  have b2 := brg_r (e := e) (m := mR) (ls := lsR) (U := U1) (R := R) hBR hBR2 dR (fun a ha => by rw [u2 a ha]; exact c2 a ha) (by rw [u3]; exact c3) (fun r R' hq => by
    obtain ⟨_, rfl⟩ := hq
    exact hD _ _ _ hv2) (zR R y R1 (fun r R' => r = some (w_i y) ∧ R' = R1) e2 ⟨rfl, rfl⟩)
  refine WP.mono b2 (fun r U2 hh => ?_)
  obtain ⟨R', ⟨rfl, rfl⟩, w1, w2, w3⟩ := hh
  exact ⟨y, rfl, fun _ _ _ => hK y U2 ⟨S', R', ⟨fun a ha => by rw [w2 a ha]; exact u1 a ha, w1, w3⟩, hv2⟩⟩
