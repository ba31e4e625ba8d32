def rm_PmOk (G : rm_G) (pr : Nat → Option rm_M) (own : String) (pl : Nat → Option rm_P) : Prop :=
  (∀ idx j b z, pl idx = some (2, j, b, z) → ∀ M, pr j = some M → Cond.methodLink own idx (rm_my M) ∈ rm_TW G) ∧
  (∀ idx j b z, pl idx = some (3, j, b, z) → ∀ M, pr j = some M → (own, idx, rm_my M) ∈ rm_nl G) ∧
  (∀ idx a b z, pl idx = some (11, a, b, z) → Cond.methodLink own idx Lib.objectInit ∈ rm_TW G ∧ Cond.instanceMethod Lib.objectInit ∈ rm_TW G ∧ Cond.code Lib.objectInit ⟨#[0xb1]⟩ 1 none ∈ rm_TW G) ∧
  (∀ idx a b z, pl idx = some (12, a, b, z) → Cond.methodLink own idx arraycopyName ∈ rm_TW G ∧ Cond.native arraycopyName ∈ rm_TW G ∧ Cond.static arraycopyName ∈ rm_TW G ∧ Cond.initialized "java/lang/System" ∈ rm_TW G) ∧
  (∀ idx a b z, pl idx = some (17, a, b, z) → Cond.methodLink own idx Lib.Math.max.name ∈ rm_TW G ∧ Cond.static Lib.Math.max.name ∈ rm_TW G ∧ Cond.initialized "java/lang/Math" ∈ rm_TW G ∧ Cond.code Lib.Math.max.name Lib.Math.max.code 2 (some .int) ∈ rm_TW G) ∧
  (∀ idx a b z, pl idx = some (18, a, b, z) → Cond.methodLink own idx Lib.Math.min.name ∈ rm_TW G ∧ Cond.static Lib.Math.min.name ∈ rm_TW G ∧ Cond.initialized "java/lang/Math" ∈ rm_TW G ∧ Cond.code Lib.Math.min.name Lib.Math.min.code 2 (some .int) ∈ rm_TW G)
def rm_MOk (G : rm_G) (pr : Nat → Option rm_M) (M : rm_M) : Prop :=
  plainName (rm_my M).cls = true ∧ rm_mo M = (rm_my M).cls ∧ rm_PlOk G (rm_mo M) (rm_mp M) ∧ rm_PmOk G pr (rm_mo M) (rm_mp M) ∧ (∀ pc ins, rm_mb M pc = some ins → rm_dec (rm_mc M) pc ins) ∧ Cond.code (rm_my M) (rm_mc M) (rm_mx M) (rm_mr M) ∈ rm_TW G ∧
  ((rm_my M).cls ≠ "java/lang/invoke/MethodHandle" ∧ (rm_my M).cls ≠ "java/lang/invoke/VarHandle" ∧ (parseMethodDescriptor (rm_my M).desc).map (fun d => d.parameters.length) = some (rm_mn M)) ∧ Cond.initialized (rm_my M).cls ∈ rm_TW G ∧
  (rm_mk M = 0 → Cond.instanceMethod (rm_my M) ∈ rm_TW G ∧ Cond.selects (rm_my M).cls (rm_my M) (rm_my M) ∈ rm_TW G ∧ (if rm_mi M = rm_Str then (rm_my M).cls = "java/lang/String" else ∃ T N, (rm_cl G)[rm_mi M]? = some ((rm_my M).cls, T, N))) ∧
  (rm_mk M = 1 → Cond.static (rm_my M) ∈ rm_TW G) ∧
  (rm_mk M = 2 → Cond.instanceMethod (rm_my M) ∈ rm_TW G ∧ (rm_my M).name = "<init>" ∧ rm_mr M = none ∧ ∃ T N, (rm_cl G)[rm_mi M]? = some ((rm_my M).cls, T, N))
def rm_BOk (G : rm_G) (pr : Nat → Option rm_M) (M : rm_M) : Prop := rm_PmOk G pr (rm_mo M) (rm_mp M) ∧ ∀ pc ins, rm_mb M pc = some ins → rm_dec (rm_mc M) pc ins
def rm_PrOk (G : rm_G) (fin : Nat → Nat → Bool) (pr : Nat → Option rm_M) : Prop :=
  (∀ j M, pr j = some M → rm_MOk G pr M) ∧ rm_ClOk G ∧ rm_ArOk G ∧ (∀ ci C T N k, (rm_cl G)[ci]? = some (C, T, N) → k < N → fin ci k = (T k).2.2.2) ∧ (∀ w ∈ rm_TW G, goodWord w = true)
def rm_Sound (G : rm_G) (fin : Nat → Nat → Bool) (pr : Nat → Option rm_M) (l : Launch) (n : Nat) : Prop :=
  ∀ (M : rm_M) (pc : Nat) (ls : rm_L) (st : List Value) (h : rm_H) (v : Option Value) (h' : rm_H) (c1 d1 : Nat), rm_run G fin pr n M pc ls st h = some (v, h', c1, d1) → rm_BOk G pr M →
  ∀ (p : Program) (e : Env) (R : Room) (s : State) (m : MethodId) (args : Array Value) (below : List Frame) (meth : Method) (c : Code) (H : Heap) (locs : List Loc) (cells slots : Nat) (Q : State → Prop) (arr : Array Slot) (D : va_G) (ad : Nat → Nat) (tc : Nat → ClassId) (base : Nat),
  rm_Cx G D ad tc base fin (rm_iM M) (rm_mp M) (rm_mo M) p s m args meth c (rm_mc M) → rm_mf M ≤ R.frames → rm_ml M ≤ R.locals → c.maxLocals = rm_mx M → lv_has arr (rm_mx M) (rm_vl ad ls) → rm_Ok G D ad tc base h s H locs → cells + c1 ≤ R.cells ∧ slots + d1 ≤ R.slots →
  (∀ (pcR : Nat) (ins : Instr) (arr' : Array Slot) (stR : List Value) (H1 : Heap) (locs1 : List Loc), rm_mb M pcR = some ins → rm_s5 M ins stR = some v → rm_Ok G D ad tc base h' s H1 locs1 → W p l e R s m args below meth c H1 locs1 (cells + c1) (slots + d1) Q (F0 m pcR arr' (stR.map (rm_v ad)))) →
  W p l e R s m args below meth c H locs cells slots Q (F0 m pc arr (st.map (rm_v ad)))
def rm_Pc (G : rm_G) (D : va_G) (ad : Nat → Nat) (tc : Nat → ClassId) (base : Nat) (as : List Value) (h : rm_H) : Array Value → State → Prop := fun v U =>
  v = (as.map (rm_v ad)).toArray ∧ va_P D (rm_cl G) (rm_W ad tc h) U.heap ∧ U.heap.size = base + h.length ∧ h.length ≤ rm_K ∧ va_K D (rm_cl G) (rm_T tc) U ∧ rm_Env G ad (rm_A base) U U.heap
def rm_Qc (G : rm_G) (D : va_G) (ad : Nat → Nat) (tc : Nat → ClassId) (base : Nat) (v : Option Value) (h : rm_H) : Array Value → State → Outcome → State → Prop := fun _ st o t =>
  o = .returned (v.map (rm_v ad)) ∧ va_P D (rm_cl G) (rm_W ad tc h) t.heap ∧ t.heap.size = base + h.length ∧ h.length ≤ rm_K ∧ va_F (rm_A base) st t
theorem rm_Pc_blind (G : rm_G) (D : va_G) (ad : Nat → Nat) (tc : Nat → ClassId) (base : Nat) (as : List Value) (h : rm_H) : FrameBlind (rm_Pc G D ad tc base as h) := by
  intro a U g mk q
  obtain ⟨q0, q1, q2, q3, q4, q5⟩ := q
  exact ⟨q0, q1, q2, q3, va_K.moved (u := U) (U := U.calling g mk a) (Vm.Alike.refl U.vm) q4, q5.same (U := U.calling g mk a) rfl⟩
theorem rm_args_vl (ad : Nat → Nat) : ∀ (as : List Value) (i : Nat), lv_args i (as.map (rm_v ad)) = rm_vl ad (lv_args i as)
  | [], _ => rfl
  | v :: as, i => by
    show (i, rm_v ad v) :: lv_args _ (as.map (rm_v ad)) = (i, rm_v ad v) :: rm_vl ad (lv_args _ as)
    rw [rm_v_cat, rm_args_vl ad as]
theorem rm_sl_len (ad : Nat → Nat) : ∀ (as : List Value), (lg_sl (as.map (rm_v ad))).length = (lg_sl as).length
  | [] => rfl
  | v :: as => by
    have ih := rm_sl_len ad as
    unfold lg_sl at ih ⊢
    rw [List.map_cons, List.flatMap_cons, List.flatMap_cons, List.length_append, List.length_append, ih, rm_v_cat]
    congr 1
    split <;> rfl
theorem rm_cat_map (ad : Nat → Nat) (st : List Value) : ((st.map (rm_v ad)).map fun v => v.category).sum = rm_cat st := by
  unfold rm_cat
  rw [List.map_map]
  congr 2
  funext v
  exact rm_v_cat ad v
theorem rm_met {G : rm_G} {fin : Nat → Nat → Bool} {pr : Nat → Option rm_M} {l : Launch} {n : Nat} (hpr : rm_PrOk G fin pr) (ih : rm_Sound G fin pr l n) {M : rm_M} (hM : rm_MOk G pr M) {as : List Value} (hw : (lg_sl as).length ≤ rm_mx M) {h h' : rm_H} {v : Option Value} {c1 d1 : Nat} (hrun : rm_run G fin pr n M 0 (lv_args 0 as) [] h = some (v, h', c1, d1))
    {D : va_G} {ad : Nat → Nat} {tc : Nat → ClassId} {base : Nat} (had : ∀ k, k < rm_K → ad k = base + k) :
    Met l (rm_my M) (Cond.code (rm_my M) (rm_mc M) (rm_mx M) (rm_mr M) :: rm_TW G) { frames := rm_mf M, cells := c1, slots := d1, locals := rm_ml M } (rm_Pc G D ad tc base as h) (rm_Qc G D ad tc base v h') c1 d1 (rm_A base) := by
  obtain ⟨m1, m2, m3, m4, m5, m6, m7, m8, m9, m10, m11⟩ := id hM
  refine Met.ofW (cc := rm_mc M) (maxL := rm_mx M) (ret := rm_mr M) m1 rfl ?_
  intro p e s m args below meth c s₁ B hml hv
  obtain ⟨rfl, hP, hsz, hlK, hK, hE⟩ := hv
  have hx := B.exec
  have hb := B.bytes
  have hr := B.returns
  have hts := atoms_spec (ws := Cond.code (rm_my M) (rm_mc M) (rm_mx M) (rm_mr M) :: rm_TW G) B.pre
  have hown : s.vm.findClass (rm_my M).cls = some m.cls := findClass_of_methodNamed B.named
  have hlocks := B.notSynchronized
  have hnm : meth.name = (rm_my M).name := (name_of_methodNamed B.named B.method).1
  have hl := lv_entry (as.map (rm_v ad)) (n := rm_mx M) (by rw [rm_sl_len]; exact hw)
  rw [rm_args_vl] at hl
  rw [lg_entry_eq]
  generalize (lg_sl (as.map (rm_v ad)) ++ List.replicate (rm_mx M - (lg_sl (as.map (rm_v ad))).length) Slot.unset).toArray = arr at hl ⊢
  have X : rm_Cx G D ad tc base fin (rm_iM M) (rm_mp M) (rm_mo M) p s m (as.map (rm_v ad)).toArray meth c (rm_mc M) := by
    refine ⟨hx, hb, fun w h => hts w (List.mem_cons_of_mem _ h), by rw [m2]; exact hown, hpr.2.1, m3, hpr.2.2.2.1, fun ci hci => ?_, hK, had, by rw [hsz]; omega, hE, hpr.2.2.1⟩
    unfold rm_iM at hci
    split at hci
    next hk2 =>
      cases hci
      obtain ⟨-, b2, -, b4⟩ := m11 hk2
      exact ⟨by rw [hnm]; exact b2, by rw [m2]; exact b4⟩
    next => cases hci
  have okk : rm_Ok G D ad tc base h s s.heap [] := ⟨hP, hsz, hlK, va_S.rf⟩
  refine ih M 0 (lv_args 0 as) [] h v h' c1 d1 hrun ⟨m4, m5⟩ p e _ s m _ below meth c s.heap [] 0 0 _ arr D ad tc base X (Nat.le_refl _) (Nat.le_refl _) hml hl okk ⟨by rw [Nat.zero_add]; exact Nat.le_refl _, by rw [Nat.zero_add]; exact Nat.le_refl _⟩ ?_
  intro pcR ins arr' stR H1 locs1 hbd h5 ok1
  rw [Nat.zero_add, Nat.zero_add]
  have hd := m5 pcR ins hbd
  obtain ⟨o1, o2, o3, o4⟩ := ok1
  have hq : ∀ (t : State), t.heap = H1 → rm_Qc G D ad tc base v h' (as.map (rm_v ad)).toArray s (.returned (v.map (rm_v ad))) t := fun t ht => ⟨rfl, by rw [ht]; exact o1, by rw [ht]; exact o2, o3, o4.F ht⟩
  unfold rm_s5 at h5
  split at h5
  next =>
    split at h5
    next =>
      split at h5
      next hn =>
        cases h5
        exact W.vret hx hb (hr.trans hn) (fun t ht _ => hq t ht) o4.2.2 (hd.at rfl (by decide))
      next => cases h5
    next => cases h5
  next =>
    split at h5
    next y =>
      split at h5
      next ty hty =>
        split at h5
        next hnr =>
          cases h5
          exact W.zret hx hb (hr.trans hty) hnr (fun t ht _ => hq t ht) o4.2.2 (hd.at rfl (by decide))
        next => cases h5
      next => cases h5
    next => cases h5
  next =>
    split at h5
    next y =>
      split at h5
      next hn =>
        cases h5
        exact W.lret hx hb (hr.trans hn) (fun t ht _ => hq t ht) o4.2.2 (hd.at rfl (by decide))
      next => cases h5
    next => cases h5
  next => cases h5
