section RMA
variable {p : Program} {l : Launch} {e : Env} {R : Room} {s : State} {m : MethodId} {args : Array Value} {below : List Frame} {meth : Method} {c : Code} {H : Heap} {locs : List Loc} {cells slots : Nat} {Q : State → Prop}
variable {cc : ByteArray} {ad : Nat → Nat} {mx pc : Nat} {ls : rm_L} {st : List Value} {arr : Array Slot} {x : Nat × rm_L × List Value}
def rm_Wk (p : Program) (l : Launch) (e : Env) (R : Room) (s : State) (m : MethodId) (args : Array Value) (below : List Frame) (meth : Method) (c : Code) (H : Heap) (locs : List Loc) (cells slots : Nat) (Q : State → Prop) (ad : Nat → Nat) (mx : Nat) (x : Nat × rm_L × List Value) : Prop :=
  ∀ arr : Array Slot, lv_has arr mx (rm_vl ad x.2.1) → W p l e R s m args below meth c H locs cells slots Q (F0 m x.1 arr (x.2.2.map (rm_v ad)))
theorem rm_ld_ok (hl : lv_has arr mx (rm_vl ad ls)) {d i k : Nat} (h : rm_ld pc d ls st i k = some x)
    (hi : k = 0 → ∀ y : Int32, arr[i]? = some (.val (.int y)) → W p l e R s m args below meth c H locs cells slots Q (F0 m (pc + d) arr (.int y :: st.map (rm_v ad))) → W p l e R s m args below meth c H locs cells slots Q (F0 m pc arr (st.map (rm_v ad))))
    (hj : k = 1 → ∀ y : Int64, arr[i]? = some (.val (.long y)) → W p l e R s m args below meth c H locs cells slots Q (F0 m (pc + d) arr (.long y :: st.map (rm_v ad))) → W p l e R s m args below meth c H locs cells slots Q (F0 m pc arr (st.map (rm_v ad))))
    (hr : k = 2 → ∀ y : Nat, arr[i]? = some (.val (.ref y)) → W p l e R s m args below meth c H locs cells slots Q (F0 m (pc + d) arr (.ref y :: st.map (rm_v ad))) → W p l e R s m args below meth c H locs cells slots Q (F0 m pc arr (st.map (rm_v ad))))
    (kk : rm_Wk p l e R s m args below meth c H locs cells slots Q ad mx x) : W p l e R s m args below meth c H locs cells slots Q (F0 m pc arr (st.map (rm_v ad))) := by
  unfold rm_ld at h
  split at h
  next y hg => cases h; exact hi rfl y (rm_get_has hl hg) (kk arr hl)
  next y hg => cases h; exact hj rfl y (rm_get_has hl hg) (kk arr hl)
  next y hg => cases h; exact hr rfl (ad y) (rm_get_has hl hg) (kk arr hl)
  next => cases h
theorem rm_st_ok (hl : lv_has arr mx (rm_vl ad ls)) {d i k : Nat} (h : rm_st mx pc d ls st i k = some x)
    (hi : k = 0 → ∀ (y : Int32) (r : List Value), i < mx → (∀ arr', lv_has arr' mx (rm_vl ad (rm_set1 ls i (.int y))) → W p l e R s m args below meth c H locs cells slots Q (F0 m (pc + d) arr' r)) → W p l e R s m args below meth c H locs cells slots Q (F0 m pc arr (.int y :: r)))
    (hj : k = 1 → ∀ (y : Int64) (r : List Value), i + 1 < mx → (∀ arr', lv_has arr' mx (rm_vl ad (rm_set2 ls i (.long y))) → W p l e R s m args below meth c H locs cells slots Q (F0 m (pc + d) arr' r)) → W p l e R s m args below meth c H locs cells slots Q (F0 m pc arr (.long y :: r)))
    (hr : k = 2 → ∀ (y : Nat) (r : List Value), i < mx → (∀ arr', lv_has arr' mx (rm_vl ad (rm_set1 ls i (.ref y))) → W p l e R s m args below meth c H locs cells slots Q (F0 m (pc + d) arr' r)) → W p l e R s m args below meth c H locs cells slots Q (F0 m pc arr (.ref (ad y) :: r)))
    (kk : rm_Wk p l e R s m args below meth c H locs cells slots Q ad mx x) : W p l e R s m args below meth c H locs cells slots Q (F0 m pc arr (st.map (rm_v ad))) := by
  unfold rm_st at h
  split at h
  next y r =>
    split at h
    next hlt => cases h; exact hi rfl y _ hlt (fun arr' hl' => kk arr' hl')
    next => cases h
  next y r =>
    split at h
    next hlt => cases h; exact hj rfl y _ hlt (fun arr' hl' => kk arr' hl')
    next => cases h
  next y r =>
    split at h
    next hlt => cases h; exact hr rfl y _ hlt (fun arr' hl' => kk arr' hl')
    next => cases h
  next => cases h
theorem rm_i2_ok {f : Int32 → Int32 → Int32} (hl : lv_has arr mx (rm_vl ad ls)) (h : rm_i2 pc ls st f = some x)
    (hi : ∀ (u v : Int32) (r : List Value), W p l e R s m args below meth c H locs cells slots Q (F0 m (pc + 1) arr (.int (f u v) :: r)) → W p l e R s m args below meth c H locs cells slots Q (F0 m pc arr (.int v :: .int u :: r)))
    (kk : rm_Wk p l e R s m args below meth c H locs cells slots Q ad mx x) : W p l e R s m args below meth c H locs cells slots Q (F0 m pc arr (st.map (rm_v ad))) := by
  unfold rm_i2 at h
  split at h
  next => cases h; exact hi _ _ _ (kk arr hl)
  next => cases h
theorem rm_l2_ok {f : Int64 → Int64 → Int64} (hl : lv_has arr mx (rm_vl ad ls)) (h : rm_l2 pc ls st f = some x)
    (hi : ∀ (u v : Int64) (r : List Value), W p l e R s m args below meth c H locs cells slots Q (F0 m (pc + 1) arr (.long (f u v) :: r)) → W p l e R s m args below meth c H locs cells slots Q (F0 m pc arr (.long v :: .long u :: r)))
    (kk : rm_Wk p l e R s m args below meth c H locs cells slots Q ad mx x) : W p l e R s m args below meth c H locs cells slots Q (F0 m pc arr (st.map (rm_v ad))) := by
  unfold rm_l2 at h
  split at h
  next => cases h; exact hi _ _ _ (kk arr hl)
  next => cases h
theorem rm_if_ok {cd : ClassFile.Cond} {off : Int} {y : Int32} {r : List Value} (hx : p.tables.exec = Jvm.exec) (hb : c.code = cc) (hd : decode cc pc = .ok (.ifCond cd off, 3)) (hl : lv_has arr mx (rm_vl ad ls)) (h : rm_br pc off ls r (rm_cb cd y 0) = some x)
    (kk : rm_Wk p l e R s m args below meth c H locs cells slots Q ad mx x) : W p l e R s m args below meth c H locs cells slots Q (F0 m pc arr (.int y :: r.map (rm_v ad))) := by
  obtain ⟨t, ht, rfl⟩ := rm_br_e h
  have kk := kk arr hl
  cases cd with
  | eq => exact lv_if_eq hx hb hd ht (fun z => by simpa [rm_cb, z] using kk) (fun z => by simpa [rm_cb, z] using kk)
  | ne => exact lv_if_ne hx hb hd ht (fun z => by simpa [rm_cb, z] using kk) (fun z => by simpa [rm_cb, z] using kk)
  | lt => exact lv_if_lt hx hb hd ht (fun z => by simpa [rm_cb, z] using kk) (fun z => by simpa [rm_cb, z] using kk)
  | ge => exact lv_if_ge hx hb hd ht (fun z => by simpa [rm_cb, z] using kk) (fun z => by simpa [rm_cb, z] using kk)
  | gt => exact lv_if_gt hx hb hd ht (fun z => by simpa [rm_cb, z] using kk) (fun z => by simpa [rm_cb, z] using kk)
  | le => exact lv_if_le hx hb hd ht (fun z => by simpa [rm_cb, z] using kk) (fun z => by simpa [rm_cb, z] using kk)
theorem rm_icmp_ok {cd : ClassFile.Cond} {off : Int} {u y : Int32} {r : List Value} (hx : p.tables.exec = Jvm.exec) (hb : c.code = cc) (hd : decode cc pc = .ok (.if_icmp cd off, 3)) (hl : lv_has arr mx (rm_vl ad ls)) (h : rm_br pc off ls r (rm_cb cd u y) = some x)
    (kk : rm_Wk p l e R s m args below meth c H locs cells slots Q ad mx x) : W p l e R s m args below meth c H locs cells slots Q (F0 m pc arr (.int y :: .int u :: r.map (rm_v ad))) := by
  obtain ⟨t, ht, rfl⟩ := rm_br_e h
  have kk := kk arr hl
  cases cd with
  | eq => exact lv_icmp_eq hx hb hd ht (fun z => by simpa [rm_cb, z] using kk) (fun z => by simpa [rm_cb, z] using kk)
  | ne => exact lv_icmp_ne hx hb hd ht (fun z => by simpa [rm_cb, z] using kk) (fun z => by simpa [rm_cb, z] using kk)
  | lt => exact lv_icmp_lt hx hb hd ht (fun z => by simpa [rm_cb, z] using kk) (fun z => by simpa [rm_cb, z] using kk)
  | ge => exact lv_icmp_ge hx hb hd ht (fun z => by simpa [rm_cb, z] using kk) (fun z => by simpa [rm_cb, z] using kk)
  | gt => exact lv_icmp_gt hx hb hd ht (fun z => by simpa [rm_cb, z] using kk) (fun z => by simpa [rm_cb, z] using kk)
  | le => exact lv_icmp_le hx hb hd ht (fun z => by simpa [rm_cb, z] using kk) (fun z => by simpa [rm_cb, z] using kk)
set_option maxHeartbeats 4000000 in
theorem rm_s1_ok {ins : Instr} (hx : p.tables.exec = Jvm.exec) (hb : c.code = cc) (hd : rm_dec cc pc ins) (h : rm_s1 mx ins pc ls st = some x) (hl : lv_has arr mx (rm_vl ad ls))
    (kk : rm_Wk p l e R s m args below meth c H locs cells slots Q ad mx x) : W p l e R s m args below meth c H locs cells slots Q (F0 m pc arr (st.map (rm_v ad))) := by
  unfold rm_s1 at h
  split at h
  next n => cases h; exact lv_iconst hx hb (hd.at rfl (by decide)) rfl (kk arr hl)
  next n => cases h; exact lv_bipush hx hb (hd.at rfl (by decide)) rfl (kk arr hl)
  next n => cases h; exact lv_sipush hx hb (hd.at rfl (by decide)) rfl (kk arr hl)
  next n => cases h; exact lv_lconst hx hb (hd.at rfl (by decide)) rfl (kk arr hl)
  next k => exact rm_ld_ok hl h (fun _ y hy w => lv_iload_n hx hb (hd.at rfl (by decide)) rfl hy w) (fun q => absurd q (by decide)) (fun q => absurd q (by decide)) kk
  next i => exact rm_ld_ok hl h (fun _ y hy w => lv_iload hx hb (hd.at rfl (by decide)) hy w) (fun q => absurd q (by decide)) (fun q => absurd q (by decide)) kk
  next k => exact rm_ld_ok hl h (fun q => absurd q (by decide)) (fun _ y hy w => lv_lload_n hx hb (hd.at rfl (by decide)) rfl hy w) (fun q => absurd q (by decide)) kk
  next i => exact rm_ld_ok hl h (fun q => absurd q (by decide)) (fun _ y hy w => lv_lload hx hb (hd.at rfl (by decide)) hy w) (fun q => absurd q (by decide)) kk
  next k => exact rm_ld_ok hl h (fun q => absurd q (by decide)) (fun q => absurd q (by decide)) (fun _ y hy w => lv_aload_n hx hb (hd.at rfl (by decide)) rfl hy w) kk
  next i => exact rm_ld_ok hl h (fun q => absurd q (by decide)) (fun q => absurd q (by decide)) (fun _ y hy w => lv_aload hx hb (hd.at rfl (by decide)) hy w) kk
  next k => exact rm_st_ok hl h (fun _ y r hlt w => lv_istore_n hx hb (hd.at rfl (by decide)) rfl hl hlt (rm_set1_vl ad ls _ (.int y)) w) (fun q => absurd q (by decide)) (fun q => absurd q (by decide)) kk
  next i => exact rm_st_ok hl h (fun _ y r hlt w => lv_istore hx hb (hd.at rfl (by decide)) hl hlt (rm_set1_vl ad ls _ (.int y)) w) (fun q => absurd q (by decide)) (fun q => absurd q (by decide)) kk
  next k => exact rm_st_ok hl h (fun q => absurd q (by decide)) (fun _ y r hlt w => lv_lstore_n hx hb (hd.at rfl (by decide)) rfl hl hlt (rm_set2_vl ad ls _ (.long y)) w) (fun q => absurd q (by decide)) kk
  next i => exact rm_st_ok hl h (fun q => absurd q (by decide)) (fun _ y r hlt w => lv_lstore hx hb (hd.at rfl (by decide)) hl hlt (rm_set2_vl ad ls _ (.long y)) w) (fun q => absurd q (by decide)) kk
  next k => exact rm_st_ok hl h (fun q => absurd q (by decide)) (fun q => absurd q (by decide)) (fun _ y r hlt w => lv_astore_n hx hb (hd.at rfl (by decide)) rfl hl hlt (rm_set1_vl ad ls _ (.ref y)) w) kk
  next i => exact rm_st_ok hl h (fun q => absurd q (by decide)) (fun q => absurd q (by decide)) (fun _ y r hlt w => lv_astore hx hb (hd.at rfl (by decide)) hl hlt (rm_set1_vl ad ls _ (.ref y)) w) kk
  next i n =>
    split at h
    next y hg =>
      split at h
      next hlt =>
        cases h
        obtain ⟨k, hk⟩ := rm_get_pos (ad := ad) hg
        exact lv_iinc hx hb (hd.at rfl (by decide)) hl hk rfl hlt (rm_set1_vl ad ls i (.int (y + Int32.ofInt n))) (fun arr' hl' => kk arr' hl')
      next => cases h
    next => cases h
  next => exact rm_i2_ok hl h (fun u v r w => lv_iadd hx hb (hd.at rfl (by decide)) w) kk
  next => exact rm_i2_ok hl h (fun u v r w => lv_isub hx hb (hd.at rfl (by decide)) w) kk
  next => exact rm_i2_ok hl h (fun u v r w => lv_imul hx hb (hd.at rfl (by decide)) w) kk
  next => exact rm_i2_ok hl h (fun u v r w => lv_iand hx hb (hd.at rfl (by decide)) w) kk
  next => exact rm_i2_ok hl h (fun u v r w => lv_ior hx hb (hd.at rfl (by decide)) w) kk
  next => exact rm_i2_ok hl h (fun u v r w => lv_ishl hx hb (hd.at rfl (by decide)) w) kk
  next => exact rm_i2_ok hl h (fun u v r w => lv_ishr hx hb (hd.at rfl (by decide)) w) kk
  next =>
    split at h
    next =>
      split at h
      next => cases h
      next hz => cases h; exact lv_idiv hx hb (hd.at rfl (by decide)) hz (kk arr hl)
    next => cases h
  next =>
    split at h
    next =>
      split at h
      next => cases h
      next hz => cases h; exact lv_irem hx hb (hd.at rfl (by decide)) hz (kk arr hl)
    next => cases h
  next => exact rm_l2_ok hl h (fun u v r w => lv_ladd hx hb (hd.at rfl (by decide)) w) kk
  next => exact rm_l2_ok hl h (fun u v r w => lv_lmul hx hb (hd.at rfl (by decide)) w) kk
  next =>
    split at h
    next => cases h; exact W.lcmp hx hb (hd.at rfl (by decide)) (kk arr hl)
    next => cases h
  next =>
    split at h
    next => cases h; exact lv_i2l hx hb (hd.at rfl (by decide)) rfl (kk arr hl)
    next => cases h
  next =>
    split at h
    next => cases h; exact lv_i2b hx hb (hd.at rfl (by decide)) rfl (kk arr hl)
    next => cases h
  next =>
    split at h
    next => cases h; exact lv_i2c hx hb (hd.at rfl (by decide)) rfl (kk arr hl)
    next => cases h
  next =>
    split at h
    next =>
      split at h
      next hc => cases h; exact lv_dup hx hb (hd.at rfl (by decide)) (by rw [rm_v_cat]; exact hc) (kk arr hl)
      next => cases h
    next => cases h
  next =>
    split at h
    next =>
      split at h
      next hc => cases h; exact lv_pop hx hb (hd.at rfl (by decide)) (by rw [rm_v_cat]; exact hc) (kk arr hl)
      next => cases h
    next => cases h
  next =>
    split at h
    next =>
      split at h
      next hc => cases h; exact lv_dup2_11 hx hb (hd.at rfl (by decide)) (by rw [rm_v_cat]; exact hc.1) (by rw [rm_v_cat]; exact hc.2) (kk arr hl)
      next => cases h
    next => cases h
  next =>
    split at h
    next => exact rm_if_ok hx hb (hd.at rfl (by decide)) hl h kk
    next => cases h
  next =>
    split at h
    next => exact rm_icmp_ok hx hb (hd.at rfl (by decide)) hl h kk
    next => cases h
  next off =>
    cases ht : rm_tg pc off with
    | none => rw [ht] at h; cases h
    | some t => rw [ht] at h; cases h; exact lv_goto hx hb (hd.at rfl (by decide)) (rm_tg_eq ht) (kk arr hl)
  next d lo hi offs =>
    split at h
    next y r =>
      obtain ⟨len, hd, -⟩ := hd
      split at h
      next hz =>
        cases ht : rm_tg pc d with
        | none => rw [ht] at h; cases h
        | some t => rw [ht] at h; cases h; exact lv_tableOut hx hb hd hz (rm_tg_eq ht) (kk arr hl)
      next hz =>
        split at h
        next off ho =>
          cases ht : rm_tg pc off with
          | none => rw [ht] at h; cases h
          | some t => rw [ht] at h; cases h; exact lv_tableIn hx hb hd (fun q => hz (Or.inl q)) (fun q => hz (Or.inr q)) ho (rm_tg_eq ht) (kk arr hl)
        next => cases h
    next => cases h
  next d ps =>
    split at h
    next y r =>
      obtain ⟨len, hd, -⟩ := hd
      split at h
      next hz =>
        cases ht : rm_tg pc (Op.lookupswitch.offset ps.toList d y.toInt) with
        | none => rw [ht] at h; cases h
        | some t => rw [ht] at h; cases h; exact lv_lookup hx hb hd hz rfl (rm_tg_eq ht) (kk arr hl)
      next => cases h
    next => cases h
  next => cases h
end RMA
