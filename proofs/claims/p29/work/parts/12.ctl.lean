section AMC
variable {p : Program} {l : Launch} {e : Env} {R : Room} {s : State} {m : MethodId} {args : Array Value} {below : List Frame} {meth : Method} {c : Code} {H : Heap} {locs : List Loc} {cells slots : Nat} {Q : State → Prop}
variable {cc : ByteArray} {pc : Nat} {jls : Array Slot} {ρ : am_A} {ro : Nat → Option (Nat × Nat)} {D : va_G} {A : Nat → Prop} {h : am_H} {own : String} {rest : List Value} {n : Nat}
theorem am_tgt_inv {pc t : Nat} {off : Int} (h : am_tgt pc off = some t) : (pc : Int) + off = (t : Int) := by
  unfold am_tgt at h
  split at h
  · cases h; omega
  · cases h
theorem am_if_sound (hexec : p.tables.exec = Jvm.exec) (hb : c.code = cc) {cd : ClassFile.Cond} {off : Int} {x : Int} (hx : am_ok n (.inl x)) {t : Nat} (ht : am_tgt pc off = some t) (hd : decode cc pc = .ok (.ifCond cd off, 3))
    (kt : am_cmp cd x 0 = true → W p l e R s m args below meth c H locs cells slots Q (F0 m t jls rest)) (kf : ¬ am_cmp cd x 0 = true → W p l e R s m args below meth c H locs cells slots Q (F0 m (pc + 3) jls rest)) :
    W p l e R s m args below meth c H locs cells slots Q (F0 m pc jls (.int (Int32.ofInt x) :: rest)) := by
  have e0 : Int32.ofInt x = 0 ↔ x = 0 := am_eq32 hx.1 hx.2 (b := 0) (by omega) (by omega)
  have e1 : Int32.ofInt x < 0 ↔ x < 0 := am_lt32 hx.1 hx.2 (b := 0) (by omega) (by omega)
  have e2 : 0 < Int32.ofInt x ↔ 0 < x := am_lt32 (a := 0) (by omega) (by omega) hx.1 hx.2
  have ht := am_tgt_inv ht
  cases cd with
  | eq => exact lv_if_eq hexec hb hd ht (fun q => kt (decide_eq_true (e0.mp q))) (fun q => kf (fun z => q (e0.mpr (of_decide_eq_true z))))
  | ne => exact lv_if_ne hexec hb hd ht (fun q => kt (by unfold am_cmp; rw [decide_eq_false (fun z => q (e0.mpr z))]; rfl)) (fun q => kf (by unfold am_cmp; rw [decide_eq_true (e0.mp q)]; exact Bool.false_ne_true))
  | lt => exact lv_if_lt hexec hb hd ht (fun q => kt (decide_eq_true (e1.mp q))) (fun q => kf (fun z => q (e1.mpr (of_decide_eq_true z))))
  | ge => exact lv_if_ge hexec hb hd ht (fun q => kt (by unfold am_cmp; rw [decide_eq_false (fun z => Int32.not_lt.mpr q (e1.mpr z))]; rfl)) (fun q => kf (by unfold am_cmp; rw [decide_eq_true (e1.mp (Int32.not_le.mp q))]; exact Bool.false_ne_true))
  | gt => exact lv_if_gt hexec hb hd ht (fun q => kt (decide_eq_true (e2.mp q))) (fun q => kf (fun z => q (e2.mpr (of_decide_eq_true z))))
  | le => exact lv_if_le hexec hb hd ht (fun q => kt (by unfold am_cmp; rw [decide_eq_false (fun z => Int32.not_lt.mpr q (e2.mpr z))]; rfl)) (fun q => kf (by unfold am_cmp; rw [decide_eq_true (e2.mp (Int32.not_le.mp q))]; exact Bool.false_ne_true))
theorem am_icmp_sound (hexec : p.tables.exec = Jvm.exec) (hb : c.code = cc) {cd : ClassFile.Cond} {off : Int} {x y : Int} (hx : am_ok n (.inl x)) (hy : am_ok n (.inl y)) {t : Nat} (ht : am_tgt pc off = some t) (hd : decode cc pc = .ok (.if_icmp cd off, 3))
    (kt : am_cmp cd x y = true → W p l e R s m args below meth c H locs cells slots Q (F0 m t jls rest)) (kf : ¬ am_cmp cd x y = true → W p l e R s m args below meth c H locs cells slots Q (F0 m (pc + 3) jls rest)) :
    W p l e R s m args below meth c H locs cells slots Q (F0 m pc jls (.int (Int32.ofInt y) :: .int (Int32.ofInt x) :: rest)) := by
  have e0 := am_eq32 hx.1 hx.2 hy.1 hy.2
  have e1 := am_lt32 hx.1 hx.2 hy.1 hy.2
  have e2 := am_lt32 hy.1 hy.2 hx.1 hx.2
  have ht := am_tgt_inv ht
  cases cd with
  | eq => exact lv_icmp_eq hexec hb hd ht (fun q => kt (decide_eq_true (e0.mp q))) (fun q => kf (fun z => q (e0.mpr (of_decide_eq_true z))))
  | ne => exact lv_icmp_ne hexec hb hd ht (fun q => kt (by unfold am_cmp; rw [decide_eq_false (fun z => q (e0.mpr z))]; rfl)) (fun q => kf (by unfold am_cmp; rw [decide_eq_true (e0.mp q)]; exact Bool.false_ne_true))
  | lt => exact lv_icmp_lt hexec hb hd ht (fun q => kt (decide_eq_true (e1.mp q))) (fun q => kf (fun z => q (e1.mpr (of_decide_eq_true z))))
  | ge => exact lv_icmp_ge hexec hb hd ht (fun q => kt (by unfold am_cmp; rw [decide_eq_false (fun z => Int32.not_lt.mpr q (e1.mpr z))]; rfl)) (fun q => kf (by unfold am_cmp; rw [decide_eq_true (e1.mp (Int32.not_le.mp q))]; exact Bool.false_ne_true))
  | gt => exact lv_icmp_gt hexec hb hd ht (fun q => kt (decide_eq_true (e2.mp q))) (fun q => kf (fun z => q (e2.mpr (of_decide_eq_true z))))
  | le => exact lv_icmp_le hexec hb hd ht (fun q => kt (by unfold am_cmp; rw [decide_eq_false (fun z => Int32.not_lt.mpr q (e2.mpr z))]; rfl)) (fun q => kf (by unfold am_cmp; rw [decide_eq_true (e2.mp (Int32.not_le.mp q))]; exact Bool.false_ne_true))
theorem am_tsw_sound (hexec : p.tables.exec = Jvm.exec) (hb : c.code = cc) {d lo hi x : Int} {offs : Array Int} {len : Nat} (hx : am_ok n (.inl x)) (hd : decode cc pc = .ok (.tableswitch d lo hi offs, len))
    (ko : x < lo ∨ hi < x → ∃ t, am_tgt pc d = some t ∧ W p l e R s m args below meth c H locs cells slots Q (F0 m t jls rest)) (ki : ¬ (x < lo ∨ hi < x) → ∃ off t, offs[(x - lo).toNat]? = some off ∧ am_tgt pc off = some t ∧ W p l e R s m args below meth c H locs cells slots Q (F0 m t jls rest)) :
    W p l e R s m args below meth c H locs cells slots Q (F0 m pc jls (.int (Int32.ofInt x) :: rest)) := by
  have hx2 : (Int32.ofInt x).toInt = x := am_to32 hx.1 hx.2
  by_cases h : x < lo ∨ hi < x
  · obtain ⟨t, ht, k⟩ := ko h
    exact lv_tableOut hexec hb hd (by rw [hx2]; exact h) (am_tgt_inv ht) k
  · obtain ⟨off, t, ho, ht, k⟩ := ki h
    exact lv_tableIn hexec hb hd (by rw [hx2]; exact fun q => h (Or.inl q)) (by rw [hx2]; exact fun q => h (Or.inr q)) (by rw [hx2]; exact ho) (am_tgt_inv ht) k
theorem am_lsw_sound (hexec : p.tables.exec = Jvm.exec) (hb : c.code = cc) {d x : Int} {ps : Array (Int × Int)} {len t : Nat} (hx : am_ok n (.inl x)) (hd : decode cc pc = .ok (.lookupswitch d ps, len)) (hp : (ps.toList.zip (ps.toList.drop 1)).all (fun (u, v) => u.1 < v.1) = true)
    (ht : am_tgt pc (Op.lookupswitch.offset ps.toList d x) = some t) (k : W p l e R s m args below meth c H locs cells slots Q (F0 m t jls rest)) :
    W p l e R s m args below meth c H locs cells slots Q (F0 m pc jls (.int (Int32.ofInt x) :: rest)) := by
  have hx2 : (Int32.ofInt x).toInt = x := am_to32 hx.1 hx.2
  exact lv_lookup hexec hb hd hp rfl (by rw [hx2]; exact am_tgt_inv ht) k
end AMC
