theorem am_ii_inv {f : Int → Int → Int} {st st' : List am_V} (h : am_ii f st = some st') : ∃ a b r, st = .inl b :: .inl a :: r ∧ st' = .inl (f a b) :: r := by
  unfold am_ii at h
  split at h
  · cases h; exact ⟨_, _, _, rfl, rfl⟩
  · cases h
theorem am_ll_inv {f : Int → Int → Int} {st st' : List am_V} (h : am_ll f st = some st') : ∃ a b r, st = .inr (.inl b) :: .inr (.inl a) :: r ∧ st' = .inr (.inl (f a b)) :: r := by
  unfold am_ll at h
  split at h
  · cases h; exact ⟨_, _, _, rfl, rfl⟩
  · cases h
theorem am_li_inv {f : Int → Int → Int} {st st' : List am_V} (h : am_li f st = some st') : ∃ a b r, st = .inl b :: .inr (.inl a) :: r ∧ st' = .inr (.inl (f a b)) :: r := by
  unfold am_li at h
  split at h
  · cases h; exact ⟨_, _, _, rfl, rfl⟩
  · cases h
/-- how long an instruction is that works on the stack, on locals, on the heap -/
def am_len (ins : Instr) : Nat := match ins with
  | .bipush _ | .iload _ | .lload _ | .aload _ | .istore _ | .lstore _ | .astore _ | .newarray _ | .ldc _ => 2
  | .sipush _ | .iinc _ _ | .getfield _ | .putfield _ | .new _ | .ldc_w _ | .ldc2_w _ | .getstatic _ => 3
  | _ => 1
def am_oks (n : Nat) (st : List am_V) : Prop := ∀ v ∈ st, am_ok n v
theorem am_oks_cons {n : Nat} {v : am_V} {st : List am_V} : am_oks n (v :: st) ↔ am_ok n v ∧ am_oks n st := by
  unfold am_oks; simp
section AMW
variable {p : Program} {l : Launch} {e : Env} {R : Room} {s : State} {m : MethodId} {args : Array Value} {below : List Frame} {meth : Method} {c : Code} {H : Heap} {locs : List Loc} {cells slots : Nat} {Q : State → Prop}
variable {cc : ByteArray} {pc : Nat} {jls : Array Slot} {ρ : am_A} {n : Nat}
theorem am_alu_sound (hexec : p.tables.exec = Jvm.exec) (hb : c.code = cc) {ins : Instr} {st st' : List am_V} {len : Nat} (h : am_alu ins st = some st') (hd : decode cc pc = .ok (ins, len)) (hlen : am_len ins = len) (hok : am_oks n st) :
    am_oks n st' ∧ (W p l e R s m args below meth c H locs cells slots Q (F0 m (pc + len) jls (st'.map (am_rep ρ))) → W p l e R s m args below meth c H locs cells slots Q (F0 m pc jls (st.map (am_rep ρ)))) := by
  subst hlen
  unfold am_alu at h
  split at h
  · split at h
    · rename_i hr
      cases h
      exact ⟨am_oks_cons.mpr ⟨(show -2147483648 ≤ _ ∧ _ < 2147483648 by omega), hok⟩, fun k => lv_iconst hexec hb hd rfl k⟩
    · cases h
  · split at h
    · rename_i n0 hr
      cases h
      refine ⟨am_oks_cons.mpr ⟨(show -2147483648 ≤ _ ∧ _ < 2147483648 by omega), hok⟩, fun k => lv_bipush hexec hb hd ?_ k⟩
      apply Int32.toInt_inj.mp
      rw [Int8.toInt_toInt32, Int8.toInt_ofInt_of_le (by omega) (by omega), am_to32 (by omega) (by omega)]
    · cases h
  · split at h
    · rename_i n0 hr
      cases h
      refine ⟨am_oks_cons.mpr ⟨(show -2147483648 ≤ _ ∧ _ < 2147483648 by omega), hok⟩, fun k => lv_sipush hexec hb hd ?_ k⟩
      apply Int32.toInt_inj.mp
      rw [Int16.toInt_toInt32, Int16.toInt_ofInt_of_le (by omega) (by omega), am_to32 (by omega) (by omega)]
    · cases h
  · rename_i n0
    cases h
    have hn0 := n0.isLt
    refine ⟨am_oks_cons.mpr ⟨(show -9223372036854775808 ≤ _ ∧ _ < 9223372036854775808 by omega), hok⟩, fun k => lv_lconst hexec hb hd ?_ k⟩
    exact Int64.ofInt_eq_ofNat.symm
  · obtain ⟨a, b, r, rfl, rfl⟩ := am_ii_inv h
    obtain ⟨hb', hok⟩ := am_oks_cons.mp hok
    obtain ⟨ha', hok⟩ := am_oks_cons.mp hok
    refine ⟨am_oks_cons.mpr ⟨am_w32_in _, hok⟩, fun k => ?_⟩
    refine lv_iadd hexec hb hd ?_
    rw [← Int32.ofInt_add, ← am_of32]
    exact k
  · obtain ⟨a, b, r, rfl, rfl⟩ := am_ii_inv h
    obtain ⟨hb', hok⟩ := am_oks_cons.mp hok
    obtain ⟨ha', hok⟩ := am_oks_cons.mp hok
    refine ⟨am_oks_cons.mpr ⟨am_w32_in _, hok⟩, fun k => ?_⟩
    refine lv_isub hexec hb hd ?_
    rw [← Int32.ofInt_sub, ← am_of32]
    exact k
  · obtain ⟨a, b, r, rfl, rfl⟩ := am_ii_inv h
    obtain ⟨hb', hok⟩ := am_oks_cons.mp hok
    obtain ⟨ha', hok⟩ := am_oks_cons.mp hok
    refine ⟨am_oks_cons.mpr ⟨am_w32_in _, hok⟩, fun k => ?_⟩
    refine lv_imul hexec hb hd ?_
    rw [← Int32.ofInt_mul, ← am_of32]
    exact k
  · obtain ⟨a, b, r, rfl, rfl⟩ := am_ii_inv h
    obtain ⟨hb', hok⟩ := am_oks_cons.mp hok
    obtain ⟨ha', hok⟩ := am_oks_cons.mp hok
    refine ⟨am_oks_cons.mpr ⟨am_in32 _, hok⟩, fun k => ?_⟩
    refine lv_iand hexec hb hd ?_
    have k2 := k
    simp only [List.map_cons, am_rep, Int32.ofInt_toInt] at k2
    exact k2
  · obtain ⟨a, b, r, rfl, rfl⟩ := am_ii_inv h
    obtain ⟨hb', hok⟩ := am_oks_cons.mp hok
    obtain ⟨ha', hok⟩ := am_oks_cons.mp hok
    refine ⟨am_oks_cons.mpr ⟨am_in32 _, hok⟩, fun k => ?_⟩
    refine lv_ior hexec hb hd ?_
    have k2 := k
    simp only [List.map_cons, am_rep, Int32.ofInt_toInt] at k2
    exact k2
  · obtain ⟨a, b, r, rfl, rfl⟩ := am_ii_inv h
    obtain ⟨hb', hok⟩ := am_oks_cons.mp hok
    obtain ⟨ha', hok⟩ := am_oks_cons.mp hok
    refine ⟨am_oks_cons.mpr ⟨am_in32 _, hok⟩, fun k => ?_⟩
    refine lv_ishl hexec hb hd ?_
    have k2 := k
    simp only [List.map_cons, am_rep, Int32.ofInt_toInt] at k2
    exact k2
  · obtain ⟨a, b, r, rfl, rfl⟩ := am_ii_inv h
    obtain ⟨hb', hok⟩ := am_oks_cons.mp hok
    obtain ⟨ha', hok⟩ := am_oks_cons.mp hok
    refine ⟨am_oks_cons.mpr ⟨am_in32 _, hok⟩, fun k => ?_⟩
    refine lv_ishr hexec hb hd ?_
    have k2 := k
    simp only [List.map_cons, am_rep, Int32.ofInt_toInt] at k2
    exact k2
  · obtain ⟨a, b, r, rfl, rfl⟩ := am_ii_inv h
    obtain ⟨hb', hok⟩ := am_oks_cons.mp hok
    obtain ⟨ha', hok⟩ := am_oks_cons.mp hok
    refine ⟨am_oks_cons.mpr ⟨am_in32 _, hok⟩, fun k => ?_⟩
    refine lv_iushr hexec hb hd rfl ?_
    have k2 := k
    simp only [List.map_cons, am_rep, Int32.ofInt_toInt] at k2
    exact k2
  · split at h
    · rename_i b a r
      split at h
      · cases h
      · rename_i h0
        cases h
        obtain ⟨hb', hok⟩ := am_oks_cons.mp hok
        obtain ⟨ha', hok⟩ := am_oks_cons.mp hok
        have hne : ¬ Int32.ofInt b = 0 := fun q => h0 ((am_eq32 hb'.1 hb'.2 (b := 0) (by omega) (by omega)).mp q)
        refine ⟨am_oks_cons.mpr ⟨am_w32_in _, hok⟩, fun k => ?_⟩
        refine lv_idiv hexec hb hd hne ?_
        rw [am_div32 ha'.1 ha'.2 hb'.1 hb'.2]
        exact k
    · cases h
  · split at h
    · rename_i b a r
      split at h
      · cases h
      · rename_i h0
        cases h
        obtain ⟨hb', hok⟩ := am_oks_cons.mp hok
        obtain ⟨ha', hok⟩ := am_oks_cons.mp hok
        have hne : ¬ Int32.ofInt b = 0 := fun q => h0 ((am_eq32 hb'.1 hb'.2 (b := 0) (by omega) (by omega)).mp q)
        refine ⟨am_oks_cons.mpr ⟨am_tmod_in32 ha'.1 ha'.2 hb'.1 hb'.2, hok⟩, fun k => ?_⟩
        refine lv_irem hexec hb hd hne ?_
        rw [am_mod32 ha'.1 ha'.2 hb'.1 hb'.2]
        exact k
    · cases h
  · split at h
    · rename_i a r
      cases h
      obtain ⟨ha', hok⟩ := am_oks_cons.mp hok
      refine ⟨am_oks_cons.mpr ⟨am_w32_in _, hok⟩, fun k => ?_⟩
      refine lv_ineg hexec hb hd ?_
      rw [← Int32.ofInt_neg, ← am_of32]
      exact k
    · cases h
  · obtain ⟨a, b, r, rfl, rfl⟩ := am_ll_inv h
    obtain ⟨hb', hok⟩ := am_oks_cons.mp hok
    obtain ⟨ha', hok⟩ := am_oks_cons.mp hok
    refine ⟨am_oks_cons.mpr ⟨am_w64_in _, hok⟩, fun k => ?_⟩
    refine lv_ladd hexec hb hd ?_
    rw [← Int64.ofInt_add, ← am_of64]
    exact k
  · obtain ⟨a, b, r, rfl, rfl⟩ := am_ll_inv h
    obtain ⟨hb', hok⟩ := am_oks_cons.mp hok
    obtain ⟨ha', hok⟩ := am_oks_cons.mp hok
    refine ⟨am_oks_cons.mpr ⟨am_w64_in _, hok⟩, fun k => ?_⟩
    refine lv_lsub hexec hb hd ?_
    rw [← Int64.ofInt_sub, ← am_of64]
    exact k
  · obtain ⟨a, b, r, rfl, rfl⟩ := am_ll_inv h
    obtain ⟨hb', hok⟩ := am_oks_cons.mp hok
    obtain ⟨ha', hok⟩ := am_oks_cons.mp hok
    refine ⟨am_oks_cons.mpr ⟨am_w64_in _, hok⟩, fun k => ?_⟩
    refine lv_lmul hexec hb hd ?_
    rw [← Int64.ofInt_mul, ← am_of64]
    exact k
  · obtain ⟨a, b, r, rfl, rfl⟩ := am_ll_inv h
    obtain ⟨hb', hok⟩ := am_oks_cons.mp hok
    obtain ⟨ha', hok⟩ := am_oks_cons.mp hok
    refine ⟨am_oks_cons.mpr ⟨am_in64 _, hok⟩, fun k => ?_⟩
    refine lv_land hexec hb hd ?_
    have k2 := k
    simp only [List.map_cons, am_rep, Int64.ofInt_toInt] at k2
    exact k2
  · obtain ⟨a, b, r, rfl, rfl⟩ := am_ll_inv h
    obtain ⟨hb', hok⟩ := am_oks_cons.mp hok
    obtain ⟨ha', hok⟩ := am_oks_cons.mp hok
    refine ⟨am_oks_cons.mpr ⟨am_in64 _, hok⟩, fun k => ?_⟩
    refine lv_lor hexec hb hd ?_
    have k2 := k
    simp only [List.map_cons, am_rep, Int64.ofInt_toInt] at k2
    exact k2
  · obtain ⟨a, b, r, rfl, rfl⟩ := am_ll_inv h
    obtain ⟨hb', hok⟩ := am_oks_cons.mp hok
    obtain ⟨ha', hok⟩ := am_oks_cons.mp hok
    refine ⟨am_oks_cons.mpr ⟨am_in64 _, hok⟩, fun k => ?_⟩
    refine lv_lxor hexec hb hd ?_
    have k2 := k
    simp only [List.map_cons, am_rep, Int64.ofInt_toInt] at k2
    exact k2
  · obtain ⟨a, b, r, rfl, rfl⟩ := am_li_inv h
    obtain ⟨hb', hok⟩ := am_oks_cons.mp hok
    obtain ⟨ha', hok⟩ := am_oks_cons.mp hok
    refine ⟨am_oks_cons.mpr ⟨am_in64 _, hok⟩, fun k => ?_⟩
    refine lv_lshl hexec hb hd rfl ?_
    have k2 := k
    simp only [List.map_cons, am_rep, Int64.ofInt_toInt] at k2
    exact k2
  · obtain ⟨a, b, r, rfl, rfl⟩ := am_li_inv h
    obtain ⟨hb', hok⟩ := am_oks_cons.mp hok
    obtain ⟨ha', hok⟩ := am_oks_cons.mp hok
    refine ⟨am_oks_cons.mpr ⟨am_in64 _, hok⟩, fun k => ?_⟩
    refine lv_lshr hexec hb hd rfl ?_
    have k2 := k
    simp only [List.map_cons, am_rep, Int64.ofInt_toInt] at k2
    exact k2
  · obtain ⟨a, b, r, rfl, rfl⟩ := am_li_inv h
    obtain ⟨hb', hok⟩ := am_oks_cons.mp hok
    obtain ⟨ha', hok⟩ := am_oks_cons.mp hok
    refine ⟨am_oks_cons.mpr ⟨am_in64 _, hok⟩, fun k => ?_⟩
    refine lv_lushr hexec hb hd rfl ?_
    have k2 := k
    simp only [List.map_cons, am_rep, Int64.ofInt_toInt] at k2
    exact k2
  · split at h
    · rename_i b a r
      split at h
      · cases h
      · rename_i h0
        cases h
        obtain ⟨hb', hok⟩ := am_oks_cons.mp hok
        obtain ⟨ha', hok⟩ := am_oks_cons.mp hok
        have hne : ¬ Int64.ofInt b = 0 := fun q => h0 ((am_eq64 hb'.1 hb'.2 (b := 0) (by omega) (by omega)).mp q)
        refine ⟨am_oks_cons.mpr ⟨am_w64_in _, hok⟩, fun k => ?_⟩
        refine lv_ldiv hexec hb hd hne ?_
        rw [am_div64 ha'.1 ha'.2 hb'.1 hb'.2]
        exact k
    · cases h
  · split at h
    · rename_i b a r
      split at h
      · cases h
      · rename_i h0
        cases h
        obtain ⟨hb', hok⟩ := am_oks_cons.mp hok
        obtain ⟨ha', hok⟩ := am_oks_cons.mp hok
        have hne : ¬ Int64.ofInt b = 0 := fun q => h0 ((am_eq64 hb'.1 hb'.2 (b := 0) (by omega) (by omega)).mp q)
        refine ⟨am_oks_cons.mpr ⟨am_tmod_in64 ha'.1 ha'.2 hb'.1 hb'.2, hok⟩, fun k => ?_⟩
        refine lv_lrem hexec hb hd hne ?_
        rw [am_mod64 ha'.1 ha'.2 hb'.1 hb'.2]
        exact k
    · cases h
  · split at h
    · rename_i a r
      cases h
      obtain ⟨ha', hok⟩ := am_oks_cons.mp hok
      refine ⟨am_oks_cons.mpr ⟨am_w64_in _, hok⟩, fun k => ?_⟩
      refine lv_lneg hexec hb hd ?_
      rw [← Int64.ofInt_neg, ← am_of64]
      exact k
    · cases h
  · split at h
    · rename_i b a r
      cases h
      obtain ⟨hb', hok⟩ := am_oks_cons.mp hok
      obtain ⟨ha', hok⟩ := am_oks_cons.mp hok
      refine ⟨am_oks_cons.mpr ⟨?_, hok⟩, fun k => ?_⟩
      · show -2147483648 ≤ am_lsign a b ∧ am_lsign a b < 2147483648
        unfold am_lsign; split <;> (try split) <;> omega
      · refine W.lcmp hexec hb hd ?_
        have e9 : lg_cmp (Int64.ofInt a) (Int64.ofInt b) = Int32.ofInt (am_lsign a b) := by
          unfold lg_cmp am_lsign
          have h1 : Int64.ofInt a > Int64.ofInt b ↔ b < a := am_lt64 hb'.1 hb'.2 ha'.1 ha'.2
          have h2 := am_eq64 ha'.1 ha'.2 hb'.1 hb'.2
          simp only [h1, h2]
          split
          · rfl
          · split <;> rfl
        rw [e9]
        exact k
    · cases h
  · split at h
    · rename_i a r
      cases h
      obtain ⟨ha', hok⟩ := am_oks_cons.mp hok
      refine ⟨am_oks_cons.mpr ⟨(show -9223372036854775808 ≤ _ ∧ _ < 9223372036854775808 by obtain ⟨q1, q2⟩ := ha'; omega), hok⟩, fun k => ?_⟩
      refine lv_i2l hexec hb hd (am_i2l ha'.1 ha'.2) ?_
      skip
      exact k
    · cases h
  · split at h
    · rename_i a r
      cases h
      obtain ⟨ha', hok⟩ := am_oks_cons.mp hok
      refine ⟨am_oks_cons.mpr ⟨am_w32_in _, hok⟩, fun k => ?_⟩
      refine lv_l2i hexec hb hd (am_l2i ha'.1 ha'.2) ?_
      skip
      exact k
    · cases h
  · split at h
    · rename_i a r
      cases h
      obtain ⟨ha', hok⟩ := am_oks_cons.mp hok
      refine ⟨am_oks_cons.mpr ⟨(show -2147483648 ≤ am_w8 a ∧ am_w8 a < 2147483648 by unfold am_w8; omega), hok⟩, fun k => ?_⟩
      refine lv_i2b hexec hb hd (am_i2b ha'.1 ha'.2) ?_
      skip
      exact k
    · cases h
  · split at h
    · rename_i a r
      cases h
      obtain ⟨ha', hok⟩ := am_oks_cons.mp hok
      refine ⟨am_oks_cons.mpr ⟨am_in32 _, hok⟩, fun k => ?_⟩
      refine lv_i2c hexec hb hd rfl ?_
      have k2 := k
      simp only [List.map_cons, am_rep, Int32.ofInt_toInt] at k2
      exact k2
    · cases h
  · split at h
    · rename_i v r
      split at h
      · rename_i hc
        cases h
        obtain ⟨hv, hok⟩ := am_oks_cons.mp hok
        exact ⟨am_oks_cons.mpr ⟨hv, am_oks_cons.mpr ⟨hv, hok⟩⟩, fun k => lv_dup hexec hb hd (by rw [am_rep_cat]; exact hc) k⟩
      · cases h
    · cases h
  · split at h
    · rename_i v r
      split at h
      · rename_i hc
        cases h
        obtain ⟨hv, hok⟩ := am_oks_cons.mp hok
        exact ⟨hok, fun k => lv_pop hexec hb hd (by rw [am_rep_cat]; exact hc) k⟩
      · cases h
    · cases h
  · split at h
    · rename_i v w r
      split at h
      · rename_i hc
        cases h
        obtain ⟨hv, hok⟩ := am_oks_cons.mp hok
        obtain ⟨hw, hok⟩ := am_oks_cons.mp hok
        exact ⟨am_oks_cons.mpr ⟨hv, am_oks_cons.mpr ⟨hw, am_oks_cons.mpr ⟨hv, hok⟩⟩⟩, fun k => lv_dup_x1 hexec hb hd (by rw [am_rep_cat]; exact hc.1) (by rw [am_rep_cat]; exact hc.2) k⟩
      · cases h
    · cases h
  · split at h
    · rename_i v w u r
      split at h
      · rename_i hc
        cases h
        obtain ⟨hv, hok⟩ := am_oks_cons.mp hok
        obtain ⟨hw, hok⟩ := am_oks_cons.mp hok
        obtain ⟨hu, hok⟩ := am_oks_cons.mp hok
        exact ⟨am_oks_cons.mpr ⟨hv, am_oks_cons.mpr ⟨hw, am_oks_cons.mpr ⟨hu, am_oks_cons.mpr ⟨hv, hok⟩⟩⟩⟩, fun k => lv_dup_x2 hexec hb hd (by rw [am_rep_cat]; exact hc.1) (by rw [am_rep_cat]; exact hc.2.1) (by rw [am_rep_cat]; exact hc.2.2) k⟩
      · cases h
    · cases h
  · split at h
    · rename_i v r
      split at h
      · rename_i hc
        cases h
        obtain ⟨hv, hok⟩ := am_oks_cons.mp hok
        exact ⟨am_oks_cons.mpr ⟨hv, am_oks_cons.mpr ⟨hv, hok⟩⟩, fun k => lv_dup2_2 hexec hb hd (by rw [am_rep_cat]; exact hc) k⟩
      · rename_i hc
        split at h
        · rename_i w r2
          split at h
          · rename_i hc2
            cases h
            obtain ⟨hv, hok⟩ := am_oks_cons.mp hok
            obtain ⟨hw, hok⟩ := am_oks_cons.mp hok
            have hc1 : am_cat v = 1 := by
              rcases v with z | z | z
              · rfl
              · exact absurd rfl hc
              · rfl
            exact ⟨am_oks_cons.mpr ⟨hv, am_oks_cons.mpr ⟨hw, am_oks_cons.mpr ⟨hv, am_oks_cons.mpr ⟨hw, hok⟩⟩⟩⟩, fun k => lv_dup2_11 hexec hb hd (by rw [am_rep_cat]; exact hc1) (by rw [am_rep_cat]; exact hc2) k⟩
          · cases h
        · cases h
    · cases h
  · cases h
theorem am_loc_sound (hexec : p.tables.exec = Jvm.exec) (hb : c.code = cc) {ins : Instr} {ls ls' : am_L} {st st' : List am_V} {len : Nat} (h : am_loc ins ls st = some (ls', st')) (hd : decode cc pc = .ok (ins, len)) (hlen : am_len ins = len) (hok : am_oks n st) (hlok : ∀ i v, am_get ls i = some v → am_ok n v) (hl : lv_has jls ls.length (am_lr ρ ls)) :
    am_oks n st' ∧ (∀ i v, am_get ls' i = some v → am_ok n v) ∧ ls'.length = ls.length ∧ ((∀ jls', lv_has jls' ls'.length (am_lr ρ ls') → W p l e R s m args below meth c H locs cells slots Q (F0 m (pc + len) jls' (st'.map (am_rep ρ)))) → W p l e R s m args below meth c H locs cells slots Q (F0 m pc jls (st.map (am_rep ρ)))) := by
  subst hlen
  have hsto : ∀ {i : Nat} {v : am_V} {l2 : am_L}, am_st ls i v = some l2 → am_ok n v → ∀ j w, am_get l2 j = some w → am_ok n w := by
    intro i v l2 h1 h2 j w h3
    rcases am_st_get h1 h3 with ⟨-, e⟩ | ⟨-, -, e, -⟩
    · rw [e]; exact h2
    · exact hlok j w e
  unfold am_loc at h
  split at h
  · split at h
    · rename_i x hg
      cases h
      refine ⟨am_oks_cons.mpr ⟨hlok _ _ hg, hok⟩, hlok, rfl, fun k => ?_⟩
      exact lv_iload hexec hb hd (am_lr_at hl hg) (k jls hl)
    · cases h
  · split at h
    · rename_i x hg
      cases h
      refine ⟨am_oks_cons.mpr ⟨hlok _ _ hg, hok⟩, hlok, rfl, fun k => ?_⟩
      exact lv_iload_n hexec hb hd rfl (am_lr_at hl hg) (k jls hl)
    · cases h
  · split at h
    · rename_i x hg
      cases h
      refine ⟨am_oks_cons.mpr ⟨hlok _ _ hg, hok⟩, hlok, rfl, fun k => ?_⟩
      exact lv_lload hexec hb hd (am_lr_at hl hg) (k jls hl)
    · cases h
  · split at h
    · rename_i x hg
      cases h
      refine ⟨am_oks_cons.mpr ⟨hlok _ _ hg, hok⟩, hlok, rfl, fun k => ?_⟩
      exact lv_lload_n hexec hb hd rfl (am_lr_at hl hg) (k jls hl)
    · cases h
  · split at h
    · rename_i x hg
      cases h
      refine ⟨am_oks_cons.mpr ⟨hlok _ _ hg, hok⟩, hlok, rfl, fun k => ?_⟩
      have hat := am_lr_at hl hg
      have k2 := k jls hl
      rw [List.map_cons] at k2
      rcases am_rep_ref ρ x with e | ⟨a, e⟩
      · rw [e] at hat k2
        exact lv_aloadN hexec hb hd hat k2
      · rw [e] at hat k2
        exact lv_aload hexec hb hd hat k2
    · cases h
  · split at h
    · rename_i x hg
      cases h
      refine ⟨am_oks_cons.mpr ⟨hlok _ _ hg, hok⟩, hlok, rfl, fun k => ?_⟩
      have hat := am_lr_at hl hg
      have k2 := k jls hl
      rw [List.map_cons] at k2
      rcases am_rep_ref ρ x with e | ⟨a, e⟩
      · rw [e] at hat k2
        exact lv_aload_nN hexec hb hd rfl hat k2
      · rw [e] at hat k2
        exact lv_aload_n hexec hb hd rfl hat k2
    · cases h
  · split at h
    · rename_i x r
      cases hs : am_st ls _ (.inl x) with
      | none => rw [hs] at h; cases h
      | some l2 =>
        rw [hs] at h
        cases h
        obtain ⟨hx, hok⟩ := am_oks_cons.mp hok
        obtain ⟨q1, q2, q3⟩ := am_st_len hs
        refine ⟨hok, hsto hs hx, q1, fun k => ?_⟩
        refine lv_istore hexec hb hd hl q2 rfl (fun jl hjl => k jl ?_)
        rw [q1]
        exact am_lr_st1 hs hjl
    · cases h
  · split at h
    · rename_i x r
      cases hs : am_st ls _ (.inl x) with
      | none => rw [hs] at h; cases h
      | some l2 =>
        rw [hs] at h
        cases h
        obtain ⟨hx, hok⟩ := am_oks_cons.mp hok
        obtain ⟨q1, q2, q3⟩ := am_st_len hs
        refine ⟨hok, hsto hs hx, q1, fun k => ?_⟩
        refine lv_istore_n hexec hb hd rfl hl q2 rfl (fun jl hjl => k jl ?_)
        rw [q1]
        exact am_lr_st1 hs hjl
    · cases h
  · split at h
    · rename_i x r
      cases hs : am_st ls _ (.inr (.inl x)) with
      | none => rw [hs] at h; cases h
      | some l2 =>
        rw [hs] at h
        cases h
        obtain ⟨hx, hok⟩ := am_oks_cons.mp hok
        obtain ⟨q1, q2, q3⟩ := am_st_len hs
        refine ⟨hok, hsto hs hx, q1, fun k => ?_⟩
        refine lv_lstore hexec hb hd hl (q3 rfl) rfl (fun jl hjl => k jl ?_)
        rw [q1]
        exact am_lr_st2 hs rfl hjl
    · cases h
  · split at h
    · rename_i x r
      cases hs : am_st ls _ (.inr (.inl x)) with
      | none => rw [hs] at h; cases h
      | some l2 =>
        rw [hs] at h
        cases h
        obtain ⟨hx, hok⟩ := am_oks_cons.mp hok
        obtain ⟨q1, q2, q3⟩ := am_st_len hs
        refine ⟨hok, hsto hs hx, q1, fun k => ?_⟩
        refine lv_lstore_n hexec hb hd rfl hl (q3 rfl) rfl (fun jl hjl => k jl ?_)
        rw [q1]
        exact am_lr_st2 hs rfl hjl
    · cases h
  · split at h
    · rename_i x r
      cases hs : am_st ls _ (.inr (.inr x)) with
      | none => rw [hs] at h; cases h
      | some l2 =>
        rw [hs] at h
        cases h
        obtain ⟨hx, hok⟩ := am_oks_cons.mp hok
        obtain ⟨q1, q2, q3⟩ := am_st_len hs
        refine ⟨hok, hsto hs hx, q1, fun k => ?_⟩
        rw [List.map_cons]
        rcases am_rep_ref ρ x with e | ⟨a, e⟩
        · rw [e]
          refine lv_astoreN hexec hb hd hl q2 rfl (fun jl hjl => k jl ?_)
          rw [q1]
          rw [← e] at hjl
          exact am_lr_st1 hs hjl
        · rw [e]
          refine lv_astore hexec hb hd hl q2 rfl (fun jl hjl => k jl ?_)
          rw [q1]
          rw [← e] at hjl
          exact am_lr_st1 hs hjl
    · cases h
  · split at h
    · rename_i x r
      cases hs : am_st ls _ (.inr (.inr x)) with
      | none => rw [hs] at h; cases h
      | some l2 =>
        rw [hs] at h
        cases h
        obtain ⟨hx, hok⟩ := am_oks_cons.mp hok
        obtain ⟨q1, q2, q3⟩ := am_st_len hs
        refine ⟨hok, hsto hs hx, q1, fun k => ?_⟩
        rw [List.map_cons]
        rcases am_rep_ref ρ x with e | ⟨a, e⟩
        · rw [e]
          refine lv_astore_nN hexec hb hd rfl hl q2 rfl (fun jl hjl => k jl ?_)
          rw [q1]
          rw [← e] at hjl
          exact am_lr_st1 hs hjl
        · rw [e]
          refine lv_astore_n hexec hb hd rfl hl q2 rfl (fun jl hjl => k jl ?_)
          rw [q1]
          rw [← e] at hjl
          exact am_lr_st1 hs hjl
    · cases h
  · split at h
    · rename_i i0 n0 _ x hg
      cases hs : am_st ls i0 (.inl (am_w32 (x + n0))) with
      | none => rw [hs] at h; cases h
      | some l2 =>
        rw [hs] at h
        cases h
        obtain ⟨q1, q2, q3⟩ := am_st_len hs
        refine ⟨hok, hsto hs (am_w32_in _), q1, fun k => ?_⟩
        obtain ⟨kk, hkk⟩ := List.getElem?_of_mem (am_lr_mem (ρ := ρ) hg)
        refine lv_iinc hexec hb (v := Int32.ofInt (am_w32 (x + n0))) hd hl hkk ?_ q2 rfl (fun jl hjl => k jl ?_)
        · rw [am_of32, Int32.ofInt_add]
        · rw [q1]
          exact am_lr_st1 (v := .inl (am_w32 (x + n0))) hs hjl
    · cases h
  · cases h
end AMW
