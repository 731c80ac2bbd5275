/-! the law up to its row of twenty bytes -/
def am_hp0 (X : Nat → Int) (h : am2_H) : am_H := am2_rp (am_I0 X) (fun _ _ => 0) am_R0 h
theorem am2_ro_ok {L : Nat} : ∀ q x, am2_ro q = some x → am_ro L q = some x := by
  intro q x h
  unfold am2_ro at h
  unfold am_ro
  split at h
  · subst q; exact h
  · split at h
    · subst q; exact h
    · split at h
      · subst q; exact h
      · split at h
        · subst q; exact h
        · cases h
theorem am2_bI_ok {X : Nat → Int} : ∀ p k v, am2_b.1 p k = some v → am_I0 X p k = v := by
  intro p k v h
  change (if p = am_SP + 20 then some (am_s29.getD k 0) else if p = am_SP + 21 then some (am_s84.getD k 0) else if p = am_SP + 10 then some 0 else if p = am_SP + 11 then some 0 else none) = some v at h
  unfold am_I0
  split at h
  · subst p; cases h
    rw [if_neg (by omega), if_pos rfl]
  · split at h
    · subst p; cases h
      rw [if_neg (by omega), if_neg (by omega), if_pos rfl]
    · split at h
      · subst p; cases h
        rw [if_neg (by omega), if_neg (by omega), if_neg (by omega)]
      · split at h
        · subst p; cases h
          rw [if_neg (by omega), if_neg (by omega), if_neg (by omega)]
        · cases h
theorem am2_bR_ok : ∀ p k v, am2_b.2 p k = some v → am_R0 p k = v := by
  intro p k v h
  change (if k = 0 then (if p = am_SP + 10 then some (am_SP + 20) else if p = am_SP + 11 then some (am_SP + 21) else none) else none) = some v at h
  unfold am_R0
  split at h
  · rename_i e
    rw [if_pos e]
    split at h
    · rename_i e; rw [if_pos e]; exact Option.some.inj h
    · rename_i e; rw [if_neg e]
      split at h
      · rename_i e; rw [if_pos e]; exact Option.some.inj h
      · cases h
  · cases h
theorem am2_b_SP : (∀ p k v, am2_b.1 p k = some v → am_SP ≤ p) ∧ ∀ p k v, am2_b.2 p k = some v → am_SP ≤ p := by
  refine ⟨fun p k v h => ?_, fun p k v h => ?_⟩
  · change (if p = am_SP + 20 then some (am_s29.getD k 0) else if p = am_SP + 21 then some (am_s84.getD k 0) else if p = am_SP + 10 then some 0 else if p = am_SP + 11 then some 0 else none) = some v at h
    split at h
    · omega
    · split at h
      · omega
      · split at h
        · omega
        · split at h
          · omega
          · cases h
  · change (if k = 0 then (if p = am_SP + 10 then some (am_SP + 20) else if p = am_SP + 11 then some (am_SP + 21) else none) else none) = some v at h
    split at h
    · split at h
      · omega
      · split at h
        · omega
        · cases h
    · cases h
theorem am_mA {L : Nat} {X : Nat → Int} : am_M (am_ro L) 20 158 [.inr (.inr 1)] (am_hp0 X am_hA0) (fun r => r = .inl (none, am_hp0 X am_hA1)) := ⟨20000, _, am2_exec_rp am2_ro_ok am2_bI_ok am2_bR_ok 20 158 _ _ _ am_ctA, rfl⟩
set_option maxRecDepth 100000 in
theorem am_head {L : Nat} {X : Nat → Int} {Q : am_R → Prop} (w : am_W (am_ro L) 100 0 13 [some (am_r (am_SP + 2)), some (am_r 1), some (am_r 110), none, none, none, none, none] [] (am_hp0 X am_hB) Q) : am_W (am_ro L) 100 0 0 (am_ent 8 [am_r (am_SP + 2)]) [] (am_h0 X) Q := by
  refine am_W_new (st' := [am_r 1]) (ls' := am_ent 8 [am_r (am_SP + 2)]) (h' := am_hp0 X am_hA0) rfl (by decide) rfl ?_
  refine am_W_nrm (st' := [am_r 1, am_r 1]) (ls' := am_ent 8 [am_r (am_SP + 2)]) (h' := am_hp0 X am_hA0) rfl rfl rfl ?_
  refine am_W_spec (a := 158) rfl (by decide) (ar := []) (p := 1) (r := [am_r 1]) rfl ⟨by decide, by decide⟩ (by decide) (am_M_deep (by decide) am_mA) (fun v h' q => ?_) (am_K2_none (fun x h' q => by cases q))
  cases q
  refine am_W_nrm (st' := []) (ls' := [some (am_r (am_SP + 2)), some (am_r 1), none, none, none, none, none, none]) (h' := am_hp0 X am_hA1) rfl rfl rfl ?_
  refine am_W_nrm (st' := [am_i 20]) (ls' := [some (am_r (am_SP + 2)), some (am_r 1), none, none, none, none, none, none]) (h' := am_hp0 X am_hA1) rfl rfl rfl ?_
  refine am_W_nrm (st' := [am_r 110]) (ls' := [some (am_r (am_SP + 2)), some (am_r 1), none, none, none, none, none, none]) (h' := am_hp0 X am_hB) rfl rfl rfl ?_
  refine am_W_nrm (st' := []) (ls' := [some (am_r (am_SP + 2)), some (am_r 1), some (am_r 110), none, none, none, none, none]) (h' := am_hp0 X am_hB) rfl rfl rfl ?_
  exact w
