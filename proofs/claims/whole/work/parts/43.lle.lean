/-! less is known of the locals: a run that comes to its end does so if more is known -/
def am_lle (l l' : am_L) : Prop := List.length l = List.length l' ∧ ∀ (i : Nat) (v : am_V), l[i]? = some (some v) → l'[i]? = some (some v)
theorem am_lle_refl (l : am_L) : am_lle l l := ⟨rfl, fun _ _ h => h⟩
theorem am_lle_get {l l' : am_L} (h : am_lle l l') {i : Nat} {v : am_V} (hg : am_get l i = some v) : am_get l' i = some v := by
  unfold am_get at hg ⊢
  split at hg
  · rename_i w hw
    cases hg
    rw [h.2 i _ hw]
  · cases hg
theorem am_lle_set {l l' : am_L} (h : am_lle l l') (i : Nat) (o : Option am_V) : am_lle (l.set i o) (l'.set i o) := by
  refine ⟨by rw [List.length_set, List.length_set]; exact h.1, fun k v hk => ?_⟩
  by_cases hki : k = i
  · subst hki
    by_cases hlt : k < l.length
    · rw [List.getElem?_set_self hlt] at hk
      rw [List.getElem?_set_self (by rw [← h.1]; exact hlt)]
      exact hk
    · rw [List.getElem?_eq_none_iff.mpr (by rw [List.length_set]; omega)] at hk; cases hk
  · rw [List.getElem?_set_ne (fun z => hki z.symm)] at hk ⊢
    exact h.2 k v hk
theorem am_lle_pre {l l' : am_L} (h : am_lle l l') (i : Nat) : am_lle (am_pre l i) (am_pre l' i) := by
  have key : ∀ z, l'[i - 1]? = some (some (.inr (.inl z))) → am_lle (am_pre l i) (if i = 0 then l' else l'.set (i - 1) none) := by
    intro z hz
    unfold am_pre
    split
    · split
      · exact h
      · exact am_lle_set h _ _
    · rename_i hn
      split
      · exact h
      · refine ⟨by rw [List.length_set]; exact h.1, fun k v hk => ?_⟩
        by_cases hki : k = i - 1
        · exfalso
          subst hki
          have := h.2 _ _ hk
          rw [hz] at this
          cases this
          exact hn _ hk
        · rw [List.getElem?_set_ne (fun z => hki z.symm)]
          exact h.2 k v hk
  by_cases hz : ∃ z, l'[i - 1]? = some (some (.inr (.inl z)))
  · obtain ⟨z, hz⟩ := hz
    have h1 := key z hz
    have e : am_pre l' i = if i = 0 then l' else l'.set (i - 1) none := by
      unfold am_pre
      rw [hz]
    rw [e]; exact h1
  · have e : am_pre l' i = l' := by
      unfold am_pre
      split
      · rename_i z hz2; exact absurd ⟨z, hz2⟩ hz
      · rfl
    have e2 : am_pre l i = l := by
      unfold am_pre
      split
      · rename_i z hz2; exact absurd ⟨z, h.2 _ _ hz2⟩ hz
      · rfl
    rw [e, e2]; exact h
theorem am_lle_st {l l' k : am_L} (h : am_lle l l') {i : Nat} {v : am_V} (hs : am_st l i v = some k) : ∃ k', am_st l' i v = some k' ∧ am_lle k k' := by
  unfold am_st at hs ⊢
  split at hs
  · rename_i hc
    rw [if_pos hc]
    split at hs
    · rename_i hi
      cases hs
      exact ⟨_, if_pos (by rw [← h.1]; exact hi), am_lle_set (am_lle_pre h i) _ _⟩
    · cases hs
  · rename_i hc
    rw [if_neg hc]
    split at hs
    · rename_i hi
      cases hs
      exact ⟨_, if_pos (by rw [← h.1]; exact hi), am_lle_set (am_lle_set (am_lle_pre h i) _ _) _ _⟩
    · cases hs
theorem am_lle_loc {l l' k : am_L} (h : am_lle l l') {ins : Instr} {st s : List am_V} (hs : am_loc ins l st = some (k, s)) : ∃ k', am_loc ins l' st = some (k', s) ∧ am_lle k k' := by
  have ld : ∀ {i : Nat} {v : am_V}, am_get l i = some v → am_get l' i = some v := fun q => am_lle_get h q
  have hst : ∀ {i : Nat} {v : am_V} {r : List am_V}, (am_st l i v).map (fun l => (l, r)) = some (k, s) → ∃ k', (am_st l' i v).map (fun l => (l, r)) = some (k', s) ∧ am_lle k k' := by
    intro i v r q
    obtain ⟨x, h1, h2⟩ := Option.map_eq_some_iff.mp q
    cases h2
    obtain ⟨k', g1, g2⟩ := am_lle_st h h1
    exact ⟨k', by rw [g1]; rfl, g2⟩
  unfold am_loc at hs
  split at hs
  case h_1 =>
    split at hs
    · rename_i g; cases hs; exact ⟨l', by unfold am_loc; dsimp only; rw [ld g], h⟩
    · cases hs
  case h_2 =>
    split at hs
    · rename_i g; cases hs; exact ⟨l', by unfold am_loc; dsimp only; rw [ld g], h⟩
    · cases hs
  case h_3 =>
    split at hs
    · rename_i g; cases hs; exact ⟨l', by unfold am_loc; dsimp only; rw [ld g], h⟩
    · cases hs
  case h_4 =>
    split at hs
    · rename_i g; cases hs; exact ⟨l', by unfold am_loc; dsimp only; rw [ld g], h⟩
    · cases hs
  case h_5 =>
    split at hs
    · rename_i g; cases hs; exact ⟨l', by unfold am_loc; dsimp only; rw [ld g], h⟩
    · cases hs
  case h_6 =>
    split at hs
    · rename_i g; cases hs; exact ⟨l', by unfold am_loc; dsimp only; rw [ld g], h⟩
    · cases hs
  case h_7 =>
    split at hs
    · obtain ⟨k', g1, g2⟩ := hst hs; exact ⟨k', g1, g2⟩
    · cases hs
  case h_8 =>
    split at hs
    · obtain ⟨k', g1, g2⟩ := hst hs; exact ⟨k', g1, g2⟩
    · cases hs
  case h_9 =>
    split at hs
    · obtain ⟨k', g1, g2⟩ := hst hs; exact ⟨k', g1, g2⟩
    · cases hs
  case h_10 =>
    split at hs
    · obtain ⟨k', g1, g2⟩ := hst hs; exact ⟨k', g1, g2⟩
    · cases hs
  case h_11 =>
    split at hs
    · obtain ⟨k', g1, g2⟩ := hst hs; exact ⟨k', g1, g2⟩
    · cases hs
  case h_12 =>
    split at hs
    · obtain ⟨k', g1, g2⟩ := hst hs; exact ⟨k', g1, g2⟩
    · cases hs
  case h_13 =>
    split at hs
    · rename_i g
      obtain ⟨k', g1, g2⟩ := hst hs
      exact ⟨k', by unfold am_loc; dsimp only; rw [ld g]; exact g1, g2⟩
    · cases hs
  case h_14 => cases hs
def am_isl (ins : Instr) : Bool := match ins with
  | .iload _ | .iload_n _ | .lload _ | .lload_n _ | .aload _ | .aload_n _ | .istore _ | .istore_n _ | .lstore _ | .lstore_n _ | .astore _ | .astore_n _ | .iinc _ _ => true
  | _ => false
section AML
variable {ro : Nat → Option (Nat × Nat)} {fty : Nat → Nat → Nat} {nf na rc : Nat → Nat} {hd : Nat → Nat → Option (Option (Nat × Nat))} {rt : Nat} {call : Nat → List am_V → am_H → Option am_R} {C : Nat → Option am_E} {res : am_R}
theorem am_loc_none {ins : Instr} (hi : am_isl ins = false) (l : am_L) (st : List am_V) : am_loc ins l st = none := by
  cases ins <;> first | (cases hi; done) | rfl
theorem am_norm_lle {ins : Instr} {a b : Nat} {z : Int} {l l' : am_L} {st : List am_V} {h : am_H} {k : am_L} {s : List am_V} {h' : am_H} (hl : am_lle l l') (hn : am_norm ro fty nf ins a b z l st h = some (k, s, h')) : ∃ k', am_norm ro fty nf ins a b z l' st h = some (k', s, h') ∧ am_lle k k' := by
  unfold am_norm at hn
  split at hn
  · rename_i k2 s2 h1
    cases hn
    obtain ⟨k', g1, g2⟩ := am_lle_loc hl h1
    exact ⟨k', by unfold am_norm; rw [g1], g2⟩
  · rename_i h1
    by_cases hi : am_isl ins = false
    · split at hn
      · rename_i s2 ha
        cases hn
        exact ⟨l', by unfold am_norm; rw [am_loc_none hi]; dsimp only; rw [ha], hl⟩
      · rename_i ha
        split at hn
        · rename_i s2 h2 hp
          cases hn
          exact ⟨l', by unfold am_norm; rw [am_loc_none hi]; dsimp only; rw [ha]; dsimp only; rw [hp], hl⟩
        · cases hn
    · exfalso
      revert hn hi
      cases ins <;> first | (intro _ hi; exact hi rfl) | (intro hn _; cases hn)
theorem am_run_lle : ∀ (n pc : Nat) (l l' : am_L) (st : List am_V) (h : am_H), am_lle l l' → am_run ro fty nf na rc C hd rt call n pc l st h = some res → am_run ro fty nf na rc C hd rt call n pc l' st h = some res
  | 0, _, _, _, _, _, _, hh => by cases hh
  | n + 1, pc, l, l', st, h, hl, hh => by
    rw [am_run] at hh ⊢
    cases hC : C pc with
    | none => rw [hC] at hh; cases hh
    | some E =>
      rw [hC] at hh
      dsimp only at hh ⊢
      have ih := fun pc l l' st h hl => am_run_lle n pc l l' st h hl
      have haft : ∀ {len : Nat} {r : List am_V} {o : Option am_R}, am_aft hd (am_run ro fty nf na rc C hd rt call n) pc len l r o = some res → am_aft hd (am_run ro fty nf na rc C hd rt call n) pc len l' r o = some res := by
        intro len r o q
        unfold am_aft at q ⊢
        split at q
        · cases q
        · exact ih _ _ _ _ _ hl q
        · split at q
          · cases q
          · exact q
          · split at q
            · rename_i k hk
              obtain ⟨k', g1, g2⟩ := am_lle_st hl hk
              rw [g1]
              exact ih _ _ _ _ _ (am_lle_set g2 _ _) q
            · cases q
      have hnx : ∀ {len : Nat} {o : Option (List am_V × am_H)}, am_nx (am_run ro fty nf na rc C hd rt call n) (pc + len) (o.map (fun x => (l, x.1, x.2))) = some res → am_nx (am_run ro fty nf na rc C hd rt call n) (pc + len) (o.map (fun x => (l', x.1, x.2))) = some res := by
        intro len o q
        cases o with
        | none => cases q
        | some x => exact ih _ _ _ _ _ hl q
      have hnm : ∀ {len a b : Nat} {z : Int} {ins : Instr}, am_nx (am_run ro fty nf na rc C hd rt call n) (pc + len) (am_norm ro fty nf ins a b z l st h) = some res → am_nx (am_run ro fty nf na rc C hd rt call n) (pc + len) (am_norm ro fty nf ins a b z l' st h) = some res := by
        intro len a b z ins q
        cases hq : am_norm ro fty nf ins a b z l st h with
        | none => rw [hq] at q; cases q
        | some x =>
          obtain ⟨k, s, h'⟩ := x
          rw [hq] at q
          obtain ⟨k', g1, g2⟩ := am_norm_lle hl hq
          rw [g1]
          exact ih _ _ _ _ _ g2 q
      have hjm : ∀ {r : List am_V} {o : Option Nat}, am_jmp (am_run ro fty nf na rc C hd rt call n) l r h o = some res → am_jmp (am_run ro fty nf na rc C hd rt call n) l' r h o = some res := by
        intro r o q
        cases o with
        | none => cases q
        | some t => exact ih _ _ _ _ _ hl q
      obtain ⟨len, ins, a, b, z⟩ := E
      revert hh
      cases ins
      case goto off => exact fun hh => hjm hh
      case ifCond c off =>
        unfold am_one
        dsimp only
        split
        · split
          · exact fun hh => ih _ _ _ _ _ hl hh
          · exact fun hh => ih _ _ _ _ _ hl hh
        · exact id
      case if_icmp c off =>
        unfold am_one
        dsimp only
        split
        · split
          · exact fun hh => ih _ _ _ _ _ hl hh
          · exact fun hh => ih _ _ _ _ _ hl hh
        · exact id
      case tableswitch dd lo hi offs =>
        unfold am_one
        dsimp only
        split
        · split
          · exact fun hh => hjm hh
          · split
            · exact fun hh => hjm hh
            · exact id
        · exact id
      case lookupswitch dd ps =>
        unfold am_one
        dsimp only
        split
        · split
          · exact fun hh => hjm hh
          · exact id
        · exact id
      case ireturn => exact id
      case lreturn => exact id
      case return_ => exact id
      case invokevirtual i =>
        unfold am_one
        dsimp only
        split
        · split
          · split
            · exact fun hh => haft hh
            · exact id
          · exact id
        · exact id
      case invokespecial i =>
        unfold am_one
        dsimp only
        split
        · split
          · exact fun hh => hnx hh
          · exact id
        · split
          · split
            · exact fun hh => haft hh
            · exact id
          · exact id
      case invokestatic i =>
        unfold am_one
        dsimp only
        split
        · split
          · exact fun hh => hnx hh
          · exact id
        · split
          · split
            · exact fun hh => haft hh
            · exact id
          · exact id
      case new i =>
        unfold am_one
        dsimp only
        split
        · exact id
        · exact fun hh => hnm hh
      all_goals (unfold am_one; dsimp only; exact fun hh => hnm hh)
end AML
theorem ak_W1_lle {e : ak_X3} {r d j : Nat} {ρ : List Nat} {h : ak_S} {pc : Nat} {ls ls' : am_L} {st : List am_V} {Q : List Nat → ak_R3 → Prop} (hl : am_lle ls ls') (w : ak_W1 e r d j ρ pc ls st h Q) : ak_W1 e r d j ρ pc ls' st h Q := by
  obtain ⟨ρ', res, h1, h2⟩ := w
  refine ⟨ρ', res, h1, fun g hg => ?_⟩
  obtain ⟨F, n, h3⟩ := h2 g hg
  exact ⟨F, n, am_run_lle n pc ls ls' st _ hl h3⟩
def am3_lv : List Bool → am_L → am_L
  | true :: m, o :: l => o :: am3_lv m l
  | false :: m, _ :: l => none :: am3_lv m l
  | _, l => l
theorem am3_lv_le : ∀ (m : List Bool) (l : am_L), am_lle (am3_lv m l) l
  | [], l => by cases l <;> exact ⟨rfl, fun i v h => h⟩
  | true :: m, [] => ⟨rfl, fun i v h => h⟩
  | false :: m, [] => ⟨rfl, fun i v h => h⟩
  | true :: m, o :: l => by
    obtain ⟨h1, h2⟩ := am3_lv_le m l
    refine ⟨congrArg (· + 1) h1, fun i v h => ?_⟩
    cases i with
    | zero => exact h
    | succ i => exact h2 i v h
  | false :: m, o :: l => by
    obtain ⟨h1, h2⟩ := am3_lv_le m l
    refine ⟨congrArg (· + 1) h1, fun i v h => ?_⟩
    cases i with
    | zero => cases h
    | succ i => exact h2 i v h
/-- up to labels; a label: a place, the locals that are wanted there -/
def am3_ev (e : ak_X3) (r d : Nat) (ρ : List Nat) (C : Nat → Option am_E) (hl : List am_HE) (rt : Nat) (lab : List (Nat × List Bool)) (K : Nat → am_L → List am_V → ak_S → Prop) (Q : ak_R3 → Prop) : Nat → Nat → am_L → List am_V → ak_S → Prop
  | 0, pc, ls, st, h => K pc ls st h
  | n + 1, pc, ls, st, h => am3_one e r d ρ hl rt Q (fun pc ls st h => match lab.lookup pc with
    | some m => K pc (am3_lv m ls) st h
    | none => am3_ev e r d ρ C hl rt lab K Q n pc ls st h) (C pc) pc ls st h
theorem am3_ev_ok {e : ak_X3} {r d j : Nat} {ρ : List Nat} {Q : ak_R3 → Prop} {Q' : List Nat → ak_R3 → Prop} {lab : List (Nat × List Bool)} {K : Nat → am_L → List am_V → ak_S → Prop} (hK : ∀ pc ls st h, K pc ls st h → ak_W1 e r d j ρ pc ls st h Q') (hQ : ∀ x, Q x → Q' ρ x) : ∀ (n pc : Nat) (ls : am_L) (st : List am_V) (h : ak_S),
    am3_ev e r d ρ (am_co am_P j) (am_hl am_P j) (am_rtag (am_re am_P j)) lab K Q n pc ls st h → ak_W1 e r d j ρ pc ls st h Q'
  | 0, pc, ls, st, h, hh => hK _ _ _ _ hh
  | n + 1, pc, ls, st, h, hh => by
    refine am3_one_ok (fun pc ls st h q => ?_) hQ hh
    split at q
    · exact ak_W1_lle (am3_lv_le _ _) (hK _ _ _ _ q)
    · exact am3_ev_ok hK hQ n pc ls st h q
theorem ak_k_ok {e : ak_X3} {r d j : Nat} {ρ : List Nat} {Q : ak_R3 → Prop} {C : Nat → Option am_E} {hl : List am_HE} {rt pc : Nat} {ls : am_L} {st : List am_V} {h : ak_S} (hc : am_co am_P j = C ∧ am_hl am_P j = hl ∧ am_rtag (am_re am_P j) = rt) (n : Nat) (lab : List (Nat × List Bool))
    (w : am3_ev e r d ρ C hl rt lab (fun pc ls st h => ak_W0 e r d j ρ pc ls st h Q) Q n pc ls st h) : ak_W0 e r d j ρ pc ls st h Q := by
  obtain ⟨rfl, rfl, rfl⟩ := hc
  exact am3_ev_ok (fun _ _ _ _ q => q) (fun x q => ⟨rfl, q⟩) n pc ls st h w
theorem ak_MV_of {e : ak_X3} {r d j : Nat} {ρ : List Nat} {ar : List am_V} {h : ak_S} {Q : ak_S → Prop} {X : Nat → ak_S → Prop} (hc : am_cats ar ≤ am_ml am_P j) (w : ak_W0 e r d j ρ 0 (am_ent (am_ml am_P j) ar) [] h (ak_qv Q X)) : ak_MV e r (d + 1) ρ j ar h Q X := ak_M1_of hc w
theorem ak_MI_of {e : ak_X3} {r d j : Nat} {ρ : List Nat} {ar : List am_V} {h : ak_S} {Q : Int → ak_S → Prop} {X : Nat → ak_S → Prop} (hc : am_cats ar ≤ am_ml am_P j) (w : ak_W0 e r d j ρ 0 (am_ent (am_ml am_P j) ar) [] h (ak_qi Q X)) : ak_MI e r (d + 1) ρ j ar h Q X := ak_M1_of hc w
theorem ak_MJ_of {e : ak_X3} {r d j : Nat} {ρ : List Nat} {ar : List am_V} {h : ak_S} {Q : Int → ak_S → Prop} {X : Nat → ak_S → Prop} (hc : am_cats ar ≤ am_ml am_P j) (w : ak_W0 e r d j ρ 0 (am_ent (am_ml am_P j) ar) [] h (ak_qj Q X)) : ak_MJ e r (d + 1) ρ j ar h Q X := ak_M1_of hc w
abbrev ak_T (u : Nat) : Nat := 9 + 78 * u
