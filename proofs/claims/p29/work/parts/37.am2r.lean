def am2_prim (a : Nat) (st : List am_V) (h : am2_H) : Option (List am_V × am2_H) := match a with
  | 900 => (am_ii (fun x y => if x < y then y else x) st).map (fun r => (r, h))
  | 901 => (am_ii (fun x y => if x < y then x else y) st).map (fun r => (r, h))
  | 902 => (am_ll (fun x y => if y < x then y else x) st).map (fun r => (r, h))
  | 903 => match st with
    | .inr (.inr p) :: r => if p = 0 ∨ am_SP ≤ p then none else some (r, h)
    | _ => none
  | _ => none
def am2_norm (ro : Nat → Option (Nat × Nat)) (B : am2_B) (fty : Nat → Nat → Nat) (nf : Nat → Nat) (ins : Instr) (a b : Nat) (z : Int) (ls : am_L) (st : List am_V) (h : am2_H) : Option (am_L × List am_V × am2_H) :=
  match am_loc ins ls st with
  | some (l, s) => some (l, s, h)
  | none => match am_alu ins st with
    | some s => some (ls, s, h)
    | none => match am2_hp ro B fty nf ins a b z st h with
      | some (s, h') => some (ls, s, h')
      | none => none
def am2_aft (hd : Nat → Nat → Option (Option (Nat × Nat))) (k : Nat → am_L → List am_V → am2_H → Option am2_R) (pc len : Nat) (ls : am_L) (r : List am_V) (o : Option am2_R) : Option am2_R := match o with
  | none => none
  | some (.inl (v, h')) => k (pc + len) ls (v.toList ++ r) h'
  | some (.inr (x, h')) => match hd pc x with
    | none => none
    | some none => some (.inr (x, h'))
    | some (some (t, i)) => match am_st ls i (.inr (.inr 0)) with
      | some l => k t (l.set i none) [] h'
      | none => none
def am2_nx (k : Nat → am_L → List am_V → am2_H → Option am2_R) (pc : Nat) (o : Option (am_L × List am_V × am2_H)) : Option am2_R := match o with
  | some (l, s, h') => k pc l s h'
  | none => none
def am2_jmp (k : Nat → am_L → List am_V → am2_H → Option am2_R) (ls : am_L) (r : List am_V) (h : am2_H) (o : Option Nat) : Option am2_R := match o with
  | some t => k t ls r h
  | none => none
def am2_one (ro : Nat → Option (Nat × Nat)) (B : am2_B) (fty : Nat → Nat → Nat) (nf na rc : Nat → Nat) (hd : Nat → Nat → Option (Option (Nat × Nat))) (rt : Nat) (call : Nat → List am_V → am2_H → Option am2_R) (k : Nat → am_L → List am_V → am2_H → Option am2_R) (e : am_E) (pc : Nat) (ls : am_L) (st : List am_V) (h : am2_H) : Option am2_R :=
  match e with
  | (len, ins, a, b, z) => match ins with
    | .goto off => am2_jmp k ls st h (am_tgt pc off)
    | .ifCond c off => match am_tgt pc off, st with
      | some t, .inl x :: r => if am_cmp c x 0 = true then k t ls r h else k (pc + len) ls r h
      | _, _ => none
    | .if_icmp c off => match am_tgt pc off, st with
      | some t, .inl y :: .inl x :: r => if am_cmp c x y = true then k t ls r h else k (pc + len) ls r h
      | _, _ => none
    | .tableswitch d lo hi offs => match st with
      | .inl x :: r => if x < lo ∨ hi < x then am2_jmp k ls r h (am_tgt pc d) else (match offs[(x - lo).toNat]? with
          | some off => am2_jmp k ls r h (am_tgt pc off)
          | none => none)
      | _ => none
    | .lookupswitch d ps => match st with
      | .inl x :: r => if (ps.toList.zip (ps.toList.drop 1)).all (fun (u, v) => u.1 < v.1) = true then am2_jmp k ls r h (am_tgt pc (Op.lookupswitch.offset ps.toList d x)) else none
      | _ => none
    | .ireturn => match st with
      | .inl x :: [] => if rt = 1 ∨ (rt = 2 ∧ (x = 0 ∨ x = 1)) ∨ (rt = 4 ∧ -128 ≤ x ∧ x < 128) ∨ (rt = 5 ∧ 0 ≤ x ∧ x < 65536) then some (.inl (some (.inl x), h)) else none
      | _ => none
    | .lreturn => match st with
      | .inr (.inl x) :: [] => if rt = 3 then some (.inl (some (.inr (.inl x)), h)) else none
      | _ => none
    | .return_ => match st with
      | [] => if rt = 0 then some (.inl (none, h)) else none
      | _ => none
    | .invokevirtual _ => match am_args (na a) st with
      | some (.inr (.inr p) :: ar, r) => match am2_kind ro h p with
        | some (c, _) => if c = rc a ∧ am_cats r ≤ 8 then am2_aft hd k pc len ls r (call a (.inr (.inr p) :: ar) h) else none
        | none => none
      | _ => none
    | .invokespecial _ => if 900 ≤ a then (if am_cats st ≤ 40 then am2_nx k (pc + len) ((am2_prim a st h).map (fun x => (ls, x.1, x.2))) else none) else match am_args (na a) st with
      | some (.inr (.inr p) :: ar, r) => if p ≠ 0 ∧ p < am_SP ∧ am_cats r ≤ 8 then am2_aft hd k pc len ls r (call a (.inr (.inr p) :: ar) h) else none
      | _ => none
    | .invokestatic _ => if 900 ≤ a then (if am_cats st ≤ 40 then am2_nx k (pc + len) ((am2_prim a st h).map (fun x => (ls, x.1, x.2))) else none) else match am_args (na a) st with
      | some (ar, r) => if am_cats r ≤ 8 then am2_aft hd k pc len ls r (call a ar h) else none
      | none => none
    | .new _ => if 50 ≤ a then none
      else am2_nx k (pc + len) (am2_norm ro B fty nf ins a b z ls st h)
    | _ => am2_nx k (pc + len) (am2_norm ro B fty nf ins a b z ls st h)
def am2_run (ro : Nat → Option (Nat × Nat)) (B : am2_B) (fty : Nat → Nat → Nat) (nf na rc : Nat → Nat) (C : Nat → Option am_E) (hd : Nat → Nat → Option (Option (Nat × Nat))) (rt : Nat) (call : Nat → List am_V → am2_H → Option am2_R) : Nat → Nat → am_L → List am_V → am2_H → Option am2_R
  | 0, _, _, _, _ => none
  | n + 1, pc, ls, st, h => match C pc with
    | none => none
    | some e => am2_one ro B fty nf na rc hd rt call (am2_run ro B fty nf na rc C hd rt call n) e pc ls st h
def am2_exec (P : am_PG) (ro : Nat → Option (Nat × Nat)) (B : am2_B) (F : Nat) : Nat → Nat → List am_V → am2_H → Option am2_R
  | 0, _, _, _ => none
  | d + 1, j, ar, h => if am_cats ar ≤ am_ml P j then am2_run ro B am_fty am_nf (am_na P) (am_rc P) (am_co P j) (am_hdf (am_hl P j)) (am_rtag (am_re P j)) (am2_exec P ro B F d) F 0 (am_ent (am_ml P j) ar) [] h else none
def am2_rr (bI bJ : Nat → Nat → Int) (bR : Nat → Nat → Nat) : am2_R → am_R
  | .inl (v, h) => .inl (v, am2_rp bI bJ bR h)
  | .inr (x, h) => .inr (x, am2_rp bI bJ bR h)
section AM2R
variable {ro2 ro : Nat → Option (Nat × Nat)} {B : am2_B} {bI bJ : Nat → Nat → Int} {bR : Nat → Nat → Nat} {fty : Nat → Nat → Nat} {nf na rc : Nat → Nat}
variable {hd : Nat → Nat → Option (Option (Nat × Nat))} {k2 : Nat → am_L → List am_V → am2_H → Option am2_R} {k : Nat → am_L → List am_V → am_H → Option am_R} {res : am2_R}
theorem am2_prim_rp {a : Nat} {st st' : List am_V} {h h' : am2_H} (hp : am2_prim a st h = some (st', h')) : am_prim ro a st (am2_rp bI bJ bR h) = some (st', am2_rp bI bJ bR h') := by
  unfold am2_prim at hp
  split at hp
  · obtain ⟨v, h1, h2⟩ := Option.map_eq_some_iff.mp hp
    cases h2
    exact Option.map_eq_some_iff.mpr ⟨_, h1, rfl⟩
  · obtain ⟨v, h1, h2⟩ := Option.map_eq_some_iff.mp hp
    cases h2
    exact Option.map_eq_some_iff.mpr ⟨_, h1, rfl⟩
  · obtain ⟨v, h1, h2⟩ := Option.map_eq_some_iff.mp hp
    cases h2
    exact Option.map_eq_some_iff.mpr ⟨_, h1, rfl⟩
  · split at hp
    · split at hp
      · cases hp
      · rename_i hc
        cases hp
        exact if_neg hc
    · cases hp
  · cases hp
theorem am2_norm_rp (hro : ∀ q x, ro2 q = some x → ro q = some x) (hI : ∀ p k v, B.1 p k = some v → bI p k = v) (hR : ∀ p k v, B.2 p k = some v → bR p k = v) {ins : Instr} {a b : Nat} {z : Int} {ls ls' : am_L} {st st' : List am_V} {h h' : am2_H} (hp : am2_norm ro2 B fty nf ins a b z ls st h = some (ls', st', h')) :
    am_norm ro fty nf ins a b z ls st (am2_rp bI bJ bR h) = some (ls', st', am2_rp bI bJ bR h') := by
  unfold am2_norm at hp
  unfold am_norm
  cases hl : am_loc ins ls st with
  | some x =>
    obtain ⟨l, s⟩ := x
    rw [hl] at hp
    cases hp
    rfl
  | none =>
    rw [hl] at hp
    dsimp only at hp ⊢
    cases ha : am_alu ins st with
    | some x =>
      rw [ha] at hp
      cases hp
      rfl
    | none =>
      rw [ha] at hp
      dsimp only at hp ⊢
      cases hh : am2_hp ro2 B fty nf ins a b z st h with
      | none => rw [hh] at hp; cases hp
      | some x =>
        obtain ⟨s, h2⟩ := x
        rw [hh] at hp
        cases hp
        rw [am2_hp_rp hro hI hR hh]
theorem am2_jmp_rp (hk : ∀ pc ls st h r, k2 pc ls st h = some r → k pc ls st (am2_rp bI bJ bR h) = some (am2_rr bI bJ bR r)) {ls : am_L} {r : List am_V} {h : am2_H} {o : Option Nat} (hh : am2_jmp k2 ls r h o = some res) : am_jmp k ls r (am2_rp bI bJ bR h) o = some (am2_rr bI bJ bR res) := by
  cases o with
  | none => cases hh
  | some t => exact hk _ _ _ _ _ hh
theorem am2_nx_rp (hk : ∀ pc ls st h r, k2 pc ls st h = some r → k pc ls st (am2_rp bI bJ bR h) = some (am2_rr bI bJ bR r)) {pc : Nat} {o : Option (am_L × List am_V × am2_H)} {o' : Option (am_L × List am_V × am_H)} (ho : ∀ l s h, o = some (l, s, h) → o' = some (l, s, am2_rp bI bJ bR h)) (hh : am2_nx k2 pc o = some res) : am_nx k pc o' = some (am2_rr bI bJ bR res) := by
  cases o with
  | none => cases hh
  | some t => obtain ⟨l, s, h'⟩ := t; rw [ho _ _ _ rfl]; exact hk _ _ _ _ _ hh
theorem am2_aft_rp (hk : ∀ pc ls st h r, k2 pc ls st h = some r → k pc ls st (am2_rp bI bJ bR h) = some (am2_rr bI bJ bR r)) {pc len : Nat} {ls : am_L} {r : List am_V} {o : Option am2_R} {o' : Option am_R} (ho : ∀ q, o = some q → o' = some (am2_rr bI bJ bR q)) (hh : am2_aft hd k2 pc len ls r o = some res) : am_aft hd k pc len ls r o' = some (am2_rr bI bJ bR res) := by
  cases o with
  | none => cases hh
  | some q =>
    rw [ho q rfl]
    rcases q with ⟨v, h'⟩ | ⟨x, h'⟩
    · exact hk _ _ _ _ _ hh
    · unfold am2_aft at hh
      dsimp only at hh
      show (match hd pc x with
        | none => none
        | some none => some (Sum.inr (x, am2_rp bI bJ bR h'))
        | some (some (t, i)) => match am_st ls i (Sum.inr (Sum.inr 0)) with
          | some l => k t (l.set i none) [] (am2_rp bI bJ bR h')
          | none => none) = some (am2_rr bI bJ bR res)
      cases hq : hd pc x with
      | none => rw [hq] at hh; cases hh
      | some y =>
        rw [hq] at hh
        cases y with
        | none => cases hh; rfl
        | some y =>
          obtain ⟨t, i⟩ := y
          dsimp only at hh ⊢
          cases hs : am_st ls i (.inr (.inr 0)) with
          | none => rw [hs] at hh; cases hh
          | some l =>
            rw [hs] at hh
            exact hk _ _ _ _ _ hh
theorem am2_one_rp (hro : ∀ q x, ro2 q = some x → ro q = some x) (hI : ∀ p k v, B.1 p k = some v → bI p k = v) (hR : ∀ p k v, B.2 p k = some v → bR p k = v) {rt : Nat} {call2 : Nat → List am_V → am2_H → Option am2_R} {call : Nat → List am_V → am_H → Option am_R} (hc : ∀ j ar h r, call2 j ar h = some r → call j ar (am2_rp bI bJ bR h) = some (am2_rr bI bJ bR r)) (hk : ∀ pc ls st h r, k2 pc ls st h = some r → k pc ls st (am2_rp bI bJ bR h) = some (am2_rr bI bJ bR r)) {e : am_E} {pc : Nat} {ls : am_L} {st : List am_V} {h : am2_H}
    (hh : am2_one ro2 B fty nf na rc hd rt call2 k2 e pc ls st h = some res) : am_one ro fty nf na rc hd rt call k e pc ls st (am2_rp bI bJ bR h) = some (am2_rr bI bJ bR res) := by
  obtain ⟨len, ins, a, b, z⟩ := e
  have hn : ∀ {pc : Nat} {ins : Instr}, am2_nx k2 pc (am2_norm ro2 B fty nf ins a b z ls st h) = some res → am_nx k pc (am_norm ro fty nf ins a b z ls st (am2_rp bI bJ bR h)) = some (am2_rr bI bJ bR res) := fun q => am2_nx_rp hk (fun _ _ _ w => am2_norm_rp hro hI hR w) q
  cases ins
  case goto off => exact am2_jmp_rp hk hh
  case ifCond c off =>
    unfold am2_one at hh
    unfold am_one
    dsimp only at hh ⊢
    split at hh
    · rename_i t x r ht
      rw [ht]
      dsimp only
      split at hh
      · rename_i hc9; rw [if_pos hc9]; exact hk _ _ _ _ _ hh
      · rename_i hc9; rw [if_neg hc9]; exact hk _ _ _ _ _ hh
    · cases hh
  case if_icmp c off =>
    unfold am2_one at hh
    unfold am_one
    dsimp only at hh ⊢
    split at hh
    · rename_i t y x r ht
      rw [ht]
      dsimp only
      split at hh
      · rename_i hc9; rw [if_pos hc9]; exact hk _ _ _ _ _ hh
      · rename_i hc9; rw [if_neg hc9]; exact hk _ _ _ _ _ hh
    · cases hh
  case tableswitch d lo hi offs =>
    unfold am2_one at hh
    unfold am_one
    dsimp only at hh ⊢
    split at hh
    · dsimp only
      split at hh
      · rename_i hx; rw [if_pos hx]; exact am2_jmp_rp hk hh
      · rename_i hx
        rw [if_neg hx]
        split at hh
        · rename_i off ho; rw [ho]; exact am2_jmp_rp hk hh
        · cases hh
    · cases hh
  case lookupswitch d ps =>
    unfold am2_one at hh
    unfold am_one
    dsimp only at hh ⊢
    split at hh
    · dsimp only
      split at hh
      · rename_i hx; rw [if_pos hx]; exact am2_jmp_rp hk hh
      · cases hh
    · cases hh
  case ireturn =>
    unfold am2_one at hh
    unfold am_one
    dsimp only at hh ⊢
    split at hh
    · dsimp only
      split at hh
      · rename_i hx; rw [if_pos hx]; cases hh; rfl
      · cases hh
    · cases hh
  case lreturn =>
    unfold am2_one at hh
    unfold am_one
    dsimp only at hh ⊢
    split at hh
    · dsimp only
      split at hh
      · rename_i hx; rw [if_pos hx]; cases hh; rfl
      · cases hh
    · cases hh
  case return_ =>
    unfold am2_one at hh
    unfold am_one
    dsimp only at hh ⊢
    split at hh
    · dsimp only
      split at hh
      · rename_i hx; rw [if_pos hx]; cases hh; rfl
      · cases hh
    · cases hh
  case invokevirtual i =>
    unfold am2_one at hh
    unfold am_one
    dsimp only at hh ⊢
    split at hh
    · rename_i p ar r hargs
      rw [hargs]
      dsimp only
      split at hh
      · rename_i c n hk9
        rw [am2_kind_rp (bI := bI) (bJ := bJ) (bR := bR) hro hk9]
        dsimp only
        split at hh
        · rename_i hc9
          rw [if_pos hc9]
          exact am2_aft_rp hk (fun q w => hc _ _ _ _ w) hh
        · cases hh
      · cases hh
    · cases hh
  case invokespecial i =>
    unfold am2_one at hh
    unfold am_one
    dsimp only at hh ⊢
    split at hh
    · rename_i h9
      rw [if_pos h9]
      split at hh
      · rename_i h8
        rw [if_pos h8]
        refine am2_nx_rp hk (fun l s h' w => ?_) hh
        obtain ⟨x, w1, w2⟩ := Option.map_eq_some_iff.mp w
        cases w2
        exact Option.map_eq_some_iff.mpr ⟨_, am2_prim_rp w1, rfl⟩
      · cases hh
    · rename_i h9
      rw [if_neg h9]
      split at hh
      · rename_i p ar r hargs
        rw [hargs]
        dsimp only
        split at hh
        · rename_i hc9
          rw [if_pos hc9]
          exact am2_aft_rp hk (fun q w => hc _ _ _ _ w) hh
        · cases hh
      · cases hh
  case invokestatic i =>
    unfold am2_one at hh
    unfold am_one
    dsimp only at hh ⊢
    split at hh
    · rename_i h9
      rw [if_pos h9]
      split at hh
      · rename_i h8
        rw [if_pos h8]
        refine am2_nx_rp hk (fun l s h' w => ?_) hh
        obtain ⟨x, w1, w2⟩ := Option.map_eq_some_iff.mp w
        cases w2
        exact Option.map_eq_some_iff.mpr ⟨_, am2_prim_rp w1, rfl⟩
      · cases hh
    · rename_i h9
      rw [if_neg h9]
      split at hh
      · rename_i ar r hargs
        rw [hargs]
        dsimp only
        split at hh
        · rename_i hc9
          rw [if_pos hc9]
          exact am2_aft_rp hk (fun q w => hc _ _ _ _ w) hh
        · cases hh
      · cases hh
  case new i =>
    unfold am2_one at hh
    unfold am_one
    dsimp only at hh ⊢
    split at hh
    · cases hh
    · rename_i h9
      rw [if_neg h9]
      exact hn hh
  all_goals (revert hh; unfold am2_one am_one; dsimp only; exact fun q => hn q)
theorem am2_run_rp (hro : ∀ q x, ro2 q = some x → ro q = some x) (hI : ∀ p k v, B.1 p k = some v → bI p k = v) (hR : ∀ p k v, B.2 p k = some v → bR p k = v) {rt : Nat} {C : Nat → Option am_E} {call2 : Nat → List am_V → am2_H → Option am2_R} {call : Nat → List am_V → am_H → Option am_R} (hc : ∀ j ar h r, call2 j ar h = some r → call j ar (am2_rp bI bJ bR h) = some (am2_rr bI bJ bR r)) : ∀ (n pc : Nat) (ls : am_L) (st : List am_V) (h : am2_H) (res : am2_R),
    am2_run ro2 B fty nf na rc C hd rt call2 n pc ls st h = some res → am_run ro fty nf na rc C hd rt call n pc ls st (am2_rp bI bJ bR h) = some (am2_rr bI bJ bR res)
  | 0, _, _, _, _, _, hh => by cases hh
  | n + 1, pc, ls, st, h, res, hh => by
    rw [am2_run] at hh
    rw [am_run]
    cases hC : C pc with
    | none => rw [hC] at hh; cases hh
    | some e =>
      rw [hC] at hh
      exact am2_one_rp hro hI hR hc (fun pc ls st h r q => am2_run_rp hro hI hR hc n pc ls st h r q) hh
theorem am2_exec_rp {P : am_PG} (hro : ∀ q x, ro2 q = some x → ro q = some x) (hI : ∀ p k v, B.1 p k = some v → bI p k = v) (hR : ∀ p k v, B.2 p k = some v → bR p k = v) {F : Nat} : ∀ (d j : Nat) (ar : List am_V) (h : am2_H) (res : am2_R), am2_exec P ro2 B F d j ar h = some res → am_exec P ro F d j ar (am2_rp bI bJ bR h) = some (am2_rr bI bJ bR res)
  | 0, _, _, _, _, hh => by cases hh
  | d + 1, j, ar, h, res, hh => by
    rw [am2_exec] at hh
    rw [am_exec]
    split at hh
    · rename_i hc
      rw [if_pos hc]
      exact am2_run_rp hro hI hR (fun j ar h r q => am2_exec_rp hro hI hR d j ar h r q) F 0 _ _ h res hh
    · cases hh
end AM2R
