/-! more steps and more depth change nothing -/
section AMF
variable {hd : Nat → Nat → Option (Option (Nat × Nat))} {k k' : Nat → am_L → List am_V → am_H → Option am_R} {res : am_R}
theorem am_jmp_le (hk : ∀ pc ls st h r, k pc ls st h = some r → k' pc ls st h = some r) {ls : am_L} {r : List am_V} {h : am_H} {o : Option Nat} (hh : am_jmp k ls r h o = some res) : am_jmp k' ls r h o = some res := by
  cases o with
  | none => cases hh
  | some t => exact hk _ _ _ _ _ hh
theorem am_nx_le (hk : ∀ pc ls st h r, k pc ls st h = some r → k' pc ls st h = some r) {pc : Nat} {o : Option (am_L × List am_V × am_H)} (hh : am_nx k pc o = some res) : am_nx k' pc o = some res := by
  cases o with
  | none => cases hh
  | some t => obtain ⟨l, s, h'⟩ := t; exact hk _ _ _ _ _ hh
theorem am_aft_le (hk : ∀ pc ls st h r, k pc ls st h = some r → k' pc ls st h = some r) {pc len : Nat} {ls : am_L} {r : List am_V} {o o' : Option am_R} (ho : ∀ q, o = some q → o' = some q) (hh : am_aft hd k pc len ls r o = some res) : am_aft hd k' pc len ls r o' = some res := by
  cases o with
  | none => cases hh
  | some q =>
    rw [ho q rfl]
    rcases q with ⟨v, h'⟩ | ⟨x, h'⟩
    · exact hk _ _ _ _ _ hh
    · revert hh
      unfold am_aft
      dsimp only
      split
      · exact id
      · exact id
      · split
        · exact fun hh => hk _ _ _ _ _ hh
        · exact id
theorem am_one_le {ro : Nat → Option (Nat × Nat)} {fty : Nat → Nat → Nat} {nf na rc : Nat → Nat} {rt : Nat} {call call' : Nat → List am_V → am_H → Option am_R} (hc : ∀ j ar h r, call j ar h = some r → call' j ar h = some r) (hk : ∀ pc ls st h r, k pc ls st h = some r → k' pc ls st h = some r) {e : am_E} {pc : Nat} {ls : am_L} {st : List am_V} {h : am_H}
    (hh : am_one ro fty nf na rc hd rt call k e pc ls st h = some res) : am_one ro fty nf na rc hd rt call' k' e pc ls st h = some res := by
  obtain ⟨len, ins, a, b, z⟩ := e
  cases ins
  case goto off => exact am_jmp_le hk hh
  case ifCond c off =>
    revert hh
    unfold am_one
    dsimp only
    split
    · split
      · exact fun hh => hk _ _ _ _ _ hh
      · exact fun hh => hk _ _ _ _ _ hh
    · exact id
  case if_icmp c off =>
    revert hh
    unfold am_one
    dsimp only
    split
    · split
      · exact fun hh => hk _ _ _ _ _ hh
      · exact fun hh => hk _ _ _ _ _ hh
    · exact id
  case tableswitch d lo hi offs =>
    revert hh
    unfold am_one
    dsimp only
    split
    · split
      · exact fun hh => am_jmp_le hk hh
      · split
        · exact fun hh => am_jmp_le hk hh
        · exact id
    · exact id
  case lookupswitch d ps =>
    revert hh
    unfold am_one
    dsimp only
    split
    · split
      · exact fun hh => am_jmp_le hk hh
      · exact id
    · exact id
  case ireturn => exact hh
  case lreturn => exact hh
  case return_ => exact hh
  case invokevirtual i =>
    revert hh
    unfold am_one
    dsimp only
    split
    · split
      · split
        · exact fun hh => am_aft_le hk (hc _ _ _) hh
        · exact id
      · exact id
    · exact id
  case invokespecial i =>
    revert hh
    unfold am_one
    dsimp only
    split
    · split
      · exact fun hh => am_nx_le hk hh
      · exact id
    · split
      · split
        · exact fun hh => am_aft_le hk (hc _ _ _) hh
        · exact id
      · exact id
  case invokestatic i =>
    revert hh
    unfold am_one
    dsimp only
    split
    · split
      · exact fun hh => am_nx_le hk hh
      · exact id
    · split
      · split
        · exact fun hh => am_aft_le hk (hc _ _ _) hh
        · exact id
      · exact id
  case new i =>
    revert hh
    unfold am_one
    dsimp only
    split
    · exact id
    · exact fun hh => am_nx_le hk hh
  all_goals (revert hh; unfold am_one; dsimp only; exact am_nx_le hk)
theorem am_run_le {ro : Nat → Option (Nat × Nat)} {fty : Nat → Nat → Nat} {nf na rc : Nat → Nat} {rt : Nat} {C : Nat → Option am_E} {call call' : Nat → List am_V → am_H → Option am_R} (hc : ∀ j ar h r, call j ar h = some r → call' j ar h = some r) : ∀ (n n' pc : Nat) (ls : am_L) (st : List am_V) (h : am_H) (res : am_R), n ≤ n' →
    am_run ro fty nf na rc C hd rt call n pc ls st h = some res → am_run ro fty nf na rc C hd rt call' n' pc ls st h = some res
  | 0, _, _, _, _, _, _, _, hh => by cases hh
  | n + 1, 0, _, _, _, _, _, hn, _ => absurd hn (by omega)
  | n + 1, n' + 1, pc, ls, st, h, res, hn, hh => by
    rw [am_run] at hh ⊢
    cases hC : C pc with
    | none => rw [hC] at hh; cases hh
    | some e =>
      rw [hC] at hh
      exact am_one_le hc (fun pc ls st h r q => am_run_le hc n n' pc ls st h r (by omega) q) hh
end AMF
theorem am_exec_le {P : am_PG} {ro : Nat → Option (Nat × Nat)} {F F' : Nat} (hF : F ≤ F') : ∀ (d d' j : Nat) (ar : List am_V) (h : am_H) (res : am_R), d ≤ d' → am_exec P ro F d j ar h = some res → am_exec P ro F' d' j ar h = some res
  | 0, _, _, _, _, _, _, hh => by cases hh
  | d + 1, 0, _, _, _, _, hn, _ => absurd hn (by omega)
  | d + 1, d' + 1, j, ar, h, res, hn, hh => by
    rw [am_exec] at hh ⊢
    split at hh
    · rename_i hc
      rw [if_pos hc]
      exact am_run_le (fun j ar h r q => am_exec_le hF d d' j ar h r (by omega) q) F F' 0 _ _ h res hF hh
    · cases hh
