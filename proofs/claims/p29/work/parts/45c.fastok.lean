noncomputable section
/-! the fast machine is right -/
section SXG
variable {B : sx_B} {Bs : am2_B} {kd : Nat → Option (Nat × Nat)} {fty : Nat → Nat → Nat} {na rc : Nat → Nat} {rt : Nat} {call : sx_CL} {k : sx_K}
theorem sx_fst_ok {pc : Nat} {e : am_E} {c : sx_I} {ls : sx_Lo} {st : List sx_V} {h : sx_H} {r : sx_R} (hk : sx_ek fty na rc pc e c = true) (hh : sx_fst B Bs kd rt call k c ls st h = some r) : sx_one B Bs kd fty na rc rt call k e pc ls st h = some r := by
  obtain ⟨len, ins, a, b, z⟩ := e
  obtain ⟨op, n, p, q, t, v, cc⟩ := c
  unfold sx_ek at hk
  dsimp only at hk
  rw [Bool.and_eq_true] at hk
  obtain ⟨hn, hk⟩ := hk
  have hn := Nat.eq_of_beq_eq_true hn
  subst hn
  have B1 : ∀ {x y : Nat}, Nat.beq x y = true → x = y := fun h => Nat.eq_of_beq_eq_true h
  cases ins
  case iload i =>
    rw [Bool.and_eq_true] at hk
    obtain ⟨h1, h2⟩ := hk
    have h1 := B1 h1
    have h2 := B1 h2
    subst h1
    subst h2
    have h9 : sx_f0 k (pc + len) i ls st h = some r := hh
    clear hh
    unfold sx_f0 at h9
    split at h9
    · rename_i x hx
      show sx_nx k (pc + len) (sx_norm B Bs kd fty (.iload i) a b z ls st h) = some r
      have e1 : sx_norm B Bs kd fty (.iload i) a b z ls st h = some (ls, .inl x :: st, h) := sx_nmL (by unfold sx_loc; dsimp only; rw [hx])
      rw [e1]
      exact h9
    · cases h9
  case iload_n i =>
    rw [Bool.and_eq_true] at hk
    obtain ⟨h1, h2⟩ := hk
    have h1 := B1 h1
    have h2 := B1 h2
    subst h1
    subst h2
    have h9 : sx_f0 k (pc + len) i.val ls st h = some r := hh
    clear hh
    unfold sx_f0 at h9
    split at h9
    · rename_i x hx
      show sx_nx k (pc + len) (sx_norm B Bs kd fty (.iload_n i) a b z ls st h) = some r
      have e1 : sx_norm B Bs kd fty (.iload_n i) a b z ls st h = some (ls, .inl x :: st, h) := sx_nmL (by unfold sx_loc; dsimp only; rw [hx])
      rw [e1]
      exact h9
    · cases h9
  case aload i =>
    rw [Bool.and_eq_true] at hk
    obtain ⟨h1, h2⟩ := hk
    have h1 := B1 h1
    have h2 := B1 h2
    subst h1
    subst h2
    have h9 : sx_f1 k (pc + len) i ls st h = some r := hh
    clear hh
    unfold sx_f1 at h9
    split at h9
    · rename_i x hx
      show sx_nx k (pc + len) (sx_norm B Bs kd fty (.aload i) a b z ls st h) = some r
      have e1 : sx_norm B Bs kd fty (.aload i) a b z ls st h = some (ls, .inr (.inr x) :: st, h) := sx_nmL (by unfold sx_loc; dsimp only; rw [hx])
      rw [e1]
      exact h9
    · cases h9
  case aload_n i =>
    rw [Bool.and_eq_true] at hk
    obtain ⟨h1, h2⟩ := hk
    have h1 := B1 h1
    have h2 := B1 h2
    subst h1
    subst h2
    have h9 : sx_f1 k (pc + len) i.val ls st h = some r := hh
    clear hh
    unfold sx_f1 at h9
    split at h9
    · rename_i x hx
      show sx_nx k (pc + len) (sx_norm B Bs kd fty (.aload_n i) a b z ls st h) = some r
      have e1 : sx_norm B Bs kd fty (.aload_n i) a b z ls st h = some (ls, .inr (.inr x) :: st, h) := sx_nmL (by unfold sx_loc; dsimp only; rw [hx])
      rw [e1]
      exact h9
    · cases h9
  case lload i =>
    rw [Bool.and_eq_true] at hk
    obtain ⟨h1, h2⟩ := hk
    have h1 := B1 h1
    have h2 := B1 h2
    subst h1
    subst h2
    have h9 : sx_f13 k (pc + len) i ls st h = some r := hh
    clear hh
    unfold sx_f13 at h9
    split at h9
    · rename_i x hx
      show sx_nx k (pc + len) (sx_norm B Bs kd fty (.lload i) a b z ls st h) = some r
      have e1 : sx_norm B Bs kd fty (.lload i) a b z ls st h = some (ls, .inr (.inl x) :: st, h) := sx_nmL (by unfold sx_loc; dsimp only; rw [hx])
      rw [e1]
      exact h9
    · cases h9
  case lload_n i =>
    rw [Bool.and_eq_true] at hk
    obtain ⟨h1, h2⟩ := hk
    have h1 := B1 h1
    have h2 := B1 h2
    subst h1
    subst h2
    have h9 : sx_f13 k (pc + len) i.val ls st h = some r := hh
    clear hh
    unfold sx_f13 at h9
    split at h9
    · rename_i x hx
      show sx_nx k (pc + len) (sx_norm B Bs kd fty (.lload_n i) a b z ls st h) = some r
      have e1 : sx_norm B Bs kd fty (.lload_n i) a b z ls st h = some (ls, .inr (.inl x) :: st, h) := sx_nmL (by unfold sx_loc; dsimp only; rw [hx])
      rw [e1]
      exact h9
    · cases h9
  case getfield i =>
    simp only [Bool.and_eq_true] at hk
    obtain ⟨h1, h2, h3, h4⟩ := hk
    have h1 := B1 h1
    have h2 := B1 h2
    have h3 := B1 h3
    have h4 := B1 h4
    subst h1
    subst h2
    subst h3
    subst h4
    have h9 : sx_f2 B Bs kd k (pc + len) a b (fty a b) ls st h = some r := hh
    clear hh
    unfold sx_f2 at h9
    split at h9
    · rename_i p0 r0
      split at h9
      · rename_i o c0 c1 hc
        obtain ⟨g1, g2⟩ := sx_ifs h9
        split at g2
        · rename_i w hw
          show sx_nx k (pc + len) (sx_norm B Bs kd fty (.getfield i) a b z ls (.inr (.inr p0) :: r0) h) = some r
          have e1 : sx_norm B Bs kd fty (.getfield i) a b z ls (.inr (.inr p0) :: r0) h = some (ls, w :: r0, h) := sx_nmH rfl rfl (by unfold sx_hp; dsimp only; rw [hc]; dsimp only; rw [g1, hw]; rfl)
          rw [e1]
          exact g2
        · cases g2
      · cases h9
    · cases h9
  case if_icmp d off =>
    simp only [Bool.and_eq_true] at hk
    obtain ⟨h1, h2, h3⟩ := hk
    have h1 := B1 h1
    have h2 := sx_teq_ok h2
    have h3 := sx_ceq_ok h3
    subst h1
    subst h3
    have h9 : sx_f3 B k (pc + len) q d ls st h = some r := hh
    clear hh
    unfold sx_f3 at h9
    split at h9
    · unfold sx_one
      dsimp only
      rw [h2]
      exact h9
    · cases h9
  case ifCond d off =>
    simp only [Bool.and_eq_true] at hk
    obtain ⟨h1, h2, h3⟩ := hk
    have h1 := B1 h1
    have h2 := sx_teq_ok h2
    have h3 := sx_ceq_ok h3
    subst h1
    subst h3
    have h9 : sx_f5 B k (pc + len) q d ls st h = some r := hh
    clear hh
    unfold sx_f5 at h9
    split at h9
    · unfold sx_one
      dsimp only
      rw [h2]
      exact h9
    · cases h9
  case iconst w =>
    simp only [Bool.and_eq_true, sx_eq_iff, sx_le_iff] at hk
    obtain ⟨h1, h2, h3⟩ := hk
    have h1 := B1 h1
    subst h1
    subst h2
    have h9 : k (pc + len) ls (.inl (.inl w) :: st) h = some r := hh
    clear hh
    show sx_nx k (pc + len) (sx_norm B Bs kd fty (.iconst w) a b z ls st h) = some r
    have e1 : sx_norm B Bs kd fty (.iconst w) a b z ls st h = some (ls, .inl (.inl w) :: st, h) := sx_nmA rfl (if_pos h3)
    rw [e1]
    exact h9
  case bipush w =>
    simp only [Bool.and_eq_true, sx_eq_iff, sx_le_iff] at hk
    obtain ⟨h1, h2, h3⟩ := hk
    have h1 := B1 h1
    subst h1
    subst h2
    have h9 : k (pc + len) ls (.inl (.inl w) :: st) h = some r := hh
    clear hh
    show sx_nx k (pc + len) (sx_norm B Bs kd fty (.bipush w) a b z ls st h) = some r
    have e1 : sx_norm B Bs kd fty (.bipush w) a b z ls st h = some (ls, .inl (.inl w) :: st, h) := sx_nmA rfl (if_pos h3)
    rw [e1]
    exact h9
  case sipush w =>
    simp only [Bool.and_eq_true, sx_eq_iff, sx_le_iff] at hk
    obtain ⟨h1, h2, h3⟩ := hk
    have h1 := B1 h1
    subst h1
    subst h2
    have h9 : k (pc + len) ls (.inl (.inl w) :: st) h = some r := hh
    clear hh
    show sx_nx k (pc + len) (sx_norm B Bs kd fty (.sipush w) a b z ls st h) = some r
    have e1 : sx_norm B Bs kd fty (.sipush w) a b z ls st h = some (ls, .inl (.inl w) :: st, h) := sx_nmA rfl (if_pos h3)
    rw [e1]
    exact h9
  case goto off =>
    rw [Bool.and_eq_true] at hk
    obtain ⟨h1, h2⟩ := hk
    have h1 := B1 h1
    have h2 := sx_teq_ok h2
    subst h1
    have h9 : k q ls st h = some r := hh
    clear hh
    show sx_jmp k ls st h (am_tgt pc off) = some r
    rw [h2]
    exact h9
  case iinc i w =>
    simp only [Bool.and_eq_true, sx_eq_iff] at hk
    obtain ⟨h1, h2, h3⟩ := hk
    have h1 := B1 h1
    have h2 := B1 h2
    subst h1
    subst h2
    subst h3
    have h9 : sx_f7 B k (pc + len) i w ls st h = some r := hh
    clear hh
    unfold sx_f7 at h9
    split at h9
    · rename_i x hx
      unfold sx_fl at h9
      split at h9
      · rename_i l hl
        show sx_nx k (pc + len) (sx_norm B Bs kd fty (.iinc i w) a b z ls st h) = some r
        have e1 : sx_norm B Bs kd fty (.iinc i w) a b z ls st h = some (l, st, h) := sx_nmL (by unfold sx_loc; dsimp only; rw [hx]; dsimp only; rw [hl]; rfl)
        rw [e1]
        exact h9
      · cases h9
    · cases h9
  case istore i =>
    rw [Bool.and_eq_true] at hk
    obtain ⟨h1, h2⟩ := hk
    have h1 := B1 h1
    have h2 := B1 h2
    subst h1
    subst h2
    have h9 : sx_f8 k (pc + len) i ls st h = some r := hh
    clear hh
    unfold sx_f8 at h9
    split at h9
    · rename_i x r0
      unfold sx_fl at h9
      split at h9
      · rename_i l hl
        show sx_nx k (pc + len) (sx_norm B Bs kd fty (.istore i) a b z ls (.inl x :: r0) h) = some r
        have e1 : sx_norm B Bs kd fty (.istore i) a b z ls (.inl x :: r0) h = some (l, r0, h) := sx_nmL (by unfold sx_loc; dsimp only; rw [hl]; rfl)
        rw [e1]
        exact h9
      · cases h9
    · cases h9
  case istore_n i =>
    rw [Bool.and_eq_true] at hk
    obtain ⟨h1, h2⟩ := hk
    have h1 := B1 h1
    have h2 := B1 h2
    subst h1
    subst h2
    have h9 : sx_f8 k (pc + len) i.val ls st h = some r := hh
    clear hh
    unfold sx_f8 at h9
    split at h9
    · rename_i x r0
      unfold sx_fl at h9
      split at h9
      · rename_i l hl
        show sx_nx k (pc + len) (sx_norm B Bs kd fty (.istore_n i) a b z ls (.inl x :: r0) h) = some r
        have e1 : sx_norm B Bs kd fty (.istore_n i) a b z ls (.inl x :: r0) h = some (l, r0, h) := sx_nmL (by unfold sx_loc; dsimp only; rw [hl]; rfl)
        rw [e1]
        exact h9
      · cases h9
    · cases h9
  case iadd =>
    have h1 := B1 hk
    subst h1
    have h9 : sx_f9 B k (pc + len) ls st h = some r := hh
    clear hh
    unfold sx_f9 at h9
    split at h9
    · rename_i y x r0
      refine Eq.trans ?_ h9
      have e1 := sx_nmA (B := B) (Bs := Bs) (kd := kd) (fty := fty) (ins := .iadd) (a := a) (b := b) (z := z) (ls := ls) (h := h) (st := .inl y :: .inl x :: r0) rfl rfl
      show sx_nx k (pc + len) (sx_norm B Bs kd fty .iadd a b z ls (.inl y :: .inl x :: r0) h) = _
      rw [e1]
      rfl
    · cases h9
  case isub =>
    have h1 := B1 hk
    subst h1
    have h9 : sx_f10 B k (pc + len) ls st h = some r := hh
    clear hh
    unfold sx_f10 at h9
    split at h9
    · rename_i y x r0
      refine Eq.trans ?_ h9
      have e1 := sx_nmA (B := B) (Bs := Bs) (kd := kd) (fty := fty) (ins := .isub) (a := a) (b := b) (z := z) (ls := ls) (h := h) (st := .inl y :: .inl x :: r0) rfl rfl
      show sx_nx k (pc + len) (sx_norm B Bs kd fty .isub a b z ls (.inl y :: .inl x :: r0) h) = _
      rw [e1]
      rfl
    · cases h9
  case lcmp =>
    have h1 := B1 hk
    subst h1
    have h9 : sx_f22 B k (pc + len) ls st h = some r := hh
    clear hh
    unfold sx_f22 at h9
    split at h9
    · rename_i y x r0
      refine Eq.trans ?_ h9
      have e1 := sx_nmA (B := B) (Bs := Bs) (kd := kd) (fty := fty) (ins := .lcmp) (a := a) (b := b) (z := z) (ls := ls) (h := h) (st := .inr (.inl y) :: .inr (.inl x) :: r0) rfl rfl
      show sx_nx k (pc + len) (sx_norm B Bs kd fty .lcmp a b z ls (.inr (.inl y) :: .inr (.inl x) :: r0) h) = _
      rw [e1]
      rfl
    · cases h9
  case iaload =>
    have h1 := B1 hk
    subst h1
    have h9 : sx_f11 B Bs kd k (pc + len) ls st h = some r := hh
    clear hh
    unfold sx_f11 at h9
    split at h9
    · rename_i x p0 r0
      split at h9
      · rename_i o c0 c1 hc
        obtain ⟨g1, g2⟩ := sx_ifs h9
        split at g2
        · rename_i ix hix
          split at g2
          · rename_i w hw
            show sx_nx k (pc + len) (sx_norm B Bs kd fty .iaload a b z ls (.inl x :: .inr (.inr p0) :: r0) h) = some r
            have e1 : sx_norm B Bs kd fty .iaload a b z ls (.inl x :: .inr (.inr p0) :: r0) h = some (ls, .inl w :: r0, h) := sx_nmH rfl rfl (by unfold sx_hp; dsimp only; rw [hc]; dsimp only; rw [g1, hix]; dsimp only; rw [hw]; rfl)
            rw [e1]
            exact g2
          · cases g2
        · cases g2
      · cases h9
    · cases h9
  case laload =>
    have h1 := B1 hk
    subst h1
    have h9 : sx_f19 B Bs kd k (pc + len) ls st h = some r := hh
    clear hh
    unfold sx_f19 at h9
    split at h9
    · rename_i x p0 r0
      split at h9
      · rename_i o c0 c1 hc
        obtain ⟨g1, g2⟩ := sx_ifs h9
        split at g2
        · rename_i ix hix
          split at g2
          · rename_i w hw
            show sx_nx k (pc + len) (sx_norm B Bs kd fty .laload a b z ls (.inl x :: .inr (.inr p0) :: r0) h) = some r
            have e1 : sx_norm B Bs kd fty .laload a b z ls (.inl x :: .inr (.inr p0) :: r0) h = some (ls, .inr (.inl w) :: r0, h) := sx_nmH rfl rfl (by unfold sx_hp; dsimp only; rw [hc]; dsimp only; rw [g1, hix]; dsimp only; rw [hw]; rfl)
            rw [e1]
            exact g2
          · cases g2
        · cases g2
      · cases h9
    · cases h9
  case baload =>
    have h1 := B1 hk
    subst h1
    have h9 : sx_f21 B Bs kd k (pc + len) ls st h = some r := hh
    clear hh
    unfold sx_f21 at h9
    split at h9
    · rename_i x p0 r0
      split at h9
      · rename_i o c0 c1 hc
        obtain ⟨g1, g2⟩ := sx_ifs h9
        split at g2
        · rename_i ix hix
          split at g2
          · rename_i w hw
            show sx_nx k (pc + len) (sx_norm B Bs kd fty .baload a b z ls (.inl x :: .inr (.inr p0) :: r0) h) = some r
            have e1 : sx_norm B Bs kd fty .baload a b z ls (.inl x :: .inr (.inr p0) :: r0) h = some (ls, .inl w :: r0, h) := sx_nmH rfl rfl (by unfold sx_hp; dsimp only; rw [hc]; dsimp only; rw [g1, hix]; dsimp only; rw [hw]; rfl)
            rw [e1]
            exact g2
          · cases g2
        · cases g2
      · cases h9
    · cases h9
  case iastore =>
    have h1 := B1 hk
    subst h1
    have h9 : sx_f12 B Bs kd k (pc + len) ls st h = some r := hh
    clear hh
    unfold sx_f12 at h9
    split at h9
    · rename_i w x p0 r0
      split at h9
      · rename_i o c0 c1 hc
        obtain ⟨g1, g2⟩ := sx_ifs h9
        split at g2
        · rename_i ix hix
          unfold sx_fh at g2
          split at g2
          · rename_i h2 hw
            show sx_nx k (pc + len) (sx_norm B Bs kd fty .iastore a b z ls (.inl w :: .inl x :: .inr (.inr p0) :: r0) h) = some r
            have e1 : sx_norm B Bs kd fty .iastore a b z ls (.inl w :: .inl x :: .inr (.inr p0) :: r0) h = some (ls, r0, h2) := sx_nmH rfl rfl (by unfold sx_hp; dsimp only; rw [hc]; dsimp only; rw [g1, hix]; dsimp only; rw [hw]; rfl)
            rw [e1]
            exact g2
          · cases g2
        · cases g2
      · cases h9
    · cases h9
  case lastore =>
    have h1 := B1 hk
    subst h1
    have h9 : sx_f20 B Bs kd k (pc + len) ls st h = some r := hh
    clear hh
    unfold sx_f20 at h9
    split at h9
    · rename_i w x p0 r0
      split at h9
      · rename_i o c0 c1 hc
        obtain ⟨g1, g2⟩ := sx_ifs h9
        split at g2
        · rename_i ix hix
          unfold sx_fh at g2
          split at g2
          · rename_i h2 hw
            show sx_nx k (pc + len) (sx_norm B Bs kd fty .lastore a b z ls (.inr (.inl w) :: .inl x :: .inr (.inr p0) :: r0) h) = some r
            have e1 : sx_norm B Bs kd fty .lastore a b z ls (.inr (.inl w) :: .inl x :: .inr (.inr p0) :: r0) h = some (ls, r0, h2) := sx_nmH rfl rfl (by unfold sx_hp; dsimp only; rw [hc]; dsimp only; rw [g1, hix]; dsimp only; rw [hw]; rfl)
            rw [e1]
            exact g2
          · cases g2
        · cases g2
      · cases h9
    · cases h9
  case invokevirtual i =>
    simp only [Bool.and_eq_true] at hk
    obtain ⟨h1, h2, h3, h4⟩ := hk
    have h1 := B1 h1
    have h2 := B1 h2
    have h3 := B1 h3
    have h4 := B1 h4
    subst h1
    subst h2
    subst h3
    subst h4
    exact hh
  case invokestatic i =>
    simp only [Bool.and_eq_true, Nat.blt_eq] at hk
    obtain ⟨h1, h2, h3, h4⟩ := hk
    have h1 := B1 h1
    have h2 := B1 h2
    have h3 := B1 h3
    subst h1
    subst h2
    subst h3
    unfold sx_one
    dsimp only
    have h5 : Nat.ble 900 a = false := by
      cases q : Nat.ble 900 a with
      | true => have := Nat.le_of_ble_eq_true q; omega
      | false => rfl
    rw [h5]
    exact hh
  case ireturn =>
    have h1 := B1 hk
    subst h1
    exact hh
  case return_ =>
    have h1 := B1 hk
    subst h1
    exact hh
  case putfield i =>
    simp only [Bool.and_eq_true] at hk
    obtain ⟨h1, h2, h3, h4⟩ := hk
    have h1 := B1 h1
    have h2 := B1 h2
    have h3 := B1 h3
    have h4 := B1 h4
    subst h1
    subst h2
    subst h3
    subst h4
    have h9 : sx_f18 B Bs kd k (pc + len) a b (fty a b) ls st h = some r := hh
    clear hh
    unfold sx_f18 at h9
    split at h9
    · rename_i w p0 r0
      show sx_nx k (pc + len) (sx_norm B Bs kd fty (.putfield i) a b z ls (w :: .inr (.inr p0) :: r0) h) = some r
      split at h9
      · rename_i o c0 c1 hc
        obtain ⟨g1, g2⟩ := sx_ifs h9
        split at g2
        · rename_i x
          obtain ⟨g3, g4⟩ := sx_ifs g2
          unfold sx_fh at g4
          split at g4
          · rename_i h2 hw
            have e1 : sx_norm B Bs kd fty (.putfield i) a b z ls (.inl x :: .inr (.inr p0) :: r0) h = some (ls, r0, h2) := sx_nmH rfl rfl (by unfold sx_hp; dsimp only; rw [hc]; dsimp only; rw [g1, g3, hw]; rfl)
            rw [e1]
            exact g4
          · cases g4
        · rename_i x
          obtain ⟨g3, g4⟩ := sx_ifs g2
          unfold sx_fh at g4
          split at g4
          · rename_i h2 hw
            have e1 : sx_norm B Bs kd fty (.putfield i) a b z ls (.inr (.inl x) :: .inr (.inr p0) :: r0) h = some (ls, r0, h2) := sx_nmH rfl rfl (by unfold sx_hp; dsimp only; rw [hc]; dsimp only; rw [g1, g3, hw]; rfl)
            rw [e1]
            exact g4
          · cases g4
        · rename_i x
          obtain ⟨g3, g4⟩ := sx_ifs g2
          have e1 : sx_norm B Bs kd fty (.putfield i) a b z ls (.inr (.inr x) :: .inr (.inr p0) :: r0) h = some (ls, r0, (h.1, h.2.1, sx_wrR h.2.2 p0 b x)) := sx_nmH rfl rfl (by unfold sx_hp; dsimp only; rw [hc]; dsimp only; rw [g1, g3]; rfl)
          rw [e1]
          exact g4
      · cases h9
    · cases h9
  all_goals exact absurd hk Bool.false_ne_true
end SXG
end
