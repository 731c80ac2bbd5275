/-! runs that come to an end: of a method's code from a place on (am_W), of a method (am_M); d: how deep its calls go -/
def am_W (ro : Nat → Option (Nat × Nat)) (d j pc : Nat) (ls : am_L) (st : List am_V) (h : am_H) (Q : am_R → Prop) : Prop :=
  ∃ F n res, am_run ro am_fty am_nf (am_na am_P) (am_rc am_P) (am_co am_P j) (am_hdf (am_hl am_P j)) (am_rtag (am_re am_P j)) (am_exec am_P ro F d) n pc ls st h = some res ∧ Q res
def am_M (ro : Nat → Option (Nat × Nat)) (d j : Nat) (ar : List am_V) (h : am_H) (Q : am_R → Prop) : Prop := ∃ F res, am_exec am_P ro F d j ar h = some res ∧ Q res
section AMW
variable {ro : Nat → Option (Nat × Nat)} {d j pc len a b : Nat} {ls : am_L} {st : List am_V} {h : am_H} {Q Q' : am_R → Prop} {z : Int} {ins : Instr}
theorem am_M_of {ar : List am_V} (hc : am_cats ar ≤ am_ml am_P j) (w : am_W ro d j 0 (am_ent (am_ml am_P j) ar) [] h Q) : am_M ro (d + 1) j ar h Q := by
  obtain ⟨F, n, res, h1, h2⟩ := w
  refine ⟨max F n, res, ?_, h2⟩
  rw [am_exec, if_pos hc]
  exact am_run_le (fun j ar h r q => am_exec_le (Nat.le_max_left F n) d d j ar h r (Nat.le_refl _) q) n (max F n) 0 _ _ h res (Nat.le_max_right F n) h1
theorem am_M_deep {d' : Nat} {ar : List am_V} (hd : d ≤ d') (w : am_M ro d j ar h Q) : am_M ro d' j ar h Q := by
  obtain ⟨F, res, h1, h2⟩ := w
  exact ⟨F, res, am_exec_le (Nat.le_refl F) d d' j ar h res hd h1, h2⟩
theorem am_M_imp {ar : List am_V} (w : am_M ro d j ar h Q) (hq : ∀ r, Q r → Q' r) : am_M ro d j ar h Q' := by
  obtain ⟨F, res, h1, h2⟩ := w
  exact ⟨F, res, h1, hq _ h2⟩
theorem am_W_imp (w : am_W ro d j pc ls st h Q) (hq : ∀ r, Q r → Q' r) : am_W ro d j pc ls st h Q' := by
  obtain ⟨F, n, res, h1, h2⟩ := w
  exact ⟨F, n, res, h1, hq _ h2⟩
theorem am_W_one {pc' : Nat} {ls' : am_L} {st' : List am_V} {h' : am_H} (hC : am_co am_P j pc = some (len, ins, a, b, z))
    (hs : ∀ (call : Nat → List am_V → am_H → Option am_R) (k : Nat → am_L → List am_V → am_H → Option am_R), am_one ro am_fty am_nf (am_na am_P) (am_rc am_P) (am_hdf (am_hl am_P j)) (am_rtag (am_re am_P j)) call k (len, ins, a, b, z) pc ls st h = k pc' ls' st' h') (w : am_W ro d j pc' ls' st' h' Q) : am_W ro d j pc ls st h Q := by
  obtain ⟨F, n, res, h1, h2⟩ := w
  refine ⟨F, n + 1, res, ?_, h2⟩
  rw [am_run, hC]
  exact (hs _ _).trans h1
/-- a plain instruction -/
theorem am_W_nrm {ls' : am_L} {st' : List am_V} {h' : am_H} (hC : am_co am_P j pc = some (len, ins, a, b, z)) (hi : am_nrm ins = true) (hn : am_norm ro am_fty am_nf ins a b z ls st h = some (ls', st', h')) (w : am_W ro d j (pc + len) ls' st' h' Q) : am_W ro d j pc ls st h Q := by
  refine am_W_one hC (fun call k => ?_) w
  have e : am_one ro am_fty am_nf (am_na am_P) (am_rc am_P) (am_hdf (am_hl am_P j)) (am_rtag (am_re am_P j)) call k (len, ins, a, b, z) pc ls st h = am_nx k (pc + len) (am_norm ro am_fty am_nf ins a b z ls st h) := by
    unfold am_nrm at hi
    cases ins <;> first | (cases hi; done) | rfl | (unfold am_one; rfl)
  rw [e, hn]
  rfl
theorem am_W_goto {off : Int} {t : Nat} (hC : am_co am_P j pc = some (len, .goto off, a, b, z)) (ht : am_tgt pc off = some t) (w : am_W ro d j t ls st h Q) : am_W ro d j pc ls st h Q := by
  refine am_W_one hC (fun call k => ?_) w
  show am_jmp k ls st h (am_tgt pc off) = _
  rw [ht]; rfl
theorem am_W_if {off : Int} {t : Nat} {c : ClassFile.Cond} {x : Int} {r : List am_V} (hC : am_co am_P j pc = some (len, .ifCond c off, a, b, z)) (ht : am_tgt pc off = some t) (w1 : am_cmp c x 0 = true → am_W ro d j t ls r h Q) (w2 : am_cmp c x 0 = false → am_W ro d j (pc + len) ls r h Q) : am_W ro d j pc ls (.inl x :: r) h Q := by
  cases hc : am_cmp c x 0 with
  | true =>
    refine am_W_one hC (fun call k => ?_) (w1 hc)
    show (match am_tgt pc off, (.inl x :: r : List am_V) with
      | some t, .inl x :: r => if am_cmp c x 0 = true then k t ls r h else k (pc + len) ls r h
      | _, _ => none) = _
    rw [ht]
    exact if_pos hc
  | false =>
    refine am_W_one hC (fun call k => ?_) (w2 hc)
    show (match am_tgt pc off, (.inl x :: r : List am_V) with
      | some t, .inl x :: r => if am_cmp c x 0 = true then k t ls r h else k (pc + len) ls r h
      | _, _ => none) = _
    rw [ht]
    exact if_neg (by rw [hc]; exact Bool.false_ne_true)
theorem am_W_icmp {off : Int} {t : Nat} {c : ClassFile.Cond} {x y : Int} {r : List am_V} (hC : am_co am_P j pc = some (len, .if_icmp c off, a, b, z)) (ht : am_tgt pc off = some t) (w1 : am_cmp c x y = true → am_W ro d j t ls r h Q) (w2 : am_cmp c x y = false → am_W ro d j (pc + len) ls r h Q) : am_W ro d j pc ls (.inl y :: .inl x :: r) h Q := by
  cases hc : am_cmp c x y with
  | true =>
    refine am_W_one hC (fun call k => ?_) (w1 hc)
    show (match am_tgt pc off, (.inl y :: .inl x :: r : List am_V) with
      | some t, .inl y :: .inl x :: r => if am_cmp c x y = true then k t ls r h else k (pc + len) ls r h
      | _, _ => none) = _
    rw [ht]
    exact if_pos hc
  | false =>
    refine am_W_one hC (fun call k => ?_) (w2 hc)
    show (match am_tgt pc off, (.inl y :: .inl x :: r : List am_V) with
      | some t, .inl y :: .inl x :: r => if am_cmp c x y = true then k t ls r h else k (pc + len) ls r h
      | _, _ => none) = _
    rw [ht]
    exact if_neg (by rw [hc]; exact Bool.false_ne_true)
/-- the ends -/
theorem am_W_ret (hC : am_co am_P j pc = some (len, .return_, a, b, z)) (ht : am_rtag (am_re am_P j) = 0) (q : Q (.inl (none, h))) : am_W ro d j pc ls [] h Q := by
  refine ⟨0, 1, _, ?_, q⟩
  rw [am_run, hC]
  exact if_pos ht
theorem am_W_iret {x : Int} (hC : am_co am_P j pc = some (len, .ireturn, a, b, z)) (ht : am_rtag (am_re am_P j) = 1 ∨ (am_rtag (am_re am_P j) = 2 ∧ (x = 0 ∨ x = 1)) ∨ (am_rtag (am_re am_P j) = 4 ∧ -128 ≤ x ∧ x < 128) ∨ (am_rtag (am_re am_P j) = 5 ∧ 0 ≤ x ∧ x < 65536)) (q : Q (.inl (some (.inl x), h))) : am_W ro d j pc ls [.inl x] h Q := by
  refine ⟨0, 1, _, ?_, q⟩
  rw [am_run, hC]
  exact if_pos ht
theorem am_W_lret {x : Int} (hC : am_co am_P j pc = some (len, .lreturn, a, b, z)) (ht : am_rtag (am_re am_P j) = 3) (q : Q (.inl (some (.inr (.inl x)), h))) : am_W ro d j pc ls [.inr (.inl x)] h Q := by
  refine ⟨0, 1, _, ?_, q⟩
  rw [am_run, hC]
  exact if_pos ht
theorem am_W_throw {idx : Nat} (hC : am_co am_P j pc = some (len, .new idx, a, b, z)) (ha : 50 ≤ a) (hs : am_cats st ≤ 8) (q : Q (.inr (a - 50, (h.1, h.2.1, h.2.2.1, h.2.2.2.1, h.2.2.2.2.1 + 1, h.2.2.2.2.2 + 6)))) : am_W ro d j pc ls st h Q := by
  refine ⟨0, 1, _, ?_, q⟩
  rw [am_run, hC]
  exact (if_pos ha).trans (if_pos hs)
theorem am_W_aft {R : am_R → Prop} {F : Nat} {i : Nat} {ar r : List am_V} {res0 : am_R} (hC : am_co am_P j pc = some (len, ins, a, b, z))
    (hs : ∀ (call : Nat → List am_V → am_H → Option am_R) (k : Nat → am_L → List am_V → am_H → Option am_R), am_one ro am_fty am_nf (am_na am_P) (am_rc am_P) (am_hdf (am_hl am_P j)) (am_rtag (am_re am_P j)) call k (len, ins, a, b, z) pc ls st h = am_aft (am_hdf (am_hl am_P j)) k pc len ls r (call i ar h))
    (h1 : am_exec am_P ro F d i ar h = some res0) (hR : R res0)
    (k1 : ∀ v h', R (.inl (v, h')) → am_W ro d j (pc + len) ls (v.toList ++ r) h' Q)
    (k2 : ∀ x h', R (.inr (x, h')) → (am_hdf (am_hl am_P j) pc x = some none ∧ Q (.inr (x, h'))) ∨ ∃ t i l, am_hdf (am_hl am_P j) pc x = some (some (t, i)) ∧ am_st ls i (.inr (.inr 0)) = some l ∧ am_W ro d j t (l.set i none) [] h' Q) : am_W ro d j pc ls st h Q := by
  have up : ∀ {F' n pc ls st h res}, am_run ro am_fty am_nf (am_na am_P) (am_rc am_P) (am_co am_P j) (am_hdf (am_hl am_P j)) (am_rtag (am_re am_P j)) (am_exec am_P ro F' d) n pc ls st h = some res → am_run ro am_fty am_nf (am_na am_P) (am_rc am_P) (am_co am_P j) (am_hdf (am_hl am_P j)) (am_rtag (am_re am_P j)) (am_exec am_P ro (max F F') d) n pc ls st h = some res :=
    fun q => am_run_le (fun j ar h r q => am_exec_le (Nat.le_max_right _ _) d d j ar h r (Nat.le_refl _) q) _ _ _ _ _ _ _ (Nat.le_refl _) q
  rcases res0 with ⟨v, h'⟩ | ⟨x, h'⟩
  · obtain ⟨F', n, res, g1, g2⟩ := k1 v h' hR
    refine ⟨max F F', n + 1, res, ?_, g2⟩
    rw [am_run, hC]
    refine (hs _ _).trans ?_
    rw [am_exec_le (Nat.le_max_left F F') d d i ar h _ (Nat.le_refl _) h1]
    exact up g1
  · rcases k2 x h' hR with ⟨e1, e2⟩ | ⟨t, i', l, e1, e2, F', n, res, g1, g2⟩
    · refine ⟨F, 1, _, ?_, e2⟩
      rw [am_run, hC]
      refine (hs _ _).trans ?_
      rw [h1]
      unfold am_aft
      dsimp only
      rw [e1]
    · refine ⟨max F F', n + 1, res, ?_, g2⟩
      rw [am_run, hC]
      refine (hs _ _).trans ?_
      rw [am_exec_le (Nat.le_max_left F F') d d i ar h _ (Nat.le_refl _) h1]
      unfold am_aft
      dsimp only
      rw [e1]
      dsimp only
      rw [e2]
      exact up g1
end AMW
