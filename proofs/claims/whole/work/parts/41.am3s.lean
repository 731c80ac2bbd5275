/-! AM3 is sound -/
theorem am3_lk_mem {α : Type} {Q : Nat → α → Prop} (t : List (List α)) (h : ∀ i (hi : i < t.length) j (hj : j < t[i].length), j < 16 → Q (16 * i + j) t[i][j]) {k : Nat} {x : α} (hx : am3_lk t k = some x) : Q k x := by
  unfold am3_lk at hx
  split at hx
  · rename_i l hl
    obtain ⟨h1, h2⟩ := List.getElem?_eq_some_iff.mp hl
    subst h2
    obtain ⟨h3, h4⟩ := List.getElem?_eq_some_iff.mp hx
    have := h _ h1 _ h3 (Nat.mod_lt _ (by omega))
    rw [h4] at this
    rwa [show 16 * (k / 16) + k % 16 = k by omega] at this
  · cases hx
def am3_ktc : Bool := (List.range 224).all (fun p => match am3_lk am3_kt p with
  | some (some x) => decide (p ≠ 0) && decide (am_hC2_k[p - 1]? = some x)
  | _ => true)
set_option maxRecDepth 100000 in
theorem am3_ktc_ok : am3_ktc = true := by decide +kernel
theorem am3_lk_lt {α : Type} {t : List (List α)} {k : Nat} {x : α} (hx : am3_lk t k = some x) : k < 16 * t.length := by
  unfold am3_lk at hx
  split at hx
  · rename_i l hl
    obtain ⟨h1, -⟩ := List.getElem?_eq_some_iff.mp hl
    omega
  · cases hx
theorem am3_kt_len : am3_kt.length = 14 := rfl
theorem am3_kt_ok {p : Nat} {x : Nat × Nat} (hx : am3_lk am3_kt p = some (some x)) : p ≠ 0 ∧ am_hC2_k[p - 1]? = some x := by
  have h1 := am3_lk_lt hx
  rw [am3_kt_len] at h1
  have h2 := List.all_eq_true.mp am3_ktc_ok p (List.mem_range.mpr h1)
  rw [hx] at h2
  simp only [Bool.and_eq_true, decide_eq_true_eq] at h2
  exact h2
theorem ak_D_lt {r p : Nat} (h : ak_D r p = true) : p < am_SP := by
  unfold ak_D at h
  unfold am_SP
  split at h
  · have := of_decide_eq_true h; omega
  · simp only [Bool.and_eq_true, decide_eq_true_eq] at h; omega
  · have := of_decide_eq_true h; omega
section AM3
variable {e : ak_X3} {r d j : Nat} {ρ : List Nat} {g : ak_G} {h h' : ak_S}
theorem am3_kd_D {p : Nat} {x : Nat × Nat} (hx : am3_kd e r p = some x) (hp : p < am_SP) : ak_D r p = true := by
  unfold am3_kd at hx
  rw [if_neg (by omega)] at hx
  split at hx
  · rename_i h1; exact h1
  · cases hx
theorem am3_kd_ok {p : Nat} {x : Nat × Nat} (hx : am3_kd e r p = some x) : am_kind (am_ro e.1) (ak_ov r g ρ h) p = some x := by
  unfold am3_kd at hx
  unfold am_kind
  split at hx
  · rename_i h1
    rw [if_neg (by unfold am_SP at h1; omega), if_neg (by omega)]
    exact hx
  · rename_i h1
    split at hx
    · split at hx
      · rename_i y hy
        subst hx
        obtain ⟨h2, h3⟩ := am3_kt_ok hy
        rw [if_neg h2, if_pos (by omega)]
        exact h3
      · cases hx
    · cases hx
theorem am3_rfl {p k v : Nat} {l : List (Option Nat)} (hc : (List.range l.length).all (fun k => match l.getD k none with
    | some v => decide (am2_rd am2_b.2 0 am_hC2_R p k = some v)
    | none => true) = true) (hx : l.getD k none = some v) : am2_it am_R0 0 am_hC2_R p k = v := by
  have h1 : k < l.length := by
    rcases Nat.lt_or_ge k l.length with h1 | h1
    · exact h1
    · rw [List.getD_eq_getElem?_getD, List.getElem?_eq_none_iff.mpr h1] at hx; cases hx
  have h2 := List.all_eq_true.mp hc k (List.mem_range.mpr h1)
  rw [hx] at h2
  exact am2_rd_it am2_bR_ok _ _ _ _ (of_decide_eq_true h2)
theorem am3_lkD {α : Type} {t : List (List (Option α))} {k : Nat} {v : α} (hx : am3_lk t k = some (some v)) (ht : t.all (fun l => decide (l.length = 16)) = true ∨ True) : ∃ l, t[k / 16]? = some l ∧ l[k % 16]? = some (some v) := by
  unfold am3_lk at hx
  split at hx
  · rename_i l hl; exact ⟨l, hl, hx⟩
  · cases hx
def am3_r110c : Bool := (List.range 160).all (fun k => match am3_lk am3_r110 k with
  | some (some v) => decide (am2_rd am2_b.2 0 am_hC2_R 110 k = some v)
  | _ => true)
set_option maxRecDepth 100000 in
theorem am3_r110c_ok : am3_r110c = true := by decide +kernel
theorem am3_r110_len : am3_r110.length = 10 := rfl
theorem ak_Rf_c {p k : Nat} (h1 : ¬ (p = 1 ∧ k = 7)) (h2 : ¬ (p = 2 ∧ k = 1)) (h3 : ¬ (p = 2 ∧ k = 2)) (h4 : ¬ (p = 32 ∧ k = 6)) (h5 : ¬ (p = 32 ∧ k = 7)) : ak_Rf ρ p k = am2_it am_R0 0 am_hC2_R p k := by
  unfold ak_Rf
  rw [if_neg h1, if_neg h2, if_neg h3, if_neg h4, if_neg h5]
theorem am3_getD_some {l : List Nat} {i v : Nat} (h : l[i]? = some v) : l.getD i 0 = v := by
  rw [List.getD_eq_getElem?_getD, h]; rfl
set_option maxRecDepth 100000 in
theorem am3_rf_ok {p k v : Nat} (hx : am3_rf ρ p k = some v) : ak_Rf ρ p k = v := by
  unfold am3_rf at hx
  split at hx
  · rename_i hp
    subst hp
    rw [ak_Rf_c (by omega) (by omega) (by omega) (by omega) (by omega)]
    split at hx
    · rename_i y hy
      subst hx
      have h1 := am3_lk_lt hy
      rw [am3_r110_len] at h1
      have h2 := List.all_eq_true.mp am3_r110c_ok k (List.mem_range.mpr h1)
      rw [hy] at h2
      exact am2_rd_it am2_bR_ok _ _ _ _ (of_decide_eq_true h2)
    · cases hx
  · split at hx
    · rename_i hp
      subst hp
      by_cases hk : k = 7
      · subst hk
        exact am3_getD_some hx
      · rw [ak_Rf_c (by omega) (by omega) (by omega) (by omega) (by omega)]
        refine am3_rfl (l := [some 2, some 32, some 3, some 33, some 44, some 49, some 63]) (by decide +kernel) ?_
        rcases Nat.lt_or_ge k 7 with h1 | h1
        · match k, h1 with
          | 0, _ => exact hx
          | 1, _ => exact hx
          | 2, _ => exact hx
          | 3, _ => exact hx
          | 4, _ => exact hx
          | 5, _ => exact hx
          | 6, _ => exact hx
        · exfalso
          rw [List.getD_eq_getElem?_getD, List.getElem?_eq_none_iff.mpr (by simp; omega)] at hx; cases hx
    · split at hx
      · rename_i hp
        subst hp
        match k with
        | 0 => exact (ak_Rf_c (by omega) (by omega) (by omega) (by omega) (by omega)).trans (am3_rfl (l := [some 3]) (by decide +kernel) hx)
        | 1 => exact am3_getD_some hx
        | 2 => exact am3_getD_some hx
        | 3 => exact (ak_Rf_c (by omega) (by omega) (by omega) (by omega) (by omega)).trans (am3_rfl (l := [none, none, none, some 30, some 31]) (by decide +kernel) hx)
        | 4 => exact (ak_Rf_c (by omega) (by omega) (by omega) (by omega) (by omega)).trans (am3_rfl (l := [none, none, none, some 30, some 31]) (by decide +kernel) hx)
        | k + 5 => cases hx
      · split at hx
        · rename_i hp
          subst hp
          match k with
          | 0 => exact (ak_Rf_c (by omega) (by omega) (by omega) (by omega) (by omega)).trans (am3_rfl (l := [some 33, some 44, some 49, some 63, some 69, some 77, none, none, some 108, some 109]) (by decide +kernel) hx)
          | 1 => exact (ak_Rf_c (by omega) (by omega) (by omega) (by omega) (by omega)).trans (am3_rfl (l := [some 33, some 44, some 49, some 63, some 69, some 77, none, none, some 108, some 109]) (by decide +kernel) hx)
          | 2 => exact (ak_Rf_c (by omega) (by omega) (by omega) (by omega) (by omega)).trans (am3_rfl (l := [some 33, some 44, some 49, some 63, some 69, some 77, none, none, some 108, some 109]) (by decide +kernel) hx)
          | 3 => exact (ak_Rf_c (by omega) (by omega) (by omega) (by omega) (by omega)).trans (am3_rfl (l := [some 33, some 44, some 49, some 63, some 69, some 77, none, none, some 108, some 109]) (by decide +kernel) hx)
          | 4 => exact (ak_Rf_c (by omega) (by omega) (by omega) (by omega) (by omega)).trans (am3_rfl (l := [some 33, some 44, some 49, some 63, some 69, some 77, none, none, some 108, some 109]) (by decide +kernel) hx)
          | 5 => exact (ak_Rf_c (by omega) (by omega) (by omega) (by omega) (by omega)).trans (am3_rfl (l := [some 33, some 44, some 49, some 63, some 69, some 77, none, none, some 108, some 109]) (by decide +kernel) hx)
          | 6 => exact am3_getD_some hx
          | 7 => exact am3_getD_some hx
          | 8 => exact (ak_Rf_c (by omega) (by omega) (by omega) (by omega) (by omega)).trans (am3_rfl (l := [some 33, some 44, some 49, some 63, some 69, some 77, none, none, some 108, some 109]) (by decide +kernel) hx)
          | 9 => exact (ak_Rf_c (by omega) (by omega) (by omega) (by omega) (by omega)).trans (am3_rfl (l := [some 33, some 44, some 49, some 63, some 69, some 77, none, none, some 108, some 109]) (by decide +kernel) hx)
          | k + 10 => cases hx
        · rename_i n1 n2 n3 n4
          rw [ak_Rf_c (by omega) (by omega) (by omega) (by omega) (by omega)]
          unfold am3_ro2 at hx
          by_cases c0 : p = 3
          · rw [if_pos c0] at hx; rw [c0]; exact am3_rfl (by decide +kernel) hx
          rw [if_neg c0] at hx
          by_cases c1 : p = 9
          · rw [if_pos c1] at hx; rw [c1]; exact am3_rfl (by decide +kernel) hx
          rw [if_neg c1] at hx
          by_cases c2 : p = 10
          · rw [if_pos c2] at hx; rw [c2]; exact am3_rfl (by decide +kernel) hx
          rw [if_neg c2] at hx
          by_cases c3 : p = 33
          · rw [if_pos c3] at hx; rw [c3]; exact am3_rfl (by decide +kernel) hx
          rw [if_neg c3] at hx
          by_cases c4 : p = 44
          · rw [if_pos c4] at hx; rw [c4]; exact am3_rfl (by decide +kernel) hx
          rw [if_neg c4] at hx
          by_cases c5 : p = 49
          · rw [if_pos c5] at hx; rw [c5]; exact am3_rfl (by decide +kernel) hx
          rw [if_neg c5] at hx
          by_cases c6 : p = 63
          · rw [if_pos c6] at hx; rw [c6]; exact am3_rfl (by decide +kernel) hx
          rw [if_neg c6] at hx
          by_cases c7 : p = 69
          · rw [if_pos c7] at hx; rw [c7]; exact am3_rfl (by decide +kernel) hx
          rw [if_neg c7] at hx
          by_cases c8 : p = 77
          · rw [if_pos c8] at hx; rw [c8]; exact am3_rfl (by decide +kernel) hx
          rw [if_neg c8] at hx
          by_cases c9 : p = 87
          · rw [if_pos c9] at hx; rw [c9]; exact am3_rfl (by decide +kernel) hx
          rw [if_neg c9] at hx
          by_cases c10 : p = 88
          · rw [if_pos c10] at hx; rw [c10]; exact am3_rfl (by decide +kernel) hx
          rw [if_neg c10] at hx
          by_cases c11 : p = am_SP + 10
          · rw [if_pos c11] at hx; rw [c11]; exact am3_rfl (by decide +kernel) hx
          rw [if_neg c11] at hx
          by_cases c12 : p = am_SP + 11
          · rw [if_pos c12] at hx; rw [c12]; exact am3_rfl (by decide +kernel) hx
          rw [if_neg c12] at hx
          cases hx
/-! one step -/
variable {pc len a b : Nat} {ls : am_L} {st : List am_V} {Q : List Nat → ak_R3 → Prop} {z : Int} {ins : Instr}
theorem ak_W1_one {pc' : Nat} {ls' : am_L} {st' : List am_V} (hC : am_co am_P j pc = some (len, ins, a, b, z))
    (hs : ∀ g (call : Nat → List am_V → am_H → Option am_R) (k : Nat → am_L → List am_V → am_H → Option am_R), ak_gok e g → am_one (am_ro e.1) am_fty am_nf (am_na am_P) (am_rc am_P) (am_hdf (am_hl am_P j)) (am_rtag (am_re am_P j)) call k (len, ins, a, b, z) pc ls st (ak_ov r g ρ h) = k pc' ls' st' (ak_ov r g ρ h'))
    (w : ak_W1 e r d j ρ pc' ls' st' h' Q) : ak_W1 e r d j ρ pc ls st h Q := by
  obtain ⟨ρ', res, h1, h2⟩ := w
  refine ⟨ρ', res, h1, fun g hg => ?_⟩
  obtain ⟨F, n, h3⟩ := h2 g hg
  refine ⟨F, n + 1, ?_⟩
  rw [am_run, hC]
  exact (hs g _ _ hg).trans h3
theorem ak_W1_end {x : ak_R3} (hC : am_co am_P j pc = some (len, ins, a, b, z))
    (hs : ∀ g (call : Nat → List am_V → am_H → Option am_R) (k : Nat → am_L → List am_V → am_H → Option am_R), ak_gok e g → am_one (am_ro e.1) am_fty am_nf (am_na am_P) (am_rc am_P) (am_hdf (am_hl am_P j)) (am_rtag (am_re am_P j)) call k (len, ins, a, b, z) pc ls st (ak_ov r g ρ h) = some (ak_lf r g ρ x))
    (q : Q ρ x) : ak_W1 e r d j ρ pc ls st h Q := by
  refine ⟨ρ, x, q, fun g hg => ⟨0, 1, ?_⟩⟩
  rw [am_run, hC]
  exact hs g _ _ hg
theorem am_one_nrm {ro : Nat → Option (Nat × Nat)} {fty : Nat → Nat → Nat} {nf na rc : Nat → Nat} {hd : Nat → Nat → Option (Option (Nat × Nat))} {rt : Nat} {call : Nat → List am_V → am_H → Option am_R} {k : Nat → am_L → List am_V → am_H → Option am_R} {h : am_H} (hi : am_nrm ins = true) :
    am_one ro fty nf na rc hd rt call k (len, ins, a, b, z) pc ls st h = am_nx k (pc + len) (am_norm ro fty nf ins a b z ls st h) := by
  unfold am_nrm at hi
  cases ins <;> first | (cases hi; done) | rfl | (unfold am_one; rfl)
theorem ak_W1_nrm {ls' : am_L} {st' : List am_V} (hC : am_co am_P j pc = some (len, ins, a, b, z)) (hi : am_nrm ins = true)
    (hn : ∀ g, ak_gok e g → am_norm (am_ro e.1) am_fty am_nf ins a b z ls st (ak_ov r g ρ h) = some (ls', st', ak_ov r g ρ h')) (w : ak_W1 e r d j ρ (pc + len) ls' st' h' Q) : ak_W1 e r d j ρ pc ls st h Q := by
  refine ak_W1_one hC (fun g call k hg => ?_) w
  rw [am_one_nrm hi, hn g hg]
  rfl
theorem ak_W1_hp {st' : List am_V} (hC : am_co am_P j pc = some (len, ins, a, b, z)) (hi : am_nrm ins = true) (hl : am_loc ins ls st = none) (ha : am_alu ins st = none)
    (hn : ∀ g, ak_gok e g → am_hp (am_ro e.1) am_fty am_nf ins a b z st (ak_ov r g ρ h) = some (st', ak_ov r g ρ h')) (w : ak_W1 e r d j ρ (pc + len) ls st' h' Q) : ak_W1 e r d j ρ pc ls st h Q := by
  refine ak_W1_nrm hC hi (fun g hg => ?_) w
  unfold am_norm
  rw [hl]
  dsimp only
  rw [ha]
  dsimp only
  rw [hn g hg]
theorem ak_W1_imp {Q' : List Nat → ak_R3 → Prop} (w : ak_W1 e r d j ρ pc ls st h Q) (hq : ∀ ρ x, Q ρ x → Q' ρ x) : ak_W1 e r d j ρ pc ls st h Q' := by
  obtain ⟨ρ', x, h1, h2⟩ := w
  exact ⟨ρ', x, hq _ _ h1, h2⟩
theorem ak_W1_aft {i : Nat} {ar s : List am_V} {R : List Nat → ak_R3 → Prop} (hC : am_co am_P j pc = some (len, ins, a, b, z))
    (hs : ∀ g (call : Nat → List am_V → am_H → Option am_R) (k : Nat → am_L → List am_V → am_H → Option am_R), ak_gok e g → am_one (am_ro e.1) am_fty am_nf (am_na am_P) (am_rc am_P) (am_hdf (am_hl am_P j)) (am_rtag (am_re am_P j)) call k (len, ins, a, b, z) pc ls st (ak_ov r g ρ h) = am_aft (am_hdf (am_hl am_P j)) k pc len ls s (call i ar (ak_ov r g ρ h)))
    (m : ak_M1 e r d ρ i ar h R) (k1 : ∀ ρ' v h', R ρ' (.inl (v, h')) → ak_W1 e r d j ρ' (pc + len) ls (v.toList ++ s) h' Q)
    (k2 : ∀ ρ' x h', R ρ' (.inr (x, h')) → (am_hdf (am_hl am_P j) pc x = some none ∧ Q ρ' (.inr (x, h'))) ∨ ∃ t i l, am_hdf (am_hl am_P j) pc x = some (some (t, i)) ∧ am_st ls i (.inr (.inr 0)) = some l ∧ ak_W1 e r d j ρ' t (l.set i none) [] h' Q) : ak_W1 e r d j ρ pc ls st h Q := by
  obtain ⟨ρ', res, m1, m2⟩ := m
  have up : ∀ {F F' n pc ls st h res}, am_run (am_ro e.1) am_fty am_nf (am_na am_P) (am_rc am_P) (am_co am_P j) (am_hdf (am_hl am_P j)) (am_rtag (am_re am_P j)) (am_exec am_P (am_ro e.1) F' d) n pc ls st h = some res → am_run (am_ro e.1) am_fty am_nf (am_na am_P) (am_rc am_P) (am_co am_P j) (am_hdf (am_hl am_P j)) (am_rtag (am_re am_P j)) (am_exec am_P (am_ro e.1) (max F F') d) n pc ls st h = some res :=
    fun q => am_run_le (fun j ar h r q => am_exec_le (Nat.le_max_right _ _) d d j ar h r (Nat.le_refl _) q) _ _ _ _ _ _ _ (Nat.le_refl _) q
  rcases res with ⟨v, h2⟩ | ⟨x, h2⟩
  · obtain ⟨ρ2, res2, q1, q2⟩ := k1 ρ' v h2 m1
    refine ⟨ρ2, res2, q1, fun g hg => ?_⟩
    obtain ⟨F, g1⟩ := m2 g hg
    obtain ⟨F', n, g2⟩ := q2 g hg
    refine ⟨max F F', n + 1, ?_⟩
    rw [am_run, hC]
    refine (hs g _ _ hg).trans ?_
    rw [am_exec_le (Nat.le_max_left F F') d d i ar _ _ (Nat.le_refl _) g1]
    exact up g2
  · rcases k2 ρ' x h2 m1 with ⟨e1, e2⟩ | ⟨t, i', l, e1, e2, ρ2, res2, q1, q2⟩
    · refine ⟨ρ', .inr (x, h2), e2, fun g hg => ?_⟩
      obtain ⟨F, g1⟩ := m2 g hg
      refine ⟨F, 1, ?_⟩
      rw [am_run, hC]
      refine (hs g _ _ hg).trans ?_
      rw [g1]
      unfold am_aft ak_lf
      dsimp only
      rw [e1]
    · refine ⟨ρ2, res2, q1, fun g hg => ?_⟩
      obtain ⟨F, g1⟩ := m2 g hg
      obtain ⟨F', n, g2⟩ := q2 g hg
      refine ⟨max F F', n + 1, ?_⟩
      rw [am_run, hC]
      refine (hs g _ _ hg).trans ?_
      rw [am_exec_le (Nat.le_max_left F F') d d i ar _ _ (Nat.le_refl _) g1]
      unfold am_aft
      simp only [ak_lf]
      rw [e1]
      dsimp only
      rw [e2]
      exact up g2
theorem ak_M1_of {ar : List am_V} (hc : am_cats ar ≤ am_ml am_P j) (w : ak_W1 e r d j ρ 0 (am_ent (am_ml am_P j) ar) [] h Q) : ak_M1 e r (d + 1) ρ j ar h Q := by
  obtain ⟨ρ', res, h1, h2⟩ := w
  refine ⟨ρ', res, h1, fun g hg => ?_⟩
  obtain ⟨F, n, h3⟩ := h2 g hg
  refine ⟨max F n, ?_⟩
  rw [am_exec, if_pos hc]
  exact am_run_le (fun j ar h r q => am_exec_le (Nat.le_max_left F n) d d j ar h r (Nat.le_refl _) q) n (max F n) 0 _ _ _ _ (Nat.le_max_right F n) h3
theorem ak_M1_deep {d' : Nat} {ar : List am_V} (hd : d ≤ d') (w : ak_M1 e r d ρ j ar h Q) : ak_M1 e r d' ρ j ar h Q := by
  obtain ⟨ρ', res, h1, h2⟩ := w
  refine ⟨ρ', res, h1, fun g hg => ?_⟩
  obtain ⟨F, h3⟩ := h2 g hg
  exact ⟨F, am_exec_le (Nat.le_refl F) d d' j ar _ _ hd h3⟩
theorem ak_M1_imp {Q' : List Nat → ak_R3 → Prop} {ar : List am_V} (w : ak_M1 e r d ρ j ar h Q) (hq : ∀ ρ x, Q ρ x → Q' ρ x) : ak_M1 e r d ρ j ar h Q' := by
  obtain ⟨ρ', x, h1, h2⟩ := w
  exact ⟨ρ', x, hq _ _ h1, h2⟩
/-! reads and writes -/
theorem ak_ov_up1 {p b : Nat} {x : Int} (hD : ak_D r p = true) : ak_ov r g ρ (am_up h.1 p b x, h.2) = ((ak_ov r g ρ h).1, am_up (ak_ov r g ρ h).2.1 p b x, (ak_ov r g ρ h).2.2) := by
  unfold ak_ov
  dsimp only
  congr 2
  funext q k
  unfold am_up
  by_cases hq : q = p
  · subst hq; rw [if_pos hD, if_pos rfl, if_pos rfl]; dsimp only; rw [if_pos hD]
  · rw [if_neg hq, if_neg hq]
theorem ak_ov_up2 {p b : Nat} {x : Int} (hD : ak_D r p = true) : ak_ov r g ρ (h.1, am_up h.2.1 p b x, h.2.2) = ((ak_ov r g ρ h).1, (ak_ov r g ρ h).2.1, am_up (ak_ov r g ρ h).2.2.1 p b x, (ak_ov r g ρ h).2.2.2) := by
  unfold ak_ov
  dsimp only
  congr 3
  funext q k
  unfold am_up
  by_cases hq : q = p
  · subst hq; rw [if_pos hD, if_pos rfl, if_pos rfl]; dsimp only; rw [if_pos hD]
  · rw [if_neg hq, if_neg hq]
theorem ak_ov_cpy1 {p q sp dp n : Nat} (hD : ak_D r p = true) (hD2 : ak_D r q = true) : ak_ov r g ρ (am_cpy h.1 p q sp dp n, h.2) = ((ak_ov r g ρ h).1, am_cpy (ak_ov r g ρ h).2.1 p q sp dp n, (ak_ov r g ρ h).2.2) := by
  unfold ak_ov
  dsimp only
  congr 2
  funext u k
  unfold am_cpy
  by_cases hq : u = q
  · subst hq; rw [if_pos hD2, if_pos rfl, if_pos rfl]; dsimp only; rw [if_pos hD, if_pos hD2]
  · rw [if_neg hq, if_neg hq]
theorem ak_ov_cpy2 {p q sp dp n : Nat} (hD : ak_D r p = true) (hD2 : ak_D r q = true) : ak_ov r g ρ (h.1, am_cpy h.2.1 p q sp dp n, h.2.2) = ((ak_ov r g ρ h).1, (ak_ov r g ρ h).2.1, am_cpy (ak_ov r g ρ h).2.2.1 p q sp dp n, (ak_ov r g ρ h).2.2.2) := by
  unfold ak_ov
  dsimp only
  congr 3
  funext u k
  unfold am_cpy
  by_cases hq : u = q
  · subst hq; rw [if_pos hD2, if_pos rfl, if_pos rfl]; dsimp only; rw [if_pos hD, if_pos hD2]
  · rw [if_neg hq, if_neg hq]
theorem ak_ov_rd1 {p k : Nat} {x : Nat × Nat} (hg : ak_gok e g) (hk : am3_kd e r p = some x) : (ak_ov r g ρ h).2.1 p k = am3_rd e p k h := by
  unfold ak_ov am3_rd
  dsimp only
  by_cases hp : am_SP ≤ p
  · rw [if_pos hp, if_neg (fun hD => absurd (ak_D_lt hD) (by omega))]
    exact hg p k hp
  · rw [if_neg hp, if_pos (am3_kd_D hk (by omega))]
theorem ak_ov_rd2 {p k : Nat} {x : Nat × Nat} (hk : am3_kd e r p = some x) (hp : p < am_SP) : (ak_ov r g ρ h).2.2.1 p k = h.2.1 p k := by
  unfold ak_ov
  dsimp only
  rw [if_pos (am3_kd_D hk hp)]
end AM3
