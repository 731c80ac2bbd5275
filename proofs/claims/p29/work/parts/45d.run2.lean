noncomputable section
/-! runs of the fast machine -/
abbrev sx_TT : Type := List (List (List (List (Option sx_I))))
def sx_T2 (TT : sx_TT) (j pc : Nat) : Option sx_I := match sx_at2 TT j with
  | some tb => (match sx_at2 tb pc with
    | some (some c) => some c
    | _ => none)
  | none => none
def sx_T3 (TT : sx_TT) (j pc : Nat) : Option sx_F := match sx_T2 TT j pc with
  | some c => sx_cvo c
  | none => none
def sx_stp (B : sx_B) (Bs : am2_B) (kd : Nat → Option (Nat × Nat)) (fty : Nat → Nat → Nat) (na rc : Nat → Nat) (T : Nat → Option sx_F) (C : Nat → Option am_E) (rt : Nat) (call : sx_CL) (k : sx_K) (pc : Nat) (ls : sx_Lo) (st : List sx_V) (h : sx_H) : Option sx_R := match T pc with
  | some f => f B Bs kd rt call k ls st h
  | none => (match C pc with
    | none => none
    | some e => sx_one B Bs kd fty na rc rt call k e pc ls st h)
def sx_run2 (B : sx_B) (Bs : am2_B) (kd : Nat → Option (Nat × Nat)) (fty : Nat → Nat → Nat) (na rc : Nat → Nat) (T : Nat → Option sx_F) (C : Nat → Option am_E) (rt : Nat) (call : sx_CL) (m : Nat) : sx_K := Nat.rec (motive := fun _ => sx_K) (fun _ _ _ _ => none) (fun _ ih => sx_stp B Bs kd fty na rc T C rt call ih) m
def sx_exec2 (P : am_PG) (TT : sx_TT) (B : sx_B) (Bs : am2_B) (kd : Nat → Option (Nat × Nat)) (F : Nat) : Nat → Nat → List sx_V → sx_H → Option sx_R
  | 0, _, _, _ => none
  | d + 1, j, ar, h => bif Nat.ble (sx_cats ar) (am_ml P j) then sx_run2 B Bs kd am_fty (am_na P) (am_rc P) (sx_T3 TT j) (am_co P j) (am_rtag (am_re P j)) (sx_exec2 P TT B Bs kd F d) F 0 (sx_ent (am_ml P j) ar) [] h else none
/-- the tables say what the code says -/
def sx_tok (P : am_PG) (TT : sx_TT) : Prop := ∀ j pc c, sx_T2 TT j pc = some c → ∃ e, am_co P j pc = some e ∧ sx_ek am_fty (am_na P) (am_rc P) pc e c = true
section SXRR
variable {B : sx_B} {e : sx_E} {K : List (Nat × Nat)} {n : Nat × Nat} {Bs : am2_B} {Z : sx_Z} {ro : Nat → Option (Nat × Nat)} {kd : Nat → Option (Nat × Nat)} {fty : Nat → Nat → Nat} {nf na rc : Nat → Nat} {hd : Nat → Nat → Option (Option (Nat × Nat))}
theorem sx_run2_ok (hB : sx_inB B e) (hkd : ∀ {H : am_H}, H.1 = K → ∀ {p x}, kd p = some x → am_kind ro H p = some x ∧ p ≠ 0) {rt : Nat} {T : Nat → Option sx_F} {C : Nat → Option am_E} (hT : ∀ pc f, T pc = some f → ∃ e c, C pc = some e ∧ sx_ek fty na rc pc e c = true ∧ sx_cvo c = some f) {call : Nat → List sx_V → sx_H → Option sx_R} {call' : Nat → List am_V → am_H → Option am_R} (hc : sx_cok e K n Bs Z call call') : ∀ m, sx_kok e K n Bs Z (sx_run2 B Bs kd fty na rc T C rt call m) (am_run ro fty nf na rc C hd rt call' m)
  | 0 => fun _ _ _ _ _ _ _ _ h => by cases h
  | m + 1 => fun pc ls st h r l t H hh r1 r2 g => by
    have hh : sx_stp B Bs kd fty na rc T C rt call (sx_run2 B Bs kd fty na rc T C rt call m) pc ls st h = some r := hh
    unfold sx_stp at hh
    rw [am_run]
    cases hx : T pc with
    | some f =>
      rw [hx] at hh
      obtain ⟨en, c, h1, h2, h3⟩ := hT pc f hx
      rw [h1]
      have hh : f B Bs kd rt call (sx_run2 B Bs kd fty na rc T C rt call m) ls st h = some r := hh
      rw [sx_cvo_ok h3] at hh
      exact sx_one_ok hB hkd hc (sx_run2_ok hB hkd hT hc m) (sx_fst_ok h2 hh) r1 r2 g
    | none =>
      rw [hx] at hh
      cases hC : C pc with
      | none => rw [hC] at hh; cases hh
      | some en =>
        rw [hC] at hh
        exact sx_one_ok hB hkd hc (sx_run2_ok hB hkd hT hc m) hh r1 r2 g
theorem sx_T3_ok {P : am_PG} {TT : sx_TT} (hTT : sx_tok P TT) (j : Nat) : ∀ pc f, sx_T3 TT j pc = some f → ∃ e c, am_co P j pc = some e ∧ sx_ek am_fty (am_na P) (am_rc P) pc e c = true ∧ sx_cvo c = some f := by
  intro pc f hf
  unfold sx_T3 at hf
  split at hf
  · rename_i c hc
    obtain ⟨e, h1, h2⟩ := hTT j pc c hc
    exact ⟨e, c, h1, h2, hf⟩
  · cases hf
theorem sx_exec2_ok {P : am_PG} {TT : sx_TT} (hTT : sx_tok P TT) (hB : sx_inB B e) (hkd : ∀ {H : am_H}, H.1 = K → ∀ {p x}, kd p = some x → am_kind ro H p = some x ∧ p ≠ 0) {F : Nat} : ∀ d, sx_cok e K n Bs Z (sx_exec2 P TT B Bs kd F d) (am_exec P ro F d)
  | 0 => fun _ _ _ _ _ _ h => by cases h
  | d + 1 => fun j ar h r t H hh r1 g => by
    rw [sx_exec2] at hh
    rw [am_exec]
    obtain ⟨h1, hh⟩ := sx_ifs hh
    rw [if_pos (by rw [sx_rl_cats r1]; exact Nat.le_of_ble_eq_true h1)]
    exact sx_run2_ok hB hkd (sx_T3_ok hTT j) (sx_exec2_ok hTT hB hkd d) F _ _ _ _ _ _ _ _ hh (sx_ent_ok r1) trivial g
end SXRR
def sx_tk1 (C : Nat → Option am_E) : List (Option sx_I) → Nat → Bool
  | [], _ => true
  | none :: r, k => sx_tk1 C r (k + 1)
  | some c :: r, k => (match C k with
    | some e => sx_ek am_fty (am_na am_P) (am_rc am_P) k e c
    | none => false) && sx_tk1 C r (k + 1)
def sx_tk2 (C : Nat → Option am_E) : List (List (Option sx_I)) → Nat → Bool
  | [], _ => true
  | a :: r, k => sx_tk1 C a k && sx_tk2 C r (k + 16)
theorem sx_tk1_ok {C : Nat → Option am_E} : ∀ {l : List (Option sx_I)} {k i : Nat} {c : sx_I}, sx_tk1 C l k = true → sx_at l i = some (some c) → ∃ e, C (k + i) = some e ∧ sx_ek am_fty (am_na am_P) (am_rc am_P) (k + i) e c = true
  | [], k, i, c, _, q => by cases q
  | none :: r, k, 0, c, h, q => by cases q
  | some w :: r, k, 0, c, h, q => by
    have h : ((match C k with
      | some e => sx_ek am_fty (am_na am_P) (am_rc am_P) k e w
      | none => false) && sx_tk1 C r (k + 1)) = true := h
    rw [Bool.and_eq_true] at h
    cases q
    cases hx : C k with
    | none => rw [hx] at h; cases h.1
    | some e =>
      rw [hx] at h
      exact ⟨e, rfl, h.1⟩
  | none :: r, k, i + 1, c, h, q => by
    have h : sx_tk1 C r (k + 1) = true := h
    have := sx_tk1_ok (i := i) h q
    rw [show k + (i + 1) = k + 1 + i by omega]
    exact this
  | some w :: r, k, i + 1, c, h, q => by
    have h : ((match C k with
      | some e => sx_ek am_fty (am_na am_P) (am_rc am_P) k e w
      | none => false) && sx_tk1 C r (k + 1)) = true := h
    rw [Bool.and_eq_true] at h
    have := sx_tk1_ok (i := i) h.2 q
    rw [show k + (i + 1) = k + 1 + i by omega]
    exact this
theorem sx_tk2_ok {C : Nat → Option am_E} : ∀ {l : List (List (Option sx_I))} {k i j : Nat} {a : List (Option sx_I)} {c : sx_I}, sx_tk2 C l k = true → sx_at l i = some a → sx_at a j = some (some c) → ∃ e, C (k + 16 * i + j) = some e ∧ sx_ek am_fty (am_na am_P) (am_rc am_P) (k + 16 * i + j) e c = true
  | [], k, i, j, a, c, _, q, _ => by cases q
  | b :: r, k, 0, j, a, c, h, q, q2 => by
    have h : (sx_tk1 C b k && sx_tk2 C r (k + 16)) = true := h
    rw [Bool.and_eq_true] at h
    cases q
    exact sx_tk1_ok (i := j) h.1 q2
  | b :: r, k, i + 1, j, a, c, h, q, q2 => by
    have h : (sx_tk1 C b k && sx_tk2 C r (k + 16)) = true := h
    rw [Bool.and_eq_true] at h
    have := sx_tk2_ok (i := i) (j := j) h.2 q q2
    rw [show k + 16 * (i + 1) + j = k + 16 + 16 * i + j by omega]
    exact this
theorem sx_tok_of {TT : sx_TT} (h : ∀ j tb, sx_at2 TT j = some tb → sx_tk2 (am_co am_P j) tb 0 = true) : sx_tok am_P TT := by
  intro j pc c hc
  unfold sx_T2 at hc
  split at hc
  · rename_i tb htb
    split at hc
    · rename_i c2 hc2
      cases hc
      have h1 := h j tb htb
      unfold sx_at2 at hc2
      split at hc2
      · rename_i r hr
        have h2 := sx_tk2_ok h1 hr hc2
        rw [show 0 + 16 * (pc / 16) + pc % 16 = pc by omega] at h2
        exact h2
      · cases hc2
    · cases hc
  · cases hc
theorem sx_at_lt {α : Type} : ∀ (l : List α) (n : Nat) (v : α), sx_at l n = some v → n < l.length
  | [], n, v, h => by cases n <;> cases h
  | a :: r, 0, v, _ => Nat.zero_lt_succ _
  | a :: r, n + 1, v, h => Nat.succ_lt_succ (sx_at_lt r n v h)
end
