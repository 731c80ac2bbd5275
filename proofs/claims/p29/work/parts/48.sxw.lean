noncomputable section
/-! from the heaps of writes to what is told -/
def sx_Bz : sx_B := ((0, 0), (0, 0), (0, 0))
def sx_e0z : sx_E := (0, 0, 0)
theorem sx_inBz : sx_inB sx_Bz sx_e0z := by
  unfold sx_inB sx_Bz sx_e0z
  dsimp only
  omega
def sx_ofW : am2_O Int → sx_M → sx_M
  | [], m => m
  | (q, none) :: r, m => sx_set2 (sx_ofW r m) q sx_e0
  | (q, some (j, v)) :: r, m => match sx_ofW r m with
    | m2 => (match sx_cl m2 q with
      | some ct => (match sx_write sx_Bz ct (.inl j) (.inl v) with
        | some c2 => sx_set2 m2 q (some c2)
        | none => sx_set2 m2 q none)
      | none => m2)
theorem sx_cl_set2n {m : sx_M} {p q : Nat} {v : Option sx_Ct} {w : sx_Ct} (h : sx_cl (sx_set2 m p v) q = some w) : (q = p ∧ v = some w) ∨ (q ≠ p ∧ sx_cl m q = some w) := by
  rcases sx_at2_set2 (sx_cl_some h) with ⟨h1, h2⟩ | ⟨h1, h2⟩
  · exact Or.inl ⟨h1, h2.symm⟩
  · exact Or.inr ⟨h1, sx_cl_of h2⟩
theorem sx_clr_at (f : Nat → Nat → Int) (p : Nat) : am_clr f p 0 p = fun _ => 0 := by
  funext i
  exact if_pos rfl
theorem sx_clr_no (f : Nat → Nat → Int) {p q : Nat} (h : q ≠ p) : am_clr f p 0 q = f q := by
  funext i
  exact if_neg h
theorem sx_ofW_ok {b : Nat → Nat → Int} : ∀ (W : am2_O Int) (m : sx_M), (∀ p c, sx_cl m p = some c → sx_rc sx_e0z c (b p)) → ∀ p c, sx_cl (sx_ofW W m) p = some c → sx_rc sx_e0z c (am2_it b 0 W p)
  | [], m, h, p, c, hc => h p c hc
  | (q, none) :: r, m, h, p, c, hc => by
    show sx_rc sx_e0z c (am_clr (am2_it b 0 r) q 0 p)
    rcases sx_cl_set2n hc with ⟨rfl, h1⟩ | ⟨h1, h2⟩
    · rw [sx_clr_at]
      cases h1
      refine ⟨fun q hq => (by cases hq), fun k _ => ?_⟩
      show sx_rd0 sx_e0z sx_z (sx_g3 [] k) k 0
      rw [sx_g3_nil]
      intro _
      show (0 : Int) = 0 + 0 * k
      omega
    · rw [sx_clr_no _ h1]
      exact sx_ofW_ok r m h p c h2
  | (q, some (j, v)) :: r, m, h, p, c, hc => by
    show sx_rc sx_e0z c (am_up (am2_it b 0 r) q j v p)
    unfold sx_ofW at hc
    dsimp only at hc
    split at hc
    · rename_i ct hct
      split at hc
      · rename_i c2 hc2
        rcases sx_cl_set2n hc with ⟨rfl, h1⟩ | ⟨h1, h2⟩
        · cases h1
          rw [sx_up_at]
          exact sx_write_ok sx_inBz (sx_ofW_ok r m h p ct hct) (show sx_ri sx_e0z (.inl j) j from rfl) (show sx_rn sx_e0z (.inl v) v from rfl) hc2
        · rw [sx_up_no _ _ h1]
          exact sx_ofW_ok r m h p c h2
      · rcases sx_cl_set2n hc with ⟨rfl, h1⟩ | ⟨h1, h2⟩
        · cases h1
        · rw [sx_up_no _ _ h1]
          exact sx_ofW_ok r m h p c h2
    · rename_i hn
      have h1 : p ≠ q := fun z => by rw [z, hn] at hc; cases hc
      rw [sx_up_no _ _ h1]
      exact sx_ofW_ok r m h p c hc
theorem sx_u0_ok {e : sx_E} {f : Nat → Int} : sx_rc e (none, [], []) f := by
  refine ⟨fun q hq => (by cases hq), fun k _ => ?_⟩
  show sx_rd0 e none (sx_g3 [] k) k (f k)
  rw [sx_g3_nil]
  exact trivial
def sx_isu (_ : Nat) (c : sx_Ct) : Bool := match c with
  | (none, [], []) => true
  | _ => false
theorem sx_M0_u : sx_imM sx_isu sx_M0 0 = true := by decide +kernel
theorem sx_M0_ok {e : sx_E} {b : Nat → Nat → Int} : ∀ p c, sx_cl sx_M0 p = some c → sx_rc e c (b p) := by
  intro p c hc
  have h := sx_imM_ok sx_M0_u hc
  unfold sx_isu at h
  split at h
  · exact sx_u0_ok
  · cases h
set_option maxRecDepth 100000 in
theorem sx_s0I : sx_imM (sx_ig sx_Bz false (sx_ofW am_hB_I sx_M0)) sx_S0.1 0 = true := by decide +kernel
set_option maxRecDepth 100000 in
theorem sx_s0J : sx_imM (sx_ig sx_Bz false (sx_ofW am_hB_J sx_M0)) sx_S0.2.1 0 = true := by decide +kernel
set_option maxRecDepth 100000 in
theorem sx_s0R : sx_rf3 (am2_rd (fun _ _ => none) 0 am_hB_R) sx_S0.2.2 0 = true := by decide +kernel
/-- the first stage -/
theorem sx_S0_HF (X : Nat → Int) : sx_HF sx_e0z sx_S0 (am_hp0 X am_hB) := by
  refine ⟨fun p c hc => ?_, fun p c hc => ?_, fun p k q hq => ?_⟩
  · have h3 := sx_imM_ok sx_s0I hc
    unfold sx_ig at h3
    split at h3
    · rename_i c0 h0
      exact sx_imc_ok sx_inBz (sx_ofW_ok am_hB_I sx_M0 sx_M0_ok p c0 h0) h3
    · cases h3
  · have h3 := sx_imM_ok sx_s0J hc
    unfold sx_ig at h3
    split at h3
    · rename_i c0 h0
      exact sx_imc_ok sx_inBz (sx_ofW_ok am_hB_J sx_M0 sx_M0_ok p c0 h0) h3
    · cases h3
  · exact am2_rd_it (fun _ _ _ h => by cases h) am_hB_R p k q (sx_rf_ok sx_s0R hq)
/-! the kinds of the cells -/
theorem sx_KK_lt : ∀ p, p < 111 → p ≠ 0 → sx_at2 sx_KK p = am_hB_k[p - 1]? := by decide +kernel
theorem sx_at_all {α : Type} {Q : α → Prop} : ∀ (l : List α) (n : Nat) (v : α), (∀ x ∈ l, Q x) → sx_at l n = some v → Q v
  | [], n, v, _, h => by cases n <;> cases h
  | a :: r, 0, v, hq, h => by cases h; exact hq a List.mem_cons_self
  | a :: r, n + 1, v, hq, h => sx_at_all r n v (fun x hx => hq x (List.mem_cons_of_mem _ hx)) h
theorem sx_KK_ge {p : Nat} {x : Nat × Nat} (h : sx_at2 sx_KK p = some x) : p < 111 := by
  unfold sx_at2 at h
  split at h
  · rename_i r hr
    have h1 := sx_at_lt _ _ _ hr
    have h2 := sx_at_lt _ _ _ h
    have h3 : p / 16 < 7 := h1
    have h4 : r.length ≤ 16 := sx_at_all (Q := fun z => z.length ≤ 16) sx_KK (p / 16) r (by decide) hr
    by_cases q : p / 16 = 6
    · rw [q] at hr
      cases hr
      have h5 : p % 16 < 15 := h2
      omega
    · omega
  · cases h
theorem sx_KK_ok : sx_kdok sx_KK am_hB_k := fun p x h0 h => by
  rw [← sx_KK_lt p (sx_KK_ge h) h0]
  exact h
theorem sx_kdk {L : Nat} : ∀ {H : am_H}, H.1 = am_hB_k → ∀ {p x}, sx_kd sx_KK p = some x → am_kind (am_ro L) H p = some x ∧ p ≠ 0 := fun h1 _ _ h => sx_kd_ok am2_ro_ok sx_KK_ok h1 h
/-- what never changes: the cells, their number, what lies ahead of the run -/
def sx_ST (H : am_H) : Prop := H.1 = am_hB_k ∧ H.2.2.2.2 = (110, 160427) ∧ (∀ p k v, am2_b.1 p k = some v → am_SP ≤ p ∧ H.2.1 p k = v) ∧ ∀ p k v, am2_b.2 p k = some v → am_SP ≤ p ∧ H.2.2.2.1 p k = v
theorem sx_it_SP {α : Type} {b : Nat → Nat → α} {d : α} : ∀ (W : am2_O α), W.all (fun q => Nat.blt q.1 am_SP) = true → ∀ p k, am_SP ≤ p → am2_it b d W p k = b p k
  | [], _, p, k, _ => rfl
  | (q, none) :: r, h, p, k, hp => by
    rw [List.all_cons, Bool.and_eq_true, Nat.blt_eq] at h
    have h1 : q < am_SP := h.1
    refine (if_neg ?_).trans (sx_it_SP r h.2 p k hp)
    omega
  | (q, some (j, v)) :: r, h, p, k, hp => by
    rw [List.all_cons, Bool.and_eq_true, Nat.blt_eq] at h
    have h1 : q < am_SP := h.1
    refine (if_neg ?_).trans (sx_it_SP r h.2 p k hp)
    omega
theorem sx_S0_ST (X : Nat → Int) : sx_ST (am_hp0 X am_hB) := by
  refine ⟨rfl, rfl, fun p k v h => ⟨am2_b_SP.1 p k v h, ?_⟩, fun p k v h => ⟨am2_b_SP.2 p k v h, ?_⟩⟩
  · exact (sx_it_SP am_hB_I (by decide +kernel) p k (am2_b_SP.1 p k v h)).trans (am2_bI_ok p k v h)
  · exact (sx_it_SP am_hB_R (by decide +kernel) p k (am2_b_SP.2 p k v h)).trans (am2_bR_ok p k v h)
abbrev sx_HRR (e : sx_E) (Z : sx_Z) (h : sx_H) (H : am_H) : Prop := sx_HR e am_hB_k (110, 160427) am2_b Z h H
theorem sx_HR_of {e : sx_E} {h : sx_H} {H : am_H} (s : sx_ST H) (f : sx_HF e h H) : sx_HRR e (H.2.1, H.2.2.1) h H := ⟨s.1, s.2.1, f.1, f.2.1, f.2.2, s.2.2.1, s.2.2.2, fun _ _ => rfl, fun _ _ => rfl⟩
theorem sx_HR_ST {e : sx_E} {Z : sx_Z} {h : sx_H} {H : am_H} (r : sx_HRR e Z h H) : sx_ST H := ⟨r.1, r.2.1, r.2.2.2.2.2.1, r.2.2.2.2.2.2.1⟩
theorem sx_HR_HF {e : sx_E} {Z : sx_Z} {h : sx_H} {H : am_H} (r : sx_HRR e Z h H) : sx_HF e h H := ⟨r.2.2.1, r.2.2.2.1, r.2.2.2.2.1⟩
/-! one call: what is asked of its end -/
def sx_isI (B : sx_B) (h : sx_H) (p k : Nat) (v : sx_N) : Bool := match sx_rdI B am2_b h p (.inl k) with
  | some w => sx_same v w
  | none => false
def sx_isJ (B : sx_B) (h : sx_H) (p k : Nat) (v : sx_N) : Bool := match sx_rdJ B h p (.inl k) with
  | some w => sx_same v w
  | none => false
theorem sx_isI_ok {B : sx_B} {e : sx_E} (hB : sx_inB B e) {Z : sx_Z} {h : sx_H} {H : am_H} (r : sx_HRR e Z h H) {p k : Nat} {v : sx_N} (q : sx_isI B h p k v = true) : sx_rn e v (H.2.1 p k) := by
  unfold sx_isI at q
  split at q
  · rename_i w hw
    exact sx_same_rn q (sx_rdI_ok hB r hw (show sx_ri e (.inl k) k from rfl))
  · cases q
theorem sx_isJ_ok {B : sx_B} {e : sx_E} (hB : sx_inB B e) {Z : sx_Z} {h : sx_H} {H : am_H} (r : sx_HRR e Z h H) {p k : Nat} {v : sx_N} (q : sx_isJ B h p k v = true) : sx_rn e v (H.2.2.1 p k) := by
  unfold sx_isJ at q
  split at q
  · rename_i w hw
    exact sx_same_rn q (sx_rdJ_ok hB r hw (show sx_ri e (.inl k) k from rfl))
  · cases q
def sx_isA (a : Option sx_V) (v : sx_N) : Bool := match a with
  | some (.inl w) => sx_same v w
  | _ => false
def sx_isL (a : Option sx_V) (v : sx_N) : Bool := match a with
  | some (.inr (.inl w)) => sx_same v w
  | _ => false
def sx_no (m : sx_M) (p : Nat) : Bool := match sx_cl m p with
  | none => true
  | some _ => false
end
