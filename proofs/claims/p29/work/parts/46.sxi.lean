noncomputable section
/-! what follows from what is told -/
def sx_al1 (f : Nat → sx_N → Bool) : List (Option sx_N) → Nat → Bool
  | [], _ => true
  | none :: r, k => sx_al1 f r (k + 1)
  | some v :: r, k => f k v && sx_al1 f r (k + 1)
def sx_al2 (f : Nat → sx_N → Bool) : List (List (Option sx_N)) → Nat → Bool
  | [], _ => true
  | a :: r, k => sx_al1 f a k && sx_al2 f r (k + 32)
def sx_al3 (f : Nat → sx_N → Bool) : sx_C3 → Nat → Bool
  | [], _ => true
  | a :: r, k => sx_al2 f a k && sx_al3 f r (k + 1024)
theorem sx_al1_ok {f : Nat → sx_N → Bool} : ∀ {l : List (Option sx_N)} {k i : Nat} {v : sx_N}, sx_al1 f l k = true → sx_gd none l i = some v → f (k + i) v = true
  | [], k, i, v, _, q => by rw [sx_gd_nil] at q; cases q
  | none :: r, k, 0, v, h, q => by cases q
  | some w :: r, k, 0, v, h, q => by
    have h : (f k w && sx_al1 f r (k + 1)) = true := h
    rw [Bool.and_eq_true] at h
    cases q
    exact h.1
  | none :: r, k, i + 1, v, h, q => by
    have h : sx_al1 f r (k + 1) = true := h
    have := sx_al1_ok (i := i) h q
    rw [show k + (i + 1) = k + 1 + i by omega]
    exact this
  | some w :: r, k, i + 1, v, h, q => by
    have h : (f k w && sx_al1 f r (k + 1)) = true := h
    rw [Bool.and_eq_true] at h
    have := sx_al1_ok (i := i) h.2 q
    rw [show k + (i + 1) = k + 1 + i by omega]
    exact this
theorem sx_al2_ok {f : Nat → sx_N → Bool} : ∀ {l : List (List (Option sx_N))} {k i j : Nat} {v : sx_N}, sx_al2 f l k = true → sx_gd none (sx_gd [] l i) j = some v → f (k + 32 * i + j) v = true
  | [], k, i, j, v, _, q => by rw [sx_gd_nil, sx_gd_nil] at q; cases q
  | a :: r, k, 0, j, v, h, q => by
    have h : (sx_al1 f a k && sx_al2 f r (k + 32)) = true := h
    rw [Bool.and_eq_true] at h
    exact sx_al1_ok (i := j) h.1 q
  | a :: r, k, i + 1, j, v, h, q => by
    have h : (sx_al1 f a k && sx_al2 f r (k + 32)) = true := h
    rw [Bool.and_eq_true] at h
    have := sx_al2_ok (i := i) (j := j) h.2 q
    rw [show k + 32 * (i + 1) + j = k + 32 + 32 * i + j by omega]
    exact this
theorem sx_al3_ix {f : Nat → sx_N → Bool} : ∀ {l : sx_C3} {k m i j : Nat} {v : sx_N}, sx_al3 f l k = true → sx_gd none (sx_gd [] (sx_gd [] l m) i) j = some v → f (k + 1024 * m + 32 * i + j) v = true
  | [], k, m, i, j, v, _, q => by rw [sx_gd_nil, sx_gd_nil, sx_gd_nil] at q; cases q
  | a :: r, k, 0, i, j, v, h, q => by
    have h : (sx_al2 f a k && sx_al3 f r (k + 1024)) = true := h
    rw [Bool.and_eq_true] at h
    exact sx_al2_ok (i := i) (j := j) h.1 q
  | a :: r, k, m + 1, i, j, v, h, q => by
    have h : (sx_al2 f a k && sx_al3 f r (k + 1024)) = true := h
    rw [Bool.and_eq_true] at h
    have := sx_al3_ix (m := m) (i := i) (j := j) h.2 q
    rw [show k + 1024 * (m + 1) + 32 * i + j = k + 1024 + 1024 * m + 32 * i + j by omega]
    exact this
theorem sx_al3_ok {f : Nat → sx_N → Bool} {c : sx_C3} (h : sx_al3 f c 0 = true) {k : Nat} {v : sx_N} (q : sx_g3 c k = some v) : f k v = true := by
  have := sx_al3_ix h q
  rw [show 0 + 1024 * (k / 1024) + 32 * (k / 32 % 32) + k % 32 = k by omega] at this
  exact this
def sx_dfe (a b : sx_Df) : Bool := match a, b with
  | some (a, b, n), some (c, d, m) => sx_eq a c && (sx_eq b d && Nat.beq n m)
  | _, _ => false
theorem sx_dfe_ok {a b : sx_Df} (h : sx_dfe a b = true) : a = b := by
  unfold sx_dfe at h
  split at h
  · simp only [Bool.and_eq_true, sx_eq_iff, Nat.beq_eq] at h
    rw [h.1, h.2.1, h.2.2]
  · cases h
def sx_lp (f : Nat → Bool) : Nat → Bool
  | 0 => true
  | n + 1 => f n && sx_lp f n
theorem sx_lp_ok {f : Nat → Bool} : ∀ {n : Nat}, sx_lp f n = true → ∀ k, k < n → f k = true
  | 0, _, k, hk => absurd hk (Nat.not_lt_zero k)
  | n + 1, h, k, hk => by
    have h : (f n && sx_lp f n) = true := h
    rw [Bool.and_eq_true] at h
    rcases Nat.lt_or_ge k n with q | q
    · exact sx_lp_ok h.2 k q
    · rw [show k = n by omega]
      exact h.1
def sx_nil (l : List (sx_L × sx_N)) : Bool := match l with
  | [] => true
  | _ => false
/-- of a cell: the second's knowledge follows from the first's -/
def sx_imc (B : sx_B) (ct c2 : sx_Ct) : Bool := sx_nil c2.2.1 && (sx_al3 (fun k v => sx_same v (sx_read B ct (.inl k))) c2.2.2 0 && (match c2.1 with
  | none => true
  | some (a, b, n) => bif sx_nil ct.2.1 && sx_dfe ct.1 (some (a, b, n)) then sx_al3 (fun k v => sx_same v (sx_or (sx_g3 c2.2.2 k) (sx_dk (some (a, b, n)) k))) ct.2.2 0
    else Nat.ble n 2000 && sx_lp (fun k => match sx_g3 c2.2.2 k with
      | some _ => true
      | none => sx_same (.inl (a + b * k)) (sx_read B ct (.inl k))) n))
theorem sx_same_rn {e : sx_E} {x y : sx_N} {w : Int} (h : sx_same x y = true) (h2 : sx_rn e y w) : sx_rn e x w := by
  unfold sx_same at h
  split at h
  · rw [sx_eq_iff] at h
    rw [h]
    exact h2
  · simp only [Bool.and_eq_true, Nat.beq_eq] at h
    obtain ⟨rfl, rfl, h3⟩ := h
    have h4 := sx_leq_ok h3
    rw [h4]
    exact h2
  · cases h
theorem sx_nil_ok {l : List (sx_L × sx_N)} (h : sx_nil l = true) : l = [] := by
  cases l with
  | nil => rfl
  | cons _ _ => cases h
theorem sx_imc_ok {B : sx_B} {e : sx_E} (hB : sx_inB B e) {ct c2 : sx_Ct} {f : Nat → Int} (h : sx_rc e ct f) (hi : sx_imc B ct c2 = true) : sx_rc e c2 f := by
  unfold sx_imc at hi
  rw [Bool.and_eq_true, Bool.and_eq_true] at hi
  obtain ⟨h1, h2, h3⟩ := hi
  have hn := sx_nil_ok h1
  refine ⟨fun q hq => (by rw [hn] at hq; cases hq), fun k _ => ?_⟩
  cases hg : sx_g3 c2.2.2 k with
  | some v =>
    have := sx_al3_ok h2 hg
    exact sx_same_rn this (sx_read_ok hB h (show k = k from rfl))
  | none =>
    cases hd : c2.1 with
    | none => exact trivial
    | some d =>
      obtain ⟨a, b, n⟩ := d
      rw [hd] at h3
      dsimp only at h3
      intro hk
      cases hc : (sx_nil ct.2.1 && sx_dfe ct.1 (some (a, b, n))) with
      | true =>
        rw [hc] at h3
        rw [Bool.and_eq_true] at hc
        have h4 := sx_nil_ok hc.1
        have h5 := sx_dfe_ok hc.2
        have h6 := h.2 k (fun q hq => by rw [h4] at hq; cases hq)
        rw [h5] at h6
        cases hg2 : sx_g3 ct.2.2 k with
        | none =>
          rw [hg2] at h6
          exact h6 hk
        | some v =>
          rw [hg2] at h6
          have h7 := sx_al3_ok (show sx_al3 _ ct.2.2 0 = true from h3) hg2
          rw [hg] at h7
          have h8 : sx_rn e (sx_dk (some (a, b, n)) k) (a + b * k) := sx_dk_ok (show k < n → a + b * (k : Int) = a + b * (k : Int) from fun _ => rfl)
          exact sx_same_ok h7 h6 h8
      | false =>
        rw [hc] at h3
        have h3 : (Nat.ble n 2000 && _) = true := h3
        rw [Bool.and_eq_true] at h3
        have h4 := sx_lp_ok h3.2 k hk
        rw [hg] at h4
        exact sx_same_rn h4 (sx_read_ok hB h (show k = k from rfl))
def sx_im1 (g : Nat → sx_Ct → Bool) : List (Option sx_Ct) → Nat → Bool
  | [], _ => true
  | none :: r, p => sx_im1 g r (p + 1)
  | some c :: r, p => g p c && sx_im1 g r (p + 1)
def sx_imM (g : Nat → sx_Ct → Bool) : sx_M → Nat → Bool
  | [], _ => true
  | a :: r, p => sx_im1 g a p && sx_imM g r (p + 16)
theorem sx_im1_ok {g : Nat → sx_Ct → Bool} : ∀ {l : List (Option sx_Ct)} {k i : Nat} {c : sx_Ct}, sx_im1 g l k = true → sx_at l i = some (some c) → g (k + i) c = true
  | [], k, i, c, _, q => by cases q
  | none :: r, k, 0, c, h, q => by cases q
  | some w :: r, k, 0, c, h, q => by
    have h : (g k w && sx_im1 g r (k + 1)) = true := h
    rw [Bool.and_eq_true] at h
    cases q
    exact h.1
  | none :: r, k, i + 1, c, h, q => by
    have h : sx_im1 g r (k + 1) = true := h
    have := sx_im1_ok (i := i) h q
    rw [show k + (i + 1) = k + 1 + i by omega]
    exact this
  | some w :: r, k, i + 1, c, h, q => by
    have h : (g k w && sx_im1 g r (k + 1)) = true := h
    rw [Bool.and_eq_true] at h
    have := sx_im1_ok (i := i) h.2 q
    rw [show k + (i + 1) = k + 1 + i by omega]
    exact this
theorem sx_imM_ix {g : Nat → sx_Ct → Bool} : ∀ {l : sx_M} {k i j : Nat} {a : List (Option sx_Ct)} {c : sx_Ct}, sx_imM g l k = true → sx_at l i = some a → sx_at a j = some (some c) → g (k + 16 * i + j) c = true
  | [], k, i, j, a, c, _, q, _ => by cases q
  | b :: r, k, 0, j, a, c, h, q, q2 => by
    have h : (sx_im1 g b k && sx_imM g r (k + 16)) = true := h
    rw [Bool.and_eq_true] at h
    cases q
    exact sx_im1_ok (i := j) h.1 q2
  | b :: r, k, i + 1, j, a, c, h, q, q2 => by
    have h : (sx_im1 g b k && sx_imM g r (k + 16)) = true := h
    rw [Bool.and_eq_true] at h
    have := sx_imM_ix (i := i) (j := j) h.2 q q2
    rw [show k + 16 * (i + 1) + j = k + 16 + 16 * i + j by omega]
    exact this
theorem sx_imM_ok {g : Nat → sx_Ct → Bool} {m : sx_M} (h : sx_imM g m 0 = true) {p : Nat} {c : sx_Ct} (q : sx_cl m p = some c) : g p c = true := by
  have h1 := sx_cl_some q
  unfold sx_at2 at h1
  split at h1
  · rename_i r hr
    have := sx_imM_ix h hr h1
    rw [show 0 + 16 * (p / 16) + p % 16 = p by omega] at this
    exact this
  · cases h1
def sx_ig (B : sx_B) (fr : Bool) (m : sx_M) (p : Nat) (c : sx_Ct) : Bool := match sx_cl m p with
  | some c0 => sx_imc B c0 c
  | none => fr
def sx_rf1 (rd : Nat → Nat → Option Nat) (p : Nat) : List Nat → Nat → Bool
  | [], _ => true
  | q :: r, k => (match rd p k with
    | some w => Nat.beq w q
    | none => false) && sx_rf1 rd p r (k + 1)
def sx_rf2 (rd : Nat → Nat → Option Nat) : List (List Nat) → Nat → Bool
  | [], _ => true
  | a :: r, p => sx_rf1 rd p a 0 && sx_rf2 rd r (p + 1)
def sx_rf3 (rd : Nat → Nat → Option Nat) : sx_RM → Nat → Bool
  | [], _ => true
  | a :: r, p => sx_rf2 rd a p && sx_rf3 rd r (p + 16)
theorem sx_rf1_ok {rd : Nat → Nat → Option Nat} {p : Nat} : ∀ {l : List Nat} {k i q : Nat}, sx_rf1 rd p l k = true → sx_at l i = some q → rd p (k + i) = some q
  | [], k, i, q, _, h => by cases h
  | w :: r, k, 0, q, h, h2 => by
    have h : ((match rd p k with
      | some w2 => Nat.beq w2 w
      | none => false) && sx_rf1 rd p r (k + 1)) = true := h
    rw [Bool.and_eq_true] at h
    cases h2
    cases h3 : rd p k with
    | none => rw [h3] at h; cases h.1
    | some w2 =>
      rw [h3] at h
      have := Nat.eq_of_beq_eq_true h.1
      exact congrArg some this
  | w :: r, k, i + 1, q, h, h2 => by
    have h : ((match rd p k with
      | some w2 => Nat.beq w2 w
      | none => false) && sx_rf1 rd p r (k + 1)) = true := h
    rw [Bool.and_eq_true] at h
    have := sx_rf1_ok (i := i) h.2 h2
    rw [show k + (i + 1) = k + 1 + i by omega]
    exact this
theorem sx_rf2_ok {rd : Nat → Nat → Option Nat} : ∀ {l : List (List Nat)} {k i : Nat} {a : List Nat}, sx_rf2 rd l k = true → sx_at l i = some a → sx_rf1 rd (k + i) a 0 = true
  | [], k, i, a, _, h => by cases h
  | b :: r, k, 0, a, h, h2 => by
    have h : (sx_rf1 rd k b 0 && sx_rf2 rd r (k + 1)) = true := h
    rw [Bool.and_eq_true] at h
    cases h2
    exact h.1
  | b :: r, k, i + 1, a, h, h2 => by
    have h : (sx_rf1 rd k b 0 && sx_rf2 rd r (k + 1)) = true := h
    rw [Bool.and_eq_true] at h
    have := sx_rf2_ok (i := i) h.2 h2
    rw [show k + (i + 1) = k + 1 + i by omega]
    exact this
theorem sx_rf3_ok {rd : Nat → Nat → Option Nat} : ∀ {l : sx_RM} {k i : Nat} {a : List (List Nat)}, sx_rf3 rd l k = true → sx_at l i = some a → sx_rf2 rd a (k + 16 * i) = true
  | [], k, i, a, _, h => by cases h
  | b :: r, k, 0, a, h, h2 => by
    have h : (sx_rf2 rd b k && sx_rf3 rd r (k + 16)) = true := h
    rw [Bool.and_eq_true] at h
    cases h2
    exact h.1
  | b :: r, k, i + 1, a, h, h2 => by
    have h : (sx_rf2 rd b k && sx_rf3 rd r (k + 16)) = true := h
    rw [Bool.and_eq_true] at h
    have := sx_rf3_ok (i := i) h.2 h2
    rw [show k + 16 * (i + 1) = k + 16 + 16 * i by omega]
    exact this
theorem sx_rf_ok {rd : Nat → Nat → Option Nat} {R2 : sx_RM} (h : sx_rf3 rd R2 0 = true) {p k q : Nat} (h2 : sx_ref R2 p k = some q) : rd p k = some q := by
  unfold sx_ref at h2
  split at h2
  · rename_i r hr
    unfold sx_at2 at hr
    split at hr
    · rename_i a ha
      have h3 := sx_rf2_ok (sx_rf3_ok h ha) hr
      have h4 := sx_rf1_ok h3 h2
      rw [show 0 + 16 * (p / 16) + p % 16 = p by omega, Nat.zero_add] at h4
      exact h4
    · cases hr
  · cases h2
/-- the second heap's knowledge follows from the first's -/
def sx_imp (B : sx_B) (fr : Bool) (h h2 : sx_H) : Bool := sx_imM (sx_ig B fr h.1) h2.1 0 && (sx_imM (sx_ig B fr h.2.1) h2.2.1 0 && sx_rf3 (sx_ref h.2.2) h2.2.2 0)
theorem sx_imp_ok {B : sx_B} {e : sx_E} (hB : sx_inB B e) {h h2 : sx_H} {H : am_H} (hh : sx_HF e h H) (hi : sx_imp B false h h2 = true) : sx_HF e h2 H := by
  unfold sx_imp at hi
  rw [Bool.and_eq_true, Bool.and_eq_true] at hi
  obtain ⟨i1, i2, i3⟩ := hi
  obtain ⟨g1, g2, g3⟩ := hh
  refine ⟨fun p c hc => ?_, fun p c hc => ?_, fun p k q hq => g3 p k q (sx_rf_ok i3 hq)⟩
  · have h3 := sx_imM_ok i1 hc
    unfold sx_ig at h3
    split at h3
    · rename_i c0 h0
      exact sx_imc_ok hB (g1 p c0 h0) h3
    · cases h3
  · have h3 := sx_imM_ok i2 hc
    unfold sx_ig at h3
    split at h3
    · rename_i c0 h0
      exact sx_imc_ok hB (g2 p c0 h0) h3
    · cases h3
/-- behind a call: of cells that it could not write what was told before (g) still holds -/
def sx_jg (B : sx_B) (m g : sx_M) (p : Nat) (c : sx_Ct) : Bool := match sx_cl m p with
  | some c0 => sx_imc B c0 c
  | none => (match sx_cl g p with
    | some c0 => sx_imc B c0 c
    | none => false)
def sx_imf (B : sx_B) (h g h2 : sx_H) : Bool := sx_imM (sx_jg B h.1 g.1) h2.1 0 && (sx_imM (sx_jg B h.2.1 g.2.1) h2.2.1 0 && sx_rf3 (sx_ref h.2.2) h2.2.2 0)
theorem sx_imf_ok {B : sx_B} {e : sx_E} (hB : sx_inB B e) {K : List (Nat × Nat)} {n : Nat × Nat} {Bs : am2_B} {Z : sx_Z} {h g h2 : sx_H} {H : am_H} (hh : sx_HR e K n Bs Z h H) (hz : (∀ p ct, sx_cl g.1 p = some ct → sx_rc e ct (Z.1 p)) ∧ ∀ p ct, sx_cl g.2.1 p = some ct → sx_rc e ct (Z.2 p)) (hi : sx_imf B h g h2 = true) : sx_HF e h2 H := by
  unfold sx_imf at hi
  rw [Bool.and_eq_true, Bool.and_eq_true] at hi
  obtain ⟨i1, i2, i3⟩ := hi
  obtain ⟨-, -, g1, g2, g3, -, -, z1, z2⟩ := hh
  refine ⟨fun p c hc => ?_, fun p c hc => ?_, fun p k q hq => g3 p k q (sx_rf_ok i3 hq)⟩
  · have h3 := sx_imM_ok i1 hc
    unfold sx_jg at h3
    split at h3
    · rename_i c0 h0
      exact sx_imc_ok hB (g1 p c0 h0) h3
    · rename_i h0
      split at h3
      · rename_i c0 h4
        rw [z1 p h0]
        exact sx_imc_ok hB (hz.1 p c0 h4) h3
      · cases h3
  · have h3 := sx_imM_ok i2 hc
    unfold sx_jg at h3
    split at h3
    · rename_i c0 h0
      exact sx_imc_ok hB (g2 p c0 h0) h3
    · rename_i h0
      split at h3
      · rename_i c0 h4
        rw [z2 p h0]
        exact sx_imc_ok hB (hz.2 p c0 h4) h3
      · cases h3
/-- knowledge that does not speak of the unknowns -/
def sx_knc (_ : Nat) (c : sx_Ct) : Bool := sx_nil c.2.1 && sx_al3 (fun _ v => match v with
  | .inl _ => true
  | .inr _ => false) c.2.2 0
def sx_kn (h : sx_H) : Bool := sx_imM sx_knc h.1 0 && sx_imM sx_knc h.2.1 0
theorem sx_knc_ok {e e2 : sx_E} {p : Nat} {c : sx_Ct} (hk : sx_knc p c = true) {f : Nat → Int} (h : sx_rc e c f) : sx_rc e2 c f := by
  unfold sx_knc at hk
  rw [Bool.and_eq_true] at hk
  have hn := sx_nil_ok hk.1
  refine ⟨fun q hq => (by rw [hn] at hq; cases hq), fun k _ => ?_⟩
  have h2 := h.2 k (fun q hq => by rw [hn] at hq; cases hq)
  cases hg : sx_g3 c.2.2 k with
  | none =>
    rw [hg] at h2
    exact h2
  | some v =>
    rw [hg] at h2
    have h3 := sx_al3_ok hk.2 hg
    rcases v with z | z
    · exact h2
    · cases h3
theorem sx_kn_ok {e e2 : sx_E} {h : sx_H} {H : am_H} (hk : sx_kn h = true) (hh : sx_HF e h H) : sx_HF e2 h H := by
  unfold sx_kn at hk
  rw [Bool.and_eq_true] at hk
  exact ⟨fun p c hc => sx_knc_ok (sx_imM_ok hk.1 hc) (hh.1 p c hc), fun p c hc => sx_knc_ok (sx_imM_ok hk.2 hc) (hh.2.1 p c hc), hh.2.2⟩
/-- one thing more is told -/
theorem sx_addI {B : sx_B} {e : sx_E} (hB : sx_inB B e) {h h2 : sx_H} {H : am_H} (hh : sx_HF e h H) {p k : Nat} {v : sx_N} (hv : sx_rn e v (H.2.1 p k)) (hw : sx_wrI B h p (.inl k) v = some h2) : sx_HF e h2 H := by
  obtain ⟨g1, g2, g3⟩ := hh
  unfold sx_wrI at hw
  split at hw
  · rename_i ct hct
    split at hw
    · rename_i c2 hc2
      cases hw
      refine ⟨fun q c hq => ?_, g2, g3⟩
      rcases sx_cl_set2 hct hq with ⟨rfl, rfl⟩ | ⟨z, hq⟩
      · have := sx_write_ok hB (g1 q ct hct) (show sx_ri e (.inl k) k from rfl) hv hc2
        have e1 : (fun i => if i = k then H.2.1 q k else H.2.1 q i) = H.2.1 q := by
          funext i
          by_cases z : i = k
          · rw [if_pos z, z]
          · rw [if_neg z]
        rw [e1] at this
        exact this
      · exact g1 q c hq
    · cases hw
  · cases hw
theorem sx_addJ {B : sx_B} {e : sx_E} (hB : sx_inB B e) {h h2 : sx_H} {H : am_H} (hh : sx_HF e h H) {p k : Nat} {v : sx_N} (hv : sx_rn e v (H.2.2.1 p k)) (hw : sx_wrJ B h p (.inl k) v = some h2) : sx_HF e h2 H := by
  obtain ⟨g1, g2, g3⟩ := hh
  unfold sx_wrJ at hw
  split at hw
  · rename_i ct hct
    split at hw
    · rename_i c2 hc2
      cases hw
      refine ⟨g1, fun q c hq => ?_, g3⟩
      rcases sx_cl_set2 hct hq with ⟨rfl, rfl⟩ | ⟨z, hq⟩
      · have := sx_write_ok hB (g2 q ct hct) (show sx_ri e (.inl k) k from rfl) hv hc2
        have e1 : (fun i => if i = k then H.2.2.1 q k else H.2.2.1 q i) = H.2.2.1 q := by
          funext i
          by_cases z : i = k
          · rw [if_pos z, z]
          · rw [if_neg z]
        rw [e1] at this
        exact this
      · exact g2 q c hq
    · cases hw
  · cases hw
/-! a call -/
def sx_ans (o : Option sx_R) (chk : sx_R → Bool) : Bool := match o with
  | some r => chk r
  | none => false
theorem sx_callM {B : sx_B} {e : sx_E} (hB : sx_inB B e) {K : List (Nat × Nat)} {n : Nat × Nat} {Bs : am2_B} {Z : sx_Z} {ro : Nat → Option (Nat × Nat)} {kd : Nat → Option (Nat × Nat)} (hkd : ∀ {H : am_H}, H.1 = K → ∀ {p x}, kd p = some x → am_kind ro H p = some x ∧ p ≠ 0) {F d j : Nat} {ar : List sx_V} {h : sx_H} {chk : sx_R → Bool} (hc : sx_ans (sx_exec2 am_P sx_TTs B Bs kd F d j ar h) chk = true) {t : List am_V} {H : am_H} (ha : sx_rl e ar t) (hh : sx_HR e K n Bs Z h H) : am_M ro d j t H (fun res => ∃ r, chk r = true ∧ sx_rr e K n Bs Z r res) := by
  cases hx : sx_exec2 am_P sx_TTs B Bs kd F d j ar h with
  | none =>
    rw [hx] at hc
    cases hc
  | some r =>
    rw [hx] at hc
    obtain ⟨res, h1, h2⟩ := sx_exec2_ok (ro := ro) sx_TTs_ok hB hkd d j ar h r t H hx ha hh
    exact ⟨F, res, h1, r, hc, h2⟩
end
