/-! tokens: what they are -/
def ak_isL (c : Int) : Prop := 97 ≤ c ∧ c ≤ 122
def ak_isD (c : Int) : Prop := 48 ≤ c ∧ c ≤ 57
def ak_isW (c : Int) : Prop := c = 10 ∨ c = 32
theorem ak_isL_dec (c : Int) : ak_isL c ∨ ¬ ak_isL c := by unfold ak_isL; omega
def ak_lB (c : Int) : Bool := decide (97 ≤ c) && decide (c ≤ 122)
def ak_dB (c : Int) : Bool := decide (48 ≤ c) && decide (c ≤ 57)
def ak_wB (c : Int) : Bool := decide (c = 10) || decide (c = 32)
theorem ak_lB_iff {c : Int} : ak_lB c = true ↔ ak_isL c := by unfold ak_lB ak_isL; simp
theorem ak_dB_iff {c : Int} : ak_dB c = true ↔ ak_isD c := by unfold ak_dB ak_isD; simp
theorem ak_wB_iff {c : Int} : ak_wB c = true ↔ ak_isW c := by unfold ak_wB ak_isW; simp
def ak_run (P : Int → Bool) (b : Nat → Int) : Nat → Nat → Nat
  | 0, i => i
  | c + 1, i => if P (b i) = true then ak_run P b c (i + 1) else i
theorem ak_run_le {P : Int → Bool} {b : Nat → Int} : ∀ (c i : Nat), i ≤ ak_run P b c i ∧ ak_run P b c i ≤ i + c
  | 0, i => ⟨Nat.le_refl _, Nat.le_refl _⟩
  | c + 1, i => by
    unfold ak_run
    split
    · have := ak_run_le (P := P) (b := b) c (i + 1); omega
    · omega
theorem ak_run_in {P : Int → Bool} {b : Nat → Int} : ∀ (c i k : Nat), i ≤ k → k < ak_run P b c i → P (b k) = true
  | 0, i, k, h1, h2 => by unfold ak_run at h2; omega
  | c + 1, i, k, h1, h2 => by
    unfold ak_run at h2
    split at h2
    · rename_i h
      by_cases hk : k = i
      · subst hk; exact h
      · exact ak_run_in c (i + 1) k (by omega) h2
    · omega
/-- where a run from i on ends, at n at the latest -/
def ak_end (P : Int → Bool) (b : Nat → Int) (n i : Nat) : Nat := ak_run P b (n - i) i
theorem ak_end_ge {P : Int → Bool} {b : Nat → Int} {n i : Nat} (h : n ≤ i) : ak_end P b n i = i := by
  unfold ak_end; rw [show n - i = 0 by omega]; rfl
theorem ak_end_yes {P : Int → Bool} {b : Nat → Int} {n i : Nat} (h : i < n) (hp : P (b i) = true) : ak_end P b n i = ak_end P b n (i + 1) := by
  unfold ak_end
  rw [show n - i = (n - (i + 1)) + 1 by omega, ak_run, if_pos hp]
theorem ak_end_no {P : Int → Bool} {b : Nat → Int} {n i : Nat} (h : i < n) (hp : ¬ P (b i) = true) : ak_end P b n i = i := by
  unfold ak_end
  rw [show n - i = (n - (i + 1)) + 1 by omega, ak_run, if_neg hp]
theorem ak_end_le {P : Int → Bool} {b : Nat → Int} {n i : Nat} (h : i ≤ n) : i ≤ ak_end P b n i ∧ ak_end P b n i ≤ n := by
  have := ak_run_le (P := P) (b := b) (n - i) i
  unfold ak_end; omega
def ak_pk (b : Nat → Int) (i : Nat) : Nat → Int
  | 0 => 0
  | m + 1 => ak_pk b i m * 32 + (b (i + m) - 96)
def ak_nu (b : Nat → Int) (i : Nat) : Nat → Int
  | 0 => 0
  | m + 1 => ak_nu b i m * 10 + (b (i + m) - 48)
theorem ak_pk_in {b : Nat → Int} {i : Nat} : ∀ m : Nat, (∀ k, k < m → ak_isL (b (i + k))) → 0 ≤ ak_pk b i m ∧ ak_pk b i m < 32 ^ m
  | 0, _ => ⟨Int.le_refl 0, (by decide : (0 : Int) < 32 ^ 0)⟩
  | m + 1, h => by
    have h1 := ak_pk_in m (fun k hk => h k (by omega))
    have h2 := h m (by omega)
    unfold ak_isL at h2
    unfold ak_pk
    have e : (32 : Int) ^ (m + 1) = 32 ^ m * 32 := Int.pow_succ 32 m
    rw [e]
    omega
theorem ak_nu_in {b : Nat → Int} {i : Nat} : ∀ m : Nat, (∀ k, k < m → ak_isD (b (i + k))) → 0 ≤ ak_nu b i m ∧ ak_nu b i m < 10 ^ m
  | 0, _ => ⟨Int.le_refl 0, (by decide : (0 : Int) < 10 ^ 0)⟩
  | m + 1, h => by
    have h1 := ak_nu_in m (fun k hk => h k (by omega))
    have h2 := h m (by omega)
    unfold ak_isD at h2
    unfold ak_nu
    have e : (10 : Int) ^ (m + 1) = 10 ^ m * 10 := Int.pow_succ 10 m
    rw [e]
    omega
def ak_kidx (w : Int) : List Int → Int → Int
  | [], _ => 2
  | x :: r, k => if x = w then 200 + k else ak_kidx w r (k + 1)
def ak_letters (l : List Int) : Int := l.foldl (fun w c => w * 32 + (c - 96)) 0
def ak_kws : List Int := [442114532, 22578, 294, 176741, 24388997, 609900110, 48880818, 24716933, 197932, 8029764, 494, 183096901, 19636, 1156, 239301, 150000, 402891, 719726027, 3554757, 14519, 14636, 628102, 13076569, 1130181]
def ak_sgs : List Int := [123, 125, 40, 41, 91, 93, 124, 44, 59, 46, 33, 61, 60, 62, 43, 45, 42, 47, 37]
/-- the kind of the token that begins at i -/
def ak_kd (b : Nat → Int) (n i : Nat) : Int :=
  if n ≤ i then 0
  else if ak_lB (b i) = true then (if 8 < ak_end ak_lB b n i - i then 1 else ak_kidx (ak_pk b i (ak_end ak_lB b n i - i)) ak_kws 0)
  else if ak_dB (b i) = true then (if 9 < ak_end ak_dB b n i - i then 1 else 3)
  else if b i = 61 ∧ i + 1 < n ∧ b (i + 1) = 61 then 4
  else if ak_sgs.elem (b i) = true then b i else 1
/-- where it ends -/
def ak_nx (b : Nat → Int) (n i : Nat) : Nat :=
  if n ≤ i then n
  else if ak_lB (b i) = true then ak_end ak_lB b n i
  else if ak_dB (b i) = true then ak_end ak_dB b n i
  else if b i = 61 ∧ i + 1 < n ∧ b (i + 1) = 61 then i + 2
  else i + 1
/-- its value, of a word that isn't too long, and of a numeral -/
def ak_vl (b : Nat → Int) (n i : Nat) (v : Int) : Prop :=
  i < n → (ak_lB (b i) = true → ak_end ak_lB b n i - i ≤ 8 → v = ak_pk b i (ak_end ak_lB b n i - i)) ∧ (ak_dB (b i) = true → ak_end ak_dB b n i - i ≤ 9 → v = ak_nu b i (ak_end ak_dB b n i - i))
/-- where the tokens begin -/
def ak_st (b : Nat → Int) (n : Nat) : Nat → Nat
  | 0 => ak_end ak_wB b n 0
  | k + 1 => ak_end ak_wB b n (ak_nx b n (ak_st b n k))
theorem ak_nx_le {b : Nat → Int} {n i : Nat} (h : i < n) : i < ak_nx b n i ∧ ak_nx b n i ≤ n := by
  unfold ak_nx
  rw [if_neg (by omega)]
  split
  · rename_i h1
    rw [ak_end_yes h h1]
    have := ak_end_le (P := ak_lB) (b := b) (n := n) (i := i + 1) (by omega)
    omega
  · split
    · rename_i h1
      rw [ak_end_yes h h1]
      have := ak_end_le (P := ak_dB) (b := b) (n := n) (i := i + 1) (by omega)
      omega
    · split
      · rename_i h1; omega
      · omega
/-! the one's reading -/
section LEX
variable {e : ak_X3} {d : Nat} {ρ : List Nat} {h : ak_S}
theorem am_s131 {Q : Int → ak_S → Prop} {X : Nat → ak_S → Prop} {c : Int} (w1 : ak_lB c = true → Q 1 h) (w0 : ¬ ak_lB c = true → Q 0 h) : ak_MI e 0 (d + 1) ρ 131 [am_i c] h Q X := by
  rw [ak_lB_iff] at w1 w0
  unfold ak_isL at w1 w0
  exact ak_MI_of (Nat.le_of_ble_eq_true rfl) (am_k131_0 ⟨fun h0 => ⟨Or.inl rfl, w0 (by omega)⟩, fun h0 => ⟨fun h1 => ⟨Or.inl rfl, w0 (by omega)⟩, fun h1 => ⟨Or.inr rfl, w1 ⟨h0, h1⟩⟩⟩⟩)
theorem am_s132 {Q : Int → ak_S → Prop} {X : Nat → ak_S → Prop} {c : Int} (w1 : ak_dB c = true → Q 1 h) (w0 : ¬ ak_dB c = true → Q 0 h) : ak_MI e 0 (d + 1) ρ 132 [am_i c] h Q X := by
  rw [ak_dB_iff] at w1 w0
  unfold ak_isD at w1 w0
  exact ak_MI_of (Nat.le_of_ble_eq_true rfl) (am_k132_0 ⟨fun h0 => ⟨Or.inl rfl, w0 (by omega)⟩, fun h0 => ⟨fun h1 => ⟨Or.inl rfl, w0 (by omega)⟩, fun h1 => ⟨Or.inr rfl, w1 ⟨h0, h1⟩⟩⟩⟩)
/-- a token more -/
def ak_add (h : ak_S) (t : Nat) (k p v : Int) : ak_S := (am_up (am_up (am_up h.1 6 t k) 7 t p) 3 6 ((t + 1 : Nat) : Int), am_up h.2.1 8 t v, h.2.2)
theorem am_s123 {Q : ak_S → Prop} {X : Nat → ak_S → Prop} {k p v : Int} {t : Nat} (ht : h.1 3 6 = (t : Int)) (ht2 : t ≤ 6000) (w : Q (ak_add h t k p v)) : ak_MV e 0 (d + 1) ρ 123 [am_r 3, am_i k, am_i p, am_l v] h Q X := by
  refine ak_MV_of (Nat.le_of_ble_eq_true rfl) (am_k123_0 ⟨fun h0 => absurd h0 (by rw [ht]; omega), fun h0 => ?_⟩)
  have b : 0 ≤ h.1 3 6 ∧ h.1 3 6 < 6001 := by rw [ht]; omega
  refine ⟨b, b, b, ?_⟩
  rw [ht, ak_natn, ak_wj (show t < 1000000 by omega)]
  exact w
theorem am_s125 {Q : Int → ak_S → Prop} {X : Nat → ak_S → Prop} {w : Int} (hk : ∀ k, k < 24 → h.2.1 5 k = ak_kws.getD k 0) (wq : Q (ak_kidx w ak_kws 0) h) : ak_MI e 0 (d + 1) ρ 125 [am_r 3, am_l w] h Q X := by
  have lp : ∀ (c i : Nat), i + c = 24 → ak_kidx w (ak_kws.drop i) i = ak_kidx w ak_kws 0 → ak_W0 e 0 d 125 ρ 2 [some (am_r 3), some (am_l w), none, some (am_i (i : Int))] [] h (ak_qi Q X) := by
    intro c
    induction c with
    | zero =>
      intro i hi hx
      have : i = 24 := by omega
      subst this
      refine am_k125_2 ⟨fun _ => ?_, fun z => absurd z (by decide)⟩
      have e2 : ak_kidx w (ak_kws.drop 24) ((24 : Nat) : Int) = 2 := rfl
      rw [← hx, e2] at wq
      exact wq
    | succ c ih =>
      intro i hi hx
      have hl : i < ak_kws.length := by show i < 24; omega
      have e1 : ak_kws.drop i = ak_kws[i] :: ak_kws.drop (i + 1) := List.drop_eq_getElem_cons hl
      have e2 : h.2.1 5 i = ak_kws[i] := by rw [hk i (by omega), List.getD_eq_getElem?_getD, List.getElem?_eq_getElem hl]; rfl
      rw [e1] at hx
      refine am_k125_2 ⟨fun z => absurd z (by omega), fun _ => ⟨⟨by omega, by omega⟩, fun z => ?_, fun z => ?_⟩⟩
      · rw [ak_natn, e2] at z
        rw [ak_wj (show i < 1000000 by omega)]
        refine ih (i + 1) (by omega) ?_
        rw [← hx]
        show _ = (if ak_kws[i] = w then _ else ak_kidx w (ak_kws.drop (i + 1)) ((i : Int) + 1))
        rw [if_neg (fun q => z (ak_lsign0.mpr q))]
        congr 1
      · rw [ak_natn, e2] at z
        rw [show am_w32 (200 + (i : Int)) = 200 + (i : Int) from ak_w _ (by omega)]
        have e3 : ak_kidx w (ak_kws[i] :: ak_kws.drop (i + 1)) (i : Int) = 200 + (i : Int) := if_pos (ak_lsign0.mp z)
        rw [← hx, e3] at wq
        exact wq
  exact ak_MI_of (Nat.le_of_ble_eq_true rfl) (am_k125_0 (lp 24 0 rfl rfl))
theorem am_s130 {Q : Int → ak_S → Prop} {X : Nat → ak_S → Prop} {v c : Int} (hc : ak_isL c) (w : ∀ v', (0 ≤ v ∧ v < 36028797018963968 → v' = v * 32 + (c - 96)) → Q v' h) : ak_MJ e 0 (d + 1) ρ 130 [am_l v, am_i c] h Q X := by
  refine ak_MJ_of (Nat.le_of_ble_eq_true rfl) (am_k130_0 (w _ (fun hv => ?_)))
  unfold ak_isL at hc
  have e1 : am_w32 (am_w32 (c - 97) + 1) = c - 96 := by
    rw [show am_w32 (c - 97) = c - 97 from ak_w _ (by omega), show am_w32 (c - 97 + 1) = c - 97 + 1 from ak_w _ (by omega)]
    omega
  rw [e1, show am_w64 (v * 32) = v * 32 from am_w64_id (by omega) (by omega)]
  exact am_w64_id (by omega) (by omega)
end LEX
