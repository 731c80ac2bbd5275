/-! looking through the items of a shape -/
/-- the first of c places from i on at which p holds, -1 for none -/
def ak_fst (p : Nat → Bool) : Nat → Nat → Int
  | 0, _ => -1
  | c + 1, i => if p i = true then (i : Int) else ak_fst p c (i + 1)
/-- is the item at place k a slot (g false) or a parent (g true) named w -/
def ak_ps (K W : Nat → Int) (b : Nat) (w : Int) (g : Bool) (k : Nat) : Bool := decide (W (b + k) = w) && (decide (K (b + k) = 2) == g)
theorem ak_fst_succ {p : Nat → Bool} {c i : Nat} : ak_fst p (c + 1) i = if p i = true then (i : Int) else ak_fst p c (i + 1) := rfl
theorem ak_fst_congr {p q : Nat → Bool} : ∀ {c i : Nat}, (∀ k, i ≤ k → k < i + c → p k = q k) → ak_fst p c i = ak_fst q c i := by
  intro c
  induction c with
  | zero => intro i _; rfl
  | succ c ih =>
    intro i h
    unfold ak_fst
    rw [h i (Nat.le_refl _) (by omega), ih (fun k h1 h2 => h k (by omega) (by omega))]
theorem ak_fst_some {p : Nat → Bool} : ∀ {c i : Nat}, 0 ≤ ak_fst p c i → ∃ k, i ≤ k ∧ k < i + c ∧ ak_fst p c i = (k : Int) ∧ p k = true ∧ ∀ j, i ≤ j → j < k → p j = false := by
  intro c
  induction c with
  | zero => intro i h; exact absurd h (Int.not_le.mpr (by show (-1 : Int) < 0; decide))
  | succ c ih =>
    intro i h
    unfold ak_fst at h ⊢
    by_cases hp : p i = true
    · rw [if_pos hp]
      exact ⟨i, Nat.le_refl _, by omega, rfl, hp, fun j h1 h2 => by omega⟩
    · rw [if_neg hp] at h ⊢
      obtain ⟨k, h1, h2, h3, h4, h5⟩ := ih h
      refine ⟨k, by omega, by omega, h3, h4, fun j j1 j2 => ?_⟩
      by_cases hj : j = i
      · subst hj; exact Bool.eq_false_iff.mpr hp
      · exact h5 j (by omega) j2
theorem ak_fst_none {p : Nat → Bool} : ∀ {c i : Nat}, ak_fst p c i < 0 → ∀ k, i ≤ k → k < i + c → p k = false := by
  intro c
  induction c with
  | zero => intro i h k h1 h2; omega
  | succ c ih =>
    intro i h k h1 h2
    unfold ak_fst at h
    by_cases hp : p i = true
    · rw [if_pos hp] at h
      omega
    · rw [if_neg hp] at h
      by_cases hk : k = i
      · subst hk; exact Bool.eq_false_iff.mpr hp
      · exact ih h k (by omega) (by omega)
theorem ak_fst_ge {p : Nat → Bool} {c i : Nat} : -1 ≤ ak_fst p c i ∧ ak_fst p c i < (i : Int) + c := by
  by_cases h : 0 ≤ ak_fst p c i
  · obtain ⟨k, h1, h2, h3, -⟩ := ak_fst_some h
    rw [h3]; omega
  · induction c generalizing i with
    | zero => unfold ak_fst; omega
    | succ c ih =>
      unfold ak_fst at h ⊢
      by_cases hp : p i = true
      · rw [if_pos hp] at h; omega
      · rw [if_neg hp] at h ⊢
        have := ih h
        omega
theorem ak_fst_neg {p : Nat → Bool} {c i : Nat} (h : ak_fst p c i < 0) : ak_fst p c i = -1 := by
  have := (ak_fst_ge (p := p) (c := c) (i := i)).1
  omega
section SLOT
variable {e : ak_X3} {d n : Nat} {ρ : List Nat} {h : ak_S} {Q : Int → ak_S → Prop} {X : Nat → ak_S → Prop} {w : Int}
theorem am_s153 {s : Nat} (hs : s < 400) (hn : h.1 37 s = (n : Int)) (hn2 : n ≤ 12) (q : Q (ak_fst (ak_ps (h.1 39) (h.1 40) (12 * s) w false) n 0) h) : ak_MI e 0 (d + 1) ρ 153 [am_r 33, am_i (s : Int), am_i w] h Q X := by
  have lp : ∀ (c x : Nat), x + c = n → ak_fst (ak_ps (h.1 39) (h.1 40) (12 * s) w false) c x = ak_fst (ak_ps (h.1 39) (h.1 40) (12 * s) w false) n 0 →
      ak_W0 e 0 d 153 ρ 8 [some (am_r 33), some (am_i (s : Int)), some (am_i w), some (am_i ((12 * s : Nat) : Int)), some (am_i (x : Int))] [] h (ak_qi Q X) := by
    intro c
    induction c with
    | zero =>
      intro x hx hf
      refine am_k153_8 ⟨by omega, fun _ => ?_, fun g => ?_⟩
      · rw [← hf] at q; exact q
      · rw [ak_natn, hn] at g; omega
    | succ c ih =>
      intro x hx hf
      have b1 : 0 ≤ ((12 * s + x : Nat) : Int) ∧ ((12 * s + x : Nat) : Int) < 4800 := by omega
      refine am_k153_8 ⟨by omega, fun g => ?_, fun _ => ?_⟩
      · rw [ak_natn, hn] at g; omega
      · rw [show am_w32 (((12 * s : Nat) : Int) + (x : Int)) = ((12 * s + x : Nat) : Int) from by rw [ak_w _ (by omega)]; omega, ak_natn, ak_wj (show x < 1000000 by omega)]
        rw [ak_fst_succ] at hf
        by_cases hw : h.1 40 (12 * s + x) = w
        · refine ⟨b1, fun g => absurd hw g, fun _ => ⟨b1, fun g => ?_, fun g => ?_⟩⟩
          · have hp : ak_ps (h.1 39) (h.1 40) (12 * s) w false x = false := by unfold ak_ps; simp [hw, g]
            rw [if_neg (by rw [hp]; decide)] at hf
            exact ih (x + 1) (by omega) hf
          · have hp : ak_ps (h.1 39) (h.1 40) (12 * s) w false x = true := by unfold ak_ps; simp [hw, g]
            rw [if_pos hp] at hf
            rw [hf]; exact q
        · refine ⟨b1, fun _ => ?_, fun g => absurd g hw⟩
          have hp : ak_ps (h.1 39) (h.1 40) (12 * s) w false x = false := by unfold ak_ps; simp [hw]
          rw [if_neg (by rw [hp]; decide)] at hf
          exact ih (x + 1) (by omega) hf
  refine ak_MI_of (Nat.le_of_ble_eq_true rfl) (am_k153_0 ?_)
  rw [show am_w32 ((s : Int) * 12) = ((12 * s : Nat) : Int) from by rw [ak_w _ (by omega)]; omega]
  exact lp n 0 (by omega) rfl
theorem am_s154 {s : Nat} (hs : s < 400) (hn : h.1 37 s = (n : Int)) (hn2 : n ≤ 12) (q : Q (ak_fst (ak_ps (h.1 39) (h.1 40) (12 * s) w true) n 0) h) : ak_MI e 0 (d + 1) ρ 154 [am_r 33, am_i (s : Int), am_i w] h Q X := by
  have lp : ∀ (c x : Nat), x + c = n → ak_fst (ak_ps (h.1 39) (h.1 40) (12 * s) w true) c x = ak_fst (ak_ps (h.1 39) (h.1 40) (12 * s) w true) n 0 →
      ak_W0 e 0 d 154 ρ 8 [some (am_r 33), some (am_i (s : Int)), some (am_i w), some (am_i ((12 * s : Nat) : Int)), some (am_i (x : Int))] [] h (ak_qi Q X) := by
    intro c
    induction c with
    | zero =>
      intro x hx hf
      refine am_k154_8 ⟨by omega, fun _ => ?_, fun g => ?_⟩
      · rw [← hf] at q; exact q
      · rw [ak_natn, hn] at g; omega
    | succ c ih =>
      intro x hx hf
      have b1 : 0 ≤ ((12 * s + x : Nat) : Int) ∧ ((12 * s + x : Nat) : Int) < 4800 := by omega
      refine am_k154_8 ⟨by omega, fun g => ?_, fun _ => ?_⟩
      · rw [ak_natn, hn] at g; omega
      · rw [show am_w32 (((12 * s : Nat) : Int) + (x : Int)) = ((12 * s + x : Nat) : Int) from by rw [ak_w _ (by omega)]; omega, ak_natn, ak_wj (show x < 1000000 by omega)]
        rw [ak_fst_succ] at hf
        by_cases hw : h.1 40 (12 * s + x) = w
        · refine ⟨b1, fun g => absurd hw g, fun _ => ⟨b1, fun g => ?_, fun g => ?_⟩⟩
          · have hp : ak_ps (h.1 39) (h.1 40) (12 * s) w true x = false := by unfold ak_ps; simp [hw, g]
            rw [if_neg (by rw [hp]; decide)] at hf
            exact ih (x + 1) (by omega) hf
          · have hp : ak_ps (h.1 39) (h.1 40) (12 * s) w true x = true := by unfold ak_ps; simp [hw, g]
            rw [if_pos hp] at hf
            rw [hf]; exact q
        · refine ⟨b1, fun _ => ?_, fun g => absurd g hw⟩
          have hp : ak_ps (h.1 39) (h.1 40) (12 * s) w true x = false := by unfold ak_ps; simp [hw]
          rw [if_neg (by rw [hp]; decide)] at hf
          exact ih (x + 1) (by omega) hf
  refine ak_MI_of (Nat.le_of_ble_eq_true rfl) (am_k154_0 ?_)
  rw [show am_w32 ((s : Int) * 12) = ((12 * s : Nat) : Int) from by rw [ak_w _ (by omega)]; omega]
  exact lp n 0 (by omega) rfl
/-- the other's: 0 asks for a slot, 1 for a parent -/
theorem am_s238 {o : Nat} {g : Bool} {v : Int} (hv : v = if g = true then 1 else 0) (ho : o < 200) (hn : h.1 141 o = (n : Int)) (hn2 : n ≤ 12)
    (q1 : ak_fst (ak_ps (h.1 143) (h.1 144) (12 * o) w g) n 0 < 0 → Q (-1) h) (q2 : ∀ k, k < n → ak_fst (ak_ps (h.1 143) (h.1 144) (12 * o) w g) n 0 = (k : Int) → Q ((12 * o + k : Nat) : Int) h) : ak_MI e 1 (d + 1) ρ 238 [am_r 110, am_i (o : Int), am_i w, am_i v] h Q X := by
  have lp : ∀ (c x : Nat), x + c = n → ak_fst (ak_ps (h.1 143) (h.1 144) (12 * o) w g) c x = ak_fst (ak_ps (h.1 143) (h.1 144) (12 * o) w g) n 0 →
      ak_W0 e 1 d 238 ρ 3 [some (am_r 110), some (am_i (o : Int)), some (am_i w), some (am_i v), some (am_i (x : Int))] [] h (ak_qi Q X) := by
    intro c
    induction c with
    | zero =>
      intro x hx hf
      refine am_k238_3 ⟨by omega, fun _ => ?_, fun g => ?_⟩
      · exact q1 (by rw [← hf]; show (-1 : Int) < 0; decide)
      · rw [ak_natn, hn] at g; omega
    | succ c ih =>
      intro x hx hf
      have b1 : 0 ≤ ((12 * o + x : Nat) : Int) ∧ ((12 * o + x : Nat) : Int) < 2400 := by omega
      refine am_k238_3 ⟨by omega, fun g => ?_, fun _ => ?_⟩
      · rw [ak_natn, hn] at g; omega
      · rw [show am_w32 (am_w32 (12 * (o : Int)) + (x : Int)) = ((12 * o + x : Nat) : Int) from ak_wmul (c := 12) (by omega), ak_natn, ak_wj (show x < 1000000 by omega)]
        rw [ak_fst_succ] at hf
        by_cases hw : h.1 144 (12 * o + x) = w
        · refine ⟨b1, fun g => absurd hw g, fun _ => ⟨b1, fun k2 => ?_, fun k2 => ?_⟩⟩
          · cases g with
            | true =>
              rw [if_pos rfl] at hv
              subst hv
              have hp : ak_ps (h.1 143) (h.1 144) (12 * o) w true x = false := by unfold ak_ps; simp [hw, k2]
              rw [if_neg (by rw [hp]; decide)] at hf
              exact ⟨fun _ => ih (x + 1) (by omega) hf, fun z => absurd z (by decide)⟩
            | false =>
              rw [if_neg (by decide)] at hv
              subst hv
              have hp : ak_ps (h.1 143) (h.1 144) (12 * o) w false x = true := by unfold ak_ps; simp [hw, k2]
              rw [if_pos hp] at hf
              exact ⟨fun z => absurd rfl z, fun _ => q2 x (by omega) hf.symm⟩
          · cases g with
            | true =>
              rw [if_pos rfl] at hv
              subst hv
              have hp : ak_ps (h.1 143) (h.1 144) (12 * o) w true x = true := by unfold ak_ps; simp [hw, k2]
              rw [if_pos hp] at hf
              exact ⟨fun z => absurd rfl z, fun _ => q2 x (by omega) hf.symm⟩
            | false =>
              rw [if_neg (by decide)] at hv
              subst hv
              have hp : ak_ps (h.1 143) (h.1 144) (12 * o) w false x = false := by unfold ak_ps; simp [hw, k2]
              rw [if_neg (by rw [hp]; decide)] at hf
              exact ⟨fun _ => ih (x + 1) (by omega) hf, fun z => absurd z (by decide)⟩
        · refine ⟨b1, fun _ => ?_, fun g => absurd g hw⟩
          have hp : ak_ps (h.1 143) (h.1 144) (12 * o) w g x = false := by unfold ak_ps; simp [hw]
          rw [if_neg (by rw [hp]; decide)] at hf
          exact ih (x + 1) (by omega) hf
  exact ak_MI_of (Nat.le_of_ble_eq_true rfl) (am_k238_0 (lp n 0 (by omega) rfl))
theorem am_s250 {s : Nat} (hs : s < 400) (hn : h.1 147 s = (n : Int)) (hn2 : n ≤ 12) (hk : ∀ k, k < n → 0 ≤ h.1 148 (12 * s + k) ∧ h.1 148 (12 * s + k) ≤ 2)
    (q1 : ak_fst (ak_ps (h.1 148) (h.1 149) (12 * s) w false) n 0 < 0 → Q 0 h) (q2 : 0 ≤ ak_fst (ak_ps (h.1 148) (h.1 149) (12 * s) w false) n 0 → Q 1 h) : ak_MI e 1 (d + 1) ρ 250 [am_r 110, am_i (s : Int), am_i w] h Q X := by
  have lp : ∀ (c x : Nat), x + c = n → ak_fst (ak_ps (h.1 148) (h.1 149) (12 * s) w false) c x = ak_fst (ak_ps (h.1 148) (h.1 149) (12 * s) w false) n 0 →
      ak_W0 e 1 d 250 ρ 2 [some (am_r 110), some (am_i (s : Int)), some (am_i w), some (am_i (x : Int))] [] h (ak_qi Q X) := by
    intro c
    induction c with
    | zero =>
      intro x hx hf
      refine am_k250_2 ⟨by omega, fun _ => ⟨Or.inl rfl, ?_⟩, fun g => ?_⟩
      · exact q1 (by rw [← hf]; show (-1 : Int) < 0; decide)
      · rw [ak_natn, hn] at g; omega
    | succ c ih =>
      intro x hx hf
      have b1 : 0 ≤ ((12 * s + x : Nat) : Int) ∧ ((12 * s + x : Nat) : Int) < 4800 := by omega
      refine am_k250_2 ⟨by omega, fun g => ?_, fun _ => ?_⟩
      · rw [ak_natn, hn] at g; omega
      · rw [show am_w32 (am_w32 (12 * (s : Int)) + (x : Int)) = ((12 * s + x : Nat) : Int) from ak_wmul (c := 12) (by omega), ak_natn, ak_wj (show x < 1000000 by omega)]
        rw [ak_fst_succ] at hf
        have kk := hk x (by omega)
        refine ⟨b1, fun g => ?_, fun g => ⟨b1, fun hw => ?_, fun hw => ⟨Or.inr rfl, ?_⟩⟩⟩
        · have hp : ak_ps (h.1 148) (h.1 149) (12 * s) w false x = false := by
            unfold ak_ps
            rw [show h.1 148 (12 * s + x) = 2 by omega]
            simp
          rw [if_neg (by rw [hp]; decide)] at hf
          exact ih (x + 1) (by omega) hf
        · have hp : ak_ps (h.1 148) (h.1 149) (12 * s) w false x = false := by unfold ak_ps; simp [hw]
          rw [if_neg (by rw [hp]; decide)] at hf
          exact ih (x + 1) (by omega) hf
        · have hp : ak_ps (h.1 148) (h.1 149) (12 * s) w false x = true := by
            unfold ak_ps
            rw [hw, show decide (h.1 148 (12 * s + x) = 2) = false from decide_eq_false (by omega)]
            simp
          rw [if_pos hp] at hf
          exact q2 (by rw [← hf]; omega)
  exact ak_MI_of (Nat.le_of_ble_eq_true rfl) (am_k250_0 (lp n 0 (by omega) rfl))
end SLOT
