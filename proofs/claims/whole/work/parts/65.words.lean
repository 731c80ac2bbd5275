/-! words in scopes, both sides -/
def ak_wd (b : Nat → Int) (n i z : Nat) : Prop := 1 ≤ z ∧ z ≤ 8 ∧ i + z ≤ n ∧ ∀ k, k < z → ak_isL (b (i + k))
def ak_find (f : Nat → Int) (w : Int) : Nat → Nat → Int
  | 0, _ => -1
  | c + 1, k => if f k = w then (k : Int) else ak_find f w c (k + 1)
theorem ak_find_in {f : Nat → Int} {w : Int} : ∀ (c k : Nat), ak_find f w c k = -1 ∨ ∃ j, k ≤ j ∧ j < k + c ∧ ak_find f w c k = (j : Int) ∧ f j = w
  | 0, k => Or.inl rfl
  | c + 1, k => by
    unfold ak_find
    split
    · rename_i h; exact Or.inr ⟨k, Nat.le_refl _, by omega, rfl, h⟩
    · rcases ak_find_in (f := f) (w := w) c (k + 1) with h | ⟨j, h1, h2, h3, h4⟩
      · exact Or.inl h
      · exact Or.inr ⟨j, by omega, by omega, h3, h4⟩
/-- the words of one scope (or of a table) on both sides: f the one's values, A and Z the other's places and sizes -/
def ak_wds (b : Nat → Int) (n : Nat) (f A Z : Nat → Int) (D : Nat) : Prop := ∀ k, k < D → ∃ i z : Nat, ak_wd b n i z ∧ A k = (i : Int) ∧ Z k = (z : Int) ∧ f k = ak_pk b i z
section WORDS
variable {e : ak_X3} {d : Nat} {ρ : List Nat} {h : ak_S} {b : Nat → Int} {n p : Nat}
theorem ak_pk_eq_iff {i z i' z' : Nat} (w : ak_wd b n i z) (w' : ak_wd b n i' z') : ak_pk b i z = ak_pk b i' z' ↔ z = z' ∧ ∀ k, k < z → b (i + k) = b (i' + k) := by
  constructor
  · exact fun q => ak_pk_inj z z' w.2.2.2 w'.2.2.2 q
  · rintro ⟨rfl, q⟩; exact ak_pk_congr z q
theorem am_s213 {Q : Int → ak_S → Prop} {X : Nat → ak_S → Prop} {i z i' z' : Nat} (hm : ak_mt h p n b) (w : ak_wd b n i z) (w' : ak_wd b n i' z') (w1 : ak_pk b i z = ak_pk b i' z' → Q 1 h) (w0 : ak_pk b i z ≠ ak_pk b i' z' → Q 0 h) :
    ak_MI e 1 (d + 2) ρ 213 [am_r 110, am_i (i : Int), am_i (z : Int), am_i (i' : Int), am_i (z' : Int)] h Q X := by
  have hn6 : n ≤ 6000 := hm.2.2.2.1
  have hw := w
  have hw' := w'
  obtain ⟨z1, z2, z3, z4⟩ := w
  obtain ⟨y1, y2, y3, y4⟩ := w'
  have iff := ak_pk_eq_iff hw hw'
  have lp : ∀ (c x : Nat) (s : Int), x + c = z → (s = 0 ∨ s = 1) → (s = 1 ↔ z = z' ∧ ∀ k, k < x → b (i + k) = b (i' + k)) → ak_W0 e 1 (d + 1) 213 ρ 16 [some (am_r 110), some (am_i (i : Int)), some (am_i (z : Int)), some (am_i (i' : Int)), none, some (am_i s), some (am_i (x : Int))] [] h (ak_qi Q X) := by
    intro c
    induction c with
    | zero =>
      intro x s hx hs hsx
      have hxz : x = z := by omega
      subst hxz
      refine am_k213_16 ⟨fun _ => ⟨hs, ?_⟩, fun q => absurd q (by omega)⟩
      rcases hs with rfl | rfl
      · exact w0 (fun q => absurd (hsx.mpr (iff.mp q)) (by decide))
      · exact w1 (iff.mpr (hsx.mp rfl))
    | succ c ih =>
      intro x s hx hs hsx
      refine am_k213_16 ⟨fun q => absurd q (by omega), fun _ => ⟨fun s0 => ⟨hs, ?_⟩, fun s0 => ?_⟩⟩
      · subst s0
        exact w0 (fun q => absurd (hsx.mpr ⟨(iff.mp q).1, fun k hk => (iff.mp q).2 k (by omega)⟩) (by decide))
      · have s1 : s = 1 := by omega
        obtain ⟨e1, e2⟩ := hsx.mp s1
        rw [ak_wadd (show i + x < 1000000 by omega), ak_wadd (show i' + x < 1000000 by omega), ak_wj (show x < 1000000 by omega)]
        have l1 := z4 x (by omega)
        have l2 := y4 x (by omega)
        unfold ak_isL at l1 l2
        refine am_s201 hm (fun _ => am_s201 hm (fun _ => ⟨fun q => ?_, fun q => ?_⟩) (fun q => absurd q (by omega))) (fun q => absurd q (by omega))
        · refine ih (x + 1) 0 (by omega) (Or.inl rfl) ⟨fun q2 => absurd q2 (by decide), fun q2 => ?_⟩
          exact absurd (by rw [q2.2 x (by omega)]) q
        · refine ih (x + 1) 1 (by omega) (Or.inr rfl) ⟨fun _ => ⟨e1, fun k hk => ?_⟩, fun _ => rfl⟩
          by_cases hkx : k = x
          · subst hkx; omega
          · exact e2 k (by omega)
  refine ak_MI_of (Nat.le_of_ble_eq_true rfl) (am_k213_0 ⟨fun q => lp z 0 0 (by omega) (Or.inl rfl) ⟨fun q2 => absurd q2 (by decide), fun q2 => absurd (congrArg (fun x : Nat => (x : Int)) q2.1) q⟩, fun q => lp z 0 1 (by omega) (Or.inr rfl) ⟨fun _ => ⟨by omega, fun k hk => absurd hk (Nat.not_lt_zero _)⟩, fun _ => rfl⟩⟩)
theorem ak_w12 {s k : Nat} (h : 12 * s + k < 1000000) : am_w32 (am_w32 ((s : Int) * 12) + (k : Int)) = ((12 * s + k : Nat) : Int) := by
  rw [ak_w ((s : Int) * 12) (by omega), ak_w ((s : Int) * 12 + (k : Int)) (by omega)]
  omega
theorem am_s18 {ρ0 ρ3 ρ4 u : Nat} (hu : u = 0 ∨ u = 1) {Q : Int → ak_S → Prop} {X : Nat → ak_S → Prop} {s D : Nat} {w : Int} (hs : s < 21) (hD : h.1 31 s = (D : Int)) (hD2 : D ≤ 12) (wq : Q (ak_find (fun k => h.2.1 30 (12 * s + k)) w D 0) h) : ak_MI e 0 (d + 1) [ρ0, ak_T u, ak_T u + 1, ρ3, ρ4] 18 [am_r 2, am_i (s : Int), am_l w] h Q X := by
  have b1 : 0 ≤ (s : Int) ∧ (s : Int) < 21 := by omega
  have lp : ∀ (c x : Nat), x + c = D → ak_find (fun k => h.2.1 30 (12 * s + k)) w c x = ak_find (fun k => h.2.1 30 (12 * s + k)) w D 0 → ak_W0 e 0 d 18 [ρ0, ak_T u, ak_T u + 1, ρ3, ρ4] 3 [some (am_r 2), some (am_i (s : Int)), some (am_l w), none, some (am_i (x : Int))] [] h (ak_qi Q X) := by
    intro c
    induction c with
    | zero =>
      intro x hx he
      rw [← he] at wq
      refine am_k18_3 hu ⟨b1, ?_⟩
      rw [ak_natn, hD]
      exact ⟨fun _ => wq, fun q => absurd q (by omega)⟩
    | succ c ih =>
      intro x hx he
      refine am_k18_3 hu ⟨b1, ?_⟩
      rw [ak_natn, hD, ak_w12 (show 12 * s + x < 1000000 by omega), ak_natn, ak_wj (show x < 1000000 by omega)]
      have b2 : 0 ≤ ((12 * s + x : Nat) : Int) ∧ ((12 * s + x : Nat) : Int) < 252 := by omega
      refine ⟨fun q => absurd q (by omega), fun _ => ⟨b2, fun q => ?_, fun q => ?_⟩⟩
      · refine ih (x + 1) (by omega) ?_
        rw [← he]
        show _ = (if h.2.1 30 (12 * s + x) = w then _ else ak_find _ w c (x + 1))
        rw [if_neg (fun q2 => q (ak_lsign0.mpr q2))]
      · have e1 : ak_find (fun k => h.2.1 30 (12 * s + k)) w (c + 1) x = (x : Int) := if_pos (ak_lsign0.mp q)
        rw [← he, e1] at wq
        exact wq
  exact ak_MI_of (Nat.le_of_ble_eq_true rfl) (am_k18_0 hu (lp D 0 (by omega) rfl))
theorem am_s214 {Q : Int → ak_S → Prop} {X : Nat → ak_S → Prop} {f : Nat → Int} {s D i z : Nat} (hm : ak_mt h p n b) (hs : s < 21) (hD : h.1 138 s = (D : Int)) (hD2 : D ≤ 12) (hw : ak_wds b n f (fun k => h.1 139 (12 * s + k)) (fun k => h.1 140 (12 * s + k)) D) (w : ak_wd b n i z)
    (wq : Q (ak_find f (ak_pk b i z) D 0) h) : ak_MI e 1 (d + 3) ρ 214 [am_r 110, am_i (s : Int), am_i (i : Int), am_i (z : Int)] h Q X := by
  have b1 : 0 ≤ (s : Int) ∧ (s : Int) < 21 := by omega
  have lp : ∀ (c x : Nat), x + c = D → ak_find f (ak_pk b i z) c x = ak_find f (ak_pk b i z) D 0 → ak_W0 e 1 (d + 2) 214 ρ 3 [some (am_r 110), some (am_i (s : Int)), some (am_i (i : Int)), some (am_i (z : Int)), some (am_i (x : Int))] [] h (ak_qi Q X) := by
    intro c
    induction c with
    | zero =>
      intro x hx he
      rw [← he] at wq
      refine am_k214_3 ⟨b1, ?_⟩
      rw [ak_natn, hD]
      exact ⟨fun _ => wq, fun q => absurd q (by omega)⟩
    | succ c ih =>
      intro x hx he
      obtain ⟨i', z', w', hA, hZ, hf⟩ := hw x (by omega)
      dsimp only at hA hZ
      refine am_k214_3 ⟨b1, ?_⟩
      rw [ak_natn, hD, show am_w32 (am_w32 (12 * (s : Int)) + (x : Int)) = ((12 * s + x : Nat) : Int) from ak_wmul (c := 12) (by omega), ak_natn, ak_wj (show x < 1000000 by omega), hA, hZ]
      have b2 : 0 ≤ ((12 * s + x : Nat) : Int) ∧ ((12 * s + x : Nat) : Int) < 252 := by omega
      refine ⟨fun q => absurd q (by omega), fun _ => ⟨b2, b2, am_s213 hm w' w (fun q => ⟨fun q2 => absurd q2 (by decide), fun _ => ?_⟩) (fun q => ⟨fun _ => ?_, fun q2 => absurd rfl q2⟩)⟩⟩
      · have e1 : ak_find f (ak_pk b i z) (c + 1) x = (x : Int) := if_pos (hf.trans q)
        rw [← he, e1] at wq
        exact wq
      · refine ih (x + 1) (by omega) ?_
        rw [← he]
        show _ = (if f x = ak_pk b i z then _ else ak_find f _ c (x + 1))
        rw [if_neg (fun q2 => q (hf.symm.trans q2))]
  exact ak_MI_of (Nat.le_of_ble_eq_true rfl) (am_k214_0 (lp D 0 (by omega) rfl))
end WORDS
