/-! the run: which on takes a failure, on both sides -/
section ONF
variable {e : ak_X3} {d d2 gd : Nat} {ρ ρ' : List Nat} {c : ak_Cx} {g : ak_Gh} {V : List Nat} {hc hm hmO : ak_S} {kd n0 : Int}
theorem ak_skip (hs : c.s = 0 ∨ c.s = 1) (h11 : hc.1 (ak_T c.s + 1) 11 = (c.z 4 : Int)) (z4 : c.z 4 ≤ 1000) : ∀ (n i i1 : Nat), i + n = i1 → i1 ≤ c.z 4 → (∀ j, i ≤ j → j < i1 → hc.1 (ak_T c.s + 10) j ≠ (gd : Int)) → ∀ (Q : Int → ak_S → Prop) (X : Nat → ak_S → Prop),
    ak_W0 e 0 d 7 ρ 7 [some (am_r (ak_T c.s + 1)), some (am_i (gd : Int)), some (am_i kd), some (am_i (i1 : Int))] [] hc (ak_qi Q X) → ak_W0 e 0 d 7 ρ 7 [some (am_r (ak_T c.s + 1)), some (am_i (gd : Int)), some (am_i kd), some (am_i (i : Int))] [] hc (ak_qi Q X) := by
  intro n
  induction n with
  | zero =>
    intro i i1 h _ _ Q X q
    rw [show i = i1 by omega]
    exact q
  | succ n ih =>
    intro i i1 h h2 hn Q X q
    refine am_k7_7 hs ⟨fun z => absurd z (by omega), fun _ => ⟨fun z => absurd z (by rw [h11]; omega), fun _ => ⟨by omega, fun _ => ?_, fun z => ?_⟩⟩⟩
    · rw [show am_w32 ((i : Int) + 1) = ((i + 1 : Nat) : Int) from by rw [ak_w _ (by omega)]; omega]
      exact ih (i + 1) i1 (by omega) h2 (fun j a b => hn j (by omega) b) Q X q
    · rw [ak_natn] at z
      exact absurd z (hn i (Nat.le_refl _) (by omega))
theorem ak_onfor (sp : ak_SPP c g V hc hmO) (Mh : ∀ q k, 114 ≤ q → q ≤ 120 → hm.1 q k = hmO.1 q k) (h137 : hm.1 110 137 = kd) : ∀ (n i : Nat) (x : Int) (LT a cc : Nat), c.z 4 ≤ i + n → ak_T3 (ak_mC c.s c.h0) (ak_mM c.us c.m0) (ak_T c.s) c.us 3 x gd LT i a cc →
    (∃ i1 y2 a' c1 : Nat, (∀ (Q : Int → ak_S → Prop) (X : Nat → ak_S → Prop), Q (i1 : Int) hc → ak_W0 e 0 d 7 ρ 7 [some (am_r (ak_T c.s + 1)), some (am_i (gd : Int)), some (am_i kd), some (am_i (i : Int))] [] hc (ak_qi Q X)) ∧
      (∀ (Q : Int → ak_S → Prop) (X : Nat → ak_S → Prop), ak_W0 e 1 d2 277 ρ' 44 [some (am_r 110), some (am_i n0), some (am_i (y2 : Int))] [] hm (ak_qi Q X) → ak_W0 e 1 d2 277 ρ' 15 [some (am_r 110), some (am_i n0), some (am_i x)] [] hm (ak_qi Q X)) ∧ i1 < 1000 ∧ y2 < 18000 ∧ ak_mM c.us c.m0 115 y2 ≠ -77 ∧
      ak_mM c.us c.m0 117 y2 = ak_mC c.s c.h0 (ak_T c.s + 8) i1 ∧ 0 ≤ ak_mM c.us c.m0 117 y2 ∧ ak_mM c.us c.m0 117 y2 < 12 ∧ ak_mC c.s c.h0 (ak_T c.s + 9) i1 = (a' : Int) ∧ ak_T3 (ak_mC c.s c.h0) (ak_mM c.us c.m0) (ak_T c.s) c.us 2 (ak_mM c.us c.m0 115 y2) 0 (LT % 32000) (LT / 32000) a' c1 ∧ ak_mC c.s c.h0 (ak_T c.s + 2) c1 = 37 ∧ ak_mC c.s c.h0 (ak_T c.s + 3) c1 = (gd : Int)) ∨
    ((∀ (Q : Int → ak_S → Prop) (X : Nat → ak_S → Prop), Q (-1) hc → ak_W0 e 0 d 7 ρ 7 [some (am_r (ak_T c.s + 1)), some (am_i (gd : Int)), some (am_i kd), some (am_i (i : Int))] [] hc (ak_qi Q X)) ∧
      (∀ (Q : Int → ak_S → Prop) (X : Nat → ak_S → Prop), ak_MI e 1 d2 ρ' 278 [am_r 110, am_i n0] hm (fun v2 h1 => (v2 = 0 ∨ v2 = 1) ∧ Q v2 h1) (fun _ _ => False) → ak_W0 e 1 d2 277 ρ' 15 [some (am_r 110), some (am_i n0), some (am_i x)] [] hm (ak_qi Q X))) := by
  have hs := sp.1.1
  obtain ⟨z1, z2, z3, z4, z5, z6, z7, _⟩ := ak_tx_z sp.1.2
  have cx : ∀ q k, ak_T c.s ≤ q ∧ q ≤ ak_T c.s + 20 ∧ q ≠ ak_T c.s + 2 → hc.1 q k = ak_mC c.s c.h0 q k := fun q k h => ak_cx sp h
  have h11 : hc.1 (ak_T c.s + 1) 11 = (c.z 4 : Int) := (sp.2.1.1 _ _ (by omega) (by omega)).1.trans z6
  have m11 : ak_mC c.s c.h0 (ak_T c.s + 1) 11 = (c.z 4 : Int) := (cx _ _ (by omega)).symm.trans h11
  intro n
  induction n with
  | zero =>
    intro i x LT a cc hn t
    have t2 := ak_T3_open t
    rcases t2 with ⟨hx, _, hj⟩ | ⟨y, i1, c1, hx, h1, h2, _⟩
    · refine Or.inr ⟨fun Q X q => am_k7_7 hs ⟨fun z => absurd z (by omega), fun _ => ⟨fun _ => q, fun z => absurd z (by rw [h11]; omega)⟩⟩, fun Q X q => am_k277_15 ⟨fun _ => q, fun z => absurd z (by omega)⟩⟩
    · rw [m11] at h2
      omega
  | succ n ih =>
    intro i x LT a cc hn t
    have t2 := ak_T3_open t
    rcases t2 with ⟨hx, _, hj⟩ | ⟨y, i1, c1, hx, h1, h2, h3, h4, h5, h6, h7, h8, h9, h10, h11', h12, h13⟩
    · rcases Nat.lt_or_ge (c.z 4) i with hi2 | hi2
      · exact Or.inr ⟨fun Q X q => am_k7_7 hs ⟨fun z => absurd z (by omega), fun _ => ⟨fun _ => q, fun z => absurd z (by rw [h11]; omega)⟩⟩, fun Q X q => am_k277_15 ⟨fun _ => q, fun z => absurd z (by omega)⟩⟩
      refine Or.inr ⟨fun Q X q => ak_skip hs h11 z7 (c.z 4 - i) i (c.z 4) (by omega) (Nat.le_refl _) (fun j a b => ?_) Q X (am_k7_7 hs ⟨fun z => absurd z (by omega), fun _ => ⟨fun _ => q, fun z => absurd z (by rw [h11]; omega)⟩⟩), fun Q X q => am_k277_15 ⟨fun _ => q, fun z => absurd z (by omega)⟩⟩
      rw [cx _ _ (by omega)]
      exact hj j a (by rw [m11]; omega)
    · rw [m11] at h2
      have sk := ak_skip (e := e) (d := d) (ρ := ρ) (kd := kd) (gd := gd) hs h11 z7 (i1 - i) i i1 (by omega) (by omega) (fun j a b => by rw [cx _ _ (by omega)]; exact h4 j a b)
      have y77 : ak_mM c.us c.m0 115 y ≠ -77 := fun z => by
        have := ak_T3_open h10
        rw [z] at this
        rcases this.2 with ⟨h, _⟩ | ⟨_, _, _, _, h, _⟩
        · exact absurd h (by decide)
        · omega
      obtain ⟨y18, yq⟩ := ak_nde (q0 := 115) sp (by omega) y77
      have yM : ∀ q, 114 ≤ q → q ≤ 120 → hm.1 q y = ak_mM c.us c.m0 q y := fun q a b => (Mh q y a b).trans (yq q a b)
      have e7 : hc.1 (ak_T c.s + 7) i1 = ak_mM c.us c.m0 116 y := (cx _ _ (by omega)).trans h5
      have e10 : hc.1 (ak_T c.s + 10) i1 = (gd : Int) := (cx _ _ (by omega)).trans h3
      have i18 : 0 ≤ (i1 : Int) ∧ (i1 : Int) < 1000 := by omega
      have yb : 0 ≤ (y : Int) ∧ (y : Int) < 18000 := by omega
      subst hx
      by_cases hk : ak_mM c.us c.m0 116 y = 0 ∨ ak_mM c.us c.m0 116 y = kd
      · refine Or.inl ⟨i1, y, _, _, fun Q X q => sk Q X (am_k7_7 hs ⟨fun z => absurd z (by omega), fun _ => ⟨fun z => absurd z (by rw [h11]; omega), fun _ => ⟨i18, ?_⟩⟩⟩), fun Q X q => am_k277_15 ⟨fun z => absurd z (by omega), fun _ => ⟨yb, ?_⟩⟩, by omega, y18, y77, h6.symm, h7, h8, h9, h10, h11', h12⟩
        · rw [ak_natn, e10, e7]
          exact ⟨fun z => absurd rfl z, fun _ => ⟨i18, fun _ => q, fun z => ⟨i18, fun z2 => absurd (hk.resolve_left z) z2, fun _ => q⟩⟩⟩
        · rw [ak_natn, yM 116 (by omega) (by omega), h137]
          exact ⟨fun _ => q, fun z => ⟨yb, fun _ => q, fun z2 => absurd (hk.resolve_left z) z2⟩⟩
      · have hk0 : ak_mM c.us c.m0 116 y ≠ 0 := fun z => hk (Or.inl z)
        have hk1 : ak_mM c.us c.m0 116 y ≠ kd := fun z => hk (Or.inr z)
        have stC : ∀ (Q : Int → ak_S → Prop) (X : Nat → ak_S → Prop), ak_W0 e 0 d 7 ρ 7 [some (am_r (ak_T c.s + 1)), some (am_i (gd : Int)), some (am_i kd), some (am_i ((i1 + 1 : Nat) : Int))] [] hc (ak_qi Q X) → ak_W0 e 0 d 7 ρ 7 [some (am_r (ak_T c.s + 1)), some (am_i (gd : Int)), some (am_i kd), some (am_i (i : Int))] [] hc (ak_qi Q X) := fun Q X q => by
          refine sk Q X (am_k7_7 hs ⟨fun z => absurd z (by omega), fun _ => ⟨fun z => absurd z (by rw [h11]; omega), fun _ => ⟨i18, ?_⟩⟩⟩)
          rw [ak_natn, e10, e7, show am_w32 ((i1 : Int) + 1) = ((i1 + 1 : Nat) : Int) from by rw [ak_w _ (by omega)]; omega]
          exact ⟨fun z => absurd rfl z, fun _ => ⟨i18, fun z => absurd z hk0, fun _ => ⟨i18, fun _ => q, fun z => absurd z hk1⟩⟩⟩
        have stM : ∀ (Q : Int → ak_S → Prop) (X : Nat → ak_S → Prop), ak_W0 e 1 d2 277 ρ' 15 [some (am_r 110), some (am_i n0), some (am_i (ak_mM c.us c.m0 119 y))] [] hm (ak_qi Q X) → ak_W0 e 1 d2 277 ρ' 15 [some (am_r 110), some (am_i n0), some (am_i (y : Int))] [] hm (ak_qi Q X) := fun Q X q => by
          refine am_k277_15 ⟨fun z => absurd z (by omega), fun _ => ⟨yb, ?_⟩⟩
          rw [ak_natn, yM 116 (by omega) (by omega), yM 119 (by omega) (by omega), h137]
          exact ⟨fun z => absurd z hk0, fun _ => ⟨yb, fun z => absurd z hk1, fun _ => ⟨yb, q⟩⟩⟩
        rcases ih (i1 + 1) _ LT _ _ (by omega) h13 with ⟨i2, y2, a', c2, w1, w2, w3⟩ | ⟨w1, w2⟩
        · exact Or.inl ⟨i2, y2, a', c2, fun Q X q => stC Q X (w1 Q X q), fun Q X q => stM Q X (w2 Q X q), w3⟩
        · exact Or.inr ⟨fun Q X q => stC Q X (w1 Q X q), fun Q X q => stM Q X (w2 Q X q)⟩
end ONF
