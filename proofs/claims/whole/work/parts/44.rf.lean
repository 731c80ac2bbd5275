/-! rules of runs, methods 0 to 350 -/
theorem am_cc0 : am_co am_P 0 = am_lk am_rw0 ∧ am_hl am_P 0 = [] ∧ am_rtag (am_re am_P 0) = 2 := ⟨rfl, rfl, rfl⟩
set_option maxRecDepth 100000 in
theorem am_k0_23 {e : ak_X3} {d : Nat} {ρ : List Nat} {h : ak_S} {Q : Int → ak_S → Prop} {X : Nat → ak_S → Prop} {x4 : Int} (w :
  (am_w32 (((e.1 : Int)) - 6) < x4 →
    ((1 : Int) = 0 ∨ (1 : Int) = 1) ∧ Q 1 h)
  ∧ (x4 ≤ am_w32 (((e.1 : Int)) - 6) →
    (0 ≤ x4 ∧ x4 < (e.1 : Int)) ∧ True ∧
      (((Int32.ofInt (am_I0 e.2 (am_SP + 2) x4.toNat) &&& Int32.ofInt 31).toInt < 0 ∨ 25 < (Int32.ofInt (am_I0 e.2 (am_SP + 2) x4.toNat) &&& Int32.ofInt 31).toInt) → ak_W0 e 2 d 0 ρ 23 [some (am_r ((am_SP + 2))), some (am_r 1), some (am_r 110), some (am_r 211), some (am_i (am_w32 (x4 + 6))), none, none, none] [] h (ak_qi Q X)) ∧
      ((Int32.ofInt (am_I0 e.2 (am_SP + 2) x4.toNat) &&& Int32.ofInt 31).toInt = 0 → ak_W0 e 2 d 0 ρ 160 [some (am_r ((am_SP + 2))), some (am_r 1), some (am_r 110), some (am_r 211), some (am_i x4), none, none, none] [] h (ak_qi Q X)) ∧
      ((Int32.ofInt (am_I0 e.2 (am_SP + 2) x4.toNat) &&& Int32.ofInt 31).toInt = 0 + 1 → ak_W0 e 2 d 0 ρ 264 [some (am_r ((am_SP + 2))), some (am_r 1), some (am_r 110), some (am_r 211), some (am_i x4), none, none, none] [] h (ak_qi Q X)) ∧
      ((Int32.ofInt (am_I0 e.2 (am_SP + 2) x4.toNat) &&& Int32.ofInt 31).toInt = 0 + 1 + 1 → ak_W0 e 2 d 0 ρ 300 [some (am_r ((am_SP + 2))), some (am_r 1), some (am_r 110), some (am_r 211), some (am_i x4), none, none, none] [] h (ak_qi Q X)) ∧
      ((Int32.ofInt (am_I0 e.2 (am_SP + 2) x4.toNat) &&& Int32.ofInt 31).toInt = 0 + 1 + 1 + 1 → ak_W0 e 2 d 0 ρ 313 [some (am_r ((am_SP + 2))), some (am_r 1), some (am_r 110), some (am_r 211), some (am_i x4), none, none, none] [] h (ak_qi Q X)) ∧
      ((Int32.ofInt (am_I0 e.2 (am_SP + 2) x4.toNat) &&& Int32.ofInt 31).toInt = 0 + 1 + 1 + 1 + 1 → ak_W0 e 2 d 0 ρ 349 [some (am_r ((am_SP + 2))), some (am_r 1), some (am_r 110), some (am_r 211), some (am_i x4), none, none, none] [] h (ak_qi Q X)) ∧
      ((Int32.ofInt (am_I0 e.2 (am_SP + 2) x4.toNat) &&& Int32.ofInt 31).toInt = 0 + 1 + 1 + 1 + 1 + 1 → ak_W0 e 2 d 0 ρ 360 [some (am_r ((am_SP + 2))), some (am_r 1), some (am_r 110), some (am_r 211), some (am_i x4), none, none, none] [] h (ak_qi Q X)) ∧
      ((Int32.ofInt (am_I0 e.2 (am_SP + 2) x4.toNat) &&& Int32.ofInt 31).toInt = 0 + 1 + 1 + 1 + 1 + 1 + 1 → ak_W0 e 2 d 0 ρ 504 [some (am_r ((am_SP + 2))), some (am_r 1), some (am_r 110), some (am_r 211), some (am_i x4), none, none, none] [] h (ak_qi Q X)) ∧
      ((Int32.ofInt (am_I0 e.2 (am_SP + 2) x4.toNat) &&& Int32.ofInt 31).toInt = 0 + 1 + 1 + 1 + 1 + 1 + 1 + 1 → ak_W0 e 2 d 0 ρ 559 [some (am_r ((am_SP + 2))), some (am_r 1), some (am_r 110), some (am_r 211), some (am_i x4), none, none, none] [] h (ak_qi Q X)) ∧
      ((Int32.ofInt (am_I0 e.2 (am_SP + 2) x4.toNat) &&& Int32.ofInt 31).toInt = 0 + 1 + 1 + 1 + 1 + 1 + 1 + 1 + 1 → ak_W0 e 2 d 0 ρ 626 [some (am_r ((am_SP + 2))), some (am_r 1), some (am_r 110), some (am_r 211), some (am_i x4), none, none, none] [] h (ak_qi Q X)) ∧
      ((Int32.ofInt (am_I0 e.2 (am_SP + 2) x4.toNat) &&& Int32.ofInt 31).toInt = 0 + 1 + 1 + 1 + 1 + 1 + 1 + 1 + 1 + 1 → ak_W0 e 2 d 0 ρ 693 [some (am_r ((am_SP + 2))), some (am_r 1), some (am_r 110), some (am_r 211), some (am_i x4), none, none, none] [] h (ak_qi Q X)) ∧
      ((Int32.ofInt (am_I0 e.2 (am_SP + 2) x4.toNat) &&& Int32.ofInt 31).toInt = 0 + 1 + 1 + 1 + 1 + 1 + 1 + 1 + 1 + 1 + 1 → ak_W0 e 2 d 0 ρ 760 [some (am_r ((am_SP + 2))), some (am_r 1), some (am_r 110), some (am_r 211), some (am_i x4), none, none, none] [] h (ak_qi Q X)) ∧
      ((Int32.ofInt (am_I0 e.2 (am_SP + 2) x4.toNat) &&& Int32.ofInt 31).toInt = 0 + 1 + 1 + 1 + 1 + 1 + 1 + 1 + 1 + 1 + 1 + 1 → ak_W0 e 2 d 0 ρ 816 [some (am_r ((am_SP + 2))), some (am_r 1), some (am_r 110), some (am_r 211), some (am_i x4), none, none, none] [] h (ak_qi Q X)) ∧
      ((Int32.ofInt (am_I0 e.2 (am_SP + 2) x4.toNat) &&& Int32.ofInt 31).toInt = 0 + 1 + 1 + 1 + 1 + 1 + 1 + 1 + 1 + 1 + 1 + 1 + 1 → ak_W0 e 2 d 0 ρ 940 [some (am_r ((am_SP + 2))), some (am_r 1), some (am_r 110), some (am_r 211), some (am_i x4), none, none, none] [] h (ak_qi Q X)) ∧
      ((Int32.ofInt (am_I0 e.2 (am_SP + 2) x4.toNat) &&& Int32.ofInt 31).toInt = 0 + 1 + 1 + 1 + 1 + 1 + 1 + 1 + 1 + 1 + 1 + 1 + 1 + 1 → ak_W0 e 2 d 0 ρ 996 [some (am_r ((am_SP + 2))), some (am_r 1), some (am_r 110), some (am_r 211), some (am_i x4), none, none, none] [] h (ak_qi Q X)) ∧
      ((Int32.ofInt (am_I0 e.2 (am_SP + 2) x4.toNat) &&& Int32.ofInt 31).toInt = 0 + 1 + 1 + 1 + 1 + 1 + 1 + 1 + 1 + 1 + 1 + 1 + 1 + 1 + 1 → ak_W0 e 2 d 0 ρ 1064 [some (am_r ((am_SP + 2))), some (am_r 1), some (am_r 110), some (am_r 211), some (am_i x4), none, none, none] [] h (ak_qi Q X)) ∧
      ((Int32.ofInt (am_I0 e.2 (am_SP + 2) x4.toNat) &&& Int32.ofInt 31).toInt = 0 + 1 + 1 + 1 + 1 + 1 + 1 + 1 + 1 + 1 + 1 + 1 + 1 + 1 + 1 + 1 → ak_W0 e 2 d 0 ρ 1120 [some (am_r ((am_SP + 2))), some (am_r 1), some (am_r 110), some (am_r 211), some (am_i x4), none, none, none] [] h (ak_qi Q X)) ∧
      ((Int32.ofInt (am_I0 e.2 (am_SP + 2) x4.toNat) &&& Int32.ofInt 31).toInt = 0 + 1 + 1 + 1 + 1 + 1 + 1 + 1 + 1 + 1 + 1 + 1 + 1 + 1 + 1 + 1 + 1 → ak_W0 e 2 d 0 ρ 1188 [some (am_r ((am_SP + 2))), some (am_r 1), some (am_r 110), some (am_r 211), some (am_i x4), none, none, none] [] h (ak_qi Q X)) ∧
      ((Int32.ofInt (am_I0 e.2 (am_SP + 2) x4.toNat) &&& Int32.ofInt 31).toInt = 0 + 1 + 1 + 1 + 1 + 1 + 1 + 1 + 1 + 1 + 1 + 1 + 1 + 1 + 1 + 1 + 1 + 1 → ak_W0 e 2 d 0 ρ 1268 [some (am_r ((am_SP + 2))), some (am_r 1), some (am_r 110), some (am_r 211), some (am_i x4), none, none, none] [] h (ak_qi Q X)) ∧
      ((Int32.ofInt (am_I0 e.2 (am_SP + 2) x4.toNat) &&& Int32.ofInt 31).toInt = 0 + 1 + 1 + 1 + 1 + 1 + 1 + 1 + 1 + 1 + 1 + 1 + 1 + 1 + 1 + 1 + 1 + 1 + 1 → ak_W0 e 2 d 0 ρ 1347 [some (am_r ((am_SP + 2))), some (am_r 1), some (am_r 110), some (am_r 211), some (am_i x4), none, none, none] [] h (ak_qi Q X)) ∧
      ((Int32.ofInt (am_I0 e.2 (am_SP + 2) x4.toNat) &&& Int32.ofInt 31).toInt = 0 + 1 + 1 + 1 + 1 + 1 + 1 + 1 + 1 + 1 + 1 + 1 + 1 + 1 + 1 + 1 + 1 + 1 + 1 + 1 → ak_W0 e 2 d 0 ρ 1415 [some (am_r ((am_SP + 2))), some (am_r 1), some (am_r 110), some (am_r 211), some (am_i x4), none, none, none] [] h (ak_qi Q X)) ∧
      ((Int32.ofInt (am_I0 e.2 (am_SP + 2) x4.toNat) &&& Int32.ofInt 31).toInt = 0 + 1 + 1 + 1 + 1 + 1 + 1 + 1 + 1 + 1 + 1 + 1 + 1 + 1 + 1 + 1 + 1 + 1 + 1 + 1 + 1 → ak_W0 e 2 d 0 ρ 1495 [some (am_r ((am_SP + 2))), some (am_r 1), some (am_r 110), some (am_r 211), some (am_i x4), none, none, none] [] h (ak_qi Q X)) ∧
      ((Int32.ofInt (am_I0 e.2 (am_SP + 2) x4.toNat) &&& Int32.ofInt 31).toInt = 0 + 1 + 1 + 1 + 1 + 1 + 1 + 1 + 1 + 1 + 1 + 1 + 1 + 1 + 1 + 1 + 1 + 1 + 1 + 1 + 1 + 1 → ak_W0 e 2 d 0 ρ 1563 [some (am_r ((am_SP + 2))), some (am_r 1), some (am_r 110), some (am_r 211), some (am_i x4), none, none, none] [] h (ak_qi Q X)) ∧
      ((Int32.ofInt (am_I0 e.2 (am_SP + 2) x4.toNat) &&& Int32.ofInt 31).toInt = 0 + 1 + 1 + 1 + 1 + 1 + 1 + 1 + 1 + 1 + 1 + 1 + 1 + 1 + 1 + 1 + 1 + 1 + 1 + 1 + 1 + 1 + 1 → ak_W0 e 2 d 0 ρ 1643 [some (am_r ((am_SP + 2))), some (am_r 1), some (am_r 110), some (am_r 211), some (am_i x4), none, none, none] [] h (ak_qi Q X)) ∧
      ((Int32.ofInt (am_I0 e.2 (am_SP + 2) x4.toNat) &&& Int32.ofInt 31).toInt = 0 + 1 + 1 + 1 + 1 + 1 + 1 + 1 + 1 + 1 + 1 + 1 + 1 + 1 + 1 + 1 + 1 + 1 + 1 + 1 + 1 + 1 + 1 + 1 → ak_W0 e 2 d 0 ρ 1730 [some (am_r ((am_SP + 2))), some (am_r 1), some (am_r 110), some (am_r 211), some (am_i x4), none, none, none] [] h (ak_qi Q X)) ∧
      ((Int32.ofInt (am_I0 e.2 (am_SP + 2) x4.toNat) &&& Int32.ofInt 31).toInt = 0 + 1 + 1 + 1 + 1 + 1 + 1 + 1 + 1 + 1 + 1 + 1 + 1 + 1 + 1 + 1 + 1 + 1 + 1 + 1 + 1 + 1 + 1 + 1 + 1 → ak_W0 e 2 d 0 ρ 1774 [some (am_r ((am_SP + 2))), some (am_r 1), some (am_r 110), some (am_r 211), some (am_i x4), none, none, none] [] h (ak_qi Q X)) ∧
      ((Int32.ofInt (am_I0 e.2 (am_SP + 2) x4.toNat) &&& Int32.ofInt 31).toInt = 0 + 1 + 1 + 1 + 1 + 1 + 1 + 1 + 1 + 1 + 1 + 1 + 1 + 1 + 1 + 1 + 1 + 1 + 1 + 1 + 1 + 1 + 1 + 1 + 1 + 1 → ak_W0 e 2 d 0 ρ 1842 [some (am_r ((am_SP + 2))), some (am_r 1), some (am_r 110), some (am_r 211), some (am_i x4), none, none, none] [] h (ak_qi Q X)) ∧ True)) :
  ak_W0 e 2 d 0 ρ 23 [some (am_r ((am_SP + 2))), some (am_r 1), some (am_r 110), some (am_r 211), some (am_i x4), none, none, none] [] h (ak_qi Q X) := ak_k_ok am_cc0 400 [(23, [true, true, true, true, true, false, false, false]), (160, [true, true, true, true, true, false, false, false]), (264, [true, true, true, true, true, false, false, false]), (300, [true, true, true, true, true, false, false, false]), (313, [true, true, true, true, true, false, false, false]), (349, [true, true, true, true, true, false, false, false]), (360, [true, true, true, true, true, false, false, false]), (504, [true, true, true, true, true, false, false, false]), (559, [true, true, true, true, true, false, false, false]), (626, [true, true, true, true, true, false, false, false]), (693, [true, true, true, true, true, false, false, false]), (760, [true, true, true, true, true, false, false, false]), (816, [true, true, true, true, true, false, false, false]), (940, [true, true, true, true, true, false, false, false]), (996, [true, true, true, true, true, false, false, false]), (1064, [true, true, true, true, true, false, false, false]), (1120, [true, true, true, true, true, false, false, false]), (1188, [true, true, true, true, true, false, false, false]), (1268, [true, true, true, true, true, false, false, false]), (1347, [true, true, true, true, true, false, false, false]), (1415, [true, true, true, true, true, false, false, false]), (1495, [true, true, true, true, true, false, false, false]), (1563, [true, true, true, true, true, false, false, false]), (1643, [true, true, true, true, true, false, false, false]), (1730, [true, true, true, true, true, false, false, false]), (1774, [true, true, true, true, true, false, false, false]), (1842, [true, true, true, true, true, false, false, false])] w
set_option maxRecDepth 100000 in
theorem am_k0_160 {e : ak_X3} {d : Nat} {ρ : List Nat} {h : ak_S} {Q : Int → ak_S → Prop} {X : Nat → ak_S → Prop} {x4 : Int} (w :
  (0 ≤ am_w32 (x4 + 1) ∧ am_w32 (x4 + 1) < (e.1 : Int)) ∧ (0 ≤ am_w32 (x4 + 2) ∧ am_w32 (x4 + 2) < (e.1 : Int)) ∧ (0 ≤ am_w32 (x4 + 3) ∧ am_w32 (x4 + 3) < (e.1 : Int)) ∧ (0 ≤ am_w32 (x4 + 4) ∧ am_w32 (x4 + 4) < (e.1 : Int)) ∧ (0 ≤ am_w32 (x4 + 5) ∧ am_w32 (x4 + 5) < (e.1 : Int)) ∧ ak_MI e 2 d ρ 327 [am_r 1, am_i (am_I0 e.2 (am_SP + 2) (am_w32 (x4 + 1)).toNat), am_i (am_I0 e.2 (am_SP + 2) (am_w32 (x4 + 2)).toNat), am_i (am_I0 e.2 (am_SP + 2) (am_w32 (x4 + 3)).toNat), am_i (am_I0 e.2 (am_SP + 2) (am_w32 (x4 + 4)).toNat), am_i (am_I0 e.2 (am_SP + 2) (am_w32 (x4 + 5)).toNat), am_r 211] h (fun v2 h1 =>
    (0 ≤ am_w32 (x4 + 1) ∧ am_w32 (x4 + 1) < (e.1 : Int)) ∧ (0 ≤ am_w32 (x4 + 2) ∧ am_w32 (x4 + 2) < (e.1 : Int)) ∧ (0 ≤ am_w32 (x4 + 3) ∧ am_w32 (x4 + 3) < (e.1 : Int)) ∧ (0 ≤ am_w32 (x4 + 4) ∧ am_w32 (x4 + 4) < (e.1 : Int)) ∧ (0 ≤ am_w32 (x4 + 5) ∧ am_w32 (x4 + 5) < (e.1 : Int)) ∧ ak_MI e 2 d ρ 199 [am_r 110, am_i (am_I0 e.2 (am_SP + 2) (am_w32 (x4 + 1)).toNat), am_i (am_I0 e.2 (am_SP + 2) (am_w32 (x4 + 2)).toNat), am_i (am_I0 e.2 (am_SP + 2) (am_w32 (x4 + 3)).toNat), am_i (am_I0 e.2 (am_SP + 2) (am_w32 (x4 + 4)).toNat), am_i (am_I0 e.2 (am_SP + 2) (am_w32 (x4 + 5)).toNat)] h1 (fun v4 h3 =>
      ak_MI e 2 d ρ 197 [am_r 110] h3 (fun v6 h5 =>
        (v6 = v2 →
          (v2 ≠ 0 →
            ak_W0 e 2 d 0 ρ 23 [some (am_r ((am_SP + 2))), some (am_r 1), some (am_r 110), some (am_r 211), some (am_i (am_w32 (x4 + 6))), none, none, none] [] h5 (ak_qi Q X))
          ∧ (v2 = 0 →
            (0 ≤ (0 : Int) ∧ (0 : Int) < (1 : Int)) ∧ (am_lsign (h5.2.1 211 0) v4 = 0 →
              ak_W0 e 2 d 0 ρ 23 [some (am_r ((am_SP + 2))), some (am_r 1), some (am_r 110), some (am_r 211), some (am_i (am_w32 (x4 + 6))), none, none, none] [] h5 (ak_qi Q X))
            ∧ (am_lsign (h5.2.1 211 0) v4 ≠ 0 →
              ((0 : Int) = 0 ∨ (0 : Int) = 1) ∧ Q 0 h5)))
        ∧ (v6 ≠ v2 →
          ((0 : Int) = 0 ∨ (0 : Int) = 1) ∧ Q 0 h5)) (fun _ _ => False)) (fun _ _ => False)) (fun _ _ => False)) :
  ak_W0 e 2 d 0 ρ 160 [some (am_r ((am_SP + 2))), some (am_r 1), some (am_r 110), some (am_r 211), some (am_i x4), none, none, none] [] h (ak_qi Q X) := ak_k_ok am_cc0 400 [(23, [true, true, true, true, true, false, false, false]), (160, [true, true, true, true, true, false, false, false]), (264, [true, true, true, true, true, false, false, false]), (300, [true, true, true, true, true, false, false, false]), (313, [true, true, true, true, true, false, false, false]), (349, [true, true, true, true, true, false, false, false]), (360, [true, true, true, true, true, false, false, false]), (504, [true, true, true, true, true, false, false, false]), (559, [true, true, true, true, true, false, false, false]), (626, [true, true, true, true, true, false, false, false]), (693, [true, true, true, true, true, false, false, false]), (760, [true, true, true, true, true, false, false, false]), (816, [true, true, true, true, true, false, false, false]), (940, [true, true, true, true, true, false, false, false]), (996, [true, true, true, true, true, false, false, false]), (1064, [true, true, true, true, true, false, false, false]), (1120, [true, true, true, true, true, false, false, false]), (1188, [true, true, true, true, true, false, false, false]), (1268, [true, true, true, true, true, false, false, false]), (1347, [true, true, true, true, true, false, false, false]), (1415, [true, true, true, true, true, false, false, false]), (1495, [true, true, true, true, true, false, false, false]), (1563, [true, true, true, true, true, false, false, false]), (1643, [true, true, true, true, true, false, false, false]), (1730, [true, true, true, true, true, false, false, false]), (1774, [true, true, true, true, true, false, false, false]), (1842, [true, true, true, true, true, false, false, false])] w
set_option maxRecDepth 100000 in
theorem am_k0_264 {e : ak_X3} {d : Nat} {ρ : List Nat} {h : ak_S} {Q : Int → ak_S → Prop} {X : Nat → ak_S → Prop} {x4 : Int} (w :
  (0 ≤ am_w32 (x4 + 1) ∧ am_w32 (x4 + 1) < (e.1 : Int)) ∧ ak_MI e 2 d ρ 328 [am_r 1, am_i (am_I0 e.2 (am_SP + 2) (am_w32 (x4 + 1)).toNat)] h (fun v2 h1 =>
    (0 ≤ am_w32 (x4 + 1) ∧ am_w32 (x4 + 1) < (e.1 : Int)) ∧ ak_MV e 2 d ρ 200 [am_r 110, am_i (am_I0 e.2 (am_SP + 2) (am_w32 (x4 + 1)).toNat)] h1 (fun h3 =>
      ak_MI e 2 d ρ 197 [am_r 110] h3 (fun v5 h4 =>
        (v5 = v2 →
          ak_W0 e 2 d 0 ρ 23 [some (am_r ((am_SP + 2))), some (am_r 1), some (am_r 110), some (am_r 211), some (am_i (am_w32 (x4 + 6))), none, none, none] [] h4 (ak_qi Q X))
        ∧ (v5 ≠ v2 →
          ((0 : Int) = 0 ∨ (0 : Int) = 1) ∧ Q 0 h4)) (fun _ _ => False)) (fun _ _ => False)) (fun _ _ => False)) :
  ak_W0 e 2 d 0 ρ 264 [some (am_r ((am_SP + 2))), some (am_r 1), some (am_r 110), some (am_r 211), some (am_i x4), none, none, none] [] h (ak_qi Q X) := ak_k_ok am_cc0 400 [(23, [true, true, true, true, true, false, false, false]), (160, [true, true, true, true, true, false, false, false]), (264, [true, true, true, true, true, false, false, false]), (300, [true, true, true, true, true, false, false, false]), (313, [true, true, true, true, true, false, false, false]), (349, [true, true, true, true, true, false, false, false]), (360, [true, true, true, true, true, false, false, false]), (504, [true, true, true, true, true, false, false, false]), (559, [true, true, true, true, true, false, false, false]), (626, [true, true, true, true, true, false, false, false]), (693, [true, true, true, true, true, false, false, false]), (760, [true, true, true, true, true, false, false, false]), (816, [true, true, true, true, true, false, false, false]), (940, [true, true, true, true, true, false, false, false]), (996, [true, true, true, true, true, false, false, false]), (1064, [true, true, true, true, true, false, false, false]), (1120, [true, true, true, true, true, false, false, false]), (1188, [true, true, true, true, true, false, false, false]), (1268, [true, true, true, true, true, false, false, false]), (1347, [true, true, true, true, true, false, false, false]), (1415, [true, true, true, true, true, false, false, false]), (1495, [true, true, true, true, true, false, false, false]), (1563, [true, true, true, true, true, false, false, false]), (1643, [true, true, true, true, true, false, false, false]), (1730, [true, true, true, true, true, false, false, false]), (1774, [true, true, true, true, true, false, false, false]), (1842, [true, true, true, true, true, false, false, false])] w
set_option maxRecDepth 100000 in
theorem am_k0_300 {e : ak_X3} {d : Nat} {ρ : List Nat} {h : ak_S} {Q : Int → ak_S → Prop} {X : Nat → ak_S → Prop} {x4 : Int} (w :
  ak_MI e 2 d ρ 168 [am_r 1] h (fun v2 h1 =>
    ak_MI e 2 d ρ 237 [am_r 110] h1 (fun v4 h3 =>
      (v2 = v4 →
        ak_W0 e 2 d 0 ρ 23 [some (am_r ((am_SP + 2))), some (am_r 1), some (am_r 110), some (am_r 211), some (am_i (am_w32 (x4 + 6))), none, none, none] [] h3 (ak_qi Q X))
      ∧ (v2 ≠ v4 →
        ((0 : Int) = 0 ∨ (0 : Int) = 1) ∧ Q 0 h3)) (fun _ _ => False)) X) :
  ak_W0 e 2 d 0 ρ 300 [some (am_r ((am_SP + 2))), some (am_r 1), some (am_r 110), some (am_r 211), some (am_i x4), none, none, none] [] h (ak_qi Q X) := ak_k_ok am_cc0 400 [(23, [true, true, true, true, true, false, false, false]), (160, [true, true, true, true, true, false, false, false]), (264, [true, true, true, true, true, false, false, false]), (300, [true, true, true, true, true, false, false, false]), (313, [true, true, true, true, true, false, false, false]), (349, [true, true, true, true, true, false, false, false]), (360, [true, true, true, true, true, false, false, false]), (504, [true, true, true, true, true, false, false, false]), (559, [true, true, true, true, true, false, false, false]), (626, [true, true, true, true, true, false, false, false]), (693, [true, true, true, true, true, false, false, false]), (760, [true, true, true, true, true, false, false, false]), (816, [true, true, true, true, true, false, false, false]), (940, [true, true, true, true, true, false, false, false]), (996, [true, true, true, true, true, false, false, false]), (1064, [true, true, true, true, true, false, false, false]), (1120, [true, true, true, true, true, false, false, false]), (1188, [true, true, true, true, true, false, false, false]), (1268, [true, true, true, true, true, false, false, false]), (1347, [true, true, true, true, true, false, false, false]), (1415, [true, true, true, true, true, false, false, false]), (1495, [true, true, true, true, true, false, false, false]), (1563, [true, true, true, true, true, false, false, false]), (1643, [true, true, true, true, true, false, false, false]), (1730, [true, true, true, true, true, false, false, false]), (1774, [true, true, true, true, true, false, false, false]), (1842, [true, true, true, true, true, false, false, false])] w
set_option maxRecDepth 100000 in
theorem am_k0_313 {e : ak_X3} {d : Nat} {ρ : List Nat} {h : ak_S} {Q : Int → ak_S → Prop} {X : Nat → ak_S → Prop} {x4 : Int} (w :
  (0 ≤ am_w32 (x4 + 1) ∧ am_w32 (x4 + 1) < (e.1 : Int)) ∧ ak_MI e 2 d ρ 329 [am_r 1, am_i (am_I0 e.2 (am_SP + 2) (am_w32 (x4 + 1)).toNat)] h (fun v2 h1 =>
    (0 ≤ am_w32 (x4 + 1) ∧ am_w32 (x4 + 1) < (e.1 : Int)) ∧ ak_MV e 2 d ρ 300 [am_r 110, am_i (am_I0 e.2 (am_SP + 2) (am_w32 (x4 + 1)).toNat)] h1 (fun h3 =>
      ak_MI e 2 d ρ 197 [am_r 110] h3 (fun v5 h4 =>
        (v5 = v2 →
          ak_W0 e 2 d 0 ρ 23 [some (am_r ((am_SP + 2))), some (am_r 1), some (am_r 110), some (am_r 211), some (am_i (am_w32 (x4 + 6))), none, none, none] [] h4 (ak_qi Q X))
        ∧ (v5 ≠ v2 →
          ((0 : Int) = 0 ∨ (0 : Int) = 1) ∧ Q 0 h4)) (fun _ _ => False)) (fun _ _ => False)) (fun _ _ => False)) :
  ak_W0 e 2 d 0 ρ 313 [some (am_r ((am_SP + 2))), some (am_r 1), some (am_r 110), some (am_r 211), some (am_i x4), none, none, none] [] h (ak_qi Q X) := ak_k_ok am_cc0 400 [(23, [true, true, true, true, true, false, false, false]), (160, [true, true, true, true, true, false, false, false]), (264, [true, true, true, true, true, false, false, false]), (300, [true, true, true, true, true, false, false, false]), (313, [true, true, true, true, true, false, false, false]), (349, [true, true, true, true, true, false, false, false]), (360, [true, true, true, true, true, false, false, false]), (504, [true, true, true, true, true, false, false, false]), (559, [true, true, true, true, true, false, false, false]), (626, [true, true, true, true, true, false, false, false]), (693, [true, true, true, true, true, false, false, false]), (760, [true, true, true, true, true, false, false, false]), (816, [true, true, true, true, true, false, false, false]), (940, [true, true, true, true, true, false, false, false]), (996, [true, true, true, true, true, false, false, false]), (1064, [true, true, true, true, true, false, false, false]), (1120, [true, true, true, true, true, false, false, false]), (1188, [true, true, true, true, true, false, false, false]), (1268, [true, true, true, true, true, false, false, false]), (1347, [true, true, true, true, true, false, false, false]), (1415, [true, true, true, true, true, false, false, false]), (1495, [true, true, true, true, true, false, false, false]), (1563, [true, true, true, true, true, false, false, false]), (1643, [true, true, true, true, true, false, false, false]), (1730, [true, true, true, true, true, false, false, false]), (1774, [true, true, true, true, true, false, false, false]), (1842, [true, true, true, true, true, false, false, false])] w
set_option maxRecDepth 100000 in
theorem am_k0_349 {e : ak_X3} {d : Nat} {ρ : List Nat} {h : ak_S} {Q : Int → ak_S → Prop} {X : Nat → ak_S → Prop} {x4 : Int} (w :
  ak_MV e 2 d ρ 170 [am_r 1] h (fun h1 =>
    ak_MV e 2 d ρ 301 [am_r 110] h1 (fun h2 =>
      ak_W0 e 2 d 0 ρ 23 [some (am_r ((am_SP + 2))), some (am_r 1), some (am_r 110), some (am_r 211), some (am_i (am_w32 (x4 + 6))), none, none, none] [] h2 (ak_qi Q X)) (fun _ _ => False)) (fun _ _ => False)) :
  ak_W0 e 2 d 0 ρ 349 [some (am_r ((am_SP + 2))), some (am_r 1), some (am_r 110), some (am_r 211), some (am_i x4), none, none, none] [] h (ak_qi Q X) := ak_k_ok am_cc0 400 [(23, [true, true, true, true, true, false, false, false]), (160, [true, true, true, true, true, false, false, false]), (264, [true, true, true, true, true, false, false, false]), (300, [true, true, true, true, true, false, false, false]), (313, [true, true, true, true, true, false, false, false]), (349, [true, true, true, true, true, false, false, false]), (360, [true, true, true, true, true, false, false, false]), (504, [true, true, true, true, true, false, false, false]), (559, [true, true, true, true, true, false, false, false]), (626, [true, true, true, true, true, false, false, false]), (693, [true, true, true, true, true, false, false, false]), (760, [true, true, true, true, true, false, false, false]), (816, [true, true, true, true, true, false, false, false]), (940, [true, true, true, true, true, false, false, false]), (996, [true, true, true, true, true, false, false, false]), (1064, [true, true, true, true, true, false, false, false]), (1120, [true, true, true, true, true, false, false, false]), (1188, [true, true, true, true, true, false, false, false]), (1268, [true, true, true, true, true, false, false, false]), (1347, [true, true, true, true, true, false, false, false]), (1415, [true, true, true, true, true, false, false, false]), (1495, [true, true, true, true, true, false, false, false]), (1563, [true, true, true, true, true, false, false, false]), (1643, [true, true, true, true, true, false, false, false]), (1730, [true, true, true, true, true, false, false, false]), (1774, [true, true, true, true, true, false, false, false]), (1842, [true, true, true, true, true, false, false, false])] w
set_option maxRecDepth 100000 in
theorem am_k0_360 {e : ak_X3} {d : Nat} {ρ : List Nat} {h : ak_S} {Q : Int → ak_S → Prop} {X : Nat → ak_S → Prop} {x4 : Int} (w :
  (0 ≤ am_w32 (x4 + 1) ∧ am_w32 (x4 + 1) < (e.1 : Int)) ∧ (0 ≤ am_w32 (x4 + 2) ∧ am_w32 (x4 + 2) < (e.1 : Int)) ∧ (0 ≤ am_w32 (x4 + 3) ∧ am_w32 (x4 + 3) < (e.1 : Int)) ∧ (0 ≤ am_w32 (x4 + 4) ∧ am_w32 (x4 + 4) < (e.1 : Int)) ∧ (0 ≤ am_w32 (x4 + 5) ∧ am_w32 (x4 + 5) < (e.1 : Int)) ∧ ak_MI e 2 d ρ 330 [am_r 1, am_i (am_I0 e.2 (am_SP + 2) (am_w32 (x4 + 1)).toNat), am_l ((Int64.ofInt ((Int64.ofInt (am_I0 e.2 (am_SP + 2) (am_w32 (x4 + 2)).toNat) <<< ((Int32.ofInt 32).toInt64 &&& 63)).toInt) ||| Int64.ofInt ((Int64.ofInt (am_I0 e.2 (am_SP + 2) (am_w32 (x4 + 3)).toNat) &&& Int64.ofInt 4294967295).toInt)).toInt), am_l ((Int64.ofInt ((Int64.ofInt (am_I0 e.2 (am_SP + 2) (am_w32 (x4 + 4)).toNat) <<< ((Int32.ofInt 32).toInt64 &&& 63)).toInt) ||| Int64.ofInt ((Int64.ofInt (am_I0 e.2 (am_SP + 2) (am_w32 (x4 + 5)).toNat) &&& Int64.ofInt 4294967295).toInt)).toInt), am_r 211] h (fun v2 h1 =>
    (0 ≤ am_w32 (x4 + 1) ∧ am_w32 (x4 + 1) < (e.1 : Int)) ∧ (0 ≤ am_w32 (x4 + 2) ∧ am_w32 (x4 + 2) < (e.1 : Int)) ∧ (0 ≤ am_w32 (x4 + 3) ∧ am_w32 (x4 + 3) < (e.1 : Int)) ∧ (0 ≤ am_w32 (x4 + 4) ∧ am_w32 (x4 + 4) < (e.1 : Int)) ∧ (0 ≤ am_w32 (x4 + 5) ∧ am_w32 (x4 + 5) < (e.1 : Int)) ∧ ak_MI e 2 d ρ 302 [am_r 110, am_i (am_I0 e.2 (am_SP + 2) (am_w32 (x4 + 1)).toNat), am_l ((Int64.ofInt ((Int64.ofInt (am_I0 e.2 (am_SP + 2) (am_w32 (x4 + 2)).toNat) <<< ((Int32.ofInt 32).toInt64 &&& 63)).toInt) ||| Int64.ofInt ((Int64.ofInt (am_I0 e.2 (am_SP + 2) (am_w32 (x4 + 3)).toNat) &&& Int64.ofInt 4294967295).toInt)).toInt), am_l ((Int64.ofInt ((Int64.ofInt (am_I0 e.2 (am_SP + 2) (am_w32 (x4 + 4)).toNat) <<< ((Int32.ofInt 32).toInt64 &&& 63)).toInt) ||| Int64.ofInt ((Int64.ofInt (am_I0 e.2 (am_SP + 2) (am_w32 (x4 + 5)).toNat) &&& Int64.ofInt 4294967295).toInt)).toInt)] h1 (fun v4 h3 =>
      ak_MI e 2 d ρ 197 [am_r 110] h3 (fun v6 h5 =>
        (v6 = v2 →
          (v2 ≠ 0 →
            ak_W0 e 2 d 0 ρ 23 [some (am_r ((am_SP + 2))), some (am_r 1), some (am_r 110), some (am_r 211), some (am_i (am_w32 (x4 + 6))), none, none, none] [] h5 (ak_qi Q X))
          ∧ (v2 = 0 →
            (0 ≤ (0 : Int) ∧ (0 : Int) < (1 : Int)) ∧ (am_lsign (h5.2.1 211 0) v4 = 0 →
              ak_W0 e 2 d 0 ρ 23 [some (am_r ((am_SP + 2))), some (am_r 1), some (am_r 110), some (am_r 211), some (am_i (am_w32 (x4 + 6))), none, none, none] [] h5 (ak_qi Q X))
            ∧ (am_lsign (h5.2.1 211 0) v4 ≠ 0 →
              ((0 : Int) = 0 ∨ (0 : Int) = 1) ∧ Q 0 h5)))
        ∧ (v6 ≠ v2 →
          ((0 : Int) = 0 ∨ (0 : Int) = 1) ∧ Q 0 h5)) (fun _ _ => False)) (fun _ _ => False)) (fun _ _ => False)) :
  ak_W0 e 2 d 0 ρ 360 [some (am_r ((am_SP + 2))), some (am_r 1), some (am_r 110), some (am_r 211), some (am_i x4), none, none, none] [] h (ak_qi Q X) := ak_k_ok am_cc0 400 [(23, [true, true, true, true, true, false, false, false]), (160, [true, true, true, true, true, false, false, false]), (264, [true, true, true, true, true, false, false, false]), (300, [true, true, true, true, true, false, false, false]), (313, [true, true, true, true, true, false, false, false]), (349, [true, true, true, true, true, false, false, false]), (360, [true, true, true, true, true, false, false, false]), (504, [true, true, true, true, true, false, false, false]), (559, [true, true, true, true, true, false, false, false]), (626, [true, true, true, true, true, false, false, false]), (693, [true, true, true, true, true, false, false, false]), (760, [true, true, true, true, true, false, false, false]), (816, [true, true, true, true, true, false, false, false]), (940, [true, true, true, true, true, false, false, false]), (996, [true, true, true, true, true, false, false, false]), (1064, [true, true, true, true, true, false, false, false]), (1120, [true, true, true, true, true, false, false, false]), (1188, [true, true, true, true, true, false, false, false]), (1268, [true, true, true, true, true, false, false, false]), (1347, [true, true, true, true, true, false, false, false]), (1415, [true, true, true, true, true, false, false, false]), (1495, [true, true, true, true, true, false, false, false]), (1563, [true, true, true, true, true, false, false, false]), (1643, [true, true, true, true, true, false, false, false]), (1730, [true, true, true, true, true, false, false, false]), (1774, [true, true, true, true, true, false, false, false]), (1842, [true, true, true, true, true, false, false, false])] w
set_option maxRecDepth 100000 in
theorem am_k0_504 {e : ak_X3} {d : Nat} {ρ : List Nat} {h : ak_S} {Q : Int → ak_S → Prop} {X : Nat → ak_S → Prop} {x4 : Int} (w :
  (0 ≤ am_w32 (x4 + 1) ∧ am_w32 (x4 + 1) < (e.1 : Int)) ∧ ak_MI e 2 d ρ 331 [am_r 1, am_i (am_I0 e.2 (am_SP + 2) (am_w32 (x4 + 1)).toNat), am_r 211] h (fun v2 h1 =>
    (0 ≤ am_w32 (x4 + 1) ∧ am_w32 (x4 + 1) < (e.1 : Int)) ∧ ak_MJ e 2 d ρ 303 [am_r 110, am_i (am_I0 e.2 (am_SP + 2) (am_w32 (x4 + 1)).toNat)] h1 (fun v4 h3 =>
      ak_MI e 2 d ρ 197 [am_r 110] h3 (fun v6 h5 =>
        (v6 = v2 →
          (v2 ≠ 0 →
            ak_W0 e 2 d 0 ρ 23 [some (am_r ((am_SP + 2))), some (am_r 1), some (am_r 110), some (am_r 211), some (am_i (am_w32 (x4 + 6))), none, none, none] [] h5 (ak_qi Q X))
          ∧ (v2 = 0 →
            (0 ≤ (0 : Int) ∧ (0 : Int) < (1 : Int)) ∧ (am_lsign (h5.2.1 211 0) v4 = 0 →
              ak_W0 e 2 d 0 ρ 23 [some (am_r ((am_SP + 2))), some (am_r 1), some (am_r 110), some (am_r 211), some (am_i (am_w32 (x4 + 6))), none, none, none] [] h5 (ak_qi Q X))
            ∧ (am_lsign (h5.2.1 211 0) v4 ≠ 0 →
              ((0 : Int) = 0 ∨ (0 : Int) = 1) ∧ Q 0 h5)))
        ∧ (v6 ≠ v2 →
          ((0 : Int) = 0 ∨ (0 : Int) = 1) ∧ Q 0 h5)) (fun _ _ => False)) (fun _ _ => False)) (fun _ _ => False)) :
  ak_W0 e 2 d 0 ρ 504 [some (am_r ((am_SP + 2))), some (am_r 1), some (am_r 110), some (am_r 211), some (am_i x4), none, none, none] [] h (ak_qi Q X) := ak_k_ok am_cc0 400 [(23, [true, true, true, true, true, false, false, false]), (160, [true, true, true, true, true, false, false, false]), (264, [true, true, true, true, true, false, false, false]), (300, [true, true, true, true, true, false, false, false]), (313, [true, true, true, true, true, false, false, false]), (349, [true, true, true, true, true, false, false, false]), (360, [true, true, true, true, true, false, false, false]), (504, [true, true, true, true, true, false, false, false]), (559, [true, true, true, true, true, false, false, false]), (626, [true, true, true, true, true, false, false, false]), (693, [true, true, true, true, true, false, false, false]), (760, [true, true, true, true, true, false, false, false]), (816, [true, true, true, true, true, false, false, false]), (940, [true, true, true, true, true, false, false, false]), (996, [true, true, true, true, true, false, false, false]), (1064, [true, true, true, true, true, false, false, false]), (1120, [true, true, true, true, true, false, false, false]), (1188, [true, true, true, true, true, false, false, false]), (1268, [true, true, true, true, true, false, false, false]), (1347, [true, true, true, true, true, false, false, false]), (1415, [true, true, true, true, true, false, false, false]), (1495, [true, true, true, true, true, false, false, false]), (1563, [true, true, true, true, true, false, false, false]), (1643, [true, true, true, true, true, false, false, false]), (1730, [true, true, true, true, true, false, false, false]), (1774, [true, true, true, true, true, false, false, false]), (1842, [true, true, true, true, true, false, false, false])] w
set_option maxRecDepth 100000 in
theorem am_k0_559 {e : ak_X3} {d : Nat} {ρ : List Nat} {h : ak_S} {Q : Int → ak_S → Prop} {X : Nat → ak_S → Prop} {x4 : Int} (w :
  (0 ≤ am_w32 (x4 + 1) ∧ am_w32 (x4 + 1) < (e.1 : Int)) ∧ (0 ≤ am_w32 (x4 + 2) ∧ am_w32 (x4 + 2) < (e.1 : Int)) ∧ ak_MI e 2 d ρ 332 [am_r 1, am_i (am_I0 e.2 (am_SP + 2) (am_w32 (x4 + 1)).toNat), am_i (am_I0 e.2 (am_SP + 2) (am_w32 (x4 + 2)).toNat), am_r 211] h (fun v2 h1 =>
    (0 ≤ am_w32 (x4 + 1) ∧ am_w32 (x4 + 1) < (e.1 : Int)) ∧ (0 ≤ am_w32 (x4 + 2) ∧ am_w32 (x4 + 2) < (e.1 : Int)) ∧ ak_MJ e 2 d ρ 304 [am_r 110, am_i (am_I0 e.2 (am_SP + 2) (am_w32 (x4 + 1)).toNat), am_i (am_I0 e.2 (am_SP + 2) (am_w32 (x4 + 2)).toNat)] h1 (fun v4 h3 =>
      ak_MI e 2 d ρ 197 [am_r 110] h3 (fun v6 h5 =>
        (v6 = v2 →
          (v2 ≠ 0 →
            ak_W0 e 2 d 0 ρ 23 [some (am_r ((am_SP + 2))), some (am_r 1), some (am_r 110), some (am_r 211), some (am_i (am_w32 (x4 + 6))), none, none, none] [] h5 (ak_qi Q X))
          ∧ (v2 = 0 →
            (0 ≤ (0 : Int) ∧ (0 : Int) < (1 : Int)) ∧ (am_lsign (h5.2.1 211 0) v4 = 0 →
              ak_W0 e 2 d 0 ρ 23 [some (am_r ((am_SP + 2))), some (am_r 1), some (am_r 110), some (am_r 211), some (am_i (am_w32 (x4 + 6))), none, none, none] [] h5 (ak_qi Q X))
            ∧ (am_lsign (h5.2.1 211 0) v4 ≠ 0 →
              ((0 : Int) = 0 ∨ (0 : Int) = 1) ∧ Q 0 h5)))
        ∧ (v6 ≠ v2 →
          ((0 : Int) = 0 ∨ (0 : Int) = 1) ∧ Q 0 h5)) (fun _ _ => False)) (fun _ _ => False)) (fun _ _ => False)) :
  ak_W0 e 2 d 0 ρ 559 [some (am_r ((am_SP + 2))), some (am_r 1), some (am_r 110), some (am_r 211), some (am_i x4), none, none, none] [] h (ak_qi Q X) := ak_k_ok am_cc0 400 [(23, [true, true, true, true, true, false, false, false]), (160, [true, true, true, true, true, false, false, false]), (264, [true, true, true, true, true, false, false, false]), (300, [true, true, true, true, true, false, false, false]), (313, [true, true, true, true, true, false, false, false]), (349, [true, true, true, true, true, false, false, false]), (360, [true, true, true, true, true, false, false, false]), (504, [true, true, true, true, true, false, false, false]), (559, [true, true, true, true, true, false, false, false]), (626, [true, true, true, true, true, false, false, false]), (693, [true, true, true, true, true, false, false, false]), (760, [true, true, true, true, true, false, false, false]), (816, [true, true, true, true, true, false, false, false]), (940, [true, true, true, true, true, false, false, false]), (996, [true, true, true, true, true, false, false, false]), (1064, [true, true, true, true, true, false, false, false]), (1120, [true, true, true, true, true, false, false, false]), (1188, [true, true, true, true, true, false, false, false]), (1268, [true, true, true, true, true, false, false, false]), (1347, [true, true, true, true, true, false, false, false]), (1415, [true, true, true, true, true, false, false, false]), (1495, [true, true, true, true, true, false, false, false]), (1563, [true, true, true, true, true, false, false, false]), (1643, [true, true, true, true, true, false, false, false]), (1730, [true, true, true, true, true, false, false, false]), (1774, [true, true, true, true, true, false, false, false]), (1842, [true, true, true, true, true, false, false, false])] w
set_option maxRecDepth 100000 in
theorem am_k0_626 {e : ak_X3} {d : Nat} {ρ : List Nat} {h : ak_S} {Q : Int → ak_S → Prop} {X : Nat → ak_S → Prop} {x4 : Int} (w :
  (0 ≤ am_w32 (x4 + 1) ∧ am_w32 (x4 + 1) < (e.1 : Int)) ∧ (0 ≤ am_w32 (x4 + 2) ∧ am_w32 (x4 + 2) < (e.1 : Int)) ∧ ak_MI e 2 d ρ 333 [am_r 1, am_i (am_I0 e.2 (am_SP + 2) (am_w32 (x4 + 1)).toNat), am_i (am_I0 e.2 (am_SP + 2) (am_w32 (x4 + 2)).toNat), am_r 211] h (fun v2 h1 =>
    (0 ≤ am_w32 (x4 + 1) ∧ am_w32 (x4 + 1) < (e.1 : Int)) ∧ (0 ≤ am_w32 (x4 + 2) ∧ am_w32 (x4 + 2) < (e.1 : Int)) ∧ ak_MJ e 2 d ρ 305 [am_r 110, am_i (am_I0 e.2 (am_SP + 2) (am_w32 (x4 + 1)).toNat), am_i (am_I0 e.2 (am_SP + 2) (am_w32 (x4 + 2)).toNat)] h1 (fun v4 h3 =>
      ak_MI e 2 d ρ 197 [am_r 110] h3 (fun v6 h5 =>
        (v6 = v2 →
          (v2 ≠ 0 →
            ak_W0 e 2 d 0 ρ 23 [some (am_r ((am_SP + 2))), some (am_r 1), some (am_r 110), some (am_r 211), some (am_i (am_w32 (x4 + 6))), none, none, none] [] h5 (ak_qi Q X))
          ∧ (v2 = 0 →
            (0 ≤ (0 : Int) ∧ (0 : Int) < (1 : Int)) ∧ (am_lsign (h5.2.1 211 0) v4 = 0 →
              ak_W0 e 2 d 0 ρ 23 [some (am_r ((am_SP + 2))), some (am_r 1), some (am_r 110), some (am_r 211), some (am_i (am_w32 (x4 + 6))), none, none, none] [] h5 (ak_qi Q X))
            ∧ (am_lsign (h5.2.1 211 0) v4 ≠ 0 →
              ((0 : Int) = 0 ∨ (0 : Int) = 1) ∧ Q 0 h5)))
        ∧ (v6 ≠ v2 →
          ((0 : Int) = 0 ∨ (0 : Int) = 1) ∧ Q 0 h5)) (fun _ _ => False)) (fun _ _ => False)) (fun _ _ => False)) :
  ak_W0 e 2 d 0 ρ 626 [some (am_r ((am_SP + 2))), some (am_r 1), some (am_r 110), some (am_r 211), some (am_i x4), none, none, none] [] h (ak_qi Q X) := ak_k_ok am_cc0 400 [(23, [true, true, true, true, true, false, false, false]), (160, [true, true, true, true, true, false, false, false]), (264, [true, true, true, true, true, false, false, false]), (300, [true, true, true, true, true, false, false, false]), (313, [true, true, true, true, true, false, false, false]), (349, [true, true, true, true, true, false, false, false]), (360, [true, true, true, true, true, false, false, false]), (504, [true, true, true, true, true, false, false, false]), (559, [true, true, true, true, true, false, false, false]), (626, [true, true, true, true, true, false, false, false]), (693, [true, true, true, true, true, false, false, false]), (760, [true, true, true, true, true, false, false, false]), (816, [true, true, true, true, true, false, false, false]), (940, [true, true, true, true, true, false, false, false]), (996, [true, true, true, true, true, false, false, false]), (1064, [true, true, true, true, true, false, false, false]), (1120, [true, true, true, true, true, false, false, false]), (1188, [true, true, true, true, true, false, false, false]), (1268, [true, true, true, true, true, false, false, false]), (1347, [true, true, true, true, true, false, false, false]), (1415, [true, true, true, true, true, false, false, false]), (1495, [true, true, true, true, true, false, false, false]), (1563, [true, true, true, true, true, false, false, false]), (1643, [true, true, true, true, true, false, false, false]), (1730, [true, true, true, true, true, false, false, false]), (1774, [true, true, true, true, true, false, false, false]), (1842, [true, true, true, true, true, false, false, false])] w
set_option maxRecDepth 100000 in
theorem am_k0_693 {e : ak_X3} {d : Nat} {ρ : List Nat} {h : ak_S} {Q : Int → ak_S → Prop} {X : Nat → ak_S → Prop} {x4 : Int} (w :
  (0 ≤ am_w32 (x4 + 1) ∧ am_w32 (x4 + 1) < (e.1 : Int)) ∧ (0 ≤ am_w32 (x4 + 2) ∧ am_w32 (x4 + 2) < (e.1 : Int)) ∧ ak_MI e 2 d ρ 334 [am_r 1, am_i (am_I0 e.2 (am_SP + 2) (am_w32 (x4 + 1)).toNat), am_i (am_I0 e.2 (am_SP + 2) (am_w32 (x4 + 2)).toNat), am_r 211] h (fun v2 h1 =>
    (0 ≤ am_w32 (x4 + 1) ∧ am_w32 (x4 + 1) < (e.1 : Int)) ∧ (0 ≤ am_w32 (x4 + 2) ∧ am_w32 (x4 + 2) < (e.1 : Int)) ∧ ak_MJ e 2 d ρ 306 [am_r 110, am_i (am_I0 e.2 (am_SP + 2) (am_w32 (x4 + 1)).toNat), am_i (am_I0 e.2 (am_SP + 2) (am_w32 (x4 + 2)).toNat)] h1 (fun v4 h3 =>
      ak_MI e 2 d ρ 197 [am_r 110] h3 (fun v6 h5 =>
        (v6 = v2 →
          (v2 ≠ 0 →
            ak_W0 e 2 d 0 ρ 23 [some (am_r ((am_SP + 2))), some (am_r 1), some (am_r 110), some (am_r 211), some (am_i (am_w32 (x4 + 6))), none, none, none] [] h5 (ak_qi Q X))
          ∧ (v2 = 0 →
            (0 ≤ (0 : Int) ∧ (0 : Int) < (1 : Int)) ∧ (am_lsign (h5.2.1 211 0) v4 = 0 →
              ak_W0 e 2 d 0 ρ 23 [some (am_r ((am_SP + 2))), some (am_r 1), some (am_r 110), some (am_r 211), some (am_i (am_w32 (x4 + 6))), none, none, none] [] h5 (ak_qi Q X))
            ∧ (am_lsign (h5.2.1 211 0) v4 ≠ 0 →
              ((0 : Int) = 0 ∨ (0 : Int) = 1) ∧ Q 0 h5)))
        ∧ (v6 ≠ v2 →
          ((0 : Int) = 0 ∨ (0 : Int) = 1) ∧ Q 0 h5)) (fun _ _ => False)) (fun _ _ => False)) (fun _ _ => False)) :
  ak_W0 e 2 d 0 ρ 693 [some (am_r ((am_SP + 2))), some (am_r 1), some (am_r 110), some (am_r 211), some (am_i x4), none, none, none] [] h (ak_qi Q X) := ak_k_ok am_cc0 400 [(23, [true, true, true, true, true, false, false, false]), (160, [true, true, true, true, true, false, false, false]), (264, [true, true, true, true, true, false, false, false]), (300, [true, true, true, true, true, false, false, false]), (313, [true, true, true, true, true, false, false, false]), (349, [true, true, true, true, true, false, false, false]), (360, [true, true, true, true, true, false, false, false]), (504, [true, true, true, true, true, false, false, false]), (559, [true, true, true, true, true, false, false, false]), (626, [true, true, true, true, true, false, false, false]), (693, [true, true, true, true, true, false, false, false]), (760, [true, true, true, true, true, false, false, false]), (816, [true, true, true, true, true, false, false, false]), (940, [true, true, true, true, true, false, false, false]), (996, [true, true, true, true, true, false, false, false]), (1064, [true, true, true, true, true, false, false, false]), (1120, [true, true, true, true, true, false, false, false]), (1188, [true, true, true, true, true, false, false, false]), (1268, [true, true, true, true, true, false, false, false]), (1347, [true, true, true, true, true, false, false, false]), (1415, [true, true, true, true, true, false, false, false]), (1495, [true, true, true, true, true, false, false, false]), (1563, [true, true, true, true, true, false, false, false]), (1643, [true, true, true, true, true, false, false, false]), (1730, [true, true, true, true, true, false, false, false]), (1774, [true, true, true, true, true, false, false, false]), (1842, [true, true, true, true, true, false, false, false])] w
set_option maxRecDepth 100000 in
theorem am_k0_760 {e : ak_X3} {d : Nat} {ρ : List Nat} {h : ak_S} {Q : Int → ak_S → Prop} {X : Nat → ak_S → Prop} {x4 : Int} (w :
  (0 ≤ am_w32 (x4 + 1) ∧ am_w32 (x4 + 1) < (e.1 : Int)) ∧ ak_MI e 2 d ρ 335 [am_r 1, am_i (am_I0 e.2 (am_SP + 2) (am_w32 (x4 + 1)).toNat), am_r 211] h (fun v2 h1 =>
    (0 ≤ am_w32 (x4 + 1) ∧ am_w32 (x4 + 1) < (e.1 : Int)) ∧ ak_MI e 2 d ρ 307 [am_r 110, am_i (am_I0 e.2 (am_SP + 2) (am_w32 (x4 + 1)).toNat)] h1 (fun v4 h3 =>
      ak_MI e 2 d ρ 197 [am_r 110] h3 (fun v6 h5 =>
        (v6 = v2 →
          (v2 ≠ 0 →
            ak_W0 e 2 d 0 ρ 23 [some (am_r ((am_SP + 2))), some (am_r 1), some (am_r 110), some (am_r 211), some (am_i (am_w32 (x4 + 6))), none, none, none] [] h5 (ak_qi Q X))
          ∧ (v2 = 0 →
            (0 ≤ (0 : Int) ∧ (0 : Int) < (1 : Int)) ∧ (am_lsign (h5.2.1 211 0) v4 = 0 →
              ak_W0 e 2 d 0 ρ 23 [some (am_r ((am_SP + 2))), some (am_r 1), some (am_r 110), some (am_r 211), some (am_i (am_w32 (x4 + 6))), none, none, none] [] h5 (ak_qi Q X))
            ∧ (am_lsign (h5.2.1 211 0) v4 ≠ 0 →
              ((0 : Int) = 0 ∨ (0 : Int) = 1) ∧ Q 0 h5)))
        ∧ (v6 ≠ v2 →
          ((0 : Int) = 0 ∨ (0 : Int) = 1) ∧ Q 0 h5)) (fun _ _ => False)) (fun _ _ => False)) (fun _ _ => False)) :
  ak_W0 e 2 d 0 ρ 760 [some (am_r ((am_SP + 2))), some (am_r 1), some (am_r 110), some (am_r 211), some (am_i x4), none, none, none] [] h (ak_qi Q X) := ak_k_ok am_cc0 400 [(23, [true, true, true, true, true, false, false, false]), (160, [true, true, true, true, true, false, false, false]), (264, [true, true, true, true, true, false, false, false]), (300, [true, true, true, true, true, false, false, false]), (313, [true, true, true, true, true, false, false, false]), (349, [true, true, true, true, true, false, false, false]), (360, [true, true, true, true, true, false, false, false]), (504, [true, true, true, true, true, false, false, false]), (559, [true, true, true, true, true, false, false, false]), (626, [true, true, true, true, true, false, false, false]), (693, [true, true, true, true, true, false, false, false]), (760, [true, true, true, true, true, false, false, false]), (816, [true, true, true, true, true, false, false, false]), (940, [true, true, true, true, true, false, false, false]), (996, [true, true, true, true, true, false, false, false]), (1064, [true, true, true, true, true, false, false, false]), (1120, [true, true, true, true, true, false, false, false]), (1188, [true, true, true, true, true, false, false, false]), (1268, [true, true, true, true, true, false, false, false]), (1347, [true, true, true, true, true, false, false, false]), (1415, [true, true, true, true, true, false, false, false]), (1495, [true, true, true, true, true, false, false, false]), (1563, [true, true, true, true, true, false, false, false]), (1643, [true, true, true, true, true, false, false, false]), (1730, [true, true, true, true, true, false, false, false]), (1774, [true, true, true, true, true, false, false, false]), (1842, [true, true, true, true, true, false, false, false])] w
set_option maxRecDepth 100000 in
theorem am_k0_816 {e : ak_X3} {d : Nat} {ρ : List Nat} {h : ak_S} {Q : Int → ak_S → Prop} {X : Nat → ak_S → Prop} {x4 : Int} (w :
  (0 ≤ am_w32 (x4 + 1) ∧ am_w32 (x4 + 1) < (e.1 : Int)) ∧ (0 ≤ am_w32 (x4 + 2) ∧ am_w32 (x4 + 2) < (e.1 : Int)) ∧ (0 ≤ am_w32 (x4 + 3) ∧ am_w32 (x4 + 3) < (e.1 : Int)) ∧ (0 ≤ am_w32 (x4 + 4) ∧ am_w32 (x4 + 4) < (e.1 : Int)) ∧ (0 ≤ am_w32 (x4 + 5) ∧ am_w32 (x4 + 5) < (e.1 : Int)) ∧ ak_MI e 2 d ρ 336 [am_r 1, am_i (am_I0 e.2 (am_SP + 2) (am_w32 (x4 + 1)).toNat), am_i (am_I0 e.2 (am_SP + 2) (am_w32 (x4 + 2)).toNat), am_i (am_I0 e.2 (am_SP + 2) (am_w32 (x4 + 3)).toNat), am_l ((Int64.ofInt ((Int64.ofInt (am_I0 e.2 (am_SP + 2) (am_w32 (x4 + 4)).toNat) <<< ((Int32.ofInt 32).toInt64 &&& 63)).toInt) ||| Int64.ofInt ((Int64.ofInt (am_I0 e.2 (am_SP + 2) (am_w32 (x4 + 5)).toNat) &&& Int64.ofInt 4294967295).toInt)).toInt), am_r 211] h (fun v2 h1 =>
    (0 ≤ am_w32 (x4 + 1) ∧ am_w32 (x4 + 1) < (e.1 : Int)) ∧ (0 ≤ am_w32 (x4 + 2) ∧ am_w32 (x4 + 2) < (e.1 : Int)) ∧ (0 ≤ am_w32 (x4 + 3) ∧ am_w32 (x4 + 3) < (e.1 : Int)) ∧ (0 ≤ am_w32 (x4 + 4) ∧ am_w32 (x4 + 4) < (e.1 : Int)) ∧ (0 ≤ am_w32 (x4 + 5) ∧ am_w32 (x4 + 5) < (e.1 : Int)) ∧ ak_MI e 2 d ρ 310 [am_r 110, am_i (am_I0 e.2 (am_SP + 2) (am_w32 (x4 + 1)).toNat), am_i (am_I0 e.2 (am_SP + 2) (am_w32 (x4 + 2)).toNat), am_i (am_I0 e.2 (am_SP + 2) (am_w32 (x4 + 3)).toNat), am_l ((Int64.ofInt ((Int64.ofInt (am_I0 e.2 (am_SP + 2) (am_w32 (x4 + 4)).toNat) <<< ((Int32.ofInt 32).toInt64 &&& 63)).toInt) ||| Int64.ofInt ((Int64.ofInt (am_I0 e.2 (am_SP + 2) (am_w32 (x4 + 5)).toNat) &&& Int64.ofInt 4294967295).toInt)).toInt)] h1 (fun v4 h3 =>
      ak_MI e 2 d ρ 197 [am_r 110] h3 (fun v6 h5 =>
        (v6 = v2 →
          (v2 ≠ 0 →
            ak_W0 e 2 d 0 ρ 23 [some (am_r ((am_SP + 2))), some (am_r 1), some (am_r 110), some (am_r 211), some (am_i (am_w32 (x4 + 6))), none, none, none] [] h5 (ak_qi Q X))
          ∧ (v2 = 0 →
            (0 ≤ (0 : Int) ∧ (0 : Int) < (1 : Int)) ∧ (am_lsign (h5.2.1 211 0) v4 = 0 →
              ak_W0 e 2 d 0 ρ 23 [some (am_r ((am_SP + 2))), some (am_r 1), some (am_r 110), some (am_r 211), some (am_i (am_w32 (x4 + 6))), none, none, none] [] h5 (ak_qi Q X))
            ∧ (am_lsign (h5.2.1 211 0) v4 ≠ 0 →
              ((0 : Int) = 0 ∨ (0 : Int) = 1) ∧ Q 0 h5)))
        ∧ (v6 ≠ v2 →
          ((0 : Int) = 0 ∨ (0 : Int) = 1) ∧ Q 0 h5)) (fun _ _ => False)) (fun _ _ => False)) (fun _ _ => False)) :
  ak_W0 e 2 d 0 ρ 816 [some (am_r ((am_SP + 2))), some (am_r 1), some (am_r 110), some (am_r 211), some (am_i x4), none, none, none] [] h (ak_qi Q X) := ak_k_ok am_cc0 400 [(23, [true, true, true, true, true, false, false, false]), (160, [true, true, true, true, true, false, false, false]), (264, [true, true, true, true, true, false, false, false]), (300, [true, true, true, true, true, false, false, false]), (313, [true, true, true, true, true, false, false, false]), (349, [true, true, true, true, true, false, false, false]), (360, [true, true, true, true, true, false, false, false]), (504, [true, true, true, true, true, false, false, false]), (559, [true, true, true, true, true, false, false, false]), (626, [true, true, true, true, true, false, false, false]), (693, [true, true, true, true, true, false, false, false]), (760, [true, true, true, true, true, false, false, false]), (816, [true, true, true, true, true, false, false, false]), (940, [true, true, true, true, true, false, false, false]), (996, [true, true, true, true, true, false, false, false]), (1064, [true, true, true, true, true, false, false, false]), (1120, [true, true, true, true, true, false, false, false]), (1188, [true, true, true, true, true, false, false, false]), (1268, [true, true, true, true, true, false, false, false]), (1347, [true, true, true, true, true, false, false, false]), (1415, [true, true, true, true, true, false, false, false]), (1495, [true, true, true, true, true, false, false, false]), (1563, [true, true, true, true, true, false, false, false]), (1643, [true, true, true, true, true, false, false, false]), (1730, [true, true, true, true, true, false, false, false]), (1774, [true, true, true, true, true, false, false, false]), (1842, [true, true, true, true, true, false, false, false])] w
set_option maxRecDepth 100000 in
theorem am_k0_940 {e : ak_X3} {d : Nat} {ρ : List Nat} {h : ak_S} {Q : Int → ak_S → Prop} {X : Nat → ak_S → Prop} {x4 : Int} (w :
  (0 ≤ am_w32 (x4 + 1) ∧ am_w32 (x4 + 1) < (e.1 : Int)) ∧ ak_MI e 2 d ρ 337 [am_r 1, am_i (am_I0 e.2 (am_SP + 2) (am_w32 (x4 + 1)).toNat), am_r 211] h (fun v2 h1 =>
    (0 ≤ am_w32 (x4 + 1) ∧ am_w32 (x4 + 1) < (e.1 : Int)) ∧ ak_MI e 2 d ρ 311 [am_r 110, am_i (am_I0 e.2 (am_SP + 2) (am_w32 (x4 + 1)).toNat)] h1 (fun v4 h3 =>
      ak_MI e 2 d ρ 197 [am_r 110] h3 (fun v6 h5 =>
        (v6 = v2 →
          (v2 ≠ 0 →
            ak_W0 e 2 d 0 ρ 23 [some (am_r ((am_SP + 2))), some (am_r 1), some (am_r 110), some (am_r 211), some (am_i (am_w32 (x4 + 6))), none, none, none] [] h5 (ak_qi Q X))
          ∧ (v2 = 0 →
            (0 ≤ (0 : Int) ∧ (0 : Int) < (1 : Int)) ∧ (am_lsign (h5.2.1 211 0) v4 = 0 →
              ak_W0 e 2 d 0 ρ 23 [some (am_r ((am_SP + 2))), some (am_r 1), some (am_r 110), some (am_r 211), some (am_i (am_w32 (x4 + 6))), none, none, none] [] h5 (ak_qi Q X))
            ∧ (am_lsign (h5.2.1 211 0) v4 ≠ 0 →
              ((0 : Int) = 0 ∨ (0 : Int) = 1) ∧ Q 0 h5)))
        ∧ (v6 ≠ v2 →
          ((0 : Int) = 0 ∨ (0 : Int) = 1) ∧ Q 0 h5)) (fun _ _ => False)) (fun _ _ => False)) (fun _ _ => False)) :
  ak_W0 e 2 d 0 ρ 940 [some (am_r ((am_SP + 2))), some (am_r 1), some (am_r 110), some (am_r 211), some (am_i x4), none, none, none] [] h (ak_qi Q X) := ak_k_ok am_cc0 400 [(23, [true, true, true, true, true, false, false, false]), (160, [true, true, true, true, true, false, false, false]), (264, [true, true, true, true, true, false, false, false]), (300, [true, true, true, true, true, false, false, false]), (313, [true, true, true, true, true, false, false, false]), (349, [true, true, true, true, true, false, false, false]), (360, [true, true, true, true, true, false, false, false]), (504, [true, true, true, true, true, false, false, false]), (559, [true, true, true, true, true, false, false, false]), (626, [true, true, true, true, true, false, false, false]), (693, [true, true, true, true, true, false, false, false]), (760, [true, true, true, true, true, false, false, false]), (816, [true, true, true, true, true, false, false, false]), (940, [true, true, true, true, true, false, false, false]), (996, [true, true, true, true, true, false, false, false]), (1064, [true, true, true, true, true, false, false, false]), (1120, [true, true, true, true, true, false, false, false]), (1188, [true, true, true, true, true, false, false, false]), (1268, [true, true, true, true, true, false, false, false]), (1347, [true, true, true, true, true, false, false, false]), (1415, [true, true, true, true, true, false, false, false]), (1495, [true, true, true, true, true, false, false, false]), (1563, [true, true, true, true, true, false, false, false]), (1643, [true, true, true, true, true, false, false, false]), (1730, [true, true, true, true, true, false, false, false]), (1774, [true, true, true, true, true, false, false, false]), (1842, [true, true, true, true, true, false, false, false])] w
set_option maxRecDepth 100000 in
theorem am_k0_996 {e : ak_X3} {d : Nat} {ρ : List Nat} {h : ak_S} {Q : Int → ak_S → Prop} {X : Nat → ak_S → Prop} {x4 : Int} (w :
  (0 ≤ am_w32 (x4 + 1) ∧ am_w32 (x4 + 1) < (e.1 : Int)) ∧ (0 ≤ am_w32 (x4 + 2) ∧ am_w32 (x4 + 2) < (e.1 : Int)) ∧ ak_MI e 2 d ρ 338 [am_r 1, am_i (am_I0 e.2 (am_SP + 2) (am_w32 (x4 + 1)).toNat), am_i (am_I0 e.2 (am_SP + 2) (am_w32 (x4 + 2)).toNat), am_r 211] h (fun v2 h1 =>
    (0 ≤ am_w32 (x4 + 1) ∧ am_w32 (x4 + 1) < (e.1 : Int)) ∧ (0 ≤ am_w32 (x4 + 2) ∧ am_w32 (x4 + 2) < (e.1 : Int)) ∧ ak_MI e 2 d ρ 312 [am_r 110, am_i (am_I0 e.2 (am_SP + 2) (am_w32 (x4 + 1)).toNat), am_i (am_I0 e.2 (am_SP + 2) (am_w32 (x4 + 2)).toNat)] h1 (fun v4 h3 =>
      ak_MI e 2 d ρ 197 [am_r 110] h3 (fun v6 h5 =>
        (v6 = v2 →
          (v2 ≠ 0 →
            ak_W0 e 2 d 0 ρ 23 [some (am_r ((am_SP + 2))), some (am_r 1), some (am_r 110), some (am_r 211), some (am_i (am_w32 (x4 + 6))), none, none, none] [] h5 (ak_qi Q X))
          ∧ (v2 = 0 →
            (0 ≤ (0 : Int) ∧ (0 : Int) < (1 : Int)) ∧ (am_lsign (h5.2.1 211 0) v4 = 0 →
              ak_W0 e 2 d 0 ρ 23 [some (am_r ((am_SP + 2))), some (am_r 1), some (am_r 110), some (am_r 211), some (am_i (am_w32 (x4 + 6))), none, none, none] [] h5 (ak_qi Q X))
            ∧ (am_lsign (h5.2.1 211 0) v4 ≠ 0 →
              ((0 : Int) = 0 ∨ (0 : Int) = 1) ∧ Q 0 h5)))
        ∧ (v6 ≠ v2 →
          ((0 : Int) = 0 ∨ (0 : Int) = 1) ∧ Q 0 h5)) (fun _ _ => False)) (fun _ _ => False)) (fun _ _ => False)) :
  ak_W0 e 2 d 0 ρ 996 [some (am_r ((am_SP + 2))), some (am_r 1), some (am_r 110), some (am_r 211), some (am_i x4), none, none, none] [] h (ak_qi Q X) := ak_k_ok am_cc0 400 [(23, [true, true, true, true, true, false, false, false]), (160, [true, true, true, true, true, false, false, false]), (264, [true, true, true, true, true, false, false, false]), (300, [true, true, true, true, true, false, false, false]), (313, [true, true, true, true, true, false, false, false]), (349, [true, true, true, true, true, false, false, false]), (360, [true, true, true, true, true, false, false, false]), (504, [true, true, true, true, true, false, false, false]), (559, [true, true, true, true, true, false, false, false]), (626, [true, true, true, true, true, false, false, false]), (693, [true, true, true, true, true, false, false, false]), (760, [true, true, true, true, true, false, false, false]), (816, [true, true, true, true, true, false, false, false]), (940, [true, true, true, true, true, false, false, false]), (996, [true, true, true, true, true, false, false, false]), (1064, [true, true, true, true, true, false, false, false]), (1120, [true, true, true, true, true, false, false, false]), (1188, [true, true, true, true, true, false, false, false]), (1268, [true, true, true, true, true, false, false, false]), (1347, [true, true, true, true, true, false, false, false]), (1415, [true, true, true, true, true, false, false, false]), (1495, [true, true, true, true, true, false, false, false]), (1563, [true, true, true, true, true, false, false, false]), (1643, [true, true, true, true, true, false, false, false]), (1730, [true, true, true, true, true, false, false, false]), (1774, [true, true, true, true, true, false, false, false]), (1842, [true, true, true, true, true, false, false, false])] w
set_option maxRecDepth 100000 in
theorem am_k0_1064 {e : ak_X3} {d : Nat} {ρ : List Nat} {h : ak_S} {Q : Int → ak_S → Prop} {X : Nat → ak_S → Prop} {x4 : Int} (w :
  (0 ≤ am_w32 (x4 + 1) ∧ am_w32 (x4 + 1) < (e.1 : Int)) ∧ ak_MI e 2 d ρ 339 [am_r 1, am_i (am_I0 e.2 (am_SP + 2) (am_w32 (x4 + 1)).toNat), am_r 211] h (fun v2 h1 =>
    (0 ≤ am_w32 (x4 + 1) ∧ am_w32 (x4 + 1) < (e.1 : Int)) ∧ ak_MI e 2 d ρ 313 [am_r 110, am_i (am_I0 e.2 (am_SP + 2) (am_w32 (x4 + 1)).toNat)] h1 (fun v4 h3 =>
      ak_MI e 2 d ρ 197 [am_r 110] h3 (fun v6 h5 =>
        (v6 = v2 →
          (v2 ≠ 0 →
            ak_W0 e 2 d 0 ρ 23 [some (am_r ((am_SP + 2))), some (am_r 1), some (am_r 110), some (am_r 211), some (am_i (am_w32 (x4 + 6))), none, none, none] [] h5 (ak_qi Q X))
          ∧ (v2 = 0 →
            (0 ≤ (0 : Int) ∧ (0 : Int) < (1 : Int)) ∧ (am_lsign (h5.2.1 211 0) v4 = 0 →
              ak_W0 e 2 d 0 ρ 23 [some (am_r ((am_SP + 2))), some (am_r 1), some (am_r 110), some (am_r 211), some (am_i (am_w32 (x4 + 6))), none, none, none] [] h5 (ak_qi Q X))
            ∧ (am_lsign (h5.2.1 211 0) v4 ≠ 0 →
              ((0 : Int) = 0 ∨ (0 : Int) = 1) ∧ Q 0 h5)))
        ∧ (v6 ≠ v2 →
          ((0 : Int) = 0 ∨ (0 : Int) = 1) ∧ Q 0 h5)) (fun _ _ => False)) (fun _ _ => False)) (fun _ _ => False)) :
  ak_W0 e 2 d 0 ρ 1064 [some (am_r ((am_SP + 2))), some (am_r 1), some (am_r 110), some (am_r 211), some (am_i x4), none, none, none] [] h (ak_qi Q X) := ak_k_ok am_cc0 400 [(23, [true, true, true, true, true, false, false, false]), (160, [true, true, true, true, true, false, false, false]), (264, [true, true, true, true, true, false, false, false]), (300, [true, true, true, true, true, false, false, false]), (313, [true, true, true, true, true, false, false, false]), (349, [true, true, true, true, true, false, false, false]), (360, [true, true, true, true, true, false, false, false]), (504, [true, true, true, true, true, false, false, false]), (559, [true, true, true, true, true, false, false, false]), (626, [true, true, true, true, true, false, false, false]), (693, [true, true, true, true, true, false, false, false]), (760, [true, true, true, true, true, false, false, false]), (816, [true, true, true, true, true, false, false, false]), (940, [true, true, true, true, true, false, false, false]), (996, [true, true, true, true, true, false, false, false]), (1064, [true, true, true, true, true, false, false, false]), (1120, [true, true, true, true, true, false, false, false]), (1188, [true, true, true, true, true, false, false, false]), (1268, [true, true, true, true, true, false, false, false]), (1347, [true, true, true, true, true, false, false, false]), (1415, [true, true, true, true, true, false, false, false]), (1495, [true, true, true, true, true, false, false, false]), (1563, [true, true, true, true, true, false, false, false]), (1643, [true, true, true, true, true, false, false, false]), (1730, [true, true, true, true, true, false, false, false]), (1774, [true, true, true, true, true, false, false, false]), (1842, [true, true, true, true, true, false, false, false])] w
set_option maxRecDepth 100000 in
theorem am_k0_1120 {e : ak_X3} {d : Nat} {ρ : List Nat} {h : ak_S} {Q : Int → ak_S → Prop} {X : Nat → ak_S → Prop} {x4 : Int} (w :
  (0 ≤ am_w32 (x4 + 1) ∧ am_w32 (x4 + 1) < (e.1 : Int)) ∧ (0 ≤ am_w32 (x4 + 2) ∧ am_w32 (x4 + 2) < (e.1 : Int)) ∧ ak_MI e 2 d ρ 340 [am_r 1, am_i (am_I0 e.2 (am_SP + 2) (am_w32 (x4 + 1)).toNat), am_i (am_I0 e.2 (am_SP + 2) (am_w32 (x4 + 2)).toNat), am_r 211] h (fun v2 h1 =>
    (0 ≤ am_w32 (x4 + 1) ∧ am_w32 (x4 + 1) < (e.1 : Int)) ∧ (0 ≤ am_w32 (x4 + 2) ∧ am_w32 (x4 + 2) < (e.1 : Int)) ∧ ak_MI e 2 d ρ 314 [am_r 110, am_i (am_I0 e.2 (am_SP + 2) (am_w32 (x4 + 1)).toNat), am_i (am_I0 e.2 (am_SP + 2) (am_w32 (x4 + 2)).toNat)] h1 (fun v4 h3 =>
      ak_MI e 2 d ρ 197 [am_r 110] h3 (fun v6 h5 =>
        (v6 = v2 →
          (v2 ≠ 0 →
            ak_W0 e 2 d 0 ρ 23 [some (am_r ((am_SP + 2))), some (am_r 1), some (am_r 110), some (am_r 211), some (am_i (am_w32 (x4 + 6))), none, none, none] [] h5 (ak_qi Q X))
          ∧ (v2 = 0 →
            (0 ≤ (0 : Int) ∧ (0 : Int) < (1 : Int)) ∧ (am_lsign (h5.2.1 211 0) v4 = 0 →
              ak_W0 e 2 d 0 ρ 23 [some (am_r ((am_SP + 2))), some (am_r 1), some (am_r 110), some (am_r 211), some (am_i (am_w32 (x4 + 6))), none, none, none] [] h5 (ak_qi Q X))
            ∧ (am_lsign (h5.2.1 211 0) v4 ≠ 0 →
              ((0 : Int) = 0 ∨ (0 : Int) = 1) ∧ Q 0 h5)))
        ∧ (v6 ≠ v2 →
          ((0 : Int) = 0 ∨ (0 : Int) = 1) ∧ Q 0 h5)) (fun _ _ => False)) (fun _ _ => False)) (fun _ _ => False)) :
  ak_W0 e 2 d 0 ρ 1120 [some (am_r ((am_SP + 2))), some (am_r 1), some (am_r 110), some (am_r 211), some (am_i x4), none, none, none] [] h (ak_qi Q X) := ak_k_ok am_cc0 400 [(23, [true, true, true, true, true, false, false, false]), (160, [true, true, true, true, true, false, false, false]), (264, [true, true, true, true, true, false, false, false]), (300, [true, true, true, true, true, false, false, false]), (313, [true, true, true, true, true, false, false, false]), (349, [true, true, true, true, true, false, false, false]), (360, [true, true, true, true, true, false, false, false]), (504, [true, true, true, true, true, false, false, false]), (559, [true, true, true, true, true, false, false, false]), (626, [true, true, true, true, true, false, false, false]), (693, [true, true, true, true, true, false, false, false]), (760, [true, true, true, true, true, false, false, false]), (816, [true, true, true, true, true, false, false, false]), (940, [true, true, true, true, true, false, false, false]), (996, [true, true, true, true, true, false, false, false]), (1064, [true, true, true, true, true, false, false, false]), (1120, [true, true, true, true, true, false, false, false]), (1188, [true, true, true, true, true, false, false, false]), (1268, [true, true, true, true, true, false, false, false]), (1347, [true, true, true, true, true, false, false, false]), (1415, [true, true, true, true, true, false, false, false]), (1495, [true, true, true, true, true, false, false, false]), (1563, [true, true, true, true, true, false, false, false]), (1643, [true, true, true, true, true, false, false, false]), (1730, [true, true, true, true, true, false, false, false]), (1774, [true, true, true, true, true, false, false, false]), (1842, [true, true, true, true, true, false, false, false])] w
set_option maxRecDepth 100000 in
theorem am_k0_1188 {e : ak_X3} {d : Nat} {ρ : List Nat} {h : ak_S} {Q : Int → ak_S → Prop} {X : Nat → ak_S → Prop} {x4 : Int} (w :
  (0 ≤ am_w32 (x4 + 1) ∧ am_w32 (x4 + 1) < (e.1 : Int)) ∧ (0 ≤ am_w32 (x4 + 2) ∧ am_w32 (x4 + 2) < (e.1 : Int)) ∧ (0 ≤ am_w32 (x4 + 3) ∧ am_w32 (x4 + 3) < (e.1 : Int)) ∧ ak_MI e 2 d ρ 341 [am_r 1, am_i (am_I0 e.2 (am_SP + 2) (am_w32 (x4 + 1)).toNat), am_i (am_I0 e.2 (am_SP + 2) (am_w32 (x4 + 2)).toNat), am_i (am_I0 e.2 (am_SP + 2) (am_w32 (x4 + 3)).toNat), am_r 211] h (fun v2 h1 =>
    (0 ≤ am_w32 (x4 + 1) ∧ am_w32 (x4 + 1) < (e.1 : Int)) ∧ (0 ≤ am_w32 (x4 + 2) ∧ am_w32 (x4 + 2) < (e.1 : Int)) ∧ (0 ≤ am_w32 (x4 + 3) ∧ am_w32 (x4 + 3) < (e.1 : Int)) ∧ ak_MI e 2 d ρ 315 [am_r 110, am_i (am_I0 e.2 (am_SP + 2) (am_w32 (x4 + 1)).toNat), am_i (am_I0 e.2 (am_SP + 2) (am_w32 (x4 + 2)).toNat), am_i (am_I0 e.2 (am_SP + 2) (am_w32 (x4 + 3)).toNat)] h1 (fun v4 h3 =>
      ak_MI e 2 d ρ 197 [am_r 110] h3 (fun v6 h5 =>
        (v6 = v2 →
          (v2 ≠ 0 →
            ak_W0 e 2 d 0 ρ 23 [some (am_r ((am_SP + 2))), some (am_r 1), some (am_r 110), some (am_r 211), some (am_i (am_w32 (x4 + 6))), none, none, none] [] h5 (ak_qi Q X))
          ∧ (v2 = 0 →
            (0 ≤ (0 : Int) ∧ (0 : Int) < (1 : Int)) ∧ (am_lsign (h5.2.1 211 0) v4 = 0 →
              ak_W0 e 2 d 0 ρ 23 [some (am_r ((am_SP + 2))), some (am_r 1), some (am_r 110), some (am_r 211), some (am_i (am_w32 (x4 + 6))), none, none, none] [] h5 (ak_qi Q X))
            ∧ (am_lsign (h5.2.1 211 0) v4 ≠ 0 →
              ((0 : Int) = 0 ∨ (0 : Int) = 1) ∧ Q 0 h5)))
        ∧ (v6 ≠ v2 →
          ((0 : Int) = 0 ∨ (0 : Int) = 1) ∧ Q 0 h5)) (fun _ _ => False)) (fun _ _ => False)) (fun _ _ => False)) :
  ak_W0 e 2 d 0 ρ 1188 [some (am_r ((am_SP + 2))), some (am_r 1), some (am_r 110), some (am_r 211), some (am_i x4), none, none, none] [] h (ak_qi Q X) := ak_k_ok am_cc0 400 [(23, [true, true, true, true, true, false, false, false]), (160, [true, true, true, true, true, false, false, false]), (264, [true, true, true, true, true, false, false, false]), (300, [true, true, true, true, true, false, false, false]), (313, [true, true, true, true, true, false, false, false]), (349, [true, true, true, true, true, false, false, false]), (360, [true, true, true, true, true, false, false, false]), (504, [true, true, true, true, true, false, false, false]), (559, [true, true, true, true, true, false, false, false]), (626, [true, true, true, true, true, false, false, false]), (693, [true, true, true, true, true, false, false, false]), (760, [true, true, true, true, true, false, false, false]), (816, [true, true, true, true, true, false, false, false]), (940, [true, true, true, true, true, false, false, false]), (996, [true, true, true, true, true, false, false, false]), (1064, [true, true, true, true, true, false, false, false]), (1120, [true, true, true, true, true, false, false, false]), (1188, [true, true, true, true, true, false, false, false]), (1268, [true, true, true, true, true, false, false, false]), (1347, [true, true, true, true, true, false, false, false]), (1415, [true, true, true, true, true, false, false, false]), (1495, [true, true, true, true, true, false, false, false]), (1563, [true, true, true, true, true, false, false, false]), (1643, [true, true, true, true, true, false, false, false]), (1730, [true, true, true, true, true, false, false, false]), (1774, [true, true, true, true, true, false, false, false]), (1842, [true, true, true, true, true, false, false, false])] w
set_option maxRecDepth 100000 in
theorem am_k0_1268 {e : ak_X3} {d : Nat} {ρ : List Nat} {h : ak_S} {Q : Int → ak_S → Prop} {X : Nat → ak_S → Prop} {x4 : Int} (w :
  (0 ≤ am_w32 (x4 + 1) ∧ am_w32 (x4 + 1) < (e.1 : Int)) ∧ (0 ≤ am_w32 (x4 + 2) ∧ am_w32 (x4 + 2) < (e.1 : Int)) ∧ (0 ≤ am_w32 (x4 + 3) ∧ am_w32 (x4 + 3) < (e.1 : Int)) ∧ ak_MI e 2 d ρ 342 [am_r 1, am_i (am_I0 e.2 (am_SP + 2) (am_w32 (x4 + 1)).toNat), am_i (am_I0 e.2 (am_SP + 2) (am_w32 (x4 + 2)).toNat), am_i (am_I0 e.2 (am_SP + 2) (am_w32 (x4 + 3)).toNat), am_r 211] h (fun v2 h1 =>
    (0 ≤ am_w32 (x4 + 1) ∧ am_w32 (x4 + 1) < (e.1 : Int)) ∧ (0 ≤ am_w32 (x4 + 2) ∧ am_w32 (x4 + 2) < (e.1 : Int)) ∧ (0 ≤ am_w32 (x4 + 3) ∧ am_w32 (x4 + 3) < (e.1 : Int)) ∧ ak_MJ e 2 d ρ 316 [am_r 110, am_i (am_I0 e.2 (am_SP + 2) (am_w32 (x4 + 1)).toNat), am_i (am_I0 e.2 (am_SP + 2) (am_w32 (x4 + 2)).toNat), am_i (am_I0 e.2 (am_SP + 2) (am_w32 (x4 + 3)).toNat)] h1 (fun v4 h3 =>
      ak_MI e 2 d ρ 197 [am_r 110] h3 (fun v6 h5 =>
        (v6 = v2 →
          (v2 ≠ 0 →
            ak_W0 e 2 d 0 ρ 23 [some (am_r ((am_SP + 2))), some (am_r 1), some (am_r 110), some (am_r 211), some (am_i (am_w32 (x4 + 6))), none, none, none] [] h5 (ak_qi Q X))
          ∧ (v2 = 0 →
            (0 ≤ (0 : Int) ∧ (0 : Int) < (1 : Int)) ∧ (am_lsign (h5.2.1 211 0) v4 = 0 →
              ak_W0 e 2 d 0 ρ 23 [some (am_r ((am_SP + 2))), some (am_r 1), some (am_r 110), some (am_r 211), some (am_i (am_w32 (x4 + 6))), none, none, none] [] h5 (ak_qi Q X))
            ∧ (am_lsign (h5.2.1 211 0) v4 ≠ 0 →
              ((0 : Int) = 0 ∨ (0 : Int) = 1) ∧ Q 0 h5)))
        ∧ (v6 ≠ v2 →
          ((0 : Int) = 0 ∨ (0 : Int) = 1) ∧ Q 0 h5)) (fun _ _ => False)) (fun _ _ => False)) (fun _ _ => False)) :
  ak_W0 e 2 d 0 ρ 1268 [some (am_r ((am_SP + 2))), some (am_r 1), some (am_r 110), some (am_r 211), some (am_i x4), none, none, none] [] h (ak_qi Q X) := ak_k_ok am_cc0 400 [(23, [true, true, true, true, true, false, false, false]), (160, [true, true, true, true, true, false, false, false]), (264, [true, true, true, true, true, false, false, false]), (300, [true, true, true, true, true, false, false, false]), (313, [true, true, true, true, true, false, false, false]), (349, [true, true, true, true, true, false, false, false]), (360, [true, true, true, true, true, false, false, false]), (504, [true, true, true, true, true, false, false, false]), (559, [true, true, true, true, true, false, false, false]), (626, [true, true, true, true, true, false, false, false]), (693, [true, true, true, true, true, false, false, false]), (760, [true, true, true, true, true, false, false, false]), (816, [true, true, true, true, true, false, false, false]), (940, [true, true, true, true, true, false, false, false]), (996, [true, true, true, true, true, false, false, false]), (1064, [true, true, true, true, true, false, false, false]), (1120, [true, true, true, true, true, false, false, false]), (1188, [true, true, true, true, true, false, false, false]), (1268, [true, true, true, true, true, false, false, false]), (1347, [true, true, true, true, true, false, false, false]), (1415, [true, true, true, true, true, false, false, false]), (1495, [true, true, true, true, true, false, false, false]), (1563, [true, true, true, true, true, false, false, false]), (1643, [true, true, true, true, true, false, false, false]), (1730, [true, true, true, true, true, false, false, false]), (1774, [true, true, true, true, true, false, false, false]), (1842, [true, true, true, true, true, false, false, false])] w
set_option maxRecDepth 100000 in
theorem am_k0_1347 {e : ak_X3} {d : Nat} {ρ : List Nat} {h : ak_S} {Q : Int → ak_S → Prop} {X : Nat → ak_S → Prop} {x4 : Int} (w :
  (0 ≤ am_w32 (x4 + 1) ∧ am_w32 (x4 + 1) < (e.1 : Int)) ∧ (0 ≤ am_w32 (x4 + 2) ∧ am_w32 (x4 + 2) < (e.1 : Int)) ∧ ak_MI e 2 d ρ 343 [am_r 1, am_i (am_I0 e.2 (am_SP + 2) (am_w32 (x4 + 1)).toNat), am_i (am_I0 e.2 (am_SP + 2) (am_w32 (x4 + 2)).toNat), am_r 211] h (fun v2 h1 =>
    (0 ≤ am_w32 (x4 + 1) ∧ am_w32 (x4 + 1) < (e.1 : Int)) ∧ (0 ≤ am_w32 (x4 + 2) ∧ am_w32 (x4 + 2) < (e.1 : Int)) ∧ ak_MI e 2 d ρ 317 [am_r 110, am_i (am_I0 e.2 (am_SP + 2) (am_w32 (x4 + 1)).toNat), am_i (am_I0 e.2 (am_SP + 2) (am_w32 (x4 + 2)).toNat)] h1 (fun v4 h3 =>
      ak_MI e 2 d ρ 197 [am_r 110] h3 (fun v6 h5 =>
        (v6 = v2 →
          (v2 ≠ 0 →
            ak_W0 e 2 d 0 ρ 23 [some (am_r ((am_SP + 2))), some (am_r 1), some (am_r 110), some (am_r 211), some (am_i (am_w32 (x4 + 6))), none, none, none] [] h5 (ak_qi Q X))
          ∧ (v2 = 0 →
            (0 ≤ (0 : Int) ∧ (0 : Int) < (1 : Int)) ∧ (am_lsign (h5.2.1 211 0) v4 = 0 →
              ak_W0 e 2 d 0 ρ 23 [some (am_r ((am_SP + 2))), some (am_r 1), some (am_r 110), some (am_r 211), some (am_i (am_w32 (x4 + 6))), none, none, none] [] h5 (ak_qi Q X))
            ∧ (am_lsign (h5.2.1 211 0) v4 ≠ 0 →
              ((0 : Int) = 0 ∨ (0 : Int) = 1) ∧ Q 0 h5)))
        ∧ (v6 ≠ v2 →
          ((0 : Int) = 0 ∨ (0 : Int) = 1) ∧ Q 0 h5)) (fun _ _ => False)) (fun _ _ => False)) (fun _ _ => False)) :
  ak_W0 e 2 d 0 ρ 1347 [some (am_r ((am_SP + 2))), some (am_r 1), some (am_r 110), some (am_r 211), some (am_i x4), none, none, none] [] h (ak_qi Q X) := ak_k_ok am_cc0 400 [(23, [true, true, true, true, true, false, false, false]), (160, [true, true, true, true, true, false, false, false]), (264, [true, true, true, true, true, false, false, false]), (300, [true, true, true, true, true, false, false, false]), (313, [true, true, true, true, true, false, false, false]), (349, [true, true, true, true, true, false, false, false]), (360, [true, true, true, true, true, false, false, false]), (504, [true, true, true, true, true, false, false, false]), (559, [true, true, true, true, true, false, false, false]), (626, [true, true, true, true, true, false, false, false]), (693, [true, true, true, true, true, false, false, false]), (760, [true, true, true, true, true, false, false, false]), (816, [true, true, true, true, true, false, false, false]), (940, [true, true, true, true, true, false, false, false]), (996, [true, true, true, true, true, false, false, false]), (1064, [true, true, true, true, true, false, false, false]), (1120, [true, true, true, true, true, false, false, false]), (1188, [true, true, true, true, true, false, false, false]), (1268, [true, true, true, true, true, false, false, false]), (1347, [true, true, true, true, true, false, false, false]), (1415, [true, true, true, true, true, false, false, false]), (1495, [true, true, true, true, true, false, false, false]), (1563, [true, true, true, true, true, false, false, false]), (1643, [true, true, true, true, true, false, false, false]), (1730, [true, true, true, true, true, false, false, false]), (1774, [true, true, true, true, true, false, false, false]), (1842, [true, true, true, true, true, false, false, false])] w
set_option maxRecDepth 100000 in
theorem am_k0_1415 {e : ak_X3} {d : Nat} {ρ : List Nat} {h : ak_S} {Q : Int → ak_S → Prop} {X : Nat → ak_S → Prop} {x4 : Int} (w :
  (0 ≤ am_w32 (x4 + 1) ∧ am_w32 (x4 + 1) < (e.1 : Int)) ∧ (0 ≤ am_w32 (x4 + 2) ∧ am_w32 (x4 + 2) < (e.1 : Int)) ∧ (0 ≤ am_w32 (x4 + 3) ∧ am_w32 (x4 + 3) < (e.1 : Int)) ∧ ak_MI e 2 d ρ 344 [am_r 1, am_i (am_I0 e.2 (am_SP + 2) (am_w32 (x4 + 1)).toNat), am_i (am_I0 e.2 (am_SP + 2) (am_w32 (x4 + 2)).toNat), am_i (am_I0 e.2 (am_SP + 2) (am_w32 (x4 + 3)).toNat), am_r 211] h (fun v2 h1 =>
    (0 ≤ am_w32 (x4 + 1) ∧ am_w32 (x4 + 1) < (e.1 : Int)) ∧ (0 ≤ am_w32 (x4 + 2) ∧ am_w32 (x4 + 2) < (e.1 : Int)) ∧ (0 ≤ am_w32 (x4 + 3) ∧ am_w32 (x4 + 3) < (e.1 : Int)) ∧ ak_MI e 2 d ρ 318 [am_r 110, am_i (am_I0 e.2 (am_SP + 2) (am_w32 (x4 + 1)).toNat), am_i (am_I0 e.2 (am_SP + 2) (am_w32 (x4 + 2)).toNat), am_i (am_I0 e.2 (am_SP + 2) (am_w32 (x4 + 3)).toNat)] h1 (fun v4 h3 =>
      ak_MI e 2 d ρ 197 [am_r 110] h3 (fun v6 h5 =>
        (v6 = v2 →
          (v2 ≠ 0 →
            ak_W0 e 2 d 0 ρ 23 [some (am_r ((am_SP + 2))), some (am_r 1), some (am_r 110), some (am_r 211), some (am_i (am_w32 (x4 + 6))), none, none, none] [] h5 (ak_qi Q X))
          ∧ (v2 = 0 →
            (0 ≤ (0 : Int) ∧ (0 : Int) < (1 : Int)) ∧ (am_lsign (h5.2.1 211 0) v4 = 0 →
              ak_W0 e 2 d 0 ρ 23 [some (am_r ((am_SP + 2))), some (am_r 1), some (am_r 110), some (am_r 211), some (am_i (am_w32 (x4 + 6))), none, none, none] [] h5 (ak_qi Q X))
            ∧ (am_lsign (h5.2.1 211 0) v4 ≠ 0 →
              ((0 : Int) = 0 ∨ (0 : Int) = 1) ∧ Q 0 h5)))
        ∧ (v6 ≠ v2 →
          ((0 : Int) = 0 ∨ (0 : Int) = 1) ∧ Q 0 h5)) (fun _ _ => False)) (fun _ _ => False)) (fun _ _ => False)) :
  ak_W0 e 2 d 0 ρ 1415 [some (am_r ((am_SP + 2))), some (am_r 1), some (am_r 110), some (am_r 211), some (am_i x4), none, none, none] [] h (ak_qi Q X) := ak_k_ok am_cc0 400 [(23, [true, true, true, true, true, false, false, false]), (160, [true, true, true, true, true, false, false, false]), (264, [true, true, true, true, true, false, false, false]), (300, [true, true, true, true, true, false, false, false]), (313, [true, true, true, true, true, false, false, false]), (349, [true, true, true, true, true, false, false, false]), (360, [true, true, true, true, true, false, false, false]), (504, [true, true, true, true, true, false, false, false]), (559, [true, true, true, true, true, false, false, false]), (626, [true, true, true, true, true, false, false, false]), (693, [true, true, true, true, true, false, false, false]), (760, [true, true, true, true, true, false, false, false]), (816, [true, true, true, true, true, false, false, false]), (940, [true, true, true, true, true, false, false, false]), (996, [true, true, true, true, true, false, false, false]), (1064, [true, true, true, true, true, false, false, false]), (1120, [true, true, true, true, true, false, false, false]), (1188, [true, true, true, true, true, false, false, false]), (1268, [true, true, true, true, true, false, false, false]), (1347, [true, true, true, true, true, false, false, false]), (1415, [true, true, true, true, true, false, false, false]), (1495, [true, true, true, true, true, false, false, false]), (1563, [true, true, true, true, true, false, false, false]), (1643, [true, true, true, true, true, false, false, false]), (1730, [true, true, true, true, true, false, false, false]), (1774, [true, true, true, true, true, false, false, false]), (1842, [true, true, true, true, true, false, false, false])] w
set_option maxRecDepth 100000 in
theorem am_k0_1495 {e : ak_X3} {d : Nat} {ρ : List Nat} {h : ak_S} {Q : Int → ak_S → Prop} {X : Nat → ak_S → Prop} {x4 : Int} (w :
  (0 ≤ am_w32 (x4 + 1) ∧ am_w32 (x4 + 1) < (e.1 : Int)) ∧ (0 ≤ am_w32 (x4 + 2) ∧ am_w32 (x4 + 2) < (e.1 : Int)) ∧ ak_MI e 2 d ρ 345 [am_r 1, am_i (am_I0 e.2 (am_SP + 2) (am_w32 (x4 + 1)).toNat), am_i (am_I0 e.2 (am_SP + 2) (am_w32 (x4 + 2)).toNat), am_r 211] h (fun v2 h1 =>
    (0 ≤ am_w32 (x4 + 1) ∧ am_w32 (x4 + 1) < (e.1 : Int)) ∧ (0 ≤ am_w32 (x4 + 2) ∧ am_w32 (x4 + 2) < (e.1 : Int)) ∧ ak_MI e 2 d ρ 319 [am_r 110, am_i (am_I0 e.2 (am_SP + 2) (am_w32 (x4 + 1)).toNat), am_i (am_I0 e.2 (am_SP + 2) (am_w32 (x4 + 2)).toNat)] h1 (fun v4 h3 =>
      ak_MI e 2 d ρ 197 [am_r 110] h3 (fun v6 h5 =>
        (v6 = v2 →
          (v2 ≠ 0 →
            ak_W0 e 2 d 0 ρ 23 [some (am_r ((am_SP + 2))), some (am_r 1), some (am_r 110), some (am_r 211), some (am_i (am_w32 (x4 + 6))), none, none, none] [] h5 (ak_qi Q X))
          ∧ (v2 = 0 →
            (0 ≤ (0 : Int) ∧ (0 : Int) < (1 : Int)) ∧ (am_lsign (h5.2.1 211 0) v4 = 0 →
              ak_W0 e 2 d 0 ρ 23 [some (am_r ((am_SP + 2))), some (am_r 1), some (am_r 110), some (am_r 211), some (am_i (am_w32 (x4 + 6))), none, none, none] [] h5 (ak_qi Q X))
            ∧ (am_lsign (h5.2.1 211 0) v4 ≠ 0 →
              ((0 : Int) = 0 ∨ (0 : Int) = 1) ∧ Q 0 h5)))
        ∧ (v6 ≠ v2 →
          ((0 : Int) = 0 ∨ (0 : Int) = 1) ∧ Q 0 h5)) (fun _ _ => False)) (fun _ _ => False)) (fun _ _ => False)) :
  ak_W0 e 2 d 0 ρ 1495 [some (am_r ((am_SP + 2))), some (am_r 1), some (am_r 110), some (am_r 211), some (am_i x4), none, none, none] [] h (ak_qi Q X) := ak_k_ok am_cc0 400 [(23, [true, true, true, true, true, false, false, false]), (160, [true, true, true, true, true, false, false, false]), (264, [true, true, true, true, true, false, false, false]), (300, [true, true, true, true, true, false, false, false]), (313, [true, true, true, true, true, false, false, false]), (349, [true, true, true, true, true, false, false, false]), (360, [true, true, true, true, true, false, false, false]), (504, [true, true, true, true, true, false, false, false]), (559, [true, true, true, true, true, false, false, false]), (626, [true, true, true, true, true, false, false, false]), (693, [true, true, true, true, true, false, false, false]), (760, [true, true, true, true, true, false, false, false]), (816, [true, true, true, true, true, false, false, false]), (940, [true, true, true, true, true, false, false, false]), (996, [true, true, true, true, true, false, false, false]), (1064, [true, true, true, true, true, false, false, false]), (1120, [true, true, true, true, true, false, false, false]), (1188, [true, true, true, true, true, false, false, false]), (1268, [true, true, true, true, true, false, false, false]), (1347, [true, true, true, true, true, false, false, false]), (1415, [true, true, true, true, true, false, false, false]), (1495, [true, true, true, true, true, false, false, false]), (1563, [true, true, true, true, true, false, false, false]), (1643, [true, true, true, true, true, false, false, false]), (1730, [true, true, true, true, true, false, false, false]), (1774, [true, true, true, true, true, false, false, false]), (1842, [true, true, true, true, true, false, false, false])] w
set_option maxRecDepth 100000 in
theorem am_k0_1563 {e : ak_X3} {d : Nat} {ρ : List Nat} {h : ak_S} {Q : Int → ak_S → Prop} {X : Nat → ak_S → Prop} {x4 : Int} (w :
  (0 ≤ am_w32 (x4 + 1) ∧ am_w32 (x4 + 1) < (e.1 : Int)) ∧ (0 ≤ am_w32 (x4 + 2) ∧ am_w32 (x4 + 2) < (e.1 : Int)) ∧ (0 ≤ am_w32 (x4 + 3) ∧ am_w32 (x4 + 3) < (e.1 : Int)) ∧ ak_MI e 2 d ρ 346 [am_r 1, am_i (am_I0 e.2 (am_SP + 2) (am_w32 (x4 + 1)).toNat), am_i (am_I0 e.2 (am_SP + 2) (am_w32 (x4 + 2)).toNat), am_i (am_I0 e.2 (am_SP + 2) (am_w32 (x4 + 3)).toNat), am_r 211] h (fun v2 h1 =>
    (0 ≤ am_w32 (x4 + 1) ∧ am_w32 (x4 + 1) < (e.1 : Int)) ∧ (0 ≤ am_w32 (x4 + 2) ∧ am_w32 (x4 + 2) < (e.1 : Int)) ∧ (0 ≤ am_w32 (x4 + 3) ∧ am_w32 (x4 + 3) < (e.1 : Int)) ∧ ak_MI e 2 d ρ 321 [am_r 110, am_i (am_I0 e.2 (am_SP + 2) (am_w32 (x4 + 1)).toNat), am_i (am_I0 e.2 (am_SP + 2) (am_w32 (x4 + 2)).toNat), am_i (am_I0 e.2 (am_SP + 2) (am_w32 (x4 + 3)).toNat)] h1 (fun v4 h3 =>
      ak_MI e 2 d ρ 197 [am_r 110] h3 (fun v6 h5 =>
        (v6 = v2 →
          (v2 ≠ 0 →
            ak_W0 e 2 d 0 ρ 23 [some (am_r ((am_SP + 2))), some (am_r 1), some (am_r 110), some (am_r 211), some (am_i (am_w32 (x4 + 6))), none, none, none] [] h5 (ak_qi Q X))
          ∧ (v2 = 0 →
            (0 ≤ (0 : Int) ∧ (0 : Int) < (1 : Int)) ∧ (am_lsign (h5.2.1 211 0) v4 = 0 →
              ak_W0 e 2 d 0 ρ 23 [some (am_r ((am_SP + 2))), some (am_r 1), some (am_r 110), some (am_r 211), some (am_i (am_w32 (x4 + 6))), none, none, none] [] h5 (ak_qi Q X))
            ∧ (am_lsign (h5.2.1 211 0) v4 ≠ 0 →
              ((0 : Int) = 0 ∨ (0 : Int) = 1) ∧ Q 0 h5)))
        ∧ (v6 ≠ v2 →
          ((0 : Int) = 0 ∨ (0 : Int) = 1) ∧ Q 0 h5)) (fun _ _ => False)) (fun _ _ => False)) (fun _ _ => False)) :
  ak_W0 e 2 d 0 ρ 1563 [some (am_r ((am_SP + 2))), some (am_r 1), some (am_r 110), some (am_r 211), some (am_i x4), none, none, none] [] h (ak_qi Q X) := ak_k_ok am_cc0 400 [(23, [true, true, true, true, true, false, false, false]), (160, [true, true, true, true, true, false, false, false]), (264, [true, true, true, true, true, false, false, false]), (300, [true, true, true, true, true, false, false, false]), (313, [true, true, true, true, true, false, false, false]), (349, [true, true, true, true, true, false, false, false]), (360, [true, true, true, true, true, false, false, false]), (504, [true, true, true, true, true, false, false, false]), (559, [true, true, true, true, true, false, false, false]), (626, [true, true, true, true, true, false, false, false]), (693, [true, true, true, true, true, false, false, false]), (760, [true, true, true, true, true, false, false, false]), (816, [true, true, true, true, true, false, false, false]), (940, [true, true, true, true, true, false, false, false]), (996, [true, true, true, true, true, false, false, false]), (1064, [true, true, true, true, true, false, false, false]), (1120, [true, true, true, true, true, false, false, false]), (1188, [true, true, true, true, true, false, false, false]), (1268, [true, true, true, true, true, false, false, false]), (1347, [true, true, true, true, true, false, false, false]), (1415, [true, true, true, true, true, false, false, false]), (1495, [true, true, true, true, true, false, false, false]), (1563, [true, true, true, true, true, false, false, false]), (1643, [true, true, true, true, true, false, false, false]), (1730, [true, true, true, true, true, false, false, false]), (1774, [true, true, true, true, true, false, false, false]), (1842, [true, true, true, true, true, false, false, false])] w
set_option maxRecDepth 100000 in
theorem am_k0_1643 {e : ak_X3} {d : Nat} {ρ : List Nat} {h : ak_S} {Q : Int → ak_S → Prop} {X : Nat → ak_S → Prop} {x4 : Int} (w :
  (0 ≤ am_w32 (x4 + 1) ∧ am_w32 (x4 + 1) < (e.1 : Int)) ∧ (0 ≤ am_w32 (x4 + 2) ∧ am_w32 (x4 + 2) < (e.1 : Int)) ∧ (0 ≤ am_w32 (x4 + 3) ∧ am_w32 (x4 + 3) < (e.1 : Int)) ∧ ak_MI e 2 d ρ 347 [am_r 1, am_i (am_I0 e.2 (am_SP + 2) (am_w32 (x4 + 1)).toNat), am_i (am_I0 e.2 (am_SP + 2) (am_w32 (x4 + 2)).toNat), am_i (am_I0 e.2 (am_SP + 2) (am_w32 (x4 + 3)).toNat), am_r 211] h (fun v2 h1 =>
    (0 ≤ am_w32 (x4 + 1) ∧ am_w32 (x4 + 1) < (e.1 : Int)) ∧ (0 ≤ am_w32 (x4 + 2) ∧ am_w32 (x4 + 2) < (e.1 : Int)) ∧ (0 ≤ am_w32 (x4 + 3) ∧ am_w32 (x4 + 3) < (e.1 : Int)) ∧ ak_MI e 2 d ρ 322 [am_r 110, am_i (am_I0 e.2 (am_SP + 2) (am_w32 (x4 + 1)).toNat), am_i (am_I0 e.2 (am_SP + 2) (am_w32 (x4 + 2)).toNat), am_i (am_I0 e.2 (am_SP + 2) (am_w32 (x4 + 3)).toNat)] h1 (fun v4 h3 =>
      ak_MI e 2 d ρ 197 [am_r 110] h3 (fun v6 h5 =>
        (v6 = v2 →
          (v2 ≠ 0 →
            ak_W0 e 2 d 0 ρ 23 [some (am_r ((am_SP + 2))), some (am_r 1), some (am_r 110), some (am_r 211), some (am_i (am_w32 (x4 + 6))), none, none, none] [] h5 (ak_qi Q X))
          ∧ (v2 = 0 →
            (0 ≤ (0 : Int) ∧ (0 : Int) < (1 : Int)) ∧ (v4 = 0 →
              (am_lsign (h5.2.1 211 0) 0 = 0 →
                ak_W0 e 2 d 0 ρ 23 [some (am_r ((am_SP + 2))), some (am_r 1), some (am_r 110), some (am_r 211), some (am_i (am_w32 (x4 + 6))), none, none, none] [] h5 (ak_qi Q X))
              ∧ (am_lsign (h5.2.1 211 0) 0 ≠ 0 →
                ((0 : Int) = 0 ∨ (0 : Int) = 1) ∧ Q 0 h5))
            ∧ (v4 ≠ 0 →
              (am_lsign (h5.2.1 211 0) 1 = 0 →
                ak_W0 e 2 d 0 ρ 23 [some (am_r ((am_SP + 2))), some (am_r 1), some (am_r 110), some (am_r 211), some (am_i (am_w32 (x4 + 6))), none, none, none] [] h5 (ak_qi Q X))
              ∧ (am_lsign (h5.2.1 211 0) 1 ≠ 0 →
                ((0 : Int) = 0 ∨ (0 : Int) = 1) ∧ Q 0 h5))))
        ∧ (v6 ≠ v2 →
          ((0 : Int) = 0 ∨ (0 : Int) = 1) ∧ Q 0 h5)) (fun _ _ => False)) (fun _ _ => False)) (fun _ _ => False)) :
  ak_W0 e 2 d 0 ρ 1643 [some (am_r ((am_SP + 2))), some (am_r 1), some (am_r 110), some (am_r 211), some (am_i x4), none, none, none] [] h (ak_qi Q X) := ak_k_ok am_cc0 400 [(23, [true, true, true, true, true, false, false, false]), (160, [true, true, true, true, true, false, false, false]), (264, [true, true, true, true, true, false, false, false]), (300, [true, true, true, true, true, false, false, false]), (313, [true, true, true, true, true, false, false, false]), (349, [true, true, true, true, true, false, false, false]), (360, [true, true, true, true, true, false, false, false]), (504, [true, true, true, true, true, false, false, false]), (559, [true, true, true, true, true, false, false, false]), (626, [true, true, true, true, true, false, false, false]), (693, [true, true, true, true, true, false, false, false]), (760, [true, true, true, true, true, false, false, false]), (816, [true, true, true, true, true, false, false, false]), (940, [true, true, true, true, true, false, false, false]), (996, [true, true, true, true, true, false, false, false]), (1064, [true, true, true, true, true, false, false, false]), (1120, [true, true, true, true, true, false, false, false]), (1188, [true, true, true, true, true, false, false, false]), (1268, [true, true, true, true, true, false, false, false]), (1347, [true, true, true, true, true, false, false, false]), (1415, [true, true, true, true, true, false, false, false]), (1495, [true, true, true, true, true, false, false, false]), (1563, [true, true, true, true, true, false, false, false]), (1643, [true, true, true, true, true, false, false, false]), (1730, [true, true, true, true, true, false, false, false]), (1774, [true, true, true, true, true, false, false, false]), (1842, [true, true, true, true, true, false, false, false])] w
set_option maxRecDepth 100000 in
theorem am_k0_1730 {e : ak_X3} {d : Nat} {ρ : List Nat} {h : ak_S} {Q : Int → ak_S → Prop} {X : Nat → ak_S → Prop} {x4 : Int} (w :
  ak_MI e 2 d ρ 348 [am_r 1, am_r 211] h (fun v2 h1 =>
    ak_MI e 2 d ρ 323 [am_r 110] h1 (fun v4 h3 =>
      ak_MI e 2 d ρ 197 [am_r 110] h3 (fun v6 h5 =>
        (v6 = v2 →
          (v2 ≠ 0 →
            ak_W0 e 2 d 0 ρ 23 [some (am_r ((am_SP + 2))), some (am_r 1), some (am_r 110), some (am_r 211), some (am_i (am_w32 (x4 + 6))), none, none, none] [] h5 (ak_qi Q X))
          ∧ (v2 = 0 →
            (0 ≤ (0 : Int) ∧ (0 : Int) < (1 : Int)) ∧ (am_lsign (h5.2.1 211 0) v4 = 0 →
              ak_W0 e 2 d 0 ρ 23 [some (am_r ((am_SP + 2))), some (am_r 1), some (am_r 110), some (am_r 211), some (am_i (am_w32 (x4 + 6))), none, none, none] [] h5 (ak_qi Q X))
            ∧ (am_lsign (h5.2.1 211 0) v4 ≠ 0 →
              ((0 : Int) = 0 ∨ (0 : Int) = 1) ∧ Q 0 h5)))
        ∧ (v6 ≠ v2 →
          ((0 : Int) = 0 ∨ (0 : Int) = 1) ∧ Q 0 h5)) (fun _ _ => False)) (fun _ _ => False)) (fun _ _ => False)) :
  ak_W0 e 2 d 0 ρ 1730 [some (am_r ((am_SP + 2))), some (am_r 1), some (am_r 110), some (am_r 211), some (am_i x4), none, none, none] [] h (ak_qi Q X) := ak_k_ok am_cc0 400 [(23, [true, true, true, true, true, false, false, false]), (160, [true, true, true, true, true, false, false, false]), (264, [true, true, true, true, true, false, false, false]), (300, [true, true, true, true, true, false, false, false]), (313, [true, true, true, true, true, false, false, false]), (349, [true, true, true, true, true, false, false, false]), (360, [true, true, true, true, true, false, false, false]), (504, [true, true, true, true, true, false, false, false]), (559, [true, true, true, true, true, false, false, false]), (626, [true, true, true, true, true, false, false, false]), (693, [true, true, true, true, true, false, false, false]), (760, [true, true, true, true, true, false, false, false]), (816, [true, true, true, true, true, false, false, false]), (940, [true, true, true, true, true, false, false, false]), (996, [true, true, true, true, true, false, false, false]), (1064, [true, true, true, true, true, false, false, false]), (1120, [true, true, true, true, true, false, false, false]), (1188, [true, true, true, true, true, false, false, false]), (1268, [true, true, true, true, true, false, false, false]), (1347, [true, true, true, true, true, false, false, false]), (1415, [true, true, true, true, true, false, false, false]), (1495, [true, true, true, true, true, false, false, false]), (1563, [true, true, true, true, true, false, false, false]), (1643, [true, true, true, true, true, false, false, false]), (1730, [true, true, true, true, true, false, false, false]), (1774, [true, true, true, true, true, false, false, false]), (1842, [true, true, true, true, true, false, false, false])] w
set_option maxRecDepth 100000 in
theorem am_k0_1774 {e : ak_X3} {d : Nat} {ρ : List Nat} {h : ak_S} {Q : Int → ak_S → Prop} {X : Nat → ak_S → Prop} {x4 : Int} (w :
  (0 ≤ am_w32 (x4 + 1) ∧ am_w32 (x4 + 1) < (e.1 : Int)) ∧ (0 ≤ am_w32 (x4 + 2) ∧ am_w32 (x4 + 2) < (e.1 : Int)) ∧ ak_MI e 2 d ρ 349 [am_r 1, am_i (am_I0 e.2 (am_SP + 2) (am_w32 (x4 + 1)).toNat), am_i (am_I0 e.2 (am_SP + 2) (am_w32 (x4 + 2)).toNat), am_r 211] h (fun v2 h1 =>
    (0 ≤ am_w32 (x4 + 1) ∧ am_w32 (x4 + 1) < (e.1 : Int)) ∧ (0 ≤ am_w32 (x4 + 2) ∧ am_w32 (x4 + 2) < (e.1 : Int)) ∧ ak_MI e 2 d ρ 324 [am_r 110, am_i (am_I0 e.2 (am_SP + 2) (am_w32 (x4 + 1)).toNat), am_i (am_I0 e.2 (am_SP + 2) (am_w32 (x4 + 2)).toNat)] h1 (fun v4 h3 =>
      ak_MI e 2 d ρ 197 [am_r 110] h3 (fun v6 h5 =>
        (v6 = v2 →
          (v2 ≠ 0 →
            ak_W0 e 2 d 0 ρ 23 [some (am_r ((am_SP + 2))), some (am_r 1), some (am_r 110), some (am_r 211), some (am_i (am_w32 (x4 + 6))), none, none, none] [] h5 (ak_qi Q X))
          ∧ (v2 = 0 →
            (0 ≤ (0 : Int) ∧ (0 : Int) < (1 : Int)) ∧ (am_lsign (h5.2.1 211 0) v4 = 0 →
              ak_W0 e 2 d 0 ρ 23 [some (am_r ((am_SP + 2))), some (am_r 1), some (am_r 110), some (am_r 211), some (am_i (am_w32 (x4 + 6))), none, none, none] [] h5 (ak_qi Q X))
            ∧ (am_lsign (h5.2.1 211 0) v4 ≠ 0 →
              ((0 : Int) = 0 ∨ (0 : Int) = 1) ∧ Q 0 h5)))
        ∧ (v6 ≠ v2 →
          ((0 : Int) = 0 ∨ (0 : Int) = 1) ∧ Q 0 h5)) (fun _ _ => False)) (fun _ _ => False)) (fun _ _ => False)) :
  ak_W0 e 2 d 0 ρ 1774 [some (am_r ((am_SP + 2))), some (am_r 1), some (am_r 110), some (am_r 211), some (am_i x4), none, none, none] [] h (ak_qi Q X) := ak_k_ok am_cc0 400 [(23, [true, true, true, true, true, false, false, false]), (160, [true, true, true, true, true, false, false, false]), (264, [true, true, true, true, true, false, false, false]), (300, [true, true, true, true, true, false, false, false]), (313, [true, true, true, true, true, false, false, false]), (349, [true, true, true, true, true, false, false, false]), (360, [true, true, true, true, true, false, false, false]), (504, [true, true, true, true, true, false, false, false]), (559, [true, true, true, true, true, false, false, false]), (626, [true, true, true, true, true, false, false, false]), (693, [true, true, true, true, true, false, false, false]), (760, [true, true, true, true, true, false, false, false]), (816, [true, true, true, true, true, false, false, false]), (940, [true, true, true, true, true, false, false, false]), (996, [true, true, true, true, true, false, false, false]), (1064, [true, true, true, true, true, false, false, false]), (1120, [true, true, true, true, true, false, false, false]), (1188, [true, true, true, true, true, false, false, false]), (1268, [true, true, true, true, true, false, false, false]), (1347, [true, true, true, true, true, false, false, false]), (1415, [true, true, true, true, true, false, false, false]), (1495, [true, true, true, true, true, false, false, false]), (1563, [true, true, true, true, true, false, false, false]), (1643, [true, true, true, true, true, false, false, false]), (1730, [true, true, true, true, true, false, false, false]), (1774, [true, true, true, true, true, false, false, false]), (1842, [true, true, true, true, true, false, false, false])] w
set_option maxRecDepth 100000 in
theorem am_k0_1842 {e : ak_X3} {d : Nat} {ρ : List Nat} {h : ak_S} {Q : Int → ak_S → Prop} {X : Nat → ak_S → Prop} {x4 : Int} (w :
  ak_MI e 2 d ρ 350 [am_r 1, am_r 211] h (fun v2 h1 =>
    ak_MI e 2 d ρ 326 [am_r 110] h1 (fun v4 h3 =>
      ak_MI e 2 d ρ 197 [am_r 110] h3 (fun v6 h5 =>
        (v6 = v2 →
          (v2 ≠ 0 →
            ak_W0 e 2 d 0 ρ 23 [some (am_r ((am_SP + 2))), some (am_r 1), some (am_r 110), some (am_r 211), some (am_i (am_w32 (x4 + 6))), none, none, none] [] h5 (ak_qi Q X))
          ∧ (v2 = 0 →
            (0 ≤ (0 : Int) ∧ (0 : Int) < (1 : Int)) ∧ (am_lsign (h5.2.1 211 0) v4 = 0 →
              ak_W0 e 2 d 0 ρ 23 [some (am_r ((am_SP + 2))), some (am_r 1), some (am_r 110), some (am_r 211), some (am_i (am_w32 (x4 + 6))), none, none, none] [] h5 (ak_qi Q X))
            ∧ (am_lsign (h5.2.1 211 0) v4 ≠ 0 →
              ((0 : Int) = 0 ∨ (0 : Int) = 1) ∧ Q 0 h5)))
        ∧ (v6 ≠ v2 →
          ((0 : Int) = 0 ∨ (0 : Int) = 1) ∧ Q 0 h5)) (fun _ _ => False)) (fun _ _ => False)) (fun _ _ => False)) :
  ak_W0 e 2 d 0 ρ 1842 [some (am_r ((am_SP + 2))), some (am_r 1), some (am_r 110), some (am_r 211), some (am_i x4), none, none, none] [] h (ak_qi Q X) := ak_k_ok am_cc0 400 [(23, [true, true, true, true, true, false, false, false]), (160, [true, true, true, true, true, false, false, false]), (264, [true, true, true, true, true, false, false, false]), (300, [true, true, true, true, true, false, false, false]), (313, [true, true, true, true, true, false, false, false]), (349, [true, true, true, true, true, false, false, false]), (360, [true, true, true, true, true, false, false, false]), (504, [true, true, true, true, true, false, false, false]), (559, [true, true, true, true, true, false, false, false]), (626, [true, true, true, true, true, false, false, false]), (693, [true, true, true, true, true, false, false, false]), (760, [true, true, true, true, true, false, false, false]), (816, [true, true, true, true, true, false, false, false]), (940, [true, true, true, true, true, false, false, false]), (996, [true, true, true, true, true, false, false, false]), (1064, [true, true, true, true, true, false, false, false]), (1120, [true, true, true, true, true, false, false, false]), (1188, [true, true, true, true, true, false, false, false]), (1268, [true, true, true, true, true, false, false, false]), (1347, [true, true, true, true, true, false, false, false]), (1415, [true, true, true, true, true, false, false, false]), (1495, [true, true, true, true, true, false, false, false]), (1563, [true, true, true, true, true, false, false, false]), (1643, [true, true, true, true, true, false, false, false]), (1730, [true, true, true, true, true, false, false, false]), (1774, [true, true, true, true, true, false, false, false]), (1842, [true, true, true, true, true, false, false, false])] w
theorem am_cc327 : am_co am_P 327 = am_lk am_rw327 ∧ am_hl am_P 327 = [(0, 16, 19, 13, 3, 21, 7)] ∧ am_rtag (am_re am_P 327) = 1 := ⟨rfl, rfl, rfl⟩
set_option maxRecDepth 100000 in
theorem am_k327_0 {e : ak_X3} {d : Nat} {ρ : List Nat} {h : ak_S} {Q : Int → ak_S → Prop} {X : Nat → ak_S → Prop} {x1 x2 x3 x4 x5 : Int} (w :
  ak_MI e 2 d ρ 166 [am_r 1, am_i x1, am_i x2, am_i x3, am_i x4, am_i x5] h (fun v2 h1 =>
    (0 ≤ (0 : Int) ∧ (0 : Int) < (1 : Int)) ∧ Q 0 (h1.1, (am_up h1.2.1 211 0 v2), h1.2.2)) (fun x h3 => (x = 0 → X 0 h3) ∧ (x = 1 → X 1 h3) ∧ (x = 2 → X 2 h3) ∧ (x = 3 → Q 1 h3) ∧ x < 4)) :
  ak_W0 e 2 d 327 ρ 0 [some (am_r 1), some (am_i x1), some (am_i x2), some (am_i x3), some (am_i x4), some (am_i x5), some (am_r 211), none] [] h (ak_qi Q X) := ak_k_ok am_cc327 400 [] w
theorem am_cc328 : am_co am_P 328 = am_lk am_rw328 ∧ am_hl am_P 328 = [(0, 5, 8, 19, 1, 9, 2)] ∧ am_rtag (am_re am_P 328) = 1 := ⟨rfl, rfl, rfl⟩
set_option maxRecDepth 100000 in
theorem am_k328_0 {e : ak_X3} {d : Nat} {ρ : List Nat} {h : ak_S} {Q : Int → ak_S → Prop} {X : Nat → ak_S → Prop} {x1 : Int} (w :
  ak_MV e 2 d ρ 167 [am_r 1, am_i x1] h (fun h1 =>
    Q 0 h1) (fun x h2 => (x = 0 → X 0 h2) ∧ (x = 1 → Q 1 h2) ∧ (x = 2 → X 2 h2) ∧ (x = 3 → X 3 h2) ∧ x < 4)) :
  ak_W0 e 2 d 328 ρ 0 [some (am_r 1), some (am_i x1), none] [] h (ak_qi Q X) := ak_k_ok am_cc328 400 [] w
theorem am_cc329 : am_co am_P 329 = am_lk am_rw329 ∧ am_hl am_P 329 = [(0, 5, 8, 19, 1, 9, 2)] ∧ am_rtag (am_re am_P 329) = 1 := ⟨rfl, rfl, rfl⟩
set_option maxRecDepth 100000 in
theorem am_k329_0 {e : ak_X3} {d : Nat} {ρ : List Nat} {h : ak_S} {Q : Int → ak_S → Prop} {X : Nat → ak_S → Prop} {x1 : Int} (w :
  ak_MV e 2 d ρ 169 [am_r 1, am_i x1] h (fun h1 =>
    Q 0 h1) (fun x h2 => (x = 0 → X 0 h2) ∧ (x = 1 → Q 1 h2) ∧ (x = 2 → X 2 h2) ∧ (x = 3 → X 3 h2) ∧ x < 4)) :
  ak_W0 e 2 d 329 ρ 0 [some (am_r 1), some (am_i x1), none] [] h (ak_qi Q X) := ak_k_ok am_cc329 400 [] w
theorem am_cc330 : am_co am_P 330 = am_lk am_rw330 ∧ am_hl am_P 330 = [(0, 13, 16, 28, 0, 18, 7), (0, 13, 20, 19, 1, 22, 7)] ∧ am_rtag (am_re am_P 330) = 1 := ⟨rfl, rfl, rfl⟩
set_option maxRecDepth 100000 in
theorem am_k330_0 {e : ak_X3} {d : Nat} {ρ : List Nat} {h : ak_S} {Q : Int → ak_S → Prop} {X : Nat → ak_S → Prop} {x1 x2 x4 : Int} (w :
  ak_MI e 2 d ρ 171 [am_r 1, am_i x1, am_l x2, am_l x4] h (fun v2 h1 =>
    (0 ≤ (0 : Int) ∧ (0 : Int) < (1 : Int)) ∧ Q 0 (h1.1, (am_up h1.2.1 211 0 v2), h1.2.2)) (fun x h3 => (x = 0 → Q 1 h3) ∧ (x = 1 → Q 2 h3) ∧ (x = 2 → X 2 h3) ∧ (x = 3 → X 3 h3) ∧ x < 4)) :
  ak_W0 e 2 d 330 ρ 0 [some (am_r 1), some (am_i x1), some (am_l x2), none, some (am_l x4), none, some (am_r 211), none] [] h (ak_qi Q X) := ak_k_ok am_cc330 400 [] w
theorem am_cc331 : am_co am_P 331 = am_lk am_rw331 ∧ am_hl am_P 331 = [(0, 8, 11, 28, 0, 12, 3), (0, 8, 14, 19, 1, 15, 3)] ∧ am_rtag (am_re am_P 331) = 1 := ⟨rfl, rfl, rfl⟩
set_option maxRecDepth 100000 in
theorem am_k331_0 {e : ak_X3} {d : Nat} {ρ : List Nat} {h : ak_S} {Q : Int → ak_S → Prop} {X : Nat → ak_S → Prop} {x1 : Int} (w :
  ak_MJ e 2 d ρ 172 [am_r 1, am_i x1] h (fun v2 h1 =>
    (0 ≤ (0 : Int) ∧ (0 : Int) < (1 : Int)) ∧ Q 0 (h1.1, (am_up h1.2.1 211 0 v2), h1.2.2)) (fun x h3 => (x = 0 → Q 1 h3) ∧ (x = 1 → Q 2 h3) ∧ (x = 2 → X 2 h3) ∧ (x = 3 → X 3 h3) ∧ x < 4)) :
  ak_W0 e 2 d 331 ρ 0 [some (am_r 1), some (am_i x1), some (am_r 211), none] [] h (ak_qi Q X) := ak_k_ok am_cc331 400 [] w
theorem am_cc332 : am_co am_P 332 = am_lk am_rw332 ∧ am_hl am_P 332 = [(0, 9, 12, 28, 0, 14, 4), (0, 9, 16, 38, 2, 18, 4), (0, 9, 20, 19, 1, 22, 4)] ∧ am_rtag (am_re am_P 332) = 1 := ⟨rfl, rfl, rfl⟩
set_option maxRecDepth 100000 in
theorem am_k332_0 {e : ak_X3} {d : Nat} {ρ : List Nat} {h : ak_S} {Q : Int → ak_S → Prop} {X : Nat → ak_S → Prop} {x1 x2 : Int} (w :
  ak_MJ e 2 d ρ 173 [am_r 1, am_i x1, am_i x2] h (fun v2 h1 =>
    (0 ≤ (0 : Int) ∧ (0 : Int) < (1 : Int)) ∧ Q 0 (h1.1, (am_up h1.2.1 211 0 v2), h1.2.2)) (fun x h3 => (x = 0 → Q 1 h3) ∧ (x = 1 → Q 3 h3) ∧ (x = 2 → Q 2 h3) ∧ (x = 3 → X 3 h3) ∧ x < 4)) :
  ak_W0 e 2 d 332 ρ 0 [some (am_r 1), some (am_i x1), some (am_i x2), some (am_r 211), none] [] h (ak_qi Q X) := ak_k_ok am_cc332 400 [] w
theorem am_cc333 : am_co am_P 333 = am_lk am_rw333 ∧ am_hl am_P 333 = [(0, 9, 12, 28, 0, 14, 4), (0, 9, 16, 38, 2, 18, 4), (0, 9, 20, 19, 1, 22, 4)] ∧ am_rtag (am_re am_P 333) = 1 := ⟨rfl, rfl, rfl⟩
set_option maxRecDepth 100000 in
theorem am_k333_0 {e : ak_X3} {d : Nat} {ρ : List Nat} {h : ak_S} {Q : Int → ak_S → Prop} {X : Nat → ak_S → Prop} {x1 x2 : Int} (w :
  ak_MJ e 2 d ρ 174 [am_r 1, am_i x1, am_i x2] h (fun v2 h1 =>
    (0 ≤ (0 : Int) ∧ (0 : Int) < (1 : Int)) ∧ Q 0 (h1.1, (am_up h1.2.1 211 0 v2), h1.2.2)) (fun x h3 => (x = 0 → Q 1 h3) ∧ (x = 1 → Q 3 h3) ∧ (x = 2 → Q 2 h3) ∧ (x = 3 → X 3 h3) ∧ x < 4)) :
  ak_W0 e 2 d 333 ρ 0 [some (am_r 1), some (am_i x1), some (am_i x2), some (am_r 211), none] [] h (ak_qi Q X) := ak_k_ok am_cc333 400 [] w
theorem am_cc334 : am_co am_P 334 = am_lk am_rw334 ∧ am_hl am_P 334 = [(0, 9, 12, 28, 0, 14, 4), (0, 9, 16, 38, 2, 18, 4), (0, 9, 20, 19, 1, 22, 4)] ∧ am_rtag (am_re am_P 334) = 1 := ⟨rfl, rfl, rfl⟩
set_option maxRecDepth 100000 in
theorem am_k334_0 {e : ak_X3} {d : Nat} {ρ : List Nat} {h : ak_S} {Q : Int → ak_S → Prop} {X : Nat → ak_S → Prop} {x1 x2 : Int} (w :
  ak_MJ e 2 d ρ 175 [am_r 1, am_i x1, am_i x2] h (fun v2 h1 =>
    (0 ≤ (0 : Int) ∧ (0 : Int) < (1 : Int)) ∧ Q 0 (h1.1, (am_up h1.2.1 211 0 v2), h1.2.2)) (fun x h3 => (x = 0 → Q 1 h3) ∧ (x = 1 → Q 3 h3) ∧ (x = 2 → Q 2 h3) ∧ (x = 3 → X 3 h3) ∧ x < 4)) :
  ak_W0 e 2 d 334 ρ 0 [some (am_r 1), some (am_i x1), some (am_i x2), some (am_r 211), none] [] h (ak_qi Q X) := ak_k_ok am_cc334 400 [] w
theorem am_cc335 : am_co am_P 335 = am_lk am_rw335 ∧ am_hl am_P 335 = [(0, 9, 12, 28, 0, 13, 3), (0, 9, 15, 38, 2, 16, 3)] ∧ am_rtag (am_re am_P 335) = 1 := ⟨rfl, rfl, rfl⟩
set_option maxRecDepth 100000 in
theorem am_k335_0 {e : ak_X3} {d : Nat} {ρ : List Nat} {h : ak_S} {Q : Int → ak_S → Prop} {X : Nat → ak_S → Prop} {x1 : Int} (w :
  ak_MI e 2 d ρ 176 [am_r 1, am_i x1] h (fun v2 h1 =>
    (0 ≤ (0 : Int) ∧ (0 : Int) < (1 : Int)) ∧ Q 0 (h1.1, (am_up h1.2.1 211 0 v2), h1.2.2)) (fun x h3 => (x = 0 → Q 1 h3) ∧ (x = 1 → X 1 h3) ∧ (x = 2 → Q 2 h3) ∧ (x = 3 → X 3 h3) ∧ x < 4)) :
  ak_W0 e 2 d 335 ρ 0 [some (am_r 1), some (am_i x1), some (am_r 211), none] [] h (ak_qi Q X) := ak_k_ok am_cc335 400 [] w
theorem am_cc336 : am_co am_P 336 = am_lk am_rw336 ∧ am_hl am_P 336 = [(0, 14, 17, 28, 0, 19, 7), (0, 14, 21, 19, 1, 23, 7), (0, 14, 25, 38, 2, 27, 7)] ∧ am_rtag (am_re am_P 336) = 1 := ⟨rfl, rfl, rfl⟩
set_option maxRecDepth 100000 in
theorem am_k336_0 {e : ak_X3} {d : Nat} {ρ : List Nat} {h : ak_S} {Q : Int → ak_S → Prop} {X : Nat → ak_S → Prop} {x1 x2 x3 x4 : Int} (w :
  ak_MI e 2 d ρ 177 [am_r 1, am_i x1, am_i x2, am_i x3, am_l x4] h (fun v2 h1 =>
    (0 ≤ (0 : Int) ∧ (0 : Int) < (1 : Int)) ∧ Q 0 (h1.1, (am_up h1.2.1 211 0 v2), h1.2.2)) (fun x h3 => (x = 0 → Q 1 h3) ∧ (x = 1 → Q 2 h3) ∧ (x = 2 → Q 3 h3) ∧ (x = 3 → X 3 h3) ∧ x < 4)) :
  ak_W0 e 2 d 336 ρ 0 [some (am_r 1), some (am_i x1), some (am_i x2), some (am_i x3), some (am_l x4), none, some (am_r 211), none] [] h (ak_qi Q X) := ak_k_ok am_cc336 400 [] w
theorem am_cc337 : am_co am_P 337 = am_lk am_rw337 ∧ am_hl am_P 337 = [(0, 9, 12, 28, 0, 13, 3), (0, 9, 15, 19, 1, 16, 3)] ∧ am_rtag (am_re am_P 337) = 1 := ⟨rfl, rfl, rfl⟩
set_option maxRecDepth 100000 in
theorem am_k337_0 {e : ak_X3} {d : Nat} {ρ : List Nat} {h : ak_S} {Q : Int → ak_S → Prop} {X : Nat → ak_S → Prop} {x1 : Int} (w :
  ak_MI e 2 d ρ 178 [am_r 1, am_i x1] h (fun v2 h1 =>
    (0 ≤ (0 : Int) ∧ (0 : Int) < (1 : Int)) ∧ Q 0 (h1.1, (am_up h1.2.1 211 0 v2), h1.2.2)) (fun x h3 => (x = 0 → Q 1 h3) ∧ (x = 1 → Q 2 h3) ∧ (x = 2 → X 2 h3) ∧ (x = 3 → X 3 h3) ∧ x < 4)) :
  ak_W0 e 2 d 337 ρ 0 [some (am_r 1), some (am_i x1), some (am_r 211), none] [] h (ak_qi Q X) := ak_k_ok am_cc337 400 [] w
theorem am_cc338 : am_co am_P 338 = am_lk am_rw338 ∧ am_hl am_P 338 = [(0, 10, 13, 28, 0, 15, 4), (0, 10, 17, 38, 2, 19, 4)] ∧ am_rtag (am_re am_P 338) = 1 := ⟨rfl, rfl, rfl⟩
set_option maxRecDepth 100000 in
theorem am_k338_0 {e : ak_X3} {d : Nat} {ρ : List Nat} {h : ak_S} {Q : Int → ak_S → Prop} {X : Nat → ak_S → Prop} {x1 x2 : Int} (w :
  ak_MI e 2 d ρ 179 [am_r 1, am_i x1, am_i x2] h (fun v2 h1 =>
    (0 ≤ (0 : Int) ∧ (0 : Int) < (1 : Int)) ∧ Q 0 (h1.1, (am_up h1.2.1 211 0 v2), h1.2.2)) (fun x h3 => (x = 0 → Q 1 h3) ∧ (x = 1 → X 1 h3) ∧ (x = 2 → Q 2 h3) ∧ (x = 3 → X 3 h3) ∧ x < 4)) :
  ak_W0 e 2 d 338 ρ 0 [some (am_r 1), some (am_i x1), some (am_i x2), some (am_r 211), none] [] h (ak_qi Q X) := ak_k_ok am_cc338 400 [] w
theorem am_cc339 : am_co am_P 339 = am_lk am_rw339 ∧ am_hl am_P 339 = [(0, 9, 12, 28, 0, 13, 3), (0, 9, 15, 38, 2, 16, 3)] ∧ am_rtag (am_re am_P 339) = 1 := ⟨rfl, rfl, rfl⟩
set_option maxRecDepth 100000 in
theorem am_k339_0 {e : ak_X3} {d : Nat} {ρ : List Nat} {h : ak_S} {Q : Int → ak_S → Prop} {X : Nat → ak_S → Prop} {x1 : Int} (w :
  ak_MI e 2 d ρ 180 [am_r 1, am_i x1] h (fun v2 h1 =>
    (0 ≤ (0 : Int) ∧ (0 : Int) < (1 : Int)) ∧ Q 0 (h1.1, (am_up h1.2.1 211 0 v2), h1.2.2)) (fun x h3 => (x = 0 → Q 1 h3) ∧ (x = 1 → X 1 h3) ∧ (x = 2 → Q 2 h3) ∧ (x = 3 → X 3 h3) ∧ x < 4)) :
  ak_W0 e 2 d 339 ρ 0 [some (am_r 1), some (am_i x1), some (am_r 211), none] [] h (ak_qi Q X) := ak_k_ok am_cc339 400 [] w
theorem am_cc340 : am_co am_P 340 = am_lk am_rw340 ∧ am_hl am_P 340 = [(0, 10, 13, 28, 0, 15, 4), (0, 10, 17, 38, 2, 19, 4), (0, 10, 21, 19, 1, 23, 4)] ∧ am_rtag (am_re am_P 340) = 1 := ⟨rfl, rfl, rfl⟩
set_option maxRecDepth 100000 in
theorem am_k340_0 {e : ak_X3} {d : Nat} {ρ : List Nat} {h : ak_S} {Q : Int → ak_S → Prop} {X : Nat → ak_S → Prop} {x1 x2 : Int} (w :
  ak_MI e 2 d ρ 181 [am_r 1, am_i x1, am_i x2] h (fun v2 h1 =>
    (0 ≤ (0 : Int) ∧ (0 : Int) < (1 : Int)) ∧ Q 0 (h1.1, (am_up h1.2.1 211 0 v2), h1.2.2)) (fun x h3 => (x = 0 → Q 1 h3) ∧ (x = 1 → Q 3 h3) ∧ (x = 2 → Q 2 h3) ∧ (x = 3 → X 3 h3) ∧ x < 4)) :
  ak_W0 e 2 d 340 ρ 0 [some (am_r 1), some (am_i x1), some (am_i x2), some (am_r 211), none] [] h (ak_qi Q X) := ak_k_ok am_cc340 400 [] w
theorem am_cc341 : am_co am_P 341 = am_lk am_rw341 ∧ am_hl am_P 341 = [(0, 12, 15, 28, 0, 17, 5), (0, 12, 19, 38, 2, 21, 5)] ∧ am_rtag (am_re am_P 341) = 1 := ⟨rfl, rfl, rfl⟩
set_option maxRecDepth 100000 in
theorem am_k341_0 {e : ak_X3} {d : Nat} {ρ : List Nat} {h : ak_S} {Q : Int → ak_S → Prop} {X : Nat → ak_S → Prop} {x1 x2 x3 : Int} (w :
  ak_MI e 2 d ρ 182 [am_r 1, am_i x1, am_i x2, am_i x3] h (fun v2 h1 =>
    (0 ≤ (0 : Int) ∧ (0 : Int) < (1 : Int)) ∧ Q 0 (h1.1, (am_up h1.2.1 211 0 v2), h1.2.2)) (fun x h3 => (x = 0 → Q 1 h3) ∧ (x = 1 → X 1 h3) ∧ (x = 2 → Q 2 h3) ∧ (x = 3 → X 3 h3) ∧ x < 4)) :
  ak_W0 e 2 d 341 ρ 0 [some (am_r 1), some (am_i x1), some (am_i x2), some (am_i x3), some (am_r 211), none] [] h (ak_qi Q X) := ak_k_ok am_cc341 400 [] w
theorem am_cc342 : am_co am_P 342 = am_lk am_rw342 ∧ am_hl am_P 342 = [(0, 11, 14, 28, 0, 16, 5), (0, 11, 18, 38, 2, 20, 5), (0, 11, 22, 19, 1, 24, 5)] ∧ am_rtag (am_re am_P 342) = 1 := ⟨rfl, rfl, rfl⟩
set_option maxRecDepth 100000 in
theorem am_k342_0 {e : ak_X3} {d : Nat} {ρ : List Nat} {h : ak_S} {Q : Int → ak_S → Prop} {X : Nat → ak_S → Prop} {x1 x2 x3 : Int} (w :
  ak_MJ e 2 d ρ 183 [am_r 1, am_i x1, am_i x2, am_i x3] h (fun v2 h1 =>
    (0 ≤ (0 : Int) ∧ (0 : Int) < (1 : Int)) ∧ Q 0 (h1.1, (am_up h1.2.1 211 0 v2), h1.2.2)) (fun x h3 => (x = 0 → Q 1 h3) ∧ (x = 1 → Q 3 h3) ∧ (x = 2 → Q 2 h3) ∧ (x = 3 → X 3 h3) ∧ x < 4)) :
  ak_W0 e 2 d 342 ρ 0 [some (am_r 1), some (am_i x1), some (am_i x2), some (am_i x3), some (am_r 211), none] [] h (ak_qi Q X) := ak_k_ok am_cc342 400 [] w
theorem am_cc343 : am_co am_P 343 = am_lk am_rw343 ∧ am_hl am_P 343 = [(0, 10, 13, 28, 0, 15, 4), (0, 10, 17, 38, 2, 19, 4)] ∧ am_rtag (am_re am_P 343) = 1 := ⟨rfl, rfl, rfl⟩
set_option maxRecDepth 100000 in
theorem am_k343_0 {e : ak_X3} {d : Nat} {ρ : List Nat} {h : ak_S} {Q : Int → ak_S → Prop} {X : Nat → ak_S → Prop} {x1 x2 : Int} (w :
  ak_MI e 2 d ρ 184 [am_r 1, am_i x1, am_i x2] h (fun v2 h1 =>
    (0 ≤ (0 : Int) ∧ (0 : Int) < (1 : Int)) ∧ Q 0 (h1.1, (am_up h1.2.1 211 0 v2), h1.2.2)) (fun x h3 => (x = 0 → Q 1 h3) ∧ (x = 1 → X 1 h3) ∧ (x = 2 → Q 2 h3) ∧ (x = 3 → X 3 h3) ∧ x < 4)) :
  ak_W0 e 2 d 343 ρ 0 [some (am_r 1), some (am_i x1), some (am_i x2), some (am_r 211), none] [] h (ak_qi Q X) := ak_k_ok am_cc343 400 [] w
theorem am_cc344 : am_co am_P 344 = am_lk am_rw344 ∧ am_hl am_P 344 = [(0, 12, 15, 28, 0, 17, 5), (0, 12, 19, 38, 2, 21, 5), (0, 12, 23, 19, 1, 25, 5)] ∧ am_rtag (am_re am_P 344) = 1 := ⟨rfl, rfl, rfl⟩
set_option maxRecDepth 100000 in
theorem am_k344_0 {e : ak_X3} {d : Nat} {ρ : List Nat} {h : ak_S} {Q : Int → ak_S → Prop} {X : Nat → ak_S → Prop} {x1 x2 x3 : Int} (w :
  ak_MI e 2 d ρ 185 [am_r 1, am_i x1, am_i x2, am_i x3] h (fun v2 h1 =>
    (0 ≤ (0 : Int) ∧ (0 : Int) < (1 : Int)) ∧ Q 0 (h1.1, (am_up h1.2.1 211 0 v2), h1.2.2)) (fun x h3 => (x = 0 → Q 1 h3) ∧ (x = 1 → Q 3 h3) ∧ (x = 2 → Q 2 h3) ∧ (x = 3 → X 3 h3) ∧ x < 4)) :
  ak_W0 e 2 d 344 ρ 0 [some (am_r 1), some (am_i x1), some (am_i x2), some (am_i x3), some (am_r 211), none] [] h (ak_qi Q X) := ak_k_ok am_cc344 400 [] w
theorem am_cc345 : am_co am_P 345 = am_lk am_rw345 ∧ am_hl am_P 345 = [(0, 10, 13, 28, 0, 15, 4), (0, 10, 17, 38, 2, 19, 4), (0, 10, 21, 19, 1, 23, 4)] ∧ am_rtag (am_re am_P 345) = 1 := ⟨rfl, rfl, rfl⟩
set_option maxRecDepth 100000 in
theorem am_k345_0 {e : ak_X3} {d : Nat} {ρ : List Nat} {h : ak_S} {Q : Int → ak_S → Prop} {X : Nat → ak_S → Prop} {x1 x2 : Int} (w :
  ak_MI e 2 d ρ 186 [am_r 1, am_i x1, am_i x2] h (fun v2 h1 =>
    (0 ≤ (0 : Int) ∧ (0 : Int) < (1 : Int)) ∧ Q 0 (h1.1, (am_up h1.2.1 211 0 v2), h1.2.2)) (fun x h3 => (x = 0 → Q 1 h3) ∧ (x = 1 → Q 3 h3) ∧ (x = 2 → Q 2 h3) ∧ (x = 3 → X 3 h3) ∧ x < 4)) :
  ak_W0 e 2 d 345 ρ 0 [some (am_r 1), some (am_i x1), some (am_i x2), some (am_r 211), none] [] h (ak_qi Q X) := ak_k_ok am_cc345 400 [] w
theorem am_cc346 : am_co am_P 346 = am_lk am_rw346 ∧ am_hl am_P 346 = [(0, 12, 15, 28, 0, 17, 5), (0, 12, 19, 38, 2, 21, 5), (0, 12, 23, 19, 1, 25, 5)] ∧ am_rtag (am_re am_P 346) = 1 := ⟨rfl, rfl, rfl⟩
set_option maxRecDepth 100000 in
theorem am_k346_0 {e : ak_X3} {d : Nat} {ρ : List Nat} {h : ak_S} {Q : Int → ak_S → Prop} {X : Nat → ak_S → Prop} {x1 x2 x3 : Int} (w :
  ak_MI e 2 d ρ 187 [am_r 1, am_i x1, am_i x2, am_i x3] h (fun v2 h1 =>
    (0 ≤ (0 : Int) ∧ (0 : Int) < (1 : Int)) ∧ Q 0 (h1.1, (am_up h1.2.1 211 0 v2), h1.2.2)) (fun x h3 => (x = 0 → Q 1 h3) ∧ (x = 1 → Q 3 h3) ∧ (x = 2 → Q 2 h3) ∧ (x = 3 → X 3 h3) ∧ x < 4)) :
  ak_W0 e 2 d 346 ρ 0 [some (am_r 1), some (am_i x1), some (am_i x2), some (am_i x3), some (am_r 211), none] [] h (ak_qi Q X) := ak_k_ok am_cc346 400 [] w
theorem am_cc347 : am_co am_P 347 = am_lk am_rw347 ∧ am_hl am_P 347 = [(0, 19, 22, 28, 0, 24, 5), (0, 19, 26, 38, 2, 28, 5)] ∧ am_rtag (am_re am_P 347) = 1 := ⟨rfl, rfl, rfl⟩
set_option maxRecDepth 100000 in
theorem am_k347_0 {e : ak_X3} {d : Nat} {ρ : List Nat} {h : ak_S} {Q : Int → ak_S → Prop} {X : Nat → ak_S → Prop} {x1 x2 x3 : Int} (w :
  ak_MI e 2 d ρ 188 [am_r 1, am_i x1, am_i x2, am_i x3] h (fun v2 h1 =>
    (v2 = 0 →
      (0 ≤ (0 : Int) ∧ (0 : Int) < (1 : Int)) ∧ Q 0 (h1.1, (am_up h1.2.1 211 0 0), h1.2.2))
    ∧ (v2 ≠ 0 →
      (0 ≤ (0 : Int) ∧ (0 : Int) < (1 : Int)) ∧ Q 0 (h1.1, (am_up h1.2.1 211 0 1), h1.2.2))) (fun x h3 => (x = 0 → Q 1 h3) ∧ (x = 1 → X 1 h3) ∧ (x = 2 → Q 2 h3) ∧ (x = 3 → X 3 h3) ∧ x < 4)) :
  ak_W0 e 2 d 347 ρ 0 [some (am_r 1), some (am_i x1), some (am_i x2), some (am_i x3), some (am_r 211), none] [] h (ak_qi Q X) := ak_k_ok am_cc347 400 [] w
theorem am_cc348 : am_co am_P 348 = am_lk am_rw348 ∧ am_hl am_P 348 = [(0, 8, 11, 28, 0, 12, 2)] ∧ am_rtag (am_re am_P 348) = 1 := ⟨rfl, rfl, rfl⟩
set_option maxRecDepth 100000 in
theorem am_k348_0 {e : ak_X3} {d : Nat} {ρ : List Nat} {h : ak_S} {Q : Int → ak_S → Prop} {X : Nat → ak_S → Prop} (w :
  ak_MI e 2 d ρ 189 [am_r 1] h (fun v2 h1 =>
    (0 ≤ (0 : Int) ∧ (0 : Int) < (1 : Int)) ∧ Q 0 (h1.1, (am_up h1.2.1 211 0 v2), h1.2.2)) (fun x h3 => (x = 0 → Q 1 h3) ∧ (x = 1 → X 1 h3) ∧ (x = 2 → X 2 h3) ∧ (x = 3 → X 3 h3) ∧ x < 4)) :
  ak_W0 e 2 d 348 ρ 0 [some (am_r 1), some (am_r 211), none] [] h (ak_qi Q X) := ak_k_ok am_cc348 400 [] w
theorem am_cc349 : am_co am_P 349 = am_lk am_rw349 ∧ am_hl am_P 349 = [(0, 10, 13, 28, 0, 15, 4), (0, 10, 17, 38, 2, 19, 4), (0, 10, 21, 19, 1, 23, 4)] ∧ am_rtag (am_re am_P 349) = 1 := ⟨rfl, rfl, rfl⟩
set_option maxRecDepth 100000 in
theorem am_k349_0 {e : ak_X3} {d : Nat} {ρ : List Nat} {h : ak_S} {Q : Int → ak_S → Prop} {X : Nat → ak_S → Prop} {x1 x2 : Int} (w :
  ak_MI e 2 d ρ 190 [am_r 1, am_i x1, am_i x2] h (fun v2 h1 =>
    (0 ≤ (0 : Int) ∧ (0 : Int) < (1 : Int)) ∧ Q 0 (h1.1, (am_up h1.2.1 211 0 v2), h1.2.2)) (fun x h3 => (x = 0 → Q 1 h3) ∧ (x = 1 → Q 3 h3) ∧ (x = 2 → Q 2 h3) ∧ (x = 3 → X 3 h3) ∧ x < 4)) :
  ak_W0 e 2 d 349 ρ 0 [some (am_r 1), some (am_i x1), some (am_i x2), some (am_r 211), none] [] h (ak_qi Q X) := ak_k_ok am_cc349 400 [] w
theorem am_cc350 : am_co am_P 350 = am_lk am_rw350 ∧ am_hl am_P 350 = [(0, 8, 11, 28, 0, 12, 2)] ∧ am_rtag (am_re am_P 350) = 1 := ⟨rfl, rfl, rfl⟩
set_option maxRecDepth 100000 in
theorem am_k350_0 {e : ak_X3} {d : Nat} {ρ : List Nat} {h : ak_S} {Q : Int → ak_S → Prop} {X : Nat → ak_S → Prop} (w :
  ak_MI e 2 d ρ 191 [am_r 1] h (fun v2 h1 =>
    (0 ≤ (0 : Int) ∧ (0 : Int) < (1 : Int)) ∧ Q 0 (h1.1, (am_up h1.2.1 211 0 v2), h1.2.2)) (fun x h3 => (x = 0 → Q 1 h3) ∧ (x = 1 → X 1 h3) ∧ (x = 2 → X 2 h3) ∧ (x = 3 → X 3 h3) ∧ x < 4)) :
  ak_W0 e 2 d 350 ρ 0 [some (am_r 1), some (am_r 211), none] [] h (ak_qi Q X) := ak_k_ok am_cc350 400 [] w
