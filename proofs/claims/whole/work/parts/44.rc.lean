/-! rules of runs, methods 105 to 195 -/
theorem am_cc106 : am_co am_P 106 = am_lk am_rw106 ∧ am_hl am_P 106 = [] ∧ am_rtag (am_re am_P 106) = 0 := ⟨rfl, rfl, rfl⟩
set_option maxRecDepth 100000 in
theorem am_k106_0 {e : ak_X3} {d : Nat} {ρ : List Nat} {h : ak_S} {Q : ak_S → Prop} {X : Nat → ak_S → Prop} (w :
  ak_MV e 0 d ρ 107 [am_r 44] h (fun h1 =>
    Q ((am_up h1.1 44 5 0), h1.2)) (fun _ _ => False)) :
  ak_W0 e 0 d 106 ρ 0 [some (am_r 44)] [] h (ak_qv Q X) := ak_k_ok am_cc106 400 [] w
theorem am_cc107 : am_co am_P 107 = am_lk am_rw107 ∧ am_hl am_P 107 = [] ∧ am_rtag (am_re am_P 107) = 0 := ⟨rfl, rfl, rfl⟩
set_option maxRecDepth 100000 in
theorem am_k107_0 {e : ak_X3} {d : Nat} {ρ : List Nat} {h : ak_S} {Q : ak_S → Prop} {X : Nat → ak_S → Prop} (w :
  ak_MV e 0 d ρ 363 [am_r 47, am_i 0] h (fun h1 =>
    Q ((am_up h1.1 44 4 0), h1.2)) (fun _ _ => False)) :
  ak_W0 e 0 d 107 ρ 0 [some (am_r 44)] [] h (ak_qv Q X) := ak_k_ok am_cc107 400 [] w
theorem am_cc108 : am_co am_P 108 = am_lk am_rw108 ∧ am_hl am_P 108 = [] ∧ am_rtag (am_re am_P 108) = 1 := ⟨rfl, rfl, rfl⟩
set_option maxRecDepth 100000 in
theorem am_k108_0 {e : ak_X3} {d : Nat} {ρ : List Nat} {h : ak_S} {Q : Int → ak_S → Prop} {X : Nat → ak_S → Prop} {x0 : Int} (w :
  (0 ≤ x0 →
    Q (am_w32 (x0 * 4)) h)
  ∧ (x0 < 0 →
    Q 600 h)) :
  ak_W0 e 0 d 108 ρ 0 [some (am_i x0)] [] h (ak_qi Q X) := ak_k_ok am_cc108 400 [] w
theorem am_cc109 : am_co am_P 109 = am_lk am_rw109 ∧ am_hl am_P 109 = [] ∧ am_rtag (am_re am_P 109) = 1 := ⟨rfl, rfl, rfl⟩
set_option maxRecDepth 100000 in
theorem am_k109_0 {e : ak_X3} {d : Nat} {ρ : List Nat} {h : ak_S} {Q : Int → ak_S → Prop} {X : Nat → ak_S → Prop} {x1 : Int} (w :
  (0 ≤ x1 →
    (0 ≤ am_w32 ((am_w32 (x1 * 6)) + 1) ∧ am_w32 ((am_w32 (x1 * 6)) + 1) < (900 : Int)) ∧ Q (h.1 47 (am_w32 ((am_w32 (x1 * 6)) + 1)).toNat) h)
  ∧ (x1 < 0 →
    Q (h.1 44 4) h)) :
  ak_W0 e 0 d 109 ρ 0 [some (am_r 44), some (am_i x1)] [] h (ak_qi Q X) := ak_k_ok am_cc109 400 [] w
theorem am_cc110 : am_co am_P 110 = am_lk am_rw110 ∧ am_hl am_P 110 = [] ∧ am_rtag (am_re am_P 110) = 2 := ⟨rfl, rfl, rfl⟩
set_option maxRecDepth 100000 in
theorem am_k110_0 {e : ak_X3} {d : Nat} {ρ : List Nat} {h : ak_S} {Q : Int → ak_S → Prop} {X : Nat → ak_S → Prop} {x1 x2 : Int} (w :
  (0 ≤ am_w32 ((am_w32 (x1 * 4)) + ((Int32.ofInt x2 >>> (Int32.ofInt 6 &&& 31)).toInt)) ∧ am_w32 ((am_w32 (x1 * 4)) + ((Int32.ofInt x2 >>> (Int32.ofInt 6 &&& 31)).toInt)) < (2912 : Int)) ∧ (am_lsign ((Int64.ofInt ((Int64.ofInt (h.2.1 46 (am_w32 ((am_w32 (x1 * 4)) + ((Int32.ofInt x2 >>> (Int32.ofInt 6 &&& 31)).toInt))).toNat) >>> ((Int32.ofInt ((Int32.ofInt x2 &&& Int32.ofInt 63).toInt)).toInt64 &&& 63)).toInt) &&& Int64.ofInt 1).toInt) 1 ≠ 0 →
    ((0 : Int) = 0 ∨ (0 : Int) = 1) ∧ Q 0 h)
  ∧ (am_lsign ((Int64.ofInt ((Int64.ofInt (h.2.1 46 (am_w32 ((am_w32 (x1 * 4)) + ((Int32.ofInt x2 >>> (Int32.ofInt 6 &&& 31)).toInt))).toNat) >>> ((Int32.ofInt ((Int32.ofInt x2 &&& Int32.ofInt 63).toInt)).toInt64 &&& 63)).toInt) &&& Int64.ofInt 1).toInt) 1 = 0 →
    ((1 : Int) = 0 ∨ (1 : Int) = 1) ∧ Q 1 h)) :
  ak_W0 e 0 d 110 ρ 0 [some (am_r 44), some (am_i x1), some (am_i x2)] [] h (ak_qi Q X) := ak_k_ok am_cc110 400 [] w
theorem am_cc111 : am_co am_P 111 = am_lk am_rw111 ∧ am_hl am_P 111 = [] ∧ am_rtag (am_re am_P 111) = 0 := ⟨rfl, rfl, rfl⟩
set_option maxRecDepth 100000 in
theorem am_k111_0 {e : ak_X3} {d : Nat} {ρ : List Nat} {h : ak_S} {Q : ak_S → Prop} {X : Nat → ak_S → Prop} {x2 x3 x4 x5 : Int} (w :
  (h.1 44 6 ≠ 0 →
    (0 ≤ am_w32 ((am_w32 (x2 * 6)) + 2) ∧ am_w32 ((am_w32 (x2 * 6)) + 2) < (900 : Int)) ∧ (0 ≤ am_w32 ((am_w32 (x2 * 6)) + 2) ∧ am_w32 ((am_w32 (x2 * 6)) + 2) < (900 : Int)) ∧ (0 ≤ am_w32 ((am_w32 (x2 * 6)) + 0) ∧ am_w32 ((am_w32 (x2 * 6)) + 0) < (900 : Int)) ∧ ((am_up h.1 47 (am_w32 ((am_w32 (x2 * 6)) + 2)).toNat (am_w32 ((h.1 47 (am_w32 ((am_w32 (x2 * 6)) + 2)).toNat) + 1))) 47 (am_w32 ((am_w32 (x2 * 6)) + 0)).toNat ≠ 3 →
      ak_MI e 0 d ρ 112 [am_r 44, am_i x2, am_i x4, am_i x5] ((am_up h.1 47 (am_w32 ((am_w32 (x2 * 6)) + 2)).toNat (am_w32 ((h.1 47 (am_w32 ((am_w32 (x2 * 6)) + 2)).toNat) + 1))), h.2) (fun v2 h1 =>
        ak_W0 e 0 d 111 ρ 86 [some (am_r 44), some (am_r 33), some (am_i x2), some (am_i x3), some (am_i x4), some (am_i x5), some (am_i (am_w32 (x2 * 6))), none] [am_i v2] h1 (ak_qv Q X)) (fun _ _ => False))
    ∧ ((am_up h.1 47 (am_w32 ((am_w32 (x2 * 6)) + 2)).toNat (am_w32 ((h.1 47 (am_w32 ((am_w32 (x2 * 6)) + 2)).toNat) + 1))) 47 (am_w32 ((am_w32 (x2 * 6)) + 0)).toNat = 3 →
      ak_MI e 0 d ρ 113 [am_r 44, am_i x4, am_i x3, am_i x5] ((am_up h.1 47 (am_w32 ((am_w32 (x2 * 6)) + 2)).toNat (am_w32 ((h.1 47 (am_w32 ((am_w32 (x2 * 6)) + 2)).toNat) + 1))), h.2) (fun v4 h3 =>
        ak_W0 e 0 d 111 ρ 86 [some (am_r 44), some (am_r 33), some (am_i x2), some (am_i x3), some (am_i x4), some (am_i x5), some (am_i (am_w32 (x2 * 6))), none] [am_i v4] h3 (ak_qv Q X)) (fun _ _ => False)))
  ∧ (h.1 44 6 = 0 →
    ak_MV e 0 d ρ 164 [am_r 33, am_i x4, am_i x3, am_i x5] h (fun h5 =>
      Q ((am_up (am_up h5.1 44 7 (h5.1 33 9)) 44 8 (h5.1 33 10)), h5.2)) (fun _ _ => False))) :
  ak_W0 e 0 d 111 ρ 0 [some (am_r 44), some (am_r 33), some (am_i x2), some (am_i x3), some (am_i x4), some (am_i x5), none, none] [] h (ak_qv Q X) := ak_k_ok am_cc111 400 [(86, [true, true, true, true, true, true, true, false]), (114, [true, true, true, true, true, true, true, true])] w
set_option maxRecDepth 100000 in
theorem am_k111_86 {e : ak_X3} {d : Nat} {ρ : List Nat} {h : ak_S} {Q : ak_S → Prop} {X : Nat → ak_S → Prop} {x2 x3 x4 x5 x6 y0 : Int} (w :
  (0 ≤ am_w32 (x6 + 0) ∧ am_w32 (x6 + 0) < (900 : Int)) ∧ (h.1 47 (am_w32 (x6 + 0)).toNat ≠ 3 →
    ak_W0 e 0 d 111 ρ 114 [some (am_r 44), some (am_r 33), some (am_i x2), some (am_i x3), some (am_i x4), some (am_i x5), some (am_i x6), some (am_i y0)] [] h (ak_qv Q X))
  ∧ (h.1 47 (am_w32 (x6 + 0)).toNat = 3 →
    (0 ≤ am_w32 (x6 + 5) ∧ am_w32 (x6 + 5) < (900 : Int)) ∧ (0 ≤ am_w32 (x6 + 5) ∧ am_w32 (x6 + 5) < (900 : Int)) ∧ ak_W0 e 0 d 111 ρ 114 [some (am_r 44), some (am_r 33), some (am_i x2), some (am_i x3), some (am_i x4), some (am_i x5), some (am_i x6), some (am_i y0)] [] ((am_up h.1 47 (am_w32 (x6 + 5)).toNat (am_w32 ((h.1 47 (am_w32 (x6 + 5)).toNat) + 1))), h.2) (ak_qv Q X))) :
  ak_W0 e 0 d 111 ρ 86 [some (am_r 44), some (am_r 33), some (am_i x2), some (am_i x3), some (am_i x4), some (am_i x5), some (am_i x6), none] [am_i y0] h (ak_qv Q X) := ak_k_ok am_cc111 400 [(86, [true, true, true, true, true, true, true, false]), (114, [true, true, true, true, true, true, true, true])] w
set_option maxRecDepth 100000 in
theorem am_k111_114 {e : ak_X3} {d : Nat} {ρ : List Nat} {h : ak_S} {Q : ak_S → Prop} {X : Nat → ak_S → Prop} {x2 x3 x4 x5 x6 x7 : Int} (w :
  (x7 < 0 →
    (0 ≤ am_w32 (x6 + 3) ∧ am_w32 (x6 + 3) < (900 : Int)) ∧ (0 ≤ am_w32 (x6 + 3) ∧ am_w32 (x6 + 3) < (900 : Int)) ∧ ak_MV e 0 d ρ 164 [am_r 33, am_i x4, am_i x3, am_i x5] ((am_up h.1 47 (am_w32 (x6 + 3)).toNat (am_w32 ((h.1 47 (am_w32 (x6 + 3)).toNat) + 1))), h.2) (fun h1 =>
      ak_MV e 0 d ρ 114 [am_r 44, am_r 33, am_i x2, am_i x3, am_i x4, am_i x5] ((am_up (am_up h1.1 44 7 (h1.1 33 9)) 44 8 (h1.1 33 10)), h1.2) (fun h2 =>
        Q h2) (fun _ _ => False)) (fun _ _ => False))
  ∧ (0 ≤ x7 →
    (0 ≤ am_w32 ((am_w32 (x7 * 5)) + 2) ∧ am_w32 ((am_w32 (x7 * 5)) + 2) < (3640 : Int)) ∧ (0 ≤ am_w32 ((am_w32 (x7 * 5)) + 3) ∧ am_w32 ((am_w32 (x7 * 5)) + 3) < (3640 : Int)) ∧ Q ((am_up (am_up h.1 44 7 (h.1 45 (am_w32 ((am_w32 (x7 * 5)) + 2)).toNat)) 44 8 (h.1 45 (am_w32 ((am_w32 (x7 * 5)) + 3)).toNat)), h.2))) :
  ak_W0 e 0 d 111 ρ 114 [some (am_r 44), some (am_r 33), some (am_i x2), some (am_i x3), some (am_i x4), some (am_i x5), some (am_i x6), some (am_i x7)] [] h (ak_qv Q X) := ak_k_ok am_cc111 400 [(86, [true, true, true, true, true, true, true, false]), (114, [true, true, true, true, true, true, true, true])] w
theorem am_cc112 : am_co am_P 112 = am_lk am_rw112 ∧ am_hl am_P 112 = [] ∧ am_rtag (am_re am_P 112) = 1 := ⟨rfl, rfl, rfl⟩
set_option maxRecDepth 100000 in
theorem am_k112_0 {e : ak_X3} {d : Nat} {ρ : List Nat} {h : ak_S} {Q : Int → ak_S → Prop} {X : Nat → ak_S → Prop} {x1 x2 x3 : Int} (w :
  ak_MI e 0 d ρ 108 [am_i x1] h (fun v2 h1 =>
    ak_W0 e 0 d 112 ρ 15 [some (am_r 44), none, some (am_i x2), some (am_i x3), some (am_i (am_w32 (x1 * 6))), some (am_i v2), some (am_i 0), none] [] h1 (ak_qi Q X)) (fun _ _ => False)) :
  ak_W0 e 0 d 112 ρ 0 [some (am_r 44), some (am_i x1), some (am_i x2), some (am_i x3), none, none, none, none] [] h (ak_qi Q X) := ak_k_ok am_cc112 400 [(15, [true, false, true, true, true, true, true, false])] w
set_option maxRecDepth 100000 in
theorem am_k112_15 {e : ak_X3} {d : Nat} {ρ : List Nat} {h : ak_S} {Q : Int → ak_S → Prop} {X : Nat → ak_S → Prop} {x2 x3 x4 x5 x6 : Int} (w :
  (0 ≤ am_w32 (x4 + 1) ∧ am_w32 (x4 + 1) < (900 : Int)) ∧ (h.1 47 (am_w32 (x4 + 1)).toNat ≤ x6 →
    Q ((-1)) h)
  ∧ (x6 < h.1 47 (am_w32 (x4 + 1)).toNat →
    (0 ≤ am_w32 (x4 + 5) ∧ am_w32 (x4 + 5) < (900 : Int)) ∧ (0 ≤ am_w32 (x4 + 5) ∧ am_w32 (x4 + 5) < (900 : Int)) ∧ (0 ≤ am_w32 ((am_w32 ((am_w32 (x5 + x6)) * 5)) + 0) ∧ am_w32 ((am_w32 ((am_w32 (x5 + x6)) * 5)) + 0) < (3640 : Int)) ∧ (h.1 45 (am_w32 ((am_w32 ((am_w32 (x5 + x6)) * 5)) + 0)).toNat ≠ x2 →
      ak_W0 e 0 d 112 ρ 15 [some (am_r 44), none, some (am_i x2), some (am_i x3), some (am_i x4), some (am_i x5), some (am_i (am_w32 (x6 + 1))), none] [] ((am_up h.1 47 (am_w32 (x4 + 5)).toNat (am_w32 ((h.1 47 (am_w32 (x4 + 5)).toNat) + 1))), h.2) (ak_qi Q X))
    ∧ (h.1 45 (am_w32 ((am_w32 ((am_w32 (x5 + x6)) * 5)) + 0)).toNat = x2 →
      (0 ≤ am_w32 ((am_w32 ((am_w32 (x5 + x6)) * 5)) + 1) ∧ am_w32 ((am_w32 ((am_w32 (x5 + x6)) * 5)) + 1) < (3640 : Int)) ∧ (h.1 45 (am_w32 ((am_w32 ((am_w32 (x5 + x6)) * 5)) + 1)).toNat ≠ x3 →
        ak_W0 e 0 d 112 ρ 15 [some (am_r 44), none, some (am_i x2), some (am_i x3), some (am_i x4), some (am_i x5), some (am_i (am_w32 (x6 + 1))), none] [] ((am_up h.1 47 (am_w32 (x4 + 5)).toNat (am_w32 ((h.1 47 (am_w32 (x4 + 5)).toNat) + 1))), h.2) (ak_qi Q X))
      ∧ (h.1 45 (am_w32 ((am_w32 ((am_w32 (x5 + x6)) * 5)) + 1)).toNat = x3 →
        Q (am_w32 (x5 + x6)) ((am_up h.1 47 (am_w32 (x4 + 5)).toNat (am_w32 ((h.1 47 (am_w32 (x4 + 5)).toNat) + 1))), h.2))))) :
  ak_W0 e 0 d 112 ρ 15 [some (am_r 44), none, some (am_i x2), some (am_i x3), some (am_i x4), some (am_i x5), some (am_i x6), none] [] h (ak_qi Q X) := ak_k_ok am_cc112 400 [(15, [true, false, true, true, true, true, true, false])] w
theorem am_cc113 : am_co am_P 113 = am_lk am_rw113 ∧ am_hl am_P 113 = [] ∧ am_rtag (am_re am_P 113) = 1 := ⟨rfl, rfl, rfl⟩
set_option maxRecDepth 100000 in
theorem am_k113_0 {e : ak_X3} {d : Nat} {ρ : List Nat} {h : ak_S} {Q : Int → ak_S → Prop} {X : Nat → ak_S → Prop} {x1 x2 x3 : Int} (w :
  ak_W0 e 0 d 113 ρ 5 [some (am_r 44), some (am_i x1), some (am_i x2), some (am_i x3), some (am_i 600), none] [] h (ak_qi Q X)) :
  ak_W0 e 0 d 113 ρ 0 [some (am_r 44), some (am_i x1), some (am_i x2), some (am_i x3), none, none] [] h (ak_qi Q X) := ak_k_ok am_cc113 400 [(5, [true, true, true, true, true, false])] w
set_option maxRecDepth 100000 in
theorem am_k113_5 {e : ak_X3} {d : Nat} {ρ : List Nat} {h : ak_S} {Q : Int → ak_S → Prop} {X : Nat → ak_S → Prop} {x1 x2 x3 x4 : Int} (w :
  (am_w32 (600 + (h.1 44 4)) ≤ x4 →
    Q ((-1)) h)
  ∧ (x4 < am_w32 (600 + (h.1 44 4)) →
    (0 ≤ am_w32 ((am_w32 (x4 * 5)) + 0) ∧ am_w32 ((am_w32 (x4 * 5)) + 0) < (3640 : Int)) ∧ (h.1 45 (am_w32 ((am_w32 (x4 * 5)) + 0)).toNat ≠ x1 →
      ak_W0 e 0 d 113 ρ 5 [some (am_r 44), some (am_i x1), some (am_i x2), some (am_i x3), some (am_i (am_w32 (x4 + 1))), none] [] h (ak_qi Q X))
    ∧ (h.1 45 (am_w32 ((am_w32 (x4 * 5)) + 0)).toNat = x1 →
      (0 ≤ am_w32 ((am_w32 (x4 * 5)) + 4) ∧ am_w32 ((am_w32 (x4 * 5)) + 4) < (3640 : Int)) ∧ (h.1 45 (am_w32 ((am_w32 (x4 * 5)) + 4)).toNat ≠ x2 →
        ak_W0 e 0 d 113 ρ 5 [some (am_r 44), some (am_i x1), some (am_i x2), some (am_i x3), some (am_i (am_w32 (x4 + 1))), none] [] h (ak_qi Q X))
      ∧ (h.1 45 (am_w32 ((am_w32 (x4 * 5)) + 4)).toNat = x2 →
        (0 ≤ am_w32 ((am_w32 (x4 * 5)) + 1) ∧ am_w32 ((am_w32 (x4 * 5)) + 1) < (3640 : Int)) ∧ (h.1 45 (am_w32 ((am_w32 (x4 * 5)) + 1)).toNat ≠ x3 →
          ak_W0 e 0 d 113 ρ 5 [some (am_r 44), some (am_i x1), some (am_i x2), some (am_i x3), some (am_i (am_w32 (x4 + 1))), none] [] h (ak_qi Q X))
        ∧ (h.1 45 (am_w32 ((am_w32 (x4 * 5)) + 1)).toNat = x3 →
          Q x4 h))))) :
  ak_W0 e 0 d 113 ρ 5 [some (am_r 44), some (am_i x1), some (am_i x2), some (am_i x3), some (am_i x4), none] [] h (ak_qi Q X) := ak_k_ok am_cc113 400 [(5, [true, true, true, true, true, false])] w
theorem am_cc114 : am_co am_P 114 = am_lk am_rw114 ∧ am_hl am_P 114 = [] ∧ am_rtag (am_re am_P 114) = 0 := ⟨rfl, rfl, rfl⟩
set_option maxRecDepth 100000 in
theorem am_k114_0 {e : ak_X3} {d : Nat} {ρ : List Nat} {h : ak_S} {Q : ak_S → Prop} {X : Nat → ak_S → Prop} {x2 x3 x4 x5 : Int} (w :
  (0 ≤ am_w32 ((am_w32 (x2 * 6)) + 1) ∧ am_w32 ((am_w32 (x2 * 6)) + 1) < (900 : Int)) ∧ (h.1 44 6 = 1 →
    ak_W0 e 0 d 114 ρ 43 [some (am_r 44), some (am_r 33), some (am_i x2), some (am_i x3), some (am_i x4), some (am_i x5), some (am_i (am_w32 (x2 * 6))), none] [] h (ak_qv Q X))
  ∧ (h.1 44 6 ≠ 1 →
    (h.1 47 (am_w32 ((am_w32 (x2 * 6)) + 1)).toNat ≠ 0 →
      ak_W0 e 0 d 114 ρ 80 [some (am_r 44), some (am_r 33), some (am_i x2), some (am_i x3), some (am_i x4), some (am_i x5), some (am_i (am_w32 (x2 * 6))), some (am_i (h.1 47 (am_w32 ((am_w32 (x2 * 6)) + 1)).toNat))] [] h (ak_qv Q X))
    ∧ (h.1 47 (am_w32 ((am_w32 (x2 * 6)) + 1)).toNat = 0 →
      (0 ≤ am_w32 ((am_w32 (x2 * 6)) + 0) ∧ am_w32 ((am_w32 (x2 * 6)) + 0) < (900 : Int)) ∧ (1 < h.1 47 (am_w32 ((am_w32 (x2 * 6)) + 0)).toNat →
        ak_W0 e 0 d 114 ρ 80 [some (am_r 44), some (am_r 33), some (am_i x2), some (am_i x3), some (am_i x4), some (am_i x5), some (am_i (am_w32 (x2 * 6))), some (am_i (h.1 47 (am_w32 ((am_w32 (x2 * 6)) + 1)).toNat))] [] h (ak_qv Q X))
      ∧ (h.1 47 (am_w32 ((am_w32 (x2 * 6)) + 0)).toNat ≤ 1 →
        ak_W0 e 0 d 114 ρ 43 [some (am_r 44), some (am_r 33), some (am_i x2), some (am_i x3), some (am_i x4), some (am_i x5), some (am_i (am_w32 (x2 * 6))), none] [] h (ak_qv Q X))))) :
  ak_W0 e 0 d 114 ρ 0 [some (am_r 44), some (am_r 33), some (am_i x2), some (am_i x3), some (am_i x4), some (am_i x5), none, none] [] h (ak_qv Q X) := ak_k_ok am_cc114 400 [(43, [true, true, true, true, true, true, true, false]), (80, [true, true, true, true, true, true, true, true]), (142, [true, true, false, true, true, true, true, false])] w
set_option maxRecDepth 100000 in
theorem am_k114_43 {e : ak_X3} {d : Nat} {ρ : List Nat} {h : ak_S} {Q : ak_S → Prop} {X : Nat → ak_S → Prop} {x2 x3 x4 x5 x6 : Int} (w :
  (0 ≤ am_w32 (x6 + 0) ∧ am_w32 (x6 + 0) < (900 : Int)) ∧ (0 ≤ am_w32 (x6 + 1) ∧ am_w32 (x6 + 1) < (900 : Int)) ∧ ak_MI e 0 d ρ 108 [am_i x2] ((am_up (am_up h.1 47 (am_w32 (x6 + 0)).toNat 1) 47 (am_w32 (x6 + 1)).toNat 1), h.2) (fun v2 h1 =>
    ak_MV e 0 d ρ 115 [am_r 44, am_r 33, am_i v2, am_i x3, am_i x4, am_i x5] h1 (fun h3 =>
      Q h3) (fun _ _ => False)) (fun _ _ => False)) :
  ak_W0 e 0 d 114 ρ 43 [some (am_r 44), some (am_r 33), some (am_i x2), some (am_i x3), some (am_i x4), some (am_i x5), some (am_i x6), none] [] h (ak_qv Q X) := ak_k_ok am_cc114 400 [(43, [true, true, true, true, true, true, true, false]), (80, [true, true, true, true, true, true, true, true]), (142, [true, true, false, true, true, true, true, false])] w
set_option maxRecDepth 100000 in
theorem am_k114_80 {e : ak_X3} {d : Nat} {ρ : List Nat} {h : ak_S} {Q : ak_S → Prop} {X : Nat → ak_S → Prop} {x2 x3 x4 x5 x6 x7 : Int} (w :
  (4 ≤ x7 →
    ak_W0 e 0 d 114 ρ 142 [some (am_r 44), some (am_r 33), none, some (am_i x3), some (am_i x4), some (am_i x5), some (am_i x6), none] [] h (ak_qv Q X))
  ∧ (x7 < 4 →
    (0 ≤ am_w32 (x6 + 0) ∧ am_w32 (x6 + 0) < (900 : Int)) ∧ (h.1 47 (am_w32 (x6 + 0)).toNat = 3 →
      ak_W0 e 0 d 114 ρ 142 [some (am_r 44), some (am_r 33), none, some (am_i x3), some (am_i x4), some (am_i x5), some (am_i x6), none] [] h (ak_qv Q X))
    ∧ (h.1 47 (am_w32 (x6 + 0)).toNat ≠ 3 →
      (0 ≤ am_w32 (x6 + 0) ∧ am_w32 (x6 + 0) < (900 : Int)) ∧ (0 ≤ am_w32 (x6 + 1) ∧ am_w32 (x6 + 1) < (900 : Int)) ∧ ak_MI e 0 d ρ 108 [am_i x2] ((am_up (am_up h.1 47 (am_w32 (x6 + 0)).toNat 2) 47 (am_w32 (x6 + 1)).toNat (am_w32 (x7 + 1))), h.2) (fun v2 h1 =>
        ak_MV e 0 d ρ 115 [am_r 44, am_r 33, am_i (am_w32 (v2 + x7)), am_i x3, am_i x4, am_i x5] h1 (fun h3 =>
          Q h3) (fun _ _ => False)) (fun _ _ => False)))) :
  ak_W0 e 0 d 114 ρ 80 [some (am_r 44), some (am_r 33), some (am_i x2), some (am_i x3), some (am_i x4), some (am_i x5), some (am_i x6), some (am_i x7)] [] h (ak_qv Q X) := ak_k_ok am_cc114 400 [(43, [true, true, true, true, true, true, true, false]), (80, [true, true, true, true, true, true, true, true]), (142, [true, true, false, true, true, true, true, false])] w
set_option maxRecDepth 100000 in
theorem am_k114_142 {e : ak_X3} {d : Nat} {ρ : List Nat} {h : ak_S} {Q : ak_S → Prop} {X : Nat → ak_S → Prop} {x3 x4 x5 x6 : Int} (w :
  (0 ≤ am_w32 (x6 + 0) ∧ am_w32 (x6 + 0) < (900 : Int)) ∧ (0 ≤ am_w32 (x6 + 1) ∧ am_w32 (x6 + 1) < (900 : Int)) ∧ ak_MI e 0 d ρ 113 [am_r 44, am_i x4, am_i x3, am_i x5] ((am_up (am_up h.1 47 (am_w32 (x6 + 0)).toNat 3) 47 (am_w32 (x6 + 1)).toNat 0), h.2) (fun v2 h1 =>
    (0 ≤ v2 →
      Q h1)
    ∧ (v2 < 0 →
      (h1.1 44 4 < 128 →
        ak_MV e 0 d ρ 115 [am_r 44, am_r 33, am_i (am_w32 ((am_w32 (600 + (am_w32 ((h1.1 44 4) + 1)))) - 1)), am_i x3, am_i x4, am_i x5] ((am_up h1.1 44 4 (am_w32 ((h1.1 44 4) + 1))), h1.2) (fun h3 =>
          Q h3) (fun _ _ => False))
      ∧ (128 ≤ h1.1 44 4 →
        ak_MV e 0 d ρ 115 [am_r 44, am_r 33, am_i (am_w32 ((am_w32 (600 + 1)) - 1)), am_i x3, am_i x4, am_i x5] ((am_up h1.1 44 4 1), h1.2) (fun h4 =>
          Q h4) (fun _ _ => False)))) (fun _ _ => False)) :
  ak_W0 e 0 d 114 ρ 142 [some (am_r 44), some (am_r 33), none, some (am_i x3), some (am_i x4), some (am_i x5), some (am_i x6), none] [] h (ak_qv Q X) := ak_k_ok am_cc114 400 [(43, [true, true, true, true, true, true, true, false]), (80, [true, true, true, true, true, true, true, true]), (142, [true, true, false, true, true, true, true, false])] w
theorem am_cc115 : am_co am_P 115 = am_lk am_rw115 ∧ am_hl am_P 115 = [] ∧ am_rtag (am_re am_P 115) = 0 := ⟨rfl, rfl, rfl⟩
set_option maxRecDepth 100000 in
theorem am_k115_0 {e : ak_X3} {d : Nat} {ρ : List Nat} {h : ak_S} {Q : ak_S → Prop} {X : Nat → ak_S → Prop} {x2 x3 x4 x5 : Int} (w :
  (0 ≤ am_w32 ((am_w32 (x2 * 5)) + 0) ∧ am_w32 ((am_w32 (x2 * 5)) + 0) < (3640 : Int)) ∧ (0 ≤ am_w32 ((am_w32 (x2 * 5)) + 1) ∧ am_w32 ((am_w32 (x2 * 5)) + 1) < (3640 : Int)) ∧ (0 ≤ am_w32 ((am_w32 (x2 * 5)) + 2) ∧ am_w32 ((am_w32 (x2 * 5)) + 2) < (3640 : Int)) ∧ (0 ≤ am_w32 ((am_w32 (x2 * 5)) + 3) ∧ am_w32 ((am_w32 (x2 * 5)) + 3) < (3640 : Int)) ∧ (0 ≤ am_w32 ((am_w32 (x2 * 5)) + 4) ∧ am_w32 ((am_w32 (x2 * 5)) + 4) < (3640 : Int)) ∧ (0 ≤ (0 : Int) ∧ 0 ≤ am_w32 (x2 * 4) ∧ 0 ≤ (4 : Int) ∧ (0 : Int) + (4 : Int) ≤ (4 : Int) ∧ am_w32 (x2 * 4) + (4 : Int) ≤ (2912 : Int)) ∧ Q ((am_up (am_up (am_up (am_up (am_up h.1 45 (am_w32 ((am_w32 (x2 * 5)) + 0)).toNat x4) 45 (am_w32 ((am_w32 (x2 * 5)) + 1)).toNat x5) 45 (am_w32 ((am_w32 (x2 * 5)) + 2)).toNat (h.1 33 9)) 45 (am_w32 ((am_w32 (x2 * 5)) + 3)).toNat (h.1 33 10)) 45 (am_w32 ((am_w32 (x2 * 5)) + 4)).toNat x3), (am_cpy h.2.1 41 46 0 (am_w32 (x2 * 4)).toNat 4), h.2.2)) :
  ak_W0 e 0 d 115 ρ 0 [some (am_r 44), some (am_r 33), some (am_i x2), some (am_i x3), some (am_i x4), some (am_i x5), none] [] h (ak_qv Q X) := ak_k_ok am_cc115 400 [] w
theorem am_cc116 : am_co am_P 116 = am_lk am_rw116 ∧ am_hl am_P 116 = [] ∧ am_rtag (am_re am_P 116) = 0 := ⟨rfl, rfl, rfl⟩
set_option maxRecDepth 100000 in
theorem am_k116_0 {e : ak_X3} {d : Nat} {ρ : List Nat} {h : ak_S} {Q : ak_S → Prop} {X : Nat → ak_S → Prop} {x1 : Int} (w :
  ak_W0 e 0 d 116 ρ 7 [some (am_r 44), some (am_i x1), some (am_i 0), none, none] [] ((am_up h.1 44 5 0), h.2) (ak_qv Q X)) :
  ak_W0 e 0 d 116 ρ 0 [some (am_r 44), some (am_i x1), none, none, none] [] h (ak_qv Q X) := ak_k_ok am_cc116 400 [(7, [true, true, true, false, false])] w
set_option maxRecDepth 100000 in
theorem am_k116_7 {e : ak_X3} {d : Nat} {ρ : List Nat} {h : ak_S} {Q : ak_S → Prop} {X : Nat → ak_S → Prop} {x1 x2 : Int} (w :
  (150 ≤ x2 →
    ak_MI e 0 d ρ 117 [am_r 44, am_i ((-1)), am_i (h.1 44 4), am_i x1] h (fun v2 h1 =>
      Q ((am_up h1.1 44 4 v2), h1.2)) (fun _ _ => False))
  ∧ (x2 < 150 →
    (0 ≤ am_w32 ((am_w32 (x2 * 6)) + 1) ∧ am_w32 ((am_w32 (x2 * 6)) + 1) < (900 : Int)) ∧ ak_MI e 0 d ρ 117 [am_r 44, am_i x2, am_i (h.1 47 (am_w32 ((am_w32 (x2 * 6)) + 1)).toNat), am_i x1] h (fun v4 h3 =>
      (0 ≤ am_w32 ((am_w32 (x2 * 6)) + 4) ∧ am_w32 ((am_w32 (x2 * 6)) + 4) < (900 : Int)) ∧ (0 ≤ am_w32 ((am_w32 (x2 * 6)) + 1) ∧ am_w32 ((am_w32 (x2 * 6)) + 1) < (900 : Int)) ∧ (0 ≤ am_w32 ((am_w32 (x2 * 6)) + 4) ∧ am_w32 ((am_w32 (x2 * 6)) + 4) < (900 : Int)) ∧ (0 ≤ am_w32 ((am_w32 (x2 * 6)) + 1) ∧ am_w32 ((am_w32 (x2 * 6)) + 1) < (900 : Int)) ∧ ak_W0 e 0 d 116 ρ 7 [some (am_r 44), some (am_i x1), some (am_i (am_w32 (x2 + 1))), none, none] [] ((am_up (am_up h3.1 47 (am_w32 ((am_w32 (x2 * 6)) + 4)).toNat (am_w32 ((h3.1 47 (am_w32 ((am_w32 (x2 * 6)) + 4)).toNat) + (am_w32 ((h3.1 47 (am_w32 ((am_w32 (x2 * 6)) + 1)).toNat) - v4))))) 47 (am_w32 ((am_w32 (x2 * 6)) + 1)).toNat v4), h3.2) (ak_qv Q X)) (fun _ _ => False))) :
  ak_W0 e 0 d 116 ρ 7 [some (am_r 44), some (am_i x1), some (am_i x2), none, none] [] h (ak_qv Q X) := ak_k_ok am_cc116 400 [(7, [true, true, true, false, false])] w
theorem am_cc117 : am_co am_P 117 = am_lk am_rw117 ∧ am_hl am_P 117 = [] ∧ am_rtag (am_re am_P 117) = 1 := ⟨rfl, rfl, rfl⟩
set_option maxRecDepth 100000 in
theorem am_k117_0 {e : ak_X3} {d : Nat} {ρ : List Nat} {h : ak_S} {Q : Int → ak_S → Prop} {X : Nat → ak_S → Prop} {x1 x2 x3 : Int} (w :
  ak_MI e 0 d ρ 108 [am_i x1] h (fun v2 h1 =>
    ak_W0 e 0 d 117 ρ 13 [some (am_r 44), some (am_i x1), some (am_i x2), some (am_i x3), some (am_i v2), some (am_i 0), some (am_i v2)] [] h1 (ak_qi Q X)) (fun _ _ => False)) :
  ak_W0 e 0 d 117 ρ 0 [some (am_r 44), some (am_i x1), some (am_i x2), some (am_i x3), none, none, none] [] h (ak_qi Q X) := ak_k_ok am_cc117 400 [(13, [true, true, true, true, true, true, true])] w
set_option maxRecDepth 100000 in
theorem am_k117_13 {e : ak_X3} {d : Nat} {ρ : List Nat} {h : ak_S} {Q : Int → ak_S → Prop} {X : Nat → ak_S → Prop} {x1 x2 x3 x4 x5 x6 : Int} (w :
  (am_w32 (x4 + x2) ≤ x6 →
    Q x5 h)
  ∧ (x6 < am_w32 (x4 + x2) →
    ak_MI e 0 d ρ 110 [am_r 44, am_i x6, am_i x3] h (fun v2 h1 =>
      (v2 = 0 →
        (0 ≤ am_w32 (x6 * 5) ∧ 0 ≤ am_w32 ((am_w32 (x4 + x5)) * 5) ∧ 0 ≤ (5 : Int) ∧ am_w32 (x6 * 5) + (5 : Int) ≤ (3640 : Int) ∧ am_w32 ((am_w32 (x4 + x5)) * 5) + (5 : Int) ≤ (3640 : Int)) ∧ (0 ≤ am_w32 (x6 * 4) ∧ 0 ≤ am_w32 ((am_w32 (x4 + x5)) * 4) ∧ 0 ≤ (4 : Int) ∧ am_w32 (x6 * 4) + (4 : Int) ≤ (2912 : Int) ∧ am_w32 ((am_w32 (x4 + x5)) * 4) + (4 : Int) ≤ (2912 : Int)) ∧ ak_W0 e 0 d 117 ρ 13 [some (am_r 44), some (am_i x1), some (am_i x2), some (am_i x3), some (am_i x4), some (am_i (am_w32 (x5 + 1))), some (am_i (am_w32 (x6 + 1)))] [] ((am_cpy h1.1 45 45 (am_w32 (x6 * 5)).toNat (am_w32 ((am_w32 (x4 + x5)) * 5)).toNat 5), (am_cpy h1.2.1 46 46 (am_w32 (x6 * 4)).toNat (am_w32 ((am_w32 (x4 + x5)) * 4)).toNat 4), h1.2.2) (ak_qi Q X))
      ∧ (v2 ≠ 0 →
        ak_MV e 0 d ρ 118 [am_r 44, am_i x1, am_i x6] h1 (fun h3 =>
          ak_W0 e 0 d 117 ρ 13 [some (am_r 44), some (am_i x1), some (am_i x2), some (am_i x3), some (am_i x4), some (am_i x5), some (am_i (am_w32 (x6 + 1)))] [] h3 (ak_qi Q X)) (fun _ _ => False))) (fun _ _ => False))) :
  ak_W0 e 0 d 117 ρ 13 [some (am_r 44), some (am_i x1), some (am_i x2), some (am_i x3), some (am_i x4), some (am_i x5), some (am_i x6)] [] h (ak_qi Q X) := ak_k_ok am_cc117 400 [(13, [true, true, true, true, true, true, true])] w
theorem am_cc118 : am_co am_P 118 = am_lk am_rw118 ∧ am_hl am_P 118 = [] ∧ am_rtag (am_re am_P 118) = 0 := ⟨rfl, rfl, rfl⟩
set_option maxRecDepth 100000 in
theorem am_k118_0 {e : ak_X3} {d : Nat} {ρ : List Nat} {h : ak_S} {Q : ak_S → Prop} {X : Nat → ak_S → Prop} {x1 x2 : Int} (w :
  (h.1 44 5 < 728 →
    (0 ≤ am_w32 ((h.1 44 5) * 4) ∧ am_w32 ((h.1 44 5) * 4) < (2912 : Int)) ∧ (0 ≤ am_w32 ((am_w32 (x2 * 5)) + 0) ∧ am_w32 ((am_w32 (x2 * 5)) + 0) < (3640 : Int)) ∧ (0 ≤ am_w32 ((am_w32 ((h.1 44 5) * 4)) + 1) ∧ am_w32 ((am_w32 ((h.1 44 5) * 4)) + 1) < (2912 : Int)) ∧ (0 ≤ am_w32 ((am_w32 (x2 * 5)) + 4) ∧ am_w32 ((am_w32 (x2 * 5)) + 4) < (3640 : Int)) ∧ (0 ≤ am_w32 ((am_w32 ((h.1 44 5) * 4)) + 2) ∧ am_w32 ((am_w32 ((h.1 44 5) * 4)) + 2) < (2912 : Int)) ∧ (0 ≤ am_w32 ((am_w32 (x2 * 5)) + 1) ∧ am_w32 ((am_w32 (x2 * 5)) + 1) < (3640 : Int)) ∧ (0 ≤ am_w32 ((am_w32 ((h.1 44 5) * 4)) + 3) ∧ am_w32 ((am_w32 ((h.1 44 5) * 4)) + 3) < (2912 : Int)) ∧ Q ((am_up (am_up (am_up (am_up (am_up h.1 48 (am_w32 ((h.1 44 5) * 4)).toNat x1) 48 (am_w32 ((am_w32 ((h.1 44 5) * 4)) + 1)).toNat (h.1 45 (am_w32 ((am_w32 (x2 * 5)) + 0)).toNat)) 48 (am_w32 ((am_w32 ((h.1 44 5) * 4)) + 2)).toNat (h.1 45 (am_w32 ((am_w32 (x2 * 5)) + 4)).toNat)) 48 (am_w32 ((am_w32 ((h.1 44 5) * 4)) + 3)).toNat (h.1 45 (am_w32 ((am_w32 (x2 * 5)) + 1)).toNat)) 44 5 (am_w32 ((h.1 44 5) + 1))), h.2))
  ∧ (728 ≤ h.1 44 5 →
    Q h)) :
  ak_W0 e 0 d 118 ρ 0 [some (am_r 44), some (am_i x1), some (am_i x2), none] [] h (ak_qv Q X) := ak_k_ok am_cc118 400 [] w
theorem am_cc119 : am_co am_P 119 = am_lk am_rw119 ∧ am_hl am_P 119 = [] ∧ am_rtag (am_re am_P 119) = 1 := ⟨rfl, rfl, rfl⟩
set_option maxRecDepth 100000 in
theorem am_k119_0 {e : ak_X3} {d : Nat} {ρ : List Nat} {h : ak_S} {Q : Int → ak_S → Prop} {X : Nat → ak_S → Prop} (w :
  ak_W0 e 0 d 119 ρ 4 [some (am_r 44), some (am_r 33), some (am_i 0), some (am_i ((-1))), none, none, none] [] h (ak_qi Q X)) :
  ak_W0 e 0 d 119 ρ 0 [some (am_r 44), some (am_r 33), none, none, none, none, none] [] h (ak_qi Q X) := ak_k_ok am_cc119 400 [(4, [true, true, true, true, false, false, false]), (20, [true, true, true, true, true, true, false])] w
set_option maxRecDepth 100000 in
theorem am_k119_4 {e : ak_X3} {d : Nat} {ρ : List Nat} {h : ak_S} {Q : Int → ak_S → Prop} {X : Nat → ak_S → Prop} {x2 x3 : Int} (w :
  (150 ≤ x3 →
    Q x2 h)
  ∧ (x3 < 150 →
    ak_MI e 0 d ρ 108 [am_i x3] h (fun v2 h1 =>
      ak_W0 e 0 d 119 ρ 20 [some (am_r 44), some (am_r 33), some (am_i x2), some (am_i x3), some (am_i v2), some (am_i 0), none] [] h1 (ak_qi Q X)) (fun _ _ => False))) :
  ak_W0 e 0 d 119 ρ 4 [some (am_r 44), some (am_r 33), some (am_i x2), some (am_i x3), none, none, none] [] h (ak_qi Q X) := ak_k_ok am_cc119 400 [(4, [true, true, true, true, false, false, false]), (20, [true, true, true, true, true, true, false])] w
set_option maxRecDepth 100000 in
theorem am_k119_20 {e : ak_X3} {d : Nat} {ρ : List Nat} {h : ak_S} {Q : Int → ak_S → Prop} {X : Nat → ak_S → Prop} {x2 x3 x4 x5 : Int} (w :
  ak_MI e 0 d ρ 109 [am_r 44, am_i x3] h (fun v2 h1 =>
    (v2 ≤ x5 →
      ak_W0 e 0 d 119 ρ 4 [some (am_r 44), some (am_r 33), some (am_i x2), some (am_i (am_w32 (x3 + 1))), none, none, none] [] h1 (ak_qi Q X))
    ∧ (x5 < v2 →
      (0 ≤ am_w32 ((am_w32 ((am_w32 (x4 + x5)) * 5)) + 0) ∧ am_w32 ((am_w32 ((am_w32 (x4 + x5)) * 5)) + 0) < (3640 : Int)) ∧ (0 ≤ am_w32 ((am_w32 ((am_w32 (x4 + x5)) * 5)) + 4) ∧ am_w32 ((am_w32 ((am_w32 (x4 + x5)) * 5)) + 4) < (3640 : Int)) ∧ (0 ≤ am_w32 ((am_w32 ((am_w32 (x4 + x5)) * 5)) + 1) ∧ am_w32 ((am_w32 ((am_w32 (x4 + x5)) * 5)) + 1) < (3640 : Int)) ∧ ak_MV e 0 d ρ 164 [am_r 33, am_i (h1.1 45 (am_w32 ((am_w32 ((am_w32 (x4 + x5)) * 5)) + 0)).toNat), am_i (h1.1 45 (am_w32 ((am_w32 ((am_w32 (x4 + x5)) * 5)) + 4)).toNat), am_i (h1.1 45 (am_w32 ((am_w32 ((am_w32 (x4 + x5)) * 5)) + 1)).toNat)] h1 (fun h3 =>
        (0 ≤ am_w32 ((am_w32 ((am_w32 (x4 + x5)) * 5)) + 2) ∧ am_w32 ((am_w32 ((am_w32 (x4 + x5)) * 5)) + 2) < (3640 : Int)) ∧ (h3.1 33 9 ≠ h3.1 45 (am_w32 ((am_w32 ((am_w32 (x4 + x5)) * 5)) + 2)).toNat →
          ak_W0 e 0 d 119 ρ 20 [some (am_r 44), some (am_r 33), some (am_i (am_w32 (x2 + 1))), some (am_i x3), some (am_i x4), some (am_i (am_w32 (x5 + 1))), none] [] h3 (ak_qi Q X))
        ∧ (h3.1 33 9 = h3.1 45 (am_w32 ((am_w32 ((am_w32 (x4 + x5)) * 5)) + 2)).toNat →
          (0 ≤ am_w32 ((am_w32 ((am_w32 (x4 + x5)) * 5)) + 3) ∧ am_w32 ((am_w32 ((am_w32 (x4 + x5)) * 5)) + 3) < (3640 : Int)) ∧ (h3.1 33 10 = h3.1 45 (am_w32 ((am_w32 ((am_w32 (x4 + x5)) * 5)) + 3)).toNat →
            ak_W0 e 0 d 119 ρ 20 [some (am_r 44), some (am_r 33), some (am_i x2), some (am_i x3), some (am_i x4), some (am_i (am_w32 (x5 + 1))), none] [] h3 (ak_qi Q X))
          ∧ (h3.1 33 10 ≠ h3.1 45 (am_w32 ((am_w32 ((am_w32 (x4 + x5)) * 5)) + 3)).toNat →
            ak_W0 e 0 d 119 ρ 20 [some (am_r 44), some (am_r 33), some (am_i (am_w32 (x2 + 1))), some (am_i x3), some (am_i x4), some (am_i (am_w32 (x5 + 1))), none] [] h3 (ak_qi Q X)))) (fun _ _ => False))) (fun _ _ => False)) :
  ak_W0 e 0 d 119 ρ 20 [some (am_r 44), some (am_r 33), some (am_i x2), some (am_i x3), some (am_i x4), some (am_i x5), none] [] h (ak_qi Q X) := ak_k_ok am_cc119 400 [(4, [true, true, true, true, false, false, false]), (20, [true, true, true, true, true, true, false])] w
theorem am_cc121 : am_co am_P 121 = am_lk am_rw121 ∧ am_hl am_P 121 = [] ∧ am_rtag (am_re am_P 121) = 0 := ⟨rfl, rfl, rfl⟩
set_option maxRecDepth 100000 in
theorem am_k121_0 {e : ak_X3} {d : Nat} {ρ : List Nat} {h : ak_S} {Q : ak_S → Prop} {X : Nat → ak_S → Prop} {x1 : Int} (w :
  ak_W0 e 0 d 121 ρ 3 [some (am_r 3), some (am_i x1), some (am_i 24)] [] h (ak_qv Q X)) :
  ak_W0 e 0 d 121 ρ 0 [some (am_r 3), some (am_i x1), none] [] h (ak_qv Q X) := ak_k_ok am_cc121 400 [(3, [true, true, true])] w
set_option maxRecDepth 100000 in
theorem am_k121_3 {e : ak_X3} {d : Nat} {ρ : List Nat} {h : ak_S} {Q : ak_S → Prop} {X : Nat → ak_S → Prop} {x1 x2 : Int} (w :
  (x2 < 0 →
    Q h)
  ∧ (0 ≤ x2 →
    (6000 ≤ h.1 3 1 →
      Q h)
    ∧ (h.1 3 1 < 6000 →
      ((0 ≤ h.1 3 1 ∧ h.1 3 1 < (6000 : Int)) ∧ -128 ≤ am_w8 ((Int32.ofInt x1 >>> (Int32.ofInt x2 &&& 31)).toInt) ∧ am_w8 ((Int32.ofInt x1 >>> (Int32.ofInt x2 &&& 31)).toInt) < 128) ∧ ak_W0 e 0 d 121 ρ 3 [some (am_r 3), some (am_i x1), some (am_i (am_w32 (x2 + (-8))))] [] ((am_up (am_up h.1 4 (h.1 3 1).toNat (am_w8 ((Int32.ofInt x1 >>> (Int32.ofInt x2 &&& 31)).toInt))) 3 1 (am_w32 ((h.1 3 1) + 1))), h.2) (ak_qv Q X)))) :
  ak_W0 e 0 d 121 ρ 3 [some (am_r 3), some (am_i x1), some (am_i x2)] [] h (ak_qv Q X) := ak_k_ok am_cc121 400 [(3, [true, true, true])] w
theorem am_cc122 : am_co am_P 122 = am_lk am_rw122 ∧ am_hl am_P 122 = [] ∧ am_rtag (am_re am_P 122) = 0 := ⟨rfl, rfl, rfl⟩
set_option maxRecDepth 100000 in
theorem am_k122_0 {e : ak_X3} {d : Nat} {ρ : List Nat} {h : ak_S} {Q : ak_S → Prop} {X : Nat → ak_S → Prop} (w :
  ak_W0 e 0 d 122 ρ 9 [some (am_r 3), some (am_i 0), some (am_i 0), none] [] ((am_up h.1 3 6 0), h.2) (ak_qv Q X)) :
  ak_W0 e 0 d 122 ρ 0 [some (am_r 3), none, none, none] [] h (ak_qv Q X) := ak_k_ok am_cc122 400 [(9, [true, true, true, false])] w
set_option maxRecDepth 100000 in
theorem am_k122_9 {e : ak_X3} {d : Nat} {ρ : List Nat} {h : ak_S} {Q : ak_S → Prop} {X : Nat → ak_S → Prop} {x1 x2 : Int} (w :
  (6000 ≤ x2 →
    ak_MV e 0 d ρ 123 [am_r 3, am_i 0, am_i (h.1 3 1), am_l 0] h (fun h1 =>
      ak_MV e 0 d ρ 128 [am_r 3] ((am_up h1.1 3 7 ((-1))), h1.2) (fun h2 =>
        Q h2) (fun _ _ => False)) (fun _ _ => False))
  ∧ (x2 < 6000 →
    (h.1 3 1 ≤ x1 →
      ak_MV e 0 d ρ 123 [am_r 3, am_i 0, am_i (h.1 3 1), am_l 0] h (fun h3 =>
        ak_MV e 0 d ρ 128 [am_r 3] ((am_up h3.1 3 7 ((-1))), h3.2) (fun h4 =>
          Q h4) (fun _ _ => False)) (fun _ _ => False))
    ∧ (x1 < h.1 3 1 →
      (0 ≤ x1 ∧ x1 < (6000 : Int)) ∧ ak_MI e 0 d ρ 131 [am_i (h.1 4 x1.toNat)] h (fun v6 h5 =>
        (v6 = 0 →
          ak_MI e 0 d ρ 132 [am_i (h.1 4 x1.toNat)] h5 (fun v8 h7 =>
            (v8 = 0 →
              (h.1 4 x1.toNat = 10 →
                ak_W0 e 0 d 122 ρ 9 [some (am_r 3), some (am_i (am_w32 (x1 + 1))), some (am_i (am_w32 (x2 + 1))), none] [] h7 (ak_qv Q X))
              ∧ (h.1 4 x1.toNat ≠ 10 →
                (h.1 4 x1.toNat ≠ 32 →
                  ak_MI e 0 d ρ 127 [am_r 3, am_i x1] h7 (fun v10 h9 =>
                    ak_W0 e 0 d 122 ρ 9 [some (am_r 3), some (am_i v10), some (am_i (am_w32 (x2 + 1))), none] [] h9 (ak_qv Q X)) (fun _ _ => False))
                ∧ (h.1 4 x1.toNat = 32 →
                  ak_W0 e 0 d 122 ρ 9 [some (am_r 3), some (am_i (am_w32 (x1 + 1))), some (am_i (am_w32 (x2 + 1))), none] [] h7 (ak_qv Q X))))
            ∧ (v8 ≠ 0 →
              ak_MI e 0 d ρ 126 [am_r 3, am_i x1] h7 (fun v12 h11 =>
                ak_W0 e 0 d 122 ρ 9 [some (am_r 3), some (am_i v12), some (am_i (am_w32 (x2 + 1))), none] [] h11 (ak_qv Q X)) (fun _ _ => False))) (fun _ _ => False))
        ∧ (v6 ≠ 0 →
          ak_MI e 0 d ρ 124 [am_r 3, am_i x1] h5 (fun v14 h13 =>
            ak_W0 e 0 d 122 ρ 9 [some (am_r 3), some (am_i v14), some (am_i (am_w32 (x2 + 1))), none] [] h13 (ak_qv Q X)) (fun _ _ => False))) (fun _ _ => False)))) :
  ak_W0 e 0 d 122 ρ 9 [some (am_r 3), some (am_i x1), some (am_i x2), none] [] h (ak_qv Q X) := ak_k_ok am_cc122 400 [(9, [true, true, true, false])] w
theorem am_cc123 : am_co am_P 123 = am_lk am_rw123 ∧ am_hl am_P 123 = [] ∧ am_rtag (am_re am_P 123) = 0 := ⟨rfl, rfl, rfl⟩
set_option maxRecDepth 100000 in
theorem am_k123_0 {e : ak_X3} {d : Nat} {ρ : List Nat} {h : ak_S} {Q : ak_S → Prop} {X : Nat → ak_S → Prop} {x1 x2 x3 : Int} (w :
  (6000 < h.1 3 6 →
    Q h)
  ∧ (h.1 3 6 ≤ 6000 →
    (0 ≤ h.1 3 6 ∧ h.1 3 6 < (6001 : Int)) ∧ (0 ≤ h.1 3 6 ∧ h.1 3 6 < (6001 : Int)) ∧ (0 ≤ h.1 3 6 ∧ h.1 3 6 < (6001 : Int)) ∧ Q ((am_up (am_up (am_up h.1 6 (h.1 3 6).toNat x1) 7 (h.1 3 6).toNat x2) 3 6 (am_w32 ((h.1 3 6) + 1))), (am_up h.2.1 8 (h.1 3 6).toNat x3), h.2.2))) :
  ak_W0 e 0 d 123 ρ 0 [some (am_r 3), some (am_i x1), some (am_i x2), some (am_l x3), none] [] h (ak_qv Q X) := ak_k_ok am_cc123 400 [] w
theorem am_cc124 : am_co am_P 124 = am_lk am_rw124 ∧ am_hl am_P 124 = [] ∧ am_rtag (am_re am_P 124) = 1 := ⟨rfl, rfl, rfl⟩
set_option maxRecDepth 100000 in
theorem am_k124_0 {e : ak_X3} {d : Nat} {ρ : List Nat} {h : ak_S} {Q : Int → ak_S → Prop} {X : Nat → ak_S → Prop} {x1 : Int} (w :
  ak_W0 e 0 d 124 ρ 4 [some (am_r 3), some (am_i x1), some (am_i x1), some (am_l 0), none] [] h (ak_qi Q X)) :
  ak_W0 e 0 d 124 ρ 0 [some (am_r 3), some (am_i x1), none, none, none] [] h (ak_qi Q X) := ak_k_ok am_cc124 400 [(4, [true, true, true, true, false]), (41, [true, true, true, true, false])] w
set_option maxRecDepth 100000 in
theorem am_k124_4 {e : ak_X3} {d : Nat} {ρ : List Nat} {h : ak_S} {Q : Int → ak_S → Prop} {X : Nat → ak_S → Prop} {x1 x2 x3 : Int} (w :
  (h.1 3 1 ≤ x2 →
    ak_W0 e 0 d 124 ρ 41 [some (am_r 3), some (am_i x1), some (am_i x2), some (am_l x3), none] [] h (ak_qi Q X))
  ∧ (x2 < h.1 3 1 →
    (0 ≤ x2 ∧ x2 < (6000 : Int)) ∧ ak_MI e 0 d ρ 131 [am_i (h.1 4 x2.toNat)] h (fun v2 h1 =>
      (v2 = 0 →
        ak_W0 e 0 d 124 ρ 41 [some (am_r 3), some (am_i x1), some (am_i x2), some (am_l x3), none] [] h1 (ak_qi Q X))
      ∧ (v2 ≠ 0 →
        (0 ≤ x2 ∧ x2 < (6000 : Int)) ∧ ak_MJ e 0 d ρ 130 [am_l x3, am_i (h1.1 4 x2.toNat)] h1 (fun v4 h3 =>
          ak_W0 e 0 d 124 ρ 4 [some (am_r 3), some (am_i x1), some (am_i (am_w32 (x2 + 1))), some (am_l v4), none] [] h3 (ak_qi Q X)) (fun _ _ => False))) (fun _ _ => False))) :
  ak_W0 e 0 d 124 ρ 4 [some (am_r 3), some (am_i x1), some (am_i x2), some (am_l x3), none] [] h (ak_qi Q X) := ak_k_ok am_cc124 400 [(4, [true, true, true, true, false]), (41, [true, true, true, true, false])] w
set_option maxRecDepth 100000 in
theorem am_k124_41 {e : ak_X3} {d : Nat} {ρ : List Nat} {h : ak_S} {Q : Int → ak_S → Prop} {X : Nat → ak_S → Prop} {x1 x2 x3 : Int} (w :
  (am_w32 (x2 - x1) ≤ 8 →
    ak_MI e 0 d ρ 125 [am_r 3, am_l x3] h (fun v2 h1 =>
      ak_MV e 0 d ρ 123 [am_r 3, am_i v2, am_i x1, am_l x3] h1 (fun h3 =>
        Q x2 h3) (fun _ _ => False)) (fun _ _ => False))
  ∧ (8 < am_w32 (x2 - x1) →
    ak_MV e 0 d ρ 123 [am_r 3, am_i 1, am_i x1, am_l x3] h (fun h4 =>
      Q x2 h4) (fun _ _ => False))) :
  ak_W0 e 0 d 124 ρ 41 [some (am_r 3), some (am_i x1), some (am_i x2), some (am_l x3), none] [] h (ak_qi Q X) := ak_k_ok am_cc124 400 [(4, [true, true, true, true, false]), (41, [true, true, true, true, false])] w
theorem am_cc125 : am_co am_P 125 = am_lk am_rw125 ∧ am_hl am_P 125 = [] ∧ am_rtag (am_re am_P 125) = 1 := ⟨rfl, rfl, rfl⟩
set_option maxRecDepth 100000 in
theorem am_k125_0 {e : ak_X3} {d : Nat} {ρ : List Nat} {h : ak_S} {Q : Int → ak_S → Prop} {X : Nat → ak_S → Prop} {x1 : Int} (w :
  ak_W0 e 0 d 125 ρ 2 [some (am_r 3), some (am_l x1), none, some (am_i 0)] [] h (ak_qi Q X)) :
  ak_W0 e 0 d 125 ρ 0 [some (am_r 3), some (am_l x1), none, none] [] h (ak_qi Q X) := ak_k_ok am_cc125 400 [(2, [true, true, false, true])] w
set_option maxRecDepth 100000 in
theorem am_k125_2 {e : ak_X3} {d : Nat} {ρ : List Nat} {h : ak_S} {Q : Int → ak_S → Prop} {X : Nat → ak_S → Prop} {x1 x3 : Int} (w :
  (24 ≤ x3 →
    Q 2 h)
  ∧ (x3 < 24 →
    (0 ≤ x3 ∧ x3 < (24 : Int)) ∧ (am_lsign (h.2.1 5 x3.toNat) x1 ≠ 0 →
      ak_W0 e 0 d 125 ρ 2 [some (am_r 3), some (am_l x1), none, some (am_i (am_w32 (x3 + 1)))] [] h (ak_qi Q X))
    ∧ (am_lsign (h.2.1 5 x3.toNat) x1 = 0 →
      Q (am_w32 (200 + x3)) h))) :
  ak_W0 e 0 d 125 ρ 2 [some (am_r 3), some (am_l x1), none, some (am_i x3)] [] h (ak_qi Q X) := ak_k_ok am_cc125 400 [(2, [true, true, false, true])] w
theorem am_cc126 : am_co am_P 126 = am_lk am_rw126 ∧ am_hl am_P 126 = [] ∧ am_rtag (am_re am_P 126) = 1 := ⟨rfl, rfl, rfl⟩
set_option maxRecDepth 100000 in
theorem am_k126_0 {e : ak_X3} {d : Nat} {ρ : List Nat} {h : ak_S} {Q : Int → ak_S → Prop} {X : Nat → ak_S → Prop} {x1 : Int} (w :
  ak_W0 e 0 d 126 ρ 4 [some (am_r 3), some (am_i x1), some (am_i x1), some (am_l 0), none] [] h (ak_qi Q X)) :
  ak_W0 e 0 d 126 ρ 0 [some (am_r 3), some (am_i x1), none, none, none] [] h (ak_qi Q X) := ak_k_ok am_cc126 400 [(4, [true, true, true, true, false]), (47, [true, true, true, true, false])] w
set_option maxRecDepth 100000 in
theorem am_k126_4 {e : ak_X3} {d : Nat} {ρ : List Nat} {h : ak_S} {Q : Int → ak_S → Prop} {X : Nat → ak_S → Prop} {x1 x2 x3 : Int} (w :
  (h.1 3 1 ≤ x2 →
    ak_W0 e 0 d 126 ρ 47 [some (am_r 3), some (am_i x1), some (am_i x2), some (am_l x3), none] [] h (ak_qi Q X))
  ∧ (x2 < h.1 3 1 →
    (0 ≤ x2 ∧ x2 < (6000 : Int)) ∧ ak_MI e 0 d ρ 132 [am_i (h.1 4 x2.toNat)] h (fun v2 h1 =>
      (v2 = 0 →
        ak_W0 e 0 d 126 ρ 47 [some (am_r 3), some (am_i x1), some (am_i x2), some (am_l x3), none] [] h1 (ak_qi Q X))
      ∧ (v2 ≠ 0 →
        (0 ≤ x2 ∧ x2 < (6000 : Int)) ∧ ak_W0 e 0 d 126 ρ 4 [some (am_r 3), some (am_i x1), some (am_i (am_w32 (x2 + 1))), some (am_l (am_w64 ((am_w64 (x3 * 10)) + (am_w32 ((h1.1 4 x2.toNat) - 48))))), none] [] h1 (ak_qi Q X))) (fun _ _ => False))) :
  ak_W0 e 0 d 126 ρ 4 [some (am_r 3), some (am_i x1), some (am_i x2), some (am_l x3), none] [] h (ak_qi Q X) := ak_k_ok am_cc126 400 [(4, [true, true, true, true, false]), (47, [true, true, true, true, false])] w
set_option maxRecDepth 100000 in
theorem am_k126_47 {e : ak_X3} {d : Nat} {ρ : List Nat} {h : ak_S} {Q : Int → ak_S → Prop} {X : Nat → ak_S → Prop} {x1 x2 x3 : Int} (w :
  (am_w32 (x2 - x1) ≤ 9 →
    ak_MV e 0 d ρ 123 [am_r 3, am_i 3, am_i x1, am_l x3] h (fun h1 =>
      Q x2 h1) (fun _ _ => False))
  ∧ (9 < am_w32 (x2 - x1) →
    ak_MV e 0 d ρ 123 [am_r 3, am_i 1, am_i x1, am_l x3] h (fun h2 =>
      Q x2 h2) (fun _ _ => False))) :
  ak_W0 e 0 d 126 ρ 47 [some (am_r 3), some (am_i x1), some (am_i x2), some (am_l x3), none] [] h (ak_qi Q X) := ak_k_ok am_cc126 400 [(4, [true, true, true, true, false]), (47, [true, true, true, true, false])] w
theorem am_cc127 : am_co am_P 127 = am_lk am_rw127 ∧ am_hl am_P 127 = [] ∧ am_rtag (am_re am_P 127) = 1 := ⟨rfl, rfl, rfl⟩
set_option maxRecDepth 100000 in
theorem am_k127_0 {e : ak_X3} {d : Nat} {ρ : List Nat} {h : ak_S} {Q : Int → ak_S → Prop} {X : Nat → ak_S → Prop} {x1 : Int} (w :
  (0 ≤ x1 ∧ x1 < (6000 : Int)) ∧ (h.1 4 x1.toNat ≠ 61 →
    ak_W0 e 0 d 127 ρ 47 [some (am_r 3), some (am_i x1), some (am_i (h.1 4 x1.toNat))] [] h (ak_qi Q X))
  ∧ (h.1 4 x1.toNat = 61 →
    (h.1 3 1 ≤ am_w32 (x1 + 1) →
      ak_W0 e 0 d 127 ρ 47 [some (am_r 3), some (am_i x1), some (am_i (h.1 4 x1.toNat))] [] h (ak_qi Q X))
    ∧ (am_w32 (x1 + 1) < h.1 3 1 →
      (0 ≤ am_w32 (x1 + 1) ∧ am_w32 (x1 + 1) < (6000 : Int)) ∧ (h.1 4 (am_w32 (x1 + 1)).toNat ≠ 61 →
        ak_W0 e 0 d 127 ρ 47 [some (am_r 3), some (am_i x1), some (am_i (h.1 4 x1.toNat))] [] h (ak_qi Q X))
      ∧ (h.1 4 (am_w32 (x1 + 1)).toNat = 61 →
        ak_MV e 0 d ρ 123 [am_r 3, am_i 4, am_i x1, am_l 0] h (fun h1 =>
          Q (am_w32 (x1 + 2)) h1) (fun _ _ => False))))) :
  ak_W0 e 0 d 127 ρ 0 [some (am_r 3), some (am_i x1), none] [] h (ak_qi Q X) := ak_k_ok am_cc127 400 [(47, [true, true, true])] w
set_option maxRecDepth 100000 in
theorem am_k127_47 {e : ak_X3} {d : Nat} {ρ : List Nat} {h : ak_S} {Q : Int → ak_S → Prop} {X : Nat → ak_S → Prop} {x1 x2 : Int} (w :
  (x2 ≤ 0 →
    ak_MV e 0 d ρ 123 [am_r 3, am_i 1, am_i x1, am_l 0] h (fun h1 =>
      Q (am_w32 (x1 + 1)) h1) (fun _ _ => False))
  ∧ (0 < x2 →
    ak_MI e 0 d ρ 354 [am_r ((am_SP + 11)), am_i (((Int32.ofInt x2).toUInt32 % 65536).toInt32.toInt)] h (fun v3 h2 =>
      (v3 < 0 →
        ak_MV e 0 d ρ 123 [am_r 3, am_i 1, am_i x1, am_l 0] h2 (fun h4 =>
          Q (am_w32 (x1 + 1)) h4) (fun _ _ => False))
      ∧ (0 ≤ v3 →
        ak_MV e 0 d ρ 123 [am_r 3, am_i x2, am_i x1, am_l 0] h2 (fun h5 =>
          Q (am_w32 (x1 + 1)) h5) (fun _ _ => False))) (fun _ _ => False))) :
  ak_W0 e 0 d 127 ρ 47 [some (am_r 3), some (am_i x1), some (am_i x2)] [] h (ak_qi Q X) := ak_k_ok am_cc127 400 [(47, [true, true, true])] w
theorem am_cc128 : am_co am_P 128 = am_lk am_rw128 ∧ am_hl am_P 128 = [] ∧ am_rtag (am_re am_P 128) = 0 := ⟨rfl, rfl, rfl⟩
set_option maxRecDepth 100000 in
theorem am_k128_0 {e : ak_X3} {d : Nat} {ρ : List Nat} {h : ak_S} {Q : ak_S → Prop} {X : Nat → ak_S → Prop} (w :
  (h.1 3 6 ≤ am_w32 ((h.1 3 7) + 1) →
    Q h)
  ∧ (am_w32 ((h.1 3 7) + 1) < h.1 3 6 →
    (0 ≤ am_w32 ((h.1 3 7) + 1) ∧ am_w32 ((h.1 3 7) + 1) < (6001 : Int)) ∧ (0 ≤ am_w32 ((h.1 3 7) + 1) ∧ am_w32 ((h.1 3 7) + 1) < (6001 : Int)) ∧ (0 ≤ am_w32 ((h.1 3 7) + 1) ∧ am_w32 ((h.1 3 7) + 1) < (6001 : Int)) ∧ Q ((am_up (am_up (am_up h.1 3 7 (am_w32 ((h.1 3 7) + 1))) 3 8 (h.1 6 (am_w32 ((h.1 3 7) + 1)).toNat)) 3 9 (h.1 7 (am_w32 ((h.1 3 7) + 1)).toNat)), (am_up h.2.1 3 10 (h.2.1 8 (am_w32 ((h.1 3 7) + 1)).toNat)), h.2.2))) :
  ak_W0 e 0 d 128 ρ 0 [some (am_r 3)] [] h (ak_qv Q X) := ak_k_ok am_cc128 400 [] w
theorem am_cc129 : am_co am_P 129 = am_lk am_rw129 ∧ am_hl am_P 129 = [] ∧ am_rtag (am_re am_P 129) = 2 := ⟨rfl, rfl, rfl⟩
set_option maxRecDepth 100000 in
theorem am_k129_0 {e : ak_X3} {d : Nat} {ρ : List Nat} {h : ak_S} {Q : Int → ak_S → Prop} {X : Nat → ak_S → Prop} (w :
  (h.1 3 6 ≤ am_w32 ((h.1 3 7) + 1) →
    ((0 : Int) = 0 ∨ (0 : Int) = 1) ∧ Q 0 h)
  ∧ (am_w32 ((h.1 3 7) + 1) < h.1 3 6 →
    (0 ≤ am_w32 ((h.1 3 7) + 1) ∧ am_w32 ((h.1 3 7) + 1) < (6001 : Int)) ∧ (h.1 6 (am_w32 ((h.1 3 7) + 1)).toNat ≠ 61 →
      ((0 : Int) = 0 ∨ (0 : Int) = 1) ∧ Q 0 h)
    ∧ (h.1 6 (am_w32 ((h.1 3 7) + 1)).toNat = 61 →
      ((1 : Int) = 0 ∨ (1 : Int) = 1) ∧ Q 1 h))) :
  ak_W0 e 0 d 129 ρ 0 [some (am_r 3)] [] h (ak_qi Q X) := ak_k_ok am_cc129 400 [] w
theorem am_cc130 : am_co am_P 130 = am_lk am_rw130 ∧ am_hl am_P 130 = [] ∧ am_rtag (am_re am_P 130) = 3 := ⟨rfl, rfl, rfl⟩
set_option maxRecDepth 100000 in
theorem am_k130_0 {e : ak_X3} {d : Nat} {ρ : List Nat} {h : ak_S} {Q : Int → ak_S → Prop} {X : Nat → ak_S → Prop} {x0 x2 : Int} (w :
  Q (am_w64 ((am_w64 (x0 * 32)) + (am_w32 ((am_w32 (x2 - 97)) + 1)))) h) :
  ak_W0 e 0 d 130 ρ 0 [some (am_l x0), none, some (am_i x2)] [] h (ak_qj Q X) := ak_k_ok am_cc130 400 [] w
theorem am_cc131 : am_co am_P 131 = am_lk am_rw131 ∧ am_hl am_P 131 = [] ∧ am_rtag (am_re am_P 131) = 2 := ⟨rfl, rfl, rfl⟩
set_option maxRecDepth 100000 in
theorem am_k131_0 {e : ak_X3} {d : Nat} {ρ : List Nat} {h : ak_S} {Q : Int → ak_S → Prop} {X : Nat → ak_S → Prop} {x0 : Int} (w :
  (x0 < 97 →
    ((0 : Int) = 0 ∨ (0 : Int) = 1) ∧ Q 0 h)
  ∧ (97 ≤ x0 →
    (122 < x0 →
      ((0 : Int) = 0 ∨ (0 : Int) = 1) ∧ Q 0 h)
    ∧ (x0 ≤ 122 →
      ((1 : Int) = 0 ∨ (1 : Int) = 1) ∧ Q 1 h))) :
  ak_W0 e 0 d 131 ρ 0 [some (am_i x0)] [] h (ak_qi Q X) := ak_k_ok am_cc131 400 [] w
theorem am_cc132 : am_co am_P 132 = am_lk am_rw132 ∧ am_hl am_P 132 = [] ∧ am_rtag (am_re am_P 132) = 2 := ⟨rfl, rfl, rfl⟩
set_option maxRecDepth 100000 in
theorem am_k132_0 {e : ak_X3} {d : Nat} {ρ : List Nat} {h : ak_S} {Q : Int → ak_S → Prop} {X : Nat → ak_S → Prop} {x0 : Int} (w :
  (x0 < 48 →
    ((0 : Int) = 0 ∨ (0 : Int) = 1) ∧ Q 0 h)
  ∧ (48 ≤ x0 →
    (57 < x0 →
      ((0 : Int) = 0 ∨ (0 : Int) = 1) ∧ Q 0 h)
    ∧ (x0 ≤ 57 →
      ((1 : Int) = 0 ∨ (1 : Int) = 1) ∧ Q 1 h))) :
  ak_W0 e 0 d 132 ρ 0 [some (am_i x0)] [] h (ak_qi Q X) := ak_k_ok am_cc132 400 [] w
theorem am_cc134 : am_co am_P 134 = am_lk am_rw134 ∧ am_hl am_P 134 = [] ∧ am_rtag (am_re am_P 134) = 0 := ⟨rfl, rfl, rfl⟩
set_option maxRecDepth 100000 in
theorem am_k134_0 {e : ak_X3} {d : Nat} {ρ : List Nat} {h : ak_S} {Q : ak_S → Prop} {X : Nat → ak_S → Prop} {u : Nat} (hu : u = 0 ∨ u = 1) (w :
  ak_MV e 0 d ρ 2 [am_r ((ak_T u + 1))] h (fun h1 =>
    (0 ≤ (0 : Int) ∧ (0 : Int) < (100 : Int)) ∧ Q ((am_up (am_up (am_up (am_up h1.1 (ak_T u) 4 0) (ak_T u) 10 0) (ak_T u) 14 0) (ak_T u) 6 1), (am_up h1.2.1 (ak_T u + 14) 0 409204), h1.2.2)) (fun _ _ => False)) :
  ak_W0 e 0 d 134 ρ 0 [some (am_r ((ak_T u)))] [] h (ak_qv Q X) := by
  rcases hu with rfl | rfl
  · exact ak_k_ok am_cc134 400 [] w
  · exact ak_k_ok am_cc134 400 [] w
theorem am_cc135 : am_co am_P 135 = am_lk am_rw135 ∧ am_hl am_P 135 = [] ∧ am_rtag (am_re am_P 135) = 1 := ⟨rfl, rfl, rfl⟩
set_option maxRecDepth 100000 in
theorem am_k135_0 {e : ak_X3} {d : Nat} {ρ : List Nat} {h : ak_S} {Q : Int → ak_S → Prop} {X : Nat → ak_S → Prop} {u : Nat} (hu : u = 0 ∨ u = 1) {x1 : Int} (w :
  ak_W0 e 0 d 135 ρ 2 [some (am_r ((ak_T u))), some (am_l x1), none, some (am_i 0)] [] h (ak_qi Q X)) :
  ak_W0 e 0 d 135 ρ 0 [some (am_r ((ak_T u))), some (am_l x1), none, none] [] h (ak_qi Q X) := by
  rcases hu with rfl | rfl
  · exact ak_k_ok am_cc135 400 [(2, [true, true, false, true])] w
  · exact ak_k_ok am_cc135 400 [(2, [true, true, false, true])] w
set_option maxRecDepth 100000 in
theorem am_k135_2 {e : ak_X3} {d : Nat} {ρ : List Nat} {h : ak_S} {Q : Int → ak_S → Prop} {X : Nat → ak_S → Prop} {u : Nat} (hu : u = 0 ∨ u = 1) {x1 x3 : Int} (w :
  (h.1 (ak_T u) 4 ≤ x3 →
    Q ((-1)) h)
  ∧ (x3 < h.1 (ak_T u) 4 →
    (0 ≤ x3 ∧ x3 < (40 : Int)) ∧ (am_lsign (h.2.1 (ak_T u + 11) x3.toNat) x1 ≠ 0 →
      ak_W0 e 0 d 135 ρ 2 [some (am_r ((ak_T u))), some (am_l x1), none, some (am_i (am_w32 (x3 + 1)))] [] h (ak_qi Q X))
    ∧ (am_lsign (h.2.1 (ak_T u + 11) x3.toNat) x1 = 0 →
      Q x3 h))) :
  ak_W0 e 0 d 135 ρ 2 [some (am_r ((ak_T u))), some (am_l x1), none, some (am_i x3)] [] h (ak_qi Q X) := by
  rcases hu with rfl | rfl
  · exact ak_k_ok am_cc135 400 [(2, [true, true, false, true])] w
  · exact ak_k_ok am_cc135 400 [(2, [true, true, false, true])] w
theorem am_cc136 : am_co am_P 136 = am_lk am_rw136 ∧ am_hl am_P 136 = [] ∧ am_rtag (am_re am_P 136) = 1 := ⟨rfl, rfl, rfl⟩
set_option maxRecDepth 100000 in
theorem am_k136_0 {e : ak_X3} {d : Nat} {ρ : List Nat} {h : ak_S} {Q : Int → ak_S → Prop} {X : Nat → ak_S → Prop} {u : Nat} (hu : u = 0 ∨ u = 1) {x1 : Int} (w :
  ak_W0 e 0 d 136 ρ 2 [some (am_r ((ak_T u))), some (am_l x1), none, some (am_i 0)] [] h (ak_qi Q X)) :
  ak_W0 e 0 d 136 ρ 0 [some (am_r ((ak_T u))), some (am_l x1), none, none] [] h (ak_qi Q X) := by
  rcases hu with rfl | rfl
  · exact ak_k_ok am_cc136 400 [(2, [true, true, false, true])] w
  · exact ak_k_ok am_cc136 400 [(2, [true, true, false, true])] w
set_option maxRecDepth 100000 in
theorem am_k136_2 {e : ak_X3} {d : Nat} {ρ : List Nat} {h : ak_S} {Q : Int → ak_S → Prop} {X : Nat → ak_S → Prop} {u : Nat} (hu : u = 0 ∨ u = 1) {x1 x3 : Int} (w :
  (h.1 (ak_T u) 6 ≤ x3 →
    (h.1 (ak_T u) 6 < 100 →
      (0 ≤ h.1 (ak_T u) 6 ∧ h.1 (ak_T u) 6 < (100 : Int)) ∧ Q (am_w32 ((am_w32 ((h.1 (ak_T u) 6) + 1)) - 1)) ((am_up h.1 (ak_T u) 6 (am_w32 ((h.1 (ak_T u) 6) + 1))), (am_up h.2.1 (ak_T u + 14) (h.1 (ak_T u) 6).toNat x1), h.2.2))
    ∧ (100 ≤ h.1 (ak_T u) 6 →
      Q ((-1)) h))
  ∧ (x3 < h.1 (ak_T u) 6 →
    (0 ≤ x3 ∧ x3 < (100 : Int)) ∧ (am_lsign (h.2.1 (ak_T u + 14) x3.toNat) x1 ≠ 0 →
      ak_W0 e 0 d 136 ρ 2 [some (am_r ((ak_T u))), some (am_l x1), none, some (am_i (am_w32 (x3 + 1)))] [] h (ak_qi Q X))
    ∧ (am_lsign (h.2.1 (ak_T u + 14) x3.toNat) x1 = 0 →
      Q x3 h))) :
  ak_W0 e 0 d 136 ρ 2 [some (am_r ((ak_T u))), some (am_l x1), none, some (am_i x3)] [] h (ak_qi Q X) := by
  rcases hu with rfl | rfl
  · exact ak_k_ok am_cc136 400 [(2, [true, true, false, true])] w
  · exact ak_k_ok am_cc136 400 [(2, [true, true, false, true])] w
theorem am_cc137 : am_co am_P 137 = am_lk am_rw137 ∧ am_hl am_P 137 = [] ∧ am_rtag (am_re am_P 137) = 1 := ⟨rfl, rfl, rfl⟩
set_option maxRecDepth 100000 in
theorem am_k137_0 {e : ak_X3} {d : Nat} {ρ : List Nat} {h : ak_S} {Q : Int → ak_S → Prop} {X : Nat → ak_S → Prop} {u : Nat} (hu : u = 0 ∨ u = 1) {x1 x2 : Int} (w :
  ak_W0 e 0 d 137 ρ 2 [some (am_r ((ak_T u))), some (am_i x1), some (am_i x2), some (am_i 0)] [] h (ak_qi Q X)) :
  ak_W0 e 0 d 137 ρ 0 [some (am_r ((ak_T u))), some (am_i x1), some (am_i x2), none] [] h (ak_qi Q X) := by
  rcases hu with rfl | rfl
  · exact ak_k_ok am_cc137 400 [(2, [true, true, true, true]), (29, [true, true, true, true])] w
  · exact ak_k_ok am_cc137 400 [(2, [true, true, true, true]), (29, [true, true, true, true])] w
set_option maxRecDepth 100000 in
theorem am_k137_2 {e : ak_X3} {d : Nat} {ρ : List Nat} {h : ak_S} {Q : Int → ak_S → Prop} {X : Nat → ak_S → Prop} {u : Nat} (hu : u = 0 ∨ u = 1) {x1 x2 x3 : Int} (w :
  (8 ≤ x3 →
    ak_W0 e 0 d 137 ρ 29 [some (am_r ((ak_T u))), some (am_i x1), some (am_i x2), some (am_i x3)] [] h (ak_qi Q X))
  ∧ (x3 < 8 →
    (0 ≤ x1 ∧ x1 < (100 : Int)) ∧ (am_lsign ((Int64.ofInt (h.2.1 (ak_T u + 14) x1.toNat) >>> ((Int32.ofInt (am_w32 (5 * x3))).toInt64 &&& 63)).toInt) 0 = 0 →
      ak_W0 e 0 d 137 ρ 29 [some (am_r ((ak_T u))), some (am_i x1), some (am_i x2), some (am_i x3)] [] h (ak_qi Q X))
    ∧ (am_lsign ((Int64.ofInt (h.2.1 (ak_T u + 14) x1.toNat) >>> ((Int32.ofInt (am_w32 (5 * x3))).toInt64 &&& 63)).toInt) 0 ≠ 0 →
      ak_W0 e 0 d 137 ρ 2 [some (am_r ((ak_T u))), some (am_i x1), some (am_i x2), some (am_i (am_w32 (x3 + 1)))] [] h (ak_qi Q X)))) :
  ak_W0 e 0 d 137 ρ 2 [some (am_r ((ak_T u))), some (am_i x1), some (am_i x2), some (am_i x3)] [] h (ak_qi Q X) := by
  rcases hu with rfl | rfl
  · exact ak_k_ok am_cc137 400 [(2, [true, true, true, true]), (29, [true, true, true, true])] w
  · exact ak_k_ok am_cc137 400 [(2, [true, true, true, true]), (29, [true, true, true, true])] w
set_option maxRecDepth 100000 in
theorem am_k137_29 {e : ak_X3} {d : Nat} {ρ : List Nat} {h : ak_S} {Q : Int → ak_S → Prop} {X : Nat → ak_S → Prop} {u : Nat} (hu : u = 0 ∨ u = 1) {x1 x2 x3 : Int} (w :
  (x2 < 0 →
    Q 0 h)
  ∧ (0 ≤ x2 →
    (x2 < x3 →
      (0 ≤ x1 ∧ x1 < (100 : Int)) ∧ Q (am_w32 ((am_w32 ((am_w32 ((Int64.ofInt ((Int64.ofInt (h.2.1 (ak_T u + 14) x1.toNat) >>> ((Int32.ofInt (am_w32 (5 * (am_w32 ((am_w32 (x3 - 1)) - x2))))).toInt64 &&& 63)).toInt) &&& Int64.ofInt 31).toInt)) + 97)) - 1)) h)
    ∧ (x3 ≤ x2 →
      Q 0 h))) :
  ak_W0 e 0 d 137 ρ 29 [some (am_r ((ak_T u))), some (am_i x1), some (am_i x2), some (am_i x3)] [] h (ak_qi Q X) := by
  rcases hu with rfl | rfl
  · exact ak_k_ok am_cc137 400 [(2, [true, true, true, true]), (29, [true, true, true, true])] w
  · exact ak_k_ok am_cc137 400 [(2, [true, true, true, true]), (29, [true, true, true, true])] w
theorem am_cc139 : am_co am_P 139 = am_lk am_rw139 ∧ am_hl am_P 139 = [] ∧ am_rtag (am_re am_P 139) = 0 := ⟨rfl, rfl, rfl⟩
set_option maxRecDepth 100000 in
theorem am_k139_0 {e : ak_X3} {d : Nat} {ρ : List Nat} {h : ak_S} {Q : ak_S → Prop} {X : Nat → ak_S → Prop} (w :
  ak_W0 e 0 d 139 ρ 14 [some (am_r 49), some (am_i 0)] [] ((am_up (am_up h.1 49 14 0) 49 11 560), h.2) (ak_qv Q X)) :
  ak_W0 e 0 d 139 ρ 0 [some (am_r 49), none] [] h (ak_qv Q X) := ak_k_ok am_cc139 400 [(14, [true, true])] w
set_option maxRecDepth 100000 in
theorem am_k139_14 {e : ak_X3} {d : Nat} {ρ : List Nat} {h : ak_S} {Q : ak_S → Prop} {X : Nat → ak_S → Prop} {x1 : Int} (w :
  (560 ≤ x1 →
    Q h)
  ∧ (x1 < 560 →
    (0 ≤ x1 ∧ x1 < (560 : Int)) ∧ ak_W0 e 0 d 139 ρ 14 [some (am_r 49), some (am_i (am_w32 (x1 + 1)))] [] ((am_up h.1 60 x1.toNat (am_w32 (559 - x1))), h.2) (ak_qv Q X))) :
  ak_W0 e 0 d 139 ρ 14 [some (am_r 49), some (am_i x1)] [] h (ak_qv Q X) := ak_k_ok am_cc139 400 [(14, [true, true])] w
theorem am_cc140 : am_co am_P 140 = am_lk am_rw140 ∧ am_hl am_P 140 = [] ∧ am_rtag (am_re am_P 140) = 1 := ⟨rfl, rfl, rfl⟩
set_option maxRecDepth 100000 in
theorem am_k140_0 {e : ak_X3} {d : Nat} {ρ : List Nat} {h : ak_S} {Q : Int → ak_S → Prop} {X : Nat → ak_S → Prop} {x1 x2 : Int} (w :
  (0 < h.1 49 11 →
    (0 ≤ am_w32 ((h.1 49 11) - 1) ∧ am_w32 ((h.1 49 11) - 1) < (560 : Int)) ∧ ak_MV e 0 d ρ 364 [am_r 50, am_i (am_w32 ((h.1 60 (am_w32 ((h.1 49 11) - 1)).toNat) * 12)), am_i (am_w32 ((am_w32 ((h.1 60 (am_w32 ((h.1 49 11) - 1)).toNat) + 1)) * 12)), am_i 0] ((am_up h.1 49 11 (am_w32 ((h.1 49 11) - 1))), h.2) (fun h1 =>
      ak_MV e 0 d ρ 365 [am_r 51, am_i (am_w32 ((h.1 60 (am_w32 ((h.1 49 11) - 1)).toNat) * 12)), am_i (am_w32 ((am_w32 ((h.1 60 (am_w32 ((h.1 49 11) - 1)).toNat) + 1)) * 12)), am_l 0] h1 (fun h2 =>
        (0 ≤ h.1 60 (am_w32 ((h.1 49 11) - 1)).toNat ∧ h.1 60 (am_w32 ((h.1 49 11) - 1)).toNat < (560 : Int)) ∧ (0 ≤ x2 →
          (0 ≤ x2 ∧ x2 < (560 : Int)) ∧ (0 ≤ h.1 60 (am_w32 ((h.1 49 11) - 1)).toNat ∧ h.1 60 (am_w32 ((h.1 49 11) - 1)).toNat < (560 : Int)) ∧ (0 ≤ h.1 60 (am_w32 ((h.1 49 11) - 1)).toNat ∧ h.1 60 (am_w32 ((h.1 49 11) - 1)).toNat < (560 : Int)) ∧ ((0 ≤ h.1 60 (am_w32 ((h.1 49 11) - 1)).toNat ∧ h.1 60 (am_w32 ((h.1 49 11) - 1)).toNat < (560 : Int)) ∧ ((0 : Int) = 0 ∨ (0 : Int) = 1)) ∧ Q (h.1 60 (am_w32 ((h.1 49 11) - 1)).toNat) ((am_up (am_up (am_up (am_up h2.1 52 (h.1 60 (am_w32 ((h.1 49 11) - 1)).toNat).toNat x2) 53 (h.1 60 (am_w32 ((h.1 49 11) - 1)).toNat).toNat (h2.1 53 x2.toNat)) 54 (h.1 60 (am_w32 ((h.1 49 11) - 1)).toNat).toNat x1) 55 (h.1 60 (am_w32 ((h.1 49 11) - 1)).toNat).toNat 0), h2.2))
        ∧ (x2 < 0 →
          (0 ≤ h.1 60 (am_w32 ((h.1 49 11) - 1)).toNat ∧ h.1 60 (am_w32 ((h.1 49 11) - 1)).toNat < (560 : Int)) ∧ (0 ≤ h.1 60 (am_w32 ((h.1 49 11) - 1)).toNat ∧ h.1 60 (am_w32 ((h.1 49 11) - 1)).toNat < (560 : Int)) ∧ ((0 ≤ h.1 60 (am_w32 ((h.1 49 11) - 1)).toNat ∧ h.1 60 (am_w32 ((h.1 49 11) - 1)).toNat < (560 : Int)) ∧ ((0 : Int) = 0 ∨ (0 : Int) = 1)) ∧ Q (h.1 60 (am_w32 ((h.1 49 11) - 1)).toNat) ((am_up (am_up (am_up (am_up h2.1 52 (h.1 60 (am_w32 ((h.1 49 11) - 1)).toNat).toNat x2) 53 (h.1 60 (am_w32 ((h.1 49 11) - 1)).toNat).toNat (h.1 60 (am_w32 ((h.1 49 11) - 1)).toNat)) 54 (h.1 60 (am_w32 ((h.1 49 11) - 1)).toNat).toNat x1) 55 (h.1 60 (am_w32 ((h.1 49 11) - 1)).toNat).toNat 0), h2.2))) (fun _ _ => False)) (fun _ _ => False))
  ∧ (h.1 49 11 ≤ 0 →
    Q ((-1)) h)) :
  ak_W0 e 0 d 140 ρ 0 [some (am_r 49), some (am_i x1), some (am_i x2), none] [] h (ak_qi Q X) := ak_k_ok am_cc140 400 [] w
theorem am_cc141 : am_co am_P 141 = am_lk am_rw141 ∧ am_hl am_P 141 = [] ∧ am_rtag (am_re am_P 141) = 0 := ⟨rfl, rfl, rfl⟩
set_option maxRecDepth 100000 in
theorem am_k141_0 {e : ak_X3} {d : Nat} {ρ : List Nat} {h : ak_S} {Q : ak_S → Prop} {X : Nat → ak_S → Prop} {x1 x2 x3 x5 x6 : Int} (w :
  (0 ≤ x1 ∧ x1 < (560 : Int)) ∧ (0 ≤ x1 ∧ x1 < (560 : Int)) ∧ (0 ≤ x1 ∧ x1 < (560 : Int)) ∧ (0 ≤ x1 ∧ x1 < (560 : Int)) ∧ Q ((am_up (am_up (am_up h.1 56 x1.toNat x2) 58 x1.toNat x5) 59 x1.toNat x6), (am_up h.2.1 57 x1.toNat x3), h.2.2)) :
  ak_W0 e 0 d 141 ρ 0 [some (am_r 49), some (am_i x1), some (am_i x2), some (am_l x3), none, some (am_i x5), some (am_i x6)] [] h (ak_qv Q X) := ak_k_ok am_cc141 400 [] w
theorem am_cc142 : am_co am_P 142 = am_lk am_rw142 ∧ am_hl am_P 142 = [] ∧ am_rtag (am_re am_P 142) = 0 := ⟨rfl, rfl, rfl⟩
set_option maxRecDepth 100000 in
theorem am_k142_0 {e : ak_X3} {d : Nat} {ρ : List Nat} {h : ak_S} {Q : ak_S → Prop} {X : Nat → ak_S → Prop} {x1 : Int} (w :
  (0 ≤ x1 ∧ x1 < (560 : Int)) ∧ (0 ≤ x1 ∧ x1 < (560 : Int)) ∧ (h.1 55 x1.toNat ≠ 0 →
    Q ((am_up h.1 54 x1.toNat ((-1))), h.2))
  ∧ (h.1 55 x1.toNat = 0 →
    (560 ≤ h.1 49 11 →
      Q ((am_up h.1 54 x1.toNat ((-1))), h.2))
    ∧ (h.1 49 11 < 560 →
      (0 ≤ h.1 49 11 ∧ h.1 49 11 < (560 : Int)) ∧ Q ((am_up (am_up (am_up h.1 54 x1.toNat ((-1))) 60 (h.1 49 11).toNat x1) 49 11 (am_w32 ((h.1 49 11) + 1))), h.2)))) :
  ak_W0 e 0 d 142 ρ 0 [some (am_r 49), some (am_i x1)] [] h (ak_qv Q X) := ak_k_ok am_cc142 400 [] w
theorem am_cc143 : am_co am_P 143 = am_lk am_rw143 ∧ am_hl am_P 143 = [] ∧ am_rtag (am_re am_P 143) = 1 := ⟨rfl, rfl, rfl⟩
set_option maxRecDepth 100000 in
theorem am_k143_0 {e : ak_X3} {d : Nat} {ρ : List Nat} {h : ak_S} {Q : Int → ak_S → Prop} {X : Nat → ak_S → Prop} {x1 x2 : Int} (w :
  (h.1 49 14 < 500 →
    (0 ≤ h.1 49 14 ∧ h.1 49 14 < (500 : Int)) ∧ (0 ≤ h.1 49 14 ∧ h.1 49 14 < (500 : Int)) ∧ ((0 ≤ x2 ∧ x2 < (560 : Int)) ∧ ((1 : Int) = 0 ∨ (1 : Int) = 1)) ∧ Q (am_w32 ((am_w32 ((h.1 49 14) + 1)) - 1)) ((am_up (am_up (am_up (am_up h.1 61 (h.1 49 14).toNat x1) 62 (h.1 49 14).toNat x2) 55 x2.toNat 1) 49 14 (am_w32 ((h.1 49 14) + 1))), h.2))
  ∧ (500 ≤ h.1 49 14 →
    Q ((-1)) h)) :
  ak_W0 e 0 d 143 ρ 0 [some (am_r 49), some (am_i x1), some (am_i x2)] [] h (ak_qi Q X) := ak_k_ok am_cc143 400 [] w
theorem am_cc144 : am_co am_P 144 = am_lk am_rw144 ∧ am_hl am_P 144 = [] ∧ am_rtag (am_re am_P 144) = 1 := ⟨rfl, rfl, rfl⟩
set_option maxRecDepth 100000 in
theorem am_k144_0 {e : ak_X3} {d : Nat} {ρ : List Nat} {h : ak_S} {Q : Int → ak_S → Prop} {X : Nat → ak_S → Prop} {x1 x2 : Int} (w :
  (x1 ≠ 3 →
    Q ((-1)) h)
  ∧ (x1 = 3 →
    (am_lsign x2 0 < 0 →
      Q ((-1)) h)
    ∧ (0 ≤ am_lsign x2 0 →
      (0 ≤ am_lsign x2 (h.1 49 14) →
        Q ((-1)) h)
      ∧ (am_lsign x2 (h.1 49 14) < 0 →
        Q (am_w32 x2) h)))) :
  ak_W0 e 0 d 144 ρ 0 [some (am_r 49), some (am_i x1), some (am_l x2), none] [] h (ak_qi Q X) := ak_k_ok am_cc144 400 [] w
theorem am_cc145 : am_co am_P 145 = am_lk am_rw145 ∧ am_hl am_P 145 = [] ∧ am_rtag (am_re am_P 145) = 1 := ⟨rfl, rfl, rfl⟩
set_option maxRecDepth 100000 in
theorem am_k145_0 {e : ak_X3} {d : Nat} {ρ : List Nat} {h : ak_S} {Q : Int → ak_S → Prop} {X : Nat → ak_S → Prop} {x1 x2 : Int} (w :
  ak_W0 e 0 d 145 ρ 7 [some (am_r 49), none, some (am_i x2), some (am_i x1), some (am_i ((Int32.ofInt x2 >>> (Int32.ofInt 4 &&& 31)).toInt))] [] h (ak_qi Q X)) :
  ak_W0 e 0 d 145 ρ 0 [some (am_r 49), some (am_i x1), some (am_i x2), none, none] [] h (ak_qi Q X) := ak_k_ok am_cc145 400 [(7, [true, false, true, true, true])] w
set_option maxRecDepth 100000 in
theorem am_k145_7 {e : ak_X3} {d : Nat} {ρ : List Nat} {h : ak_S} {Q : Int → ak_S → Prop} {X : Nat → ak_S → Prop} {x2 x3 x4 : Int} (w :
  (x4 ≤ 0 →
    Q (am_w32 ((am_w32 (x3 * 12)) + ((if (Int32.ofInt x2 &&& Int32.ofInt 15).toInt < 11 then (Int32.ofInt x2 &&& Int32.ofInt 15).toInt else 11)))) h)
  ∧ (0 < x4 →
    (0 ≤ x3 ∧ x3 < (560 : Int)) ∧ (h.1 52 x3.toNat < 0 →
      Q (am_w32 ((am_w32 (x3 * 12)) + ((if (Int32.ofInt x2 &&& Int32.ofInt 15).toInt < 11 then (Int32.ofInt x2 &&& Int32.ofInt 15).toInt else 11)))) h)
    ∧ (0 ≤ h.1 52 x3.toNat →
      (0 ≤ x3 ∧ x3 < (560 : Int)) ∧ ak_W0 e 0 d 145 ρ 7 [some (am_r 49), none, some (am_i x2), some (am_i (h.1 52 x3.toNat)), some (am_i (am_w32 (x4 + (-1))))] [] h (ak_qi Q X)))) :
  ak_W0 e 0 d 145 ρ 7 [some (am_r 49), none, some (am_i x2), some (am_i x3), some (am_i x4)] [] h (ak_qi Q X) := ak_k_ok am_cc145 400 [(7, [true, false, true, true, true])] w
theorem am_cc146 : am_co am_P 146 = am_lk am_rw146 ∧ am_hl am_P 146 = [] ∧ am_rtag (am_re am_P 146) = 0 := ⟨rfl, rfl, rfl⟩
set_option maxRecDepth 100000 in
theorem am_k146_0 {e : ak_X3} {d : Nat} {ρ : List Nat} {h : ak_S} {Q : ak_S → Prop} {X : Nat → ak_S → Prop} {x1 x2 x3 x4 : Int} (w :
  ak_MI e 0 d ρ 145 [am_r 49, am_i x1, am_i x2] h (fun v2 h1 =>
    (0 ≤ v2 ∧ v2 < (6720 : Int)) ∧ (0 ≤ v2 ∧ v2 < (6720 : Int)) ∧ Q ((am_up h1.1 50 v2.toNat x3), (am_up h1.2.1 51 v2.toNat x4), h1.2.2)) (fun _ _ => False)) :
  ak_W0 e 0 d 146 ρ 0 [some (am_r 49), some (am_i x1), some (am_i x2), some (am_i x3), some (am_l x4), none, none] [] h (ak_qv Q X) := ak_k_ok am_cc146 400 [] w
theorem am_cc148 : am_co am_P 148 = am_lk am_rw148 ∧ am_hl am_P 148 = [] ∧ am_rtag (am_re am_P 148) = 0 := ⟨rfl, rfl, rfl⟩
set_option maxRecDepth 100000 in
theorem am_k148_0 {e : ak_X3} {d : Nat} {ρ : List Nat} {h : ak_S} {Q : ak_S → Prop} {X : Nat → ak_S → Prop} (w :
  (0 ≤ (0 : Int) ∧ (0 : Int) < (400 : Int)) ∧ (0 ≤ (0 : Int) ∧ (0 : Int) < (400 : Int)) ∧ ak_W0 e 0 d 148 ρ 26 [some (am_r 33), some (am_i 0)] [] ((am_up (am_up (am_up (am_up h.1 33 4 1) 37 0 0) 38 0 0) 33 0 0), h.2) (ak_qv Q X)) :
  ak_W0 e 0 d 148 ρ 0 [some (am_r 33), none] [] h (ak_qv Q X) := ak_k_ok am_cc148 400 [(26, [true, true])] w
set_option maxRecDepth 100000 in
theorem am_k148_26 {e : ak_X3} {d : Nat} {ρ : List Nat} {h : ak_S} {Q : ak_S → Prop} {X : Nat → ak_S → Prop} {x1 : Int} (w :
  (4 ≤ x1 →
    Q h)
  ∧ (x1 < 4 →
    ak_MI e 0 d ρ 149 [am_r 33] h (fun v2 h1 =>
      ak_W0 e 0 d 148 ρ 26 [some (am_r 33), some (am_i (am_w32 (x1 + 1)))] [] h1 (ak_qv Q X)) (fun _ _ => False))) :
  ak_W0 e 0 d 148 ρ 26 [some (am_r 33), some (am_i x1)] [] h (ak_qv Q X) := ak_k_ok am_cc148 400 [(26, [true, true])] w
theorem am_cc149 : am_co am_P 149 = am_lk am_rw149 ∧ am_hl am_P 149 = [] ∧ am_rtag (am_re am_P 149) = 1 := ⟨rfl, rfl, rfl⟩
set_option maxRecDepth 100000 in
theorem am_k149_0 {e : ak_X3} {d : Nat} {ρ : List Nat} {h : ak_S} {Q : Int → ak_S → Prop} {X : Nat → ak_S → Prop} (w :
  (h.1 33 0 < 200 →
    (0 ≤ h.1 33 0 ∧ h.1 33 0 < (200 : Int)) ∧ Q (am_w32 ((am_w32 ((h.1 33 0) + 1)) - 1)) ((am_up (am_up h.1 34 (h.1 33 0).toNat 0) 33 0 (am_w32 ((h.1 33 0) + 1))), h.2))
  ∧ (200 ≤ h.1 33 0 →
    Q ((-1)) h)) :
  ak_W0 e 0 d 149 ρ 0 [some (am_r 33)] [] h (ak_qi Q X) := ak_k_ok am_cc149 400 [] w
theorem am_cc150 : am_co am_P 150 = am_lk am_rw150 ∧ am_hl am_P 150 = [] ∧ am_rtag (am_re am_P 150) = 1 := ⟨rfl, rfl, rfl⟩
set_option maxRecDepth 100000 in
theorem am_k150_0 {e : ak_X3} {d : Nat} {ρ : List Nat} {h : ak_S} {Q : Int → ak_S → Prop} {X : Nat → ak_S → Prop} {x1 : Int} (w :
  ak_MI e 0 d ρ 149 [am_r 33] h (fun v2 h1 =>
    (v2 < 0 →
      Q v2 h1)
    ∧ (0 ≤ v2 →
      (0 ≤ x1 ∧ x1 < (200 : Int)) ∧ (0 ≤ v2 ∧ v2 < (200 : Int)) ∧ (0 ≤ am_w32 (x1 * 12) ∧ 0 ≤ am_w32 (v2 * 12) ∧ 0 ≤ (12 : Int) ∧ am_w32 (x1 * 12) + (12 : Int) ≤ (2400 : Int) ∧ am_w32 (v2 * 12) + (12 : Int) ≤ (2400 : Int)) ∧ (0 ≤ am_w32 (x1 * 12) ∧ 0 ≤ am_w32 (v2 * 12) ∧ 0 ≤ (12 : Int) ∧ am_w32 (x1 * 12) + (12 : Int) ≤ (2400 : Int) ∧ am_w32 (v2 * 12) + (12 : Int) ≤ (2400 : Int)) ∧ Q v2 ((am_cpy (am_up h1.1 34 v2.toNat (h1.1 34 x1.toNat)) 35 35 (am_w32 (x1 * 12)).toNat (am_w32 (v2 * 12)).toNat 12), (am_cpy h1.2.1 36 36 (am_w32 (x1 * 12)).toNat (am_w32 (v2 * 12)).toNat 12), h1.2.2))) (fun _ _ => False)) :
  ak_W0 e 0 d 150 ρ 0 [some (am_r 33), some (am_i x1), none] [] h (ak_qi Q X) := ak_k_ok am_cc150 400 [] w
theorem am_cc151 : am_co am_P 151 = am_lk am_rw151 ∧ am_hl am_P 151 = [] ∧ am_rtag (am_re am_P 151) = 1 := ⟨rfl, rfl, rfl⟩
set_option maxRecDepth 100000 in
theorem am_k151_0 {e : ak_X3} {d : Nat} {ρ : List Nat} {h : ak_S} {Q : Int → ak_S → Prop} {X : Nat → ak_S → Prop} {x1 x2 : Int} (w :
  (x1 ≠ 2 →
    Q ((-1)) h)
  ∧ (x1 = 2 →
    (am_lsign x2 0 < 0 →
      Q ((-1)) h)
    ∧ (0 ≤ am_lsign x2 0 →
      (0 ≤ am_lsign x2 (h.1 33 0) →
        Q ((-1)) h)
      ∧ (am_lsign x2 (h.1 33 0) < 0 →
        Q (am_w32 x2) h)))) :
  ak_W0 e 0 d 151 ρ 0 [some (am_r 33), some (am_i x1), some (am_l x2), none] [] h (ak_qi Q X) := ak_k_ok am_cc151 400 [] w
theorem am_cc152 : am_co am_P 152 = am_lk am_rw152 ∧ am_hl am_P 152 = [] ∧ am_rtag (am_re am_P 152) = 1 := ⟨rfl, rfl, rfl⟩
set_option maxRecDepth 100000 in
theorem am_k152_0 {e : ak_X3} {d : Nat} {ρ : List Nat} {h : ak_S} {Q : Int → ak_S → Prop} {X : Nat → ak_S → Prop} {x1 x2 : Int} (w :
  ak_MI e 0 d ρ 151 [am_r 33, am_i x1, am_l x2] h (fun v2 h1 =>
    (v2 < 0 →
      (x1 ≠ 1 →
        (x1 ≠ 3 →
          Q 3 h1)
        ∧ (x1 = 3 →
          Q 2 h1))
      ∧ (x1 = 1 →
        Q 1 h1))
    ∧ (0 ≤ v2 →
      Q v2 h1)) (fun _ _ => False)) :
  ak_W0 e 0 d 152 ρ 0 [some (am_r 33), some (am_i x1), some (am_l x2), none, none] [] h (ak_qi Q X) := ak_k_ok am_cc152 400 [] w
theorem am_cc153 : am_co am_P 153 = am_lk am_rw153 ∧ am_hl am_P 153 = [] ∧ am_rtag (am_re am_P 153) = 1 := ⟨rfl, rfl, rfl⟩
set_option maxRecDepth 100000 in
theorem am_k153_0 {e : ak_X3} {d : Nat} {ρ : List Nat} {h : ak_S} {Q : Int → ak_S → Prop} {X : Nat → ak_S → Prop} {x1 x2 : Int} (w :
  ak_W0 e 0 d 153 ρ 8 [some (am_r 33), some (am_i x1), some (am_i x2), some (am_i (am_w32 (x1 * 12))), some (am_i 0)] [] h (ak_qi Q X)) :
  ak_W0 e 0 d 153 ρ 0 [some (am_r 33), some (am_i x1), some (am_i x2), none, none] [] h (ak_qi Q X) := ak_k_ok am_cc153 400 [(8, [true, true, true, true, true])] w
set_option maxRecDepth 100000 in
theorem am_k153_8 {e : ak_X3} {d : Nat} {ρ : List Nat} {h : ak_S} {Q : Int → ak_S → Prop} {X : Nat → ak_S → Prop} {x1 x2 x3 x4 : Int} (w :
  (0 ≤ x1 ∧ x1 < (400 : Int)) ∧ (h.1 37 x1.toNat ≤ x4 →
    Q ((-1)) h)
  ∧ (x4 < h.1 37 x1.toNat →
    (0 ≤ am_w32 (x3 + x4) ∧ am_w32 (x3 + x4) < (4800 : Int)) ∧ (h.1 40 (am_w32 (x3 + x4)).toNat ≠ x2 →
      ak_W0 e 0 d 153 ρ 8 [some (am_r 33), some (am_i x1), some (am_i x2), some (am_i x3), some (am_i (am_w32 (x4 + 1)))] [] h (ak_qi Q X))
    ∧ (h.1 40 (am_w32 (x3 + x4)).toNat = x2 →
      (0 ≤ am_w32 (x3 + x4) ∧ am_w32 (x3 + x4) < (4800 : Int)) ∧ (h.1 39 (am_w32 (x3 + x4)).toNat = 2 →
        ak_W0 e 0 d 153 ρ 8 [some (am_r 33), some (am_i x1), some (am_i x2), some (am_i x3), some (am_i (am_w32 (x4 + 1)))] [] h (ak_qi Q X))
      ∧ (h.1 39 (am_w32 (x3 + x4)).toNat ≠ 2 →
        Q x4 h)))) :
  ak_W0 e 0 d 153 ρ 8 [some (am_r 33), some (am_i x1), some (am_i x2), some (am_i x3), some (am_i x4)] [] h (ak_qi Q X) := ak_k_ok am_cc153 400 [(8, [true, true, true, true, true])] w
theorem am_cc154 : am_co am_P 154 = am_lk am_rw154 ∧ am_hl am_P 154 = [] ∧ am_rtag (am_re am_P 154) = 1 := ⟨rfl, rfl, rfl⟩
set_option maxRecDepth 100000 in
theorem am_k154_0 {e : ak_X3} {d : Nat} {ρ : List Nat} {h : ak_S} {Q : Int → ak_S → Prop} {X : Nat → ak_S → Prop} {x1 x2 : Int} (w :
  ak_W0 e 0 d 154 ρ 8 [some (am_r 33), some (am_i x1), some (am_i x2), some (am_i (am_w32 (x1 * 12))), some (am_i 0)] [] h (ak_qi Q X)) :
  ak_W0 e 0 d 154 ρ 0 [some (am_r 33), some (am_i x1), some (am_i x2), none, none] [] h (ak_qi Q X) := ak_k_ok am_cc154 400 [(8, [true, true, true, true, true])] w
set_option maxRecDepth 100000 in
theorem am_k154_8 {e : ak_X3} {d : Nat} {ρ : List Nat} {h : ak_S} {Q : Int → ak_S → Prop} {X : Nat → ak_S → Prop} {x1 x2 x3 x4 : Int} (w :
  (0 ≤ x1 ∧ x1 < (400 : Int)) ∧ (h.1 37 x1.toNat ≤ x4 →
    Q ((-1)) h)
  ∧ (x4 < h.1 37 x1.toNat →
    (0 ≤ am_w32 (x3 + x4) ∧ am_w32 (x3 + x4) < (4800 : Int)) ∧ (h.1 40 (am_w32 (x3 + x4)).toNat ≠ x2 →
      ak_W0 e 0 d 154 ρ 8 [some (am_r 33), some (am_i x1), some (am_i x2), some (am_i x3), some (am_i (am_w32 (x4 + 1)))] [] h (ak_qi Q X))
    ∧ (h.1 40 (am_w32 (x3 + x4)).toNat = x2 →
      (0 ≤ am_w32 (x3 + x4) ∧ am_w32 (x3 + x4) < (4800 : Int)) ∧ (h.1 39 (am_w32 (x3 + x4)).toNat ≠ 2 →
        ak_W0 e 0 d 154 ρ 8 [some (am_r 33), some (am_i x1), some (am_i x2), some (am_i x3), some (am_i (am_w32 (x4 + 1)))] [] h (ak_qi Q X))
      ∧ (h.1 39 (am_w32 (x3 + x4)).toNat = 2 →
        Q x4 h)))) :
  ak_W0 e 0 d 154 ρ 8 [some (am_r 33), some (am_i x1), some (am_i x2), some (am_i x3), some (am_i x4)] [] h (ak_qi Q X) := ak_k_ok am_cc154 400 [(8, [true, true, true, true, true])] w
theorem am_cc155 : am_co am_P 155 = am_lk am_rw155 ∧ am_hl am_P 155 = [] ∧ am_rtag (am_re am_P 155) = 0 := ⟨rfl, rfl, rfl⟩
set_option maxRecDepth 100000 in
theorem am_k155_0 {e : ak_X3} {d : Nat} {ρ : List Nat} {h : ak_S} {Q : ak_S → Prop} {X : Nat → ak_S → Prop} {x1 x2 x3 x4 : Int} (w :
  (0 ≤ am_w32 ((am_w32 (x1 * 12)) + x2) ∧ am_w32 ((am_w32 (x1 * 12)) + x2) < (2400 : Int)) ∧ (0 ≤ am_w32 ((am_w32 (x1 * 12)) + x2) ∧ am_w32 ((am_w32 (x1 * 12)) + x2) < (2400 : Int)) ∧ Q ((am_up h.1 35 (am_w32 ((am_w32 (x1 * 12)) + x2)).toNat x3), (am_up h.2.1 36 (am_w32 ((am_w32 (x1 * 12)) + x2)).toNat x4), h.2.2)) :
  ak_W0 e 0 d 155 ρ 0 [some (am_r 33), some (am_i x1), some (am_i x2), some (am_i x3), some (am_l x4), none] [] h (ak_qv Q X) := ak_k_ok am_cc155 400 [] w
theorem am_cc156 : am_co am_P 156 = am_lk am_rw156 ∧ am_hl am_P 156 = [] ∧ am_rtag (am_re am_P 156) = 1 := ⟨rfl, rfl, rfl⟩
set_option maxRecDepth 100000 in
theorem am_k156_0 {e : ak_X3} {d : Nat} {ρ : List Nat} {h : ak_S} {Q : Int → ak_S → Prop} {X : Nat → ak_S → Prop} {x1 x2 x3 x4 x5 : Int} (w :
  (0 ≤ x2 ∧ x2 < (200 : Int)) ∧ (x1 < 3 →
    ak_MI e 0 d ρ 153 [am_r 33, am_i (h.1 34 x2.toNat), am_i x3] h (fun v2 h1 =>
      ak_W0 e 0 d 156 ρ 30 [some (am_r 33), some (am_i x1), some (am_i x2), some (am_i x3), some (am_i x4), some (am_l x5), none, some (am_i (h.1 34 x2.toNat)), none, none] [am_i v2] h1 (ak_qi Q X)) (fun _ _ => False))
  ∧ (3 ≤ x1 →
    ak_MI e 0 d ρ 154 [am_r 33, am_i (h.1 34 x2.toNat), am_i x3] h (fun v4 h3 =>
      ak_W0 e 0 d 156 ρ 30 [some (am_r 33), some (am_i x1), some (am_i x2), some (am_i x3), some (am_i x4), some (am_l x5), none, some (am_i (h.1 34 x2.toNat)), none, none] [am_i v4] h3 (ak_qi Q X)) (fun _ _ => False))) :
  ak_W0 e 0 d 156 ρ 0 [some (am_r 33), some (am_i x1), some (am_i x2), some (am_i x3), some (am_i x4), some (am_l x5), none, none, none, none] [] h (ak_qi Q X) := ak_k_ok am_cc156 400 [(30, [true, true, true, true, true, true, false, true, false, false]), (78, [true, false, true, true, true, true, false, true, true, false])] w
set_option maxRecDepth 100000 in
theorem am_k156_30 {e : ak_X3} {d : Nat} {ρ : List Nat} {h : ak_S} {Q : Int → ak_S → Prop} {X : Nat → ak_S → Prop} {x1 x2 x3 x4 x5 x7 y0 : Int} (w :
  (x1 = 2 →
    (0 ≤ y0 →
      ak_MI e 0 d ρ 158 [am_r 33, am_i x2, am_i y0] h (fun v2 h1 =>
        Q v2 h1) (fun _ _ => False))
    ∧ (y0 < 0 →
      Q 7 h))
  ∧ (x1 ≠ 2 →
    (x1 ≠ 4 →
      (x1 ≠ 0 →
        (x1 ≠ 1 →
          ak_W0 e 0 d 156 ρ 78 [some (am_r 33), none, some (am_i x2), some (am_i x3), some (am_i x4), some (am_l x5), none, some (am_i x7), some (am_i y0), none] [am_i 2] h (ak_qi Q X))
        ∧ (x1 = 1 →
          ak_W0 e 0 d 156 ρ 78 [some (am_r 33), none, some (am_i x2), some (am_i x3), some (am_i x4), some (am_l x5), none, some (am_i x7), some (am_i y0), none] [am_i 1] h (ak_qi Q X)))
      ∧ (x1 = 0 →
        ak_W0 e 0 d 156 ρ 78 [some (am_r 33), none, some (am_i x2), some (am_i x3), some (am_i x4), some (am_l x5), none, some (am_i x7), some (am_i y0), none] [am_i 0] h (ak_qi Q X)))
    ∧ (x1 = 4 →
      (0 ≤ y0 →
        ak_MI e 0 d ρ 158 [am_r 33, am_i x2, am_i y0] h (fun v4 h3 =>
          Q v4 h3) (fun _ _ => False))
      ∧ (y0 < 0 →
        Q 7 h)))) :
  ak_W0 e 0 d 156 ρ 30 [some (am_r 33), some (am_i x1), some (am_i x2), some (am_i x3), some (am_i x4), some (am_l x5), none, some (am_i x7), none, none] [am_i y0] h (ak_qi Q X) := ak_k_ok am_cc156 400 [(30, [true, true, true, true, true, true, false, true, false, false]), (78, [true, false, true, true, true, true, false, true, true, false])] w
set_option maxRecDepth 100000 in
theorem am_k156_78 {e : ak_X3} {d : Nat} {ρ : List Nat} {h : ak_S} {Q : Int → ak_S → Prop} {X : Nat → ak_S → Prop} {x2 x3 x4 x5 x7 x8 y0 : Int} (w :
  (0 ≤ x8 →
    (y0 = 2 →
      Q 7 h)
    ∧ (y0 ≠ 2 →
      (0 ≤ am_w32 ((am_w32 (x7 * 12)) + x8) ∧ am_w32 ((am_w32 (x7 * 12)) + x8) < (4800 : Int)) ∧ (h.1 39 (am_w32 ((am_w32 (x7 * 12)) + x8)).toNat = y0 →
        ak_MV e 0 d ρ 155 [am_r 33, am_i x2, am_i x8, am_i x4, am_l x5] h (fun h1 =>
          Q 0 h1) (fun _ _ => False))
      ∧ (h.1 39 (am_w32 ((am_w32 (x7 * 12)) + x8)).toNat ≠ y0 →
        Q 7 h)))
  ∧ (x8 < 0 →
    ak_MI e 0 d ρ 157 [am_r 33, am_i x2, am_i y0, am_i x3, am_i x4, am_l x5] h (fun v3 h2 =>
      Q v3 h2) (fun _ _ => False))) :
  ak_W0 e 0 d 156 ρ 78 [some (am_r 33), none, some (am_i x2), some (am_i x3), some (am_i x4), some (am_l x5), none, some (am_i x7), some (am_i x8), none] [am_i y0] h (ak_qi Q X) := ak_k_ok am_cc156 400 [(30, [true, true, true, true, true, true, false, true, false, false]), (78, [true, false, true, true, true, true, false, true, true, false])] w
theorem am_cc157 : am_co am_P 157 = am_lk am_rw157 ∧ am_hl am_P 157 = [] ∧ am_rtag (am_re am_P 157) = 1 := ⟨rfl, rfl, rfl⟩
set_option maxRecDepth 100000 in
theorem am_k157_0 {e : ak_X3} {d : Nat} {ρ : List Nat} {h : ak_S} {Q : Int → ak_S → Prop} {X : Nat → ak_S → Prop} {x1 x2 x3 x4 x5 : Int} (w :
  (0 ≤ x1 ∧ x1 < (200 : Int)) ∧ (0 ≤ h.1 34 x1.toNat ∧ h.1 34 x1.toNat < (400 : Int)) ∧ (h.1 37 (h.1 34 x1.toNat).toNat < 12 →
    (0 ≤ x1 ∧ x1 < (200 : Int)) ∧ ak_MI e 0 d ρ 159 [am_r 33, am_i (h.1 34 x1.toNat), am_i x2, am_i x3] h (fun v2 h1 =>
      (0 ≤ v2 →
        ak_W0 e 0 d 157 ρ 56 [some (am_r 33), some (am_i x1), none, none, some (am_i x4), some (am_l x5), none, some (am_i (h.1 37 (h.1 34 x1.toNat).toNat)), some (am_i v2)] [] h1 (ak_qi Q X))
      ∧ (v2 < 0 →
        (0 ≤ x1 ∧ x1 < (200 : Int)) ∧ ak_MI e 0 d ρ 160 [am_r 33, am_i (h1.1 34 x1.toNat), am_i x2, am_i x3] h1 (fun v4 h3 =>
          ak_W0 e 0 d 157 ρ 56 [some (am_r 33), some (am_i x1), none, none, some (am_i x4), some (am_l x5), none, some (am_i (h.1 37 (h.1 34 x1.toNat).toNat)), some (am_i v4)] [] h3 (ak_qi Q X)) (fun _ _ => False))) (fun _ _ => False))
  ∧ (12 ≤ h.1 37 (h.1 34 x1.toNat).toNat →
    Q 8 h)) :
  ak_W0 e 0 d 157 ρ 0 [some (am_r 33), some (am_i x1), some (am_i x2), some (am_i x3), some (am_i x4), some (am_l x5), none, none, none] [] h (ak_qi Q X) := ak_k_ok am_cc157 400 [(56, [true, true, false, false, true, true, false, true, true])] w
set_option maxRecDepth 100000 in
theorem am_k157_56 {e : ak_X3} {d : Nat} {ρ : List Nat} {h : ak_S} {Q : Int → ak_S → Prop} {X : Nat → ak_S → Prop} {x1 x4 x5 x7 x8 : Int} (w :
  (0 ≤ x8 →
    ak_MV e 0 d ρ 155 [am_r 33, am_i x1, am_i x7, am_i x4, am_l x5] h (fun h1 =>
      (0 ≤ x1 ∧ x1 < (200 : Int)) ∧ Q 0 ((am_up h1.1 34 x1.toNat x8), h1.2)) (fun _ _ => False))
  ∧ (x8 < 0 →
    Q 8 h)) :
  ak_W0 e 0 d 157 ρ 56 [some (am_r 33), some (am_i x1), none, none, some (am_i x4), some (am_l x5), none, some (am_i x7), some (am_i x8)] [] h (ak_qi Q X) := ak_k_ok am_cc157 400 [(56, [true, true, false, false, true, true, false, true, true])] w
theorem am_cc158 : am_co am_P 158 = am_lk am_rw158 ∧ am_hl am_P 158 = [] ∧ am_rtag (am_re am_P 158) = 1 := ⟨rfl, rfl, rfl⟩
set_option maxRecDepth 100000 in
theorem am_k158_0 {e : ak_X3} {d : Nat} {ρ : List Nat} {h : ak_S} {Q : Int → ak_S → Prop} {X : Nat → ak_S → Prop} {x1 x2 : Int} (w :
  (0 ≤ x1 ∧ x1 < (200 : Int)) ∧ (0 ≤ h.1 34 x1.toNat ∧ h.1 34 x1.toNat < (400 : Int)) ∧ ak_W0 e 0 d 158 ρ 18 [some (am_r 33), some (am_i x1), some (am_i x2), some (am_i (h.1 34 x1.toNat)), some (am_i (h.1 34 x1.toNat)), some (am_i (h.1 37 (h.1 34 x1.toNat).toNat)), none] [] h (ak_qi Q X)) :
  ak_W0 e 0 d 158 ρ 0 [some (am_r 33), some (am_i x1), some (am_i x2), none, none, none, none] [] h (ak_qi Q X) := ak_k_ok am_cc158 400 [(18, [true, true, true, true, true, true, false]), (44, [true, true, true, true, true, true, false]), (105, [true, true, true, true, true, true, false]), (132, [true, true, true, true, true, false, true]), (190, [true, true, false, true, true, false, true])] w
set_option maxRecDepth 100000 in
theorem am_k158_18 {e : ak_X3} {d : Nat} {ρ : List Nat} {h : ak_S} {Q : Int → ak_S → Prop} {X : Nat → ak_S → Prop} {x1 x2 x3 x4 x5 : Int} (w :
  (x5 ≤ x2 →
    ak_W0 e 0 d 158 ρ 44 [some (am_r 33), some (am_i x1), some (am_i x2), some (am_i x3), some (am_i x4), some (am_i (am_w32 (x2 + 1))), none] [] h (ak_qi Q X))
  ∧ (x2 < x5 →
    (0 ≤ x4 ∧ x4 < (400 : Int)) ∧ ak_W0 e 0 d 158 ρ 18 [some (am_r 33), some (am_i x1), some (am_i x2), some (am_i x3), some (am_i (h.1 38 x4.toNat)), some (am_i (am_w32 (x5 + (-1)))), none] [] h (ak_qi Q X))) :
  ak_W0 e 0 d 158 ρ 18 [some (am_r 33), some (am_i x1), some (am_i x2), some (am_i x3), some (am_i x4), some (am_i x5), none] [] h (ak_qi Q X) := ak_k_ok am_cc158 400 [(18, [true, true, true, true, true, true, false]), (44, [true, true, true, true, true, true, false]), (105, [true, true, true, true, true, true, false]), (132, [true, true, true, true, true, false, true]), (190, [true, true, false, true, true, false, true])] w
set_option maxRecDepth 100000 in
theorem am_k158_44 {e : ak_X3} {d : Nat} {ρ : List Nat} {h : ak_S} {Q : Int → ak_S → Prop} {X : Nat → ak_S → Prop} {x1 x2 x3 x4 x5 : Int} (w :
  (0 ≤ x3 ∧ x3 < (400 : Int)) ∧ (h.1 37 x3.toNat ≤ x5 →
    ak_W0 e 0 d 158 ρ 105 [some (am_r 33), some (am_i x1), some (am_i x2), some (am_i x3), some (am_i x4), some (am_i x5), none] [] h (ak_qi Q X))
  ∧ (x5 < h.1 37 x3.toNat →
    (0 ≤ am_w32 ((am_w32 (x3 * 12)) + x5) ∧ am_w32 ((am_w32 (x3 * 12)) + x5) < (4800 : Int)) ∧ (0 ≤ am_w32 ((am_w32 (x3 * 12)) + x5) ∧ am_w32 ((am_w32 (x3 * 12)) + x5) < (4800 : Int)) ∧ ak_MI e 0 d ρ 159 [am_r 33, am_i x4, am_i (h.1 39 (am_w32 ((am_w32 (x3 * 12)) + x5)).toNat), am_i (h.1 40 (am_w32 ((am_w32 (x3 * 12)) + x5)).toNat)] h (fun v2 h1 =>
      (0 ≤ v2 →
        ak_W0 e 0 d 158 ρ 44 [some (am_r 33), some (am_i x1), some (am_i x2), some (am_i x3), some (am_i v2), some (am_i (am_w32 (x5 + 1))), none] [] h1 (ak_qi Q X))
      ∧ (v2 < 0 →
        ak_W0 e 0 d 158 ρ 105 [some (am_r 33), some (am_i x1), some (am_i x2), some (am_i x3), some (am_i x4), some (am_i x5), none] [] h1 (ak_qi Q X))) (fun _ _ => False))) :
  ak_W0 e 0 d 158 ρ 44 [some (am_r 33), some (am_i x1), some (am_i x2), some (am_i x3), some (am_i x4), some (am_i x5), none] [] h (ak_qi Q X) := ak_k_ok am_cc158 400 [(18, [true, true, true, true, true, true, false]), (44, [true, true, true, true, true, true, false]), (105, [true, true, true, true, true, true, false]), (132, [true, true, true, true, true, false, true]), (190, [true, true, false, true, true, false, true])] w
set_option maxRecDepth 100000 in
theorem am_k158_105 {e : ak_X3} {d : Nat} {ρ : List Nat} {h : ak_S} {Q : Int → ak_S → Prop} {X : Nat → ak_S → Prop} {x1 x2 x3 x4 x5 : Int} (w :
  (0 ≤ x3 ∧ x3 < (400 : Int)) ∧ (am_w32 ((h.1 37 x3.toNat) - x5) ≤ am_w32 (400 - (h.1 33 4)) →
    ak_W0 e 0 d 158 ρ 132 [some (am_r 33), some (am_i x1), some (am_i x2), some (am_i x3), some (am_i x4), none, some (am_i x5)] [] h (ak_qi Q X))
  ∧ (am_w32 (400 - (h.1 33 4)) < am_w32 ((h.1 37 x3.toNat) - x5) →
    Q 8 h)) :
  ak_W0 e 0 d 158 ρ 105 [some (am_r 33), some (am_i x1), some (am_i x2), some (am_i x3), some (am_i x4), some (am_i x5), none] [] h (ak_qi Q X) := ak_k_ok am_cc158 400 [(18, [true, true, true, true, true, true, false]), (44, [true, true, true, true, true, true, false]), (105, [true, true, true, true, true, true, false]), (132, [true, true, true, true, true, false, true]), (190, [true, true, false, true, true, false, true])] w
set_option maxRecDepth 100000 in
theorem am_k158_132 {e : ak_X3} {d : Nat} {ρ : List Nat} {h : ak_S} {Q : Int → ak_S → Prop} {X : Nat → ak_S → Prop} {x1 x2 x3 x4 x6 : Int} (w :
  (0 ≤ x3 ∧ x3 < (400 : Int)) ∧ (h.1 37 x3.toNat ≤ x6 →
    ak_W0 e 0 d 158 ρ 190 [some (am_r 33), some (am_i x1), none, some (am_i x3), some (am_i x4), none, some (am_i (am_w32 (x2 + 1)))] [] h (ak_qi Q X))
  ∧ (x6 < h.1 37 x3.toNat →
    (0 ≤ am_w32 ((am_w32 (x3 * 12)) + x6) ∧ am_w32 ((am_w32 (x3 * 12)) + x6) < (4800 : Int)) ∧ (0 ≤ am_w32 ((am_w32 (x3 * 12)) + x6) ∧ am_w32 ((am_w32 (x3 * 12)) + x6) < (4800 : Int)) ∧ ak_MI e 0 d ρ 160 [am_r 33, am_i x4, am_i (h.1 39 (am_w32 ((am_w32 (x3 * 12)) + x6)).toNat), am_i (h.1 40 (am_w32 ((am_w32 (x3 * 12)) + x6)).toNat)] h (fun v2 h1 =>
      ak_W0 e 0 d 158 ρ 132 [some (am_r 33), some (am_i x1), some (am_i x2), some (am_i x3), some (am_i ((if 0 < v2 then v2 else 0))), none, some (am_i (am_w32 (x6 + 1)))] [] h1 (ak_qi Q X)) (fun _ _ => False))) :
  ak_W0 e 0 d 158 ρ 132 [some (am_r 33), some (am_i x1), some (am_i x2), some (am_i x3), some (am_i x4), none, some (am_i x6)] [] h (ak_qi Q X) := ak_k_ok am_cc158 400 [(18, [true, true, true, true, true, true, false]), (44, [true, true, true, true, true, true, false]), (105, [true, true, true, true, true, true, false]), (132, [true, true, true, true, true, false, true]), (190, [true, true, false, true, true, false, true])] w
set_option maxRecDepth 100000 in
theorem am_k158_190 {e : ak_X3} {d : Nat} {ρ : List Nat} {h : ak_S} {Q : Int → ak_S → Prop} {X : Nat → ak_S → Prop} {x1 x3 x4 x6 : Int} (w :
  (0 ≤ x3 ∧ x3 < (400 : Int)) ∧ (h.1 37 x3.toNat ≤ x6 →
    (0 ≤ x1 ∧ x1 < (200 : Int)) ∧ Q 0 ((am_up h.1 34 x1.toNat x4), h.2))
  ∧ (x6 < h.1 37 x3.toNat →
    (0 ≤ am_w32 ((am_w32 (x1 * 12)) + x6) ∧ am_w32 ((am_w32 (x1 * 12)) + x6) < (2400 : Int)) ∧ (0 ≤ am_w32 ((am_w32 (x1 * 12)) + x6) ∧ am_w32 ((am_w32 (x1 * 12)) + x6) < (2400 : Int)) ∧ ak_MV e 0 d ρ 155 [am_r 33, am_i x1, am_i (am_w32 (x6 - 1)), am_i (h.1 35 (am_w32 ((am_w32 (x1 * 12)) + x6)).toNat), am_l (h.2.1 36 (am_w32 ((am_w32 (x1 * 12)) + x6)).toNat)] h (fun h1 =>
      ak_W0 e 0 d 158 ρ 190 [some (am_r 33), some (am_i x1), none, some (am_i x3), some (am_i x4), none, some (am_i (am_w32 (x6 + 1)))] [] h1 (ak_qi Q X)) (fun _ _ => False))) :
  ak_W0 e 0 d 158 ρ 190 [some (am_r 33), some (am_i x1), none, some (am_i x3), some (am_i x4), none, some (am_i x6)] [] h (ak_qi Q X) := ak_k_ok am_cc158 400 [(18, [true, true, true, true, true, true, false]), (44, [true, true, true, true, true, true, false]), (105, [true, true, true, true, true, true, false]), (132, [true, true, true, true, true, false, true]), (190, [true, true, false, true, true, false, true])] w
theorem am_cc159 : am_co am_P 159 = am_lk am_rw159 ∧ am_hl am_P 159 = [] ∧ am_rtag (am_re am_P 159) = 1 := ⟨rfl, rfl, rfl⟩
set_option maxRecDepth 100000 in
theorem am_k159_0 {e : ak_X3} {d : Nat} {ρ : List Nat} {h : ak_S} {Q : Int → ak_S → Prop} {X : Nat → ak_S → Prop} {x1 x2 x3 : Int} (w :
  (0 ≤ x1 ∧ x1 < (400 : Int)) ∧ (h.1 37 x1.toNat < 12 →
    ak_W0 e 0 d 159 ρ 22 [some (am_r 33), some (am_i x1), some (am_i x2), some (am_i x3), some (am_i (h.1 37 x1.toNat)), some (am_i (am_w32 (x1 + 1)))] [] h (ak_qi Q X))
  ∧ (12 ≤ h.1 37 x1.toNat →
    Q ((-1)) h)) :
  ak_W0 e 0 d 159 ρ 0 [some (am_r 33), some (am_i x1), some (am_i x2), some (am_i x3), none, none] [] h (ak_qi Q X) := ak_k_ok am_cc159 400 [(22, [true, true, true, true, true, true])] w
set_option maxRecDepth 100000 in
theorem am_k159_22 {e : ak_X3} {d : Nat} {ρ : List Nat} {h : ak_S} {Q : Int → ak_S → Prop} {X : Nat → ak_S → Prop} {x1 x2 x3 x4 x5 : Int} (w :
  (h.1 33 4 ≤ x5 →
    Q ((-1)) h)
  ∧ (x5 < h.1 33 4 →
    (0 ≤ x5 ∧ x5 < (400 : Int)) ∧ (h.1 38 x5.toNat ≠ x1 →
      ak_W0 e 0 d 159 ρ 22 [some (am_r 33), some (am_i x1), some (am_i x2), some (am_i x3), some (am_i x4), some (am_i (am_w32 (x5 + 1)))] [] h (ak_qi Q X))
    ∧ (h.1 38 x5.toNat = x1 →
      (0 ≤ am_w32 ((am_w32 (x5 * 12)) + x4) ∧ am_w32 ((am_w32 (x5 * 12)) + x4) < (4800 : Int)) ∧ (h.1 39 (am_w32 ((am_w32 (x5 * 12)) + x4)).toNat ≠ x2 →
        ak_W0 e 0 d 159 ρ 22 [some (am_r 33), some (am_i x1), some (am_i x2), some (am_i x3), some (am_i x4), some (am_i (am_w32 (x5 + 1)))] [] h (ak_qi Q X))
      ∧ (h.1 39 (am_w32 ((am_w32 (x5 * 12)) + x4)).toNat = x2 →
        (0 ≤ am_w32 ((am_w32 (x5 * 12)) + x4) ∧ am_w32 ((am_w32 (x5 * 12)) + x4) < (4800 : Int)) ∧ (h.1 40 (am_w32 ((am_w32 (x5 * 12)) + x4)).toNat ≠ x3 →
          ak_W0 e 0 d 159 ρ 22 [some (am_r 33), some (am_i x1), some (am_i x2), some (am_i x3), some (am_i x4), some (am_i (am_w32 (x5 + 1)))] [] h (ak_qi Q X))
        ∧ (h.1 40 (am_w32 ((am_w32 (x5 * 12)) + x4)).toNat = x3 →
          Q x5 h))))) :
  ak_W0 e 0 d 159 ρ 22 [some (am_r 33), some (am_i x1), some (am_i x2), some (am_i x3), some (am_i x4), some (am_i x5)] [] h (ak_qi Q X) := ak_k_ok am_cc159 400 [(22, [true, true, true, true, true, true])] w
theorem am_cc160 : am_co am_P 160 = am_lk am_rw160 ∧ am_hl am_P 160 = [] ∧ am_rtag (am_re am_P 160) = 1 := ⟨rfl, rfl, rfl⟩
set_option maxRecDepth 100000 in
theorem am_k160_0 {e : ak_X3} {d : Nat} {ρ : List Nat} {h : ak_S} {Q : Int → ak_S → Prop} {X : Nat → ak_S → Prop} {x1 x2 x3 : Int} (w :
  (0 ≤ x1 ∧ x1 < (400 : Int)) ∧ (400 ≤ h.1 33 4 →
    Q ((-1)) h)
  ∧ (h.1 33 4 < 400 →
    (h.1 37 x1.toNat < 12 →
      (0 ≤ am_w32 (x1 * 12) ∧ 0 ≤ am_w32 ((h.1 33 4) * 12) ∧ 0 ≤ (12 : Int) ∧ am_w32 (x1 * 12) + (12 : Int) ≤ (4800 : Int) ∧ am_w32 ((h.1 33 4) * 12) + (12 : Int) ≤ (4800 : Int)) ∧ (0 ≤ am_w32 (x1 * 12) ∧ 0 ≤ am_w32 ((h.1 33 4) * 12) ∧ 0 ≤ (12 : Int) ∧ am_w32 (x1 * 12) + (12 : Int) ≤ (4800 : Int) ∧ am_w32 ((h.1 33 4) * 12) + (12 : Int) ≤ (4800 : Int)) ∧ (0 ≤ am_w32 ((am_w32 ((h.1 33 4) * 12)) + (h.1 37 x1.toNat)) ∧ am_w32 ((am_w32 ((h.1 33 4) * 12)) + (h.1 37 x1.toNat)) < (4800 : Int)) ∧ (0 ≤ am_w32 ((am_w32 ((h.1 33 4) * 12)) + (h.1 37 x1.toNat)) ∧ am_w32 ((am_w32 ((h.1 33 4) * 12)) + (h.1 37 x1.toNat)) < (4800 : Int)) ∧ (0 ≤ h.1 33 4 ∧ h.1 33 4 < (400 : Int)) ∧ (0 ≤ h.1 33 4 ∧ h.1 33 4 < (400 : Int)) ∧ Q (h.1 33 4) ((am_up (am_up (am_up (am_up (am_cpy (am_cpy (am_up h.1 33 4 (am_w32 ((h.1 33 4) + 1))) 39 39 (am_w32 (x1 * 12)).toNat (am_w32 ((h.1 33 4) * 12)).toNat 12) 40 40 (am_w32 (x1 * 12)).toNat (am_w32 ((h.1 33 4) * 12)).toNat 12) 39 (am_w32 ((am_w32 ((h.1 33 4) * 12)) + (h.1 37 x1.toNat))).toNat x2) 40 (am_w32 ((am_w32 ((h.1 33 4) * 12)) + (h.1 37 x1.toNat))).toNat x3) 37 (h.1 33 4).toNat (am_w32 ((h.1 37 x1.toNat) + 1))) 38 (h.1 33 4).toNat x1), h.2))
    ∧ (12 ≤ h.1 37 x1.toNat →
      Q ((-1)) h))) :
  ak_W0 e 0 d 160 ρ 0 [some (am_r 33), some (am_i x1), some (am_i x2), some (am_i x3), none, none] [] h (ak_qi Q X) := ak_k_ok am_cc160 400 [] w
theorem am_cc161 : am_co am_P 161 = am_lk am_rw161 ∧ am_hl am_P 161 = [] ∧ am_rtag (am_re am_P 161) = 0 := ⟨rfl, rfl, rfl⟩
set_option maxRecDepth 100000 in
theorem am_k161_0 {e : ak_X3} {d : Nat} {ρ : List Nat} {h : ak_S} {Q : ak_S → Prop} {X : Nat → ak_S → Prop} {x1 : Int} (w :
  ak_MV e 0 d ρ 366 [am_r 41, am_l 0] h (fun h1 =>
    (0 ≤ (0 : Int) ∧ (0 : Int) < (201 : Int)) ∧ (0 ≤ (0 : Int) ∧ (0 : Int) < (201 : Int)) ∧ Q ((am_up (am_up (am_up h1.1 42 0 x1) 43 0 0) 33 14 1), h1.2)) (fun _ _ => False)) :
  ak_W0 e 0 d 161 ρ 0 [some (am_r 33), some (am_i x1)] [] h (ak_qv Q X) := ak_k_ok am_cc161 400 [] w
theorem am_cc162 : am_co am_P 162 = am_lk am_rw162 ∧ am_hl am_P 162 = [] ∧ am_rtag (am_re am_P 162) = 1 := ⟨rfl, rfl, rfl⟩
set_option maxRecDepth 100000 in
theorem am_k162_0 {e : ak_X3} {d : Nat} {ρ : List Nat} {h : ak_S} {Q : Int → ak_S → Prop} {X : Nat → ak_S → Prop} (w :
  ak_W0 e 0 d 162 ρ 2 [some (am_r 33), some (am_i 0), none, none, none] [] h (ak_qi Q X)) :
  ak_W0 e 0 d 162 ρ 0 [some (am_r 33), none, none, none, none] [] h (ak_qi Q X) := ak_k_ok am_cc162 400 [(2, [true, true, false, false, false])] w
set_option maxRecDepth 100000 in
theorem am_k162_2 {e : ak_X3} {d : Nat} {ρ : List Nat} {h : ak_S} {Q : Int → ak_S → Prop} {X : Nat → ak_S → Prop} {x1 : Int} (w :
  (100000 ≤ x1 →
    Q ((-1)) h)
  ∧ (x1 < 100000 →
    (h.1 33 14 ≤ 0 →
      Q ((-1)) h)
    ∧ (0 < h.1 33 14 →
      (0 ≤ am_w32 ((h.1 33 14) - 1) ∧ am_w32 ((h.1 33 14) - 1) < (201 : Int)) ∧ (0 ≤ am_w32 ((h.1 33 14) - 1) ∧ am_w32 ((h.1 33 14) - 1) < (201 : Int)) ∧ (0 ≤ am_w32 ((h.1 33 14) - 1) ∧ am_w32 ((h.1 33 14) - 1) < (201 : Int)) ∧ (0 ≤ h.1 42 (am_w32 ((h.1 33 14) - 1)).toNat ∧ h.1 42 (am_w32 ((h.1 33 14) - 1)).toNat < (400 : Int)) ∧ (h.1 43 (am_w32 ((h.1 33 14) - 1)).toNat < h.1 37 (h.1 42 (am_w32 ((h.1 33 14) - 1)).toNat).toNat →
        (0 ≤ am_w32 ((am_w32 ((h.1 42 (am_w32 ((h.1 33 14) - 1)).toNat) * 12)) + (h.1 43 (am_w32 ((h.1 33 14) - 1)).toNat)) ∧ am_w32 ((am_w32 ((h.1 42 (am_w32 ((h.1 33 14) - 1)).toNat) * 12)) + (h.1 43 (am_w32 ((h.1 33 14) - 1)).toNat)) < (4800 : Int)) ∧ (h.1 39 (am_w32 ((am_w32 ((h.1 42 (am_w32 ((h.1 33 14) - 1)).toNat) * 12)) + (h.1 43 (am_w32 ((h.1 33 14) - 1)).toNat))).toNat ≠ 2 →
          ak_W0 e 0 d 162 ρ 2 [some (am_r 33), some (am_i (am_w32 (x1 + 1))), none, none, none] [] ((am_up h.1 43 (am_w32 ((h.1 33 14) - 1)).toNat (am_w32 ((h.1 43 (am_w32 ((h.1 33 14) - 1)).toNat) + 1))), h.2) (ak_qi Q X))
        ∧ (h.1 39 (am_w32 ((am_w32 ((h.1 42 (am_w32 ((h.1 33 14) - 1)).toNat) * 12)) + (h.1 43 (am_w32 ((h.1 33 14) - 1)).toNat))).toNat = 2 →
          (0 ≤ am_w32 ((am_w32 ((h.1 42 (am_w32 ((h.1 33 14) - 1)).toNat) * 12)) + (h.1 43 (am_w32 ((h.1 33 14) - 1)).toNat)) ∧ am_w32 ((am_w32 ((h.1 42 (am_w32 ((h.1 33 14) - 1)).toNat) * 12)) + (h.1 43 (am_w32 ((h.1 33 14) - 1)).toNat)) < (4800 : Int)) ∧ (0 ≤ (Int32.ofInt (h.1 40 (am_w32 ((am_w32 ((h.1 42 (am_w32 ((h.1 33 14) - 1)).toNat) * 12)) + (h.1 43 (am_w32 ((h.1 33 14) - 1)).toNat))).toNat) >>> (Int32.ofInt 6 &&& 31)).toInt ∧ (Int32.ofInt (h.1 40 (am_w32 ((am_w32 ((h.1 42 (am_w32 ((h.1 33 14) - 1)).toNat) * 12)) + (h.1 43 (am_w32 ((h.1 33 14) - 1)).toNat))).toNat) >>> (Int32.ofInt 6 &&& 31)).toInt < (4 : Int)) ∧ (am_lsign ((Int64.ofInt ((Int64.ofInt (h.2.1 41 ((Int32.ofInt (h.1 40 (am_w32 ((am_w32 ((h.1 42 (am_w32 ((h.1 33 14) - 1)).toNat) * 12)) + (h.1 43 (am_w32 ((h.1 33 14) - 1)).toNat))).toNat) >>> (Int32.ofInt 6 &&& 31)).toInt).toNat) >>> ((Int32.ofInt ((Int32.ofInt (h.1 40 (am_w32 ((am_w32 ((h.1 42 (am_w32 ((h.1 33 14) - 1)).toNat) * 12)) + (h.1 43 (am_w32 ((h.1 33 14) - 1)).toNat))).toNat) &&& Int32.ofInt 63).toInt)).toInt64 &&& 63)).toInt) &&& Int64.ofInt 1).toInt) 0 ≠ 0 →
            ak_W0 e 0 d 162 ρ 2 [some (am_r 33), some (am_i (am_w32 (x1 + 1))), none, none, none] [] ((am_up h.1 43 (am_w32 ((h.1 33 14) - 1)).toNat (am_w32 ((h.1 43 (am_w32 ((h.1 33 14) - 1)).toNat) + 1))), h.2) (ak_qi Q X))
          ∧ (am_lsign ((Int64.ofInt ((Int64.ofInt (h.2.1 41 ((Int32.ofInt (h.1 40 (am_w32 ((am_w32 ((h.1 42 (am_w32 ((h.1 33 14) - 1)).toNat) * 12)) + (h.1 43 (am_w32 ((h.1 33 14) - 1)).toNat))).toNat) >>> (Int32.ofInt 6 &&& 31)).toInt).toNat) >>> ((Int32.ofInt ((Int32.ofInt (h.1 40 (am_w32 ((am_w32 ((h.1 42 (am_w32 ((h.1 33 14) - 1)).toNat) * 12)) + (h.1 43 (am_w32 ((h.1 33 14) - 1)).toNat))).toNat) &&& Int32.ofInt 63).toInt)).toInt64 &&& 63)).toInt) &&& Int64.ofInt 1).toInt) 0 = 0 →
            (200 < h.1 33 14 →
              ak_W0 e 0 d 162 ρ 2 [some (am_r 33), some (am_i (am_w32 (x1 + 1))), none, none, none] [] ((am_up h.1 43 (am_w32 ((h.1 33 14) - 1)).toNat (am_w32 ((h.1 43 (am_w32 ((h.1 33 14) - 1)).toNat) + 1))), h.2) (ak_qi Q X))
            ∧ (h.1 33 14 ≤ 200 →
              (0 ≤ (Int32.ofInt (h.1 40 (am_w32 ((am_w32 ((h.1 42 (am_w32 ((h.1 33 14) - 1)).toNat) * 12)) + (h.1 43 (am_w32 ((h.1 33 14) - 1)).toNat))).toNat) >>> (Int32.ofInt 6 &&& 31)).toInt ∧ (Int32.ofInt (h.1 40 (am_w32 ((am_w32 ((h.1 42 (am_w32 ((h.1 33 14) - 1)).toNat) * 12)) + (h.1 43 (am_w32 ((h.1 33 14) - 1)).toNat))).toNat) >>> (Int32.ofInt 6 &&& 31)).toInt < (4 : Int)) ∧ (0 ≤ (Int32.ofInt (h.1 40 (am_w32 ((am_w32 ((h.1 42 (am_w32 ((h.1 33 14) - 1)).toNat) * 12)) + (h.1 43 (am_w32 ((h.1 33 14) - 1)).toNat))).toNat) >>> (Int32.ofInt 6 &&& 31)).toInt ∧ (Int32.ofInt (h.1 40 (am_w32 ((am_w32 ((h.1 42 (am_w32 ((h.1 33 14) - 1)).toNat) * 12)) + (h.1 43 (am_w32 ((h.1 33 14) - 1)).toNat))).toNat) >>> (Int32.ofInt 6 &&& 31)).toInt < (4 : Int)) ∧ (0 ≤ h.1 40 (am_w32 ((am_w32 ((h.1 42 (am_w32 ((h.1 33 14) - 1)).toNat) * 12)) + (h.1 43 (am_w32 ((h.1 33 14) - 1)).toNat))).toNat ∧ h.1 40 (am_w32 ((am_w32 ((h.1 42 (am_w32 ((h.1 33 14) - 1)).toNat) * 12)) + (h.1 43 (am_w32 ((h.1 33 14) - 1)).toNat))).toNat < (200 : Int)) ∧ (0 ≤ h.1 33 14 ∧ h.1 33 14 < (201 : Int)) ∧ (0 ≤ h.1 33 14 ∧ h.1 33 14 < (201 : Int)) ∧ Q (h.1 40 (am_w32 ((am_w32 ((h.1 42 (am_w32 ((h.1 33 14) - 1)).toNat) * 12)) + (h.1 43 (am_w32 ((h.1 33 14) - 1)).toNat))).toNat) ((am_up (am_up (am_up (am_up h.1 43 (am_w32 ((h.1 33 14) - 1)).toNat (am_w32 ((h.1 43 (am_w32 ((h.1 33 14) - 1)).toNat) + 1))) 42 (h.1 33 14).toNat (h.1 34 (h.1 40 (am_w32 ((am_w32 ((h.1 42 (am_w32 ((h.1 33 14) - 1)).toNat) * 12)) + (h.1 43 (am_w32 ((h.1 33 14) - 1)).toNat))).toNat).toNat)) 43 (h.1 33 14).toNat 0) 33 14 (am_w32 ((h.1 33 14) + 1))), (am_up h.2.1 41 ((Int32.ofInt (h.1 40 (am_w32 ((am_w32 ((h.1 42 (am_w32 ((h.1 33 14) - 1)).toNat) * 12)) + (h.1 43 (am_w32 ((h.1 33 14) - 1)).toNat))).toNat) >>> (Int32.ofInt 6 &&& 31)).toInt).toNat ((Int64.ofInt (h.2.1 41 ((Int32.ofInt (h.1 40 (am_w32 ((am_w32 ((h.1 42 (am_w32 ((h.1 33 14) - 1)).toNat) * 12)) + (h.1 43 (am_w32 ((h.1 33 14) - 1)).toNat))).toNat) >>> (Int32.ofInt 6 &&& 31)).toInt).toNat) ||| Int64.ofInt ((Int64.ofInt 1 <<< ((Int32.ofInt ((Int32.ofInt (h.1 40 (am_w32 ((am_w32 ((h.1 42 (am_w32 ((h.1 33 14) - 1)).toNat) * 12)) + (h.1 43 (am_w32 ((h.1 33 14) - 1)).toNat))).toNat) &&& Int32.ofInt 63).toInt)).toInt64 &&& 63)).toInt)).toInt)), h.2.2)))))
      ∧ (h.1 37 (h.1 42 (am_w32 ((h.1 33 14) - 1)).toNat).toNat ≤ h.1 43 (am_w32 ((h.1 33 14) - 1)).toNat →
        ak_W0 e 0 d 162 ρ 2 [some (am_r 33), some (am_i (am_w32 (x1 + 1))), none, none, none] [] ((am_up (am_up h.1 43 (am_w32 ((h.1 33 14) - 1)).toNat (am_w32 ((h.1 43 (am_w32 ((h.1 33 14) - 1)).toNat) + 1))) 33 14 (am_w32 ((h.1 33 14) - 1))), h.2) (ak_qi Q X))))) :
  ak_W0 e 0 d 162 ρ 2 [some (am_r 33), some (am_i x1), none, none, none] [] h (ak_qi Q X) := ak_k_ok am_cc162 400 [(2, [true, true, false, false, false])] w
theorem am_cc163 : am_co am_P 163 = am_lk am_rw163 ∧ am_hl am_P 163 = [] ∧ am_rtag (am_re am_P 163) = 1 := ⟨rfl, rfl, rfl⟩
set_option maxRecDepth 100000 in
theorem am_k163_0 {e : ak_X3} {d : Nat} {ρ : List Nat} {h : ak_S} {Q : Int → ak_S → Prop} {X : Nat → ak_S → Prop} {x1 x2 : Int} (w :
  (x2 < 1 →
    Q ((-1)) h)
  ∧ (1 ≤ x2 →
    (x2 ≤ 200 →
      ak_MV e 0 d ρ 161 [am_r 33, am_i x1] h (fun h1 =>
        ak_W0 e 0 d 163 ρ 24 [some (am_r 33), none, some (am_i x2), some (am_i ((-1))), some (am_i 0)] [] h1 (ak_qi Q X)) (fun _ _ => False))
    ∧ (200 < x2 →
      Q ((-1)) h))) :
  ak_W0 e 0 d 163 ρ 0 [some (am_r 33), some (am_i x1), some (am_i x2), none, none] [] h (ak_qi Q X) := ak_k_ok am_cc163 400 [(24, [true, false, true, true, true])] w
set_option maxRecDepth 100000 in
theorem am_k163_24 {e : ak_X3} {d : Nat} {ρ : List Nat} {h : ak_S} {Q : Int → ak_S → Prop} {X : Nat → ak_S → Prop} {x2 x3 x4 : Int} (w :
  (x2 ≤ x4 →
    Q x3 h)
  ∧ (x4 < x2 →
    ak_MI e 0 d ρ 162 [am_r 33] h (fun v2 h1 =>
      ak_W0 e 0 d 163 ρ 24 [some (am_r 33), none, some (am_i x2), some (am_i v2), some (am_i (am_w32 (x4 + 1)))] [] h1 (ak_qi Q X)) (fun _ _ => False))) :
  ak_W0 e 0 d 163 ρ 24 [some (am_r 33), none, some (am_i x2), some (am_i x3), some (am_i x4)] [] h (ak_qi Q X) := ak_k_ok am_cc163 400 [(24, [true, false, true, true, true])] w
theorem am_cc164 : am_co am_P 164 = am_lk am_rw164 ∧ am_hl am_P 164 = [] ∧ am_rtag (am_re am_P 164) = 0 := ⟨rfl, rfl, rfl⟩
set_option maxRecDepth 100000 in
theorem am_k164_0 {e : ak_X3} {d : Nat} {ρ : List Nat} {h : ak_S} {Q : ak_S → Prop} {X : Nat → ak_S → Prop} {x1 x2 x3 : Int} (w :
  ak_MV e 0 d ρ 161 [am_r 33, am_i x1] h (fun h1 =>
    (x3 ≠ 0 →
      ak_W0 e 0 d 164 ρ 34 [some (am_r 33), none, some (am_i x2), some (am_i x3), none, none, none] [] ((am_up (am_up h1.1 33 9 ((-1))) 33 10 ((-1))), h1.2) (ak_qv Q X))
    ∧ (x3 = 0 →
      ak_MI e 0 d ρ 153 [am_r 33, am_i x1, am_i x2] ((am_up (am_up h1.1 33 9 ((-1))) 33 10 ((-1))), h1.2) (fun v3 h2 =>
        (v3 < 0 →
          ak_W0 e 0 d 164 ρ 34 [some (am_r 33), none, some (am_i x2), some (am_i x3), none, none, none] [] h2 (ak_qv Q X))
        ∧ (0 ≤ v3 →
          Q ((am_up h2.1 33 9 0), h2.2))) (fun _ _ => False))) (fun _ _ => False)) :
  ak_W0 e 0 d 164 ρ 0 [some (am_r 33), some (am_i x1), some (am_i x2), some (am_i x3), none, none, none] [] h (ak_qv Q X) := ak_k_ok am_cc164 400 [(34, [true, false, true, true, false, false, false]), (54, [true, false, true, true, true, true, true]), (100, [true, false, true, true, true, true, true])] w
set_option maxRecDepth 100000 in
theorem am_k164_34 {e : ak_X3} {d : Nat} {ρ : List Nat} {h : ak_S} {Q : ak_S → Prop} {X : Nat → ak_S → Prop} {x2 x3 : Int} (w :
  (0 < x3 →
    ak_MI e 0 d ρ 162 [am_r 33] h (fun v2 h1 =>
      ak_W0 e 0 d 164 ρ 54 [some (am_r 33), none, some (am_i x2), some (am_i x3), some (am_i 0), some (am_i v2), some (am_i 1)] [] h1 (ak_qv Q X)) (fun _ _ => False))
  ∧ (x3 ≤ 0 →
    ak_MI e 0 d ρ 162 [am_r 33] h (fun v4 h3 =>
      ak_W0 e 0 d 164 ρ 54 [some (am_r 33), none, some (am_i x2), some (am_i x3), some (am_i 1), some (am_i v4), some (am_i 1)] [] h3 (ak_qv Q X)) (fun _ _ => False))) :
  ak_W0 e 0 d 164 ρ 34 [some (am_r 33), none, some (am_i x2), some (am_i x3), none, none, none] [] h (ak_qv Q X) := ak_k_ok am_cc164 400 [(34, [true, false, true, true, false, false, false]), (54, [true, false, true, true, true, true, true]), (100, [true, false, true, true, true, true, true])] w
set_option maxRecDepth 100000 in
theorem am_k164_54 {e : ak_X3} {d : Nat} {ρ : List Nat} {h : ak_S} {Q : ak_S → Prop} {X : Nat → ak_S → Prop} {x2 x3 x4 x5 x6 : Int} (w :
  (200 < x6 →
    Q h)
  ∧ (x6 ≤ 200 →
    (x5 < 0 →
      Q h)
    ∧ (0 ≤ x5 →
      (x4 = 0 →
        ak_W0 e 0 d 164 ρ 100 [some (am_r 33), none, some (am_i x2), some (am_i x3), some (am_i x4), some (am_i x5), some (am_i x6)] [] h (ak_qv Q X))
      ∧ (x4 ≠ 0 →
        (0 ≤ x5 ∧ x5 < (200 : Int)) ∧ ak_MI e 0 d ρ 153 [am_r 33, am_i (h.1 34 x5.toNat), am_i x2] h (fun v2 h1 =>
          (v2 < 0 →
            ak_W0 e 0 d 164 ρ 100 [some (am_r 33), none, some (am_i x2), some (am_i x3), some (am_i x4), some (am_i x5), some (am_i x6)] [] h1 (ak_qv Q X))
          ∧ (0 ≤ v2 →
            Q ((am_up (am_up h1.1 33 9 x6) 33 10 x5), h1.2))) (fun _ _ => False))))) :
  ak_W0 e 0 d 164 ρ 54 [some (am_r 33), none, some (am_i x2), some (am_i x3), some (am_i x4), some (am_i x5), some (am_i x6)] [] h (ak_qv Q X) := ak_k_ok am_cc164 400 [(34, [true, false, true, true, false, false, false]), (54, [true, false, true, true, true, true, true]), (100, [true, false, true, true, true, true, true])] w
set_option maxRecDepth 100000 in
theorem am_k164_100 {e : ak_X3} {d : Nat} {ρ : List Nat} {h : ak_S} {Q : ak_S → Prop} {X : Nat → ak_S → Prop} {x2 x3 x4 x5 x6 : Int} (w :
  (x4 ≠ 0 →
    ak_MI e 0 d ρ 162 [am_r 33] h (fun v2 h1 =>
      ak_W0 e 0 d 164 ρ 54 [some (am_r 33), none, some (am_i x2), some (am_i x3), some (am_i 1), some (am_i v2), some (am_i (am_w32 (x6 + 1)))] [] h1 (ak_qv Q X)) (fun _ _ => False))
  ∧ (x4 = 0 →
    (x5 ≠ am_w32 (x3 - 1) →
      ak_MI e 0 d ρ 162 [am_r 33] h (fun v4 h3 =>
        ak_W0 e 0 d 164 ρ 54 [some (am_r 33), none, some (am_i x2), some (am_i x3), some (am_i 0), some (am_i v4), some (am_i (am_w32 (x6 + 1)))] [] h3 (ak_qv Q X)) (fun _ _ => False))
    ∧ (x5 = am_w32 (x3 - 1) →
      ak_MI e 0 d ρ 162 [am_r 33] h (fun v6 h5 =>
        ak_W0 e 0 d 164 ρ 54 [some (am_r 33), none, some (am_i x2), some (am_i x3), some (am_i 1), some (am_i v6), some (am_i (am_w32 (x6 + 1)))] [] h5 (ak_qv Q X)) (fun _ _ => False)))) :
  ak_W0 e 0 d 164 ρ 100 [some (am_r 33), none, some (am_i x2), some (am_i x3), some (am_i x4), some (am_i x5), some (am_i x6)] [] h (ak_qv Q X) := ak_k_ok am_cc164 400 [(34, [true, false, true, true, false, false, false]), (54, [true, false, true, true, true, true, true]), (100, [true, false, true, true, true, true, true])] w
theorem am_cc166 : am_co am_P 166 = am_lk am_rw166 ∧ am_hl am_P 166 = [] ∧ am_rtag (am_re am_P 166) = 1 := ⟨rfl, rfl, rfl⟩
set_option maxRecDepth 100000 in
theorem am_k166_0 {e : ak_X3} {d : Nat} {ρ1 ρ2 : Nat} {h : ak_S} {Q : Int → ak_S → Prop} {X : Nat → ak_S → Prop} {u : Nat} (hu : u = 0 ∨ u = 1) {x1 x2 x3 x4 x5 : Int} (w :
  (am_w32 ((h.1 3 1) + 20) ≤ 6000 →
    ak_MV e 0 d [ak_T u, ρ1, ρ2, ak_T u, ak_T u + 1] 121 [am_r 3, am_i x1] h (fun h1 =>
      ak_MV e 0 d [ak_T u, ρ1, ρ2, ak_T u, ak_T u + 1] 121 [am_r 3, am_i x2] h1 (fun h2 =>
        ak_MV e 0 d [ak_T u, ρ1, ρ2, ak_T u, ak_T u + 1] 121 [am_r 3, am_i x3] h2 (fun h3 =>
          ak_MV e 0 d [ak_T u, ρ1, ρ2, ak_T u, ak_T u + 1] 121 [am_r 3, am_i x4] h3 (fun h4 =>
            ak_MV e 0 d [ak_T u, ρ1, ρ2, ak_T u, ak_T u + 1] 121 [am_r 3, am_i x5] h4 (fun h5 =>
              Q (h5.1 3 1) h5) (fun _ _ => False)) (fun _ _ => False)) (fun _ _ => False)) (fun _ _ => False)) (fun _ _ => False))
  ∧ (6000 < am_w32 ((h.1 3 1) + 20) →
    X 3 (h.1, h.2.1, h.2.2.1 + 1, h.2.2.2 + 6))) :
  ak_W0 e 0 d 166 [ak_T u, ρ1, ρ2, ak_T u, ak_T u + 1] 0 [some (am_r 1), some (am_i x1), some (am_i x2), some (am_i x3), some (am_i x4), some (am_i x5)] [] h (ak_qi Q X) := by
  rcases hu with rfl | rfl
  · exact ak_k_ok am_cc166 400 [] w
  · exact ak_k_ok am_cc166 400 [] w
theorem am_cc167 : am_co am_P 167 = am_lk am_rw167 ∧ am_hl am_P 167 = [] ∧ am_rtag (am_re am_P 167) = 0 := ⟨rfl, rfl, rfl⟩
set_option maxRecDepth 100000 in
theorem am_k167_0 {e : ak_X3} {d : Nat} {ρ1 ρ2 : Nat} {h : ak_S} {Q : ak_S → Prop} {X : Nat → ak_S → Prop} {u : Nat} (hu : u = 0 ∨ u = 1) {x1 : Int} (w :
  (x1 < 0 →
    X 1 (h.1, h.2.1, h.2.2.1 + 1, h.2.2.2 + 6))
  ∧ (0 ≤ x1 →
    (x1 ≤ h.1 3 1 →
      Q ((am_up h.1 3 1 x1), h.2))
    ∧ (h.1 3 1 < x1 →
      X 1 (h.1, h.2.1, h.2.2.1 + 1, h.2.2.2 + 6)))) :
  ak_W0 e 0 d 167 [ak_T u, ρ1, ρ2, ak_T u, ak_T u + 1] 0 [some (am_r 1), some (am_i x1)] [] h (ak_qv Q X) := by
  rcases hu with rfl | rfl
  · exact ak_k_ok am_cc167 400 [] w
  · exact ak_k_ok am_cc167 400 [] w
theorem am_cc169 : am_co am_P 169 = am_lk am_rw169 ∧ am_hl am_P 169 = [] ∧ am_rtag (am_re am_P 169) = 0 := ⟨rfl, rfl, rfl⟩
set_option maxRecDepth 100000 in
theorem am_k169_0 {e : ak_X3} {d : Nat} {ρ1 ρ2 : Nat} {h : ak_S} {Q : ak_S → Prop} {X : Nat → ak_S → Prop} {u : Nat} (hu : u = 0 ∨ u = 1) {x1 : Int} (w :
  (x1 < 0 →
    X 1 (h.1, h.2.1, h.2.2.1 + 1, h.2.2.2 + 6))
  ∧ (0 ≤ x1 →
    (x1 ≤ 2 →
      ak_MV e 0 d [ak_T u, ρ1, ρ2, ak_T u, ak_T u + 1] 107 [am_r 44] ((am_up h.1 44 6 x1), h.2) (fun h1 =>
        Q h1) (fun _ _ => False))
    ∧ (2 < x1 →
      X 1 (h.1, h.2.1, h.2.2.1 + 1, h.2.2.2 + 6)))) :
  ak_W0 e 0 d 169 [ak_T u, ρ1, ρ2, ak_T u, ak_T u + 1] 0 [some (am_r 1), some (am_i x1)] [] h (ak_qv Q X) := by
  rcases hu with rfl | rfl
  · exact ak_k_ok am_cc169 400 [] w
  · exact ak_k_ok am_cc169 400 [] w
theorem am_cc170 : am_co am_P 170 = am_lk am_rw170 ∧ am_hl am_P 170 = [] ∧ am_rtag (am_re am_P 170) = 0 := ⟨rfl, rfl, rfl⟩
set_option maxRecDepth 100000 in
theorem am_k170_0 {e : ak_X3} {d : Nat} {ρ1 ρ2 : Nat} {h : ak_S} {Q : ak_S → Prop} {X : Nat → ak_S → Prop} {u : Nat} (hu : u = 0 ∨ u = 1) (w :
  ak_MV e 0 d [ak_T u, ρ1, ρ2, ak_T u, ak_T u + 1] 107 [am_r 44] h (fun h1 =>
    Q h1) (fun _ _ => False)) :
  ak_W0 e 0 d 170 [ak_T u, ρ1, ρ2, ak_T u, ak_T u + 1] 0 [some (am_r 1)] [] h (ak_qv Q X) := by
  rcases hu with rfl | rfl
  · exact ak_k_ok am_cc170 400 [] w
  · exact ak_k_ok am_cc170 400 [] w
theorem am_cc171 : am_co am_P 171 = am_lk am_rw171 ∧ am_hl am_P 171 = [] ∧ am_rtag (am_re am_P 171) = 1 := ⟨rfl, rfl, rfl⟩
set_option maxRecDepth 100000 in
theorem am_k171_0 {e : ak_X3} {d : Nat} {ρ1 ρ2 : Nat} {h : ak_S} {Q : Int → ak_S → Prop} {X : Nat → ak_S → Prop} {u : Nat} (hu : u = 0 ∨ u = 1) {x1 x2 x4 : Int} (w :
  ak_MV e 0 d [ak_T u, ρ1, ρ2, ak_T u, ak_T u + 1] 192 [am_r 1] h (fun h1 =>
    (x1 < 0 →
      X 1 (h1.1, h1.2.1, h1.2.2.1 + 1, h1.2.2.2 + 6))
    ∧ (0 ≤ x1 →
      (h1.1 (ak_T u) 4 ≤ x1 →
        X 1 (h1.1, h1.2.1, h1.2.2.1 + 1, h1.2.2.2 + 6))
      ∧ (x1 < h1.1 (ak_T u) 4 →
        (0 ≤ x1 ∧ x1 < (40 : Int)) ∧ (h1.1 (ak_T u + 12) x1.toNat = 2 →
          ak_MI e 0 d [ak_T u, ρ1, ρ2, ak_T u, ak_T u + 1] 70 [am_r 32, am_i x1, am_l x2, am_l x4] h1 (fun v3 h2 =>
            Q v3 h2) (fun _ _ => False))
        ∧ (h1.1 (ak_T u + 12) x1.toNat ≠ 2 →
          X 1 (h1.1, h1.2.1, h1.2.2.1 + 1, h1.2.2.2 + 6))))) X) :
  ak_W0 e 0 d 171 [ak_T u, ρ1, ρ2, ak_T u, ak_T u + 1] 0 [some (am_r 1), some (am_i x1), some (am_l x2), none, some (am_l x4), none] [] h (ak_qi Q X) := by
  rcases hu with rfl | rfl
  · exact ak_k_ok am_cc171 400 [] w
  · exact ak_k_ok am_cc171 400 [] w
theorem am_cc172 : am_co am_P 172 = am_lk am_rw172 ∧ am_hl am_P 172 = [] ∧ am_rtag (am_re am_P 172) = 3 := ⟨rfl, rfl, rfl⟩
set_option maxRecDepth 100000 in
theorem am_k172_0 {e : ak_X3} {d : Nat} {ρ1 ρ2 : Nat} {h : ak_S} {Q : Int → ak_S → Prop} {X : Nat → ak_S → Prop} {u : Nat} (hu : u = 0 ∨ u = 1) {x1 : Int} (w :
  ak_MV e 0 d [ak_T u, ρ1, ρ2, ak_T u, ak_T u + 1] 192 [am_r 1] h (fun h1 =>
    ak_MV e 0 d [ak_T u, ρ1, ρ2, ak_T u, ak_T u + 1] 194 [am_i x1, am_i 7] h1 (fun h2 =>
      (0 ≤ x1 ∧ x1 < (7 : Int)) ∧ Q (h2.2.1 64 x1.toNat) h2) X) X) :
  ak_W0 e 0 d 172 [ak_T u, ρ1, ρ2, ak_T u, ak_T u + 1] 0 [some (am_r 1), some (am_i x1)] [] h (ak_qj Q X) := by
  rcases hu with rfl | rfl
  · exact ak_k_ok am_cc172 400 [] w
  · exact ak_k_ok am_cc172 400 [] w
theorem am_cc173 : am_co am_P 173 = am_lk am_rw173 ∧ am_hl am_P 173 = [] ∧ am_rtag (am_re am_P 173) = 3 := ⟨rfl, rfl, rfl⟩
set_option maxRecDepth 100000 in
theorem am_k173_0 {e : ak_X3} {d : Nat} {ρ1 ρ2 : Nat} {h : ak_S} {Q : Int → ak_S → Prop} {X : Nat → ak_S → Prop} {u : Nat} (hu : u = 0 ∨ u = 1) {x1 x2 : Int} (w :
  ak_MV e 0 d [ak_T u, ρ1, ρ2, ak_T u, ak_T u + 1] 192 [am_r 1] h (fun h1 =>
    ak_MI e 0 d [ak_T u, ρ1, ρ2, ak_T u, ak_T u + 1] 61 [am_r 63] h1 (fun v3 h2 =>
      ak_MV e 0 d [ak_T u, ρ1, ρ2, ak_T u, ak_T u + 1] 193 [am_i x1, am_i v3] h2 (fun h4 =>
        ak_MV e 0 d [ak_T u, ρ1, ρ2, ak_T u, ak_T u + 1] 194 [am_i x2, am_i 2] h4 (fun h5 =>
          (0 ≤ am_w32 ((am_w32 (x1 * 2)) + x2) ∧ am_w32 ((am_w32 (x1 * 2)) + x2) < (600 : Int)) ∧ Q (h5.2.1 65 (am_w32 ((am_w32 (x1 * 2)) + x2)).toNat) h5) X) X) (fun _ _ => False)) X) :
  ak_W0 e 0 d 173 [ak_T u, ρ1, ρ2, ak_T u, ak_T u + 1] 0 [some (am_r 1), some (am_i x1), some (am_i x2)] [] h (ak_qj Q X) := by
  rcases hu with rfl | rfl
  · exact ak_k_ok am_cc173 400 [] w
  · exact ak_k_ok am_cc173 400 [] w
theorem am_cc174 : am_co am_P 174 = am_lk am_rw174 ∧ am_hl am_P 174 = [] ∧ am_rtag (am_re am_P 174) = 3 := ⟨rfl, rfl, rfl⟩
set_option maxRecDepth 100000 in
theorem am_k174_0 {e : ak_X3} {d : Nat} {ρ1 ρ2 : Nat} {h : ak_S} {Q : Int → ak_S → Prop} {X : Nat → ak_S → Prop} {u : Nat} (hu : u = 0 ∨ u = 1) {x1 x2 : Int} (w :
  ak_MV e 0 d [ak_T u, ρ1, ρ2, ak_T u, ak_T u + 1] 192 [am_r 1] h (fun h1 =>
    ak_MI e 0 d [ak_T u, ρ1, ρ2, ak_T u, ak_T u + 1] 62 [am_r 63] h1 (fun v3 h2 =>
      ak_MV e 0 d [ak_T u, ρ1, ρ2, ak_T u, ak_T u + 1] 193 [am_i x1, am_i v3] h2 (fun h4 =>
        ak_MV e 0 d [ak_T u, ρ1, ρ2, ak_T u, ak_T u + 1] 194 [am_i x2, am_i 4] h4 (fun h5 =>
          (0 ≤ am_w32 ((am_w32 (x1 * 4)) + x2) ∧ am_w32 ((am_w32 (x1 * 4)) + x2) < (1200 : Int)) ∧ Q (h5.2.1 66 (am_w32 ((am_w32 (x1 * 4)) + x2)).toNat) h5) X) X) (fun _ _ => False)) X) :
  ak_W0 e 0 d 174 [ak_T u, ρ1, ρ2, ak_T u, ak_T u + 1] 0 [some (am_r 1), some (am_i x1), some (am_i x2)] [] h (ak_qj Q X) := by
  rcases hu with rfl | rfl
  · exact ak_k_ok am_cc174 400 [] w
  · exact ak_k_ok am_cc174 400 [] w
theorem am_cc175 : am_co am_P 175 = am_lk am_rw175 ∧ am_hl am_P 175 = [] ∧ am_rtag (am_re am_P 175) = 3 := ⟨rfl, rfl, rfl⟩
set_option maxRecDepth 100000 in
theorem am_k175_0 {e : ak_X3} {d : Nat} {ρ1 ρ2 : Nat} {h : ak_S} {Q : Int → ak_S → Prop} {X : Nat → ak_S → Prop} {u : Nat} (hu : u = 0 ∨ u = 1) {x1 x2 : Int} (w :
  ak_MV e 0 d [ak_T u, ρ1, ρ2, ak_T u, ak_T u + 1] 192 [am_r 1] h (fun h1 =>
    ak_MI e 0 d [ak_T u, ρ1, ρ2, ak_T u, ak_T u + 1] 63 [am_r 63] h1 (fun v3 h2 =>
      ak_MV e 0 d [ak_T u, ρ1, ρ2, ak_T u, ak_T u + 1] 193 [am_i x1, am_i v3] h2 (fun h4 =>
        ak_MV e 0 d [ak_T u, ρ1, ρ2, ak_T u, ak_T u + 1] 194 [am_i x2, am_i 6] h4 (fun h5 =>
          (0 ≤ am_w32 ((am_w32 (x1 * 6)) + x2) ∧ am_w32 ((am_w32 (x1 * 6)) + x2) < (384 : Int)) ∧ Q (h5.2.1 67 (am_w32 ((am_w32 (x1 * 6)) + x2)).toNat) h5) X) X) (fun _ _ => False)) X) :
  ak_W0 e 0 d 175 [ak_T u, ρ1, ρ2, ak_T u, ak_T u + 1] 0 [some (am_r 1), some (am_i x1), some (am_i x2)] [] h (ak_qj Q X) := by
  rcases hu with rfl | rfl
  · exact ak_k_ok am_cc175 400 [] w
  · exact ak_k_ok am_cc175 400 [] w
theorem am_cc176 : am_co am_P 176 = am_lk am_rw176 ∧ am_hl am_P 176 = [] ∧ am_rtag (am_re am_P 176) = 1 := ⟨rfl, rfl, rfl⟩
set_option maxRecDepth 100000 in
theorem am_k176_0 {e : ak_X3} {d : Nat} {ρ1 ρ2 : Nat} {h : ak_S} {Q : Int → ak_S → Prop} {X : Nat → ak_S → Prop} {u : Nat} (hu : u = 0 ∨ u = 1) {x1 : Int} (w :
  ak_MV e 0 d [ak_T u, ρ1, ρ2, ak_T u, ak_T u + 1] 192 [am_r 1] h (fun h1 =>
    ak_MV e 0 d [ak_T u, ρ1, ρ2, ak_T u, ak_T u + 1] 193 [am_i x1, am_i (h1.1 (ak_T u) 4)] h1 (fun h2 =>
      (0 ≤ x1 ∧ x1 < (40 : Int)) ∧ Q (h2.1 68 x1.toNat) h2) X) X) :
  ak_W0 e 0 d 176 [ak_T u, ρ1, ρ2, ak_T u, ak_T u + 1] 0 [some (am_r 1), some (am_i x1)] [] h (ak_qi Q X) := by
  rcases hu with rfl | rfl
  · exact ak_k_ok am_cc176 400 [] w
  · exact ak_k_ok am_cc176 400 [] w
theorem am_cc177 : am_co am_P 177 = am_lk am_rw177 ∧ am_hl am_P 177 = [] ∧ am_rtag (am_re am_P 177) = 1 := ⟨rfl, rfl, rfl⟩
set_option maxRecDepth 100000 in
theorem am_k177_0 {e : ak_X3} {d : Nat} {ρ1 ρ2 : Nat} {h : ak_S} {Q : Int → ak_S → Prop} {X : Nat → ak_S → Prop} {u : Nat} (hu : u = 0 ∨ u = 1) {x1 x2 x3 x4 : Int} (w :
  ak_MV e 0 d [ak_T u, ρ1, ρ2, ak_T u, ak_T u + 1] 192 [am_r 1] h (fun h1 =>
    ak_MV e 0 d [ak_T u, ρ1, ρ2, ak_T u, ak_T u + 1] 194 [am_i x2, am_i 5] h1 (fun h2 =>
      ak_MV e 0 d [ak_T u, ρ1, ρ2, ak_T u, ak_T u + 1] 193 [am_i x1, am_i (h2.1 33 0)] h2 (fun h3 =>
        (x2 = 3 →
          ak_W0 e 0 d 177 [ak_T u, ρ1, ρ2, ak_T u, ak_T u + 1] 48 [some (am_r 1), some (am_i x1), some (am_i x2), some (am_i x3), some (am_l x4), none] [am_i (h3.1 33 0), am_i x3] h3 (ak_qi Q X))
        ∧ (x2 ≠ 3 →
          (x2 ≠ 4 →
            ak_W0 e 0 d 177 [ak_T u, ρ1, ρ2, ak_T u, ak_T u + 1] 48 [some (am_r 1), some (am_i x1), some (am_i x2), some (am_i x3), some (am_l x4), none] [am_i (h3.1 (ak_T u) 6), am_i x3] h3 (ak_qi Q X))
          ∧ (x2 = 4 →
            ak_W0 e 0 d 177 [ak_T u, ρ1, ρ2, ak_T u, ak_T u + 1] 48 [some (am_r 1), some (am_i x1), some (am_i x2), some (am_i x3), some (am_l x4), none] [am_i (h3.1 33 0), am_i x3] h3 (ak_qi Q X)))) X) X) X) :
  ak_W0 e 0 d 177 [ak_T u, ρ1, ρ2, ak_T u, ak_T u + 1] 0 [some (am_r 1), some (am_i x1), some (am_i x2), some (am_i x3), some (am_l x4), none] [] h (ak_qi Q X) := by
  rcases hu with rfl | rfl
  · exact ak_k_ok am_cc177 400 [(48, [true, true, true, true, true, false]), (87, [true, true, true, true, true, false])] w
  · exact ak_k_ok am_cc177 400 [(48, [true, true, true, true, true, false]), (87, [true, true, true, true, true, false])] w
set_option maxRecDepth 100000 in
theorem am_k177_48 {e : ak_X3} {d : Nat} {ρ1 ρ2 : Nat} {h : ak_S} {Q : Int → ak_S → Prop} {X : Nat → ak_S → Prop} {u : Nat} (hu : u = 0 ∨ u = 1) {x1 x2 x3 x4 y0 y1 : Int} (w :
  ak_MV e 0 d [ak_T u, ρ1, ρ2, ak_T u, ak_T u + 1] 193 [am_i y1, am_i y0] h (fun h1 =>
    (x2 ≠ 1 →
      ak_W0 e 0 d 177 [ak_T u, ρ1, ρ2, ak_T u, ak_T u + 1] 87 [some (am_r 1), some (am_i x1), some (am_i x2), some (am_i x3), some (am_l x4), none] [] h1 (ak_qi Q X))
    ∧ (x2 = 1 →
      (am_lsign x4 0 < 0 →
        X 2 (h1.1, h1.2.1, h1.2.2.1 + 1, h1.2.2.2 + 6))
      ∧ (0 ≤ am_lsign x4 0 →
        (am_lsign x4 (h1.1 (ak_T u) 4) < 0 →
          ak_W0 e 0 d 177 [ak_T u, ρ1, ρ2, ak_T u, ak_T u + 1] 87 [some (am_r 1), some (am_i x1), some (am_i x2), some (am_i x3), some (am_l x4), none] [] h1 (ak_qi Q X))
        ∧ (0 ≤ am_lsign x4 (h1.1 (ak_T u) 4) →
          X 2 (h1.1, h1.2.1, h1.2.2.1 + 1, h1.2.2.2 + 6))))) X) :
  ak_W0 e 0 d 177 [ak_T u, ρ1, ρ2, ak_T u, ak_T u + 1] 48 [some (am_r 1), some (am_i x1), some (am_i x2), some (am_i x3), some (am_l x4), none] [am_i y0, am_i y1] h (ak_qi Q X) := by
  rcases hu with rfl | rfl
  · exact ak_k_ok am_cc177 400 [(48, [true, true, true, true, true, false]), (87, [true, true, true, true, true, false])] w
  · exact ak_k_ok am_cc177 400 [(48, [true, true, true, true, true, false]), (87, [true, true, true, true, true, false])] w
set_option maxRecDepth 100000 in
theorem am_k177_87 {e : ak_X3} {d : Nat} {ρ1 ρ2 : Nat} {h : ak_S} {Q : Int → ak_S → Prop} {X : Nat → ak_S → Prop} {u : Nat} (hu : u = 0 ∨ u = 1) {x1 x2 x3 x4 : Int} (w :
  (x2 ≠ 1 →
    ak_MI e 0 d [ak_T u, ρ1, ρ2, ak_T u, ak_T u + 1] 71 [am_r 32, am_i x2, am_i x1, am_i x3, am_i 1, am_l x4] h (fun v2 h1 =>
      Q v2 h1) (fun _ _ => False))
  ∧ (x2 = 1 →
    ak_MI e 0 d [ak_T u, ρ1, ρ2, ak_T u, ak_T u + 1] 71 [am_r 32, am_i x2, am_i x1, am_i x3, am_i 4, am_l x4] h (fun v4 h3 =>
      Q v4 h3) (fun _ _ => False))) :
  ak_W0 e 0 d 177 [ak_T u, ρ1, ρ2, ak_T u, ak_T u + 1] 87 [some (am_r 1), some (am_i x1), some (am_i x2), some (am_i x3), some (am_l x4), none] [] h (ak_qi Q X) := by
  rcases hu with rfl | rfl
  · exact ak_k_ok am_cc177 400 [(48, [true, true, true, true, true, false]), (87, [true, true, true, true, true, false])] w
  · exact ak_k_ok am_cc177 400 [(48, [true, true, true, true, true, false]), (87, [true, true, true, true, true, false])] w
theorem am_cc178 : am_co am_P 178 = am_lk am_rw178 ∧ am_hl am_P 178 = [] ∧ am_rtag (am_re am_P 178) = 1 := ⟨rfl, rfl, rfl⟩
set_option maxRecDepth 100000 in
theorem am_k178_0 {e : ak_X3} {d : Nat} {ρ1 ρ2 : Nat} {h : ak_S} {Q : Int → ak_S → Prop} {X : Nat → ak_S → Prop} {u : Nat} (hu : u = 0 ∨ u = 1) {x1 : Int} (w :
  ak_MV e 0 d [ak_T u, ρ1, ρ2, ak_T u, ak_T u + 1] 192 [am_r 1] h (fun h1 =>
    True ∧
      ((x1 < 0 ∨ 8 < x1) → X 1 (h1.1, h1.2.1, h1.2.2.1 + 1, h1.2.2.2 + 6)) ∧
      (x1 = 0 → Q (h1.1 (ak_T u) 4) h1) ∧
      (x1 = 0 + 1 → Q (h1.1 (ak_T u) 6) h1) ∧
      (x1 = 0 + 1 + 1 → Q (h1.1 (ak_T u) 10) h1) ∧
      (x1 = 0 + 1 + 1 + 1 → Q (h1.1 (ak_T u) 14) h1) ∧
      (x1 = 0 + 1 + 1 + 1 + 1 → Q (h1.1 33 0) h1) ∧
      (x1 = 0 + 1 + 1 + 1 + 1 + 1 → Q (h1.1 33 4) h1) ∧
      (x1 = 0 + 1 + 1 + 1 + 1 + 1 + 1 → Q (h1.1 49 14) h1) ∧
      (x1 = 0 + 1 + 1 + 1 + 1 + 1 + 1 + 1 → Q (h1.1 44 4) h1) ∧
      (x1 = 0 + 1 + 1 + 1 + 1 + 1 + 1 + 1 + 1 → Q (h1.1 44 6) h1) ∧ True) X) :
  ak_W0 e 0 d 178 [ak_T u, ρ1, ρ2, ak_T u, ak_T u + 1] 0 [some (am_r 1), some (am_i x1)] [] h (ak_qi Q X) := by
  rcases hu with rfl | rfl
  · exact ak_k_ok am_cc178 400 [] w
  · exact ak_k_ok am_cc178 400 [] w
theorem am_cc179 : am_co am_P 179 = am_lk am_rw179 ∧ am_hl am_P 179 = [] ∧ am_rtag (am_re am_P 179) = 1 := ⟨rfl, rfl, rfl⟩
set_option maxRecDepth 100000 in
theorem am_k179_0 {e : ak_X3} {d : Nat} {ρ1 ρ2 : Nat} {h : ak_S} {Q : Int → ak_S → Prop} {X : Nat → ak_S → Prop} {u : Nat} (hu : u = 0 ∨ u = 1) {x1 x2 : Int} (w :
  ak_MV e 0 d [ak_T u, ρ1, ρ2, ak_T u, ak_T u + 1] 192 [am_r 1] h (fun h1 =>
    ak_MV e 0 d [ak_T u, ρ1, ρ2, ak_T u, ak_T u + 1] 193 [am_i x1, am_i (h1.1 (ak_T u) 6)] h1 (fun h2 =>
      ak_MI e 0 d [ak_T u, ρ1, ρ2, ak_T u, ak_T u + 1] 137 [am_r ((ak_T u)), am_i x1, am_i x2] h2 (fun v4 h3 =>
        Q v4 h3) (fun _ _ => False)) X) X) :
  ak_W0 e 0 d 179 [ak_T u, ρ1, ρ2, ak_T u, ak_T u + 1] 0 [some (am_r 1), some (am_i x1), some (am_i x2)] [] h (ak_qi Q X) := by
  rcases hu with rfl | rfl
  · exact ak_k_ok am_cc179 400 [] w
  · exact ak_k_ok am_cc179 400 [] w
theorem am_cc180 : am_co am_P 180 = am_lk am_rw180 ∧ am_hl am_P 180 = [] ∧ am_rtag (am_re am_P 180) = 1 := ⟨rfl, rfl, rfl⟩
set_option maxRecDepth 100000 in
theorem am_k180_0 {e : ak_X3} {d : Nat} {ρ1 ρ2 : Nat} {h : ak_S} {Q : Int → ak_S → Prop} {X : Nat → ak_S → Prop} {u : Nat} (hu : u = 0 ∨ u = 1) {x1 : Int} (w :
  ak_MV e 0 d [ak_T u, ρ1, ρ2, ak_T u, ak_T u + 1] 192 [am_r 1] h (fun h1 =>
    ak_MV e 0 d [ak_T u, ρ1, ρ2, ak_T u, ak_T u + 1] 193 [am_i x1, am_i (h1.1 33 0)] h1 (fun h2 =>
      (0 ≤ x1 ∧ x1 < (200 : Int)) ∧ Q (h2.1 34 x1.toNat) h2) X) X) :
  ak_W0 e 0 d 180 [ak_T u, ρ1, ρ2, ak_T u, ak_T u + 1] 0 [some (am_r 1), some (am_i x1)] [] h (ak_qi Q X) := by
  rcases hu with rfl | rfl
  · exact ak_k_ok am_cc180 400 [] w
  · exact ak_k_ok am_cc180 400 [] w
theorem am_cc181 : am_co am_P 181 = am_lk am_rw181 ∧ am_hl am_P 181 = [] ∧ am_rtag (am_re am_P 181) = 1 := ⟨rfl, rfl, rfl⟩
set_option maxRecDepth 100000 in
theorem am_k181_0 {e : ak_X3} {d : Nat} {ρ1 ρ2 : Nat} {h : ak_S} {Q : Int → ak_S → Prop} {X : Nat → ak_S → Prop} {u : Nat} (hu : u = 0 ∨ u = 1) {x1 x2 : Int} (w :
  ak_MV e 0 d [ak_T u, ρ1, ρ2, ak_T u, ak_T u + 1] 192 [am_r 1] h (fun h1 =>
    ak_MV e 0 d [ak_T u, ρ1, ρ2, ak_T u, ak_T u + 1] 193 [am_i x1, am_i (h1.1 33 4)] h1 (fun h2 =>
      (0 ≤ x2 →
        (x2 ≠ 0 →
          ((2 : Int) ≠ 0) ∧ (0 ≤ x1 ∧ x1 < (400 : Int)) ∧ (am_w32 (Int.tdiv (am_w32 (x2 - 1)) 2) < h2.1 37 x1.toNat →
            ((2 : Int) ≠ 0) ∧ (Int.tmod x2 2 ≠ 1 →
              (0 ≤ am_w32 ((am_w32 (x1 * 12)) + (am_w32 (Int.tdiv (am_w32 (x2 - 1)) 2))) ∧ am_w32 ((am_w32 (x1 * 12)) + (am_w32 (Int.tdiv (am_w32 (x2 - 1)) 2))) < (4800 : Int)) ∧ Q (h2.1 40 (am_w32 ((am_w32 (x1 * 12)) + (am_w32 (Int.tdiv (am_w32 (x2 - 1)) 2)))).toNat) h2)
            ∧ (Int.tmod x2 2 = 1 →
              (0 ≤ am_w32 ((am_w32 (x1 * 12)) + (am_w32 (Int.tdiv (am_w32 (x2 - 1)) 2))) ∧ am_w32 ((am_w32 (x1 * 12)) + (am_w32 (Int.tdiv (am_w32 (x2 - 1)) 2))) < (4800 : Int)) ∧ Q (h2.1 39 (am_w32 ((am_w32 (x1 * 12)) + (am_w32 (Int.tdiv (am_w32 (x2 - 1)) 2)))).toNat) h2))
          ∧ (h2.1 37 x1.toNat ≤ am_w32 (Int.tdiv (am_w32 (x2 - 1)) 2) →
            Q ((-1)) h2))
        ∧ (x2 = 0 →
          (0 ≤ x1 ∧ x1 < (400 : Int)) ∧ Q (h2.1 37 x1.toNat) h2))
      ∧ (x2 < 0 →
        X 1 (h2.1, h2.2.1, h2.2.2.1 + 1, h2.2.2.2 + 6))) X) X) :
  ak_W0 e 0 d 181 [ak_T u, ρ1, ρ2, ak_T u, ak_T u + 1] 0 [some (am_r 1), some (am_i x1), some (am_i x2), none, none] [] h (ak_qi Q X) := by
  rcases hu with rfl | rfl
  · exact ak_k_ok am_cc181 400 [] w
  · exact ak_k_ok am_cc181 400 [] w
theorem am_cc182 : am_co am_P 182 = am_lk am_rw182 ∧ am_hl am_P 182 = [] ∧ am_rtag (am_re am_P 182) = 1 := ⟨rfl, rfl, rfl⟩
set_option maxRecDepth 100000 in
theorem am_k182_0 {e : ak_X3} {d : Nat} {ρ1 ρ2 : Nat} {h : ak_S} {Q : Int → ak_S → Prop} {X : Nat → ak_S → Prop} {u : Nat} (hu : u = 0 ∨ u = 1) {x1 x2 x3 : Int} (w :
  ak_MV e 0 d [ak_T u, ρ1, ρ2, ak_T u, ak_T u + 1] 192 [am_r 1] h (fun h1 =>
    ak_MV e 0 d [ak_T u, ρ1, ρ2, ak_T u, ak_T u + 1] 193 [am_i x1, am_i (h1.1 33 4)] h1 (fun h2 =>
      ak_MI e 0 d [ak_T u, ρ1, ρ2, ak_T u, ak_T u + 1] 159 [am_r 33, am_i x1, am_i x2, am_i x3] h2 (fun v4 h3 =>
        Q v4 h3) (fun _ _ => False)) X) X) :
  ak_W0 e 0 d 182 [ak_T u, ρ1, ρ2, ak_T u, ak_T u + 1] 0 [some (am_r 1), some (am_i x1), some (am_i x2), some (am_i x3)] [] h (ak_qi Q X) := by
  rcases hu with rfl | rfl
  · exact ak_k_ok am_cc182 400 [] w
  · exact ak_k_ok am_cc182 400 [] w
theorem am_cc183 : am_co am_P 183 = am_lk am_rw183 ∧ am_hl am_P 183 = [] ∧ am_rtag (am_re am_P 183) = 3 := ⟨rfl, rfl, rfl⟩
set_option maxRecDepth 100000 in
theorem am_k183_0 {e : ak_X3} {d : Nat} {ρ1 ρ2 : Nat} {h : ak_S} {Q : Int → ak_S → Prop} {X : Nat → ak_S → Prop} {u : Nat} (hu : u = 0 ∨ u = 1) {x1 x2 x3 : Int} (w :
  ak_MV e 0 d [ak_T u, ρ1, ρ2, ak_T u, ak_T u + 1] 192 [am_r 1] h (fun h1 =>
    ak_MV e 0 d [ak_T u, ρ1, ρ2, ak_T u, ak_T u + 1] 193 [am_i x1, am_i (h1.1 33 0)] h1 (fun h2 =>
      ak_MV e 0 d [ak_T u, ρ1, ρ2, ak_T u, ak_T u + 1] 193 [am_i x2, am_i (h2.1 (ak_T u) 6)] h2 (fun h3 =>
        ak_MV e 0 d [ak_T u, ρ1, ρ2, ak_T u, ak_T u + 1] 194 [am_i x3, am_i 2] h3 (fun h4 =>
          (0 ≤ x1 ∧ x1 < (200 : Int)) ∧ ak_MI e 0 d [ak_T u, ρ1, ρ2, ak_T u, ak_T u + 1] 153 [am_r 33, am_i (h4.1 34 x1.toNat), am_i x2] h4 (fun v6 h5 =>
            (0 ≤ v6 →
              (x3 ≠ 0 →
                (0 ≤ am_w32 ((am_w32 (x1 * 12)) + v6) ∧ am_w32 ((am_w32 (x1 * 12)) + v6) < (2400 : Int)) ∧ Q (h5.2.1 36 (am_w32 ((am_w32 (x1 * 12)) + v6)).toNat) h5)
              ∧ (x3 = 0 →
                (0 ≤ am_w32 ((am_w32 (x1 * 12)) + v6) ∧ am_w32 ((am_w32 (x1 * 12)) + v6) < (2400 : Int)) ∧ Q (h5.1 35 (am_w32 ((am_w32 (x1 * 12)) + v6)).toNat) h5))
            ∧ (v6 < 0 →
              (x3 ≠ 0 →
                Q 0 h5)
              ∧ (x3 = 0 →
                Q ((-1)) h5))) (fun _ _ => False)) X) X) X) X) :
  ak_W0 e 0 d 183 [ak_T u, ρ1, ρ2, ak_T u, ak_T u + 1] 0 [some (am_r 1), some (am_i x1), some (am_i x2), some (am_i x3), none, none] [] h (ak_qj Q X) := by
  rcases hu with rfl | rfl
  · exact ak_k_ok am_cc183 400 [] w
  · exact ak_k_ok am_cc183 400 [] w
theorem am_cc184 : am_co am_P 184 = am_lk am_rw184 ∧ am_hl am_P 184 = [] ∧ am_rtag (am_re am_P 184) = 1 := ⟨rfl, rfl, rfl⟩
set_option maxRecDepth 100000 in
theorem am_k184_0 {e : ak_X3} {d : Nat} {ρ1 ρ2 : Nat} {h : ak_S} {Q : Int → ak_S → Prop} {X : Nat → ak_S → Prop} {u : Nat} (hu : u = 0 ∨ u = 1) {x1 x2 : Int} (w :
  ak_MV e 0 d [ak_T u, ρ1, ρ2, ak_T u, ak_T u + 1] 192 [am_r 1] h (fun h1 =>
    ak_MV e 0 d [ak_T u, ρ1, ρ2, ak_T u, ak_T u + 1] 193 [am_i x1, am_i (h1.1 33 0)] h1 (fun h2 =>
      (0 ≤ x1 ∧ x1 < (200 : Int)) ∧ ak_MI e 0 d [ak_T u, ρ1, ρ2, ak_T u, ak_T u + 1] 163 [am_r 33, am_i (h2.1 34 x1.toNat), am_i x2] h2 (fun v4 h3 =>
        Q v4 h3) (fun _ _ => False)) X) X) :
  ak_W0 e 0 d 184 [ak_T u, ρ1, ρ2, ak_T u, ak_T u + 1] 0 [some (am_r 1), some (am_i x1), some (am_i x2)] [] h (ak_qi Q X) := by
  rcases hu with rfl | rfl
  · exact ak_k_ok am_cc184 400 [] w
  · exact ak_k_ok am_cc184 400 [] w
theorem am_cc185 : am_co am_P 185 = am_lk am_rw185 ∧ am_hl am_P 185 = [] ∧ am_rtag (am_re am_P 185) = 1 := ⟨rfl, rfl, rfl⟩
set_option maxRecDepth 100000 in
theorem am_k185_0 {e : ak_X3} {d : Nat} {ρ1 ρ2 : Nat} {h : ak_S} {Q : Int → ak_S → Prop} {X : Nat → ak_S → Prop} {u : Nat} (hu : u = 0 ∨ u = 1) {x1 x2 x3 : Int} (w :
  ak_MV e 0 d [ak_T u, ρ1, ρ2, ak_T u, ak_T u + 1] 192 [am_r 1] h (fun h1 =>
    ak_MV e 0 d [ak_T u, ρ1, ρ2, ak_T u, ak_T u + 1] 193 [am_i x1, am_i (h1.1 33 0)] h1 (fun h2 =>
      ak_MV e 0 d [ak_T u, ρ1, ρ2, ak_T u, ak_T u + 1] 193 [am_i x2, am_i (h2.1 (ak_T u) 6)] h2 (fun h3 =>
        (x3 < (-1) →
          X 1 (h3.1, h3.2.1, h3.2.2.1 + 1, h3.2.2.2 + 6))
        ∧ ((-1) ≤ x3 →
          (x3 ≤ h3.1 33 0 →
            (0 ≤ x1 ∧ x1 < (200 : Int)) ∧ ak_MV e 0 d [ak_T u, ρ1, ρ2, ak_T u, ak_T u + 1] 164 [am_r 33, am_i (h3.1 34 x1.toNat), am_i x2, am_i x3] h3 (fun h4 =>
              Q (h4.1 33 9) h4) (fun _ _ => False))
          ∧ (h3.1 33 0 < x3 →
            X 1 (h3.1, h3.2.1, h3.2.2.1 + 1, h3.2.2.2 + 6)))) X) X) X) :
  ak_W0 e 0 d 185 [ak_T u, ρ1, ρ2, ak_T u, ak_T u + 1] 0 [some (am_r 1), some (am_i x1), some (am_i x2), some (am_i x3)] [] h (ak_qi Q X) := by
  rcases hu with rfl | rfl
  · exact ak_k_ok am_cc185 400 [] w
  · exact ak_k_ok am_cc185 400 [] w
theorem am_cc186 : am_co am_P 186 = am_lk am_rw186 ∧ am_hl am_P 186 = [] ∧ am_rtag (am_re am_P 186) = 1 := ⟨rfl, rfl, rfl⟩
set_option maxRecDepth 100000 in
theorem am_k186_0 {e : ak_X3} {d : Nat} {ρ1 ρ2 : Nat} {h : ak_S} {Q : Int → ak_S → Prop} {X : Nat → ak_S → Prop} {u : Nat} (hu : u = 0 ∨ u = 1) {x1 x2 : Int} (w :
  ak_MV e 0 d [ak_T u, ρ1, ρ2, ak_T u, ak_T u + 1] 192 [am_r 1] h (fun h1 =>
    ak_MV e 0 d [ak_T u, ρ1, ρ2, ak_T u, ak_T u + 1] 193 [am_i x1, am_i (h1.1 (ak_T u) 10)] h1 (fun h2 =>
      ak_MV e 0 d [ak_T u, ρ1, ρ2, ak_T u, ak_T u + 1] 194 [am_i x2, am_i 9] h2 (fun h3 =>
        True ∧
          ((x2 ≠ 0 ∧ x2 ≠ 1 ∧ x2 ≠ 8 ∧ True) → (0 ≤ am_w32 ((am_w32 ((am_w32 (x1 * 6)) + x2)) - 2) ∧ am_w32 ((am_w32 ((am_w32 (x1 * 6)) + x2)) - 2) < (900 : Int)) ∧ Q (h3.1 47 (am_w32 ((am_w32 ((am_w32 (x1 * 6)) + x2)) - 2)).toNat) h3) ∧
          (x2 = 0 → (0 ≤ x1 ∧ x1 < (150 : Int)) ∧ Q (h3.1 (ak_T u + 15) x1.toNat) h3) ∧
          (x2 = 1 → (0 ≤ x1 ∧ x1 < (150 : Int)) ∧ Q (h3.1 (ak_T u + 16) x1.toNat) h3) ∧
          (x2 = 8 → (0 ≤ x1 ∧ x1 < (150 : Int)) ∧ Q (h3.1 (ak_T u + 17) x1.toNat) h3) ∧ True) X) X) X) :
  ak_W0 e 0 d 186 [ak_T u, ρ1, ρ2, ak_T u, ak_T u + 1] 0 [some (am_r 1), some (am_i x1), some (am_i x2)] [] h (ak_qi Q X) := by
  rcases hu with rfl | rfl
  · exact ak_k_ok am_cc186 400 [] w
  · exact ak_k_ok am_cc186 400 [] w
theorem am_cc187 : am_co am_P 187 = am_lk am_rw187 ∧ am_hl am_P 187 = [] ∧ am_rtag (am_re am_P 187) = 1 := ⟨rfl, rfl, rfl⟩
set_option maxRecDepth 100000 in
theorem am_k187_0 {e : ak_X3} {d : Nat} {ρ1 ρ2 : Nat} {h : ak_S} {Q : Int → ak_S → Prop} {X : Nat → ak_S → Prop} {u : Nat} (hu : u = 0 ∨ u = 1) {x1 x2 x3 : Int} (w :
  ak_MV e 0 d [ak_T u, ρ1, ρ2, ak_T u, ak_T u + 1] 192 [am_r 1] h (fun h1 =>
    ak_MV e 0 d [ak_T u, ρ1, ρ2, ak_T u, ak_T u + 1] 195 [am_r 1, am_i x1, am_i x2] h1 (fun h2 =>
      ak_MV e 0 d [ak_T u, ρ1, ρ2, ak_T u, ak_T u + 1] 194 [am_i x3, am_i 5] h2 (fun h3 =>
        ak_MI e 0 d [ak_T u, ρ1, ρ2, ak_T u, ak_T u + 1] 108 [am_i x1] h3 (fun v5 h4 =>
          (0 ≤ am_w32 ((am_w32 ((am_w32 (v5 + x2)) * 5)) + x3) ∧ am_w32 ((am_w32 ((am_w32 (v5 + x2)) * 5)) + x3) < (3640 : Int)) ∧ Q (h4.1 45 (am_w32 ((am_w32 ((am_w32 (v5 + x2)) * 5)) + x3)).toNat) h4) (fun _ _ => False)) X) X) X) :
  ak_W0 e 0 d 187 [ak_T u, ρ1, ρ2, ak_T u, ak_T u + 1] 0 [some (am_r 1), some (am_i x1), some (am_i x2), some (am_i x3)] [] h (ak_qi Q X) := by
  rcases hu with rfl | rfl
  · exact ak_k_ok am_cc187 400 [] w
  · exact ak_k_ok am_cc187 400 [] w
theorem am_cc188 : am_co am_P 188 = am_lk am_rw188 ∧ am_hl am_P 188 = [] ∧ am_rtag (am_re am_P 188) = 2 := ⟨rfl, rfl, rfl⟩
set_option maxRecDepth 100000 in
theorem am_k188_0 {e : ak_X3} {d : Nat} {ρ1 ρ2 : Nat} {h : ak_S} {Q : Int → ak_S → Prop} {X : Nat → ak_S → Prop} {u : Nat} (hu : u = 0 ∨ u = 1) {x1 x2 x3 : Int} (w :
  ak_MV e 0 d [ak_T u, ρ1, ρ2, ak_T u, ak_T u + 1] 192 [am_r 1] h (fun h1 =>
    ak_MV e 0 d [ak_T u, ρ1, ρ2, ak_T u, ak_T u + 1] 195 [am_r 1, am_i x1, am_i x2] h1 (fun h2 =>
      ak_MV e 0 d [ak_T u, ρ1, ρ2, ak_T u, ak_T u + 1] 193 [am_i x3, am_i (h2.1 33 0)] h2 (fun h3 =>
        ak_MI e 0 d [ak_T u, ρ1, ρ2, ak_T u, ak_T u + 1] 108 [am_i x1] h3 (fun v5 h4 =>
          ak_MI e 0 d [ak_T u, ρ1, ρ2, ak_T u, ak_T u + 1] 110 [am_r 44, am_i (am_w32 (v5 + x2)), am_i x3] h4 (fun v7 h6 =>
            (v7 = 0 ∨ v7 = 1) ∧ Q v7 h6) (fun _ _ => False)) (fun _ _ => False)) X) X) X) :
  ak_W0 e 0 d 188 [ak_T u, ρ1, ρ2, ak_T u, ak_T u + 1] 0 [some (am_r 1), some (am_i x1), some (am_i x2), some (am_i x3)] [] h (ak_qi Q X) := by
  rcases hu with rfl | rfl
  · exact ak_k_ok am_cc188 400 [] w
  · exact ak_k_ok am_cc188 400 [] w
theorem am_cc189 : am_co am_P 189 = am_lk am_rw189 ∧ am_hl am_P 189 = [] ∧ am_rtag (am_re am_P 189) = 1 := ⟨rfl, rfl, rfl⟩
set_option maxRecDepth 100000 in
theorem am_k189_0 {e : ak_X3} {d : Nat} {ρ1 ρ2 : Nat} {h : ak_S} {Q : Int → ak_S → Prop} {X : Nat → ak_S → Prop} {u : Nat} (hu : u = 0 ∨ u = 1) (w :
  ak_MV e 0 d [ak_T u, ρ1, ρ2, ak_T u, ak_T u + 1] 192 [am_r 1] h (fun h1 =>
    Q (h1.1 44 5) h1) X) :
  ak_W0 e 0 d 189 [ak_T u, ρ1, ρ2, ak_T u, ak_T u + 1] 0 [some (am_r 1)] [] h (ak_qi Q X) := by
  rcases hu with rfl | rfl
  · exact ak_k_ok am_cc189 400 [] w
  · exact ak_k_ok am_cc189 400 [] w
theorem am_cc190 : am_co am_P 190 = am_lk am_rw190 ∧ am_hl am_P 190 = [] ∧ am_rtag (am_re am_P 190) = 1 := ⟨rfl, rfl, rfl⟩
set_option maxRecDepth 100000 in
theorem am_k190_0 {e : ak_X3} {d : Nat} {ρ1 ρ2 : Nat} {h : ak_S} {Q : Int → ak_S → Prop} {X : Nat → ak_S → Prop} {u : Nat} (hu : u = 0 ∨ u = 1) {x1 x2 : Int} (w :
  ak_MV e 0 d [ak_T u, ρ1, ρ2, ak_T u, ak_T u + 1] 192 [am_r 1] h (fun h1 =>
    ak_MV e 0 d [ak_T u, ρ1, ρ2, ak_T u, ak_T u + 1] 193 [am_i x1, am_i (h1.1 44 5)] h1 (fun h2 =>
      ak_MV e 0 d [ak_T u, ρ1, ρ2, ak_T u, ak_T u + 1] 194 [am_i x2, am_i 4] h2 (fun h3 =>
        (0 ≤ am_w32 ((am_w32 (x1 * 4)) + x2) ∧ am_w32 ((am_w32 (x1 * 4)) + x2) < (2912 : Int)) ∧ Q (h3.1 48 (am_w32 ((am_w32 (x1 * 4)) + x2)).toNat) h3) X) X) X) :
  ak_W0 e 0 d 190 [ak_T u, ρ1, ρ2, ak_T u, ak_T u + 1] 0 [some (am_r 1), some (am_i x1), some (am_i x2)] [] h (ak_qi Q X) := by
  rcases hu with rfl | rfl
  · exact ak_k_ok am_cc190 400 [] w
  · exact ak_k_ok am_cc190 400 [] w
theorem am_cc191 : am_co am_P 191 = am_lk am_rw191 ∧ am_hl am_P 191 = [] ∧ am_rtag (am_re am_P 191) = 1 := ⟨rfl, rfl, rfl⟩
set_option maxRecDepth 100000 in
theorem am_k191_0 {e : ak_X3} {d : Nat} {ρ1 ρ2 : Nat} {h : ak_S} {Q : Int → ak_S → Prop} {X : Nat → ak_S → Prop} {u : Nat} (hu : u = 0 ∨ u = 1) (w :
  ak_MV e 0 d [ak_T u, ρ1, ρ2, ak_T u, ak_T u + 1] 192 [am_r 1] h (fun h1 =>
    ak_MI e 0 d [ak_T u, ρ1, ρ2, ak_T u, ak_T u + 1] 119 [am_r 44, am_r 33] h1 (fun v3 h2 =>
      Q v3 h2) (fun _ _ => False)) X) :
  ak_W0 e 0 d 191 [ak_T u, ρ1, ρ2, ak_T u, ak_T u + 1] 0 [some (am_r 1)] [] h (ak_qi Q X) := by
  rcases hu with rfl | rfl
  · exact ak_k_ok am_cc191 400 [] w
  · exact ak_k_ok am_cc191 400 [] w
theorem am_cc192 : am_co am_P 192 = am_lk am_rw192 ∧ am_hl am_P 192 = [] ∧ am_rtag (am_re am_P 192) = 0 := ⟨rfl, rfl, rfl⟩
set_option maxRecDepth 100000 in
theorem am_k192_0 {e : ak_X3} {d : Nat} {ρ1 ρ2 : Nat} {h : ak_S} {Q : ak_S → Prop} {X : Nat → ak_S → Prop} {u : Nat} (hu : u = 0 ∨ u = 1) (w :
  (h.1 1 8 ≠ 0 →
    Q h)
  ∧ (h.1 1 8 = 0 →
    X 0 (h.1, h.2.1, h.2.2.1 + 1, h.2.2.2 + 6))) :
  ak_W0 e 0 d 192 [ak_T u, ρ1, ρ2, ak_T u, ak_T u + 1] 0 [some (am_r 1)] [] h (ak_qv Q X) := by
  rcases hu with rfl | rfl
  · exact ak_k_ok am_cc192 400 [] w
  · exact ak_k_ok am_cc192 400 [] w
theorem am_cc193 : am_co am_P 193 = am_lk am_rw193 ∧ am_hl am_P 193 = [] ∧ am_rtag (am_re am_P 193) = 0 := ⟨rfl, rfl, rfl⟩
set_option maxRecDepth 100000 in
theorem am_k193_0 {e : ak_X3} {d : Nat} {ρ1 ρ2 : Nat} {h : ak_S} {Q : ak_S → Prop} {X : Nat → ak_S → Prop} {u : Nat} (hu : u = 0 ∨ u = 1) {x0 x1 : Int} (w :
  (x0 < 0 →
    X 2 (h.1, h.2.1, h.2.2.1 + 1, h.2.2.2 + 6))
  ∧ (0 ≤ x0 →
    (x0 < x1 →
      Q h)
    ∧ (x1 ≤ x0 →
      X 2 (h.1, h.2.1, h.2.2.1 + 1, h.2.2.2 + 6)))) :
  ak_W0 e 0 d 193 [ak_T u, ρ1, ρ2, ak_T u, ak_T u + 1] 0 [some (am_i x0), some (am_i x1)] [] h (ak_qv Q X) := by
  rcases hu with rfl | rfl
  · exact ak_k_ok am_cc193 400 [] w
  · exact ak_k_ok am_cc193 400 [] w
theorem am_cc194 : am_co am_P 194 = am_lk am_rw194 ∧ am_hl am_P 194 = [] ∧ am_rtag (am_re am_P 194) = 0 := ⟨rfl, rfl, rfl⟩
set_option maxRecDepth 100000 in
theorem am_k194_0 {e : ak_X3} {d : Nat} {ρ1 ρ2 : Nat} {h : ak_S} {Q : ak_S → Prop} {X : Nat → ak_S → Prop} {u : Nat} (hu : u = 0 ∨ u = 1) {x0 x1 : Int} (w :
  (x0 < 0 →
    X 1 (h.1, h.2.1, h.2.2.1 + 1, h.2.2.2 + 6))
  ∧ (0 ≤ x0 →
    (x0 < x1 →
      Q h)
    ∧ (x1 ≤ x0 →
      X 1 (h.1, h.2.1, h.2.2.1 + 1, h.2.2.2 + 6)))) :
  ak_W0 e 0 d 194 [ak_T u, ρ1, ρ2, ak_T u, ak_T u + 1] 0 [some (am_i x0), some (am_i x1)] [] h (ak_qv Q X) := by
  rcases hu with rfl | rfl
  · exact ak_k_ok am_cc194 400 [] w
  · exact ak_k_ok am_cc194 400 [] w
theorem am_cc195 : am_co am_P 195 = am_lk am_rw195 ∧ am_hl am_P 195 = [] ∧ am_rtag (am_re am_P 195) = 0 := ⟨rfl, rfl, rfl⟩
set_option maxRecDepth 100000 in
theorem am_k195_0 {e : ak_X3} {d : Nat} {ρ1 ρ2 : Nat} {h : ak_S} {Q : ak_S → Prop} {X : Nat → ak_S → Prop} {u : Nat} (hu : u = 0 ∨ u = 1) {x1 x2 : Int} (w :
  (x1 = (-1) →
    ak_MI e 0 d [ak_T u, ρ1, ρ2, ak_T u, ak_T u + 1] 109 [am_r 44, am_i x1] h (fun v2 h1 =>
      ak_MV e 0 d [ak_T u, ρ1, ρ2, ak_T u, ak_T u + 1] 193 [am_i x2, am_i v2] h1 (fun h3 =>
        Q h3) X) (fun _ _ => False))
  ∧ (x1 ≠ (-1) →
    ak_MV e 0 d [ak_T u, ρ1, ρ2, ak_T u, ak_T u + 1] 193 [am_i x1, am_i (h.1 (ak_T u) 10)] h (fun h4 =>
      ak_MI e 0 d [ak_T u, ρ1, ρ2, ak_T u, ak_T u + 1] 109 [am_r 44, am_i x1] h4 (fun v6 h5 =>
        ak_MV e 0 d [ak_T u, ρ1, ρ2, ak_T u, ak_T u + 1] 193 [am_i x2, am_i v6] h5 (fun h7 =>
          Q h7) X) (fun _ _ => False)) X)) :
  ak_W0 e 0 d 195 [ak_T u, ρ1, ρ2, ak_T u, ak_T u + 1] 0 [some (am_r 1), some (am_i x1), some (am_i x2)] [] h (ak_qv Q X) := by
  rcases hu with rfl | rfl
  · exact ak_k_ok am_cc195 400 [] w
  · exact ak_k_ok am_cc195 400 [] w
theorem am_cc354 : am_co am_P 354 = am_lk am_rw354 ∧ am_hl am_P 354 = [] ∧ am_rtag (am_re am_P 354) = 1 := ⟨rfl, rfl, rfl⟩
set_option maxRecDepth 100000 in
theorem am_k354_0 {e : ak_X3} {d : Nat} {ρ : List Nat} {h : ak_S} {Q : Int → ak_S → Prop} {X : Nat → ak_S → Prop} {x1 : Int} (w :
  ak_MI e 0 d ρ 355 [am_r ((am_SP + 11)), am_i x1, am_i 0] h (fun v2 h1 =>
    Q v2 h1) (fun _ _ => False)) :
  ak_W0 e 0 d 354 ρ 0 [some (am_r ((am_SP + 11))), some (am_i x1)] [] h (ak_qi Q X) := ak_k_ok am_cc354 400 [] w
theorem am_cc355 : am_co am_P 355 = am_lk am_rw355 ∧ am_hl am_P 355 = [] ∧ am_rtag (am_re am_P 355) = 1 := ⟨rfl, rfl, rfl⟩
set_option maxRecDepth 100000 in
theorem am_k355_0 {e : ak_X3} {d : Nat} {ρ : List Nat} {h : ak_S} {Q : Int → ak_S → Prop} {X : Nat → ak_S → Prop} {x1 x2 : Int} (w :
  ak_MI e 0 d ρ 356 [am_r ((am_SP + 11))] h (fun v2 h1 =>
    (v2 = 0 →
      False)
    ∧ (v2 ≠ 0 →
      ak_MI e 0 d ρ 357 [am_r ((am_SP + 11))] h1 (fun v4 h3 =>
        ak_MI e 0 d ρ 360 [am_r ((am_SP + 21)), am_i x1, am_i x2, am_i v4] h3 (fun v6 h5 =>
          Q v6 h5) (fun _ _ => False)) (fun _ _ => False))) (fun _ _ => False)) :
  ak_W0 e 0 d 355 ρ 0 [some (am_r ((am_SP + 11))), some (am_i x1), some (am_i x2)] [] h (ak_qi Q X) := ak_k_ok am_cc355 400 [] w
theorem am_cc356 : am_co am_P 356 = am_lk am_rw356 ∧ am_hl am_P 356 = [] ∧ am_rtag (am_re am_P 356) = 2 := ⟨rfl, rfl, rfl⟩
set_option maxRecDepth 100000 in
theorem am_k356_0 {e : ak_X3} {d : Nat} {ρ : List Nat} {h : ak_S} {Q : Int → ak_S → Prop} {X : Nat → ak_S → Prop} (w :
  ((1 : Int) = 0 →
    ((0 : Int) = 0 ∨ (0 : Int) = 1) ∧ Q 0 h)
  ∧ ((1 : Int) ≠ 0 →
    (am_I0 e.2 (am_SP + 11) 1 ≠ 0 →
      ((0 : Int) = 0 ∨ (0 : Int) = 1) ∧ Q 0 h)
    ∧ (am_I0 e.2 (am_SP + 11) 1 = 0 →
      ((1 : Int) = 0 ∨ (1 : Int) = 1) ∧ Q 1 h))) :
  ak_W0 e 0 d 356 ρ 0 [some (am_r ((am_SP + 11)))] [] h (ak_qi Q X) := ak_k_ok am_cc356 400 [] w
theorem am_cc353 : am_co am_P 353 = am_lk am_rw353 ∧ am_hl am_P 353 = [] ∧ am_rtag (am_re am_P 353) = 4 := ⟨rfl, rfl, rfl⟩
set_option maxRecDepth 100000 in
theorem am_k353_0 {e : ak_X3} {d : Nat} {ρ : List Nat} {h : ak_S} {Q : Int → ak_S → Prop} {X : Nat → ak_S → Prop} (w :
  ((1 : Int) = 0 →
    (-128 ≤ (1 : Int) ∧ (1 : Int) < 128) ∧ Q 1 h)
  ∧ ((1 : Int) ≠ 0 →
    (-128 ≤ am_I0 e.2 (am_SP + 11) 1 ∧ am_I0 e.2 (am_SP + 11) 1 < 128) ∧ Q (am_I0 e.2 (am_SP + 11) 1) h)) :
  ak_W0 e 0 d 353 ρ 0 [some (am_r ((am_SP + 11)))] [] h (ak_qi Q X) := ak_k_ok am_cc353 400 [] w
theorem am_cc358 : am_co am_P 358 = am_lk am_rw358 ∧ am_hl am_P 358 = [] ∧ am_rtag (am_re am_P 358) = 2 := ⟨rfl, rfl, rfl⟩
set_option maxRecDepth 100000 in
theorem am_k358_0 {e : ak_X3} {d : Nat} {ρ : List Nat} {h : ak_S} {Q : Int → ak_S → Prop} {X : Nat → ak_S → Prop} {x0 : Int} (w :
  (x0 < 0 →
    ((0 : Int) = 0 ∨ (0 : Int) = 1) ∧ Q 0 h)
  ∧ (0 ≤ x0 →
    (255 < x0 →
      ((0 : Int) = 0 ∨ (0 : Int) = 1) ∧ Q 0 h)
    ∧ (x0 ≤ 255 →
      ((1 : Int) = 0 ∨ (1 : Int) = 1) ∧ Q 1 h))) :
  ak_W0 e 0 d 358 ρ 0 [some (am_i x0)] [] h (ak_qi Q X) := ak_k_ok am_cc358 400 [] w
theorem am_cc360 : am_co am_P 360 = am_lk am_rw360 ∧ am_hl am_P 360 = [] ∧ am_rtag (am_re am_P 360) = 1 := ⟨rfl, rfl, rfl⟩
set_option maxRecDepth 100000 in
theorem am_k360_0 {e : ak_X3} {d : Nat} {ρ : List Nat} {h : ak_S} {Q : Int → ak_S → Prop} {X : Nat → ak_S → Prop} {x1 x2 x3 : Int} (w :
  ak_MI e 0 d ρ 358 [am_i x1] h (fun v2 h1 =>
    (v2 ≠ 0 →
      ((if x2 < 0 then 0 else x2) < (if x3 < 19 then x3 else 19) →
        ak_MI e 0 d ρ 361 [am_r ((am_SP + 21)), am_i x1, am_i ((if x2 < 0 then 0 else x2)), am_i ((if x3 < 19 then x3 else 19))] h1 (fun v4 h3 =>
          Q v4 h3) (fun _ _ => False))
      ∧ ((if x3 < 19 then x3 else 19) ≤ (if x2 < 0 then 0 else x2) →
        Q ((-1)) h1))
    ∧ (v2 = 0 →
      Q ((-1)) h1)) (fun _ _ => False)) :
  ak_W0 e 0 d 360 ρ 0 [some (am_r ((am_SP + 21))), some (am_i x1), some (am_i x2), some (am_i x3)] [] h (ak_qi Q X) := ak_k_ok am_cc360 400 [] w
theorem am_cc361 : am_co am_P 361 = am_lk am_rw361 ∧ am_hl am_P 361 = [] ∧ am_rtag (am_re am_P 361) = 1 := ⟨rfl, rfl, rfl⟩
set_option maxRecDepth 100000 in
theorem am_k361_0 {e : ak_X3} {d : Nat} {ρ : List Nat} {h : ak_S} {Q : Int → ak_S → Prop} {X : Nat → ak_S → Prop} {x1 x2 x3 : Int} (w :
  ak_W0 e 0 d 361 ρ 7 [some (am_r ((am_SP + 21))), none, none, some (am_i x3), some (am_i (am_w8 x1)), some (am_i x2)] [] h (ak_qi Q X)) :
  ak_W0 e 0 d 361 ρ 0 [some (am_r ((am_SP + 21))), some (am_i x1), some (am_i x2), some (am_i x3), none, none] [] h (ak_qi Q X) := ak_k_ok am_cc361 400 [(7, [true, false, false, true, true, true])] w
set_option maxRecDepth 100000 in
theorem am_k361_7 {e : ak_X3} {d : Nat} {ρ : List Nat} {h : ak_S} {Q : Int → ak_S → Prop} {X : Nat → ak_S → Prop} {x3 x4 x5 : Int} (w :
  (x3 ≤ x5 →
    Q ((-1)) h)
  ∧ (x5 < x3 →
    (0 ≤ x5 ∧ x5 < (19 : Int)) ∧ (am_I0 e.2 (am_SP + 21) x5.toNat ≠ x4 →
      ak_W0 e 0 d 361 ρ 7 [some (am_r ((am_SP + 21))), none, none, some (am_i x3), some (am_i x4), some (am_i (am_w32 (x5 + 1)))] [] h (ak_qi Q X))
    ∧ (am_I0 e.2 (am_SP + 21) x5.toNat = x4 →
      Q x5 h))) :
  ak_W0 e 0 d 361 ρ 7 [some (am_r ((am_SP + 21))), none, none, some (am_i x3), some (am_i x4), some (am_i x5)] [] h (ak_qi Q X) := ak_k_ok am_cc361 400 [(7, [true, false, false, true, true, true])] w
theorem am_cc363 : am_co am_P 363 = am_lk am_rw363 ∧ am_hl am_P 363 = [] ∧ am_rtag (am_re am_P 363) = 0 := ⟨rfl, rfl, rfl⟩
set_option maxRecDepth 100000 in
theorem am_k363a_0 {e : ak_X3} {d : Nat} {ρ : List Nat} {h : ak_S} {Q : ak_S → Prop} {X : Nat → ak_S → Prop} {x1 : Int} (w :
  ak_W0 e 0 d 363 ρ 5 [some (am_r 47), some (am_i x1), some (am_i 0), some (am_i 900)] [] h (ak_qv Q X)) :
  ak_W0 e 0 d 363 ρ 0 [some (am_r 47), some (am_i x1), none, none] [] h (ak_qv Q X) := ak_k_ok am_cc363 400 [(5, [true, true, true, true])] w
set_option maxRecDepth 100000 in
theorem am_k363a_5 {e : ak_X3} {d : Nat} {ρ : List Nat} {h : ak_S} {Q : ak_S → Prop} {X : Nat → ak_S → Prop} {x1 x2 x3 : Int} (w :
  (x3 ≤ x2 →
    Q h)
  ∧ (x2 < x3 →
    (0 ≤ x2 ∧ x2 < (900 : Int)) ∧ ak_W0 e 0 d 363 ρ 5 [some (am_r 47), some (am_i x1), some (am_i (am_w32 (x2 + 1))), some (am_i x3)] [] ((am_up h.1 47 x2.toNat x1), h.2) (ak_qv Q X))) :
  ak_W0 e 0 d 363 ρ 5 [some (am_r 47), some (am_i x1), some (am_i x2), some (am_i x3)] [] h (ak_qv Q X) := ak_k_ok am_cc363 400 [(5, [true, true, true, true])] w
set_option maxRecDepth 100000 in
theorem am_k363b_0 {e : ak_X3} {d : Nat} {ρ : List Nat} {h : ak_S} {Q : ak_S → Prop} {X : Nat → ak_S → Prop} {x1 : Int} (w :
  ak_W0 e 0 d 363 ρ 5 [some (am_r 68), some (am_i x1), some (am_i 0), some (am_i 40)] [] h (ak_qv Q X)) :
  ak_W0 e 0 d 363 ρ 0 [some (am_r 68), some (am_i x1), none, none] [] h (ak_qv Q X) := ak_k_ok am_cc363 400 [(5, [true, true, true, true])] w
set_option maxRecDepth 100000 in
theorem am_k363b_5 {e : ak_X3} {d : Nat} {ρ : List Nat} {h : ak_S} {Q : ak_S → Prop} {X : Nat → ak_S → Prop} {x1 x2 x3 : Int} (w :
  (x3 ≤ x2 →
    Q h)
  ∧ (x2 < x3 →
    (0 ≤ x2 ∧ x2 < (40 : Int)) ∧ ak_W0 e 0 d 363 ρ 5 [some (am_r 68), some (am_i x1), some (am_i (am_w32 (x2 + 1))), some (am_i x3)] [] ((am_up h.1 68 x2.toNat x1), h.2) (ak_qv Q X))) :
  ak_W0 e 0 d 363 ρ 5 [some (am_r 68), some (am_i x1), some (am_i x2), some (am_i x3)] [] h (ak_qv Q X) := ak_k_ok am_cc363 400 [(5, [true, true, true, true])] w
theorem am_cc364 : am_co am_P 364 = am_lk am_rw364 ∧ am_hl am_P 364 = [] ∧ am_rtag (am_re am_P 364) = 0 := ⟨rfl, rfl, rfl⟩
set_option maxRecDepth 100000 in
theorem am_k364_0 {e : ak_X3} {d : Nat} {ρ : List Nat} {h : ak_S} {Q : ak_S → Prop} {X : Nat → ak_S → Prop} {x1 x2 x3 : Int} (w :
  ak_MV e 0 d ρ 367 [am_i 6720, am_i x1, am_i x2] h (fun h1 =>
    ak_W0 e 0 d 364 ρ 10 [some (am_r 50), none, some (am_i x2), some (am_i x3), some (am_i x1)] [] h1 (ak_qv Q X)) (fun _ _ => False)) :
  ak_W0 e 0 d 364 ρ 0 [some (am_r 50), some (am_i x1), some (am_i x2), some (am_i x3), none] [] h (ak_qv Q X) := ak_k_ok am_cc364 400 [(10, [true, false, true, true, true])] w
set_option maxRecDepth 100000 in
theorem am_k364_10 {e : ak_X3} {d : Nat} {ρ : List Nat} {h : ak_S} {Q : ak_S → Prop} {X : Nat → ak_S → Prop} {x2 x3 x4 : Int} (w :
  (x2 ≤ x4 →
    Q h)
  ∧ (x4 < x2 →
    (0 ≤ x4 ∧ x4 < (6720 : Int)) ∧ ak_W0 e 0 d 364 ρ 10 [some (am_r 50), none, some (am_i x2), some (am_i x3), some (am_i (am_w32 (x4 + 1)))] [] ((am_up h.1 50 x4.toNat x3), h.2) (ak_qv Q X))) :
  ak_W0 e 0 d 364 ρ 10 [some (am_r 50), none, some (am_i x2), some (am_i x3), some (am_i x4)] [] h (ak_qv Q X) := ak_k_ok am_cc364 400 [(10, [true, false, true, true, true])] w
theorem am_cc365 : am_co am_P 365 = am_lk am_rw365 ∧ am_hl am_P 365 = [] ∧ am_rtag (am_re am_P 365) = 0 := ⟨rfl, rfl, rfl⟩
set_option maxRecDepth 100000 in
theorem am_k365_0 {e : ak_X3} {d : Nat} {ρ : List Nat} {h : ak_S} {Q : ak_S → Prop} {X : Nat → ak_S → Prop} {x1 x2 x3 : Int} (w :
  ak_MV e 0 d ρ 367 [am_i 6720, am_i x1, am_i x2] h (fun h1 =>
    ak_W0 e 0 d 365 ρ 10 [some (am_r 51), none, some (am_i x2), some (am_l x3), none, some (am_i x1)] [] h1 (ak_qv Q X)) (fun _ _ => False)) :
  ak_W0 e 0 d 365 ρ 0 [some (am_r 51), some (am_i x1), some (am_i x2), some (am_l x3), none, none] [] h (ak_qv Q X) := ak_k_ok am_cc365 400 [(10, [true, false, true, true, false, true])] w
set_option maxRecDepth 100000 in
theorem am_k365_10 {e : ak_X3} {d : Nat} {ρ : List Nat} {h : ak_S} {Q : ak_S → Prop} {X : Nat → ak_S → Prop} {x2 x3 x5 : Int} (w :
  (x2 ≤ x5 →
    Q h)
  ∧ (x5 < x2 →
    (0 ≤ x5 ∧ x5 < (6720 : Int)) ∧ ak_W0 e 0 d 365 ρ 10 [some (am_r 51), none, some (am_i x2), some (am_l x3), none, some (am_i (am_w32 (x5 + 1)))] [] (h.1, (am_up h.2.1 51 x5.toNat x3), h.2.2) (ak_qv Q X))) :
  ak_W0 e 0 d 365 ρ 10 [some (am_r 51), none, some (am_i x2), some (am_l x3), none, some (am_i x5)] [] h (ak_qv Q X) := ak_k_ok am_cc365 400 [(10, [true, false, true, true, false, true])] w
theorem am_cc366 : am_co am_P 366 = am_lk am_rw366 ∧ am_hl am_P 366 = [] ∧ am_rtag (am_re am_P 366) = 0 := ⟨rfl, rfl, rfl⟩
set_option maxRecDepth 100000 in
theorem am_k366a_0 {e : ak_X3} {d : Nat} {ρ : List Nat} {h : ak_S} {Q : ak_S → Prop} {X : Nat → ak_S → Prop} {x1 : Int} (w :
  ak_W0 e 0 d 366 ρ 6 [some (am_r 41), some (am_l x1), none, some (am_i 0), some (am_i 4)] [] h (ak_qv Q X)) :
  ak_W0 e 0 d 366 ρ 0 [some (am_r 41), some (am_l x1), none, none, none] [] h (ak_qv Q X) := ak_k_ok am_cc366 400 [(6, [true, true, false, true, true])] w
set_option maxRecDepth 100000 in
theorem am_k366a_6 {e : ak_X3} {d : Nat} {ρ : List Nat} {h : ak_S} {Q : ak_S → Prop} {X : Nat → ak_S → Prop} {x1 x3 x4 : Int} (w :
  (x4 ≤ x3 →
    Q h)
  ∧ (x3 < x4 →
    (0 ≤ x3 ∧ x3 < (4 : Int)) ∧ ak_W0 e 0 d 366 ρ 6 [some (am_r 41), some (am_l x1), none, some (am_i (am_w32 (x3 + 1))), some (am_i x4)] [] (h.1, (am_up h.2.1 41 x3.toNat x1), h.2.2) (ak_qv Q X))) :
  ak_W0 e 0 d 366 ρ 6 [some (am_r 41), some (am_l x1), none, some (am_i x3), some (am_i x4)] [] h (ak_qv Q X) := ak_k_ok am_cc366 400 [(6, [true, true, false, true, true])] w
set_option maxRecDepth 100000 in
theorem am_k366b_0 {e : ak_X3} {d : Nat} {ρ : List Nat} {h : ak_S} {Q : ak_S → Prop} {X : Nat → ak_S → Prop} {x1 : Int} (w :
  ak_W0 e 0 d 366 ρ 6 [some (am_r 64), some (am_l x1), none, some (am_i 0), some (am_i 7)] [] h (ak_qv Q X)) :
  ak_W0 e 0 d 366 ρ 0 [some (am_r 64), some (am_l x1), none, none, none] [] h (ak_qv Q X) := ak_k_ok am_cc366 400 [(6, [true, true, false, true, true])] w
set_option maxRecDepth 100000 in
theorem am_k366b_6 {e : ak_X3} {d : Nat} {ρ : List Nat} {h : ak_S} {Q : ak_S → Prop} {X : Nat → ak_S → Prop} {x1 x3 x4 : Int} (w :
  (x4 ≤ x3 →
    Q h)
  ∧ (x3 < x4 →
    (0 ≤ x3 ∧ x3 < (7 : Int)) ∧ ak_W0 e 0 d 366 ρ 6 [some (am_r 64), some (am_l x1), none, some (am_i (am_w32 (x3 + 1))), some (am_i x4)] [] (h.1, (am_up h.2.1 64 x3.toNat x1), h.2.2) (ak_qv Q X))) :
  ak_W0 e 0 d 366 ρ 6 [some (am_r 64), some (am_l x1), none, some (am_i x3), some (am_i x4)] [] h (ak_qv Q X) := ak_k_ok am_cc366 400 [(6, [true, true, false, true, true])] w
theorem am_cc367 : am_co am_P 367 = am_lk am_rw367 ∧ am_hl am_P 367 = [] ∧ am_rtag (am_re am_P 367) = 0 := ⟨rfl, rfl, rfl⟩
set_option maxRecDepth 100000 in
theorem am_k367_0 {e : ak_X3} {d : Nat} {ρ : List Nat} {h : ak_S} {Q : ak_S → Prop} {X : Nat → ak_S → Prop} {x0 x1 x2 : Int} (w :
  (x1 ≤ x2 →
    (0 ≤ x1 →
      (x2 ≤ x0 →
        Q h)
      ∧ (x0 < x2 →
        False))
    ∧ (x1 < 0 →
      False))
  ∧ (x2 < x1 →
    False)) :
  ak_W0 e 0 d 367 ρ 0 [some (am_i x0), some (am_i x1), some (am_i x2)] [] h (ak_qv Q X) := ak_k_ok am_cc367 400 [] w
