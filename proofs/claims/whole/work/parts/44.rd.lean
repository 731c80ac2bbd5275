/-! rules of runs, methods 196 to 262 -/
theorem am_cc197 : am_co am_P 197 = am_lk am_rw197 ∧ am_hl am_P 197 = [] ∧ am_rtag (am_re am_P 197) = 1 := ⟨rfl, rfl, rfl⟩
set_option maxRecDepth 100000 in
theorem am_k197_0 {e : ak_X3} {d : Nat} {ρ : List Nat} {h : ak_S} {Q : Int → ak_S → Prop} {X : Nat → ak_S → Prop} (w :
  Q (h.1 110 0) h) :
  ak_W0 e 1 d 197 ρ 0 [some (am_r 110)] [] h (ak_qi Q X) := ak_k_ok am_cc197 400 [] w
theorem am_cc198 : am_co am_P 198 = am_lk am_rw198 ∧ am_hl am_P 198 = [] ∧ am_rtag (am_re am_P 198) = 1 := ⟨rfl, rfl, rfl⟩
set_option maxRecDepth 100000 in
theorem am_k198_0 {e : ak_X3} {d : Nat} {ρ : List Nat} {h : ak_S} {Q : Int → ak_S → Prop} {X : Nat → ak_S → Prop} {x1 : Int} (w :
  Q 0 ((am_up h.1 110 0 x1), h.2)) :
  ak_W0 e 1 d 198 ρ 0 [some (am_r 110), some (am_i x1)] [] h (ak_qi Q X) := ak_k_ok am_cc198 400 [] w
theorem am_cc199 : am_co am_P 199 = am_lk am_rw199 ∧ am_hl am_P 199 = [] ∧ am_rtag (am_re am_P 199) = 1 := ⟨rfl, rfl, rfl⟩
set_option maxRecDepth 100000 in
theorem am_k199_0 {e : ak_X3} {d : Nat} {ρ : List Nat} {h : ak_S} {Q : Int → ak_S → Prop} {X : Nat → ak_S → Prop} {x1 x2 x3 x4 x5 : Int} (w :
  (am_w32 ((h.1 110 2) + 20) ≤ 6000 →
    ak_W0 e 1 d 199 ρ 27 [some (am_r 110), some (am_i x1), some (am_i x2), some (am_i x3), some (am_i x4), some (am_i x5), some (am_i 0), none] [] ((am_up h.1 110 0 0), h.2) (ak_qi Q X))
  ∧ (6000 < am_w32 ((h.1 110 2) + 20) →
    ak_MI e 1 d ρ 198 [am_r 110, am_i 1] h (fun v2 h1 =>
      Q v2 h1) (fun _ _ => False))) :
  ak_W0 e 1 d 199 ρ 0 [some (am_r 110), some (am_i x1), some (am_i x2), some (am_i x3), some (am_i x4), some (am_i x5), none, none] [] h (ak_qi Q X) := ak_k_ok am_cc199 400 [(27, [true, true, true, true, true, true, true, false]), (80, [true, true, true, true, true, true, true, false])] w
set_option maxRecDepth 100000 in
theorem am_k199_27 {e : ak_X3} {d : Nat} {ρ : List Nat} {h : ak_S} {Q : Int → ak_S → Prop} {X : Nat → ak_S → Prop} {x1 x2 x3 x4 x5 x6 : Int} (w :
  (20 ≤ x6 →
    Q (h.1 110 2) h)
  ∧ (x6 < 20 →
    (4 ≤ x6 →
      (8 ≤ x6 →
        (12 ≤ x6 →
          (16 ≤ x6 →
            ak_W0 e 1 d 199 ρ 80 [some (am_r 110), some (am_i x1), some (am_i x2), some (am_i x3), some (am_i x4), some (am_i x5), some (am_i x6), none] [am_i x5] h (ak_qi Q X))
          ∧ (x6 < 16 →
            ak_W0 e 1 d 199 ρ 80 [some (am_r 110), some (am_i x1), some (am_i x2), some (am_i x3), some (am_i x4), some (am_i x5), some (am_i x6), none] [am_i x4] h (ak_qi Q X)))
        ∧ (x6 < 12 →
          ak_W0 e 1 d 199 ρ 80 [some (am_r 110), some (am_i x1), some (am_i x2), some (am_i x3), some (am_i x4), some (am_i x5), some (am_i x6), none] [am_i x3] h (ak_qi Q X)))
      ∧ (x6 < 8 →
        ak_W0 e 1 d 199 ρ 80 [some (am_r 110), some (am_i x1), some (am_i x2), some (am_i x3), some (am_i x4), some (am_i x5), some (am_i x6), none] [am_i x2] h (ak_qi Q X)))
    ∧ (x6 < 4 →
      ak_W0 e 1 d 199 ρ 80 [some (am_r 110), some (am_i x1), some (am_i x2), some (am_i x3), some (am_i x4), some (am_i x5), some (am_i x6), none] [am_i x1] h (ak_qi Q X)))) :
  ak_W0 e 1 d 199 ρ 27 [some (am_r 110), some (am_i x1), some (am_i x2), some (am_i x3), some (am_i x4), some (am_i x5), some (am_i x6), none] [] h (ak_qi Q X) := ak_k_ok am_cc199 400 [(27, [true, true, true, true, true, true, true, false]), (80, [true, true, true, true, true, true, true, false])] w
set_option maxRecDepth 100000 in
theorem am_k199_80 {e : ak_X3} {d : Nat} {ρ : List Nat} {h : ak_S} {Q : Int → ak_S → Prop} {X : Nat → ak_S → Prop} {x1 x2 x3 x4 x5 x6 y0 : Int} (w :
  ((4 : Int) ≠ 0) ∧ (0 ≤ h.1 110 2 ∧ h.1 110 2 < (6000 : Int)) ∧ ak_W0 e 1 d 199 ρ 27 [some (am_r 110), some (am_i x1), some (am_i x2), some (am_i x3), some (am_i x4), some (am_i x5), some (am_i (am_w32 (x6 + 1))), none] [] ((am_up (am_up h.1 111 (h.1 110 2).toNat ((Int32.ofInt (((Int32.ofInt y0).toUInt32 >>> ((Int32.ofInt (am_w32 (24 - (am_w32 (8 * (Int.tmod x6 4)))))).toUInt32 &&& Int32.toUInt32 31)).toInt32.toInt) &&& Int32.ofInt 255).toInt)) 110 2 (am_w32 ((h.1 110 2) + 1))), h.2) (ak_qi Q X)) :
  ak_W0 e 1 d 199 ρ 80 [some (am_r 110), some (am_i x1), some (am_i x2), some (am_i x3), some (am_i x4), some (am_i x5), some (am_i x6), none] [am_i y0] h (ak_qi Q X) := ak_k_ok am_cc199 400 [(27, [true, true, true, true, true, true, true, false]), (80, [true, true, true, true, true, true, true, false])] w
theorem am_cc200 : am_co am_P 200 = am_lk am_rw200 ∧ am_hl am_P 200 = [] ∧ am_rtag (am_re am_P 200) = 0 := ⟨rfl, rfl, rfl⟩
set_option maxRecDepth 100000 in
theorem am_k200_0 {e : ak_X3} {d : Nat} {ρ : List Nat} {h : ak_S} {Q : ak_S → Prop} {X : Nat → ak_S → Prop} {x1 : Int} (w :
  (x1 < 0 →
    ((1 : Int) ≠ 0 →
      Q ((am_up h.1 110 0 1), h.2))
    ∧ ((1 : Int) = 0 →
      Q ((am_up (am_up h.1 110 0 1) 110 2 x1), h.2)))
  ∧ (0 ≤ x1 →
    (x1 ≤ h.1 110 2 →
      ((0 : Int) ≠ 0 →
        Q ((am_up h.1 110 0 0), h.2))
      ∧ ((0 : Int) = 0 →
        Q ((am_up (am_up h.1 110 0 0) 110 2 x1), h.2)))
    ∧ (h.1 110 2 < x1 →
      ((1 : Int) ≠ 0 →
        Q ((am_up h.1 110 0 1), h.2))
      ∧ ((1 : Int) = 0 →
        Q ((am_up (am_up h.1 110 0 1) 110 2 x1), h.2))))) :
  ak_W0 e 1 d 200 ρ 0 [some (am_r 110), some (am_i x1)] [] h (ak_qv Q X) := ak_k_ok am_cc200 400 [] w
theorem am_cc201 : am_co am_P 201 = am_lk am_rw201 ∧ am_hl am_P 201 = [] ∧ am_rtag (am_re am_P 201) = 1 := ⟨rfl, rfl, rfl⟩
set_option maxRecDepth 100000 in
theorem am_k201_0 {e : ak_X3} {d : Nat} {ρ : List Nat} {h : ak_S} {Q : Int → ak_S → Prop} {X : Nat → ak_S → Prop} {x1 : Int} (w :
  (0 ≤ h.1 110 31 ∧ h.1 110 31 < (2 : Int)) ∧ (h.1 113 (h.1 110 31).toNat ≤ x1 →
    Q ((-1)) h)
  ∧ (x1 < h.1 113 (h.1 110 31).toNat →
    (0 ≤ am_w32 ((am_w32 (6000 * (h.1 110 31))) + x1) ∧ am_w32 ((am_w32 (6000 * (h.1 110 31))) + x1) < (12000 : Int)) ∧ Q (h.1 112 (am_w32 ((am_w32 (6000 * (h.1 110 31))) + x1)).toNat) h)) :
  ak_W0 e 1 d 201 ρ 0 [some (am_r 110), some (am_i x1)] [] h (ak_qi Q X) := ak_k_ok am_cc201 400 [] w
theorem am_cc202 : am_co am_P 202 = am_lk am_rw202 ∧ am_hl am_P 202 = [] ∧ am_rtag (am_re am_P 202) = 2 := ⟨rfl, rfl, rfl⟩
set_option maxRecDepth 100000 in
theorem am_k202_0 {e : ak_X3} {d : Nat} {ρ : List Nat} {h : ak_S} {Q : Int → ak_S → Prop} {X : Nat → ak_S → Prop} {x0 : Int} (w :
  (x0 < 97 →
    ((0 : Int) = 0 ∨ (0 : Int) = 1) ∧ Q 0 h)
  ∧ (97 ≤ x0 →
    (122 < x0 →
      ((0 : Int) = 0 ∨ (0 : Int) = 1) ∧ Q 0 h)
    ∧ (x0 ≤ 122 →
      ((1 : Int) = 0 ∨ (1 : Int) = 1) ∧ Q 1 h))) :
  ak_W0 e 1 d 202 ρ 0 [some (am_i x0)] [] h (ak_qi Q X) := ak_k_ok am_cc202 400 [] w
theorem am_cc203 : am_co am_P 203 = am_lk am_rw203 ∧ am_hl am_P 203 = [] ∧ am_rtag (am_re am_P 203) = 2 := ⟨rfl, rfl, rfl⟩
set_option maxRecDepth 100000 in
theorem am_k203_0 {e : ak_X3} {d : Nat} {ρ : List Nat} {h : ak_S} {Q : Int → ak_S → Prop} {X : Nat → ak_S → Prop} {x0 : Int} (w :
  (x0 < 48 →
    ((0 : Int) = 0 ∨ (0 : Int) = 1) ∧ Q 0 h)
  ∧ (48 ≤ x0 →
    (57 < x0 →
      ((0 : Int) = 0 ∨ (0 : Int) = 1) ∧ Q 0 h)
    ∧ (x0 ≤ 57 →
      ((1 : Int) = 0 ∨ (1 : Int) = 1) ∧ Q 1 h))) :
  ak_W0 e 1 d 203 ρ 0 [some (am_i x0)] [] h (ak_qi Q X) := ak_k_ok am_cc203 400 [] w
theorem am_cc204 : am_co am_P 204 = am_lk am_rw204 ∧ am_hl am_P 204 = [] ∧ am_rtag (am_re am_P 204) = 1 := ⟨rfl, rfl, rfl⟩
set_option maxRecDepth 100000 in
theorem am_k204_0 {e : ak_X3} {d : Nat} {ρ : List Nat} {h : ak_S} {Q : Int → ak_S → Prop} {X : Nat → ak_S → Prop} (w :
  (h.1 110 35 ≤ 7 →
    ak_W0 e 1 d 204 ρ 13 [some (am_r 110), some (am_i 0), none, none] [] h (ak_qi Q X))
  ∧ (7 < h.1 110 35 →
    Q 2 h)) :
  ak_W0 e 1 d 204 ρ 0 [some (am_r 110), none, none, none] [] h (ak_qi Q X) := ak_k_ok am_cc204 400 [(13, [true, true, false, false]), (23, [true, true, true, true])] w
set_option maxRecDepth 100000 in
theorem am_k204_13 {e : ak_X3} {d : Nat} {ρ : List Nat} {h : ak_S} {Q : Int → ak_S → Prop} {X : Nat → ak_S → Prop} {x1 : Int} (w :
  (24 ≤ x1 →
    Q 2 h)
  ∧ (x1 < 24 →
    ak_W0 e 1 d 204 ρ 23 [some (am_r 110), some (am_i x1), some (am_i 1), some (am_i 0)] [] h (ak_qi Q X))) :
  ak_W0 e 1 d 204 ρ 13 [some (am_r 110), some (am_i x1), none, none] [] h (ak_qi Q X) := ak_k_ok am_cc204 400 [(13, [true, true, false, false]), (23, [true, true, true, true])] w
set_option maxRecDepth 100000 in
theorem am_k204_23 {e : ak_X3} {d : Nat} {ρ : List Nat} {h : ak_S} {Q : Int → ak_S → Prop} {X : Nat → ak_S → Prop} {x1 x2 x3 : Int} (w :
  (8 ≤ x3 →
    (x2 = 0 →
      ak_W0 e 1 d 204 ρ 13 [some (am_r 110), some (am_i (am_w32 (x1 + 1))), none, none] [] h (ak_qi Q X))
    ∧ (x2 ≠ 0 →
      Q (am_w32 (200 + x1)) h))
  ∧ (x3 < 8 →
    (x2 = 0 →
      ak_W0 e 1 d 204 ρ 23 [some (am_r 110), some (am_i x1), some (am_i 0), some (am_i (am_w32 (x3 + 1)))] [] h (ak_qi Q X))
    ∧ (x2 ≠ 0 →
      (0 ≤ am_w32 ((am_w32 (8 * x1)) + x3) ∧ am_w32 ((am_w32 (8 * x1)) + x3) < (192 : Int)) ∧ (h.1 110 35 ≤ x3 →
        (h.1 137 (am_w32 ((am_w32 (8 * x1)) + x3)).toNat ≠ 0 →
          ak_W0 e 1 d 204 ρ 23 [some (am_r 110), some (am_i x1), some (am_i 0), some (am_i (am_w32 (x3 + 1)))] [] h (ak_qi Q X))
        ∧ (h.1 137 (am_w32 ((am_w32 (8 * x1)) + x3)).toNat = 0 →
          ak_W0 e 1 d 204 ρ 23 [some (am_r 110), some (am_i x1), some (am_i 1), some (am_i (am_w32 (x3 + 1)))] [] h (ak_qi Q X)))
      ∧ (x3 < h.1 110 35 →
        ak_MI e 1 d ρ 201 [am_r 110, am_i (am_w32 ((h.1 110 34) + x3))] h (fun v2 h1 =>
          (h.1 137 (am_w32 ((am_w32 (8 * x1)) + x3)).toNat ≠ v2 →
            ak_W0 e 1 d 204 ρ 23 [some (am_r 110), some (am_i x1), some (am_i 0), some (am_i (am_w32 (x3 + 1)))] [] h1 (ak_qi Q X))
          ∧ (h.1 137 (am_w32 ((am_w32 (8 * x1)) + x3)).toNat = v2 →
            ak_W0 e 1 d 204 ρ 23 [some (am_r 110), some (am_i x1), some (am_i 1), some (am_i (am_w32 (x3 + 1)))] [] h1 (ak_qi Q X))) (fun _ _ => False))))) :
  ak_W0 e 1 d 204 ρ 23 [some (am_r 110), some (am_i x1), some (am_i x2), some (am_i x3)] [] h (ak_qi Q X) := ak_k_ok am_cc204 400 [(13, [true, true, false, false]), (23, [true, true, true, true])] w
theorem am_cc205 : am_co am_P 205 = am_lk am_rw205 ∧ am_hl am_P 205 = [] ∧ am_rtag (am_re am_P 205) = 0 := ⟨rfl, rfl, rfl⟩
set_option maxRecDepth 100000 in
theorem am_k205_0 {e : ak_X3} {d : Nat} {ρ : List Nat} {h : ak_S} {Q : ak_S → Prop} {X : Nat → ak_S → Prop} (w :
  ak_MI e 1 d ρ 201 [am_r 110, am_i (h.1 110 32)] h (fun v2 h1 =>
    (v2 = 10 →
      ak_W0 e 1 d 205 ρ 0 [some (am_r 110), none] [] ((am_up h1.1 110 32 (am_w32 ((h1.1 110 32) + 1))), h1.2) (ak_qv Q X))
    ∧ (v2 ≠ 10 →
      ak_MI e 1 d ρ 201 [am_r 110, am_i (h1.1 110 32)] h1 (fun v4 h3 =>
        (v4 ≠ 32 →
          ak_MI e 1 d ρ 201 [am_r 110, am_i (h3.1 110 32)] ((am_up h3.1 110 34 (h3.1 110 32)), h3.2) (fun v6 h5 =>
            (0 ≤ v6 →
              ak_MI e 1 d ρ 202 [am_i v6] h5 (fun v8 h7 =>
                (v8 = 0 →
                  ak_MI e 1 d ρ 203 [am_i v6] h7 (fun v10 h9 =>
                    (v10 = 0 →
                      (v6 ≠ 61 →
                        ak_W0 e 1 d 205 ρ 300 [some (am_r 110), some (am_i v6)] [] ((am_up (am_up h9.1 110 32 (am_w32 ((h9.1 110 32) + 1))) 110 33 1), h9.2) (ak_qv Q X))
                      ∧ (v6 = 61 →
                        ak_MI e 1 d ρ 201 [am_r 110, am_i (am_w32 ((h9.1 110 32) + 1))] ((am_up (am_up h9.1 110 32 (am_w32 ((h9.1 110 32) + 1))) 110 33 1), h9.2) (fun v12 h11 =>
                          (v12 ≠ 61 →
                            ak_W0 e 1 d 205 ρ 300 [some (am_r 110), some (am_i v6)] [] h11 (ak_qv Q X))
                          ∧ (v12 = 61 →
                            Q ((am_up (am_up (am_up h11.1 110 32 (am_w32 ((h11.1 110 32) + 1))) 110 33 4) 110 35 (am_w32 ((am_w32 ((h11.1 110 32) + 1)) - (h11.1 110 34)))), h11.2))) (fun _ _ => False)))
                    ∧ (v10 ≠ 0 →
                      ak_W0 e 1 d 205 ρ 152 [some (am_r 110), none] [] ((am_up h9.1 110 36 0), h9.2) (ak_qv Q X))) (fun _ _ => False))
                ∧ (v8 ≠ 0 →
                  ak_W0 e 1 d 205 ρ 78 [some (am_r 110), none] [] h7 (ak_qv Q X))) (fun _ _ => False))
            ∧ (v6 < 0 →
              Q ((am_up (am_up h5.1 110 33 0) 110 35 0), h5.2))) (fun _ _ => False))
        ∧ (v4 = 32 →
          ak_W0 e 1 d 205 ρ 0 [some (am_r 110), none] [] ((am_up h3.1 110 32 (am_w32 ((h3.1 110 32) + 1))), h3.2) (ak_qv Q X))) (fun _ _ => False))) (fun _ _ => False)) :
  ak_W0 e 1 d 205 ρ 0 [some (am_r 110), none] [] h (ak_qv Q X) := ak_k_ok am_cc205 400 [(0, [true, false]), (78, [true, false]), (152, [true, false]), (300, [true, true])] w
set_option maxRecDepth 100000 in
theorem am_k205_78 {e : ak_X3} {d : Nat} {ρ : List Nat} {h : ak_S} {Q : ak_S → Prop} {X : Nat → ak_S → Prop} (w :
  ak_MI e 1 d ρ 201 [am_r 110, am_i (h.1 110 32)] h (fun v2 h1 =>
    ak_MI e 1 d ρ 202 [am_i v2] h1 (fun v4 h3 =>
      (v4 = 0 →
        (am_w32 ((h3.1 110 32) - (h3.1 110 34)) ≤ 8 →
          ak_MI e 1 d ρ 204 [am_r 110] ((am_up h3.1 110 35 (am_w32 ((h3.1 110 32) - (h3.1 110 34)))), h3.2) (fun v6 h5 =>
            Q ((am_up h5.1 110 33 v6), h5.2)) (fun _ _ => False))
        ∧ (8 < am_w32 ((h3.1 110 32) - (h3.1 110 34)) →
          Q ((am_up (am_up h3.1 110 35 (am_w32 ((h3.1 110 32) - (h3.1 110 34)))) 110 33 1), h3.2)))
      ∧ (v4 ≠ 0 →
        ak_W0 e 1 d 205 ρ 78 [some (am_r 110), none] [] ((am_up h3.1 110 32 (am_w32 ((h3.1 110 32) + 1))), h3.2) (ak_qv Q X))) (fun _ _ => False)) (fun _ _ => False)) :
  ak_W0 e 1 d 205 ρ 78 [some (am_r 110), none] [] h (ak_qv Q X) := ak_k_ok am_cc205 400 [(0, [true, false]), (78, [true, false]), (152, [true, false]), (300, [true, true])] w
set_option maxRecDepth 100000 in
theorem am_k205_152 {e : ak_X3} {d : Nat} {ρ : List Nat} {h : ak_S} {Q : ak_S → Prop} {X : Nat → ak_S → Prop} (w :
  ak_MI e 1 d ρ 201 [am_r 110, am_i (h.1 110 32)] h (fun v2 h1 =>
    ak_MI e 1 d ρ 203 [am_i v2] h1 (fun v4 h3 =>
      (v4 = 0 →
        (am_w32 ((h3.1 110 32) - (h3.1 110 34)) ≤ 9 →
          Q ((am_up (am_up h3.1 110 35 (am_w32 ((h3.1 110 32) - (h3.1 110 34)))) 110 33 3), h3.2))
        ∧ (9 < am_w32 ((h3.1 110 32) - (h3.1 110 34)) →
          Q ((am_up (am_up h3.1 110 35 (am_w32 ((h3.1 110 32) - (h3.1 110 34)))) 110 33 1), h3.2)))
      ∧ (v4 ≠ 0 →
        (9 ≤ am_w32 ((h3.1 110 32) - (h3.1 110 34)) →
          ak_W0 e 1 d 205 ρ 152 [some (am_r 110), none] [] ((am_up h3.1 110 32 (am_w32 ((h3.1 110 32) + 1))), h3.2) (ak_qv Q X))
        ∧ (am_w32 ((h3.1 110 32) - (h3.1 110 34)) < 9 →
          ak_MI e 1 d ρ 201 [am_r 110, am_i (h3.1 110 32)] h3 (fun v6 h5 =>
            ak_W0 e 1 d 205 ρ 152 [some (am_r 110), none] [] ((am_up (am_up h5.1 110 36 (am_w32 ((am_w32 ((am_w32 (10 * (h3.1 110 36))) + v6)) - 48))) 110 32 (am_w32 ((h5.1 110 32) + 1))), h5.2) (ak_qv Q X)) (fun _ _ => False)))) (fun _ _ => False)) (fun _ _ => False)) :
  ak_W0 e 1 d 205 ρ 152 [some (am_r 110), none] [] h (ak_qv Q X) := ak_k_ok am_cc205 400 [(0, [true, false]), (78, [true, false]), (152, [true, false]), (300, [true, true])] w
set_option maxRecDepth 100000 in
theorem am_k205_300 {e : ak_X3} {d : Nat} {ρ : List Nat} {h : ak_S} {Q : ak_S → Prop} {X : Nat → ak_S → Prop} {x1 : Int} (w :
  (x1 = 123 →
    Q ((am_up (am_up h.1 110 33 x1) 110 35 (am_w32 ((h.1 110 32) - (h.1 110 34)))), h.2))
  ∧ (x1 ≠ 123 →
    (x1 = 125 →
      Q ((am_up (am_up h.1 110 33 x1) 110 35 (am_w32 ((h.1 110 32) - (h.1 110 34)))), h.2))
    ∧ (x1 ≠ 125 →
      (x1 = 40 →
        Q ((am_up (am_up h.1 110 33 x1) 110 35 (am_w32 ((h.1 110 32) - (h.1 110 34)))), h.2))
      ∧ (x1 ≠ 40 →
        (x1 = 41 →
          Q ((am_up (am_up h.1 110 33 x1) 110 35 (am_w32 ((h.1 110 32) - (h.1 110 34)))), h.2))
        ∧ (x1 ≠ 41 →
          (x1 = 91 →
            Q ((am_up (am_up h.1 110 33 x1) 110 35 (am_w32 ((h.1 110 32) - (h.1 110 34)))), h.2))
          ∧ (x1 ≠ 91 →
            (x1 = 93 →
              Q ((am_up (am_up h.1 110 33 x1) 110 35 (am_w32 ((h.1 110 32) - (h.1 110 34)))), h.2))
            ∧ (x1 ≠ 93 →
              (x1 = 124 →
                Q ((am_up (am_up h.1 110 33 x1) 110 35 (am_w32 ((h.1 110 32) - (h.1 110 34)))), h.2))
              ∧ (x1 ≠ 124 →
                (x1 = 44 →
                  Q ((am_up (am_up h.1 110 33 x1) 110 35 (am_w32 ((h.1 110 32) - (h.1 110 34)))), h.2))
                ∧ (x1 ≠ 44 →
                  (x1 = 59 →
                    Q ((am_up (am_up h.1 110 33 x1) 110 35 (am_w32 ((h.1 110 32) - (h.1 110 34)))), h.2))
                  ∧ (x1 ≠ 59 →
                    (x1 = 46 →
                      Q ((am_up (am_up h.1 110 33 x1) 110 35 (am_w32 ((h.1 110 32) - (h.1 110 34)))), h.2))
                    ∧ (x1 ≠ 46 →
                      (x1 = 33 →
                        Q ((am_up (am_up h.1 110 33 x1) 110 35 (am_w32 ((h.1 110 32) - (h.1 110 34)))), h.2))
                      ∧ (x1 ≠ 33 →
                        (x1 = 61 →
                          Q ((am_up (am_up h.1 110 33 x1) 110 35 (am_w32 ((h.1 110 32) - (h.1 110 34)))), h.2))
                        ∧ (x1 ≠ 61 →
                          (x1 = 60 →
                            Q ((am_up (am_up h.1 110 33 x1) 110 35 (am_w32 ((h.1 110 32) - (h.1 110 34)))), h.2))
                          ∧ (x1 ≠ 60 →
                            (x1 = 62 →
                              Q ((am_up (am_up h.1 110 33 x1) 110 35 (am_w32 ((h.1 110 32) - (h.1 110 34)))), h.2))
                            ∧ (x1 ≠ 62 →
                              (x1 = 43 →
                                Q ((am_up (am_up h.1 110 33 x1) 110 35 (am_w32 ((h.1 110 32) - (h.1 110 34)))), h.2))
                              ∧ (x1 ≠ 43 →
                                (x1 = 45 →
                                  Q ((am_up (am_up h.1 110 33 x1) 110 35 (am_w32 ((h.1 110 32) - (h.1 110 34)))), h.2))
                                ∧ (x1 ≠ 45 →
                                  (x1 = 42 →
                                    Q ((am_up (am_up h.1 110 33 x1) 110 35 (am_w32 ((h.1 110 32) - (h.1 110 34)))), h.2))
                                  ∧ (x1 ≠ 42 →
                                    (x1 = 47 →
                                      Q ((am_up (am_up h.1 110 33 x1) 110 35 (am_w32 ((h.1 110 32) - (h.1 110 34)))), h.2))
                                    ∧ (x1 ≠ 47 →
                                      (x1 ≠ 37 →
                                        Q ((am_up h.1 110 35 (am_w32 ((h.1 110 32) - (h.1 110 34)))), h.2))
                                      ∧ (x1 = 37 →
                                        Q ((am_up (am_up h.1 110 33 x1) 110 35 (am_w32 ((h.1 110 32) - (h.1 110 34)))), h.2))))))))))))))))))))) :
  ak_W0 e 1 d 205 ρ 300 [some (am_r 110), some (am_i x1)] [] h (ak_qv Q X) := ak_k_ok am_cc205 400 [(0, [true, false]), (78, [true, false]), (152, [true, false]), (300, [true, true])] w
theorem am_cc206 : am_co am_P 206 = am_lk am_rw206 ∧ am_hl am_P 206 = [] ∧ am_rtag (am_re am_P 206) = 2 := ⟨rfl, rfl, rfl⟩
set_option maxRecDepth 100000 in
theorem am_k206_0 {e : ak_X3} {d : Nat} {ρ : List Nat} {h : ak_S} {Q : Int → ak_S → Prop} {X : Nat → ak_S → Prop} (w :
  (h.1 110 37 < 0 →
    ((0 : Int) = 0 ∨ (0 : Int) = 1) ∧ Q 0 h)
  ∧ (0 ≤ h.1 110 37 →
    ((1 : Int) = 0 ∨ (1 : Int) = 1) ∧ Q 1 h)) :
  ak_W0 e 1 d 206 ρ 0 [some (am_r 110)] [] h (ak_qi Q X) := ak_k_ok am_cc206 400 [] w
theorem am_cc207 : am_co am_P 207 = am_lk am_rw207 ∧ am_hl am_P 207 = [] ∧ am_rtag (am_re am_P 207) = 0 := ⟨rfl, rfl, rfl⟩
set_option maxRecDepth 100000 in
theorem am_k207_0 {e : ak_X3} {d : Nat} {ρ : List Nat} {h : ak_S} {Q : ak_S → Prop} {X : Nat → ak_S → Prop} {x1 : Int} (w :
  (0 ≤ h.1 110 37 →
    Q h)
  ∧ (h.1 110 37 < 0 →
    Q ((am_up h.1 110 37 x1), h.2))) :
  ak_W0 e 1 d 207 ρ 0 [some (am_r 110), some (am_i x1)] [] h (ak_qv Q X) := ak_k_ok am_cc207 400 [] w
theorem am_cc208 : am_co am_P 208 = am_lk am_rw208 ∧ am_hl am_P 208 = [] ∧ am_rtag (am_re am_P 208) = 2 := ⟨rfl, rfl, rfl⟩
set_option maxRecDepth 100000 in
theorem am_k208_0 {e : ak_X3} {d : Nat} {ρ : List Nat} {h : ak_S} {Q : Int → ak_S → Prop} {X : Nat → ak_S → Prop} {x1 : Int} (w :
  (0 ≤ h.1 110 37 →
    ((0 : Int) = 0 ∨ (0 : Int) = 1) ∧ Q 0 h)
  ∧ (h.1 110 37 < 0 →
    (h.1 110 33 ≠ x1 →
      ((0 : Int) = 0 ∨ (0 : Int) = 1) ∧ Q 0 h)
    ∧ (h.1 110 33 = x1 →
      ((1 : Int) = 0 ∨ (1 : Int) = 1) ∧ Q 1 h))) :
  ak_W0 e 1 d 208 ρ 0 [some (am_r 110), some (am_i x1)] [] h (ak_qi Q X) := ak_k_ok am_cc208 400 [] w
theorem am_cc209 : am_co am_P 209 = am_lk am_rw209 ∧ am_hl am_P 209 = [] ∧ am_rtag (am_re am_P 209) = 0 := ⟨rfl, rfl, rfl⟩
set_option maxRecDepth 100000 in
theorem am_k209_0 {e : ak_X3} {d : Nat} {ρ : List Nat} {h : ak_S} {Q : ak_S → Prop} {X : Nat → ak_S → Prop} {x1 : Int} (w :
  ak_MI e 1 d ρ 206 [am_r 110] h (fun v2 h1 =>
    (v2 = 0 →
      (h1.1 110 33 = x1 →
        ak_MV e 1 d ρ 205 [am_r 110] h1 (fun h3 =>
          Q h3) (fun _ _ => False))
      ∧ (h1.1 110 33 ≠ x1 →
        ak_MV e 1 d ρ 207 [am_r 110, am_i (h1.1 110 34)] h1 (fun h4 =>
          Q h4) (fun _ _ => False)))
    ∧ (v2 ≠ 0 →
      Q h1)) (fun _ _ => False)) :
  ak_W0 e 1 d 209 ρ 0 [some (am_r 110), some (am_i x1)] [] h (ak_qv Q X) := ak_k_ok am_cc209 400 [] w
theorem am_cc210 : am_co am_P 210 = am_lk am_rw210 ∧ am_hl am_P 210 = [] ∧ am_rtag (am_re am_P 210) = 0 := ⟨rfl, rfl, rfl⟩
set_option maxRecDepth 100000 in
theorem am_k210_0 {e : ak_X3} {d : Nat} {ρ : List Nat} {h : ak_S} {Q : ak_S → Prop} {X : Nat → ak_S → Prop} {x1 : Int} (w :
  ak_MI e 1 d ρ 206 [am_r 110] h (fun v2 h1 =>
    (v2 = 0 →
      (h1.1 110 33 ≠ x1 →
        ak_MV e 1 d ρ 207 [am_r 110, am_i (h1.1 110 34)] h1 (fun h3 =>
          Q h3) (fun _ _ => False))
      ∧ (h1.1 110 33 = x1 →
        (h1.1 110 38 ≠ 20 →
          ak_MV e 1 d ρ 205 [am_r 110] ((am_up h1.1 110 38 (am_w32 ((h1.1 110 38) + 1))), h1.2) (fun h4 =>
            Q h4) (fun _ _ => False))
        ∧ (h1.1 110 38 = 20 →
          ak_MV e 1 d ρ 207 [am_r 110, am_i (h1.1 110 34)] h1 (fun h5 =>
            Q h5) (fun _ _ => False))))
    ∧ (v2 ≠ 0 →
      Q h1)) (fun _ _ => False)) :
  ak_W0 e 1 d 210 ρ 0 [some (am_r 110), some (am_i x1)] [] h (ak_qv Q X) := ak_k_ok am_cc210 400 [] w
theorem am_cc211 : am_co am_P 211 = am_lk am_rw211 ∧ am_hl am_P 211 = [] ∧ am_rtag (am_re am_P 211) = 0 := ⟨rfl, rfl, rfl⟩
set_option maxRecDepth 100000 in
theorem am_k211_0 {e : ak_X3} {d : Nat} {ρ : List Nat} {h : ak_S} {Q : ak_S → Prop} {X : Nat → ak_S → Prop} {x1 : Int} (w :
  ak_MV e 1 d ρ 209 [am_r 110, am_i x1] h (fun h1 =>
    Q ((am_up h1.1 110 38 (am_w32 ((h1.1 110 38) - 1))), h1.2)) (fun _ _ => False)) :
  ak_W0 e 1 d 211 ρ 0 [some (am_r 110), some (am_i x1)] [] h (ak_qv Q X) := ak_k_ok am_cc211 400 [] w
theorem am_cc212 : am_co am_P 212 = am_lk am_rw212 ∧ am_hl am_P 212 = [] ∧ am_rtag (am_re am_P 212) = 1 := ⟨rfl, rfl, rfl⟩
set_option maxRecDepth 100000 in
theorem am_k212_0 {e : ak_X3} {d : Nat} {ρ : List Nat} {h : ak_S} {Q : Int → ak_S → Prop} {X : Nat → ak_S → Prop} {x1 x2 : Int} (w :
  (0 ≤ h.1 110 31 ∧ h.1 110 31 < (2 : Int)) ∧ (0 ≤ h.1 110 31 ∧ h.1 110 31 < (2 : Int)) ∧ (0 ≤ h.1 110 31 ∧ h.1 110 31 < (2 : Int)) ∧ (0 ≤ am_w32 ((am_w32 (9000 * (h.1 110 31))) + (h.1 121 (h.1 110 31).toNat)) ∧ am_w32 ((am_w32 (9000 * (h.1 110 31))) + (h.1 121 (h.1 110 31).toNat)) < (18000 : Int)) ∧ (0 ≤ am_w32 ((am_w32 (9000 * (h.1 110 31))) + (h.1 121 (h.1 110 31).toNat)) ∧ am_w32 ((am_w32 (9000 * (h.1 110 31))) + (h.1 121 (h.1 110 31).toNat)) < (18000 : Int)) ∧ (0 ≤ am_w32 ((am_w32 (9000 * (h.1 110 31))) + (h.1 121 (h.1 110 31).toNat)) ∧ am_w32 ((am_w32 (9000 * (h.1 110 31))) + (h.1 121 (h.1 110 31).toNat)) < (18000 : Int)) ∧ (0 ≤ am_w32 ((am_w32 (9000 * (h.1 110 31))) + (h.1 121 (h.1 110 31).toNat)) ∧ am_w32 ((am_w32 (9000 * (h.1 110 31))) + (h.1 121 (h.1 110 31).toNat)) < (18000 : Int)) ∧ (0 ≤ am_w32 ((am_w32 (9000 * (h.1 110 31))) + (h.1 121 (h.1 110 31).toNat)) ∧ am_w32 ((am_w32 (9000 * (h.1 110 31))) + (h.1 121 (h.1 110 31).toNat)) < (18000 : Int)) ∧ (0 ≤ am_w32 ((am_w32 (9000 * (h.1 110 31))) + (h.1 121 (h.1 110 31).toNat)) ∧ am_w32 ((am_w32 (9000 * (h.1 110 31))) + (h.1 121 (h.1 110 31).toNat)) < (18000 : Int)) ∧ (0 ≤ am_w32 ((am_w32 (9000 * (h.1 110 31))) + (h.1 121 (h.1 110 31).toNat)) ∧ am_w32 ((am_w32 (9000 * (h.1 110 31))) + (h.1 121 (h.1 110 31).toNat)) < (18000 : Int)) ∧ Q (am_w32 ((am_w32 (9000 * (h.1 110 31))) + (h.1 121 (h.1 110 31).toNat))) ((am_up (am_up (am_up (am_up (am_up (am_up (am_up (am_up h.1 121 (h.1 110 31).toNat (am_w32 ((h.1 121 (h.1 110 31).toNat) + 1))) 114 (am_w32 ((am_w32 (9000 * (h.1 110 31))) + (h.1 121 (h.1 110 31).toNat))).toNat x1) 115 (am_w32 ((am_w32 (9000 * (h.1 110 31))) + (h.1 121 (h.1 110 31).toNat))).toNat ((-1))) 116 (am_w32 ((am_w32 (9000 * (h.1 110 31))) + (h.1 121 (h.1 110 31).toNat))).toNat ((-1))) 117 (am_w32 ((am_w32 (9000 * (h.1 110 31))) + (h.1 121 (h.1 110 31).toNat))).toNat ((-1))) 118 (am_w32 ((am_w32 (9000 * (h.1 110 31))) + (h.1 121 (h.1 110 31).toNat))).toNat ((-1))) 119 (am_w32 ((am_w32 (9000 * (h.1 110 31))) + (h.1 121 (h.1 110 31).toNat))).toNat ((-1))) 120 (am_w32 ((am_w32 (9000 * (h.1 110 31))) + (h.1 121 (h.1 110 31).toNat))).toNat x2), h.2)) :
  ak_W0 e 1 d 212 ρ 0 [some (am_r 110), some (am_i x1), some (am_i x2), none] [] h (ak_qi Q X) := ak_k_ok am_cc212 400 [] w
theorem am_cc213 : am_co am_P 213 = am_lk am_rw213 ∧ am_hl am_P 213 = [] ∧ am_rtag (am_re am_P 213) = 2 := ⟨rfl, rfl, rfl⟩
set_option maxRecDepth 100000 in
theorem am_k213_0 {e : ak_X3} {d : Nat} {ρ : List Nat} {h : ak_S} {Q : Int → ak_S → Prop} {X : Nat → ak_S → Prop} {x1 x2 x3 x4 : Int} (w :
  (x2 ≠ x4 →
    ak_W0 e 1 d 213 ρ 16 [some (am_r 110), some (am_i x1), some (am_i x2), some (am_i x3), none, some (am_i 0), some (am_i 0)] [] h (ak_qi Q X))
  ∧ (x2 = x4 →
    ak_W0 e 1 d 213 ρ 16 [some (am_r 110), some (am_i x1), some (am_i x2), some (am_i x3), none, some (am_i 1), some (am_i 0)] [] h (ak_qi Q X))) :
  ak_W0 e 1 d 213 ρ 0 [some (am_r 110), some (am_i x1), some (am_i x2), some (am_i x3), some (am_i x4), none, none] [] h (ak_qi Q X) := ak_k_ok am_cc213 400 [(16, [true, true, true, true, false, true, true])] w
set_option maxRecDepth 100000 in
theorem am_k213_16 {e : ak_X3} {d : Nat} {ρ : List Nat} {h : ak_S} {Q : Int → ak_S → Prop} {X : Nat → ak_S → Prop} {x1 x2 x3 x5 x6 : Int} (w :
  (x2 ≤ x6 →
    (x5 = 0 ∨ x5 = 1) ∧ Q x5 h)
  ∧ (x6 < x2 →
    (x5 = 0 →
      (x5 = 0 ∨ x5 = 1) ∧ Q x5 h)
    ∧ (x5 ≠ 0 →
      ak_MI e 1 d ρ 201 [am_r 110, am_i (am_w32 (x1 + x6))] h (fun v2 h1 =>
        ak_MI e 1 d ρ 201 [am_r 110, am_i (am_w32 (x3 + x6))] h1 (fun v4 h3 =>
          (v2 ≠ v4 →
            ak_W0 e 1 d 213 ρ 16 [some (am_r 110), some (am_i x1), some (am_i x2), some (am_i x3), none, some (am_i 0), some (am_i (am_w32 (x6 + 1)))] [] h3 (ak_qi Q X))
          ∧ (v2 = v4 →
            ak_W0 e 1 d 213 ρ 16 [some (am_r 110), some (am_i x1), some (am_i x2), some (am_i x3), none, some (am_i 1), some (am_i (am_w32 (x6 + 1)))] [] h3 (ak_qi Q X))) (fun _ _ => False)) (fun _ _ => False)))) :
  ak_W0 e 1 d 213 ρ 16 [some (am_r 110), some (am_i x1), some (am_i x2), some (am_i x3), none, some (am_i x5), some (am_i x6)] [] h (ak_qi Q X) := ak_k_ok am_cc213 400 [(16, [true, true, true, true, false, true, true])] w
theorem am_cc214 : am_co am_P 214 = am_lk am_rw214 ∧ am_hl am_P 214 = [] ∧ am_rtag (am_re am_P 214) = 1 := ⟨rfl, rfl, rfl⟩
set_option maxRecDepth 100000 in
theorem am_k214_0 {e : ak_X3} {d : Nat} {ρ : List Nat} {h : ak_S} {Q : Int → ak_S → Prop} {X : Nat → ak_S → Prop} {x1 x2 x3 : Int} (w :
  ak_W0 e 1 d 214 ρ 3 [some (am_r 110), some (am_i x1), some (am_i x2), some (am_i x3), some (am_i 0)] [] h (ak_qi Q X)) :
  ak_W0 e 1 d 214 ρ 0 [some (am_r 110), some (am_i x1), some (am_i x2), some (am_i x3), none] [] h (ak_qi Q X) := ak_k_ok am_cc214 400 [(3, [true, true, true, true, true])] w
set_option maxRecDepth 100000 in
theorem am_k214_3 {e : ak_X3} {d : Nat} {ρ : List Nat} {h : ak_S} {Q : Int → ak_S → Prop} {X : Nat → ak_S → Prop} {x1 x2 x3 x4 : Int} (w :
  (0 ≤ x1 ∧ x1 < (21 : Int)) ∧ (h.1 138 x1.toNat ≤ x4 →
    Q ((-1)) h)
  ∧ (x4 < h.1 138 x1.toNat →
    (0 ≤ am_w32 ((am_w32 (12 * x1)) + x4) ∧ am_w32 ((am_w32 (12 * x1)) + x4) < (252 : Int)) ∧ (0 ≤ am_w32 ((am_w32 (12 * x1)) + x4) ∧ am_w32 ((am_w32 (12 * x1)) + x4) < (252 : Int)) ∧ ak_MI e 1 d ρ 213 [am_r 110, am_i (h.1 139 (am_w32 ((am_w32 (12 * x1)) + x4)).toNat), am_i (h.1 140 (am_w32 ((am_w32 (12 * x1)) + x4)).toNat), am_i x2, am_i x3] h (fun v2 h1 =>
      (v2 = 0 →
        ak_W0 e 1 d 214 ρ 3 [some (am_r 110), some (am_i x1), some (am_i x2), some (am_i x3), some (am_i (am_w32 (x4 + 1)))] [] h1 (ak_qi Q X))
      ∧ (v2 ≠ 0 →
        Q x4 h1)) (fun _ _ => False))) :
  ak_W0 e 1 d 214 ρ 3 [some (am_r 110), some (am_i x1), some (am_i x2), some (am_i x3), some (am_i x4)] [] h (ak_qi Q X) := ak_k_ok am_cc214 400 [(3, [true, true, true, true, true])] w
theorem am_cc215 : am_co am_P 215 = am_lk am_rw215 ∧ am_hl am_P 215 = [] ∧ am_rtag (am_re am_P 215) = 0 := ⟨rfl, rfl, rfl⟩
set_option maxRecDepth 100000 in
theorem am_k215_0 {e : ak_X3} {d : Nat} {ρ : List Nat} {h : ak_S} {Q : ak_S → Prop} {X : Nat → ak_S → Prop} (w :
  ak_MI e 1 d ρ 206 [am_r 110] h (fun v2 h1 =>
    (v2 = 0 →
      (h1.1 110 33 ≠ 2 →
        ak_MV e 1 d ρ 207 [am_r 110, am_i (h1.1 110 34)] h1 (fun h3 =>
          Q h3) (fun _ _ => False))
      ∧ (h1.1 110 33 = 2 →
        ak_MI e 1 d ρ 214 [am_r 110, am_i (am_w32 ((h1.1 110 42) - 1)), am_i (h1.1 110 34), am_i (h1.1 110 35)] h1 (fun v5 h4 =>
          (0 ≤ v5 →
            ak_MV e 1 d ρ 207 [am_r 110, am_i (h4.1 110 34)] h4 (fun h6 =>
              Q h6) (fun _ _ => False))
          ∧ (v5 < 0 →
            (0 ≤ am_w32 ((h4.1 110 42) - 1) ∧ am_w32 ((h4.1 110 42) - 1) < (21 : Int)) ∧ (h4.1 138 (am_w32 ((h4.1 110 42) - 1)).toNat ≠ 12 →
              Q h4)
            ∧ (h4.1 138 (am_w32 ((h4.1 110 42) - 1)).toNat = 12 →
              ak_MV e 1 d ρ 207 [am_r 110, am_i (h4.1 110 34)] h4 (fun h7 =>
                Q h7) (fun _ _ => False)))) (fun _ _ => False)))
    ∧ (v2 ≠ 0 →
      Q h1)) (fun _ _ => False)) :
  ak_W0 e 1 d 215 ρ 0 [some (am_r 110)] [] h (ak_qv Q X) := ak_k_ok am_cc215 400 [] w
theorem am_cc216 : am_co am_P 216 = am_lk am_rw216 ∧ am_hl am_P 216 = [] ∧ am_rtag (am_re am_P 216) = 1 := ⟨rfl, rfl, rfl⟩
set_option maxRecDepth 100000 in
theorem am_k216_0 {e : ak_X3} {d : Nat} {ρ : List Nat} {h : ak_S} {Q : Int → ak_S → Prop} {X : Nat → ak_S → Prop} {x1 x2 : Int} (w :
  (0 ≤ am_w32 ((h.1 110 42) - 1) ∧ am_w32 ((h.1 110 42) - 1) < (21 : Int)) ∧ (0 ≤ am_w32 ((am_w32 (12 * (am_w32 ((h.1 110 42) - 1)))) + (h.1 138 (am_w32 ((h.1 110 42) - 1)).toNat)) ∧ am_w32 ((am_w32 (12 * (am_w32 ((h.1 110 42) - 1)))) + (h.1 138 (am_w32 ((h.1 110 42) - 1)).toNat)) < (252 : Int)) ∧ (0 ≤ am_w32 ((am_w32 (12 * (am_w32 ((h.1 110 42) - 1)))) + (h.1 138 (am_w32 ((h.1 110 42) - 1)).toNat)) ∧ am_w32 ((am_w32 (12 * (am_w32 ((h.1 110 42) - 1)))) + (h.1 138 (am_w32 ((h.1 110 42) - 1)).toNat)) < (252 : Int)) ∧ (0 ≤ am_w32 ((h.1 110 42) - 1) ∧ am_w32 ((h.1 110 42) - 1) < (21 : Int)) ∧ (0 ≤ am_w32 ((h.1 110 42) - 1) ∧ am_w32 ((h.1 110 42) - 1) < (21 : Int)) ∧ Q (h.1 138 (am_w32 ((h.1 110 42) - 1)).toNat) ((am_up (am_up (am_up h.1 139 (am_w32 ((am_w32 (12 * (am_w32 ((h.1 110 42) - 1)))) + (h.1 138 (am_w32 ((h.1 110 42) - 1)).toNat))).toNat x1) 140 (am_w32 ((am_w32 (12 * (am_w32 ((h.1 110 42) - 1)))) + (h.1 138 (am_w32 ((h.1 110 42) - 1)).toNat))).toNat x2) 138 (am_w32 ((h.1 110 42) - 1)).toNat (am_w32 ((h.1 138 (am_w32 ((h.1 110 42) - 1)).toNat) + 1))), h.2)) :
  ak_W0 e 1 d 216 ρ 0 [some (am_r 110), some (am_i x1), some (am_i x2), none, none] [] h (ak_qi Q X) := ak_k_ok am_cc216 400 [] w
theorem am_cc217 : am_co am_P 217 = am_lk am_rw217 ∧ am_hl am_P 217 = [] ∧ am_rtag (am_re am_P 217) = 0 := ⟨rfl, rfl, rfl⟩
set_option maxRecDepth 100000 in
theorem am_k217_0 {e : ak_X3} {d : Nat} {ρ : List Nat} {h : ak_S} {Q : ak_S → Prop} {X : Nat → ak_S → Prop} (w :
  ak_MI e 1 d ρ 206 [am_r 110] h (fun v2 h1 =>
    (v2 = 0 →
      (h1.1 110 33 = 2 →
        ak_W0 e 1 d 217 ρ 32 [some (am_r 110), some (am_i (am_w32 ((h1.1 110 42) - 1))), none] [] h1 (ak_qv Q X))
      ∧ (h1.1 110 33 ≠ 2 →
        ak_MV e 1 d ρ 207 [am_r 110, am_i (h1.1 110 34)] h1 (fun h3 =>
          Q h3) (fun _ _ => False)))
    ∧ (v2 ≠ 0 →
      Q h1)) (fun _ _ => False)) :
  ak_W0 e 1 d 217 ρ 0 [some (am_r 110), none, none] [] h (ak_qv Q X) := ak_k_ok am_cc217 400 [(32, [true, true, false])] w
set_option maxRecDepth 100000 in
theorem am_k217_32 {e : ak_X3} {d : Nat} {ρ : List Nat} {h : ak_S} {Q : ak_S → Prop} {X : Nat → ak_S → Prop} {x1 : Int} (w :
  (x1 < 0 →
    ak_MV e 1 d ρ 207 [am_r 110, am_i (h.1 110 34)] h (fun h1 =>
      Q h1) (fun _ _ => False))
  ∧ (0 ≤ x1 →
    ak_MI e 1 d ρ 214 [am_r 110, am_i x1, am_i (h.1 110 34), am_i (h.1 110 35)] h (fun v3 h2 =>
      (0 ≤ v3 →
        Q ((am_up (am_up h2.1 110 43 (am_w32 ((am_w32 ((h2.1 110 42) - 1)) - x1))) 110 44 v3), h2.2))
      ∧ (v3 < 0 →
        ak_W0 e 1 d 217 ρ 32 [some (am_r 110), some (am_i (am_w32 (x1 + (-1)))), none] [] h2 (ak_qv Q X))) (fun _ _ => False))) :
  ak_W0 e 1 d 217 ρ 32 [some (am_r 110), some (am_i x1), none] [] h (ak_qv Q X) := ak_k_ok am_cc217 400 [(32, [true, true, false])] w
theorem am_cc218 : am_co am_P 218 = am_lk am_rw218 ∧ am_hl am_P 218 = [] ∧ am_rtag (am_re am_P 218) = 1 := ⟨rfl, rfl, rfl⟩
set_option maxRecDepth 100000 in
theorem am_k218_0 {e : ak_X3} {d : Nat} {ρ : List Nat} {h : ak_S} {Q : Int → ak_S → Prop} {X : Nat → ak_S → Prop} (w :
  ak_MI e 1 d ρ 206 [am_r 110] h (fun v2 h1 =>
    (v2 = 0 →
      (h1.1 110 33 = 2 →
        (h1.1 110 35 ≠ 4 →
          ak_W0 e 1 d 218 ρ 43 [some (am_r 110), some (am_i 0), some (am_i 0)] [] h1 (ak_qi Q X))
        ∧ (h1.1 110 35 = 4 →
          ak_W0 e 1 d 218 ρ 43 [some (am_r 110), some (am_i 1), some (am_i 0)] [] h1 (ak_qi Q X)))
      ∧ (h1.1 110 33 ≠ 2 →
        ak_MV e 1 d ρ 207 [am_r 110, am_i (h1.1 110 34)] h1 (fun h3 =>
          Q 0 h3) (fun _ _ => False)))
    ∧ (v2 ≠ 0 →
      Q 0 h1)) (fun _ _ => False)) :
  ak_W0 e 1 d 218 ρ 0 [some (am_r 110), none, none] [] h (ak_qi Q X) := ak_k_ok am_cc218 400 [(43, [true, true, true]), (90, [true, false, true])] w
set_option maxRecDepth 100000 in
theorem am_k218_43 {e : ak_X3} {d : Nat} {ρ : List Nat} {h : ak_S} {Q : Int → ak_S → Prop} {X : Nat → ak_S → Prop} {x1 x2 : Int} (w :
  (4 ≤ x2 →
    (x1 = 0 →
      ak_W0 e 1 d 218 ρ 90 [some (am_r 110), none, some (am_i 1)] [] h (ak_qi Q X))
    ∧ (x1 ≠ 0 →
      Q 0 h))
  ∧ (x2 < 4 →
    (x1 = 0 →
      (x1 = 0 →
        ak_W0 e 1 d 218 ρ 90 [some (am_r 110), none, some (am_i 1)] [] h (ak_qi Q X))
      ∧ (x1 ≠ 0 →
        Q 0 h))
    ∧ (x1 ≠ 0 →
      ak_MI e 1 d ρ 201 [am_r 110, am_i (am_w32 ((h.1 110 34) + x2))] h (fun v2 h1 =>
        (0 ≤ x2 ∧ x2 < (4 : Int)) ∧ (v2 ≠ am_I0 e.2 (am_SP + 1) x2.toNat →
          ak_W0 e 1 d 218 ρ 43 [some (am_r 110), some (am_i 0), some (am_i (am_w32 (x2 + 1)))] [] h1 (ak_qi Q X))
        ∧ (v2 = am_I0 e.2 (am_SP + 1) x2.toNat →
          ak_W0 e 1 d 218 ρ 43 [some (am_r 110), some (am_i 1), some (am_i (am_w32 (x2 + 1)))] [] h1 (ak_qi Q X))) (fun _ _ => False)))) :
  ak_W0 e 1 d 218 ρ 43 [some (am_r 110), some (am_i x1), some (am_i x2)] [] h (ak_qi Q X) := ak_k_ok am_cc218 400 [(43, [true, true, true]), (90, [true, false, true])] w
set_option maxRecDepth 100000 in
theorem am_k218_90 {e : ak_X3} {d : Nat} {ρ : List Nat} {h : ak_S} {Q : Int → ak_S → Prop} {X : Nat → ak_S → Prop} {x2 : Int} (w :
  (0 ≤ h.1 110 31 ∧ h.1 110 31 < (2 : Int)) ∧ (h.1 131 (h.1 110 31).toNat ≤ x2 →
    (0 ≤ h.1 110 31 ∧ h.1 110 31 < (2 : Int)) ∧ (h.1 131 (h.1 110 31).toNat ≠ 100 →
      (0 ≤ h.1 110 31 ∧ h.1 110 31 < (2 : Int)) ∧ (0 ≤ am_w32 ((am_w32 (100 * (h.1 110 31))) + (h.1 131 (h.1 110 31).toNat)) ∧ am_w32 ((am_w32 (100 * (h.1 110 31))) + (h.1 131 (h.1 110 31).toNat)) < (200 : Int)) ∧ (0 ≤ h.1 110 31 ∧ h.1 110 31 < (2 : Int)) ∧ (0 ≤ am_w32 ((am_w32 (100 * (h.1 110 31))) + (h.1 131 (h.1 110 31).toNat)) ∧ am_w32 ((am_w32 (100 * (h.1 110 31))) + (h.1 131 (h.1 110 31).toNat)) < (200 : Int)) ∧ (0 ≤ h.1 110 31 ∧ h.1 110 31 < (2 : Int)) ∧ (0 ≤ h.1 110 31 ∧ h.1 110 31 < (2 : Int)) ∧ (0 ≤ h.1 110 31 ∧ h.1 110 31 < (2 : Int)) ∧ Q (am_w32 (((am_up (am_up (am_up h.1 132 (am_w32 ((am_w32 (100 * (h.1 110 31))) + (h.1 131 (h.1 110 31).toNat))).toNat (h.1 110 34)) 133 (am_w32 ((am_w32 (100 * (h.1 110 31))) + (h.1 131 (h.1 110 31).toNat))).toNat (h.1 110 35)) 131 (h.1 110 31).toNat (am_w32 ((h.1 131 (h.1 110 31).toNat) + 1))) 131 (h.1 110 31).toNat) - 1)) ((am_up (am_up (am_up h.1 132 (am_w32 ((am_w32 (100 * (h.1 110 31))) + (h.1 131 (h.1 110 31).toNat))).toNat (h.1 110 34)) 133 (am_w32 ((am_w32 (100 * (h.1 110 31))) + (h.1 131 (h.1 110 31).toNat))).toNat (h.1 110 35)) 131 (h.1 110 31).toNat (am_w32 ((h.1 131 (h.1 110 31).toNat) + 1))), h.2))
    ∧ (h.1 131 (h.1 110 31).toNat = 100 →
      ak_MV e 1 d ρ 207 [am_r 110, am_i (h.1 110 34)] h (fun h1 =>
        Q 0 h1) (fun _ _ => False)))
  ∧ (x2 < h.1 131 (h.1 110 31).toNat →
    (0 ≤ am_w32 ((am_w32 (100 * (h.1 110 31))) + x2) ∧ am_w32 ((am_w32 (100 * (h.1 110 31))) + x2) < (200 : Int)) ∧ (0 ≤ am_w32 ((am_w32 (100 * (h.1 110 31))) + x2) ∧ am_w32 ((am_w32 (100 * (h.1 110 31))) + x2) < (200 : Int)) ∧ ak_MI e 1 d ρ 213 [am_r 110, am_i (h.1 132 (am_w32 ((am_w32 (100 * (h.1 110 31))) + x2)).toNat), am_i (h.1 133 (am_w32 ((am_w32 (100 * (h.1 110 31))) + x2)).toNat), am_i (h.1 110 34), am_i (h.1 110 35)] h (fun v3 h2 =>
      (v3 = 0 →
        ak_W0 e 1 d 218 ρ 90 [some (am_r 110), none, some (am_i (am_w32 (x2 + 1)))] [] h2 (ak_qi Q X))
      ∧ (v3 ≠ 0 →
        Q x2 h2)) (fun _ _ => False))) :
  ak_W0 e 1 d 218 ρ 90 [some (am_r 110), none, some (am_i x2)] [] h (ak_qi Q X) := ak_k_ok am_cc218 400 [(43, [true, true, true]), (90, [true, false, true])] w
theorem am_cc219 : am_co am_P 219 = am_lk am_rw219 ∧ am_hl am_P 219 = [] ∧ am_rtag (am_re am_P 219) = 1 := ⟨rfl, rfl, rfl⟩
set_option maxRecDepth 100000 in
theorem am_k219_0 {e : ak_X3} {d : Nat} {ρ : List Nat} {h : ak_S} {Q : Int → ak_S → Prop} {X : Nat → ak_S → Prop} {x1 : Int} (w :
  ak_MI e 1 d ρ 206 [am_r 110] h (fun v2 h1 =>
    (v2 = 0 →
      (h1.1 110 33 ≠ 2 →
        ak_MV e 1 d ρ 207 [am_r 110, am_i (h1.1 110 34)] h1 (fun h3 =>
          Q 0 h3) (fun _ _ => False))
      ∧ (h1.1 110 33 = 2 →
        (0 ≤ h1.1 110 31 ∧ h1.1 110 31 < (2 : Int)) ∧ (h1.1 127 (h1.1 110 31).toNat ≠ 150 →
          ak_MI e 1 d ρ 218 [am_r 110] h1 (fun v5 h4 =>
            ak_MI e 1 d ρ 206 [am_r 110] h4 (fun v7 h6 =>
              (v7 = 0 →
                (0 ≤ h6.1 110 31 ∧ h6.1 110 31 < (2 : Int)) ∧ (0 ≤ am_w32 ((am_w32 (150 * (h6.1 110 31))) + (h6.1 127 (h6.1 110 31).toNat)) ∧ am_w32 ((am_w32 (150 * (h6.1 110 31))) + (h6.1 127 (h6.1 110 31).toNat)) < (300 : Int)) ∧ (0 ≤ am_w32 ((am_w32 (150 * (h6.1 110 31))) + (h6.1 127 (h6.1 110 31).toNat)) ∧ am_w32 ((am_w32 (150 * (h6.1 110 31))) + (h6.1 127 (h6.1 110 31).toNat)) < (300 : Int)) ∧ (0 ≤ am_w32 ((am_w32 (150 * (h6.1 110 31))) + (h6.1 127 (h6.1 110 31).toNat)) ∧ am_w32 ((am_w32 (150 * (h6.1 110 31))) + (h6.1 127 (h6.1 110 31).toNat)) < (300 : Int)) ∧ (0 ≤ h6.1 110 31 ∧ h6.1 110 31 < (2 : Int)) ∧ (0 ≤ h6.1 110 31 ∧ h6.1 110 31 < (2 : Int)) ∧ ak_MV e 1 d ρ 205 [am_r 110] ((am_up (am_up (am_up (am_up h6.1 128 (am_w32 ((am_w32 (150 * (h6.1 110 31))) + (h6.1 127 (h6.1 110 31).toNat))).toNat x1) 129 (am_w32 ((am_w32 (150 * (h6.1 110 31))) + (h6.1 127 (h6.1 110 31).toNat))).toNat v5) 130 (am_w32 ((am_w32 (150 * (h6.1 110 31))) + (h6.1 127 (h6.1 110 31).toNat))).toNat (h6.1 110 34)) 127 (h6.1 110 31).toNat (am_w32 ((h6.1 127 (h6.1 110 31).toNat) + 1))), h6.2) (fun h8 =>
                  (0 ≤ h8.1 110 31 ∧ h8.1 110 31 < (2 : Int)) ∧ Q (am_w32 ((h8.1 127 (h8.1 110 31).toNat) - 1)) h8) (fun _ _ => False))
              ∧ (v7 ≠ 0 →
                Q 0 h6)) (fun _ _ => False)) (fun _ _ => False))
        ∧ (h1.1 127 (h1.1 110 31).toNat = 150 →
          ak_MV e 1 d ρ 207 [am_r 110, am_i (h1.1 110 34)] h1 (fun h9 =>
            Q 0 h9) (fun _ _ => False))))
    ∧ (v2 ≠ 0 →
      Q 0 h1)) (fun _ _ => False)) :
  ak_W0 e 1 d 219 ρ 0 [some (am_r 110), some (am_i x1), none, none] [] h (ak_qi Q X) := ak_k_ok am_cc219 400 [] w
theorem am_cc220 : am_co am_P 220 = am_lk am_rw220 ∧ am_hl am_P 220 = [] ∧ am_rtag (am_re am_P 220) = 1 := ⟨rfl, rfl, rfl⟩
set_option maxRecDepth 100000 in
theorem am_k220_0 {e : ak_X3} {d : Nat} {ρ : List Nat} {h : ak_S} {Q : Int → ak_S → Prop} {X : Nat → ak_S → Prop} (w :
  ak_MI e 1 d ρ 218 [am_r 110] h (fun v2 h1 =>
    ak_MI e 1 d ρ 206 [am_r 110] h1 (fun v4 h3 =>
      (v4 ≠ 0 →
        Q v2 h3)
      ∧ (v4 = 0 →
        ak_MV e 1 d ρ 205 [am_r 110] h3 (fun h5 =>
          Q v2 h5) (fun _ _ => False))) (fun _ _ => False)) (fun _ _ => False)) :
  ak_W0 e 1 d 220 ρ 0 [some (am_r 110), none] [] h (ak_qi Q X) := ak_k_ok am_cc220 400 [] w
theorem am_cc221 : am_co am_P 221 = am_lk am_rw221 ∧ am_hl am_P 221 = [] ∧ am_rtag (am_re am_P 221) = 1 := ⟨rfl, rfl, rfl⟩
set_option maxRecDepth 100000 in
theorem am_k221_0 {e : ak_X3} {d : Nat} {ρ : List Nat} {h : ak_S} {Q : Int → ak_S → Prop} {X : Nat → ak_S → Prop} (w :
  ak_MV e 1 d ρ 210 [am_r 110, am_i 40] h (fun h1 =>
    ak_MI e 1 d ρ 206 [am_r 110] h1 (fun v3 h2 =>
      (v3 ≠ 0 →
        ak_W0 e 1 d 221 ρ 35 [some (am_r 110), some (am_i ((-1))), some (am_i ((-1))), some (am_i 0), some (am_i 0), none, none] [] h2 (ak_qi Q X))
      ∧ (v3 = 0 →
        (h2.1 110 33 = 41 →
          ak_W0 e 1 d 221 ρ 35 [some (am_r 110), some (am_i ((-1))), some (am_i ((-1))), some (am_i 0), some (am_i 0), none, none] [] h2 (ak_qi Q X))
        ∧ (h2.1 110 33 ≠ 41 →
          ak_W0 e 1 d 221 ρ 35 [some (am_r 110), some (am_i ((-1))), some (am_i ((-1))), some (am_i 0), some (am_i 1), none, none] [] h2 (ak_qi Q X)))) (fun _ _ => False)) (fun _ _ => False)) :
  ak_W0 e 1 d 221 ρ 0 [some (am_r 110), none, none, none, none, none, none] [] h (ak_qi Q X) := ak_k_ok am_cc221 400 [(35, [true, true, true, true, true, false, false]), (60, [true, true, true, true, false, false, false])] w
set_option maxRecDepth 100000 in
theorem am_k221_35 {e : ak_X3} {d : Nat} {ρ : List Nat} {h : ak_S} {Q : Int → ak_S → Prop} {X : Nat → ak_S → Prop} {x1 x2 x3 x4 : Int} (w :
  (x4 = 0 →
    ak_MV e 1 d ρ 211 [am_r 110, am_i 41] h (fun h1 =>
      Q x1 ((am_up h1.1 110 45 x3), h1.2)) (fun _ _ => False))
  ∧ (x4 ≠ 0 →
    ak_MI e 1 d ρ 206 [am_r 110] h (fun v3 h2 =>
      (v3 ≠ 0 →
        ak_MV e 1 d ρ 211 [am_r 110, am_i 41] h2 (fun h4 =>
          Q x1 ((am_up h4.1 110 45 x3), h4.2)) (fun _ _ => False))
      ∧ (v3 = 0 →
        (x3 ≠ 4 →
          ak_W0 e 1 d 221 ρ 60 [some (am_r 110), some (am_i x1), some (am_i x2), some (am_i x3), none, none, none] [] h2 (ak_qi Q X))
        ∧ (x3 = 4 →
          ak_MV e 1 d ρ 207 [am_r 110, am_i (h2.1 110 34)] h2 (fun h5 =>
            ak_W0 e 1 d 221 ρ 60 [some (am_r 110), some (am_i x1), some (am_i x2), some (am_i x3), none, none, none] [] h5 (ak_qi Q X)) (fun _ _ => False)))) (fun _ _ => False))) :
  ak_W0 e 1 d 221 ρ 35 [some (am_r 110), some (am_i x1), some (am_i x2), some (am_i x3), some (am_i x4), none, none] [] h (ak_qi Q X) := ak_k_ok am_cc221 400 [(35, [true, true, true, true, true, false, false]), (60, [true, true, true, true, false, false, false])] w
set_option maxRecDepth 100000 in
theorem am_k221_60 {e : ak_X3} {d : Nat} {ρ : List Nat} {h : ak_S} {Q : Int → ak_S → Prop} {X : Nat → ak_S → Prop} {x1 x2 x3 : Int} (w :
  ak_MI e 1 d ρ 222 [am_r 110] h (fun v2 h1 =>
    ak_MI e 1 d ρ 206 [am_r 110] h1 (fun v4 h3 =>
      (v4 = 0 →
        ak_MI e 1 d ρ 212 [am_r 110, am_i 0, am_i 0] h3 (fun v6 h5 =>
          (0 ≤ v6 ∧ v6 < (18000 : Int)) ∧ (0 ≤ x1 →
            (0 ≤ x2 ∧ x2 < (18000 : Int)) ∧ ak_MI e 1 d ρ 208 [am_r 110, am_i 44] ((am_up (am_up h5.1 115 v6.toNat v2) 119 x2.toNat v6), h5.2) (fun v8 h7 =>
              (v8 = 0 →
                ak_W0 e 1 d 221 ρ 35 [some (am_r 110), some (am_i x1), some (am_i v6), some (am_i (am_w32 (x3 + 1))), some (am_i v8), none, none] [] h7 (ak_qi Q X))
              ∧ (v8 ≠ 0 →
                ak_MV e 1 d ρ 205 [am_r 110] h7 (fun h9 =>
                  ak_W0 e 1 d 221 ρ 35 [some (am_r 110), some (am_i x1), some (am_i v6), some (am_i (am_w32 (x3 + 1))), some (am_i v8), none, none] [] h9 (ak_qi Q X)) (fun _ _ => False))) (fun _ _ => False))
          ∧ (x1 < 0 →
            ak_MI e 1 d ρ 208 [am_r 110, am_i 44] ((am_up h5.1 115 v6.toNat v2), h5.2) (fun v11 h10 =>
              (v11 = 0 →
                ak_W0 e 1 d 221 ρ 35 [some (am_r 110), some (am_i v6), some (am_i v6), some (am_i (am_w32 (x3 + 1))), some (am_i v11), none, none] [] h10 (ak_qi Q X))
              ∧ (v11 ≠ 0 →
                ak_MV e 1 d ρ 205 [am_r 110] h10 (fun h12 =>
                  ak_W0 e 1 d 221 ρ 35 [some (am_r 110), some (am_i v6), some (am_i v6), some (am_i (am_w32 (x3 + 1))), some (am_i v11), none, none] [] h12 (ak_qi Q X)) (fun _ _ => False))) (fun _ _ => False))) (fun _ _ => False))
      ∧ (v4 ≠ 0 →
        Q ((-1)) h3)) (fun _ _ => False)) (fun _ _ => False)) :
  ak_W0 e 1 d 221 ρ 60 [some (am_r 110), some (am_i x1), some (am_i x2), some (am_i x3), none, none, none] [] h (ak_qi Q X) := ak_k_ok am_cc221 400 [(35, [true, true, true, true, true, false, false]), (60, [true, true, true, true, false, false, false])] w
theorem am_cc222 : am_co am_P 222 = am_lk am_rw222 ∧ am_hl am_P 222 = [] ∧ am_rtag (am_re am_P 222) = 1 := ⟨rfl, rfl, rfl⟩
set_option maxRecDepth 100000 in
theorem am_k222_0 {e : ak_X3} {d : Nat} {ρ : List Nat} {h : ak_S} {Q : Int → ak_S → Prop} {X : Nat → ak_S → Prop} (w :
  ak_MI e 1 d ρ 224 [am_r 110] h (fun v2 h1 =>
    ak_MI e 1 d ρ 206 [am_r 110] h1 (fun v4 h3 =>
      (v4 ≠ 0 →
        Q v2 h3)
      ∧ (v4 = 0 →
        (h3.1 110 33 = 60 →
          ak_MV e 1 d ρ 205 [am_r 110] h3 (fun h5 =>
            ak_MI e 1 d ρ 224 [am_r 110] h5 (fun v7 h6 =>
              ak_MI e 1 d ρ 223 [am_r 110, am_i (h3.1 110 33), am_i v2, am_i v7] h6 (fun v9 h8 =>
                Q v9 h8) (fun _ _ => False)) (fun _ _ => False)) (fun _ _ => False))
        ∧ (h3.1 110 33 ≠ 60 →
          (h3.1 110 33 = 62 →
            ak_MV e 1 d ρ 205 [am_r 110] h3 (fun h10 =>
              ak_MI e 1 d ρ 224 [am_r 110] h10 (fun v12 h11 =>
                ak_MI e 1 d ρ 223 [am_r 110, am_i (h3.1 110 33), am_i v2, am_i v12] h11 (fun v14 h13 =>
                  Q v14 h13) (fun _ _ => False)) (fun _ _ => False)) (fun _ _ => False))
          ∧ (h3.1 110 33 ≠ 62 →
            (h3.1 110 33 = 4 →
              ak_MV e 1 d ρ 205 [am_r 110] h3 (fun h15 =>
                ak_MI e 1 d ρ 224 [am_r 110] h15 (fun v17 h16 =>
                  ak_MI e 1 d ρ 223 [am_r 110, am_i (h3.1 110 33), am_i v2, am_i v17] h16 (fun v19 h18 =>
                    Q v19 h18) (fun _ _ => False)) (fun _ _ => False)) (fun _ _ => False))
            ∧ (h3.1 110 33 ≠ 4 →
              Q v2 h3))))) (fun _ _ => False)) (fun _ _ => False)) :
  ak_W0 e 1 d 222 ρ 0 [some (am_r 110), none, none, none] [] h (ak_qi Q X) := ak_k_ok am_cc222 400 [] w
theorem am_cc223 : am_co am_P 223 = am_lk am_rw223 ∧ am_hl am_P 223 = [] ∧ am_rtag (am_re am_P 223) = 1 := ⟨rfl, rfl, rfl⟩
set_option maxRecDepth 100000 in
theorem am_k223_0 {e : ak_X3} {d : Nat} {ρ : List Nat} {h : ak_S} {Q : Int → ak_S → Prop} {X : Nat → ak_S → Prop} {x1 x2 x3 : Int} (w :
  ak_MI e 1 d ρ 206 [am_r 110] h (fun v2 h1 =>
    (v2 = 0 →
      ak_MI e 1 d ρ 212 [am_r 110, am_i 11, am_i 0] h1 (fun v4 h3 =>
        (0 ≤ v4 ∧ v4 < (18000 : Int)) ∧ (0 ≤ v4 ∧ v4 < (18000 : Int)) ∧ (0 ≤ v4 ∧ v4 < (18000 : Int)) ∧ Q v4 ((am_up (am_up (am_up h3.1 115 v4.toNat x2) 116 v4.toNat x3) 117 v4.toNat x1), h3.2)) (fun _ _ => False))
    ∧ (v2 ≠ 0 →
      Q ((-1)) h1)) (fun _ _ => False)) :
  ak_W0 e 1 d 223 ρ 0 [some (am_r 110), some (am_i x1), some (am_i x2), some (am_i x3), none] [] h (ak_qi Q X) := ak_k_ok am_cc223 400 [] w
theorem am_cc224 : am_co am_P 224 = am_lk am_rw224 ∧ am_hl am_P 224 = [] ∧ am_rtag (am_re am_P 224) = 1 := ⟨rfl, rfl, rfl⟩
set_option maxRecDepth 100000 in
theorem am_k224_0 {e : ak_X3} {d : Nat} {ρ : List Nat} {h : ak_S} {Q : Int → ak_S → Prop} {X : Nat → ak_S → Prop} (w :
  ak_MI e 1 d ρ 225 [am_r 110] h (fun v2 h1 =>
    ak_W0 e 1 d 224 ρ 5 [some (am_r 110), some (am_i v2), none] [] h1 (ak_qi Q X)) (fun _ _ => False)) :
  ak_W0 e 1 d 224 ρ 0 [some (am_r 110), none, none] [] h (ak_qi Q X) := ak_k_ok am_cc224 400 [(5, [true, true, false])] w
set_option maxRecDepth 100000 in
theorem am_k224_5 {e : ak_X3} {d : Nat} {ρ : List Nat} {h : ak_S} {Q : Int → ak_S → Prop} {X : Nat → ak_S → Prop} {x1 : Int} (w :
  ak_MI e 1 d ρ 206 [am_r 110] h (fun v2 h1 =>
    (v2 ≠ 0 →
      Q x1 h1)
    ∧ (v2 = 0 →
      (h1.1 110 33 = 43 →
        ak_MV e 1 d ρ 205 [am_r 110] h1 (fun h3 =>
          ak_MI e 1 d ρ 225 [am_r 110] h3 (fun v5 h4 =>
            ak_MI e 1 d ρ 223 [am_r 110, am_i (h1.1 110 33), am_i x1, am_i v5] h4 (fun v7 h6 =>
              ak_W0 e 1 d 224 ρ 5 [some (am_r 110), some (am_i v7), none] [] h6 (ak_qi Q X)) (fun _ _ => False)) (fun _ _ => False)) (fun _ _ => False))
      ∧ (h1.1 110 33 ≠ 43 →
        (h1.1 110 33 ≠ 45 →
          Q x1 h1)
        ∧ (h1.1 110 33 = 45 →
          ak_MV e 1 d ρ 205 [am_r 110] h1 (fun h8 =>
            ak_MI e 1 d ρ 225 [am_r 110] h8 (fun v10 h9 =>
              ak_MI e 1 d ρ 223 [am_r 110, am_i (h1.1 110 33), am_i x1, am_i v10] h9 (fun v12 h11 =>
                ak_W0 e 1 d 224 ρ 5 [some (am_r 110), some (am_i v12), none] [] h11 (ak_qi Q X)) (fun _ _ => False)) (fun _ _ => False)) (fun _ _ => False))))) (fun _ _ => False)) :
  ak_W0 e 1 d 224 ρ 5 [some (am_r 110), some (am_i x1), none] [] h (ak_qi Q X) := ak_k_ok am_cc224 400 [(5, [true, true, false])] w
theorem am_cc225 : am_co am_P 225 = am_lk am_rw225 ∧ am_hl am_P 225 = [] ∧ am_rtag (am_re am_P 225) = 1 := ⟨rfl, rfl, rfl⟩
set_option maxRecDepth 100000 in
theorem am_k225_0 {e : ak_X3} {d : Nat} {ρ : List Nat} {h : ak_S} {Q : Int → ak_S → Prop} {X : Nat → ak_S → Prop} (w :
  ak_MI e 1 d ρ 226 [am_r 110] h (fun v2 h1 =>
    ak_W0 e 1 d 225 ρ 5 [some (am_r 110), some (am_i v2), none] [] h1 (ak_qi Q X)) (fun _ _ => False)) :
  ak_W0 e 1 d 225 ρ 0 [some (am_r 110), none, none] [] h (ak_qi Q X) := ak_k_ok am_cc225 400 [(5, [true, true, false])] w
set_option maxRecDepth 100000 in
theorem am_k225_5 {e : ak_X3} {d : Nat} {ρ : List Nat} {h : ak_S} {Q : Int → ak_S → Prop} {X : Nat → ak_S → Prop} {x1 : Int} (w :
  ak_MI e 1 d ρ 206 [am_r 110] h (fun v2 h1 =>
    (v2 ≠ 0 →
      Q x1 h1)
    ∧ (v2 = 0 →
      (h1.1 110 33 = 42 →
        ak_MV e 1 d ρ 205 [am_r 110] h1 (fun h3 =>
          ak_MI e 1 d ρ 226 [am_r 110] h3 (fun v5 h4 =>
            ak_MI e 1 d ρ 223 [am_r 110, am_i (h1.1 110 33), am_i x1, am_i v5] h4 (fun v7 h6 =>
              ak_W0 e 1 d 225 ρ 5 [some (am_r 110), some (am_i v7), none] [] h6 (ak_qi Q X)) (fun _ _ => False)) (fun _ _ => False)) (fun _ _ => False))
      ∧ (h1.1 110 33 ≠ 42 →
        (h1.1 110 33 = 47 →
          ak_MV e 1 d ρ 205 [am_r 110] h1 (fun h8 =>
            ak_MI e 1 d ρ 226 [am_r 110] h8 (fun v10 h9 =>
              ak_MI e 1 d ρ 223 [am_r 110, am_i (h1.1 110 33), am_i x1, am_i v10] h9 (fun v12 h11 =>
                ak_W0 e 1 d 225 ρ 5 [some (am_r 110), some (am_i v12), none] [] h11 (ak_qi Q X)) (fun _ _ => False)) (fun _ _ => False)) (fun _ _ => False))
        ∧ (h1.1 110 33 ≠ 47 →
          (h1.1 110 33 ≠ 37 →
            Q x1 h1)
          ∧ (h1.1 110 33 = 37 →
            ak_MV e 1 d ρ 205 [am_r 110] h1 (fun h13 =>
              ak_MI e 1 d ρ 226 [am_r 110] h13 (fun v15 h14 =>
                ak_MI e 1 d ρ 223 [am_r 110, am_i (h1.1 110 33), am_i x1, am_i v15] h14 (fun v17 h16 =>
                  ak_W0 e 1 d 225 ρ 5 [some (am_r 110), some (am_i v17), none] [] h16 (ak_qi Q X)) (fun _ _ => False)) (fun _ _ => False)) (fun _ _ => False)))))) (fun _ _ => False)) :
  ak_W0 e 1 d 225 ρ 5 [some (am_r 110), some (am_i x1), none] [] h (ak_qi Q X) := ak_k_ok am_cc225 400 [(5, [true, true, false])] w
theorem am_cc226 : am_co am_P 226 = am_lk am_rw226 ∧ am_hl am_P 226 = [] ∧ am_rtag (am_re am_P 226) = 1 := ⟨rfl, rfl, rfl⟩
set_option maxRecDepth 100000 in
theorem am_k226_0 {e : ak_X3} {d : Nat} {ρ : List Nat} {h : ak_S} {Q : Int → ak_S → Prop} {X : Nat → ak_S → Prop} (w :
  ak_W0 e 1 d 226 ρ 2 [some (am_r 110), some (am_i 0), none, none, none] [] h (ak_qi Q X)) :
  ak_W0 e 1 d 226 ρ 0 [some (am_r 110), none, none, none, none] [] h (ak_qi Q X) := ak_k_ok am_cc226 400 [(2, [true, true, false, false, false]), (28, [true, true, true, true, false])] w
set_option maxRecDepth 100000 in
theorem am_k226_2 {e : ak_X3} {d : Nat} {ρ : List Nat} {h : ak_S} {Q : Int → ak_S → Prop} {X : Nat → ak_S → Prop} {x1 : Int} (w :
  ak_MI e 1 d ρ 208 [am_r 110, am_i 45] h (fun v2 h1 =>
    (v2 = 0 →
      ak_MI e 1 d ρ 227 [am_r 110] h1 (fun v4 h3 =>
        ak_W0 e 1 d 226 ρ 28 [some (am_r 110), some (am_i x1), some (am_i v4), some (am_i 0), none] [] h3 (ak_qi Q X)) (fun _ _ => False))
    ∧ (v2 ≠ 0 →
      ak_MV e 1 d ρ 205 [am_r 110] h1 (fun h5 =>
        ak_W0 e 1 d 226 ρ 2 [some (am_r 110), some (am_i (am_w32 (x1 + 1))), none, none, none] [] h5 (ak_qi Q X)) (fun _ _ => False))) (fun _ _ => False)) :
  ak_W0 e 1 d 226 ρ 2 [some (am_r 110), some (am_i x1), none, none, none] [] h (ak_qi Q X) := ak_k_ok am_cc226 400 [(2, [true, true, false, false, false]), (28, [true, true, true, true, false])] w
set_option maxRecDepth 100000 in
theorem am_k226_28 {e : ak_X3} {d : Nat} {ρ : List Nat} {h : ak_S} {Q : Int → ak_S → Prop} {X : Nat → ak_S → Prop} {x1 x2 x3 : Int} (w :
  (x1 ≤ x3 →
    Q x2 h)
  ∧ (x3 < x1 →
    ak_MI e 1 d ρ 206 [am_r 110] h (fun v2 h1 =>
      (v2 ≠ 0 →
        Q x2 h1)
      ∧ (v2 = 0 →
        ak_MI e 1 d ρ 212 [am_r 110, am_i 12, am_i 0] h1 (fun v4 h3 =>
          (0 ≤ v4 ∧ v4 < (18000 : Int)) ∧ ak_W0 e 1 d 226 ρ 28 [some (am_r 110), some (am_i x1), some (am_i v4), some (am_i (am_w32 (x3 + 1))), none] [] ((am_up h3.1 115 v4.toNat x2), h3.2) (ak_qi Q X)) (fun _ _ => False))) (fun _ _ => False))) :
  ak_W0 e 1 d 226 ρ 28 [some (am_r 110), some (am_i x1), some (am_i x2), some (am_i x3), none] [] h (ak_qi Q X) := ak_k_ok am_cc226 400 [(2, [true, true, false, false, false]), (28, [true, true, true, true, false])] w
theorem am_cc227 : am_co am_P 227 = am_lk am_rw227 ∧ am_hl am_P 227 = [] ∧ am_rtag (am_re am_P 227) = 1 := ⟨rfl, rfl, rfl⟩
set_option maxRecDepth 100000 in
theorem am_k227_0 {e : ak_X3} {d : Nat} {ρ : List Nat} {h : ak_S} {Q : Int → ak_S → Prop} {X : Nat → ak_S → Prop} (w :
  ak_MI e 1 d ρ 228 [am_r 110] h (fun v2 h1 =>
    ak_W0 e 1 d 227 ρ 5 [some (am_r 110), some (am_i v2), none, none, none, none] [] h1 (ak_qi Q X)) (fun _ _ => False)) :
  ak_W0 e 1 d 227 ρ 0 [some (am_r 110), none, none, none, none, none] [] h (ak_qi Q X) := ak_k_ok am_cc227 400 [(5, [true, true, false, false, false, false]), (30, [true, true, false, false, false, false]), (62, [true, true, true, false, false, false]), (121, [true, true, false, true, true, false])] w
set_option maxRecDepth 100000 in
theorem am_k227_5 {e : ak_X3} {d : Nat} {ρ : List Nat} {h : ak_S} {Q : Int → ak_S → Prop} {X : Nat → ak_S → Prop} {x1 : Int} (w :
  ak_MI e 1 d ρ 206 [am_r 110] h (fun v2 h1 =>
    (v2 ≠ 0 →
      Q x1 h1)
    ∧ (v2 = 0 →
      (h1.1 110 33 = 46 →
        ak_W0 e 1 d 227 ρ 30 [some (am_r 110), some (am_i x1), none, none, none, none] [] h1 (ak_qi Q X))
      ∧ (h1.1 110 33 ≠ 46 →
        (h1.1 110 33 ≠ 33 →
          Q x1 h1)
        ∧ (h1.1 110 33 = 33 →
          ak_W0 e 1 d 227 ρ 30 [some (am_r 110), some (am_i x1), none, none, none, none] [] h1 (ak_qi Q X))))) (fun _ _ => False)) :
  ak_W0 e 1 d 227 ρ 5 [some (am_r 110), some (am_i x1), none, none, none, none] [] h (ak_qi Q X) := ak_k_ok am_cc227 400 [(5, [true, true, false, false, false, false]), (30, [true, true, false, false, false, false]), (62, [true, true, true, false, false, false]), (121, [true, true, false, true, true, false])] w
set_option maxRecDepth 100000 in
theorem am_k227_30 {e : ak_X3} {d : Nat} {ρ : List Nat} {h : ak_S} {Q : Int → ak_S → Prop} {X : Nat → ak_S → Prop} {x1 : Int} (w :
  (h.1 110 33 ≠ 46 →
    ak_MV e 1 d ρ 205 [am_r 110] h (fun h1 =>
      ((0 : Int) = 0 →
        ak_W0 e 1 d 227 ρ 62 [some (am_r 110), some (am_i x1), some (am_i 0), none, none, none] [am_i 0] h1 (ak_qi Q X))
      ∧ ((0 : Int) ≠ 0 →
        ak_MI e 1 d ρ 219 [am_r 110, am_i 0] h1 (fun v3 h2 =>
          ak_W0 e 1 d 227 ρ 62 [some (am_r 110), some (am_i x1), some (am_i 0), none, none, none] [am_i v3] h2 (ak_qi Q X)) (fun _ _ => False))) (fun _ _ => False))
  ∧ (h.1 110 33 = 46 →
    ak_MV e 1 d ρ 205 [am_r 110] h (fun h4 =>
      ((1 : Int) = 0 →
        ak_W0 e 1 d 227 ρ 62 [some (am_r 110), some (am_i x1), some (am_i 1), none, none, none] [am_i 0] h4 (ak_qi Q X))
      ∧ ((1 : Int) ≠ 0 →
        ak_MI e 1 d ρ 219 [am_r 110, am_i 0] h4 (fun v6 h5 =>
          ak_W0 e 1 d 227 ρ 62 [some (am_r 110), some (am_i x1), some (am_i 1), none, none, none] [am_i v6] h5 (ak_qi Q X)) (fun _ _ => False))) (fun _ _ => False))) :
  ak_W0 e 1 d 227 ρ 30 [some (am_r 110), some (am_i x1), none, none, none, none] [] h (ak_qi Q X) := ak_k_ok am_cc227 400 [(5, [true, true, false, false, false, false]), (30, [true, true, false, false, false, false]), (62, [true, true, true, false, false, false]), (121, [true, true, false, true, true, false])] w
set_option maxRecDepth 100000 in
theorem am_k227_62 {e : ak_X3} {d : Nat} {ρ : List Nat} {h : ak_S} {Q : Int → ak_S → Prop} {X : Nat → ak_S → Prop} {x1 x2 y0 : Int} (w :
  ak_MI e 1 d ρ 206 [am_r 110] h (fun v2 h1 =>
    (v2 = 0 →
      (x2 = 0 →
        ak_MI e 1 d ρ 221 [am_r 110] ((am_up h1.1 110 45 0), h1.2) (fun v4 h3 =>
          ak_MI e 1 d ρ 206 [am_r 110] h3 (fun v6 h5 =>
            (v6 = 0 →
              (x2 = 0 →
                ak_W0 e 1 d 227 ρ 121 [some (am_r 110), some (am_i x1), none, some (am_i y0), some (am_i v4), none] [am_i 10, am_r 110] h5 (ak_qi Q X))
              ∧ (x2 ≠ 0 →
                ak_W0 e 1 d 227 ρ 121 [some (am_r 110), some (am_i x1), none, some (am_i y0), some (am_i v4), none] [am_i 9, am_r 110] h5 (ak_qi Q X)))
            ∧ (v6 ≠ 0 →
              Q ((-1)) h5)) (fun _ _ => False)) (fun _ _ => False))
      ∧ (x2 ≠ 0 →
        (h1.1 110 33 = 40 →
          ak_MI e 1 d ρ 221 [am_r 110] ((am_up h1.1 110 45 0), h1.2) (fun v8 h7 =>
            ak_MI e 1 d ρ 206 [am_r 110] h7 (fun v10 h9 =>
              (v10 = 0 →
                (x2 = 0 →
                  ak_W0 e 1 d 227 ρ 121 [some (am_r 110), some (am_i x1), none, some (am_i y0), some (am_i v8), none] [am_i 10, am_r 110] h9 (ak_qi Q X))
                ∧ (x2 ≠ 0 →
                  ak_W0 e 1 d 227 ρ 121 [some (am_r 110), some (am_i x1), none, some (am_i y0), some (am_i v8), none] [am_i 9, am_r 110] h9 (ak_qi Q X)))
              ∧ (v10 ≠ 0 →
                Q ((-1)) h9)) (fun _ _ => False)) (fun _ _ => False))
        ∧ (h1.1 110 33 ≠ 40 →
          ak_MI e 1 d ρ 206 [am_r 110] ((am_up h1.1 110 45 0), h1.2) (fun v12 h11 =>
            (v12 = 0 →
              (x2 = 0 →
                ak_W0 e 1 d 227 ρ 121 [some (am_r 110), some (am_i x1), none, some (am_i y0), some (am_i ((-1))), none] [am_i 10, am_r 110] h11 (ak_qi Q X))
              ∧ (x2 ≠ 0 →
                ak_W0 e 1 d 227 ρ 121 [some (am_r 110), some (am_i x1), none, some (am_i y0), some (am_i ((-1))), none] [am_i 9, am_r 110] h11 (ak_qi Q X)))
            ∧ (v12 ≠ 0 →
              Q ((-1)) h11)) (fun _ _ => False))))
    ∧ (v2 ≠ 0 →
      Q ((-1)) h1)) (fun _ _ => False)) :
  ak_W0 e 1 d 227 ρ 62 [some (am_r 110), some (am_i x1), some (am_i x2), none, none, none] [am_i y0] h (ak_qi Q X) := ak_k_ok am_cc227 400 [(5, [true, true, false, false, false, false]), (30, [true, true, false, false, false, false]), (62, [true, true, true, false, false, false]), (121, [true, true, false, true, true, false])] w
set_option maxRecDepth 100000 in
theorem am_k227_121 {e : ak_X3} {d : Nat} {ρ : List Nat} {h : ak_S} {Q : Int → ak_S → Prop} {X : Nat → ak_S → Prop} {x1 x3 x4 y0 : Int} (w :
  ak_MI e 1 d ρ 212 [am_r 110, am_i y0, am_i 0] h (fun v2 h1 =>
    (0 ≤ v2 ∧ v2 < (18000 : Int)) ∧ (0 ≤ v2 ∧ v2 < (18000 : Int)) ∧ (0 ≤ v2 ∧ v2 < (18000 : Int)) ∧ (0 ≤ v2 ∧ v2 < (18000 : Int)) ∧ ak_W0 e 1 d 227 ρ 5 [some (am_r 110), some (am_i v2), none, none, none, none] [] ((am_up (am_up (am_up (am_up h1.1 115 v2.toNat x1) 116 v2.toNat x4) 117 v2.toNat (h1.1 110 45)) 118 v2.toNat x3), h1.2) (ak_qi Q X)) (fun _ _ => False)) :
  ak_W0 e 1 d 227 ρ 121 [some (am_r 110), some (am_i x1), none, some (am_i x3), some (am_i x4), none] [am_i y0, am_r 110] h (ak_qi Q X) := ak_k_ok am_cc227 400 [(5, [true, true, false, false, false, false]), (30, [true, true, false, false, false, false]), (62, [true, true, true, false, false, false]), (121, [true, true, false, true, true, false])] w
theorem am_cc228 : am_co am_P 228 = am_lk am_rw228 ∧ am_hl am_P 228 = [] ∧ am_rtag (am_re am_P 228) = 1 := ⟨rfl, rfl, rfl⟩
set_option maxRecDepth 100000 in
theorem am_k228_0 {e : ak_X3} {d : Nat} {ρ : List Nat} {h : ak_S} {Q : Int → ak_S → Prop} {X : Nat → ak_S → Prop} (w :
  ak_MI e 1 d ρ 206 [am_r 110] h (fun v2 h1 =>
    (v2 = 0 →
      True ∧
        ((h1.1 110 33 ≠ 2 ∧ h1.1 110 33 ≠ 3 ∧ h1.1 110 33 ≠ 40 ∧ h1.1 110 33 ≠ 91 ∧ h1.1 110 33 ≠ 218 ∧ h1.1 110 33 ≠ 219 ∧ h1.1 110 33 ≠ 220 ∧ h1.1 110 33 ≠ 221 ∧ h1.1 110 33 ≠ 222 ∧ h1.1 110 33 ≠ 223 ∧ True) → ak_MV e 1 d ρ 207 [am_r 110, am_i (h1.1 110 34)] h1 (fun h3 =>
          Q ((-1)) h3) (fun _ _ => False)) ∧
        (h1.1 110 33 = 2 → ak_MV e 1 d ρ 217 [am_r 110] h1 (fun h4 =>
          ak_MI e 1 d ρ 206 [am_r 110] h4 (fun v6 h5 =>
            (v6 = 0 →
              ak_MI e 1 d ρ 212 [am_r 110, am_i 7, am_i 0] h5 (fun v8 h7 =>
                (0 ≤ v8 ∧ v8 < (18000 : Int)) ∧ (0 ≤ v8 ∧ v8 < (18000 : Int)) ∧ ak_MV e 1 d ρ 205 [am_r 110] ((am_up (am_up h7.1 115 v8.toNat (h7.1 110 43)) 116 v8.toNat (h7.1 110 44)), h7.2) (fun h9 =>
                  Q v8 h9) (fun _ _ => False)) (fun _ _ => False))
            ∧ (v6 ≠ 0 →
              Q ((-1)) h5)) (fun _ _ => False)) (fun _ _ => False)) ∧
        (h1.1 110 33 = 3 → ak_MI e 1 d ρ 212 [am_r 110, am_i 1, am_i 0] h1 (fun v11 h10 =>
          (0 ≤ v11 ∧ v11 < (18000 : Int)) ∧ ak_MV e 1 d ρ 205 [am_r 110] ((am_up h10.1 115 v11.toNat (h10.1 110 36)), h10.2) (fun h12 =>
            Q v11 h12) (fun _ _ => False)) (fun _ _ => False)) ∧
        (h1.1 110 33 = 40 → ak_MV e 1 d ρ 210 [am_r 110, am_i 40] h1 (fun h13 =>
          ak_MI e 1 d ρ 222 [am_r 110] h13 (fun v15 h14 =>
            ak_MV e 1 d ρ 211 [am_r 110, am_i 41] h14 (fun h16 =>
              Q v15 h16) (fun _ _ => False)) (fun _ _ => False)) (fun _ _ => False)) ∧
        (h1.1 110 33 = 91 → ak_MI e 1 d ρ 229 [am_r 110] h1 (fun v18 h17 =>
          Q v18 h17) (fun _ _ => False)) ∧
        (h1.1 110 33 = 218 → ak_MI e 1 d ρ 212 [am_r 110, am_i 6, am_i 0] h1 (fun v20 h19 =>
          ak_MV e 1 d ρ 205 [am_r 110] h19 (fun h21 =>
            ak_MV e 1 d ρ 210 [am_r 110, am_i 40] h21 (fun h22 =>
              ak_MI e 1 d ρ 222 [am_r 110] h22 (fun v24 h23 =>
                (0 ≤ v20 ∧ v20 < (18000 : Int)) ∧ ak_MV e 1 d ρ 211 [am_r 110, am_i 41] ((am_up h23.1 115 v20.toNat v24), h23.2) (fun h25 =>
                  Q v20 h25) (fun _ _ => False)) (fun _ _ => False)) (fun _ _ => False)) (fun _ _ => False)) (fun _ _ => False)) ∧
        (h1.1 110 33 = 219 → ak_W0 e 1 d 228 ρ 127 [some (am_r 110), none, none, none] [] h1 (ak_qi Q X)) ∧
        (h1.1 110 33 = 220 → ak_W0 e 1 d 228 ρ 127 [some (am_r 110), none, none, none] [] h1 (ak_qi Q X)) ∧
        (h1.1 110 33 = 221 → ak_W0 e 1 d 228 ρ 127 [some (am_r 110), none, none, none] [] h1 (ak_qi Q X)) ∧
        (h1.1 110 33 = 222 → ak_W0 e 1 d 228 ρ 127 [some (am_r 110), none, none, none] [] h1 (ak_qi Q X)) ∧
        (h1.1 110 33 = 223 → ak_MV e 1 d ρ 205 [am_r 110] h1 (fun h26 =>
          ak_MV e 1 d ρ 209 [am_r 110, am_i 46] h26 (fun h27 =>
            ak_MI e 1 d ρ 219 [am_r 110, am_i 1] h27 (fun v29 h28 =>
              ak_MI e 1 d ρ 206 [am_r 110] h28 (fun v31 h30 =>
                (v31 = 0 →
                  (h30.1 110 33 ≠ 40 →
                    ak_W0 e 1 d 228 ρ 312 [some (am_r 110), none, some (am_i v29), none] [am_i ((-1))] ((am_up h30.1 110 45 0), h30.2) (ak_qi Q X))
                  ∧ (h30.1 110 33 = 40 →
                    ak_MI e 1 d ρ 221 [am_r 110] ((am_up h30.1 110 45 0), h30.2) (fun v33 h32 =>
                      ak_W0 e 1 d 228 ρ 312 [some (am_r 110), none, some (am_i v29), none] [am_i v33] h32 (ak_qi Q X)) (fun _ _ => False)))
                ∧ (v31 ≠ 0 →
                  Q ((-1)) h30)) (fun _ _ => False)) (fun _ _ => False)) (fun _ _ => False)) (fun _ _ => False)) ∧ True)
    ∧ (v2 ≠ 0 →
      Q ((-1)) h1)) (fun _ _ => False)) :
  ak_W0 e 1 d 228 ρ 0 [some (am_r 110), none, none, none] [] h (ak_qi Q X) := ak_k_ok am_cc228 400 [(127, [true, false, false, false]), (312, [true, false, true, false])] w
set_option maxRecDepth 100000 in
theorem am_k228_127 {e : ak_X3} {d : Nat} {ρ : List Nat} {h : ak_S} {Q : Int → ak_S → Prop} {X : Nat → ak_S → Prop} (w :
  (h.1 110 33 ≠ 220 →
    (h.1 110 33 ≠ 221 →
      (h.1 110 33 ≠ 222 →
        ak_MI e 1 d ρ 212 [am_r 110, am_i 5, am_i 0] h (fun v2 h1 =>
          ak_MV e 1 d ρ 205 [am_r 110] h1 (fun h3 =>
            Q v2 h3) (fun _ _ => False)) (fun _ _ => False))
      ∧ (h.1 110 33 = 222 →
        ak_MI e 1 d ρ 212 [am_r 110, am_i 4, am_i 0] h (fun v5 h4 =>
          ak_MV e 1 d ρ 205 [am_r 110] h4 (fun h6 =>
            Q v5 h6) (fun _ _ => False)) (fun _ _ => False)))
    ∧ (h.1 110 33 = 221 →
      ak_MI e 1 d ρ 212 [am_r 110, am_i 3, am_i 0] h (fun v8 h7 =>
        ak_MV e 1 d ρ 205 [am_r 110] h7 (fun h9 =>
          Q v8 h9) (fun _ _ => False)) (fun _ _ => False)))
  ∧ (h.1 110 33 = 220 →
    ak_MI e 1 d ρ 212 [am_r 110, am_i 2, am_i 0] h (fun v11 h10 =>
      ak_MV e 1 d ρ 205 [am_r 110] h10 (fun h12 =>
        Q v11 h12) (fun _ _ => False)) (fun _ _ => False))) :
  ak_W0 e 1 d 228 ρ 127 [some (am_r 110), none, none, none] [] h (ak_qi Q X) := ak_k_ok am_cc228 400 [(127, [true, false, false, false]), (312, [true, false, true, false])] w
set_option maxRecDepth 100000 in
theorem am_k228_312 {e : ak_X3} {d : Nat} {ρ : List Nat} {h : ak_S} {Q : Int → ak_S → Prop} {X : Nat → ak_S → Prop} {x2 y0 : Int} (w :
  ak_MI e 1 d ρ 206 [am_r 110] h (fun v2 h1 =>
    (v2 = 0 →
      ak_MI e 1 d ρ 212 [am_r 110, am_i 8, am_i 0] h1 (fun v4 h3 =>
        (0 ≤ v4 ∧ v4 < (18000 : Int)) ∧ (0 ≤ v4 ∧ v4 < (18000 : Int)) ∧ (0 ≤ v4 ∧ v4 < (18000 : Int)) ∧ Q v4 ((am_up (am_up (am_up h3.1 116 v4.toNat y0) 117 v4.toNat (h3.1 110 45)) 118 v4.toNat x2), h3.2)) (fun _ _ => False))
    ∧ (v2 ≠ 0 →
      Q ((-1)) h1)) (fun _ _ => False)) :
  ak_W0 e 1 d 228 ρ 312 [some (am_r 110), none, some (am_i x2), none] [am_i y0] h (ak_qi Q X) := ak_k_ok am_cc228 400 [(127, [true, false, false, false]), (312, [true, false, true, false])] w
theorem am_cc229 : am_co am_P 229 = am_lk am_rw229 ∧ am_hl am_P 229 = [] ∧ am_rtag (am_re am_P 229) = 1 := ⟨rfl, rfl, rfl⟩
set_option maxRecDepth 100000 in
theorem am_k229_0 {e : ak_X3} {d : Nat} {ρ : List Nat} {h : ak_S} {Q : Int → ak_S → Prop} {X : Nat → ak_S → Prop} (w :
  (0 ≤ h.1 110 31 ∧ h.1 110 31 < (2 : Int)) ∧ (h.1 134 (h.1 110 31).toNat ≠ 60 →
    ak_MV e 1 d ρ 210 [am_r 110, am_i 91] h (fun h1 =>
      ak_MI e 1 d ρ 206 [am_r 110] h1 (fun v3 h2 =>
        (v3 = 0 →
          (0 ≤ h2.1 110 31 ∧ h2.1 110 31 < (2 : Int)) ∧ (0 ≤ h2.1 110 31 ∧ h2.1 110 31 < (2 : Int)) ∧ (0 ≤ h2.1 110 31 ∧ h2.1 110 31 < (2 : Int)) ∧ (0 ≤ h2.1 110 42 ∧ h2.1 110 42 < (21 : Int)) ∧ ak_MI e 1 d ρ 208 [am_r 110, am_i 124] ((am_up (am_up (am_up h2.1 134 (h2.1 110 31).toNat (am_w32 ((h2.1 134 (h2.1 110 31).toNat) + 1))) 138 (h2.1 110 42).toNat 0) 110 42 (am_w32 ((h2.1 110 42) + 1))), h2.2) (fun v5 h4 =>
            (v5 = 0 →
              ak_W0 e 1 d 229 ρ 116 [some (am_r 110), some (am_i (am_w32 ((am_w32 (60 * (h2.1 110 31))) + (h2.1 134 (h2.1 110 31).toNat)))), some (am_i 0), none] [] h4 (ak_qi Q X))
            ∧ (v5 ≠ 0 →
              ak_MV e 1 d ρ 205 [am_r 110] h4 (fun h6 =>
                ak_MI e 1 d ρ 230 [am_r 110] h6 (fun v8 h7 =>
                  ak_MV e 1 d ρ 209 [am_r 110, am_i 124] h7 (fun h9 =>
                    ak_W0 e 1 d 229 ρ 116 [some (am_r 110), some (am_i (am_w32 ((am_w32 (60 * (h2.1 110 31))) + (h2.1 134 (h2.1 110 31).toNat)))), some (am_i v8), none] [] h9 (ak_qi Q X)) (fun _ _ => False)) (fun _ _ => False)) (fun _ _ => False))) (fun _ _ => False))
        ∧ (v3 ≠ 0 →
          Q ((-1)) h2)) (fun _ _ => False)) (fun _ _ => False))
  ∧ (h.1 134 (h.1 110 31).toNat = 60 →
    ak_MV e 1 d ρ 207 [am_r 110, am_i (h.1 110 34)] h (fun h10 =>
      Q ((-1)) h10) (fun _ _ => False))) :
  ak_W0 e 1 d 229 ρ 0 [some (am_r 110), none, none, none] [] h (ak_qi Q X) := ak_k_ok am_cc229 400 [(116, [true, true, true, false])] w
set_option maxRecDepth 100000 in
theorem am_k229_116 {e : ak_X3} {d : Nat} {ρ : List Nat} {h : ak_S} {Q : Int → ak_S → Prop} {X : Nat → ak_S → Prop} {x1 x2 : Int} (w :
  (0 ≤ x1 ∧ x1 < (120 : Int)) ∧ ak_MI e 1 d ρ 231 [am_r 110, am_i 93] ((am_up h.1 136 x1.toNat x2), h.2) (fun v2 h1 =>
    (0 ≤ x1 ∧ x1 < (120 : Int)) ∧ ak_MV e 1 d ρ 211 [am_r 110, am_i 93] ((am_up h1.1 135 x1.toNat v2), h1.2) (fun h3 =>
      ak_MI e 1 d ρ 206 [am_r 110] ((am_up h3.1 110 42 (am_w32 ((h3.1 110 42) - 1))), h3.2) (fun v5 h4 =>
        (v5 = 0 →
          ak_MI e 1 d ρ 212 [am_r 110, am_i 13, am_i 0] h4 (fun v7 h6 =>
            (0 ≤ v7 ∧ v7 < (18000 : Int)) ∧ Q v7 ((am_up h6.1 115 v7.toNat (am_w32 (x1 - (am_w32 (60 * (h6.1 110 31)))))), h6.2)) (fun _ _ => False))
        ∧ (v5 ≠ 0 →
          Q ((-1)) h4)) (fun _ _ => False)) (fun _ _ => False)) (fun _ _ => False)) :
  ak_W0 e 1 d 229 ρ 116 [some (am_r 110), some (am_i x1), some (am_i x2), none] [] h (ak_qi Q X) := ak_k_ok am_cc229 400 [(116, [true, true, true, false])] w
theorem am_cc230 : am_co am_P 230 = am_lk am_rw230 ∧ am_hl am_P 230 = [] ∧ am_rtag (am_re am_P 230) = 1 := ⟨rfl, rfl, rfl⟩
set_option maxRecDepth 100000 in
theorem am_k230_0 {e : ak_X3} {d : Nat} {ρ : List Nat} {h : ak_S} {Q : Int → ak_S → Prop} {X : Nat → ak_S → Prop} (w :
  ak_W0 e 1 d 230 ρ 4 [some (am_r 110), some (am_i 0), some (am_i 1), none] [] h (ak_qi Q X)) :
  ak_W0 e 1 d 230 ρ 0 [some (am_r 110), none, none, none] [] h (ak_qi Q X) := ak_k_ok am_cc230 400 [(4, [true, true, true, false]), (28, [true, true, false, false])] w
set_option maxRecDepth 100000 in
theorem am_k230_4 {e : ak_X3} {d : Nat} {ρ : List Nat} {h : ak_S} {Q : Int → ak_S → Prop} {X : Nat → ak_S → Prop} {x1 x2 : Int} (w :
  (x2 = 0 →
    Q x1 h)
  ∧ (x2 ≠ 0 →
    ak_MI e 1 d ρ 206 [am_r 110] h (fun v2 h1 =>
      (v2 ≠ 0 →
        Q x1 h1)
      ∧ (v2 = 0 →
        (x1 ≠ 4 →
          ak_W0 e 1 d 230 ρ 28 [some (am_r 110), some (am_i x1), none, none] [] h1 (ak_qi Q X))
        ∧ (x1 = 4 →
          ak_MV e 1 d ρ 207 [am_r 110, am_i (h1.1 110 34)] h1 (fun h3 =>
            ak_W0 e 1 d 230 ρ 28 [some (am_r 110), some (am_i x1), none, none] [] h3 (ak_qi Q X)) (fun _ _ => False)))) (fun _ _ => False))) :
  ak_W0 e 1 d 230 ρ 4 [some (am_r 110), some (am_i x1), some (am_i x2), none] [] h (ak_qi Q X) := ak_k_ok am_cc230 400 [(4, [true, true, true, false]), (28, [true, true, false, false])] w
set_option maxRecDepth 100000 in
theorem am_k230_28 {e : ak_X3} {d : Nat} {ρ : List Nat} {h : ak_S} {Q : Int → ak_S → Prop} {X : Nat → ak_S → Prop} {x1 : Int} (w :
  ak_MV e 1 d ρ 215 [am_r 110] h (fun h1 =>
    ak_MI e 1 d ρ 206 [am_r 110] h1 (fun v3 h2 =>
      (v3 = 0 →
        ak_MI e 1 d ρ 216 [am_r 110, am_i (h2.1 110 34), am_i (h2.1 110 35)] h2 (fun v5 h4 =>
          ak_MV e 1 d ρ 205 [am_r 110] h4 (fun h6 =>
            ak_MI e 1 d ρ 208 [am_r 110, am_i 44] h6 (fun v8 h7 =>
              (v8 = 0 →
                ak_W0 e 1 d 230 ρ 4 [some (am_r 110), some (am_i (am_w32 (x1 + 1))), some (am_i v8), none] [] h7 (ak_qi Q X))
              ∧ (v8 ≠ 0 →
                ak_MV e 1 d ρ 205 [am_r 110] h7 (fun h9 =>
                  ak_W0 e 1 d 230 ρ 4 [some (am_r 110), some (am_i (am_w32 (x1 + 1))), some (am_i v8), none] [] h9 (ak_qi Q X)) (fun _ _ => False))) (fun _ _ => False)) (fun _ _ => False)) (fun _ _ => False))
      ∧ (v3 ≠ 0 →
        Q x1 h2)) (fun _ _ => False)) (fun _ _ => False)) :
  ak_W0 e 1 d 230 ρ 28 [some (am_r 110), some (am_i x1), none, none] [] h (ak_qi Q X) := ak_k_ok am_cc230 400 [(4, [true, true, true, false]), (28, [true, true, false, false])] w
theorem am_cc231 : am_co am_P 231 = am_lk am_rw231 ∧ am_hl am_P 231 = [] ∧ am_rtag (am_re am_P 231) = 1 := ⟨rfl, rfl, rfl⟩
set_option maxRecDepth 100000 in
theorem am_k231_0 {e : ak_X3} {d : Nat} {ρ : List Nat} {h : ak_S} {Q : Int → ak_S → Prop} {X : Nat → ak_S → Prop} {x1 : Int} (w :
  ak_W0 e 1 d 231 ρ 4 [some (am_r 110), some (am_i x1), some (am_i ((-1))), some (am_i ((-1))), none] [] h (ak_qi Q X)) :
  ak_W0 e 1 d 231 ρ 0 [some (am_r 110), some (am_i x1), none, none, none] [] h (ak_qi Q X) := ak_k_ok am_cc231 400 [(4, [true, true, true, true, false])] w
set_option maxRecDepth 100000 in
theorem am_k231_4 {e : ak_X3} {d : Nat} {ρ : List Nat} {h : ak_S} {Q : Int → ak_S → Prop} {X : Nat → ak_S → Prop} {x1 x2 x3 : Int} (w :
  ak_MI e 1 d ρ 206 [am_r 110] h (fun v2 h1 =>
    (v2 ≠ 0 →
      Q x2 h1)
    ∧ (v2 = 0 →
      (h1.1 110 33 = x1 →
        Q x2 h1)
      ∧ (h1.1 110 33 ≠ x1 →
        ak_MI e 1 d ρ 233 [am_r 110] h1 (fun v4 h3 =>
          ak_MI e 1 d ρ 206 [am_r 110] h3 (fun v6 h5 =>
            (v6 = 0 →
              (0 ≤ x2 →
                (0 ≤ x3 ∧ x3 < (18000 : Int)) ∧ ak_W0 e 1 d 231 ρ 4 [some (am_r 110), some (am_i x1), some (am_i x2), some (am_i v4), none] [] ((am_up h5.1 119 x3.toNat v4), h5.2) (ak_qi Q X))
              ∧ (x2 < 0 →
                ak_W0 e 1 d 231 ρ 4 [some (am_r 110), some (am_i x1), some (am_i v4), some (am_i v4), none] [] h5 (ak_qi Q X)))
            ∧ (v6 ≠ 0 →
              Q ((-1)) h5)) (fun _ _ => False)) (fun _ _ => False)))) (fun _ _ => False)) :
  ak_W0 e 1 d 231 ρ 4 [some (am_r 110), some (am_i x1), some (am_i x2), some (am_i x3), none] [] h (ak_qi Q X) := ak_k_ok am_cc231 400 [(4, [true, true, true, true, false])] w
theorem am_cc232 : am_co am_P 232 = am_lk am_rw232 ∧ am_hl am_P 232 = [] ∧ am_rtag (am_re am_P 232) = 1 := ⟨rfl, rfl, rfl⟩
set_option maxRecDepth 100000 in
theorem am_k232_0 {e : ak_X3} {d : Nat} {ρ : List Nat} {h : ak_S} {Q : Int → ak_S → Prop} {X : Nat → ak_S → Prop} (w :
  ak_MV e 1 d ρ 210 [am_r 110, am_i 123] h (fun h1 =>
    ak_MI e 1 d ρ 231 [am_r 110, am_i 125] h1 (fun v3 h2 =>
      ak_MV e 1 d ρ 211 [am_r 110, am_i 125] h2 (fun h4 =>
        Q v3 h4) (fun _ _ => False)) (fun _ _ => False)) (fun _ _ => False)) :
  ak_W0 e 1 d 232 ρ 0 [some (am_r 110), none] [] h (ak_qi Q X) := ak_k_ok am_cc232 400 [] w
theorem am_cc233 : am_co am_P 233 = am_lk am_rw233 ∧ am_hl am_P 233 = [] ∧ am_rtag (am_re am_P 233) = 1 := ⟨rfl, rfl, rfl⟩
set_option maxRecDepth 100000 in
theorem am_k233_0 {e : ak_X3} {d : Nat} {ρ : List Nat} {h : ak_S} {Q : Int → ak_S → Prop} {X : Nat → ak_S → Prop} (w :
  True ∧
    ((h.1 110 33 < 201 ∨ 217 < h.1 110 33) → ak_W0 e 1 d 233 ρ 711 [some (am_r 110), some (am_i (h.1 110 34)), none, none, none, none, none, none] [] h (ak_qi Q X)) ∧
    (h.1 110 33 = 201 → ak_MV e 1 d ρ 205 [am_r 110] h (fun h1 =>
      ak_MV e 1 d ρ 215 [am_r 110] h1 (fun h2 =>
        ak_MI e 1 d ρ 206 [am_r 110] h2 (fun v4 h3 =>
          (v4 = 0 →
            ak_MV e 1 d ρ 205 [am_r 110] h3 (fun h5 =>
              ak_MV e 1 d ρ 209 [am_r 110, am_i 61] h5 (fun h6 =>
                ak_MI e 1 d ρ 212 [am_r 110, am_i 20, am_i (h.1 110 34)] h6 (fun v8 h7 =>
                  ak_MI e 1 d ρ 222 [am_r 110] h7 (fun v10 h9 =>
                    (0 ≤ v8 ∧ v8 < (18000 : Int)) ∧ ak_MV e 1 d ρ 209 [am_r 110, am_i 59] ((am_up h9.1 115 v8.toNat v10), h9.2) (fun h11 =>
                      ak_MI e 1 d ρ 206 [am_r 110] h11 (fun v13 h12 =>
                        (v13 ≠ 0 →
                          Q v8 h12)
                        ∧ (v13 = 0 →
                          ak_MI e 1 d ρ 216 [am_r 110, am_i (h3.1 110 34), am_i (h3.1 110 35)] h12 (fun v15 h14 =>
                            (0 ≤ v8 ∧ v8 < (18000 : Int)) ∧ Q v8 ((am_up h14.1 116 v8.toNat v15), h14.2)) (fun _ _ => False))) (fun _ _ => False)) (fun _ _ => False)) (fun _ _ => False)) (fun _ _ => False)) (fun _ _ => False)) (fun _ _ => False))
          ∧ (v4 ≠ 0 →
            Q ((-1)) h3)) (fun _ _ => False)) (fun _ _ => False)) (fun _ _ => False)) ∧
    (h.1 110 33 = 201 + 1 → ak_MV e 1 d ρ 205 [am_r 110] h (fun h16 =>
      ak_MI e 1 d ρ 212 [am_r 110, am_i 29, am_i (h.1 110 34)] h16 (fun v18 h17 =>
        ak_MI e 1 d ρ 222 [am_r 110] h17 (fun v20 h19 =>
          (0 ≤ v18 ∧ v18 < (18000 : Int)) ∧ ak_MI e 1 d ρ 232 [am_r 110] ((am_up h19.1 115 v18.toNat v20), h19.2) (fun v22 h21 =>
            (0 ≤ v18 ∧ v18 < (18000 : Int)) ∧ ak_MI e 1 d ρ 208 [am_r 110, am_i 203] ((am_up h21.1 116 v18.toNat v22), h21.2) (fun v24 h23 =>
              (v24 = 0 →
                Q v18 h23)
              ∧ (v24 ≠ 0 →
                ak_MV e 1 d ρ 205 [am_r 110] h23 (fun h25 =>
                  ak_MI e 1 d ρ 232 [am_r 110] h25 (fun v27 h26 =>
                    (0 ≤ v18 ∧ v18 < (18000 : Int)) ∧ Q v18 ((am_up h26.1 117 v18.toNat v27), h26.2)) (fun _ _ => False)) (fun _ _ => False))) (fun _ _ => False)) (fun _ _ => False)) (fun _ _ => False)) (fun _ _ => False)) (fun _ _ => False)) ∧
    (h.1 110 33 = 201 + 1 + 1 → ak_W0 e 1 d 233 ρ 711 [some (am_r 110), some (am_i (h.1 110 34)), none, none, none, none, none, none] [] h (ak_qi Q X)) ∧
    (h.1 110 33 = 201 + 1 + 1 + 1 → ak_MV e 1 d ρ 205 [am_r 110] h (fun h28 =>
      ak_MI e 1 d ρ 212 [am_r 110, am_i 30, am_i (h.1 110 34)] h28 (fun v30 h29 =>
        ak_MI e 1 d ρ 222 [am_r 110] h29 (fun v32 h31 =>
          (0 ≤ v30 ∧ v30 < (18000 : Int)) ∧ ak_MI e 1 d ρ 232 [am_r 110] ((am_up h31.1 115 v30.toNat v32), h31.2) (fun v34 h33 =>
            (0 ≤ v30 ∧ v30 < (18000 : Int)) ∧ Q v30 ((am_up h33.1 116 v30.toNat v34), h33.2)) (fun _ _ => False)) (fun _ _ => False)) (fun _ _ => False)) (fun _ _ => False)) ∧
    (h.1 110 33 = 201 + 1 + 1 + 1 + 1 → (h.1 110 33 ≠ 205 →
      (h.1 110 33 ≠ 206 →
        ak_W0 e 1 d 233 ρ 578 [some (am_r 110), some (am_i (h.1 110 34)), none, none, none, none, none, none] [am_i 33, am_r 110] h (ak_qi Q X))
      ∧ (h.1 110 33 = 206 →
        ak_W0 e 1 d 233 ρ 578 [some (am_r 110), some (am_i (h.1 110 34)), none, none, none, none, none, none] [am_i 32, am_r 110] h (ak_qi Q X)))
    ∧ (h.1 110 33 = 205 →
      ak_W0 e 1 d 233 ρ 578 [some (am_r 110), some (am_i (h.1 110 34)), none, none, none, none, none, none] [am_i 31, am_r 110] h (ak_qi Q X))) ∧
    (h.1 110 33 = 201 + 1 + 1 + 1 + 1 + 1 → (h.1 110 33 ≠ 205 →
      (h.1 110 33 ≠ 206 →
        ak_W0 e 1 d 233 ρ 578 [some (am_r 110), some (am_i (h.1 110 34)), none, none, none, none, none, none] [am_i 33, am_r 110] h (ak_qi Q X))
      ∧ (h.1 110 33 = 206 →
        ak_W0 e 1 d 233 ρ 578 [some (am_r 110), some (am_i (h.1 110 34)), none, none, none, none, none, none] [am_i 32, am_r 110] h (ak_qi Q X)))
    ∧ (h.1 110 33 = 205 →
      ak_W0 e 1 d 233 ρ 578 [some (am_r 110), some (am_i (h.1 110 34)), none, none, none, none, none, none] [am_i 31, am_r 110] h (ak_qi Q X))) ∧
    (h.1 110 33 = 201 + 1 + 1 + 1 + 1 + 1 + 1 → (h.1 110 33 ≠ 205 →
      (h.1 110 33 ≠ 206 →
        ak_W0 e 1 d 233 ρ 578 [some (am_r 110), some (am_i (h.1 110 34)), none, none, none, none, none, none] [am_i 33, am_r 110] h (ak_qi Q X))
      ∧ (h.1 110 33 = 206 →
        ak_W0 e 1 d 233 ρ 578 [some (am_r 110), some (am_i (h.1 110 34)), none, none, none, none, none, none] [am_i 32, am_r 110] h (ak_qi Q X)))
    ∧ (h.1 110 33 = 205 →
      ak_W0 e 1 d 233 ρ 578 [some (am_r 110), some (am_i (h.1 110 34)), none, none, none, none, none, none] [am_i 31, am_r 110] h (ak_qi Q X))) ∧
    (h.1 110 33 = 201 + 1 + 1 + 1 + 1 + 1 + 1 + 1 → ak_MV e 1 d ρ 205 [am_r 110] h (fun h35 =>
      ak_MI e 1 d ρ 212 [am_r 110, am_i 34, am_i (h.1 110 34)] h35 (fun v37 h36 =>
        (h36.1 110 33 ≠ 3 →
          ak_MV e 1 d ρ 207 [am_r 110, am_i (h36.1 110 34)] h36 (fun h38 =>
            ak_W0 e 1 d 233 ρ 651 [some (am_r 110), none, some (am_i v37), none, none, none, none, none] [] h38 (ak_qi Q X)) (fun _ _ => False))
        ∧ (h36.1 110 33 = 3 →
          (h36.1 110 36 < 20 →
            ak_MV e 1 d ρ 207 [am_r 110, am_i (h36.1 110 34)] h36 (fun h39 =>
              ak_W0 e 1 d 233 ρ 651 [some (am_r 110), none, some (am_i v37), none, none, none, none, none] [] h39 (ak_qi Q X)) (fun _ _ => False))
          ∧ (20 ≤ h36.1 110 36 →
            (h36.1 110 36 ≤ 99 →
              ak_W0 e 1 d 233 ρ 651 [some (am_r 110), none, some (am_i v37), none, none, none, none, none] [] h36 (ak_qi Q X))
            ∧ (99 < h36.1 110 36 →
              ak_MV e 1 d ρ 207 [am_r 110, am_i (h36.1 110 34)] h36 (fun h40 =>
                ak_W0 e 1 d 233 ρ 651 [some (am_r 110), none, some (am_i v37), none, none, none, none, none] [] h40 (ak_qi Q X)) (fun _ _ => False))))) (fun _ _ => False)) (fun _ _ => False)) ∧
    (h.1 110 33 = 201 + 1 + 1 + 1 + 1 + 1 + 1 + 1 + 1 → ak_MI e 1 d ρ 234 [am_r 110, am_i (h.1 110 34)] h (fun v42 h41 =>
      Q v42 h41) (fun _ _ => False)) ∧
    (h.1 110 33 = 201 + 1 + 1 + 1 + 1 + 1 + 1 + 1 + 1 + 1 → ak_W0 e 1 d 233 ρ 711 [some (am_r 110), some (am_i (h.1 110 34)), none, none, none, none, none, none] [] h (ak_qi Q X)) ∧
    (h.1 110 33 = 201 + 1 + 1 + 1 + 1 + 1 + 1 + 1 + 1 + 1 + 1 → ak_W0 e 1 d 233 ρ 711 [some (am_r 110), some (am_i (h.1 110 34)), none, none, none, none, none, none] [] h (ak_qi Q X)) ∧
    (h.1 110 33 = 201 + 1 + 1 + 1 + 1 + 1 + 1 + 1 + 1 + 1 + 1 + 1 → (h.1 110 33 ≠ 212 →
      ak_W0 e 1 d 233 ρ 193 [some (am_r 110), some (am_i (h.1 110 34)), none, none, none, none, none, none] [am_i 0] h (ak_qi Q X))
    ∧ (h.1 110 33 = 212 →
      ak_W0 e 1 d 233 ρ 193 [some (am_r 110), some (am_i (h.1 110 34)), none, none, none, none, none, none] [am_i 1] h (ak_qi Q X))) ∧
    (h.1 110 33 = 201 + 1 + 1 + 1 + 1 + 1 + 1 + 1 + 1 + 1 + 1 + 1 + 1 → (h.1 110 33 ≠ 212 →
      ak_W0 e 1 d 233 ρ 193 [some (am_r 110), some (am_i (h.1 110 34)), none, none, none, none, none, none] [am_i 0] h (ak_qi Q X))
    ∧ (h.1 110 33 = 212 →
      ak_W0 e 1 d 233 ρ 193 [some (am_r 110), some (am_i (h.1 110 34)), none, none, none, none, none, none] [am_i 1] h (ak_qi Q X))) ∧
    (h.1 110 33 = 201 + 1 + 1 + 1 + 1 + 1 + 1 + 1 + 1 + 1 + 1 + 1 + 1 + 1 → ak_MV e 1 d ρ 205 [am_r 110] h (fun h43 =>
      ak_MI e 1 d ρ 212 [am_r 110, am_i 25, am_i (h.1 110 34)] h43 (fun v45 h44 =>
        ak_MI e 1 d ρ 222 [am_r 110] h44 (fun v47 h46 =>
          (0 ≤ v45 ∧ v45 < (18000 : Int)) ∧ ak_MV e 1 d ρ 209 [am_r 110, am_i 44] ((am_up h46.1 115 v45.toNat v47), h46.2) (fun h48 =>
            ak_MI e 1 d ρ 220 [am_r 110] h48 (fun v50 h49 =>
              (0 ≤ v45 ∧ v45 < (18000 : Int)) ∧ ak_MV e 1 d ρ 209 [am_r 110, am_i 44] ((am_up h49.1 117 v45.toNat v50), h49.2) (fun h51 =>
                ak_MI e 1 d ρ 235 [am_r 110] h51 (fun v53 h52 =>
                  (0 ≤ v45 ∧ v45 < (18000 : Int)) ∧ ak_MV e 1 d ρ 209 [am_r 110, am_i 59] ((am_up h52.1 118 v45.toNat v53), h52.2) (fun h54 =>
                    Q v45 h54) (fun _ _ => False)) (fun _ _ => False)) (fun _ _ => False)) (fun _ _ => False)) (fun _ _ => False)) (fun _ _ => False)) (fun _ _ => False)) (fun _ _ => False)) ∧
    (h.1 110 33 = 201 + 1 + 1 + 1 + 1 + 1 + 1 + 1 + 1 + 1 + 1 + 1 + 1 + 1 + 1 → ak_MV e 1 d ρ 205 [am_r 110] h (fun h55 =>
      ak_MI e 1 d ρ 212 [am_r 110, am_i 26, am_i (h.1 110 34)] h55 (fun v57 h56 =>
        ak_MI e 1 d ρ 222 [am_r 110] h56 (fun v59 h58 =>
          (0 ≤ v57 ∧ v57 < (18000 : Int)) ∧ ak_MV e 1 d ρ 209 [am_r 110, am_i 44] ((am_up h58.1 115 v57.toNat v59), h58.2) (fun h60 =>
            ak_MI e 1 d ρ 220 [am_r 110] h60 (fun v62 h61 =>
              (0 ≤ v57 ∧ v57 < (18000 : Int)) ∧ ak_MV e 1 d ρ 209 [am_r 110, am_i 59] ((am_up h61.1 117 v57.toNat v62), h61.2) (fun h63 =>
                Q v57 h63) (fun _ _ => False)) (fun _ _ => False)) (fun _ _ => False)) (fun _ _ => False)) (fun _ _ => False)) (fun _ _ => False)) ∧
    (h.1 110 33 = 201 + 1 + 1 + 1 + 1 + 1 + 1 + 1 + 1 + 1 + 1 + 1 + 1 + 1 + 1 + 1 → (h.1 110 33 ≠ 216 →
      ak_W0 e 1 d 233 ρ 410 [some (am_r 110), some (am_i (h.1 110 34)), none, none, none, none, none, none] [am_i 28, am_r 110] h (ak_qi Q X))
    ∧ (h.1 110 33 = 216 →
      ak_W0 e 1 d 233 ρ 410 [some (am_r 110), some (am_i (h.1 110 34)), none, none, none, none, none, none] [am_i 27, am_r 110] h (ak_qi Q X))) ∧
    (h.1 110 33 = 201 + 1 + 1 + 1 + 1 + 1 + 1 + 1 + 1 + 1 + 1 + 1 + 1 + 1 + 1 + 1 + 1 → (h.1 110 33 ≠ 216 →
      ak_W0 e 1 d 233 ρ 410 [some (am_r 110), some (am_i (h.1 110 34)), none, none, none, none, none, none] [am_i 28, am_r 110] h (ak_qi Q X))
    ∧ (h.1 110 33 = 216 →
      ak_W0 e 1 d 233 ρ 410 [some (am_r 110), some (am_i (h.1 110 34)), none, none, none, none, none, none] [am_i 27, am_r 110] h (ak_qi Q X))) ∧ True) :
  ak_W0 e 1 d 233 ρ 0 [some (am_r 110), none, none, none, none, none, none, none] [] h (ak_qi Q X) := ak_k_ok am_cc233 400 [(193, [true, true, false, false, false, false, false, false]), (221, [true, true, true, true, false, false, false, false]), (257, [true, false, false, false, true, false, false, false]), (410, [true, true, false, false, false, false, false, false]), (578, [true, true, false, false, false, false, false, false]), (651, [true, false, true, false, false, false, false, false]), (711, [true, true, false, false, false, false, false, false]), (845, [true, true, false, false, false, false, false, false])] w
set_option maxRecDepth 100000 in
theorem am_k233_193 {e : ak_X3} {d : Nat} {ρ : List Nat} {h : ak_S} {Q : Int → ak_S → Prop} {X : Nat → ak_S → Prop} {x1 y0 : Int} (w :
  ak_MV e 1 d ρ 205 [am_r 110] h (fun h1 =>
    ak_MI e 1 d ρ 222 [am_r 110] h1 (fun v3 h2 =>
      ak_MV e 1 d ρ 209 [am_r 110, am_i 44] h2 (fun h4 =>
        (y0 = 0 →
          ak_W0 e 1 d 233 ρ 221 [some (am_r 110), some (am_i x1), some (am_i y0), some (am_i v3), none, none, none, none] [am_i 24, am_r 110] h4 (ak_qi Q X))
        ∧ (y0 ≠ 0 →
          ak_W0 e 1 d 233 ρ 221 [some (am_r 110), some (am_i x1), some (am_i y0), some (am_i v3), none, none, none, none] [am_i 23, am_r 110] h4 (ak_qi Q X))) (fun _ _ => False)) (fun _ _ => False)) (fun _ _ => False)) :
  ak_W0 e 1 d 233 ρ 193 [some (am_r 110), some (am_i x1), none, none, none, none, none, none] [am_i y0] h (ak_qi Q X) := ak_k_ok am_cc233 400 [(193, [true, true, false, false, false, false, false, false]), (221, [true, true, true, true, false, false, false, false]), (257, [true, false, false, false, true, false, false, false]), (410, [true, true, false, false, false, false, false, false]), (578, [true, true, false, false, false, false, false, false]), (651, [true, false, true, false, false, false, false, false]), (711, [true, true, false, false, false, false, false, false]), (845, [true, true, false, false, false, false, false, false])] w
set_option maxRecDepth 100000 in
theorem am_k233_221 {e : ak_X3} {d : Nat} {ρ : List Nat} {h : ak_S} {Q : Int → ak_S → Prop} {X : Nat → ak_S → Prop} {x1 x2 x3 y0 : Int} (w :
  ak_MI e 1 d ρ 212 [am_r 110, am_i y0, am_i x1] h (fun v2 h1 =>
    (0 ≤ v2 ∧ v2 < (18000 : Int)) ∧ (x2 = 0 →
      ak_MI e 1 d ρ 220 [am_r 110] ((am_up h1.1 115 v2.toNat x3), h1.2) (fun v4 h3 =>
        ak_W0 e 1 d 233 ρ 257 [some (am_r 110), none, none, none, some (am_i v2), none, none, none] [am_i v4, am_i v2, am_r 117] h3 (ak_qi Q X)) (fun _ _ => False))
    ∧ (x2 ≠ 0 →
      ak_MI e 1 d ρ 219 [am_r 110, am_i 2] ((am_up h1.1 115 v2.toNat x3), h1.2) (fun v6 h5 =>
        ak_W0 e 1 d 233 ρ 257 [some (am_r 110), none, none, none, some (am_i v2), none, none, none] [am_i v6, am_i v2, am_r 117] h5 (ak_qi Q X)) (fun _ _ => False))) (fun _ _ => False)) :
  ak_W0 e 1 d 233 ρ 221 [some (am_r 110), some (am_i x1), some (am_i x2), some (am_i x3), none, none, none, none] [am_i y0, am_r 110] h (ak_qi Q X) := ak_k_ok am_cc233 400 [(193, [true, true, false, false, false, false, false, false]), (221, [true, true, true, true, false, false, false, false]), (257, [true, false, false, false, true, false, false, false]), (410, [true, true, false, false, false, false, false, false]), (578, [true, true, false, false, false, false, false, false]), (651, [true, false, true, false, false, false, false, false]), (711, [true, true, false, false, false, false, false, false]), (845, [true, true, false, false, false, false, false, false])] w
set_option maxRecDepth 100000 in
theorem am_k233_257 {e : ak_X3} {d : Nat} {ρ : List Nat} {h : ak_S} {Q : Int → ak_S → Prop} {X : Nat → ak_S → Prop} {x4 y0 y1 : Int} (w :
  (0 ≤ y1 ∧ y1 < (18000 : Int)) ∧ ak_MV e 1 d ρ 209 [am_r 110, am_i 61] ((am_up h.1 117 y1.toNat y0), h.2) (fun h1 =>
    ak_MI e 1 d ρ 222 [am_r 110] h1 (fun v3 h2 =>
      (0 ≤ x4 ∧ x4 < (18000 : Int)) ∧ ak_MV e 1 d ρ 209 [am_r 110, am_i 59] ((am_up h2.1 116 x4.toNat v3), h2.2) (fun h4 =>
        Q x4 h4) (fun _ _ => False)) (fun _ _ => False)) (fun _ _ => False)) :
  ak_W0 e 1 d 233 ρ 257 [some (am_r 110), none, none, none, some (am_i x4), none, none, none] [am_i y0, am_i y1, am_r 117] h (ak_qi Q X) := ak_k_ok am_cc233 400 [(193, [true, true, false, false, false, false, false, false]), (221, [true, true, true, true, false, false, false, false]), (257, [true, false, false, false, true, false, false, false]), (410, [true, true, false, false, false, false, false, false]), (578, [true, true, false, false, false, false, false, false]), (651, [true, false, true, false, false, false, false, false]), (711, [true, true, false, false, false, false, false, false]), (845, [true, true, false, false, false, false, false, false])] w
set_option maxRecDepth 100000 in
theorem am_k233_410 {e : ak_X3} {d : Nat} {ρ : List Nat} {h : ak_S} {Q : Int → ak_S → Prop} {X : Nat → ak_S → Prop} {x1 y0 : Int} (w :
  ak_MI e 1 d ρ 212 [am_r 110, am_i y0, am_i x1] h (fun v2 h1 =>
    ak_MV e 1 d ρ 205 [am_r 110] h1 (fun h3 =>
      ak_MI e 1 d ρ 222 [am_r 110] h3 (fun v5 h4 =>
        (0 ≤ v2 ∧ v2 < (18000 : Int)) ∧ ak_MV e 1 d ρ 209 [am_r 110, am_i 44] ((am_up h4.1 115 v2.toNat v5), h4.2) (fun h6 =>
          ak_MI e 1 d ρ 222 [am_r 110] h6 (fun v8 h7 =>
            (0 ≤ v2 ∧ v2 < (18000 : Int)) ∧ ak_MV e 1 d ρ 209 [am_r 110, am_i 59] ((am_up h7.1 116 v2.toNat v8), h7.2) (fun h9 =>
              Q v2 h9) (fun _ _ => False)) (fun _ _ => False)) (fun _ _ => False)) (fun _ _ => False)) (fun _ _ => False)) (fun _ _ => False)) :
  ak_W0 e 1 d 233 ρ 410 [some (am_r 110), some (am_i x1), none, none, none, none, none, none] [am_i y0, am_r 110] h (ak_qi Q X) := ak_k_ok am_cc233 400 [(193, [true, true, false, false, false, false, false, false]), (221, [true, true, true, true, false, false, false, false]), (257, [true, false, false, false, true, false, false, false]), (410, [true, true, false, false, false, false, false, false]), (578, [true, true, false, false, false, false, false, false]), (651, [true, false, true, false, false, false, false, false]), (711, [true, true, false, false, false, false, false, false]), (845, [true, true, false, false, false, false, false, false])] w
set_option maxRecDepth 100000 in
theorem am_k233_578 {e : ak_X3} {d : Nat} {ρ : List Nat} {h : ak_S} {Q : Int → ak_S → Prop} {X : Nat → ak_S → Prop} {x1 y0 : Int} (w :
  ak_MI e 1 d ρ 212 [am_r 110, am_i y0, am_i x1] h (fun v2 h1 =>
    ak_MV e 1 d ρ 205 [am_r 110] h1 (fun h3 =>
      ak_MI e 1 d ρ 222 [am_r 110] h3 (fun v5 h4 =>
        (0 ≤ v2 ∧ v2 < (18000 : Int)) ∧ ak_MV e 1 d ρ 209 [am_r 110, am_i 59] ((am_up h4.1 115 v2.toNat v5), h4.2) (fun h6 =>
          Q v2 h6) (fun _ _ => False)) (fun _ _ => False)) (fun _ _ => False)) (fun _ _ => False)) :
  ak_W0 e 1 d 233 ρ 578 [some (am_r 110), some (am_i x1), none, none, none, none, none, none] [am_i y0, am_r 110] h (ak_qi Q X) := ak_k_ok am_cc233 400 [(193, [true, true, false, false, false, false, false, false]), (221, [true, true, true, true, false, false, false, false]), (257, [true, false, false, false, true, false, false, false]), (410, [true, true, false, false, false, false, false, false]), (578, [true, true, false, false, false, false, false, false]), (651, [true, false, true, false, false, false, false, false]), (711, [true, true, false, false, false, false, false, false]), (845, [true, true, false, false, false, false, false, false])] w
set_option maxRecDepth 100000 in
theorem am_k233_651 {e : ak_X3} {d : Nat} {ρ : List Nat} {h : ak_S} {Q : Int → ak_S → Prop} {X : Nat → ak_S → Prop} {x2 : Int} (w :
  ak_MI e 1 d ρ 206 [am_r 110] h (fun v2 h1 =>
    (v2 = 0 →
      (0 ≤ x2 ∧ x2 < (18000 : Int)) ∧ ak_MV e 1 d ρ 205 [am_r 110] ((am_up h1.1 116 x2.toNat (h1.1 110 36)), h1.2) (fun h3 =>
        ak_MI e 1 d ρ 208 [am_r 110, am_i 44] h3 (fun v5 h4 =>
          (v5 = 0 →
            ak_MV e 1 d ρ 209 [am_r 110, am_i 59] h4 (fun h6 =>
              Q x2 h6) (fun _ _ => False))
          ∧ (v5 ≠ 0 →
            ak_MV e 1 d ρ 205 [am_r 110] h4 (fun h7 =>
              ak_MI e 1 d ρ 222 [am_r 110] h7 (fun v9 h8 =>
                (0 ≤ x2 ∧ x2 < (18000 : Int)) ∧ ak_MV e 1 d ρ 209 [am_r 110, am_i 59] ((am_up h8.1 115 x2.toNat v9), h8.2) (fun h10 =>
                  Q x2 h10) (fun _ _ => False)) (fun _ _ => False)) (fun _ _ => False))) (fun _ _ => False)) (fun _ _ => False))
    ∧ (v2 ≠ 0 →
      Q ((-1)) h1)) (fun _ _ => False)) :
  ak_W0 e 1 d 233 ρ 651 [some (am_r 110), none, some (am_i x2), none, none, none, none, none] [] h (ak_qi Q X) := ak_k_ok am_cc233 400 [(193, [true, true, false, false, false, false, false, false]), (221, [true, true, true, true, false, false, false, false]), (257, [true, false, false, false, true, false, false, false]), (410, [true, true, false, false, false, false, false, false]), (578, [true, true, false, false, false, false, false, false]), (651, [true, false, true, false, false, false, false, false]), (711, [true, true, false, false, false, false, false, false]), (845, [true, true, false, false, false, false, false, false])] w
set_option maxRecDepth 100000 in
theorem am_k233_711 {e : ak_X3} {d : Nat} {ρ : List Nat} {h : ak_S} {Q : Int → ak_S → Prop} {X : Nat → ak_S → Prop} {x1 : Int} (w :
  (h.1 110 33 ≠ 2 →
    ak_W0 e 1 d 233 ρ 845 [some (am_r 110), some (am_i x1), none, none, none, none, none, none] [] h (ak_qi Q X))
  ∧ (h.1 110 33 = 2 →
    ak_MV e 1 d ρ 217 [am_r 110] h (fun h1 =>
      ak_MI e 1 d ρ 206 [am_r 110] h1 (fun v3 h2 =>
        (v3 = 0 →
          ak_MV e 1 d ρ 205 [am_r 110] h2 (fun h4 =>
            (h4.1 110 33 ≠ 61 →
              ak_W0 e 1 d 233 ρ 845 [some (am_r 110), some (am_i x1), none, none, none, none, none, none] [] ((am_up (am_up (am_up (am_up h4.1 110 32 (h2.1 110 32)) 110 33 2) 110 34 (h2.1 110 34)) 110 35 (h2.1 110 35)), h4.2) (ak_qi Q X))
            ∧ (h4.1 110 33 = 61 →
              ak_MV e 1 d ρ 205 [am_r 110] h4 (fun h5 =>
                ak_MI e 1 d ρ 212 [am_r 110, am_i 21, am_i x1] h5 (fun v7 h6 =>
                  ak_MI e 1 d ρ 222 [am_r 110] h6 (fun v9 h8 =>
                    (0 ≤ v7 ∧ v7 < (18000 : Int)) ∧ (0 ≤ v7 ∧ v7 < (18000 : Int)) ∧ (0 ≤ v7 ∧ v7 < (18000 : Int)) ∧ ak_MV e 1 d ρ 209 [am_r 110, am_i 59] ((am_up (am_up (am_up h8.1 115 v7.toNat v9) 116 v7.toNat (h2.1 110 43)) 117 v7.toNat (h2.1 110 44)), h8.2) (fun h10 =>
                      Q v7 h10) (fun _ _ => False)) (fun _ _ => False)) (fun _ _ => False)) (fun _ _ => False))) (fun _ _ => False))
        ∧ (v3 ≠ 0 →
          Q ((-1)) h2)) (fun _ _ => False)) (fun _ _ => False))) :
  ak_W0 e 1 d 233 ρ 711 [some (am_r 110), some (am_i x1), none, none, none, none, none, none] [] h (ak_qi Q X) := ak_k_ok am_cc233 400 [(193, [true, true, false, false, false, false, false, false]), (221, [true, true, true, true, false, false, false, false]), (257, [true, false, false, false, true, false, false, false]), (410, [true, true, false, false, false, false, false, false]), (578, [true, true, false, false, false, false, false, false]), (651, [true, false, true, false, false, false, false, false]), (711, [true, true, false, false, false, false, false, false]), (845, [true, true, false, false, false, false, false, false])] w
set_option maxRecDepth 100000 in
theorem am_k233_845 {e : ak_X3} {d : Nat} {ρ : List Nat} {h : ak_S} {Q : Int → ak_S → Prop} {X : Nat → ak_S → Prop} {x1 : Int} (w :
  ak_MI e 1 d ρ 212 [am_r 110, am_i 22, am_i x1] h (fun v2 h1 =>
    ak_MI e 1 d ρ 222 [am_r 110] h1 (fun v4 h3 =>
      (0 ≤ v2 ∧ v2 < (18000 : Int)) ∧ ak_MV e 1 d ρ 209 [am_r 110, am_i 59] ((am_up h3.1 115 v2.toNat v4), h3.2) (fun h5 =>
        Q v2 h5) (fun _ _ => False)) (fun _ _ => False)) (fun _ _ => False)) :
  ak_W0 e 1 d 233 ρ 845 [some (am_r 110), some (am_i x1), none, none, none, none, none, none] [] h (ak_qi Q X) := ak_k_ok am_cc233 400 [(193, [true, true, false, false, false, false, false, false]), (221, [true, true, true, true, false, false, false, false]), (257, [true, false, false, false, true, false, false, false]), (410, [true, true, false, false, false, false, false, false]), (578, [true, true, false, false, false, false, false, false]), (651, [true, false, true, false, false, false, false, false]), (711, [true, true, false, false, false, false, false, false]), (845, [true, true, false, false, false, false, false, false])] w
theorem am_cc234 : am_co am_P 234 = am_lk am_rw234 ∧ am_hl am_P 234 = [] ∧ am_rtag (am_re am_P 234) = 1 := ⟨rfl, rfl, rfl⟩
set_option maxRecDepth 100000 in
theorem am_k234_0 {e : ak_X3} {d : Nat} {ρ : List Nat} {h : ak_S} {Q : Int → ak_S → Prop} {X : Nat → ak_S → Prop} {x1 : Int} (w :
  ak_MV e 1 d ρ 205 [am_r 110] h (fun h1 =>
    ak_MI e 1 d ρ 212 [am_r 110, am_i 35, am_i x1] h1 (fun v3 h2 =>
      ak_MI e 1 d ρ 232 [am_r 110] h2 (fun v5 h4 =>
        (0 ≤ v3 ∧ v3 < (18000 : Int)) ∧ ak_W0 e 1 d 234 ρ 27 [some (am_r 110), none, some (am_i v3), some (am_i ((-1))), some (am_i 0), none] [] ((am_up h4.1 115 v3.toNat v5), h4.2) (ak_qi Q X)) (fun _ _ => False)) (fun _ _ => False)) (fun _ _ => False)) :
  ak_W0 e 1 d 234 ρ 0 [some (am_r 110), some (am_i x1), none, none, none, none] [] h (ak_qi Q X) := ak_k_ok am_cc234 400 [(27, [true, false, true, true, true, false]), (73, [true, false, true, true, false, false])] w
set_option maxRecDepth 100000 in
theorem am_k234_27 {e : ak_X3} {d : Nat} {ρ : List Nat} {h : ak_S} {Q : Int → ak_S → Prop} {X : Nat → ak_S → Prop} {x2 x3 x4 : Int} (w :
  ak_MI e 1 d ρ 208 [am_r 110, am_i 210] h (fun v2 h1 =>
    (v2 = 0 →
      ak_MI e 1 d ρ 208 [am_r 110, am_i 211] h1 (fun v4 h3 =>
        (v4 = 0 →
          (x4 ≠ 0 →
            Q x2 h3)
          ∧ (x4 = 0 →
            ak_MV e 1 d ρ 207 [am_r 110, am_i (h3.1 110 34)] h3 (fun h5 =>
              Q x2 h5) (fun _ _ => False)))
        ∧ (v4 ≠ 0 →
          ak_MV e 1 d ρ 205 [am_r 110] h3 (fun h6 =>
            ak_MI e 1 d ρ 232 [am_r 110] h6 (fun v8 h7 =>
              (0 ≤ x2 ∧ x2 < (18000 : Int)) ∧ (0 ≤ x2 ∧ x2 < (18000 : Int)) ∧ ((1 : Int) ≠ 0 →
                Q x2 ((am_up (am_up h7.1 117 x2.toNat v8) 118 x2.toNat 1), h7.2))
              ∧ ((1 : Int) = 0 →
                ak_MV e 1 d ρ 207 [am_r 110, am_i (h7.1 110 34)] ((am_up (am_up h7.1 117 x2.toNat v8) 118 x2.toNat 1), h7.2) (fun h9 =>
                  Q x2 h9) (fun _ _ => False))) (fun _ _ => False)) (fun _ _ => False))) (fun _ _ => False))
    ∧ (v2 ≠ 0 →
      ak_MV e 1 d ρ 205 [am_r 110] h1 (fun h10 =>
        ak_MI e 1 d ρ 206 [am_r 110] h10 (fun v12 h11 =>
          (v12 ≠ 0 →
            ak_MV e 1 d ρ 207 [am_r 110, am_i (h11.1 110 34)] h11 (fun h13 =>
              ak_W0 e 1 d 234 ρ 73 [some (am_r 110), none, some (am_i x2), some (am_i x3), none, none] [] h13 (ak_qi Q X)) (fun _ _ => False))
          ∧ (v12 = 0 →
            (h11.1 110 33 ≠ 3 →
              ak_MV e 1 d ρ 207 [am_r 110, am_i (h11.1 110 34)] h11 (fun h14 =>
                ak_W0 e 1 d 234 ρ 73 [some (am_r 110), none, some (am_i x2), some (am_i x3), none, none] [] h14 (ak_qi Q X)) (fun _ _ => False))
            ∧ (h11.1 110 33 = 3 →
              (h11.1 110 36 ≤ 99 →
                ak_W0 e 1 d 234 ρ 73 [some (am_r 110), none, some (am_i x2), some (am_i x3), none, none] [] h11 (ak_qi Q X))
              ∧ (99 < h11.1 110 36 →
                ak_MV e 1 d ρ 207 [am_r 110, am_i (h11.1 110 34)] h11 (fun h15 =>
                  ak_W0 e 1 d 234 ρ 73 [some (am_r 110), none, some (am_i x2), some (am_i x3), none, none] [] h15 (ak_qi Q X)) (fun _ _ => False))))) (fun _ _ => False)) (fun _ _ => False))) (fun _ _ => False)) :
  ak_W0 e 1 d 234 ρ 27 [some (am_r 110), none, some (am_i x2), some (am_i x3), some (am_i x4), none] [] h (ak_qi Q X) := ak_k_ok am_cc234 400 [(27, [true, false, true, true, true, false]), (73, [true, false, true, true, false, false])] w
set_option maxRecDepth 100000 in
theorem am_k234_73 {e : ak_X3} {d : Nat} {ρ : List Nat} {h : ak_S} {Q : Int → ak_S → Prop} {X : Nat → ak_S → Prop} {x2 x3 : Int} (w :
  ak_MI e 1 d ρ 206 [am_r 110] h (fun v2 h1 =>
    (v2 = 0 →
      ak_MI e 1 d ρ 212 [am_r 110, am_i 36, am_i 0] h1 (fun v4 h3 =>
        (0 ≤ v4 ∧ v4 < (18000 : Int)) ∧ ak_MV e 1 d ρ 205 [am_r 110] ((am_up h3.1 116 v4.toNat (h3.1 110 36)), h3.2) (fun h5 =>
          ak_MV e 1 d ρ 215 [am_r 110] h5 (fun h6 =>
            ak_MI e 1 d ρ 206 [am_r 110] h6 (fun v8 h7 =>
              (v8 = 0 →
                ak_MI e 1 d ρ 216 [am_r 110, am_i (h7.1 110 34), am_i (h7.1 110 35)] h7 (fun v10 h9 =>
                  (0 ≤ v4 ∧ v4 < (18000 : Int)) ∧ ak_MV e 1 d ρ 205 [am_r 110] ((am_up h9.1 117 v4.toNat v10), h9.2) (fun h11 =>
                    ak_MI e 1 d ρ 232 [am_r 110] h11 (fun v13 h12 =>
                      (0 ≤ v4 ∧ v4 < (18000 : Int)) ∧ (0 ≤ x3 →
                        (0 ≤ x3 ∧ x3 < (18000 : Int)) ∧ ak_W0 e 1 d 234 ρ 27 [some (am_r 110), none, some (am_i x2), some (am_i v4), some (am_i 1), none] [] ((am_up (am_up h12.1 115 v4.toNat v13) 119 x3.toNat v4), h12.2) (ak_qi Q X))
                      ∧ (x3 < 0 →
                        (0 ≤ x2 ∧ x2 < (18000 : Int)) ∧ ak_W0 e 1 d 234 ρ 27 [some (am_r 110), none, some (am_i x2), some (am_i v4), some (am_i 1), none] [] ((am_up (am_up h12.1 115 v4.toNat v13) 116 x2.toNat v4), h12.2) (ak_qi Q X))) (fun _ _ => False)) (fun _ _ => False)) (fun _ _ => False))
              ∧ (v8 ≠ 0 →
                Q ((-1)) h7)) (fun _ _ => False)) (fun _ _ => False)) (fun _ _ => False)) (fun _ _ => False))
    ∧ (v2 ≠ 0 →
      Q ((-1)) h1)) (fun _ _ => False)) :
  ak_W0 e 1 d 234 ρ 73 [some (am_r 110), none, some (am_i x2), some (am_i x3), none, none] [] h (ak_qi Q X) := ak_k_ok am_cc234 400 [(27, [true, false, true, true, true, false]), (73, [true, false, true, true, false, false])] w
theorem am_cc235 : am_co am_P 235 = am_lk am_rw235 ∧ am_hl am_P 235 = [] ∧ am_rtag (am_re am_P 235) = 1 := ⟨rfl, rfl, rfl⟩
set_option maxRecDepth 100000 in
theorem am_k235_0 {e : ak_X3} {d : Nat} {ρ : List Nat} {h : ak_S} {Q : Int → ak_S → Prop} {X : Nat → ak_S → Prop} (w :
  ak_MI e 1 d ρ 206 [am_r 110] h (fun v2 h1 =>
    (v2 = 0 →
      ak_W0 e 1 d 235 ρ 11 [some (am_r 110), some (am_i 0)] [] h1 (ak_qi Q X))
    ∧ (v2 ≠ 0 →
      Q 0 h1)) (fun _ _ => False)) :
  ak_W0 e 1 d 235 ρ 0 [some (am_r 110), none] [] h (ak_qi Q X) := ak_k_ok am_cc235 400 [(11, [true, true])] w
set_option maxRecDepth 100000 in
theorem am_k235_11 {e : ak_X3} {d : Nat} {ρ : List Nat} {h : ak_S} {Q : Int → ak_S → Prop} {X : Nat → ak_S → Prop} {x1 : Int} (w :
  (0 ≤ h.1 110 31 ∧ h.1 110 31 < (2 : Int)) ∧ (h.1 122 (h.1 110 31).toNat ≤ x1 →
    ak_MV e 1 d ρ 207 [am_r 110, am_i (h.1 110 34)] h (fun h1 =>
      Q 0 h1) (fun _ _ => False))
  ∧ (x1 < h.1 122 (h.1 110 31).toNat →
    (h.1 110 33 ≠ 2 →
      ak_MV e 1 d ρ 207 [am_r 110, am_i (h.1 110 34)] h (fun h2 =>
        Q 0 h2) (fun _ _ => False))
    ∧ (h.1 110 33 = 2 →
      (0 ≤ am_w32 ((am_w32 (40 * (h.1 110 31))) + x1) ∧ am_w32 ((am_w32 (40 * (h.1 110 31))) + x1) < (80 : Int)) ∧ (0 ≤ am_w32 ((am_w32 (40 * (h.1 110 31))) + x1) ∧ am_w32 ((am_w32 (40 * (h.1 110 31))) + x1) < (80 : Int)) ∧ ak_MI e 1 d ρ 213 [am_r 110, am_i (h.1 123 (am_w32 ((am_w32 (40 * (h.1 110 31))) + x1)).toNat), am_i (h.1 124 (am_w32 ((am_w32 (40 * (h.1 110 31))) + x1)).toNat), am_i (h.1 110 34), am_i (h.1 110 35)] h (fun v4 h3 =>
        (v4 ≠ 0 →
          ak_MV e 1 d ρ 205 [am_r 110] h3 (fun h5 =>
            Q x1 h5) (fun _ _ => False))
        ∧ (v4 = 0 →
          ak_W0 e 1 d 235 ρ 11 [some (am_r 110), some (am_i (am_w32 (x1 + 1)))] [] h3 (ak_qi Q X))) (fun _ _ => False)))) :
  ak_W0 e 1 d 235 ρ 11 [some (am_r 110), some (am_i x1)] [] h (ak_qi Q X) := ak_k_ok am_cc235 400 [(11, [true, true])] w
theorem am_cc236 : am_co am_P 236 = am_lk am_rw236 ∧ am_hl am_P 236 = [] ∧ am_rtag (am_re am_P 236) = 0 := ⟨rfl, rfl, rfl⟩
set_option maxRecDepth 100000 in
theorem am_k236_0 {e : ak_X3} {d : Nat} {ρ : List Nat} {h : ak_S} {Q : ak_S → Prop} {X : Nat → ak_S → Prop} (w :
  ak_MI e 1 d ρ 206 [am_r 110] h (fun v2 h1 =>
    (v2 ≠ 0 →
      ak_MI e 1 d ρ 206 [am_r 110] h1 (fun v4 h3 =>
        (v4 = 0 →
          ak_MV e 1 d ρ 205 [am_r 110] h3 (fun h5 =>
            ak_W0 e 1 d 236 ρ 55 [some (am_r 110), some (am_i ((-1))), some (am_i 0)] [] h5 (ak_qv Q X)) (fun _ _ => False))
        ∧ (v4 ≠ 0 →
          Q h3)) (fun _ _ => False))
    ∧ (v2 = 0 →
      (h1.1 110 33 ≠ 200 →
        ak_MV e 1 d ρ 207 [am_r 110, am_i (h1.1 110 34)] h1 (fun h6 =>
          ak_MI e 1 d ρ 206 [am_r 110] h6 (fun v8 h7 =>
            (v8 = 0 →
              ak_MV e 1 d ρ 205 [am_r 110] h7 (fun h9 =>
                ak_W0 e 1 d 236 ρ 55 [some (am_r 110), some (am_i ((-1))), some (am_i 0)] [] h9 (ak_qv Q X)) (fun _ _ => False))
            ∧ (v8 ≠ 0 →
              Q h7)) (fun _ _ => False)) (fun _ _ => False))
      ∧ (h1.1 110 33 = 200 →
        (0 ≤ h1.1 110 31 ∧ h1.1 110 31 < (2 : Int)) ∧ (h1.1 122 (h1.1 110 31).toNat ≠ 40 →
          ak_MI e 1 d ρ 206 [am_r 110] h1 (fun v11 h10 =>
            (v11 = 0 →
              ak_MV e 1 d ρ 205 [am_r 110] h10 (fun h12 =>
                ak_W0 e 1 d 236 ρ 55 [some (am_r 110), some (am_i ((-1))), some (am_i 0)] [] h12 (ak_qv Q X)) (fun _ _ => False))
            ∧ (v11 ≠ 0 →
              Q h10)) (fun _ _ => False))
        ∧ (h1.1 122 (h1.1 110 31).toNat = 40 →
          ak_MV e 1 d ρ 207 [am_r 110, am_i (h1.1 110 34)] h1 (fun h13 =>
            ak_MI e 1 d ρ 206 [am_r 110] h13 (fun v15 h14 =>
              (v15 = 0 →
                ak_MV e 1 d ρ 205 [am_r 110] h14 (fun h16 =>
                  ak_W0 e 1 d 236 ρ 55 [some (am_r 110), some (am_i ((-1))), some (am_i 0)] [] h16 (ak_qv Q X)) (fun _ _ => False))
              ∧ (v15 ≠ 0 →
                Q h14)) (fun _ _ => False)) (fun _ _ => False))))) (fun _ _ => False)) :
  ak_W0 e 1 d 236 ρ 0 [some (am_r 110), none, none] [] h (ak_qv Q X) := ak_k_ok am_cc236 400 [(55, [true, true, true]), (151, [true, false, false])] w
set_option maxRecDepth 100000 in
theorem am_k236_55 {e : ak_X3} {d : Nat} {ρ : List Nat} {h : ak_S} {Q : ak_S → Prop} {X : Nat → ak_S → Prop} {x1 x2 : Int} (w :
  (0 ≤ h.1 110 31 ∧ h.1 110 31 < (2 : Int)) ∧ (h.1 122 (h.1 110 31).toNat ≤ x2 →
    (h.1 110 33 ≠ 2 →
      ak_MV e 1 d ρ 207 [am_r 110, am_i (h.1 110 34)] h (fun h1 =>
        ak_W0 e 1 d 236 ρ 151 [some (am_r 110), none, none] [] h1 (ak_qv Q X)) (fun _ _ => False))
    ∧ (h.1 110 33 = 2 →
      (x1 < 0 →
        ak_W0 e 1 d 236 ρ 151 [some (am_r 110), none, none] [] h (ak_qv Q X))
      ∧ (0 ≤ x1 →
        ak_MV e 1 d ρ 207 [am_r 110, am_i (h.1 110 34)] h (fun h2 =>
          ak_W0 e 1 d 236 ρ 151 [some (am_r 110), none, none] [] h2 (ak_qv Q X)) (fun _ _ => False))))
  ∧ (x2 < h.1 122 (h.1 110 31).toNat →
    (h.1 110 33 ≠ 2 →
      (h.1 110 33 ≠ 2 →
        ak_MV e 1 d ρ 207 [am_r 110, am_i (h.1 110 34)] h (fun h3 =>
          ak_W0 e 1 d 236 ρ 151 [some (am_r 110), none, none] [] h3 (ak_qv Q X)) (fun _ _ => False))
      ∧ (h.1 110 33 = 2 →
        (x1 < 0 →
          ak_W0 e 1 d 236 ρ 151 [some (am_r 110), none, none] [] h (ak_qv Q X))
        ∧ (0 ≤ x1 →
          ak_MV e 1 d ρ 207 [am_r 110, am_i (h.1 110 34)] h (fun h4 =>
            ak_W0 e 1 d 236 ρ 151 [some (am_r 110), none, none] [] h4 (ak_qv Q X)) (fun _ _ => False))))
    ∧ (h.1 110 33 = 2 →
      (0 ≤ am_w32 ((am_w32 (40 * (h.1 110 31))) + x2) ∧ am_w32 ((am_w32 (40 * (h.1 110 31))) + x2) < (80 : Int)) ∧ (0 ≤ am_w32 ((am_w32 (40 * (h.1 110 31))) + x2) ∧ am_w32 ((am_w32 (40 * (h.1 110 31))) + x2) < (80 : Int)) ∧ ak_MI e 1 d ρ 213 [am_r 110, am_i (h.1 123 (am_w32 ((am_w32 (40 * (h.1 110 31))) + x2)).toNat), am_i (h.1 124 (am_w32 ((am_w32 (40 * (h.1 110 31))) + x2)).toNat), am_i (h.1 110 34), am_i (h.1 110 35)] h (fun v6 h5 =>
        (v6 = 0 →
          ak_W0 e 1 d 236 ρ 55 [some (am_r 110), some (am_i x1), some (am_i (am_w32 (x2 + 1)))] [] h5 (ak_qv Q X))
        ∧ (v6 ≠ 0 →
          ak_W0 e 1 d 236 ρ 55 [some (am_r 110), some (am_i x2), some (am_i (am_w32 (x2 + 1)))] [] h5 (ak_qv Q X))) (fun _ _ => False)))) :
  ak_W0 e 1 d 236 ρ 55 [some (am_r 110), some (am_i x1), some (am_i x2)] [] h (ak_qv Q X) := ak_k_ok am_cc236 400 [(55, [true, true, true]), (151, [true, false, false])] w
set_option maxRecDepth 100000 in
theorem am_k236_151 {e : ak_X3} {d : Nat} {ρ : List Nat} {h : ak_S} {Q : ak_S → Prop} {X : Nat → ak_S → Prop} (w :
  ak_MI e 1 d ρ 206 [am_r 110] h (fun v2 h1 =>
    (v2 = 0 →
      (0 ≤ h1.1 110 31 ∧ h1.1 110 31 < (2 : Int)) ∧ (0 ≤ am_w32 ((am_w32 (40 * (h1.1 110 31))) + (h1.1 122 (h1.1 110 31).toNat)) ∧ am_w32 ((am_w32 (40 * (h1.1 110 31))) + (h1.1 122 (h1.1 110 31).toNat)) < (80 : Int)) ∧ (0 ≤ am_w32 ((am_w32 (40 * (h1.1 110 31))) + (h1.1 122 (h1.1 110 31).toNat)) ∧ am_w32 ((am_w32 (40 * (h1.1 110 31))) + (h1.1 122 (h1.1 110 31).toNat)) < (80 : Int)) ∧ (0 ≤ h1.1 110 31 ∧ h1.1 110 31 < (2 : Int)) ∧ (0 ≤ h1.1 110 31 ∧ h1.1 110 31 < (2 : Int)) ∧ ak_MV e 1 d ρ 205 [am_r 110] ((am_up (am_up (am_up h1.1 123 (am_w32 ((am_w32 (40 * (h1.1 110 31))) + (h1.1 122 (h1.1 110 31).toNat))).toNat (h1.1 110 34)) 124 (am_w32 ((am_w32 (40 * (h1.1 110 31))) + (h1.1 122 (h1.1 110 31).toNat))).toNat (h1.1 110 35)) 122 (h1.1 110 31).toNat (am_w32 ((h1.1 122 (h1.1 110 31).toNat) + 1))), h1.2) (fun h3 =>
        (0 ≤ (0 : Int) ∧ (0 : Int) < (21 : Int)) ∧ ak_MV e 1 d ρ 210 [am_r 110, am_i 40] ((am_up (am_up h3.1 110 42 1) 138 0 0), h3.2) (fun h4 =>
          ak_MI e 1 d ρ 208 [am_r 110, am_i 41] h4 (fun v6 h5 =>
            (v6 = 0 →
              ak_MI e 1 d ρ 230 [am_r 110] h5 (fun v8 h7 =>
                (0 ≤ am_w32 ((am_w32 (40 * (h1.1 110 31))) + (h1.1 122 (h1.1 110 31).toNat)) ∧ am_w32 ((am_w32 (40 * (h1.1 110 31))) + (h1.1 122 (h1.1 110 31).toNat)) < (80 : Int)) ∧ ak_MV e 1 d ρ 211 [am_r 110, am_i 41] ((am_up h7.1 126 (am_w32 ((am_w32 (40 * (h1.1 110 31))) + (h1.1 122 (h1.1 110 31).toNat))).toNat v8), h7.2) (fun h9 =>
                  ak_MI e 1 d ρ 232 [am_r 110] h9 (fun v11 h10 =>
                    (0 ≤ am_w32 ((am_w32 (40 * (h1.1 110 31))) + (h1.1 122 (h1.1 110 31).toNat)) ∧ am_w32 ((am_w32 (40 * (h1.1 110 31))) + (h1.1 122 (h1.1 110 31).toNat)) < (80 : Int)) ∧ Q ((am_up h10.1 125 (am_w32 ((am_w32 (40 * (h1.1 110 31))) + (h1.1 122 (h1.1 110 31).toNat))).toNat v11), h10.2)) (fun _ _ => False)) (fun _ _ => False)) (fun _ _ => False))
            ∧ (v6 ≠ 0 →
              (0 ≤ am_w32 ((am_w32 (40 * (h1.1 110 31))) + (h1.1 122 (h1.1 110 31).toNat)) ∧ am_w32 ((am_w32 (40 * (h1.1 110 31))) + (h1.1 122 (h1.1 110 31).toNat)) < (80 : Int)) ∧ ak_MV e 1 d ρ 211 [am_r 110, am_i 41] ((am_up h5.1 126 (am_w32 ((am_w32 (40 * (h1.1 110 31))) + (h1.1 122 (h1.1 110 31).toNat))).toNat 0), h5.2) (fun h12 =>
                ak_MI e 1 d ρ 232 [am_r 110] h12 (fun v14 h13 =>
                  (0 ≤ am_w32 ((am_w32 (40 * (h1.1 110 31))) + (h1.1 122 (h1.1 110 31).toNat)) ∧ am_w32 ((am_w32 (40 * (h1.1 110 31))) + (h1.1 122 (h1.1 110 31).toNat)) < (80 : Int)) ∧ Q ((am_up h13.1 125 (am_w32 ((am_w32 (40 * (h1.1 110 31))) + (h1.1 122 (h1.1 110 31).toNat))).toNat v14), h13.2)) (fun _ _ => False)) (fun _ _ => False))) (fun _ _ => False)) (fun _ _ => False)) (fun _ _ => False))
    ∧ (v2 ≠ 0 →
      Q h1)) (fun _ _ => False)) :
  ak_W0 e 1 d 236 ρ 151 [some (am_r 110), none, none] [] h (ak_qv Q X) := ak_k_ok am_cc236 400 [(55, [true, true, true]), (151, [true, false, false])] w
theorem am_cc237 : am_co am_P 237 = am_lk am_rw237 ∧ am_hl am_P 237 = [] ∧ am_rtag (am_re am_P 237) = 1 := ⟨rfl, rfl, rfl⟩
set_option maxRecDepth 100000 in
theorem am_k237_0 {e : ak_X3} {d : Nat} {ρ : List Nat} {h : ak_S} {Q : Int → ak_S → Prop} {X : Nat → ak_S → Prop} (w :
  (0 ≤ am_w32 (1 - (h.1 110 3)) ∧ am_w32 (1 - (h.1 110 3)) < (2 : Int)) ∧ ak_W0 e 1 d 237 ρ 30 [some (am_r 110), some (am_i 0)] [] ((am_up (am_up (am_up h.1 110 0 0) 110 31 (am_w32 (1 - (h.1 110 3)))) 113 (am_w32 (1 - (h.1 110 3))).toNat (h.1 110 2)), h.2) (ak_qi Q X)) :
  ak_W0 e 1 d 237 ρ 0 [some (am_r 110), none] [] h (ak_qi Q X) := ak_k_ok am_cc237 400 [(30, [true, true]), (148, [true, false]), (169, [true, false])] w
set_option maxRecDepth 100000 in
theorem am_k237_30 {e : ak_X3} {d : Nat} {ρ : List Nat} {h : ak_S} {Q : Int → ak_S → Prop} {X : Nat → ak_S → Prop} {x1 : Int} (w :
  (h.1 110 2 ≤ x1 →
    (0 ≤ h.1 110 31 ∧ h.1 110 31 < (2 : Int)) ∧ (0 ≤ h.1 110 31 ∧ h.1 110 31 < (2 : Int)) ∧ (0 ≤ h.1 110 31 ∧ h.1 110 31 < (2 : Int)) ∧ (0 ≤ h.1 110 31 ∧ h.1 110 31 < (2 : Int)) ∧ (0 ≤ h.1 110 31 ∧ h.1 110 31 < (2 : Int)) ∧ ak_MV e 1 d ρ 205 [am_r 110] ((am_up (am_up (am_up (am_up (am_up (am_up (am_up (am_up (am_up (am_up h.1 110 2 0) 121 (h.1 110 31).toNat 0) 122 (h.1 110 31).toNat 0) 127 (h.1 110 31).toNat 0) 131 (h.1 110 31).toNat 1) 134 (h.1 110 31).toNat 0) 110 37 ((-1))) 110 38 0) 110 32 0) 110 42 0), h.2) (fun h1 =>
      ak_MV e 1 d ρ 236 [am_r 110] h1 (fun h2 =>
        ak_W0 e 1 d 237 ρ 148 [some (am_r 110), none] [] h2 (ak_qi Q X)) (fun _ _ => False)) (fun _ _ => False))
  ∧ (x1 < h.1 110 2 →
    (0 ≤ x1 ∧ x1 < (6000 : Int)) ∧ (0 ≤ am_w32 ((am_w32 (6000 * (h.1 110 31))) + x1) ∧ am_w32 ((am_w32 (6000 * (h.1 110 31))) + x1) < (12000 : Int)) ∧ ak_W0 e 1 d 237 ρ 30 [some (am_r 110), some (am_i (am_w32 (x1 + 1)))] [] ((am_up h.1 112 (am_w32 ((am_w32 (6000 * (h.1 110 31))) + x1)).toNat (h.1 111 x1.toNat)), h.2) (ak_qi Q X))) :
  ak_W0 e 1 d 237 ρ 30 [some (am_r 110), some (am_i x1)] [] h (ak_qi Q X) := ak_k_ok am_cc237 400 [(30, [true, true]), (148, [true, false]), (169, [true, false])] w
set_option maxRecDepth 100000 in
theorem am_k237_148 {e : ak_X3} {d : Nat} {ρ : List Nat} {h : ak_S} {Q : Int → ak_S → Prop} {X : Nat → ak_S → Prop} (w :
  ak_MI e 1 d ρ 206 [am_r 110] h (fun v2 h1 =>
    (v2 ≠ 0 →
      ak_W0 e 1 d 237 ρ 169 [some (am_r 110), none] [] h1 (ak_qi Q X))
    ∧ (v2 = 0 →
      (h1.1 110 33 = 0 →
        ak_W0 e 1 d 237 ρ 169 [some (am_r 110), none] [] h1 (ak_qi Q X))
      ∧ (h1.1 110 33 ≠ 0 →
        ak_MV e 1 d ρ 236 [am_r 110] h1 (fun h3 =>
          ak_W0 e 1 d 237 ρ 148 [some (am_r 110), none] [] h3 (ak_qi Q X)) (fun _ _ => False)))) (fun _ _ => False)) :
  ak_W0 e 1 d 237 ρ 148 [some (am_r 110), none] [] h (ak_qi Q X) := ak_k_ok am_cc237 400 [(30, [true, true]), (148, [true, false]), (169, [true, false])] w
set_option maxRecDepth 100000 in
theorem am_k237_169 {e : ak_X3} {d : Nat} {ρ : List Nat} {h : ak_S} {Q : Int → ak_S → Prop} {X : Nat → ak_S → Prop} (w :
  ak_MI e 1 d ρ 206 [am_r 110] h (fun v2 h1 =>
    (v2 = 0 →
      ((1 : Int) = 0 ∨ (1 : Int) = 1) ∧ ak_MV e 1 d ρ 263 [am_r 110] ((am_up (am_up h1.1 110 3 (h1.1 110 31)) 110 4 1), h1.2) (fun h3 =>
        (0 ≤ h3.1 110 3 ∧ h3.1 110 3 < (2 : Int)) ∧ Q (h3.1 122 (h3.1 110 3).toNat) h3) (fun _ _ => False))
    ∧ (v2 ≠ 0 →
      Q (am_w32 (((-1)) - (h1.1 110 37))) h1)) (fun _ _ => False)) :
  ak_W0 e 1 d 237 ρ 169 [some (am_r 110), none] [] h (ak_qi Q X) := ak_k_ok am_cc237 400 [(30, [true, true]), (148, [true, false]), (169, [true, false])] w
theorem am_cc238 : am_co am_P 238 = am_lk am_rw238 ∧ am_hl am_P 238 = [] ∧ am_rtag (am_re am_P 238) = 1 := ⟨rfl, rfl, rfl⟩
set_option maxRecDepth 100000 in
theorem am_k238_0 {e : ak_X3} {d : Nat} {ρ : List Nat} {h : ak_S} {Q : Int → ak_S → Prop} {X : Nat → ak_S → Prop} {x1 x2 x3 : Int} (w :
  ak_W0 e 1 d 238 ρ 3 [some (am_r 110), some (am_i x1), some (am_i x2), some (am_i x3), some (am_i 0)] [] h (ak_qi Q X)) :
  ak_W0 e 1 d 238 ρ 0 [some (am_r 110), some (am_i x1), some (am_i x2), some (am_i x3), none] [] h (ak_qi Q X) := ak_k_ok am_cc238 400 [(3, [true, true, true, true, true])] w
set_option maxRecDepth 100000 in
theorem am_k238_3 {e : ak_X3} {d : Nat} {ρ : List Nat} {h : ak_S} {Q : Int → ak_S → Prop} {X : Nat → ak_S → Prop} {x1 x2 x3 x4 : Int} (w :
  (0 ≤ x1 ∧ x1 < (200 : Int)) ∧ (h.1 141 x1.toNat ≤ x4 →
    Q ((-1)) h)
  ∧ (x4 < h.1 141 x1.toNat →
    (0 ≤ am_w32 ((am_w32 (12 * x1)) + x4) ∧ am_w32 ((am_w32 (12 * x1)) + x4) < (2400 : Int)) ∧ (h.1 144 (am_w32 ((am_w32 (12 * x1)) + x4)).toNat ≠ x2 →
      ak_W0 e 1 d 238 ρ 3 [some (am_r 110), some (am_i x1), some (am_i x2), some (am_i x3), some (am_i (am_w32 (x4 + 1)))] [] h (ak_qi Q X))
    ∧ (h.1 144 (am_w32 ((am_w32 (12 * x1)) + x4)).toNat = x2 →
      (0 ≤ am_w32 ((am_w32 (12 * x1)) + x4) ∧ am_w32 ((am_w32 (12 * x1)) + x4) < (2400 : Int)) ∧ (h.1 143 (am_w32 ((am_w32 (12 * x1)) + x4)).toNat ≠ 2 →
        ((0 : Int) ≠ x3 →
          ak_W0 e 1 d 238 ρ 3 [some (am_r 110), some (am_i x1), some (am_i x2), some (am_i x3), some (am_i (am_w32 (x4 + 1)))] [] h (ak_qi Q X))
        ∧ ((0 : Int) = x3 →
          Q (am_w32 ((am_w32 (12 * x1)) + x4)) h))
      ∧ (h.1 143 (am_w32 ((am_w32 (12 * x1)) + x4)).toNat = 2 →
        ((1 : Int) ≠ x3 →
          ak_W0 e 1 d 238 ρ 3 [some (am_r 110), some (am_i x1), some (am_i x2), some (am_i x3), some (am_i (am_w32 (x4 + 1)))] [] h (ak_qi Q X))
        ∧ ((1 : Int) = x3 →
          Q (am_w32 ((am_w32 (12 * x1)) + x4)) h))))) :
  ak_W0 e 1 d 238 ρ 3 [some (am_r 110), some (am_i x1), some (am_i x2), some (am_i x3), some (am_i x4)] [] h (ak_qi Q X) := ak_k_ok am_cc238 400 [(3, [true, true, true, true, true])] w
theorem am_cc239 : am_co am_P 239 = am_lk am_rw239 ∧ am_hl am_P 239 = [] ∧ am_rtag (am_re am_P 239) = 1 := ⟨rfl, rfl, rfl⟩
set_option maxRecDepth 100000 in
theorem am_k239_0 {e : ak_X3} {d : Nat} {ρ : List Nat} {h : ak_S} {Q : Int → ak_S → Prop} {X : Nat → ak_S → Prop} (w :
  ak_W0 e 1 d 239 ρ 2 [some (am_r 110), some (am_i 0), none, none] [] h (ak_qi Q X)) :
  ak_W0 e 1 d 239 ρ 0 [some (am_r 110), none, none, none] [] h (ak_qi Q X) := ak_k_ok am_cc239 400 [(2, [true, true, false, false]), (31, [true, true, true, true])] w
set_option maxRecDepth 100000 in
theorem am_k239_2 {e : ak_X3} {d : Nat} {ρ : List Nat} {h : ak_S} {Q : Int → ak_S → Prop} {X : Nat → ak_S → Prop} {x1 : Int} (w :
  (h.1 110 53 ≤ x1 →
    Q ((-1)) h)
  ∧ (x1 < h.1 110 53 →
    (0 ≤ x1 ∧ x1 < (400 : Int)) ∧ (h.1 147 x1.toNat ≠ h.1 110 62 →
      ak_W0 e 1 d 239 ρ 31 [some (am_r 110), some (am_i x1), some (am_i 0), some (am_i 0)] [] h (ak_qi Q X))
    ∧ (h.1 147 x1.toNat = h.1 110 62 →
      ak_W0 e 1 d 239 ρ 31 [some (am_r 110), some (am_i x1), some (am_i 1), some (am_i 0)] [] h (ak_qi Q X)))) :
  ak_W0 e 1 d 239 ρ 2 [some (am_r 110), some (am_i x1), none, none] [] h (ak_qi Q X) := ak_k_ok am_cc239 400 [(2, [true, true, false, false]), (31, [true, true, true, true])] w
set_option maxRecDepth 100000 in
theorem am_k239_31 {e : ak_X3} {d : Nat} {ρ : List Nat} {h : ak_S} {Q : Int → ak_S → Prop} {X : Nat → ak_S → Prop} {x1 x2 x3 : Int} (w :
  (h.1 110 62 ≤ x3 →
    (x2 = 0 →
      ak_W0 e 1 d 239 ρ 2 [some (am_r 110), some (am_i (am_w32 (x1 + 1))), none, none] [] h (ak_qi Q X))
    ∧ (x2 ≠ 0 →
      Q x1 h))
  ∧ (x3 < h.1 110 62 →
    (x2 = 0 →
      (x2 = 0 →
        ak_W0 e 1 d 239 ρ 2 [some (am_r 110), some (am_i (am_w32 (x1 + 1))), none, none] [] h (ak_qi Q X))
      ∧ (x2 ≠ 0 →
        Q x1 h))
    ∧ (x2 ≠ 0 →
      (0 ≤ am_w32 ((am_w32 (12 * x1)) + x3) ∧ am_w32 ((am_w32 (12 * x1)) + x3) < (4800 : Int)) ∧ (0 ≤ x3 ∧ x3 < (12 : Int)) ∧ (h.1 148 (am_w32 ((am_w32 (12 * x1)) + x3)).toNat ≠ h.1 152 x3.toNat →
        ak_W0 e 1 d 239 ρ 31 [some (am_r 110), some (am_i x1), some (am_i 0), some (am_i (am_w32 (x3 + 1)))] [] h (ak_qi Q X))
      ∧ (h.1 148 (am_w32 ((am_w32 (12 * x1)) + x3)).toNat = h.1 152 x3.toNat →
        (0 ≤ am_w32 ((am_w32 (12 * x1)) + x3) ∧ am_w32 ((am_w32 (12 * x1)) + x3) < (4800 : Int)) ∧ (0 ≤ x3 ∧ x3 < (12 : Int)) ∧ (h.1 149 (am_w32 ((am_w32 (12 * x1)) + x3)).toNat ≠ h.1 153 x3.toNat →
          ak_W0 e 1 d 239 ρ 31 [some (am_r 110), some (am_i x1), some (am_i 0), some (am_i (am_w32 (x3 + 1)))] [] h (ak_qi Q X))
        ∧ (h.1 149 (am_w32 ((am_w32 (12 * x1)) + x3)).toNat = h.1 153 x3.toNat →
          ak_W0 e 1 d 239 ρ 31 [some (am_r 110), some (am_i x1), some (am_i 1), some (am_i (am_w32 (x3 + 1)))] [] h (ak_qi Q X)))))) :
  ak_W0 e 1 d 239 ρ 31 [some (am_r 110), some (am_i x1), some (am_i x2), some (am_i x3)] [] h (ak_qi Q X) := ak_k_ok am_cc239 400 [(2, [true, true, false, false]), (31, [true, true, true, true])] w
theorem am_cc240 : am_co am_P 240 = am_lk am_rw240 ∧ am_hl am_P 240 = [] ∧ am_rtag (am_re am_P 240) = 1 := ⟨rfl, rfl, rfl⟩
set_option maxRecDepth 100000 in
theorem am_k240_0 {e : ak_X3} {d : Nat} {ρ : List Nat} {h : ak_S} {Q : Int → ak_S → Prop} {X : Nat → ak_S → Prop} (w :
  ak_MI e 1 d ρ 239 [am_r 110] h (fun v2 h1 =>
    (v2 < 0 →
      (0 ≤ h1.1 110 53 ∧ h1.1 110 53 < (400 : Int)) ∧ ak_W0 e 1 d 240 ρ 26 [some (am_r 110), none, some (am_i 0)] [] ((am_up h1.1 147 (h1.1 110 53).toNat (h1.1 110 62)), h1.2) (ak_qi Q X))
    ∧ (0 ≤ v2 →
      Q v2 h1)) (fun _ _ => False)) :
  ak_W0 e 1 d 240 ρ 0 [some (am_r 110), none, none] [] h (ak_qi Q X) := ak_k_ok am_cc240 400 [(26, [true, false, true])] w
set_option maxRecDepth 100000 in
theorem am_k240_26 {e : ak_X3} {d : Nat} {ρ : List Nat} {h : ak_S} {Q : Int → ak_S → Prop} {X : Nat → ak_S → Prop} {x2 : Int} (w :
  (h.1 110 62 ≤ x2 →
    Q (am_w32 ((am_w32 ((h.1 110 53) + 1)) - 1)) ((am_up h.1 110 53 (am_w32 ((h.1 110 53) + 1))), h.2))
  ∧ (x2 < h.1 110 62 →
    (0 ≤ x2 ∧ x2 < (12 : Int)) ∧ (0 ≤ am_w32 ((am_w32 (12 * (h.1 110 53))) + x2) ∧ am_w32 ((am_w32 (12 * (h.1 110 53))) + x2) < (4800 : Int)) ∧ (0 ≤ x2 ∧ x2 < (12 : Int)) ∧ (0 ≤ am_w32 ((am_w32 (12 * (h.1 110 53))) + x2) ∧ am_w32 ((am_w32 (12 * (h.1 110 53))) + x2) < (4800 : Int)) ∧ ak_W0 e 1 d 240 ρ 26 [some (am_r 110), none, some (am_i (am_w32 (x2 + 1)))] [] ((am_up (am_up h.1 148 (am_w32 ((am_w32 (12 * (h.1 110 53))) + x2)).toNat (h.1 152 x2.toNat)) 149 (am_w32 ((am_w32 (12 * (h.1 110 53))) + x2)).toNat (h.1 153 x2.toNat)), h.2) (ak_qi Q X))) :
  ak_W0 e 1 d 240 ρ 26 [some (am_r 110), none, some (am_i x2)] [] h (ak_qi Q X) := ak_k_ok am_cc240 400 [(26, [true, false, true])] w
theorem am_cc241 : am_co am_P 241 = am_lk am_rw241 ∧ am_hl am_P 241 = [] ∧ am_rtag (am_re am_P 241) = 0 := ⟨rfl, rfl, rfl⟩
set_option maxRecDepth 100000 in
theorem am_k241_0 {e : ak_X3} {d : Nat} {ρ : List Nat} {h : ak_S} {Q : ak_S → Prop} {X : Nat → ak_S → Prop} {x1 x2 : Int} (w :
  ak_W0 e 1 d 241 ρ 7 [some (am_r 110), some (am_i x1), some (am_i x2), some (am_i 0)] [] ((am_up h.1 110 62 0), h.2) (ak_qv Q X)) :
  ak_W0 e 1 d 241 ρ 0 [some (am_r 110), some (am_i x1), some (am_i x2), none] [] h (ak_qv Q X) := ak_k_ok am_cc241 400 [(7, [true, true, true, true])] w
set_option maxRecDepth 100000 in
theorem am_k241_7 {e : ak_X3} {d : Nat} {ρ : List Nat} {h : ak_S} {Q : ak_S → Prop} {X : Nat → ak_S → Prop} {x1 x2 x3 : Int} (w :
  (x2 ≤ x3 →
    Q h)
  ∧ (x3 < x2 →
    ak_MV e 1 d ρ 242 [am_r 110, am_i x1, am_i x3] h (fun h1 =>
      ak_W0 e 1 d 241 ρ 7 [some (am_r 110), some (am_i x1), some (am_i x2), some (am_i (am_w32 (x3 + 1)))] [] h1 (ak_qv Q X)) (fun _ _ => False))) :
  ak_W0 e 1 d 241 ρ 7 [some (am_r 110), some (am_i x1), some (am_i x2), some (am_i x3)] [] h (ak_qv Q X) := ak_k_ok am_cc241 400 [(7, [true, true, true, true])] w
theorem am_cc242 : am_co am_P 242 = am_lk am_rw242 ∧ am_hl am_P 242 = [] ∧ am_rtag (am_re am_P 242) = 0 := ⟨rfl, rfl, rfl⟩
set_option maxRecDepth 100000 in
theorem am_k242_0 {e : ak_X3} {d : Nat} {ρ : List Nat} {h : ak_S} {Q : ak_S → Prop} {X : Nat → ak_S → Prop} {x1 x2 : Int} (w :
  (0 ≤ am_w32 ((am_w32 (12 * x1)) + x2) ∧ am_w32 ((am_w32 (12 * x1)) + x2) < (2400 : Int)) ∧ (0 ≤ h.1 110 62 ∧ h.1 110 62 < (12 : Int)) ∧ (0 ≤ am_w32 ((am_w32 (12 * x1)) + x2) ∧ am_w32 ((am_w32 (12 * x1)) + x2) < (2400 : Int)) ∧ (0 ≤ h.1 110 62 ∧ h.1 110 62 < (12 : Int)) ∧ Q ((am_up (am_up (am_up h.1 152 (h.1 110 62).toNat (h.1 143 (am_w32 ((am_w32 (12 * x1)) + x2)).toNat)) 153 (h.1 110 62).toNat (h.1 144 (am_w32 ((am_w32 (12 * x1)) + x2)).toNat)) 110 62 (am_w32 ((h.1 110 62) + 1))), h.2)) :
  ak_W0 e 1 d 242 ρ 0 [some (am_r 110), some (am_i x1), some (am_i x2)] [] h (ak_qv Q X) := ak_k_ok am_cc242 400 [] w
theorem am_cc243 : am_co am_P 243 = am_lk am_rw243 ∧ am_hl am_P 243 = [] ∧ am_rtag (am_re am_P 243) = 2 := ⟨rfl, rfl, rfl⟩
set_option maxRecDepth 100000 in
theorem am_k243_0 {e : ak_X3} {d : Nat} {ρ : List Nat} {h : ak_S} {Q : Int → ak_S → Prop} {X : Nat → ak_S → Prop} {x1 x2 x3 x4 x5 : Int} (w :
  (0 ≤ x1 ∧ x1 < (200 : Int)) ∧ (h.1 141 x1.toNat ≠ 12 →
    (0 ≤ x1 ∧ x1 < (200 : Int)) ∧ ak_MV e 1 d ρ 241 [am_r 110, am_i x1, am_i (h.1 141 x1.toNat)] h (fun h1 =>
      (0 ≤ h1.1 110 62 ∧ h1.1 110 62 < (12 : Int)) ∧ (0 ≤ h1.1 110 62 ∧ h1.1 110 62 < (12 : Int)) ∧ ak_MI e 1 d ρ 239 [am_r 110] ((am_up (am_up (am_up h1.1 152 (h1.1 110 62).toNat x2) 153 (h1.1 110 62).toNat x3) 110 62 (am_w32 ((h1.1 110 62) + 1))), h1.2) (fun v3 h2 =>
        (0 ≤ v3 →
          ak_W0 e 1 d 243 ρ 73 [some (am_r 110), some (am_i x1), some (am_i x2), some (am_i x3), some (am_i x4), some (am_l x5), none, none, none] [] h2 (ak_qi Q X))
        ∧ (v3 < 0 →
          (h2.1 110 53 ≠ 400 →
            ak_W0 e 1 d 243 ρ 73 [some (am_r 110), some (am_i x1), some (am_i x2), some (am_i x3), some (am_i x4), some (am_l x5), none, none, none] [] h2 (ak_qi Q X))
          ∧ (h2.1 110 53 = 400 →
            ((0 : Int) = 0 ∨ (0 : Int) = 1) ∧ Q 0 h2))) (fun _ _ => False)) (fun _ _ => False))
  ∧ (h.1 141 x1.toNat = 12 →
    ((0 : Int) = 0 ∨ (0 : Int) = 1) ∧ Q 0 h)) :
  ak_W0 e 1 d 243 ρ 0 [some (am_r 110), some (am_i x1), some (am_i x2), some (am_i x3), some (am_i x4), some (am_l x5), none, none, none] [] h (ak_qi Q X) := ak_k_ok am_cc243 400 [(73, [true, true, true, true, true, true, false, false, false])] w
set_option maxRecDepth 100000 in
theorem am_k243_73 {e : ak_X3} {d : Nat} {ρ : List Nat} {h : ak_S} {Q : Int → ak_S → Prop} {X : Nat → ak_S → Prop} {x1 x2 x3 x4 x5 : Int} (w :
  ak_MI e 1 d ρ 240 [am_r 110] h (fun v2 h1 =>
    ak_MV e 1 d ρ 256 [am_r 110, am_i x1] h1 (fun h3 =>
      (0 ≤ x1 ∧ x1 < (200 : Int)) ∧ (0 ≤ am_w32 ((am_w32 (12 * x1)) + (h3.1 141 x1.toNat)) ∧ am_w32 ((am_w32 (12 * x1)) + (h3.1 141 x1.toNat)) < (2400 : Int)) ∧ (0 ≤ am_w32 ((am_w32 (12 * x1)) + (h3.1 141 x1.toNat)) ∧ am_w32 ((am_w32 (12 * x1)) + (h3.1 141 x1.toNat)) < (2400 : Int)) ∧ (0 ≤ am_w32 ((am_w32 (12 * x1)) + (h3.1 141 x1.toNat)) ∧ am_w32 ((am_w32 (12 * x1)) + (h3.1 141 x1.toNat)) < (2400 : Int)) ∧ (0 ≤ am_w32 ((am_w32 (12 * x1)) + (h3.1 141 x1.toNat)) ∧ am_w32 ((am_w32 (12 * x1)) + (h3.1 141 x1.toNat)) < (2400 : Int)) ∧ (0 ≤ x1 ∧ x1 < (200 : Int)) ∧ (0 ≤ x1 ∧ x1 < (200 : Int)) ∧ (0 ≤ x1 ∧ x1 < (200 : Int)) ∧ ((1 : Int) = 0 ∨ (1 : Int) = 1) ∧ Q 1 ((am_up (am_up (am_up (am_up (am_up (am_up h3.1 143 (am_w32 ((am_w32 (12 * x1)) + (h3.1 141 x1.toNat))).toNat x2) 144 (am_w32 ((am_w32 (12 * x1)) + (h3.1 141 x1.toNat))).toNat x3) 145 (am_w32 ((am_w32 (12 * x1)) + (h3.1 141 x1.toNat))).toNat x4) 141 x1.toNat (am_w32 ((h3.1 141 x1.toNat) + 1))) 142 x1.toNat v2) 110 67 ((-1))), (am_up h3.2.1 146 (am_w32 ((am_w32 (12 * x1)) + (h3.1 141 x1.toNat))).toNat x5), h3.2.2)) (fun _ _ => False)) (fun _ _ => False)) :
  ak_W0 e 1 d 243 ρ 73 [some (am_r 110), some (am_i x1), some (am_i x2), some (am_i x3), some (am_i x4), some (am_l x5), none, none, none] [] h (ak_qi Q X) := ak_k_ok am_cc243 400 [(73, [true, true, true, true, true, true, false, false, false])] w
theorem am_cc244 : am_co am_P 244 = am_lk am_rw244 ∧ am_hl am_P 244 = [] ∧ am_rtag (am_re am_P 244) = 2 := ⟨rfl, rfl, rfl⟩
set_option maxRecDepth 100000 in
theorem am_k244_0 {e : ak_X3} {d : Nat} {ρ : List Nat} {h : ak_S} {Q : Int → ak_S → Prop} {X : Nat → ak_S → Prop} {x1 x2 : Int} (w :
  ak_MV e 1 d ρ 241 [am_r 110, am_i x1, am_i (am_w32 (x2 - (am_w32 (12 * x1))))] h (fun h1 =>
    ak_W0 e 1 d 244 ρ 21 [some (am_r 110), some (am_i x1), some (am_i x2), some (am_i (am_w32 (x2 - (am_w32 (12 * x1))))), some (am_i 0), some (am_i (am_w32 ((am_w32 (x2 - (am_w32 (12 * x1)))) + 1))), none] [] h1 (ak_qi Q X)) (fun _ _ => False)) :
  ak_W0 e 1 d 244 ρ 0 [some (am_r 110), some (am_i x1), some (am_i x2), none, none, none, none] [] h (ak_qi Q X) := ak_k_ok am_cc244 400 [(21, [true, true, true, true, true, true, false]), (94, [true, true, true, false, false, true, true]), (132, [true, true, false, false, false, true, true])] w
set_option maxRecDepth 100000 in
theorem am_k244_21 {e : ak_X3} {d : Nat} {ρ : List Nat} {h : ak_S} {Q : Int → ak_S → Prop} {X : Nat → ak_S → Prop} {x1 x2 x3 x4 x5 : Int} (w :
  (0 ≤ x1 ∧ x1 < (200 : Int)) ∧ (h.1 141 x1.toNat ≤ x5 →
    (am_w32 ((h.1 110 53) + x4) ≤ 400 →
      ak_MV e 1 d ρ 241 [am_r 110, am_i x1, am_i x3] h (fun h1 =>
        ak_MI e 1 d ρ 240 [am_r 110] h1 (fun v3 h2 =>
          ak_W0 e 1 d 244 ρ 94 [some (am_r 110), some (am_i x1), some (am_i x2), none, none, some (am_i v3), some (am_i (am_w32 (x3 + 1)))] [] h2 (ak_qi Q X)) (fun _ _ => False)) (fun _ _ => False))
    ∧ (400 < am_w32 ((h.1 110 53) + x4) →
      ((0 : Int) = 0 ∨ (0 : Int) = 1) ∧ Q 0 h))
  ∧ (x5 < h.1 141 x1.toNat →
    ak_MV e 1 d ρ 242 [am_r 110, am_i x1, am_i x5] h (fun h4 =>
      ak_MI e 1 d ρ 239 [am_r 110] h4 (fun v6 h5 =>
        (0 ≤ v6 →
          ak_W0 e 1 d 244 ρ 21 [some (am_r 110), some (am_i x1), some (am_i x2), some (am_i x3), some (am_i (am_w32 (x4 + 0))), some (am_i (am_w32 (x5 + 1))), none] [] h5 (ak_qi Q X))
        ∧ (v6 < 0 →
          ak_W0 e 1 d 244 ρ 21 [some (am_r 110), some (am_i x1), some (am_i x2), some (am_i x3), some (am_i (am_w32 (x4 + 1))), some (am_i (am_w32 (x5 + 1))), none] [] h5 (ak_qi Q X))) (fun _ _ => False)) (fun _ _ => False))) :
  ak_W0 e 1 d 244 ρ 21 [some (am_r 110), some (am_i x1), some (am_i x2), some (am_i x3), some (am_i x4), some (am_i x5), none] [] h (ak_qi Q X) := ak_k_ok am_cc244 400 [(21, [true, true, true, true, true, true, false]), (94, [true, true, true, false, false, true, true]), (132, [true, true, false, false, false, true, true])] w
set_option maxRecDepth 100000 in
theorem am_k244_94 {e : ak_X3} {d : Nat} {ρ : List Nat} {h : ak_S} {Q : Int → ak_S → Prop} {X : Nat → ak_S → Prop} {x1 x2 x5 x6 : Int} (w :
  (0 ≤ x1 ∧ x1 < (200 : Int)) ∧ (h.1 141 x1.toNat ≤ x6 →
    ak_MV e 1 d ρ 256 [am_r 110, am_i x1] h (fun h1 =>
      ak_W0 e 1 d 244 ρ 132 [some (am_r 110), some (am_i x1), none, none, none, some (am_i x5), some (am_i x2)] [] h1 (ak_qi Q X)) (fun _ _ => False))
  ∧ (x6 < h.1 141 x1.toNat →
    ak_MV e 1 d ρ 242 [am_r 110, am_i x1, am_i x6] h (fun h2 =>
      ak_MI e 1 d ρ 240 [am_r 110] h2 (fun v4 h3 =>
        ak_W0 e 1 d 244 ρ 94 [some (am_r 110), some (am_i x1), some (am_i x2), none, none, some (am_i v4), some (am_i (am_w32 (x6 + 1)))] [] h3 (ak_qi Q X)) (fun _ _ => False)) (fun _ _ => False))) :
  ak_W0 e 1 d 244 ρ 94 [some (am_r 110), some (am_i x1), some (am_i x2), none, none, some (am_i x5), some (am_i x6)] [] h (ak_qi Q X) := ak_k_ok am_cc244 400 [(21, [true, true, true, true, true, true, false]), (94, [true, true, true, false, false, true, true]), (132, [true, true, false, false, false, true, true])] w
set_option maxRecDepth 100000 in
theorem am_k244_132 {e : ak_X3} {d : Nat} {ρ : List Nat} {h : ak_S} {Q : Int → ak_S → Prop} {X : Nat → ak_S → Prop} {x1 x5 x6 : Int} (w :
  (0 ≤ x1 ∧ x1 < (200 : Int)) ∧ (am_w32 ((am_w32 ((am_w32 (12 * x1)) + (h.1 141 x1.toNat))) - 1) ≤ x6 →
    (0 ≤ x1 ∧ x1 < (200 : Int)) ∧ (0 ≤ x1 ∧ x1 < (200 : Int)) ∧ (0 ≤ x1 ∧ x1 < (200 : Int)) ∧ ((1 : Int) = 0 ∨ (1 : Int) = 1) ∧ Q 1 ((am_up (am_up (am_up h.1 141 x1.toNat (am_w32 ((h.1 141 x1.toNat) - 1))) 142 x1.toNat x5) 110 67 ((-1))), h.2))
  ∧ (x6 < am_w32 ((am_w32 ((am_w32 (12 * x1)) + (h.1 141 x1.toNat))) - 1) →
    (0 ≤ am_w32 (x6 + 1) ∧ am_w32 (x6 + 1) < (2400 : Int)) ∧ (0 ≤ x6 ∧ x6 < (2400 : Int)) ∧ (0 ≤ am_w32 (x6 + 1) ∧ am_w32 (x6 + 1) < (2400 : Int)) ∧ (0 ≤ x6 ∧ x6 < (2400 : Int)) ∧ (0 ≤ am_w32 (x6 + 1) ∧ am_w32 (x6 + 1) < (2400 : Int)) ∧ (0 ≤ x6 ∧ x6 < (2400 : Int)) ∧ (0 ≤ am_w32 (x6 + 1) ∧ am_w32 (x6 + 1) < (2400 : Int)) ∧ (0 ≤ x6 ∧ x6 < (2400 : Int)) ∧ ak_W0 e 1 d 244 ρ 132 [some (am_r 110), some (am_i x1), none, none, none, some (am_i x5), some (am_i (am_w32 (x6 + 1)))] [] ((am_up (am_up (am_up h.1 143 x6.toNat (h.1 143 (am_w32 (x6 + 1)).toNat)) 144 x6.toNat (h.1 144 (am_w32 (x6 + 1)).toNat)) 145 x6.toNat (h.1 145 (am_w32 (x6 + 1)).toNat)), (am_up h.2.1 146 x6.toNat (h.2.1 146 (am_w32 (x6 + 1)).toNat)), h.2.2) (ak_qi Q X))) :
  ak_W0 e 1 d 244 ρ 132 [some (am_r 110), some (am_i x1), none, none, none, some (am_i x5), some (am_i x6)] [] h (ak_qi Q X) := ak_k_ok am_cc244 400 [(21, [true, true, true, true, true, true, false]), (94, [true, true, true, false, false, true, true]), (132, [true, true, false, false, false, true, true])] w
theorem am_cc245 : am_co am_P 245 = am_lk am_rw245 ∧ am_hl am_P 245 = [] ∧ am_rtag (am_re am_P 245) = 1 := ⟨rfl, rfl, rfl⟩
set_option maxRecDepth 100000 in
theorem am_k245_0 {e : ak_X3} {d : Nat} {ρ : List Nat} {h : ak_S} {Q : Int → ak_S → Prop} {X : Nat → ak_S → Prop} (w :
  (0 ≤ h.1 110 46 ∧ h.1 110 46 < (200 : Int)) ∧ (0 ≤ h.1 110 46 ∧ h.1 110 46 < (200 : Int)) ∧ Q (am_w32 ((am_w32 ((h.1 110 46) + 1)) - 1)) ((am_up (am_up (am_up h.1 141 (h.1 110 46).toNat 0) 142 (h.1 110 46).toNat 0) 110 46 (am_w32 ((h.1 110 46) + 1))), h.2)) :
  ak_W0 e 1 d 245 ρ 0 [some (am_r 110)] [] h (ak_qi Q X) := ak_k_ok am_cc245 400 [] w
theorem am_cc246 : am_co am_P 246 = am_lk am_rw246 ∧ am_hl am_P 246 = [] ∧ am_rtag (am_re am_P 246) = 2 := ⟨rfl, rfl, rfl⟩
set_option maxRecDepth 100000 in
theorem am_k246_0 {e : ak_X3} {d : Nat} {ρ : List Nat} {h : ak_S} {Q : Int → ak_S → Prop} {X : Nat → ak_S → Prop} {x1 : Int} (w :
  (0 ≤ x1 ∧ x1 < (200 : Int)) ∧ (h.1 157 x1.toNat = 0 ∨ h.1 157 x1.toNat = 1) ∧ Q (h.1 157 x1.toNat) h) :
  ak_W0 e 1 d 246 ρ 0 [some (am_r 110), some (am_i x1)] [] h (ak_qi Q X) := ak_k_ok am_cc246 400 [] w
theorem am_cc247 : am_co am_P 247 = am_lk am_rw247 ∧ am_hl am_P 247 = [] ∧ am_rtag (am_re am_P 247) = 0 := ⟨rfl, rfl, rfl⟩
set_option maxRecDepth 100000 in
theorem am_k247_0 {e : ak_X3} {d : Nat} {ρ : List Nat} {h : ak_S} {Q : ak_S → Prop} {X : Nat → ak_S → Prop} {x1 : Int} (w :
  (0 ≤ h.1 110 64 ∧ h.1 110 64 < (200 : Int)) ∧ ((0 ≤ x1 ∧ x1 < (200 : Int)) ∧ ((1 : Int) = 0 ∨ (1 : Int) = 1)) ∧ Q ((am_up (am_up (am_up h.1 154 (h.1 110 64).toNat x1) 110 64 (am_w32 ((h.1 110 64) + 1))) 157 x1.toNat 1), h.2)) :
  ak_W0 e 1 d 247 ρ 0 [some (am_r 110), some (am_i x1)] [] h (ak_qv Q X) := ak_k_ok am_cc247 400 [] w
theorem am_cc248 : am_co am_P 248 = am_lk am_rw248 ∧ am_hl am_P 248 = [] ∧ am_rtag (am_re am_P 248) = 0 := ⟨rfl, rfl, rfl⟩
set_option maxRecDepth 100000 in
theorem am_k248_0 {e : ak_X3} {d : Nat} {ρ : List Nat} {h : ak_S} {Q : ak_S → Prop} {X : Nat → ak_S → Prop} {x1 : Int} (w :
  (h.1 110 67 ≠ x1 →
    ak_W0 e 1 d 248 ρ 16 [some (am_r 110), some (am_i x1), some (am_i 0)] [] ((am_up h.1 110 67 x1), h.2) (ak_qv Q X))
  ∧ (h.1 110 67 = x1 →
    Q h)) :
  ak_W0 e 1 d 248 ρ 0 [some (am_r 110), some (am_i x1), none] [] h (ak_qv Q X) := ak_k_ok am_cc248 400 [(16, [true, true, true]), (49, [true, true, true])] w
set_option maxRecDepth 100000 in
theorem am_k248_16 {e : ak_X3} {d : Nat} {ρ : List Nat} {h : ak_S} {Q : ak_S → Prop} {X : Nat → ak_S → Prop} {x1 x2 : Int} (w :
  (h.1 110 64 ≤ x2 →
    ak_W0 e 1 d 248 ρ 49 [some (am_r 110), some (am_i x1), some (am_i 0)] [] ((am_up h.1 110 64 0), h.2) (ak_qv Q X))
  ∧ (x2 < h.1 110 64 →
    (0 ≤ x2 ∧ x2 < (200 : Int)) ∧ ((0 ≤ h.1 154 x2.toNat ∧ h.1 154 x2.toNat < (200 : Int)) ∧ ((0 : Int) = 0 ∨ (0 : Int) = 1)) ∧ ak_W0 e 1 d 248 ρ 16 [some (am_r 110), some (am_i x1), some (am_i (am_w32 (x2 + 1)))] [] ((am_up h.1 157 (h.1 154 x2.toNat).toNat 0), h.2) (ak_qv Q X))) :
  ak_W0 e 1 d 248 ρ 16 [some (am_r 110), some (am_i x1), some (am_i x2)] [] h (ak_qv Q X) := ak_k_ok am_cc248 400 [(16, [true, true, true]), (49, [true, true, true])] w
set_option maxRecDepth 100000 in
theorem am_k248_49 {e : ak_X3} {d : Nat} {ρ : List Nat} {h : ak_S} {Q : ak_S → Prop} {X : Nat → ak_S → Prop} {x1 x2 : Int} (w :
  (0 ≤ x1 ∧ x1 < (400 : Int)) ∧ (h.1 147 x1.toNat ≤ x2 →
    Q h)
  ∧ (x2 < h.1 147 x1.toNat →
    (0 ≤ am_w32 ((am_w32 (12 * x1)) + x2) ∧ am_w32 ((am_w32 (12 * x1)) + x2) < (4800 : Int)) ∧ (h.1 148 (am_w32 ((am_w32 (12 * x1)) + x2)).toNat ≠ 2 →
      ak_W0 e 1 d 248 ρ 49 [some (am_r 110), some (am_i x1), some (am_i (am_w32 (x2 + 1)))] [] h (ak_qv Q X))
    ∧ (h.1 148 (am_w32 ((am_w32 (12 * x1)) + x2)).toNat = 2 →
      (0 ≤ am_w32 ((am_w32 (12 * x1)) + x2) ∧ am_w32 ((am_w32 (12 * x1)) + x2) < (4800 : Int)) ∧ ak_MV e 1 d ρ 249 [am_r 110, am_i (h.1 149 (am_w32 ((am_w32 (12 * x1)) + x2)).toNat)] h (fun h1 =>
        ak_W0 e 1 d 248 ρ 49 [some (am_r 110), some (am_i x1), some (am_i (am_w32 (x2 + 1)))] [] h1 (ak_qv Q X)) (fun _ _ => False)))) :
  ak_W0 e 1 d 248 ρ 49 [some (am_r 110), some (am_i x1), some (am_i x2)] [] h (ak_qv Q X) := ak_k_ok am_cc248 400 [(16, [true, true, true]), (49, [true, true, true])] w
theorem am_cc249 : am_co am_P 249 = am_lk am_rw249 ∧ am_hl am_P 249 = [] ∧ am_rtag (am_re am_P 249) = 0 := ⟨rfl, rfl, rfl⟩
set_option maxRecDepth 100000 in
theorem am_k249_0 {e : ak_X3} {d : Nat} {ρ : List Nat} {h : ak_S} {Q : ak_S → Prop} {X : Nat → ak_S → Prop} {x1 : Int} (w :
  ak_MI e 1 d ρ 246 [am_r 110, am_i x1] h (fun v2 h1 =>
    (v2 = 0 →
      ak_MV e 1 d ρ 247 [am_r 110, am_i x1] h1 (fun h3 =>
        (0 ≤ (0 : Int) ∧ (0 : Int) < (201 : Int)) ∧ (0 ≤ (0 : Int) ∧ (0 : Int) < (201 : Int)) ∧ ak_W0 e 1 d 249 ρ 30 [some (am_r 110), none, some (am_i 1), none, none, none] [] ((am_up (am_up h3.1 155 0 x1) 156 0 0), h3.2) (ak_qv Q X)) (fun _ _ => False))
    ∧ (v2 ≠ 0 →
      Q h1)) (fun _ _ => False)) :
  ak_W0 e 1 d 249 ρ 0 [some (am_r 110), some (am_i x1), none, none, none, none] [] h (ak_qv Q X) := ak_k_ok am_cc249 400 [(30, [true, false, true, false, false, false])] w
set_option maxRecDepth 100000 in
theorem am_k249_30 {e : ak_X3} {d : Nat} {ρ : List Nat} {h : ak_S} {Q : ak_S → Prop} {X : Nat → ak_S → Prop} {x2 : Int} (w :
  (x2 ≤ 0 →
    Q h)
  ∧ (0 < x2 →
    (0 ≤ am_w32 (x2 - 1) ∧ am_w32 (x2 - 1) < (201 : Int)) ∧ (0 ≤ am_w32 (x2 - 1) ∧ am_w32 (x2 - 1) < (201 : Int)) ∧ (0 ≤ h.1 155 (am_w32 (x2 - 1)).toNat ∧ h.1 155 (am_w32 (x2 - 1)).toNat < (200 : Int)) ∧ (h.1 156 (am_w32 (x2 - 1)).toNat ≠ h.1 141 (h.1 155 (am_w32 (x2 - 1)).toNat).toNat →
      (0 ≤ am_w32 (x2 - 1) ∧ am_w32 (x2 - 1) < (201 : Int)) ∧ (0 ≤ am_w32 (x2 - 1) ∧ am_w32 (x2 - 1) < (201 : Int)) ∧ (0 ≤ am_w32 ((am_w32 (12 * (h.1 155 (am_w32 (x2 - 1)).toNat))) + (h.1 156 (am_w32 (x2 - 1)).toNat)) ∧ am_w32 ((am_w32 (12 * (h.1 155 (am_w32 (x2 - 1)).toNat))) + (h.1 156 (am_w32 (x2 - 1)).toNat)) < (2400 : Int)) ∧ (0 ≤ am_w32 ((am_w32 (12 * (h.1 155 (am_w32 (x2 - 1)).toNat))) + (h.1 156 (am_w32 (x2 - 1)).toNat)) ∧ am_w32 ((am_w32 (12 * (h.1 155 (am_w32 (x2 - 1)).toNat))) + (h.1 156 (am_w32 (x2 - 1)).toNat)) < (2400 : Int)) ∧ (h.1 143 (am_w32 ((am_w32 (12 * (h.1 155 (am_w32 (x2 - 1)).toNat))) + (h.1 156 (am_w32 (x2 - 1)).toNat))).toNat ≠ 2 →
        ak_W0 e 1 d 249 ρ 30 [some (am_r 110), none, some (am_i x2), none, none, none] [] ((am_up h.1 156 (am_w32 (x2 - 1)).toNat (am_w32 ((h.1 156 (am_w32 (x2 - 1)).toNat) + 1))), h.2) (ak_qv Q X))
      ∧ (h.1 143 (am_w32 ((am_w32 (12 * (h.1 155 (am_w32 (x2 - 1)).toNat))) + (h.1 156 (am_w32 (x2 - 1)).toNat))).toNat = 2 →
        ak_MI e 1 d ρ 246 [am_r 110, am_i (h.1 144 (am_w32 ((am_w32 (12 * (h.1 155 (am_w32 (x2 - 1)).toNat))) + (h.1 156 (am_w32 (x2 - 1)).toNat))).toNat)] ((am_up h.1 156 (am_w32 (x2 - 1)).toNat (am_w32 ((h.1 156 (am_w32 (x2 - 1)).toNat) + 1))), h.2) (fun v2 h1 =>
          (v2 = 0 →
            ak_MV e 1 d ρ 247 [am_r 110, am_i (h.1 144 (am_w32 ((am_w32 (12 * (h.1 155 (am_w32 (x2 - 1)).toNat))) + (h.1 156 (am_w32 (x2 - 1)).toNat))).toNat)] h1 (fun h3 =>
              (0 ≤ x2 ∧ x2 < (201 : Int)) ∧ (0 ≤ x2 ∧ x2 < (201 : Int)) ∧ ak_W0 e 1 d 249 ρ 30 [some (am_r 110), none, some (am_i (am_w32 (x2 + 1))), none, none, none] [] ((am_up (am_up h3.1 155 x2.toNat (h.1 144 (am_w32 ((am_w32 (12 * (h.1 155 (am_w32 (x2 - 1)).toNat))) + (h.1 156 (am_w32 (x2 - 1)).toNat))).toNat)) 156 x2.toNat 0), h3.2) (ak_qv Q X)) (fun _ _ => False))
          ∧ (v2 ≠ 0 →
            ak_W0 e 1 d 249 ρ 30 [some (am_r 110), none, some (am_i x2), none, none, none] [] h1 (ak_qv Q X))) (fun _ _ => False)))
    ∧ (h.1 156 (am_w32 (x2 - 1)).toNat = h.1 141 (h.1 155 (am_w32 (x2 - 1)).toNat).toNat →
      ak_W0 e 1 d 249 ρ 30 [some (am_r 110), none, some (am_i (am_w32 (x2 + (-1)))), none, none, none] [] h (ak_qv Q X)))) :
  ak_W0 e 1 d 249 ρ 30 [some (am_r 110), none, some (am_i x2), none, none, none] [] h (ak_qv Q X) := ak_k_ok am_cc249 400 [(30, [true, false, true, false, false, false])] w
theorem am_cc250 : am_co am_P 250 = am_lk am_rw250 ∧ am_hl am_P 250 = [] ∧ am_rtag (am_re am_P 250) = 2 := ⟨rfl, rfl, rfl⟩
set_option maxRecDepth 100000 in
theorem am_k250_0 {e : ak_X3} {d : Nat} {ρ : List Nat} {h : ak_S} {Q : Int → ak_S → Prop} {X : Nat → ak_S → Prop} {x1 x2 : Int} (w :
  ak_W0 e 1 d 250 ρ 2 [some (am_r 110), some (am_i x1), some (am_i x2), some (am_i 0)] [] h (ak_qi Q X)) :
  ak_W0 e 1 d 250 ρ 0 [some (am_r 110), some (am_i x1), some (am_i x2), none] [] h (ak_qi Q X) := ak_k_ok am_cc250 400 [(2, [true, true, true, true])] w
set_option maxRecDepth 100000 in
theorem am_k250_2 {e : ak_X3} {d : Nat} {ρ : List Nat} {h : ak_S} {Q : Int → ak_S → Prop} {X : Nat → ak_S → Prop} {x1 x2 x3 : Int} (w :
  (0 ≤ x1 ∧ x1 < (400 : Int)) ∧ (h.1 147 x1.toNat ≤ x3 →
    ((0 : Int) = 0 ∨ (0 : Int) = 1) ∧ Q 0 h)
  ∧ (x3 < h.1 147 x1.toNat →
    (0 ≤ am_w32 ((am_w32 (12 * x1)) + x3) ∧ am_w32 ((am_w32 (12 * x1)) + x3) < (4800 : Int)) ∧ (2 ≤ h.1 148 (am_w32 ((am_w32 (12 * x1)) + x3)).toNat →
      ak_W0 e 1 d 250 ρ 2 [some (am_r 110), some (am_i x1), some (am_i x2), some (am_i (am_w32 (x3 + 1)))] [] h (ak_qi Q X))
    ∧ (h.1 148 (am_w32 ((am_w32 (12 * x1)) + x3)).toNat < 2 →
      (0 ≤ am_w32 ((am_w32 (12 * x1)) + x3) ∧ am_w32 ((am_w32 (12 * x1)) + x3) < (4800 : Int)) ∧ (h.1 149 (am_w32 ((am_w32 (12 * x1)) + x3)).toNat ≠ x2 →
        ak_W0 e 1 d 250 ρ 2 [some (am_r 110), some (am_i x1), some (am_i x2), some (am_i (am_w32 (x3 + 1)))] [] h (ak_qi Q X))
      ∧ (h.1 149 (am_w32 ((am_w32 (12 * x1)) + x3)).toNat = x2 →
        ((1 : Int) = 0 ∨ (1 : Int) = 1) ∧ Q 1 h)))) :
  ak_W0 e 1 d 250 ρ 2 [some (am_r 110), some (am_i x1), some (am_i x2), some (am_i x3)] [] h (ak_qi Q X) := ak_k_ok am_cc250 400 [(2, [true, true, true, true])] w
theorem am_cc251 : am_co am_P 251 = am_lk am_rw251 ∧ am_hl am_P 251 = [] ∧ am_rtag (am_re am_P 251) = 0 := ⟨rfl, rfl, rfl⟩
set_option maxRecDepth 100000 in
theorem am_k251_0 {e : ak_X3} {d : Nat} {ρ : List Nat} {h : ak_S} {Q : ak_S → Prop} {X : Nat → ak_S → Prop} {x1 x2 x3 : Int} (w :
  (x3 ≠ 0 →
    ak_MV e 1 d ρ 248 [am_r 110, am_i x1] ((am_up (am_up h.1 110 69 ((-1))) 110 70 ((-1))), h.2) (fun h1 =>
      (x3 ≤ 0 →
        ak_W0 e 1 d 251 ρ 76 [some (am_r 110), none, some (am_i x2), none, none, some (am_i 0)] [] h1 (ak_qv Q X))
      ∧ (0 < x3 →
        ak_W0 e 1 d 251 ρ 41 [some (am_r 110), none, some (am_i x2), some (am_i x3), some (am_i 0), none] [] h1 (ak_qv Q X))) (fun _ _ => False))
  ∧ (x3 = 0 →
    ak_MI e 1 d ρ 250 [am_r 110, am_i x1, am_i x2] ((am_up (am_up h.1 110 69 ((-1))) 110 70 ((-1))), h.2) (fun v3 h2 =>
      (v3 = 0 →
        ak_MV e 1 d ρ 248 [am_r 110, am_i x1] h2 (fun h4 =>
          (x3 ≤ 0 →
            ak_W0 e 1 d 251 ρ 76 [some (am_r 110), none, some (am_i x2), none, none, some (am_i 0)] [] h4 (ak_qv Q X))
          ∧ (0 < x3 →
            ak_W0 e 1 d 251 ρ 41 [some (am_r 110), none, some (am_i x2), some (am_i x3), some (am_i 0), none] [] h4 (ak_qv Q X))) (fun _ _ => False))
      ∧ (v3 ≠ 0 →
        Q ((am_up h2.1 110 69 0), h2.2))) (fun _ _ => False))) :
  ak_W0 e 1 d 251 ρ 0 [some (am_r 110), some (am_i x1), some (am_i x2), some (am_i x3), none, none] [] h (ak_qv Q X) := ak_k_ok am_cc251 400 [(41, [true, false, true, true, true, false]), (76, [true, false, true, false, false, true])] w
set_option maxRecDepth 100000 in
theorem am_k251_41 {e : ak_X3} {d : Nat} {ρ : List Nat} {h : ak_S} {Q : ak_S → Prop} {X : Nat → ak_S → Prop} {x2 x3 x4 : Int} (w :
  (h.1 110 64 ≤ x4 →
    ak_W0 e 1 d 251 ρ 76 [some (am_r 110), none, some (am_i x2), none, none, some (am_i (am_w32 (x4 + 1)))] [] h (ak_qv Q X))
  ∧ (x4 < h.1 110 64 →
    (0 ≤ x4 ∧ x4 < (200 : Int)) ∧ (h.1 154 x4.toNat = am_w32 (x3 - 1) →
      ak_W0 e 1 d 251 ρ 76 [some (am_r 110), none, some (am_i x2), none, none, some (am_i (am_w32 (x4 + 1)))] [] h (ak_qv Q X))
    ∧ (h.1 154 x4.toNat ≠ am_w32 (x3 - 1) →
      ak_W0 e 1 d 251 ρ 41 [some (am_r 110), none, some (am_i x2), some (am_i x3), some (am_i (am_w32 (x4 + 1))), none] [] h (ak_qv Q X)))) :
  ak_W0 e 1 d 251 ρ 41 [some (am_r 110), none, some (am_i x2), some (am_i x3), some (am_i x4), none] [] h (ak_qv Q X) := ak_k_ok am_cc251 400 [(41, [true, false, true, true, true, false]), (76, [true, false, true, false, false, true])] w
set_option maxRecDepth 100000 in
theorem am_k251_76 {e : ak_X3} {d : Nat} {ρ : List Nat} {h : ak_S} {Q : ak_S → Prop} {X : Nat → ak_S → Prop} {x2 x5 : Int} (w :
  (h.1 110 64 ≤ x5 →
    Q h)
  ∧ (x5 < h.1 110 64 →
    (0 ≤ x5 ∧ x5 < (200 : Int)) ∧ ak_MI e 1 d ρ 238 [am_r 110, am_i (h.1 154 x5.toNat), am_i x2, am_i 0] h (fun v2 h1 =>
      (0 ≤ v2 →
        (0 ≤ x5 ∧ x5 < (200 : Int)) ∧ Q ((am_up (am_up h1.1 110 69 (am_w32 (x5 + 1))) 110 70 (h1.1 154 x5.toNat)), h1.2))
      ∧ (v2 < 0 →
        ak_W0 e 1 d 251 ρ 76 [some (am_r 110), none, some (am_i x2), none, none, some (am_i (am_w32 (x5 + 1)))] [] h1 (ak_qv Q X))) (fun _ _ => False))) :
  ak_W0 e 1 d 251 ρ 76 [some (am_r 110), none, some (am_i x2), none, none, some (am_i x5)] [] h (ak_qv Q X) := ak_k_ok am_cc251 400 [(41, [true, false, true, true, true, false]), (76, [true, false, true, false, false, true])] w
theorem am_cc252 : am_co am_P 252 = am_lk am_rw252 ∧ am_hl am_P 252 = [] ∧ am_rtag (am_re am_P 252) = 0 := ⟨rfl, rfl, rfl⟩
set_option maxRecDepth 100000 in
theorem am_k252_0 {e : ak_X3} {d : Nat} {ρ : List Nat} {h : ak_S} {Q : ak_S → Prop} {X : Nat → ak_S → Prop} (w :
  ak_W0 e 1 d 252 ρ 2 [some (am_r 110), some (am_i 0)] [] h (ak_qv Q X)) :
  ak_W0 e 1 d 252 ρ 0 [some (am_r 110), none] [] h (ak_qv Q X) := ak_k_ok am_cc252 400 [(2, [true, true])] w
set_option maxRecDepth 100000 in
theorem am_k252_2 {e : ak_X3} {d : Nat} {ρ : List Nat} {h : ak_S} {Q : ak_S → Prop} {X : Nat → ak_S → Prop} {x1 : Int} (w :
  (150 ≤ x1 →
    Q ((am_up h.1 110 78 0), h.2))
  ∧ (x1 < 150 →
    (0 ≤ x1 ∧ x1 < (150 : Int)) ∧ (0 ≤ x1 ∧ x1 < (150 : Int)) ∧ (0 ≤ x1 ∧ x1 < (150 : Int)) ∧ (0 ≤ x1 ∧ x1 < (150 : Int)) ∧ (0 ≤ x1 ∧ x1 < (150 : Int)) ∧ (0 ≤ x1 ∧ x1 < (150 : Int)) ∧ ak_W0 e 1 d 252 ρ 2 [some (am_r 110), some (am_i (am_w32 (x1 + 1)))] [] ((am_up (am_up (am_up (am_up (am_up (am_up h.1 158 x1.toNat 0) 159 x1.toNat 0) 160 x1.toNat 0) 161 x1.toNat 0) 162 x1.toNat 0) 163 x1.toNat 0), h.2) (ak_qv Q X))) :
  ak_W0 e 1 d 252 ρ 2 [some (am_r 110), some (am_i x1)] [] h (ak_qv Q X) := ak_k_ok am_cc252 400 [(2, [true, true])] w
theorem am_cc253 : am_co am_P 253 = am_lk am_rw253 ∧ am_hl am_P 253 = [] ∧ am_rtag (am_re am_P 253) = 2 := ⟨rfl, rfl, rfl⟩
set_option maxRecDepth 100000 in
theorem am_k253_0 {e : ak_X3} {d : Nat} {ρ : List Nat} {h : ak_S} {Q : Int → ak_S → Prop} {X : Nat → ak_S → Prop} {x1 x2 : Int} (w :
  (0 ≤ x1 ∧ x1 < (728 : Int)) ∧ (h.1 167 x1.toNat ≠ 0 →
    (0 ≤ x1 ∧ x1 < (728 : Int)) ∧ ak_MV e 1 d ρ 248 [am_r 110, am_i (h.1 164 x1.toNat)] h (fun h1 =>
      (0 ≤ x1 ∧ x1 < (728 : Int)) ∧ (0 ≤ h1.1 167 x1.toNat →
        (0 ≤ x1 ∧ x1 < (728 : Int)) ∧ ak_W0 e 1 d 253 ρ 47 [some (am_r 110), none, some (am_i x2), some (am_i (h1.1 167 x1.toNat)), some (am_i 0)] [] h1 (ak_qi Q X))
      ∧ (h1.1 167 x1.toNat < 0 →
        ak_W0 e 1 d 253 ρ 47 [some (am_r 110), none, some (am_i x2), some (am_i (h1.1 110 64)), some (am_i 0)] [] h1 (ak_qi Q X))) (fun _ _ => False))
  ∧ (h.1 167 x1.toNat = 0 →
    ((0 : Int) = 0 ∨ (0 : Int) = 1) ∧ Q 0 h)) :
  ak_W0 e 1 d 253 ρ 0 [some (am_r 110), some (am_i x1), some (am_i x2), none, none] [] h (ak_qi Q X) := ak_k_ok am_cc253 400 [(47, [true, false, true, true, true])] w
set_option maxRecDepth 100000 in
theorem am_k253_47 {e : ak_X3} {d : Nat} {ρ : List Nat} {h : ak_S} {Q : Int → ak_S → Prop} {X : Nat → ak_S → Prop} {x2 x3 x4 : Int} (w :
  (x3 ≤ x4 →
    ((0 : Int) = 0 ∨ (0 : Int) = 1) ∧ Q 0 h)
  ∧ (x4 < x3 →
    (0 ≤ x4 ∧ x4 < (200 : Int)) ∧ (h.1 154 x4.toNat ≠ x2 →
      ak_W0 e 1 d 253 ρ 47 [some (am_r 110), none, some (am_i x2), some (am_i x3), some (am_i (am_w32 (x4 + 1)))] [] h (ak_qi Q X))
    ∧ (h.1 154 x4.toNat = x2 →
      ((1 : Int) = 0 ∨ (1 : Int) = 1) ∧ Q 1 h))) :
  ak_W0 e 1 d 253 ρ 47 [some (am_r 110), none, some (am_i x2), some (am_i x3), some (am_i x4)] [] h (ak_qi Q X) := ak_k_ok am_cc253 400 [(47, [true, false, true, true, true])] w
theorem am_cc254 : am_co am_P 254 = am_lk am_rw254 ∧ am_hl am_P 254 = [] ∧ am_rtag (am_re am_P 254) = 0 := ⟨rfl, rfl, rfl⟩
set_option maxRecDepth 100000 in
theorem am_k254_0 {e : ak_X3} {d : Nat} {ρ : List Nat} {h : ak_S} {Q : ak_S → Prop} {X : Nat → ak_S → Prop} {x1 x2 : Int} (w :
  (0 ≤ h.1 110 84 ∧ h.1 110 84 < (728 : Int)) ∧ (0 ≤ x1 ∧ x1 < (728 : Int)) ∧ (0 ≤ h.1 110 84 ∧ h.1 110 84 < (728 : Int)) ∧ (0 ≤ x1 ∧ x1 < (728 : Int)) ∧ (0 ≤ h.1 110 84 ∧ h.1 110 84 < (728 : Int)) ∧ (0 ≤ x1 ∧ x1 < (728 : Int)) ∧ (0 ≤ h.1 110 84 ∧ h.1 110 84 < (728 : Int)) ∧ Q ((am_up (am_up (am_up (am_up (am_up h.1 169 (h.1 110 84).toNat x2) 170 (h.1 110 84).toNat (h.1 164 x1.toNat)) 171 (h.1 110 84).toNat (h.1 165 x1.toNat)) 172 (h.1 110 84).toNat (h.1 166 x1.toNat)) 110 84 (am_w32 ((h.1 110 84) + 1))), h.2)) :
  ak_W0 e 1 d 254 ρ 0 [some (am_r 110), some (am_i x1), some (am_i x2)] [] h (ak_qv Q X) := ak_k_ok am_cc254 400 [] w
theorem am_cc255 : am_co am_P 255 = am_lk am_rw255 ∧ am_hl am_P 255 = [] ∧ am_rtag (am_re am_P 255) = 0 := ⟨rfl, rfl, rfl⟩
set_option maxRecDepth 100000 in
theorem am_k255_0 {e : ak_X3} {d : Nat} {ρ : List Nat} {h : ak_S} {Q : ak_S → Prop} {X : Nat → ak_S → Prop} {x1 x2 : Int} (w :
  (0 ≤ x1 ∧ x1 < (728 : Int)) ∧ (0 ≤ x2 ∧ x2 < (728 : Int)) ∧ (0 ≤ x1 ∧ x1 < (728 : Int)) ∧ (0 ≤ x2 ∧ x2 < (728 : Int)) ∧ (0 ≤ x1 ∧ x1 < (728 : Int)) ∧ (0 ≤ x2 ∧ x2 < (728 : Int)) ∧ (0 ≤ x1 ∧ x1 < (728 : Int)) ∧ (0 ≤ x2 ∧ x2 < (728 : Int)) ∧ (0 ≤ x1 ∧ x1 < (728 : Int)) ∧ (0 ≤ x2 ∧ x2 < (728 : Int)) ∧ Q ((am_up (am_up (am_up (am_up (am_up h.1 164 x2.toNat (h.1 164 x1.toNat)) 165 x2.toNat (h.1 165 x1.toNat)) 166 x2.toNat (h.1 166 x1.toNat)) 167 x2.toNat (h.1 167 x1.toNat)) 168 x2.toNat (h.1 168 x1.toNat)), h.2)) :
  ak_W0 e 1 d 255 ρ 0 [some (am_r 110), some (am_i x1), some (am_i x2)] [] h (ak_qv Q X) := ak_k_ok am_cc255 400 [] w
theorem am_cc256 : am_co am_P 256 = am_lk am_rw256 ∧ am_hl am_P 256 = [] ∧ am_rtag (am_re am_P 256) = 0 := ⟨rfl, rfl, rfl⟩
set_option maxRecDepth 100000 in
theorem am_k256_0 {e : ak_X3} {d : Nat} {ρ : List Nat} {h : ak_S} {Q : ak_S → Prop} {X : Nat → ak_S → Prop} {x1 : Int} (w :
  ak_W0 e 1 d 256 ρ 7 [some (am_r 110), some (am_i x1), some (am_i 0), none, none] [] ((am_up h.1 110 84 0), h.2) (ak_qv Q X)) :
  ak_W0 e 1 d 256 ρ 0 [some (am_r 110), some (am_i x1), none, none, none] [] h (ak_qv Q X) := ak_k_ok am_cc256 400 [(7, [true, true, true, false, false]), (25, [true, true, true, true, true]), (115, [true, true, true, true, false])] w
set_option maxRecDepth 100000 in
theorem am_k256_7 {e : ak_X3} {d : Nat} {ρ : List Nat} {h : ak_S} {Q : ak_S → Prop} {X : Nat → ak_S → Prop} {x1 x2 : Int} (w :
  (0 ≤ h.1 110 3 ∧ h.1 110 3 < (2 : Int)) ∧ (h.1 127 (h.1 110 3).toNat ≤ x2 →
    ak_W0 e 1 d 256 ρ 115 [some (am_r 110), some (am_i x1), some (am_i 0), some (am_i 0), none] [] h (ak_qv Q X))
  ∧ (x2 < h.1 127 (h.1 110 3).toNat →
    ak_W0 e 1 d 256 ρ 25 [some (am_r 110), some (am_i x1), some (am_i x2), some (am_i 0), some (am_i 0)] [] h (ak_qv Q X))) :
  ak_W0 e 1 d 256 ρ 7 [some (am_r 110), some (am_i x1), some (am_i x2), none, none] [] h (ak_qv Q X) := ak_k_ok am_cc256 400 [(7, [true, true, true, false, false]), (25, [true, true, true, true, true]), (115, [true, true, true, true, false])] w
set_option maxRecDepth 100000 in
theorem am_k256_25 {e : ak_X3} {d : Nat} {ρ : List Nat} {h : ak_S} {Q : ak_S → Prop} {X : Nat → ak_S → Prop} {x1 x2 x3 x4 : Int} (w :
  (0 ≤ x2 ∧ x2 < (150 : Int)) ∧ (h.1 159 x2.toNat ≤ x4 →
    (0 ≤ x2 ∧ x2 < (150 : Int)) ∧ ak_W0 e 1 d 256 ρ 7 [some (am_r 110), some (am_i x1), some (am_i (am_w32 (x2 + 1))), none, none] [] ((am_up h.1 159 x2.toNat x3), h.2) (ak_qv Q X))
  ∧ (x4 < h.1 159 x2.toNat →
    ak_MI e 1 d ρ 253 [am_r 110, am_i (am_w32 ((am_w32 (4 * x2)) + x4)), am_i x1] h (fun v2 h1 =>
      (v2 = 0 →
        ak_MV e 1 d ρ 255 [am_r 110, am_i (am_w32 ((am_w32 (4 * x2)) + x4)), am_i (am_w32 ((am_w32 (4 * x2)) + x3))] h1 (fun h3 =>
          ak_W0 e 1 d 256 ρ 25 [some (am_r 110), some (am_i x1), some (am_i x2), some (am_i (am_w32 (x3 + 1))), some (am_i (am_w32 (x4 + 1)))] [] h3 (ak_qv Q X)) (fun _ _ => False))
      ∧ (v2 ≠ 0 →
        ak_MV e 1 d ρ 254 [am_r 110, am_i (am_w32 ((am_w32 (4 * x2)) + x4)), am_i x2] h1 (fun h4 =>
          (0 ≤ x2 ∧ x2 < (150 : Int)) ∧ (0 ≤ x2 ∧ x2 < (150 : Int)) ∧ ak_W0 e 1 d 256 ρ 25 [some (am_r 110), some (am_i x1), some (am_i x2), some (am_i x3), some (am_i (am_w32 (x4 + 1)))] [] ((am_up h4.1 162 x2.toNat (am_w32 ((h4.1 162 x2.toNat) + 1))), h4.2) (ak_qv Q X)) (fun _ _ => False))) (fun _ _ => False))) :
  ak_W0 e 1 d 256 ρ 25 [some (am_r 110), some (am_i x1), some (am_i x2), some (am_i x3), some (am_i x4)] [] h (ak_qv Q X) := ak_k_ok am_cc256 400 [(7, [true, true, true, false, false]), (25, [true, true, true, true, true]), (115, [true, true, true, true, false])] w
set_option maxRecDepth 100000 in
theorem am_k256_115 {e : ak_X3} {d : Nat} {ρ : List Nat} {h : ak_S} {Q : ak_S → Prop} {X : Nat → ak_S → Prop} {x1 x2 x3 : Int} (w :
  (h.1 110 78 ≤ x3 →
    Q ((am_up h.1 110 78 x2), h.2))
  ∧ (x3 < h.1 110 78 →
    ak_MI e 1 d ρ 253 [am_r 110, am_i (am_w32 (600 + x3)), am_i x1] h (fun v2 h1 =>
      (v2 = 0 →
        ak_MV e 1 d ρ 255 [am_r 110, am_i (am_w32 (600 + x3)), am_i (am_w32 (600 + x2))] h1 (fun h3 =>
          ak_W0 e 1 d 256 ρ 115 [some (am_r 110), some (am_i x1), some (am_i (am_w32 (x2 + 1))), some (am_i (am_w32 (x3 + 1))), none] [] h3 (ak_qv Q X)) (fun _ _ => False))
      ∧ (v2 ≠ 0 →
        ak_MV e 1 d ρ 254 [am_r 110, am_i (am_w32 (600 + x3)), am_i ((-1))] h1 (fun h4 =>
          ak_W0 e 1 d 256 ρ 115 [some (am_r 110), some (am_i x1), some (am_i x2), some (am_i (am_w32 (x3 + 1))), none] [] h4 (ak_qv Q X)) (fun _ _ => False))) (fun _ _ => False))) :
  ak_W0 e 1 d 256 ρ 115 [some (am_r 110), some (am_i x1), some (am_i x2), some (am_i x3), none] [] h (ak_qv Q X) := ak_k_ok am_cc256 400 [(7, [true, true, true, false, false]), (25, [true, true, true, true, true]), (115, [true, true, true, true, false])] w
theorem am_cc257 : am_co am_P 257 = am_lk am_rw257 ∧ am_hl am_P 257 = [] ∧ am_rtag (am_re am_P 257) = 0 := ⟨rfl, rfl, rfl⟩
set_option maxRecDepth 100000 in
theorem am_k257_0 {e : ak_X3} {d : Nat} {ρ : List Nat} {h : ak_S} {Q : ak_S → Prop} {X : Nat → ak_S → Prop} {x1 x2 x3 x4 : Int} (w :
  (0 ≤ x1 ∧ x1 < (728 : Int)) ∧ (0 ≤ x1 ∧ x1 < (728 : Int)) ∧ (0 ≤ x1 ∧ x1 < (728 : Int)) ∧ (0 ≤ x1 ∧ x1 < (728 : Int)) ∧ (0 ≤ x1 ∧ x1 < (728 : Int)) ∧ Q ((am_up (am_up (am_up (am_up (am_up h.1 164 x1.toNat x2) 165 x1.toNat x3) 166 x1.toNat x4) 167 x1.toNat (h.1 110 69)) 168 x1.toNat (h.1 110 70)), h.2)) :
  ak_W0 e 1 d 257 ρ 0 [some (am_r 110), some (am_i x1), some (am_i x2), some (am_i x3), some (am_i x4)] [] h (ak_qv Q X) := ak_k_ok am_cc257 400 [] w
theorem am_cc258 : am_co am_P 258 = am_lk am_rw258 ∧ am_hl am_P 258 = [] ∧ am_rtag (am_re am_P 258) = 2 := ⟨rfl, rfl, rfl⟩
set_option maxRecDepth 100000 in
theorem am_k258_0 {e : ak_X3} {d : Nat} {ρ : List Nat} {h : ak_S} {Q : Int → ak_S → Prop} {X : Nat → ak_S → Prop} {x1 x2 x3 x4 : Int} (w :
  (0 ≤ x1 ∧ x1 < (728 : Int)) ∧ (h.1 164 x1.toNat ≠ x2 →
    ((0 : Int) = 0 ∨ (0 : Int) = 1) ∧ Q 0 h)
  ∧ (h.1 164 x1.toNat = x2 →
    (0 ≤ x1 ∧ x1 < (728 : Int)) ∧ (h.1 165 x1.toNat ≠ x3 →
      ((0 : Int) = 0 ∨ (0 : Int) = 1) ∧ Q 0 h)
    ∧ (h.1 165 x1.toNat = x3 →
      (0 ≤ x1 ∧ x1 < (728 : Int)) ∧ (h.1 166 x1.toNat ≠ x4 →
        ((0 : Int) = 0 ∨ (0 : Int) = 1) ∧ Q 0 h)
      ∧ (h.1 166 x1.toNat = x4 →
        ((1 : Int) = 0 ∨ (1 : Int) = 1) ∧ Q 1 h)))) :
  ak_W0 e 1 d 258 ρ 0 [some (am_r 110), some (am_i x1), some (am_i x2), some (am_i x3), some (am_i x4)] [] h (ak_qi Q X) := ak_k_ok am_cc258 400 [] w
theorem am_cc259 : am_co am_P 259 = am_lk am_rw259 ∧ am_hl am_P 259 = [] ∧ am_rtag (am_re am_P 259) = 0 := ⟨rfl, rfl, rfl⟩
set_option maxRecDepth 100000 in
theorem am_k259_0 {e : ak_X3} {d : Nat} {ρ : List Nat} {h : ak_S} {Q : ak_S → Prop} {X : Nat → ak_S → Prop} {x1 x2 x3 : Int} (w :
  ak_W0 e 1 d 259 ρ 3 [some (am_r 110), some (am_i x1), some (am_i x2), some (am_i x3), some (am_i 0)] [] h (ak_qv Q X)) :
  ak_W0 e 1 d 259 ρ 0 [some (am_r 110), some (am_i x1), some (am_i x2), some (am_i x3), none] [] h (ak_qv Q X) := ak_k_ok am_cc259 400 [(3, [true, true, true, true, true]), (50, [true, true, true, true, false])] w
set_option maxRecDepth 100000 in
theorem am_k259_3 {e : ak_X3} {d : Nat} {ρ : List Nat} {h : ak_S} {Q : ak_S → Prop} {X : Nat → ak_S → Prop} {x1 x2 x3 x4 : Int} (w :
  (h.1 110 78 ≤ x4 →
    (h.1 110 78 ≠ 128 →
      ak_W0 e 1 d 259 ρ 50 [some (am_r 110), some (am_i x1), some (am_i x2), some (am_i x3), none] [] h (ak_qv Q X))
    ∧ (h.1 110 78 = 128 →
      ak_W0 e 1 d 259 ρ 50 [some (am_r 110), some (am_i x1), some (am_i x2), some (am_i x3), none] [] ((am_up h.1 110 78 0), h.2) (ak_qv Q X)))
  ∧ (x4 < h.1 110 78 →
    ak_MI e 1 d ρ 258 [am_r 110, am_i (am_w32 (600 + x4)), am_i x1, am_i x2, am_i x3] h (fun v2 h1 =>
      (v2 = 0 →
        ak_W0 e 1 d 259 ρ 3 [some (am_r 110), some (am_i x1), some (am_i x2), some (am_i x3), some (am_i (am_w32 (x4 + 1)))] [] h1 (ak_qv Q X))
      ∧ (v2 ≠ 0 →
        Q h1)) (fun _ _ => False))) :
  ak_W0 e 1 d 259 ρ 3 [some (am_r 110), some (am_i x1), some (am_i x2), some (am_i x3), some (am_i x4)] [] h (ak_qv Q X) := ak_k_ok am_cc259 400 [(3, [true, true, true, true, true]), (50, [true, true, true, true, false])] w
set_option maxRecDepth 100000 in
theorem am_k259_50 {e : ak_X3} {d : Nat} {ρ : List Nat} {h : ak_S} {Q : ak_S → Prop} {X : Nat → ak_S → Prop} {x1 x2 x3 : Int} (w :
  ak_MV e 1 d ρ 257 [am_r 110, am_i (am_w32 (600 + (h.1 110 78))), am_i x1, am_i x2, am_i x3] h (fun h1 =>
    Q ((am_up h1.1 110 78 (am_w32 ((h1.1 110 78) + 1))), h1.2)) (fun _ _ => False)) :
  ak_W0 e 1 d 259 ρ 50 [some (am_r 110), some (am_i x1), some (am_i x2), some (am_i x3), none] [] h (ak_qv Q X) := ak_k_ok am_cc259 400 [(3, [true, true, true, true, true]), (50, [true, true, true, true, false])] w
theorem am_cc260 : am_co am_P 260 = am_lk am_rw260 ∧ am_hl am_P 260 = [] ∧ am_rtag (am_re am_P 260) = 0 := ⟨rfl, rfl, rfl⟩
set_option maxRecDepth 100000 in
theorem am_k260_0 {e : ak_X3} {d : Nat} {ρ : List Nat} {h : ak_S} {Q : ak_S → Prop} {X : Nat → ak_S → Prop} {x1 x2 x3 : Int} (w :
  (0 ≤ am_w32 ((am_w32 (150 * (h.1 110 3))) + x1) ∧ am_w32 ((am_w32 (150 * (h.1 110 3))) + x1) < (300 : Int)) ∧ (h.1 110 71 ≠ 0 →
    (0 ≤ x1 ∧ x1 < (150 : Int)) ∧ (0 ≤ x1 ∧ x1 < (150 : Int)) ∧ (0 ≤ x1 ∧ x1 < (150 : Int)) ∧ (h.1 158 x1.toNat ≠ 3 →
      ak_W0 e 1 d 260 ρ 105 [some (am_r 110), some (am_i x1), some (am_i x2), some (am_i x3), some (am_i (h.1 129 (am_w32 ((am_w32 (150 * (h.1 110 3))) + x1)).toNat)), some (am_i 0)] [] ((am_up h.1 160 x1.toNat (am_w32 ((h.1 160 x1.toNat) + 1))), h.2) (ak_qv Q X))
    ∧ (h.1 158 x1.toNat = 3 →
      (0 ≤ x1 ∧ x1 < (150 : Int)) ∧ (0 ≤ x1 ∧ x1 < (150 : Int)) ∧ ak_W0 e 1 d 260 ρ 66 [some (am_r 110), some (am_i x1), some (am_i x2), some (am_i x3), some (am_i (h.1 129 (am_w32 ((am_w32 (150 * (h.1 110 3))) + x1)).toNat)), some (am_i 0)] [] ((am_up (am_up h.1 160 x1.toNat (am_w32 ((h.1 160 x1.toNat) + 1))) 163 x1.toNat (am_w32 ((h.1 163 x1.toNat) + 1))), h.2) (ak_qv Q X)))
  ∧ (h.1 110 71 = 0 →
    ak_MV e 1 d ρ 251 [am_r 110, am_i x2, am_i (h.1 129 (am_w32 ((am_w32 (150 * (h.1 110 3))) + x1)).toNat), am_i x3] h (fun h1 =>
      Q h1) (fun _ _ => False))) :
  ak_W0 e 1 d 260 ρ 0 [some (am_r 110), some (am_i x1), some (am_i x2), some (am_i x3), none, none] [] h (ak_qv Q X) := ak_k_ok am_cc260 400 [(66, [true, true, true, true, true, true]), (105, [true, true, true, true, true, true]), (150, [true, true, true, true, true, false])] w
set_option maxRecDepth 100000 in
theorem am_k260_66 {e : ak_X3} {d : Nat} {ρ : List Nat} {h : ak_S} {Q : ak_S → Prop} {X : Nat → ak_S → Prop} {x1 x2 x3 x4 x5 : Int} (w :
  (h.1 110 78 ≤ x5 →
    ak_W0 e 1 d 260 ρ 150 [some (am_r 110), some (am_i x1), some (am_i x2), some (am_i x3), some (am_i x4), none] [] h (ak_qv Q X))
  ∧ (x5 < h.1 110 78 →
    ak_MI e 1 d ρ 261 [am_r 110, am_i (am_w32 (600 + x5)), am_i x2, am_i x4, am_i x3] h (fun v2 h1 =>
      (v2 = 0 →
        ak_W0 e 1 d 260 ρ 66 [some (am_r 110), some (am_i x1), some (am_i x2), some (am_i x3), some (am_i x4), some (am_i (am_w32 (x5 + 1)))] [] h1 (ak_qv Q X))
      ∧ (v2 ≠ 0 →
        Q h1)) (fun _ _ => False))) :
  ak_W0 e 1 d 260 ρ 66 [some (am_r 110), some (am_i x1), some (am_i x2), some (am_i x3), some (am_i x4), some (am_i x5)] [] h (ak_qv Q X) := ak_k_ok am_cc260 400 [(66, [true, true, true, true, true, true]), (105, [true, true, true, true, true, true]), (150, [true, true, true, true, true, false])] w
set_option maxRecDepth 100000 in
theorem am_k260_105 {e : ak_X3} {d : Nat} {ρ : List Nat} {h : ak_S} {Q : ak_S → Prop} {X : Nat → ak_S → Prop} {x1 x2 x3 x4 x5 : Int} (w :
  (0 ≤ x1 ∧ x1 < (150 : Int)) ∧ (h.1 159 x1.toNat ≤ x5 →
    ak_W0 e 1 d 260 ρ 150 [some (am_r 110), some (am_i x1), some (am_i x2), some (am_i x3), some (am_i x4), none] [] h (ak_qv Q X))
  ∧ (x5 < h.1 159 x1.toNat →
    (0 ≤ x1 ∧ x1 < (150 : Int)) ∧ (0 ≤ x1 ∧ x1 < (150 : Int)) ∧ ak_MI e 1 d ρ 261 [am_r 110, am_i (am_w32 ((am_w32 (4 * x1)) + x5)), am_i x2, am_i x4, am_i x3] ((am_up h.1 163 x1.toNat (am_w32 ((h.1 163 x1.toNat) + 1))), h.2) (fun v2 h1 =>
      (v2 = 0 →
        ak_W0 e 1 d 260 ρ 105 [some (am_r 110), some (am_i x1), some (am_i x2), some (am_i x3), some (am_i x4), some (am_i (am_w32 (x5 + 1)))] [] h1 (ak_qv Q X))
      ∧ (v2 ≠ 0 →
        Q h1)) (fun _ _ => False))) :
  ak_W0 e 1 d 260 ρ 105 [some (am_r 110), some (am_i x1), some (am_i x2), some (am_i x3), some (am_i x4), some (am_i x5)] [] h (ak_qv Q X) := ak_k_ok am_cc260 400 [(66, [true, true, true, true, true, true]), (105, [true, true, true, true, true, true]), (150, [true, true, true, true, true, false])] w
set_option maxRecDepth 100000 in
theorem am_k260_150 {e : ak_X3} {d : Nat} {ρ : List Nat} {h : ak_S} {Q : ak_S → Prop} {X : Nat → ak_S → Prop} {x1 x2 x3 x4 : Int} (w :
  (0 ≤ x1 ∧ x1 < (150 : Int)) ∧ (0 ≤ x1 ∧ x1 < (150 : Int)) ∧ ak_MV e 1 d ρ 251 [am_r 110, am_i x2, am_i x4, am_i x3] ((am_up h.1 161 x1.toNat (am_w32 ((h.1 161 x1.toNat) + 1))), h.2) (fun h1 =>
    ak_MV e 1 d ρ 262 [am_r 110, am_i x1, am_i x2, am_i x4, am_i x3] h1 (fun h2 =>
      Q h2) (fun _ _ => False)) (fun _ _ => False)) :
  ak_W0 e 1 d 260 ρ 150 [some (am_r 110), some (am_i x1), some (am_i x2), some (am_i x3), some (am_i x4), none] [] h (ak_qv Q X) := ak_k_ok am_cc260 400 [(66, [true, true, true, true, true, true]), (105, [true, true, true, true, true, true]), (150, [true, true, true, true, true, false])] w
theorem am_cc261 : am_co am_P 261 = am_lk am_rw261 ∧ am_hl am_P 261 = [] ∧ am_rtag (am_re am_P 261) = 2 := ⟨rfl, rfl, rfl⟩
set_option maxRecDepth 100000 in
theorem am_k261_0 {e : ak_X3} {d : Nat} {ρ : List Nat} {h : ak_S} {Q : Int → ak_S → Prop} {X : Nat → ak_S → Prop} {x1 x2 x3 x4 : Int} (w :
  ak_MI e 1 d ρ 258 [am_r 110, am_i x1, am_i x2, am_i x3, am_i x4] h (fun v2 h1 =>
    (v2 ≠ 0 →
      (0 ≤ x1 ∧ x1 < (728 : Int)) ∧ (0 ≤ x1 ∧ x1 < (728 : Int)) ∧ ((1 : Int) = 0 ∨ (1 : Int) = 1) ∧ Q 1 ((am_up (am_up h1.1 110 69 (h1.1 167 x1.toNat)) 110 70 (h1.1 168 x1.toNat)), h1.2))
    ∧ (v2 = 0 →
      ((0 : Int) = 0 ∨ (0 : Int) = 1) ∧ Q 0 h1)) (fun _ _ => False)) :
  ak_W0 e 1 d 261 ρ 0 [some (am_r 110), some (am_i x1), some (am_i x2), some (am_i x3), some (am_i x4)] [] h (ak_qi Q X) := ak_k_ok am_cc261 400 [] w
theorem am_cc262 : am_co am_P 262 = am_lk am_rw262 ∧ am_hl am_P 262 = [] ∧ am_rtag (am_re am_P 262) = 0 := ⟨rfl, rfl, rfl⟩
set_option maxRecDepth 100000 in
theorem am_k262_0 {e : ak_X3} {d : Nat} {ρ : List Nat} {h : ak_S} {Q : ak_S → Prop} {X : Nat → ak_S → Prop} {x1 x2 x3 x4 : Int} (w :
  (h.1 110 71 ≠ 1 →
    (0 ≤ x1 ∧ x1 < (150 : Int)) ∧ (h.1 158 x1.toNat = 3 →
      ak_W0 e 1 d 262 ρ 64 [some (am_r 110), some (am_i x1), some (am_i x2), some (am_i x3), some (am_i x4)] [] h (ak_qv Q X))
    ∧ (h.1 158 x1.toNat ≠ 3 →
      (0 ≤ x1 ∧ x1 < (150 : Int)) ∧ (h.1 158 x1.toNat ≠ 2 →
        ak_W0 e 1 d 262 ρ 87 [some (am_r 110), some (am_i x1), some (am_i x2), some (am_i x3), some (am_i x4)] [] h (ak_qv Q X))
      ∧ (h.1 158 x1.toNat = 2 →
        (0 ≤ x1 ∧ x1 < (150 : Int)) ∧ (h.1 159 x1.toNat ≠ 4 →
          ak_W0 e 1 d 262 ρ 87 [some (am_r 110), some (am_i x1), some (am_i x2), some (am_i x3), some (am_i x4)] [] h (ak_qv Q X))
        ∧ (h.1 159 x1.toNat = 4 →
          ak_W0 e 1 d 262 ρ 64 [some (am_r 110), some (am_i x1), some (am_i x2), some (am_i x3), some (am_i x4)] [] h (ak_qv Q X)))))
  ∧ (h.1 110 71 = 1 →
    (0 ≤ x1 ∧ x1 < (150 : Int)) ∧ ak_MV e 1 d ρ 257 [am_r 110, am_i (am_w32 (4 * x1)), am_i x2, am_i x3, am_i x4] ((am_up h.1 158 x1.toNat 1), h.2) (fun h1 =>
      (0 ≤ x1 ∧ x1 < (150 : Int)) ∧ Q ((am_up h1.1 159 x1.toNat 1), h1.2)) (fun _ _ => False))) :
  ak_W0 e 1 d 262 ρ 0 [some (am_r 110), some (am_i x1), some (am_i x2), some (am_i x3), some (am_i x4)] [] h (ak_qv Q X) := ak_k_ok am_cc262 400 [(64, [true, true, true, true, true]), (87, [true, true, true, true, true]), (133, [true, true, true, true, true])] w
set_option maxRecDepth 100000 in
theorem am_k262_64 {e : ak_X3} {d : Nat} {ρ : List Nat} {h : ak_S} {Q : ak_S → Prop} {X : Nat → ak_S → Prop} {x1 x2 x3 x4 : Int} (w :
  (0 ≤ x1 ∧ x1 < (150 : Int)) ∧ (0 ≤ x1 ∧ x1 < (150 : Int)) ∧ ak_MV e 1 d ρ 259 [am_r 110, am_i x2, am_i x3, am_i x4] ((am_up (am_up h.1 158 x1.toNat 3) 159 x1.toNat 0), h.2) (fun h1 =>
    Q h1) (fun _ _ => False)) :
  ak_W0 e 1 d 262 ρ 64 [some (am_r 110), some (am_i x1), some (am_i x2), some (am_i x3), some (am_i x4)] [] h (ak_qv Q X) := ak_k_ok am_cc262 400 [(64, [true, true, true, true, true]), (87, [true, true, true, true, true]), (133, [true, true, true, true, true])] w
set_option maxRecDepth 100000 in
theorem am_k262_87 {e : ak_X3} {d : Nat} {ρ : List Nat} {h : ak_S} {Q : ak_S → Prop} {X : Nat → ak_S → Prop} {x1 x2 x3 x4 : Int} (w :
  (0 ≤ x1 ∧ x1 < (150 : Int)) ∧ (h.1 158 x1.toNat ≠ 1 →
    (0 ≤ x1 ∧ x1 < (150 : Int)) ∧ (h.1 158 x1.toNat ≠ 0 →
      ak_W0 e 1 d 262 ρ 133 [some (am_r 110), some (am_i x1), some (am_i x2), some (am_i x3), some (am_i x4)] [] h (ak_qv Q X))
    ∧ (h.1 158 x1.toNat = 0 →
      (0 ≤ x1 ∧ x1 < (150 : Int)) ∧ ak_W0 e 1 d 262 ρ 133 [some (am_r 110), some (am_i x1), some (am_i x2), some (am_i x3), some (am_i x4)] [] ((am_up h.1 158 x1.toNat 1), h.2) (ak_qv Q X)))
  ∧ (h.1 158 x1.toNat = 1 →
    (0 ≤ x1 ∧ x1 < (150 : Int)) ∧ (h.1 159 x1.toNat ≠ 1 →
      (0 ≤ x1 ∧ x1 < (150 : Int)) ∧ (h.1 158 x1.toNat ≠ 0 →
        ak_W0 e 1 d 262 ρ 133 [some (am_r 110), some (am_i x1), some (am_i x2), some (am_i x3), some (am_i x4)] [] h (ak_qv Q X))
      ∧ (h.1 158 x1.toNat = 0 →
        (0 ≤ x1 ∧ x1 < (150 : Int)) ∧ ak_W0 e 1 d 262 ρ 133 [some (am_r 110), some (am_i x1), some (am_i x2), some (am_i x3), some (am_i x4)] [] ((am_up h.1 158 x1.toNat 1), h.2) (ak_qv Q X)))
    ∧ (h.1 159 x1.toNat = 1 →
      (0 ≤ x1 ∧ x1 < (150 : Int)) ∧ ak_W0 e 1 d 262 ρ 133 [some (am_r 110), some (am_i x1), some (am_i x2), some (am_i x3), some (am_i x4)] [] ((am_up h.1 158 x1.toNat 2), h.2) (ak_qv Q X)))) :
  ak_W0 e 1 d 262 ρ 87 [some (am_r 110), some (am_i x1), some (am_i x2), some (am_i x3), some (am_i x4)] [] h (ak_qv Q X) := ak_k_ok am_cc262 400 [(64, [true, true, true, true, true]), (87, [true, true, true, true, true]), (133, [true, true, true, true, true])] w
set_option maxRecDepth 100000 in
theorem am_k262_133 {e : ak_X3} {d : Nat} {ρ : List Nat} {h : ak_S} {Q : ak_S → Prop} {X : Nat → ak_S → Prop} {x1 x2 x3 x4 : Int} (w :
  (0 ≤ x1 ∧ x1 < (150 : Int)) ∧ ak_MV e 1 d ρ 257 [am_r 110, am_i (am_w32 ((am_w32 (4 * x1)) + (h.1 159 x1.toNat))), am_i x2, am_i x3, am_i x4] h (fun h1 =>
    (0 ≤ x1 ∧ x1 < (150 : Int)) ∧ (0 ≤ x1 ∧ x1 < (150 : Int)) ∧ Q ((am_up h1.1 159 x1.toNat (am_w32 ((h1.1 159 x1.toNat) + 1))), h1.2)) (fun _ _ => False)) :
  ak_W0 e 1 d 262 ρ 133 [some (am_r 110), some (am_i x1), some (am_i x2), some (am_i x3), some (am_i x4)] [] h (ak_qv Q X) := ak_k_ok am_cc262 400 [(64, [true, true, true, true, true]), (87, [true, true, true, true, true]), (133, [true, true, true, true, true])] w
